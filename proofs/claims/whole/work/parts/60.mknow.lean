section MKN
variable {E : EV} {h : HP} {n mo N K M cc : Nat} {v : Nat → Int32} {f : Nat → Nat → Int32} {φ : Nat → PhiT}
def tS (N K M st : Nat) : Nat → Nat := fun j => sT N (ofS N K M st (j / 4)) (j % 4)
set_option maxRecDepth 10000 in
theorem tS_Th (h4 : N ≤ 4) (st : Nat) : ThS N K M st (tS N K M st) := by
  intro kd w _ hw
  unfold tS
  rw [show (4 * kd + w) / 4 = kd by omega, show (4 * kd + w) % 4 = w by omega]
/-- clue c holds in state st -/
def Hs (N K M : Nat) (φ : Nat → PhiT) (st c : Nat) : Bool := vlS (φ c) (tS N K M st) M st
/-- the clues that the reference has -/
def MCl (f : Nat → Nat → Int32) (N K M cc : Nat) (φ : Nat → PhiT) : Prop := ∀ c, c < cc → ∃ b e D, f 2 c = nI b ∧ f 2 (c + 1) = nI e ∧ e ≤ 600 ∧ e - b ≤ 30 ∧ PX N K M (f 3) (f 4) (f 5) D b e (φ c)
/-- what it knows -/
def KnF (v : Nat → Int32) (f : Nat → Nat → Int32) (N K M cc : Nat) (φ : Nat → PhiT) : Prop := v 20 = nI (cT N) ∧ MV f N ∧ MS f N ∧ ∀ st, st < stN N K M → ∀ p, p < 32 → tb (f 12 st) p = (decide (p < cc) && Hs N K M φ st p)
def KnQ (E : EV) (h : HP) (n mo : Nat) (v : Nat → Int32) (f : Nat → Nat → Int32) (N K M cc : Nat) (φ : Nat → PhiT) : Option Value → HP → Nat → Prop := fun r h' n' => r = none ∧ n' = n ∧ ∃ v' f', h' = hM E h mo v' f' ∧ KnF v' f' N K M cc φ ∧ v' 23 = 1 ∧ (∀ j, j ≠ 20 → j ≠ 23 → v' j = v j) ∧ ∀ j, j < 10 ∨ 13 < j → f' j = f j
set_option maxRecDepth 10000 in
theorem MCl.rows {F : Nat → Nat → Int32} (hF : ∀ j, j < 10 ∨ 13 < j → F j = f j) (C : MCl f N K M cc φ) : MCl F N K M cc φ := by
  intro c hc
  rw [hF 2 (by omega), hF 3 (by omega), hF 4 (by omega), hF 5 (by omega)]
  exact C c hc
set_option maxRecDepth 10000 in
theorem c_Md_know (hb : E.2.2.2.1 ≤ mo) (P : MP v N K M cc) (C : MCl f N K M cc φ) (hk : v 23 = 0 ∨ (v 23 = 1 ∧ KnF v f N K M cc φ)) : Ct E m_Md_know 3 0 0 [.ref mo] (hM E h mo v f) n (KnQ E h n mo v f N K M cc φ) := by
  refine Ct.go rfl rfl rfl ?_
  refine j_aload_n d_Md_know_0 rfl ?_
  refine m_get d_Md_know_1 fl_Md_82 rfl ?_
  rcases hk with hk | ⟨hk, hkn⟩
  rotate_left
  · rw [hk]
    refine j_if_eq (tgt := 8) d_Md_know_4 (by decide) (fun q => absurd q (by decide)) (fun _ => ?_)
    exact j_vret d_Md_know_7 rfl ⟨rfl, rfl, v, f, rfl, hkn, hk, fun _ _ _ => rfl, fun _ _ => rfl⟩
  rw [hk]
  refine j_if_eq (tgt := 8) d_Md_know_4 (by decide) (fun _ => ?_) (fun q => absurd (by decide) q)
  refine j_aload_n d_Md_know_8 rfl ?_
  refine j_iconst (v := 1) d_Md_know_9 (by decide) ?_
  refine m_put d_Md_know_10 fl_Md_82 rfl rfl hb rfl rfl ?_
  refine j_aload_n d_Md_know_13 rfl ?_
  refine m_callV (As := []) d_Md_know_14 cb_Md_160 vv_Md_order rfl rfl rfl (Nat.le_of_ble_eq_true rfl) (d' := 0) (by decide) (c_Md_order hb (P.up (k := 23) (by decide))) (fun w h' n' q _ => ?_)
  obtain ⟨rfl, rfl, F, rfl, hF, hV, hS⟩ := q
  have P2 : MP (upd (upd v 23 1) 20 (nI (cT N))) N K M cc := (P.up (k := 23) (by decide)).up (by decide)
  generalize hu : upd (upd v 23 1) 20 (nI (cT N)) = u at P2 ⊢
  have u20 : u 20 = nI (cT N) := by rw [← hu]; rfl
  have u23 : u 23 = 1 := by rw [← hu]; rfl
  have uo : ∀ j, j ≠ 20 → j ≠ 23 → u j = v j := fun j h1 h2 => by rw [← hu, upd_nn _ _ h1, upd_nn _ _ h2]
  have hF0 : ∀ j, j < 10 ∨ 13 < j → F j = f j := fun j hj => hF j (by omega) (by omega)
  have hsz := stN_le (N := N) P.2.2.2.2.2.1 P.2.2.2.2.2.2.1
  have h5 := P.2.2.2.2.1
  have h8 := P.2.2.2.2.2.2.2
  clear hk
  have outer : ∀ (k i : Nat) (F : Nat → Nat → Int32), i + k = stN N K M → (∀ j, j < 10 ∨ 13 < j → F j = f j) → MV F N → MS F N → (∀ st, st < i → ∀ p, p < 32 → tb (F 12 st) p = (decide (p < cc) && Hs N K M φ st p)) → ∀ L, L.take 2 = [(0, .ref mo), (1, .int (nI i))] → J E m_Md_know 3 0 0 19 L [] (hM E h mo u F) n' (KnQ E h n' mo v f N K M cc φ) := by
    intro k
    induction k with
    | zero =>
      intro i F hi hF hV hS hH L hL
      have hi : i = stN N K M := by omega
      refine J.tk 2 ?_
      rw [hL]
      refine j_iload_n d_Md_know_19 rfl ?_
      refine j_aload_n d_Md_know_20 rfl ?_
      refine m_pV (As := []) d_Md_know_21 cb_Md_163 vv_Md_states rfl rfl rfl (Nat.le_of_ble_eq_true rfl) (d' := 0) (by decide) (c_Md_states P2 u20) ?_
      refine j_icmp_ge (tgt := 85) d_Md_know_24 (by decide) (fun _ => ?_) (fun q => absurd (nI_le (by omega) (by omega)) q)
      rw [hi] at hH
      exact j_vret d_Md_know_85 rfl ⟨rfl, rfl, u, F, rfl, ⟨u20, hV, hS, hH⟩, u23, uo, hF⟩
    | succ k ih =>
      intro i F hi hF hV hS hH L hL
      refine J.tk 2 ?_
      rw [hL]
      refine j_iload_n d_Md_know_19 rfl ?_
      refine j_aload_n d_Md_know_20 rfl ?_
      refine m_pV (As := []) d_Md_know_21 cb_Md_163 vv_Md_states rfl rfl rfl (Nat.le_of_ble_eq_true rfl) (d' := 0) (by decide) (c_Md_states P2 u20) ?_
      refine j_icmp_ge (tgt := 85) d_Md_know_24 (by decide) (fun q => absurd q (nI_ge (by omega) (by omega))) (fun _ => ?_)
      refine j_aload_n d_Md_know_27 rfl ?_
      refine m_get d_Md_know_28 fl_Md_48 rfl ?_
      refine j_iload_n d_Md_know_31 rfl ?_
      refine j_iconst (v := 0) d_Md_know_32 (by decide) ?_
      refine m_ast (k := 12) (N := 110592) d_Md_know_33 (by decide) rfl hb (by omega) (by decide) ?_
      refine j_iconst (v := 0) d_Md_know_34 (by decide) ?_
      refine j_istore_n d_Md_know_35 (by decide) ?_
      have inner : ∀ (k2 c : Nat) (F : Nat → Nat → Int32), c + k2 = cc → (∀ j, j < 10 ∨ 13 < j → F j = f j) → MV F N → MS F N → (∀ st, st < i → ∀ p, p < 32 → tb (F 12 st) p = (decide (p < cc) && Hs N K M φ st p)) → (∀ p, p < 32 → tb (F 12 i) p = (decide (p < c) && Hs N K M φ i p)) → J E m_Md_know 3 0 0 36 [(0, .ref mo), (1, .int (nI i)), (2, .int (nI c))] [] (hM E h mo u F) n' (KnQ E h n' mo v f N K M cc φ) := by
        intro k2
        induction k2 with
        | zero =>
          intro c F hc hF hV hS hH hI
          have hc : c = cc := by omega
          subst hc
          refine j_iload_n d_Md_know_36 rfl ?_
          refine j_aload_n d_Md_know_37 rfl ?_
          refine m_get d_Md_know_38 fl_Md_144 rfl ?_
          rw [P2.2.2.2.1]
          refine j_icmp_ge (tgt := 79) d_Md_know_41 (by decide) (fun _ => ?_) (fun q => absurd (nI_le (Nat.le_refl _) (by omega)) q)
          refine j_iinc (v := nI (i + 1)) d_Md_know_79 rfl (nI_succ i).symm (by decide) ?_
          refine j_goto (tgt := 19) d_Md_know_82 (by decide) ?_
          refine ih (i + 1) F (by omega) hF hV hS (fun st hst => ?_) _ rfl
          by_cases e : st = i
          · subst e; exact hI
          · exact hH st (by omega)
        | succ k2 ih2 =>
          intro c F hc hF hV hS hH hI
          obtain ⟨b, e, D, q1, q2, q3, q4, q5⟩ := (C.rows hF) c (by omega)
          refine j_iload_n d_Md_know_36 rfl ?_
          refine j_aload_n d_Md_know_37 rfl ?_
          refine m_get d_Md_know_38 fl_Md_144 rfl ?_
          rw [P2.2.2.2.1]
          refine j_icmp_ge (tgt := 79) d_Md_know_41 (by decide) (fun q => absurd q (nI_ge (by omega) (by omega))) (fun _ => ?_)
          refine j_aload_n d_Md_know_44 rfl ?_
          refine m_get d_Md_know_45 fl_Md_48 rfl ?_
          refine j_iload_n d_Md_know_48 rfl ?_
          refine j_aload_n d_Md_know_49 rfl ?_
          refine m_get d_Md_know_50 fl_Md_48 rfl ?_
          refine j_iload_n d_Md_know_53 rfl ?_
          refine m_ald (k := 12) (N := 110592) d_Md_know_54 (by decide) rfl (by omega) (by decide) ?_
          refine j_aload_n d_Md_know_55 rfl ?_
          refine j_iload_n d_Md_know_56 rfl ?_
          refine j_iload_n d_Md_know_57 rfl ?_
          refine m_callV (As := [.int (nI i), .int (nI c)]) d_Md_know_58 cb_Md_166 vv_Md_isSo rfl rfl rfl (Nat.le_of_ble_eq_true rfl) (d' := 2) (by decide) (c_Md_isSo (th := tS N K M i) ⟨P2, u20, hS, by omega, tS_Th h5.2 i, q1, by omega, hb⟩ q2 q3 q4 q5) (fun w h' n'' q _ => ?_)
          obtain ⟨rfl, rfl, g, rfl⟩ := q
          have fin : ∀ x : Int32, (∀ p, p < 32 → tb x p = (decide (p = c) && Hs N K M φ i p)) → J E m_Md_know 3 0 0 71 [(0, .ref mo), (1, .int (nI i)), (2, .int (nI c))] [.int x, .int (F 12 i), .int (nI i), .ref (mo + 12)] (hM E h mo u (upG F 13 g)) n'' (KnQ E h n'' mo v f N K M cc φ) := by
            intro x hx
            refine j_ior d_Md_know_71 ?_
            refine m_ast (k := 12) (N := 110592) d_Md_know_72 (by decide) rfl hb (by omega) (by decide) ?_
            refine j_iinc (v := nI (c + 1)) d_Md_know_73 rfl (nI_succ c).symm (by decide) ?_
            refine j_goto (tgt := 36) d_Md_know_76 (by decide) ?_
            refine ih2 (c + 1) _ (by omega) (fun j hj => ?_) (fun o t ho ht => ?_) (fun o t ho ht => ?_) (fun st hst p hp => ?_) (fun p hp => ?_)
            · rw [upG_n _ _ (by omega), upG_n _ _ (by omega)]; exact hF j hj
            · exact hV o t ho ht
            · exact hS o t ho ht
            · show tb (upd (F 12) i _ st) p = _
              rw [upd_nn _ _ (by omega)]; exact hH st hst p hp
            · show tb (upd (F 12) i (F 12 i ||| x) i) p = _
              rw [upd_ss, tb_or, hI p hp, hx p hp, ← Bool.and_or_distrib_right, ← Bool.decide_or]
              congr 1
              exact decide_eq_decide.mpr (by omega)
          refine j_if_eq (tgt := 70) d_Md_know_61 (by decide) (fun q => ?_) (fun q => ?_)
          · refine j_iconst (v := 0) d_Md_know_70 (by decide) ?_
            refine fin 0 (fun p hp => ?_)
            rw [tb_0]
            have := bI_eq q
            by_cases e : p = c
            · subst e
              have e2 : Hs N K M φ i p = false := by unfold Hs; exact Bool.eq_false_iff.mpr this
              rw [e2, Bool.and_false]
            · rw [decide_eq_false e, Bool.false_and]
          · refine j_iconst (v := 1) d_Md_know_64 (by decide) ?_
            refine j_iload_n d_Md_know_65 rfl ?_
            refine j_ishl d_Md_know_66 ?_
            refine j_goto (tgt := 71) d_Md_know_67 (by decide) ?_
            refine fin _ (fun p hp => ?_)
            rw [tb_shl (by omega) hp]
            by_cases e : p = c
            · subst e
              have e2 : Hs N K M φ i p = true := bI_ne q
              rw [e2, Bool.and_true]
            · rw [decide_eq_false e, Bool.false_and]
      refine inner cc 0 _ (by omega) (fun j hj => ?_) (fun o t ho ht => ?_) (fun o t ho ht => ?_) (fun st hst p hp => ?_) (fun p hp => ?_)
      · rw [upG_n _ _ (by omega)]; exact hF j hj
      · exact hV o t ho ht
      · exact hS o t ho ht
      · show tb (upd (F 12) i _ st) p = _
        rw [upd_nn _ _ (by omega)]; exact hH st hst p hp
      · show tb (upd (F 12) i 0 i) p = _
        rw [upd_ss, tb_0, decide_eq_false (by omega), Bool.false_and]
  refine j_iconst (v := 0) d_Md_know_17 (by decide) ?_
  refine j_istore_n d_Md_know_18 (by decide) ?_
  exact outer (stN N K M) 0 F (by omega) hF0 hV hS (fun st hst => absurd hst (by omega)) _ rfl
end MKN

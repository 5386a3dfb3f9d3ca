section MSO
variable {E : EV} {h : HP} {n mo N K M cc : Nat} {v : Nat → Int32} {f : Nat → Nat → Int32}
def isRl (b : Nat) : Prop := b = 61 ∨ b = 33 ∨ b = 60 ∨ b = 43
/-- the signs from b to e are a clue, and it is φ -/
def PX (N K M : Nat) (sg on tw : Nat → Int32) : Nat → Nat → Nat → PhiT → Prop
  | 0, _, _, _ => False
  | D + 1, b, e, φ =>
    (∃ bb a1 w1 a2 w2, e = b + 1 ∧ isRl bb ∧ sg b = sgO (nI bb) ∧ on b = nI (4 * a1 + w1) ∧ tw b = nI (4 * a2 + w2) ∧ a1 < K ∧ w1 < N ∧ a2 < K ∧ w2 < N ∧ φ = fun th => relM (nI bb) (th (4 * a1 + w1)) (th (4 * a2 + w2))) ∨
    (∃ p, e = b + 1 ∧ sg b = 4 ∧ on b = nI p ∧ p < M ∧ φ = fun _ => truthF p) ∨
    (∃ p ψ, sg b = 5 ∧ on b = nI p ∧ p < M ∧ PX N K M sg on tw D (b + 1) e ψ ∧ φ = fun th => (truthF p ^^^ (-1)) ^^^ ψ th) ∨
    (∃ ψ, sg b = 6 ∧ PX N K M sg on tw D (b + 1) e ψ ∧ φ = fun th => (-1) ^^^ ψ th) ∨
    (∃ (b1 : Int32) (mid : Nat) (ψ χ : PhiT), (b1 = 0 ∨ b1 = 1) ∧ sg b = 8 - b1 ∧ PX N K M sg on tw D (b + 1) mid ψ ∧ PX N K M sg on tw D mid e χ ∧ φ = fun th => if b1 = 0 then ψ th ||| χ th else ψ th &&& χ th)
set_option maxRecDepth 10000 in
theorem PX_lt {sg on tw : Nat → Int32} : ∀ {D b e : Nat} {φ : PhiT}, PX N K M sg on tw D b e φ → b < e
  | 0, _, _, _, q => absurd q (by simp [PX])
  | D + 1, b, e, φ, q => by
    unfold PX at q
    rcases q with ⟨_, _, _, _, _, q, _⟩ | ⟨_, q, _⟩ | ⟨_, _, _, _, _, q, _⟩ | ⟨_, _, q, _⟩ | ⟨_, mid, _, _, _, _, q, q2, _⟩
    · omega
    · omega
    · have := PX_lt q; omega
    · have := PX_lt q; omega
    · have := PX_lt q; have := PX_lt q2; omega
set_option maxRecDepth 10000 in
/-- it looks at the seats of the values alone -/
theorem PX_th {sg on tw : Nat → Int32} {th th' : Nat → Int32} (hth : ∀ kd w, kd < K → w < N → th (4 * kd + w) = th' (4 * kd + w)) : ∀ {D b e : Nat} {φ : PhiT}, PX N K M sg on tw D b e φ → φ th = φ th'
  | 0, _, _, _, q => absurd q (by simp [PX])
  | D + 1, b, e, φ, q => by
    unfold PX at q
    rcases q with ⟨_, a1, w1, a2, w2, _, _, _, _, _, q1, q2, q3, q4, rfl⟩ | ⟨_, _, _, _, _, rfl⟩ | ⟨_, _, _, _, _, q, rfl⟩ | ⟨_, _, q, rfl⟩ | ⟨_, mid, _, _, _, _, q, q2, rfl⟩
    · show relM _ _ _ = relM _ _ _
      rw [hth _ _ q1 q2, hth _ _ q3 q4]
    · rfl
    · have := PX_th hth q; simp only [this]
    · have := PX_th hth q; simp only [this]
    · have a := PX_th hth q; have b := PX_th hth q2; simp only [a, b]
set_option maxRecDepth 10000 in
theorem PX_row {sg on tw sg' on' tw' : Nat → Int32} {B : Nat} (h1 : ∀ j, B ≤ j → sg' j = sg j ∧ on' j = on j ∧ tw' j = tw j) : ∀ {D b e : Nat} {φ : PhiT}, B ≤ b → PX N K M sg on tw D b e φ → PX N K M sg' on' tw' D b e φ
  | 0, _, _, _, _, q => absurd q (by simp [PX])
  | D + 1, b, e, φ, hb, q => by
    unfold PX at q ⊢
    obtain ⟨e1, e2, e3⟩ := h1 b hb
    rw [e1, e2, e3]
    rcases q with q | q | ⟨p, ψ, q1, q2, q3, q4, q5⟩ | ⟨ψ, q1, q2, q3⟩ | ⟨b1, mid, ψ, χ, q1, q2, q3, q4, q5⟩
    · exact Or.inl q
    · exact Or.inr (Or.inl q)
    · exact Or.inr (Or.inr (Or.inl ⟨p, ψ, q1, q2, q3, PX_row h1 (by omega) q4, q5⟩))
    · exact Or.inr (Or.inr (Or.inr (Or.inl ⟨ψ, q1, PX_row h1 (by omega) q2, q3⟩)))
    · have := PX_lt q3
      exact Or.inr (Or.inr (Or.inr (Or.inr ⟨b1, mid, ψ, χ, q1, q2, PX_row h1 (by omega) q3, PX_row h1 (by omega) q4, q5⟩)))
/-- the party of a state -/
abbrev ptS (M st : Nat) : Nat := st % 2 ^ M * 2 ^ (3 - M)
set_option maxRecDepth 10000 in
theorem ptS_lt {st : Nat} (hM : M ≤ 3) : ptS M st < 8 := by
  have h1 : st % 2 ^ M < 2 ^ M := Nat.mod_lt _ (Nat.two_pow_pos M)
  have h2 : 2 ^ M * 2 ^ (3 - M) = 8 := by rw [← Nat.pow_add, show M + (3 - M) = 3 by omega]
  have h3 : ptS M st < 2 ^ M * 2 ^ (3 - M) := Nat.mul_lt_mul_of_pos_right h1 (Nat.two_pow_pos _)
  omega
set_option maxRecDepth 10000 in
theorem tru_pt {st p : Nat} (hM : M ≤ 3) (hp : p < M) : tb (truthF p) (ptS M st) = st.testBit (M - 1 - p) := by
  have : ∀ M : Fin 4, ∀ q : Fin 8, q.1 < 2 ^ M.1 → ∀ p : Fin 3, p.1 < M.1 → tb (truthF p.1) (q.1 * 2 ^ (3 - M.1)) = q.1.testBit (M.1 - 1 - p.1) := by decide +kernel
  have h1 : st % 2 ^ M < 2 ^ M := Nat.mod_lt _ (Nat.two_pow_pos M)
  have h2 : 2 ^ M ≤ 2 ^ 3 := Nat.pow_le_pow_right (by decide) hM
  have := this ⟨M, by omega⟩ ⟨st % 2 ^ M, by omega⟩ h1 ⟨p, by omega⟩ hp
  rw [show ptS M st = st % 2 ^ M * 2 ^ (3 - M) from rfl, this]
  show (st % 2 ^ M).testBit (M - 1 - p) = _
  rw [Nat.testBit_mod_two_pow, decide_eq_true (show M - 1 - p < M by omega), Bool.true_and]
/-- the row thing of a state's layout -/
def ThS (N K M st : Nat) (th : Nat → Nat) : Prop := ∀ kd w, kd < K → w < N → th (4 * kd + w) = sT N (ofS N K M st kd) w
set_option maxRecDepth 10000 in
theorem tb_rel {b : Nat} {x y : Int32} {p : Nat} (hp : p < 32) : tb (relM (nI b) x y) p = true ↔ relF (nI b) x y := by
  by_cases q : relF (nI b) x y
  · rw [relM_t q, tb_m1 hp]; exact ⟨fun _ => q, fun _ => rfl⟩
  · rw [relM_f q, tb_0]; exact ⟨fun z => absurd z (by decide), fun z => absurd z q⟩
variable {st c bC : Nat} {th : Nat → Nat} {Q : Option Value → HP → Nat → Prop}
/-- what isSo finds -/
def SoF (E : EV) (mo : Nat) (v : Nat → Int32) (f : Nat → Nat → Int32) (N K M cc st c bC : Nat) (th : Nat → Nat) : Prop := MP v N K M cc ∧ v 20 = nI (cT N) ∧ MS f N ∧ st < 2 ^ 31 ∧ ThS N K M st th ∧ f 2 c = nI bC ∧ c < 20 ∧ E.2.2.2.1 ≤ mo
set_option maxRecDepth 10000 in
theorem so_head {b : Nat} {g : Nat → Int32} {nv : Value} (S : SoF E mo v f N K M cc st c bC th) (h1 : bC ≤ b) (h2 : b < 600) (k : J E m_Md_isSo 2 0 0 34 [(0, .ref mo), (1, .int (nI st)), (2, .int (nI c)), (3, nv), (4, .int (nI b)), (5, .int (f 3 b))] [] (hM E h mo v (upG f 13 g)) n Q) : ∀ L, L.take 5 = [(0, .ref mo), (1, .int (nI st)), (2, .int (nI c)), (3, nv), (4, .int (nI (b + 1) - 1))] → J E m_Md_isSo 2 0 0 14 L [] (hM E h mo v (upG f 13 g)) n Q := by
  intro L hL
  obtain ⟨_, _, _, _, _, hbC, hc, _⟩ := S
  refine J.tk 5 ?_
  rw [hL, nI_pred]
  refine j_iload d_Md_isSo_14 rfl ?_
  refine j_aload_n d_Md_isSo_16 rfl ?_
  refine m_get d_Md_isSo_17 fl_Md_17 rfl ?_
  refine j_iload_n d_Md_isSo_20 rfl ?_
  refine m_ald (k := 2) (N := 21) d_Md_isSo_21 (by decide) rfl (by omega) (by decide) ?_
  rw [show upG f 13 g 2 c = nI bC from hbC]
  refine j_icmp_lt (tgt := 355) d_Md_isSo_22 (by decide) (fun q => absurd q (nI_nlt h1 (by omega))) (fun _ => ?_)
  refine j_aload_n d_Md_isSo_25 rfl ?_
  refine m_get d_Md_isSo_26 fl_Md_20 rfl ?_
  refine j_iload d_Md_isSo_29 rfl ?_
  refine m_ald (k := 3) (N := 600) d_Md_isSo_31 (by decide) rfl (by omega) (by decide) ?_
  refine j_istore d_Md_isSo_32 (by decide) ?_
  exact k
set_option maxRecDepth 10000 in
theorem so_tail {b : Nat} {g : Nat → Int32} {nv : Value} {L : List (Nat × Value)} (hL : L.take 5 = [(0, .ref mo), (1, .int (nI st)), (2, .int (nI c)), (3, nv), (4, .int (nI b))]) (k : ∀ L', L'.take 5 = [(0, .ref mo), (1, .int (nI st)), (2, .int (nI c)), (3, nv), (4, .int (nI b - 1))] → J E m_Md_isSo 2 0 0 14 L' [] (hM E h mo v (upG f 13 g)) n Q) : J E m_Md_isSo 2 0 0 349 L [] (hM E h mo v (upG f 13 g)) n Q := by
  refine J.tk 5 ?_
  rw [hL]
  refine j_iinc (v := nI b - 1) d_Md_isSo_349 rfl (dec1 _) (by decide) ?_
  refine j_goto (tgt := 14) d_Md_isSo_352 (by decide) ?_
  exact k _ rfl
set_option maxRecDepth 10000 in
theorem relF_0 {a b : Int32} : relF (nI 61) a b ↔ a = b := Iff.rfl
set_option maxRecDepth 10000 in
theorem relF_1 {a b : Int32} : relF (nI 33) a b ↔ ¬ a = b := Iff.rfl
set_option maxRecDepth 10000 in
theorem relF_2 {a b : Int32} : relF (nI 60) a b ↔ a < b := Iff.rfl
set_option maxRecDepth 10000 in
theorem relF_3 {x y : Nat} (hx : x < 4) (hy : y < 4) : relF (nI 43) (nI x) (nI y) ↔ (nI x = nI y + 1 ∨ nI y = nI x + 1) := by
  have : ∀ x y : Fin 4, (nI x.1 - nI y.1 = 1 ∨ nI y.1 - nI x.1 = 1) ↔ (nI x.1 = nI y.1 + 1 ∨ nI y.1 = nI x.1 + 1) := by decide +kernel
  exact this ⟨x, hx⟩ ⟨y, hy⟩
set_option maxRecDepth 10000 in
theorem so_rel {b bb a1 w1 a2 w2 n0 : Nat} {g : Nat → Int32} (S : SoF E mo v f N K M cc st c bC th) (h1 : bC ≤ b) (h2 : b < 600) (hn : n0 < 32) (r0 : isRl bb) (r1 : f 3 b = sgO (nI bb)) (r2 : f 4 b = nI (4 * a1 + w1)) (r3 : f 5 b = nI (4 * a2 + w2)) (r4 : a1 < K) (r5 : w1 < N) (r6 : a2 < K) (r7 : w2 < N)
    (kk : ∀ L', L'.take 5 = [(0, .ref mo), (1, .int (nI st)), (2, .int (nI c)), (3, .int (nI (n0 + 1))), (4, .int (nI b - 1))] → J E m_Md_isSo 2 0 0 14 L' [] (hM E h mo v (upG f 13 (upd g n0 (bI (tb (relM (nI bb) (nA th (4 * a1 + w1)) (nA th (4 * a2 + w2))) (ptS M st) = true))))) n Q) :
    ∀ L, L.take 5 = [(0, .ref mo), (1, .int (nI st)), (2, .int (nI c)), (3, .int (nI n0)), (4, .int (nI (b + 1) - 1))] → J E m_Md_isSo 2 0 0 14 L [] (hM E h mo v (upG f 13 g)) n Q := by
  refine so_head S h1 h2 ?_
  obtain ⟨P, hC, hS, hs, T, hbC, hc, hb⟩ := S
  have hp5 := P.2.2.2.2.1
  have hM3 := P.2.2.2.2.2.2.1
  have hp32 : ptS M st < 32 := Nat.lt_of_lt_of_le (ptS_lt hM3) (by decide)
  rw [r1]
  have hsg : sgO (nI bb) < 4 := by rcases r0 with rfl | rfl | rfl | rfl <;> decide
  have s1 := vs_T hp5.1 hp5.2 (ofS_lt (N := N) (M := M) (st := st) r4) r5
  have s2 := vs_T hp5.1 hp5.2 (ofS_lt (N := N) (M := M) (st := st) r6) r7
  have e1 : upG f 13 g 11 (4 * ofS N K M st a1 + w1) = nA th (4 * a1 + w1) := (hS _ _ (ofS_lt r4) r5).trans (by show _ = nI _; rw [T _ _ r4 r5])
  have e2 : upG f 13 g 11 (4 * ofS N K M st a2 + w2) = nA th (4 * a2 + w2) := (hS _ _ (ofS_lt r6) r7).trans (by show _ = nI _; rw [T _ _ r6 r7])
  have l1 : th (4 * a1 + w1) < 4 := by rw [T _ _ r4 r5]; omega
  have l2 : th (4 * a2 + w2) < 4 := by rw [T _ _ r6 r7]; omega
  refine j_iload d_Md_isSo_34 rfl ?_
  refine j_iconst (v := 4) d_Md_isSo_36 (by decide) ?_
  refine j_icmp_ge (tgt := 165) d_Md_isSo_37 (by decide) (fun q => absurd hsg (Int32.not_lt.mpr q)) (fun _ => ?_)
  refine j_aload_n d_Md_isSo_40 rfl ?_
  refine j_iload_n d_Md_isSo_41 rfl ?_
  refine j_aload_n d_Md_isSo_42 rfl ?_
  refine m_get d_Md_isSo_43 fl_Md_23 rfl ?_
  refine j_iload d_Md_isSo_46 rfl ?_
  refine m_ald (k := 4) (N := 600) d_Md_isSo_48 (by decide) rfl (by omega) (by decide) ?_
  rw [show upG f 13 g 4 b = nI (4 * a1 + w1) from r2]
  refine m_pV (As := [.int (nI st), .int (nI (4 * a1 + w1))]) d_Md_isSo_49 cb_Md_153 vv_Md_seat rfl rfl rfl (Nat.le_of_ble_eq_true rfl) (by decide) (c_Md_seat P hC r4 (by omega) hs) ?_
  rw [e1]
  refine j_istore d_Md_isSo_52 (by decide) ?_
  refine j_aload_n d_Md_isSo_54 rfl ?_
  refine j_iload_n d_Md_isSo_55 rfl ?_
  refine j_aload_n d_Md_isSo_56 rfl ?_
  refine m_get d_Md_isSo_57 fl_Md_26 rfl ?_
  refine j_iload d_Md_isSo_60 rfl ?_
  refine m_ald (k := 5) (N := 600) d_Md_isSo_62 (by decide) rfl (by omega) (by decide) ?_
  rw [show upG f 13 g 5 b = nI (4 * a2 + w2) from r3]
  refine m_pV (As := [.int (nI st), .int (nI (4 * a2 + w2))]) d_Md_isSo_63 cb_Md_153 vv_Md_seat rfl rfl rfl (Nat.le_of_ble_eq_true rfl) (by decide) (c_Md_seat P hC r6 (by omega) hs) ?_
  rw [e2]
  have fin : ∀ x : Int32, x = bI (tb (relM (nI bb) (nA th (4 * a1 + w1)) (nA th (4 * a2 + w2))) (ptS M st) = true) → J E m_Md_isSo 2 0 0 158 [(0, .ref mo), (1, .int (nI st)), (2, .int (nI c)), (3, .int (nI n0)), (4, .int (nI b)), (5, .int (sgO (nI bb))), (6, .int (nA th (4 * a1 + w1))), (7, .int (nA th (4 * a2 + w2)))] [.int x, .int (nI n0), .ref (mo + 13)] (hM E h mo v (upG f 13 g)) n Q := by
    intro x hx
    subst hx
    refine m_zst (k := 13) (N := 32) d_Md_isSo_158 (by decide) rfl hb (by omega) (by decide) ?_
    rw [upG_upG]
    refine j_iinc (v := nI (n0 + 1)) d_Md_isSo_159 rfl (nI_succ n0).symm (by decide) ?_
    refine j_goto (tgt := 349) d_Md_isSo_162 (by decide) ?_
    exact so_tail rfl kk
  have yes : relF (nI bb) (nA th (4 * a1 + w1)) (nA th (4 * a2 + w2)) → (1 : Int32) = bI (tb (relM (nI bb) (nA th (4 * a1 + w1)) (nA th (4 * a2 + w2))) (ptS M st) = true) := fun q => (bI_t ((tb_rel hp32).mpr q)).symm
  have no : ¬ relF (nI bb) (nA th (4 * a1 + w1)) (nA th (4 * a2 + w2)) → (0 : Int32) = bI (tb (relM (nI bb) (nA th (4 * a1 + w1)) (nA th (4 * a2 + w2))) (ptS M st) = true) := fun q => (bI_f (fun z => q ((tb_rel hp32).mp z))).symm
  refine j_istore d_Md_isSo_66 (by decide) ?_
  refine j_aload_n d_Md_isSo_68 rfl ?_
  refine m_get d_Md_isSo_69 fl_Md_51 rfl ?_
  refine j_iload_n d_Md_isSo_72 rfl ?_
  refine j_iload d_Md_isSo_73 rfl ?_
  rcases r0 with rfl | rfl | rfl | rfl
  · refine j_if_ne (tgt := 93) d_Md_isSo_75 (by decide) (fun q => absurd (by decide) q) (fun _ => ?_)
    refine j_iload d_Md_isSo_78 rfl ?_
    refine j_iload d_Md_isSo_80 rfl ?_
    refine j_icmp_ne (tgt := 89) d_Md_isSo_82 (by decide) (fun q => ?_) (fun q => ?_)
    · refine j_iconst (v := 0) d_Md_isSo_89 (by decide) ?_
      refine j_goto (tgt := 158) d_Md_isSo_90 (by decide) ?_
      exact fin _ (no q)
    · refine j_iconst (v := 1) d_Md_isSo_85 (by decide) ?_
      refine j_goto (tgt := 158) d_Md_isSo_86 (by decide) ?_
      exact fin _ (yes q)
  · refine j_if_ne (tgt := 93) d_Md_isSo_75 (by decide) (fun _ => ?_) (fun q => absurd q (by decide))
    refine j_iload d_Md_isSo_93 rfl ?_
    refine j_iconst (v := 1) d_Md_isSo_95 (by decide) ?_
    refine j_icmp_ne (tgt := 114) d_Md_isSo_96 (by decide) (fun q => absurd (by decide) q) (fun _ => ?_)
    refine j_iload d_Md_isSo_99 rfl ?_
    refine j_iload d_Md_isSo_101 rfl ?_
    refine j_icmp_eq (tgt := 110) d_Md_isSo_103 (by decide) (fun q => ?_) (fun q => ?_)
    · refine j_iconst (v := 0) d_Md_isSo_110 (by decide) ?_
      refine j_goto (tgt := 158) d_Md_isSo_111 (by decide) ?_
      exact fin _ (no (fun z => relF_1.mp z q))
    · refine j_iconst (v := 1) d_Md_isSo_106 (by decide) ?_
      refine j_goto (tgt := 158) d_Md_isSo_107 (by decide) ?_
      exact fin _ (yes q)
  · refine j_if_ne (tgt := 93) d_Md_isSo_75 (by decide) (fun _ => ?_) (fun q => absurd q (by decide))
    refine j_iload d_Md_isSo_93 rfl ?_
    refine j_iconst (v := 1) d_Md_isSo_95 (by decide) ?_
    refine j_icmp_ne (tgt := 114) d_Md_isSo_96 (by decide) (fun _ => ?_) (fun q => absurd q (by decide))
    refine j_iload d_Md_isSo_114 rfl ?_
    refine j_iconst (v := 2) d_Md_isSo_116 (by decide) ?_
    refine j_icmp_ne (tgt := 135) d_Md_isSo_117 (by decide) (fun q => absurd (by decide) q) (fun _ => ?_)
    refine j_iload d_Md_isSo_120 rfl ?_
    refine j_iload d_Md_isSo_122 rfl ?_
    refine j_icmp_ge (tgt := 131) d_Md_isSo_124 (by decide) (fun q => ?_) (fun q => ?_)
    · refine j_iconst (v := 0) d_Md_isSo_131 (by decide) ?_
      refine j_goto (tgt := 158) d_Md_isSo_132 (by decide) ?_
      exact fin _ (no (fun z => absurd (relF_2.mp z) (Int32.not_lt.mpr q)))
    · refine j_iconst (v := 1) d_Md_isSo_127 (by decide) ?_
      refine j_goto (tgt := 158) d_Md_isSo_128 (by decide) ?_
      exact fin _ (yes (Int32.not_le.mp q))
  · refine j_if_ne (tgt := 93) d_Md_isSo_75 (by decide) (fun _ => ?_) (fun q => absurd q (by decide))
    refine j_iload d_Md_isSo_93 rfl ?_
    refine j_iconst (v := 1) d_Md_isSo_95 (by decide) ?_
    refine j_icmp_ne (tgt := 114) d_Md_isSo_96 (by decide) (fun _ => ?_) (fun q => absurd q (by decide))
    refine j_iload d_Md_isSo_114 rfl ?_
    refine j_iconst (v := 2) d_Md_isSo_116 (by decide) ?_
    refine j_icmp_ne (tgt := 135) d_Md_isSo_117 (by decide) (fun _ => ?_) (fun q => absurd q (by decide))
    refine j_iload d_Md_isSo_135 rfl ?_
    refine j_iload d_Md_isSo_137 rfl ?_
    refine j_iconst (v := 1) d_Md_isSo_139 (by decide) ?_
    refine j_iadd d_Md_isSo_140 ?_
    refine j_icmp_eq (tgt := 153) d_Md_isSo_141 (by decide) (fun q => ?_) (fun q => ?_)
    · refine j_iconst (v := 1) d_Md_isSo_153 (by decide) ?_
      refine j_goto (tgt := 158) d_Md_isSo_154 (by decide) ?_
      exact fin _ (yes ((relF_3 l1 l2).mpr (Or.inl q)))
    · refine j_iload d_Md_isSo_144 rfl ?_
      refine j_iload d_Md_isSo_146 rfl ?_
      refine j_iconst (v := 1) d_Md_isSo_148 (by decide) ?_
      refine j_iadd d_Md_isSo_149 ?_
      refine j_icmp_ne (tgt := 157) d_Md_isSo_150 (by decide) (fun q2 => ?_) (fun q2 => ?_)
      · refine j_iconst (v := 0) d_Md_isSo_157 (by decide) ?_
        exact fin _ (no (fun z => ((relF_3 l1 l2).mp z).elim q q2))
      · refine j_iconst (v := 1) d_Md_isSo_153 (by decide) ?_
        refine j_goto (tgt := 158) d_Md_isSo_154 (by decide) ?_
        exact fin _ (yes ((relF_3 l1 l2).mpr (Or.inr q2)))
end MSO

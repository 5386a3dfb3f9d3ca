section BOT
variable {E : EV} {H : HP} {n c p a mo ln nn k m cc : Nat} {txf : Nat → Nat} {φ : Nat → PhiT} {s : AS} {ws : WS} {xs : XS} {xws : WS} {rn : Int32} {v : Nat → Int32} {f : Nat → Nat → Int32}
set_option maxRecDepth 10000 in
theorem hM_in {h h' : HP} {q : Nat} (h1 : mo ≤ q) (h2 : q ≤ mo + 20) : hM E h mo v f q = hM E h' mo v f q := by
  unfold hM
  by_cases e : q = mo
  · rw [if_pos e, if_pos e]
  · rw [if_neg e, if_neg e, if_pos (by omega), if_pos (by omega)]
set_option maxRecDepth 10000 in
theorem hM_keep {H' : HP} (hs : hM E H mo v f = H) (hq : ∀ q, mo ≤ q → q ≤ mo + 20 → H' q = H q) : hM E H' mo v f = H' := by
  funext q
  by_cases e : mo ≤ q ∧ q ≤ mo + 20
  · rw [hq q e.1 e.2, hM_in (h' := H) e.1 e.2, hs]
  · exact hM_x (by omega)
set_option maxRecDepth 10000 in
theorem hM_new {v' : Nat → Int32} {f' : Nat → Nat → Int32} : hM E (hM E H mo v' f') mo v' f' = hM E H mo v' f' := by
  funext q
  by_cases e : mo ≤ q ∧ q ≤ mo + 20
  · exact hM_in e.1 e.2
  · rw [hM_x (by omega)]
set_option maxRecDepth 10000 in
theorem CI.md {v' : Nat → Int32} {f' : Nat → Nat → Int32} (C : CI E H n c p a ln nn k m cc txf φ s ws xs xws rn) (hs : hM E H mo v f = H) (h1 : c + 1 < mo) (h2 : a + 21 ≤ mo ∨ mo + 21 ≤ p) : CI E (hM E H mo v' f') n c p a ln nn k m cc txf φ s ws xs xws rn := by
  obtain ⟨⟨c1, c2, A, hA, hX⟩, t, ⟨o1, o2, o3, o4⟩, r⟩ := C
  have ck : CK H (hM E H mo v' f') := by
    intro q ci fs hcl hq
    by_cases e : mo ≤ q ∧ q ≤ mo + 20
    · rw [← hs] at hq
      by_cases e2 : q = mo
      · subst e2
        rw [hM_0] at hq
        cases hq
        simp [clN] at hcl
      · have := hM_a (E := E) (h := H) (mo := mo) (v := v) (f := f) (k := q - mo) (by omega) (by omega)
        rw [show mo + (q - mo) = q by omega] at this
        rw [this] at hq
        cases hq
    · rw [hM_x (by omega)]; exact hq
  refine ⟨⟨by rw [hM_x (by omega)]; exact c1, by rw [hM_x (by omega)]; exact c2, A.ck ck (fun q x y => hM_x (by omega)), ?_, ?_⟩, t, ⟨o1, o2, o3, o4⟩, r⟩
  · exact hAn_self (h := H) (fun q x y => by rw [hM_x (by omega), hA])
  · exact hCr_self (h := H) (fun q x y => by rw [hM_x (by omega), hX])
/-- the reference's state beside the class's -/
def VB (ln nn k m cc : Nat) (txf : Nat → Nat) (φ : Nat → PhiT) (s : AS) (xs : XS) (rn : Int32) (v : Nat → Int32) (f : Nat → Nat → Int32) : Prop := v 1 = nI ln ∧ f 1 = nA txf ∧ MP v nn k m cc ∧ MCl f nn k m cc φ ∧ KnD v f nn k m cc φ ∧ (∃ kp, AnD v f nn k m cc kp φ ∧ TA nn k m cc φ s rn kp ∧ (kp = 0 ∨ v 23 = 1)) ∧ TX nn k m xs v f
def DJ (E : EV) (n c p a mo : Nat) : Prop := c + 1 < mo ∧ (a + 21 ≤ mo ∨ mo + 21 ≤ p) ∧ mo + 21 ≤ n ∧ E.2.2.2.1 ≤ mo
/-- both at once -/
def LI (E : EV) (H : HP) (n c mo : Nat) : Prop := ∃ (p a ln nn k m cc : Nat) (txf : Nat → Nat) (φ : Nat → PhiT) (s : AS) (ws : WS) (xs : XS) (xws : WS) (rn : Int32) (v : Nat → Int32) (f : Nat → Nat → Int32), CI E H n c p a ln nn k m cc txf φ s ws xs xws rn ∧ AB s ∧ hM E H mo v f = H ∧ DJ E n c p a mo ∧ VB ln nn k m cc txf φ s xs rn v f
/-- a call of each, with the same answer, both as one before and behind -/
def CallT (E : EV) (MC MM : MI) (As : List Value) (dC dM mc ms : Nat) (H : HP) (n c mo : Nat) : Prop := ∃ (fs : List Value) (QC : Option Value → HP → Nat → Prop), H c = some (.inr (0, fs)) ∧ Ct E MC dC mc ms (.ref c :: As) H n QC ∧ ∀ w h' n', QC w h' n' → ∃ (r : Int32) (v : Nat → Int32) (f : Nat → Nat → Int32) (QM : Option Value → HP → Nat → Prop), w = some (.int r) ∧ hM E h' mo v f = h' ∧ Ct E MM dM 0 0 (.ref mo :: As) (hM E h' mo v f) n' QM ∧ ∀ w2 h2 n2, QM w2 h2 n2 → w2 = some (.int r) ∧ LI E h2 n2 c mo
set_option maxRecDepth 10000 in
theorem TX.th (T : TX nn k m xs v f) : TX nn k m xs (upd v 0 0) f := ⟨T.1.cg rfl rfl rfl rfl rfl, T.2⟩
set_option maxRecDepth 10000 in
theorem VB.th (B : VB ln nn k m cc txf φ s xs rn v f) : VB ln nn k m cc txf φ s xs rn (upd v 0 0) f := by
  obtain ⟨b1, b2, b3, b4, b5, ⟨kp, ⟨a1, a2, a3⟩, b7, b9⟩, b8⟩ := B
  exact ⟨b1, b2, b3.up (by decide), b4, b5.th, ⟨kp, ⟨a1, a2, a3.imp id (fun z => ⟨z.1.cg rfl rfl rfl rfl, z.2⟩)⟩, b7, b9⟩, b8.th⟩
set_option maxRecDepth 10000 in
/-- nothing changed but thrown -/
theorem LI.th {h' : HP} (C : CI E H n c p a ln nn k m cc txf φ s ws xs xws rn) (B : AB s) (hs : hM E H mo v f = H) (D : DJ E n c p a mo) (V : VB ln nn k m cc txf φ s xs rn v f) (he : h' = hM E H mo (upd v 0 0) f) : LI E h' n c mo := by
  subst he
  exact ⟨p, a, ln, nn, k, m, cc, txf, φ, s, ws, xs, xws, rn, _, f, C.md hs D.1 D.2.1, B, hM_new, D, V.th⟩
set_option maxRecDepth 10000 in
theorem t_told {w : Int32} (I : LI E H n c mo) : CallT E m_C_told m_Md_told [.int w] 1 0 0 0 H n c mo := by
  obtain ⟨p, a, ln, nn, k, m, cc, txf, φ, s, ws, xs, xws, rn, v, f, C, B, hs, D, V⟩ := I
  refine ⟨_, _, C.1.1, c_C_told C, fun w' h' n' q => ?_⟩
  obtain ⟨rfl, rfl, q3⟩ := q; have q3 := q3.symm; subst q3
  refine ⟨_, v, f, _, rfl, hs, c_Md_told D.2.2.2, fun w2 h2 n2 q => ?_⟩
  obtain ⟨rfl, rfl, q3⟩ := q; have q3 := q3.symm; subst q3
  exact ⟨by rw [V.2.2.1.1, V.2.2.1.2.1, V.2.2.1.2.2.1], LI.th C B hs D V rfl⟩
set_option maxRecDepth 10000 in
theorem t_mayBe {t : Int32} (I : LI E H n c mo) : CallT E m_C_mayBe m_Md_mayBe [.int t] 1 1 0 0 H n c mo := by
  obtain ⟨p, a, ln, nn, k, m, cc, txf, φ, s, ws, xs, xws, rn, v, f, C, B, hs, D, V⟩ := I
  have hm := C.2.1.2.2.2.2.2.1
  refine ⟨_, _, C.1.1, c_C_mayBe C, fun w' h' n' q => ?_⟩
  obtain ⟨rfl, rfl, q3⟩ := q; have q3 := q3.symm; subst q3
  refine ⟨_, v, f, _, rfl, hs, c_Md_mayBe (m := m) D.2.2.2 V.2.2.1.2.2.1 hm, fun w2 h2 n2 q => ?_⟩
  obtain ⟨rfl, rfl, q3⟩ := q; have q3 := q3.symm; subst q3
  refine ⟨?_, LI.th C B hs D V rfl⟩
  congr 2
  by_cases e : 0 ≤ t ∧ t < nI m
  · rw [if_pos e, if_pos e]
    obtain ⟨j, hj, rfl⟩ := in_nI (by omega) e
    rw [nI_clamp (by omega)]
    have R := V.2.2.2.2.2.2.1.1
    refine tb_ext (fun p hp => ?_)
    have e2 : (2 * nI j : Int32) = nI (2 * j) := by rw [show (2 : Int32) = nI 2 from rfl, pk_mul]
    have t3 : ∀ p : Fin 32, tb 3 p.1 = decide (p.1 < 2) := by decide +kernel
    rw [e2, tb_and, t3 ⟨p, hp⟩]
    show tb (f 16 j) p = (tb (xs.2.2.1 >>> (nI (2 * j) &&& 31)) p && decide (p < 2))
    by_cases h2 : p < 2
    · rw [decide_eq_true h2, Bool.and_true, tb_shr (by omega) (by omega), R.2.2.1 _ (by omega), show (2 * j + p) / 2 = j by omega, show (2 * j + p) % 2 = p by omega, decide_eq_true hj, Bool.true_and]
    · rw [decide_eq_false h2, Bool.and_false, R.2.2.2 j p hj (by omega) hp]
  · rw [if_neg e, if_neg e]
set_option maxRecDepth 10000 in
theorem t_may {t kd : Int32} (I : LI E H n c mo) : CallT E m_C_may m_Md_may [.int t, .int kd] 1 1 0 0 H n c mo := by
  obtain ⟨p, a, ln, nn, k, m, cc, txf, φ, s, ws, xs, xws, rn, v, f, C, B, hs, D, V⟩ := I
  have hn4 := C.2.1.2.2.2.1
  have hk3 := C.2.1.2.2.2.2.1
  refine ⟨_, _, C.1.1, c_C_may C, fun w' h' n' q => ?_⟩
  obtain ⟨rfl, rfl, q3⟩ := q; have q3 := q3.symm; subst q3
  refine ⟨_, v, f, _, rfl, hs, c_Md_may (k := k) (nn := nn) D.2.2.2 V.2.2.1.1 V.2.2.1.2.1 hn4 hk3, fun w2 h2 n2 q => ?_⟩
  obtain ⟨rfl, rfl, q3⟩ := q; have q3 := q3.symm; subst q3
  refine ⟨?_, LI.th C B hs D V rfl⟩
  congr 2
  by_cases e : (0 ≤ t ∧ t < nI nn) ∧ (0 ≤ kd ∧ kd < nI k)
  · rw [if_pos e, if_pos e]
    obtain ⟨j, hj, rfl⟩ := in_nI (by omega) e.1
    obtain ⟨i, hi, rfl⟩ := in_nI (by omega) e.2
    rw [nI_clamp (by omega), nI_clamp (by omega)]
    have R := V.2.2.2.2.2.2.1.1
    refine tb_ext (fun p hp => ?_)
    have e2 : (4 * nI j : Int32) = nI (4 * j) := by rw [n4, pk_mul]
    have t3 : ∀ p : Fin 32, tb 15 p.1 = decide (p.1 < 4) := by decide +kernel
    rw [e2, tb_and, t3 ⟨p, hp⟩]
    show tb (f 15 (4 * i + j)) p = (tb (xs.1 i >>> (nI (4 * j) &&& 31)) p && decide (p < 4))
    by_cases h2 : p < 4
    · rw [decide_eq_true h2, Bool.and_true, tb_shr (by omega) (by omega), R.1 i _ hi (by omega), show (4 * j + p) / 4 = j by omega, show (4 * j + p) % 4 = p by omega, decide_eq_true hj, Bool.true_and]
    · rw [decide_eq_false h2, Bool.and_false, R.2.1 i j p hi hj (by omega) hp]
  · rw [if_neg e, if_neg e]
set_option maxRecDepth 10000 in
theorem t_step {t w : Int32} (I : LI E H n c mo) : CallT E m_C_step m_Md_step [.int t, .int w] 1 0 0 0 H n c mo := by
  obtain ⟨p, a, ln, nn, k, m, cc, txf, φ, s, ws, xs, xws, rn, v, f, C, B, hs, D, V⟩ := I
  have X := V.2.2.2.2.2.2.1
  refine ⟨_, _, C.1.1, c_C_step C, fun w' h' n' q => ?_⟩
  obtain ⟨rfl, rfl, q3⟩ := q; have q3 := q3.symm; subst q3
  refine ⟨_, v, f, _, rfl, hs, c_Md_step (s := xs.2.2.2.2.2.2.1) D.2.2.2 X.2.1 (by have := X.2.2.2; omega), fun w2 h2 n2 q => ?_⟩
  obtain ⟨rfl, rfl, q3⟩ := q; have q3 := q3.symm; subst q3
  refine ⟨?_, LI.th C B hs D V rfl⟩
  congr 2
  by_cases e : 0 ≤ t ∧ t < nI xs.2.2.2.2.2.2.1
  · rw [if_pos e, if_pos e]
    have h54 := X.2.2.2
    obtain ⟨j, hj, rfl⟩ := in_nI (by omega) e
    rw [nI_clamp (by omega), (X.2.2.1 j hj).1, (X.2.2.1 j hj).2]
  · rw [if_neg e, if_neg e]
end BOT

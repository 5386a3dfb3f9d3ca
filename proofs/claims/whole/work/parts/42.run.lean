section RUN
variable {E : EV} {h : HP} {n c p a ln nn k m cc : Nat} {txf : Nat → Nat} {φ : Nat → PhiT} {s : AS} {ws : WS} {xs : XS} {xws : WS} {rn : Int32}
/-- the object's own cell anew -/
theorem CI.own {ln' : Nat} {rn' : Int32} (hl : ln' ≤ 300) (hr : rn' = 0 ∨ rn' = 1) (C : CI E h n c p a ln nn k m cc txf φ s ws xs xws rn) : CI E (hset h c (oC (c + 1) (nI ln') p a (a + 11) rn')) n c p a ln' nn k m cc txf φ s ws xs xws rn' ∧ FrC c a n n h (hset h c (oC (c + 1) (nI ln') p a (a + 11) rn')) := by
  obtain ⟨⟨h1, h2, A, hA, hX⟩, ⟨t1, t2, t3, t4, t5, t6, t7⟩, ⟨o1, o2, o3, o4⟩, r1, r2, r3, r4, r5⟩ := C
  refine ⟨⟨⟨hset_s _ _ _, by rw [hset_n _ _ (by omega)]; exact h2, ?_, ?_, ?_⟩, ⟨t1, hl, t3, t4, t5, t6, t7⟩, ⟨o1, o2, o3, o4⟩, r1, r2, r3, r4, hr⟩, Nat.le_refl _, fun q _ x _ _ => hset_n _ _ x⟩
  · refine A.ck (CK.set (fun ci fs hcl => ?_)) (fun q x y => hset_n _ _ (by omega))
    rw [h1]
    intro z
    cases z
    simp [clN] at hcl
  · exact hAn_self (h := h) (fun q x y => by rw [hset_n _ _ (by omega), hA])
  · exact hCr_self (h := h) (fun q x y => by rw [hset_n _ _ (by omega), hX])
/-- behind find -/
theorem CI.find {e : va_E} {s' : AS} {ws' : WS} (hn : h n = none) (he : ∀ ci fs, clN ci → e ≠ .inr (ci, fs)) (hw : WB ws') (hk : s'.2.2.2.2.2.2.1 ≤ 100) (C : CI E h n c p a ln nn k m cc txf φ s ws xs xws rn) : CI E (hAn E (hset h n e) a p (p + 2) k s' ws') (n + 1) c p a ln nn k m cc txf φ s' ws' xs xws rn ∧ FrC c a n (n + 1) h (hAn E (hset h n e) a p (p + 2) k s' ws') := by
  have C0 := C
  obtain ⟨⟨h1, h2, A, hA, hX⟩, ⟨t1, t2, t3, t4, t5, t6, t7⟩, ⟨o1, o2, o3, o4⟩, r1, r2, r3, r4, r5⟩ := C
  have px : ∀ q, (q < a ∨ a + 10 < q) → q ≠ n → hAn E (hset h n e) a p (p + 2) k s' ws' q = h q := fun q x y => by rw [hAn_x x, hset_n _ _ y]
  have F := A.pf (by omega) (by omega) t7 t5 t6 hA
  obtain ⟨_, _, _, _, _, _, _, _, _, _, hck, _⟩ := F
  refine ⟨⟨⟨by rw [px _ (by omega) (by omega)]; exact h1, by rw [px _ (by omega) (by omega)]; exact h2, ?_, ?_, ?_⟩, ⟨t1, t2, t3, t4, t5, t6, t7⟩, ⟨o1, o2, by omega, o4⟩, hw, r2, hk, r4, r5⟩, by omega, fun q x _ _ y => px q (by omega) (by omega)⟩
  · refine A.ck ?_ (fun q x y => px q (by omega) (by omega))
    refine CK.trans (CK.set (e := e) (a := n) (fun ci fs _ => by rw [hn]; exact fun z => by cases z)) (CK_hAn (fun q x y ci fs hcl => ?_))
    rw [hset_n _ _ (by omega)]
    exact hck q x y ci fs hcl
  · exact hAn_self (h := hset h n e) (fun q x y => rfl)
  · exact hCr_self (h := h) (fun q x y => by rw [px q (by omega) (by omega), hX])
/-- what find makes of the Answers -/
def fndF (nn k m cc : Nat) (φ : Nat → PhiT) (s : AS) (ws : WS) : AS × WS := if s.2.2.2.2.2.2.2 = 0 then anFind cc k nn (ord nn).1 (ord nn).2.1 (ord nn).2.2.2 (vT nn) (partsF m) φ s ws else (s, ws)
theorem fndF_B (B : AB s) (hw : WB ws) (hk : s.2.2.2.2.2.2.1 ≤ 100) : WB (fndF nn k m cc φ s ws).2 ∧ AB (fndF nn k m cc φ s ws).1 ∧ (fndF nn k m cc φ s ws).1.2.2.2.2.2.2.1 ≤ 100 := by
  unfold fndF
  split
  · exact anFind_B (ord_cnt nn) hw B hk
  · exact ⟨hw, B, hk⟩
/-- a call of find, for any method of the face -/
theorem j_find {M : MI} {d cl sl pc idx : Nat} {L : List (Nat × Value)} {rest : List Value} {Q : Option Value → HP → Nat → Prop} (C : CI E h n c p a ln nn k m cc txf φ s ws xs xws rn) (B : AB s) (hd : decode M.2.1 pc = .ok (.invokevirtual idx, 3)) (g : CBx M.1.cls idx m_An_find 0) (hroom : (rest.map fun v => v.category).sum ≤ 8) (hdd : 36 ≤ d) (h1 : 1 ≤ cl) (h2 : 3 ≤ sl)
    (kk : ∀ h' n', CI E h' n' c p a ln nn k m cc txf φ (fndF nn k m cc φ s ws).1 (fndF nn k m cc φ s ws).2 xs xws rn → FrC c a n n' h h' → J E M d (cl - 1) (sl - 3) (pc + 3) L rest h' n' Q) : J E M d cl sl pc L (.ref a :: rest) h n Q := by
  have C0 := C
  obtain ⟨⟨-, -, A, hA, -⟩, ⟨-, -, -, t4, t5, t6, t7⟩, ⟨o1, o2, o3, o4⟩, r1, -, r3, -⟩ := C
  have ha := hAn_0 (E := E) (h := h) (a := a) (p := p) (od := p + 2) (K := k) (s := s) (ws := ws)
  rw [hA] at ha
  have BB := fndF_B (nn := nn) (k := k) (m := m) (cc := cc) (φ := φ) B r1 r3
  refine J.dm (fun hdm => ?_)
  have hn0 : h n = none := by
    cases hx : h n with
    | none => rfl
    | some e => exact absurd (hdm n e hx) (Nat.lt_irrefl _)
  by_cases hf : s.2.2.2.2.2.2.2 = 0
  · have ct := c_An_find (n := n) (A.pf (by omega) (by omega) t7 t5 t6 hA) (A.od t4 o2) r1 r3 hf
    rw [hA] at ct
    have e : fndF nn k m cc φ s ws = anFind cc k nn (ord nn).1 (ord nn).2.1 (ord nn).2.2.2 (vT nn) (partsF m) φ s ws := if_pos hf
    refine j_callV (As := []) hd g vv_An_find ha rfl rfl rfl rfl hroom hdd h1 h2 ct (fun v' h' n' q _ => ?_)
    obtain ⟨rfl, rfl, q3⟩ := q; have q3 := q3.symm; subst q3
    rw [← e]
    obtain ⟨C2, F2⟩ := C0.find (e := arI E 0 3 (fillF (fun _ => 0) 3 (ord nn).2.2.2)) hn0 (fun ci fs _ z => by cases z) BB.1 BB.2.2
    exact kk _ _ C2 F2
  · have ct := c_An_find2 (E := E) (h := h) (n := n) (a := a) (p := p) (od := p + 2) (K := k) (ws := ws) (d := 35) (mc := 1) (ms := 3) hf
    rw [hA] at ct
    have e : fndF nn k m cc φ s ws = (s, ws) := if_neg hf
    refine j_callV (As := []) hd g vv_An_find ha rfl rfl rfl rfl hroom hdd h1 h2 ct (fun v' h' n' q _ => ?_)
    obtain ⟨rfl, rfl, q3⟩ := q; have q3 := q3.symm; subst q3
    rw [e] at kk
    exact kk _ _ C0 FrC.rf
theorem FrC.trans {n2 n3 : Nat} {h2 h3 : HP} (x : FrC c a n n2 h h2) (y : FrC c a n2 n3 h2 h3) : FrC c a n n3 h h3 := ⟨Nat.le_trans x.1 y.1, fun q q1 q2 q3 q4 => (y.2 q (Nat.lt_of_lt_of_le q1 x.1) q2 q3 q4).trans (x.2 q q1 q2 q3 q4)⟩
theorem c_C_run (C : CI E h n c p a ln nn k m cc txf φ s ws xs xws rn) (B : AB s) : Ct E m_C_run 36 1 3 [.ref c] h n (fun v h' n' => FrC c a n n' h h' ∧ v = some (.int (fndF nn k m cc φ s ws).1.2.2.2.2.2.1) ∧ CI E h' n' c p a ln nn k m cc txf φ (fndF nn k m cc φ s ws).1 (fndF nn k m cc φ s ws).2 xs xws 1) := by
  refine Ct.go rfl rfl rfl ?_
  have hc := C.1.1
  have o4 := C.2.2.1.2.2.2
  have hl := C.2.1.2.1
  refine j_aload_n d_C_run_0 rfl ?_
  refine j_iconst (v := 1) d_C_run_1 (by decide) ?_
  refine j_put d_C_run_2 fl_C_54 fp_C (Or.inl rfl) hc o4 rfl rfl (Nat.le_of_ble_eq_true rfl) ?_
  obtain ⟨C2, F2⟩ := C.own (ln' := ln) (rn' := 1) hl (Or.inr rfl)
  have hc2 := C2.1.1
  show J E m_C_run 36 1 3 5 _ _ (hset h c (oC (c + 1) (nI ln) p a (a + 11) 1)) _ _
  refine j_aload_n d_C_run_5 rfl ?_
  refine j_get d_C_run_6 fl_C_58 (by first | assumption | exact hset_s _ _ _ | (rw [hset_n _ _ (by omega)]; first | assumption | exact hset_s _ _ _ | (rw [hset_n _ _ (by omega)]; first | assumption | exact hset_s _ _ _ | (rw [hset_n _ _ (by omega)]; first | assumption | exact hset_s _ _ _ | (rw [hset_n _ _ (by omega)]; first | assumption | exact hset_s _ _ _))))) rfl ?_
  refine j_find C2 B d_C_run_9 cb_C_62 (Nat.le_of_ble_eq_true rfl) (by decide) (by decide) (by decide) (fun h3 n3 C3 F3 => ?_)
  have hc3 := C3.1.1
  have ha3 := hAn_0 (E := E) (h := h3) (a := a) (p := p) (od := p + 2) (K := k) (s := (fndF nn k m cc φ s ws).1) (ws := (fndF nn k m cc φ s ws).2)
  rw [C3.1.2.2.2.1] at ha3
  refine j_aload_n d_C_run_12 rfl ?_
  refine j_get d_C_run_13 fl_C_58 (by first | assumption | exact hset_s _ _ _ | (rw [hset_n _ _ (by omega)]; first | assumption | exact hset_s _ _ _ | (rw [hset_n _ _ (by omega)]; first | assumption | exact hset_s _ _ _ | (rw [hset_n _ _ (by omega)]; first | assumption | exact hset_s _ _ _ | (rw [hset_n _ _ (by omega)]; first | assumption | exact hset_s _ _ _))))) rfl ?_
  refine j_pV (As := []) d_C_run_16 cb_C_67 vv_An_count ha3 rfl rfl rfl rfl (Nat.le_of_ble_eq_true rfl) (d' := 0) (by decide) (c_An_count ha3 rfl) ?_
  exact j_iret d_C_run_19 rfl ⟨F2.trans F3, rfl, C3⟩
end RUN

section CLU
variable {E : EV} {h : HP} {n : Nat}
/-- what two seats must be to each other, by the sign's byte -/
def relF (sg a b : Int32) : Prop := if sg = 61 then a = b else if sg = 33 then ¬ a = b else if sg = 60 then a < b else (a - b = 1 ∨ b - a = 1)
noncomputable def relM (sg a b : Int32) : Int32 := @ite _ (relF sg a b) (Classical.propDecidable _) (-1) 0
theorem relM_t {sg a b : Int32} (h : relF sg a b) : relM sg a b = -1 := by unfold relM; rw [if_pos h]
theorem relM_f {sg a b : Int32} (h : ¬ relF sg a b) : relM sg a b = 0 := by unfold relM; rw [if_neg h]
/-- relates: 1 or 0 -/
theorem c_Ov_relates {a : Nat} {sg v w x y : Int32} (ha : h a = some (oOv sg v w)) : Ct E m_Ov_relates 0 0 0 [.ref a, .int x, .int y] h n (fun r h' n' => h' = h ∧ n' = n ∧ ((relF sg x y ∧ r = some (.int 1)) ∨ (¬ relF sg x y ∧ r = some (.int 0)))) := by
  refine Ct.go rfl rfl rfl ?_
  refine j_aload_n d_Ov_relates_0 rfl ?_
  refine j_get d_Ov_relates_1 fl_Ov_7 (by first | assumption | exact hset_s _ _ _ | (rw [hset_n _ _ (by omega)]; first | assumption | exact hset_s _ _ _ | (rw [hset_n _ _ (by omega)]; first | assumption | exact hset_s _ _ _ | (rw [hset_n _ _ (by omega)]; first | assumption | exact hset_s _ _ _ | (rw [hset_n _ _ (by omega)]; first | assumption | exact hset_s _ _ _))))) rfl ?_
  by_cases h61 : sg = 61
  · subst h61
    refine j_lookup (tgt := 40) d_Ov_relates_4 (by decide) (off := 36) (by decide) (by decide) ?_
    refine j_iload_n d_Ov_relates_40 rfl ?_
    refine j_iload_n d_Ov_relates_41 rfl ?_
    refine j_icmp_ne (tgt := 49) d_Ov_relates_42 (by decide) (fun c => ?_) (fun c => ?_)
    · refine j_iconst (v := 0) d_Ov_relates_49 (by decide) ?_
      exact j_zret d_Ov_relates_50 rfl (Or.inl rfl) ⟨rfl, rfl, Or.inr ⟨by simpa [relF] using c, rfl⟩⟩
    · refine j_iconst (v := 1) d_Ov_relates_45 (by decide) ?_
      refine j_goto (tgt := 50) d_Ov_relates_46 (by decide) ?_
      exact j_zret d_Ov_relates_50 rfl (Or.inr rfl) ⟨rfl, rfl, Or.inl ⟨by simpa [relF] using c, rfl⟩⟩
  by_cases h33 : sg = 33
  · subst h33
    refine j_lookup (tgt := 51) d_Ov_relates_4 (by decide) (off := 47) (by decide) (by decide) ?_
    refine j_iload_n d_Ov_relates_51 rfl ?_
    refine j_iload_n d_Ov_relates_52 rfl ?_
    refine j_icmp_eq (tgt := 60) d_Ov_relates_53 (by decide) (fun c => ?_) (fun c => ?_)
    · refine j_iconst (v := 0) d_Ov_relates_60 (by decide) ?_
      exact j_zret d_Ov_relates_61 rfl (Or.inl rfl) ⟨rfl, rfl, Or.inr ⟨by simpa [relF] using c, rfl⟩⟩
    · refine j_iconst (v := 1) d_Ov_relates_56 (by decide) ?_
      refine j_goto (tgt := 61) d_Ov_relates_57 (by decide) ?_
      exact j_zret d_Ov_relates_61 rfl (Or.inr rfl) ⟨rfl, rfl, Or.inl ⟨by simpa [relF] using c, rfl⟩⟩
  by_cases h60 : sg = 60
  · subst h60
    refine j_lookup (tgt := 62) d_Ov_relates_4 (by decide) (off := 58) (by decide) (by decide) ?_
    refine j_iload_n d_Ov_relates_62 rfl ?_
    refine j_iload_n d_Ov_relates_63 rfl ?_
    refine j_icmp_ge (tgt := 71) d_Ov_relates_64 (by decide) (fun c => ?_) (fun c => ?_)
    · refine j_iconst (v := 0) d_Ov_relates_71 (by decide) ?_
      exact j_zret d_Ov_relates_72 rfl (Or.inl rfl) ⟨rfl, rfl, Or.inr ⟨by simpa [relF] using c, rfl⟩⟩
    · refine j_iconst (v := 1) d_Ov_relates_67 (by decide) ?_
      refine j_goto (tgt := 72) d_Ov_relates_68 (by decide) ?_
      exact j_zret d_Ov_relates_72 rfl (Or.inr rfl) ⟨rfl, rfl, Or.inl ⟨by simpa [relF] using c, rfl⟩⟩
  refine j_lookup (tgt := 73) d_Ov_relates_4 (by decide) (off := 69) ?_ (by decide) ?_
  · show Op.lookupswitch.offset [(33, 47), (60, 58), (61, 36)] 69 sg.toInt = 69
    rw [lv_osw h33 (by decide), lv_osw h60 (by decide), lv_osw h61 (by decide)]
    rfl
  refine j_iload_n d_Ov_relates_73 rfl ?_
  refine j_iload_n d_Ov_relates_74 rfl ?_
  refine j_isub d_Ov_relates_75 ?_
  refine j_iconst (v := 1) d_Ov_relates_76 (by decide) ?_
  refine j_icmp_eq (tgt := 87) d_Ov_relates_77 (by decide) (fun c => ?_) (fun c => ?_)
  · refine j_iconst (v := 1) d_Ov_relates_87 (by decide) ?_
    refine j_goto (tgt := 92) d_Ov_relates_88 (by decide) ?_
    exact j_zret d_Ov_relates_92 rfl (Or.inr rfl) ⟨rfl, rfl, Or.inl ⟨by simp [relF, h61, h33, h60, c], rfl⟩⟩
  · refine j_iload_n d_Ov_relates_80 rfl ?_
    refine j_iload_n d_Ov_relates_81 rfl ?_
    refine j_isub d_Ov_relates_82 ?_
    refine j_iconst (v := 1) d_Ov_relates_83 (by decide) ?_
    refine j_icmp_ne (tgt := 91) d_Ov_relates_84 (by decide) (fun c2 => ?_) (fun c2 => ?_)
    · refine j_iconst (v := 0) d_Ov_relates_91 (by decide) ?_
      exact j_zret d_Ov_relates_92 rfl (Or.inl rfl) ⟨rfl, rfl, Or.inr ⟨by simp [relF, h61, h33, h60, c, c2], rfl⟩⟩
    · refine j_iconst (v := 1) d_Ov_relates_87 (by decide) ?_
      refine j_goto (tgt := 92) d_Ov_relates_88 (by decide) ?_
      exact j_zret d_Ov_relates_92 rfl (Or.inr rfl) ⟨rfl, rfl, Or.inl ⟨by simp [relF, h61, h33, h60, c2], rfl⟩⟩
/-- the clue whose parts lie in the heap at a, low by D: which parties it holds with, by the seats -/
def CR : Nat → HP → Nat → ((Nat → Int32) → Int32) → Prop
  | 0, _, _, _ => False
  | D + 1, h, a, φ =>
    (∃ sg v w, h a = some (oOv sg v w) ∧ vp_in v 12 ∧ vp_in w 12 ∧ φ = fun th => relM sg (th v.toNatClampNeg) (th w.toNatClampNeg)) ∨
    (∃ p, h a = some (oOp p) ∧ φ = fun _ => p) ∨
    (∃ t p ψ, h a = some (oTu t p) ∧ CR D h p ψ ∧ φ = fun th => t ^^^ ψ th) ∨
    (∃ b p q ψ χ, h a = some (oJo b p q) ∧ CR D h p ψ ∧ CR D h q χ ∧ φ = fun th => if b = 0 then ψ th ||| χ th else ψ th &&& χ th)
theorem CR.mono : ∀ {D D' : Nat} {h : HP} {a : Nat} {φ : (Nat → Int32) → Int32}, D ≤ D' → CR D h a φ → CR D' h a φ
  | 0, _, _, _, _, _, hc => absurd hc (by simp [CR])
  | D + 1, 0, _, _, _, hD, _ => absurd hD (by omega)
  | D + 1, D' + 1, h, a, φ, hD, hc => by
    have hm : ∀ {p ψ}, CR D h p ψ → CR D' h p ψ := fun x => CR.mono (by omega) x
    rcases hc with hc | hc | ⟨t, p, ψ, h1, h2, h3⟩ | ⟨b, p, q, ψ, χ, h1, h2, h3, h4⟩
    · exact Or.inl hc
    · exact Or.inr (Or.inl hc)
    · exact Or.inr (Or.inr (Or.inl ⟨t, p, ψ, h1, hm h2, h3⟩))
    · exact Or.inr (Or.inr (Or.inr ⟨b, p, q, ψ, χ, h1, hm h2, hm h3, h4⟩))
/-- the cells of clues stay -/
def clN (ci : Nat) : Prop := ci = 3 ∨ ci = 4 ∨ ci = 5 ∨ ci = 9
def CK (h h' : HP) : Prop := ∀ (q ci : Nat) (fs : List Value), clN ci → h q = some (.inr (ci, fs)) → h' q = some (.inr (ci, fs))
theorem CK.rf {h : HP} : CK h h := fun _ _ _ _ h => h
theorem CK.trans {h h' h'' : HP} (a : CK h h') (b : CK h' h'') : CK h h'' := fun q ci fs hc hq => b q ci fs hc (a q ci fs hc hq)
/-- a cell that no clue is may be changed -/
theorem CK.set {h : HP} {a : Nat} {e : va_E} (ha : ∀ ci fs, clN ci → h a ≠ some (.inr (ci, fs))) : CK h (hset h a e) := by
  intro q ci fs hc hq
  by_cases hqa : q = a
  · subst hqa; exact absurd hq (ha ci fs hc)
  · rw [hset_n h e hqa]; exact hq
theorem CR.kept : ∀ {D : Nat} {h h' : HP} {a : Nat} {φ : (Nat → Int32) → Int32}, CK h h' → CR D h a φ → CR D h' a φ
  | 0, _, _, _, _, _, hc => absurd hc (by simp [CR])
  | D + 1, h, h', a, φ, hk, hc => by
    rcases hc with ⟨sg, v, w, h1, h2⟩ | ⟨p, h1, h2⟩ | ⟨t, p, ψ, h1, h2, h3⟩ | ⟨b, p, q, ψ, χ, h1, h2, h3, h4⟩
    · exact Or.inl ⟨sg, v, w, hk a _ _ (by simp [clN]) h1, h2⟩
    · exact Or.inr (Or.inl ⟨p, hk a _ _ (by simp [clN]) h1, h2⟩)
    · exact Or.inr (Or.inr (Or.inl ⟨t, p, ψ, hk a _ _ (by simp [clN]) h1, CR.kept hk h2, h3⟩))
    · exact Or.inr (Or.inr (Or.inr ⟨b, p, q, ψ, χ, hk a _ _ (by simp [clN]) h1, CR.kept hk h2, CR.kept hk h3, h4⟩))
/-- what the heap tells lies below its end -/
def Dm (h : HP) (n : Nat) : Prop := ∀ (q : Nat) (e : va_E), h q = some e → q < n
theorem J.dm {M : MI} {d cl sl pc : Nat} {L : List (Nat × Value)} {st : List Value} {Q : Option Value → HP → Nat → Prop} (k : Dm h n → J E M d cl sl pc L st h n Q) : J E M d cl sl pc L st h n Q := by
  intro p e R s m args below meth c H locs cells slots ls X Y
  exact k (fun q f hq => by have := va_at.lt (Y.2.1 q f hq); rw [← Y.2.2.1]; exact this) p e R s m args below meth c H locs cells slots ls X Y
theorem J.base {M : MI} {d cl sl pc : Nat} {L : List (Nat × Value)} {st : List Value} {Q : Option Value → HP → Nat → Prop} (k : E.2.2.2.1 ≤ n → J E M d cl sl pc L st h n Q) : J E M d cl sl pc L st h n Q := by
  intro p e R s m args below meth c H locs cells slots ls X Y
  refine k ?_ p e R s m args below meth c H locs cells slots ls X Y
  have h1 := X.2.2.2.2.2.2.2.2.2.2
  have h2 := Y.2.2.2.1.1
  have h3 := Y.2.2.1
  omega
/-- a call of holds at a: whatever class the object has -/
def HC (E : EV) (D : Nat) (h : HP) (n a ta : Nat) (v : Int32) : Prop := ∃ (M' : MI) (ci : Nat) (r : vw_C) (fs : List Value), h a = some (.inr (ci, fs)) ∧ classes[ci]? = some r ∧ r.1 = M'.1.cls ∧ (Cond.code M'.1 M'.2.1 M'.2.2.1 M'.2.2.2 ∈ GW ∧ Cond.selects M'.1.cls xHolds M'.1 ∈ GW ∧ Cond.instanceMethod M'.1 ∈ GW ∧ Cond.initialized M'.1.cls ∈ GW) ∧ (M'.1.cls, xHolds, M'.1) ∈ faceW ∧ M'.2.2.1 ≤ 21 ∧ Ct E M' D 0 0 [.ref a, .ref ta] h n (Rt (some (.int v)) h n)
theorem j_holds {M : MI} {d cl sl pc idx D a ta : Nat} {L : List (Nat × Value)} {rest : List Value} {v : Int32} {Q : Option Value → HP → Nat → Prop} (hd : decode M.2.1 pc = .ok (.invokeinterface idx 2, 5)) (hl : Cond.methodLink M.1.cls idx xHolds ∈ GW) (hc : HC E D h n a ta v) (hroom : (rest.map fun v => v.category).sum ≤ 8) (hdd : D + 1 ≤ d) (kk : J E M d cl sl (pc + 5) L (.int v :: rest) h n Q) : J E M d cl sl pc L (.ref ta :: .ref a :: rest) h n Q := by
  obtain ⟨M', ci, r, fs, h1, h2, h3, ⟨g1, g2, g3, g4⟩, h5, h6, ct⟩ := hc
  exact j_callF (k := 1) (As := [.ref ta]) hd ⟨g1, hl, g2, g3, g4⟩ h5 (by decide +kernel) h6 h1 h2 h3 rfl rfl hroom hdd (Nat.zero_le _) (Nat.zero_le _) ct (fun v' h' n' q _ => by obtain ⟨rfl, rfl, rfl⟩ := q; exact kk)
theorem c_holds {ta : Nat} {th : Nat → Int32} (hta : h ta = some (arI E 0 12 th)) : ∀ (D a : Nat) (φ : (Nat → Int32) → Int32), CR D h a φ → HC E D h n a ta (φ th) := by
  intro D
  induction D with
  | zero => intro a φ hc; exact absurd hc (by simp [CR])
  | succ D ih =>
    intro a φ hc
    rcases hc with ⟨sg, v, w, ha, hv, hw, rfl⟩ | ⟨p, ha, rfl⟩ | ⟨t, p, ψ, ha, hp, rfl⟩ | ⟨b, p, q, ψ, χ, ha, hp, hq, rfl⟩
    · refine ⟨m_Ov_holds, 5, _, _, ha, rfl, rfl, hv_Ov_holds, by decide +kernel, by decide, ?_⟩
      refine Ct.go rfl rfl rfl ?_
      refine j_aload_n d_Ov_holds_0 rfl ?_
      refine j_aload_n d_Ov_holds_1 rfl ?_
      refine j_aload_n d_Ov_holds_2 rfl ?_
      refine j_get d_Ov_holds_3 fl_Ov_13 (by first | assumption | exact hset_s _ _ _ | (rw [hset_n _ _ (by omega)]; first | assumption | exact hset_s _ _ _ | (rw [hset_n _ _ (by omega)]; first | assumption | exact hset_s _ _ _ | (rw [hset_n _ _ (by omega)]; first | assumption | exact hset_s _ _ _ | (rw [hset_n _ _ (by omega)]; first | assumption | exact hset_s _ _ _))))) rfl ?_
      refine j_iald (t := 0) d_Ov_holds_6 rfl (by first | assumption | exact hset_s _ _ _ | (rw [hset_n _ _ (by omega)]; first | assumption | exact hset_s _ _ _ | (rw [hset_n _ _ (by omega)]; first | assumption | exact hset_s _ _ _ | (rw [hset_n _ _ (by omega)]; first | assumption | exact hset_s _ _ _ | (rw [hset_n _ _ (by omega)]; first | assumption | exact hset_s _ _ _))))) hv rfl ?_
      refine j_aload_n d_Ov_holds_7 rfl ?_
      refine j_aload_n d_Ov_holds_8 rfl ?_
      refine j_get d_Ov_holds_9 fl_Ov_16 (by first | assumption | exact hset_s _ _ _ | (rw [hset_n _ _ (by omega)]; first | assumption | exact hset_s _ _ _ | (rw [hset_n _ _ (by omega)]; first | assumption | exact hset_s _ _ _ | (rw [hset_n _ _ (by omega)]; first | assumption | exact hset_s _ _ _ | (rw [hset_n _ _ (by omega)]; first | assumption | exact hset_s _ _ _))))) rfl ?_
      refine j_iald (t := 0) d_Ov_holds_12 rfl (by first | assumption | exact hset_s _ _ _ | (rw [hset_n _ _ (by omega)]; first | assumption | exact hset_s _ _ _ | (rw [hset_n _ _ (by omega)]; first | assumption | exact hset_s _ _ _ | (rw [hset_n _ _ (by omega)]; first | assumption | exact hset_s _ _ _ | (rw [hset_n _ _ (by omega)]; first | assumption | exact hset_s _ _ _))))) hw rfl ?_
      refine j_callV (As := [.int _, .int _]) d_Ov_holds_13 cb_Ov_19 vv_Ov_relates ha rfl rfl rfl rfl (Nat.le_of_ble_eq_true rfl) (by omega) (Nat.zero_le _) (Nat.zero_le _) (c_Ov_relates ha) (fun v' h' n' q _ => ?_)
      obtain ⟨rfl, rfl, ⟨hr, rfl⟩ | ⟨hr, rfl⟩⟩ := q
      · refine j_if_eq (tgt := 23) d_Ov_holds_16 (by decide) (fun c => absurd c (by decide)) (fun c => ?_)
        refine j_iconst (v := (-1)) d_Ov_holds_19 (by decide) ?_
        refine j_goto (tgt := 24) d_Ov_holds_20 (by decide) ?_
        exact j_iret d_Ov_holds_24 rfl ⟨by simp only [relM_t hr], rfl, rfl⟩
      · refine j_if_eq (tgt := 23) d_Ov_holds_16 (by decide) (fun c => ?_) (fun c => absurd rfl c)
        refine j_iconst (v := 0) d_Ov_holds_23 (by decide) ?_
        exact j_iret d_Ov_holds_24 rfl ⟨by simp only [relM_f hr], rfl, rfl⟩
    · refine ⟨m_Op_holds, 4, _, _, ha, rfl, rfl, hv_Op_holds, by decide +kernel, by decide, ?_⟩
      refine Ct.go rfl rfl rfl ?_
      refine j_aload_n d_Op_holds_0 rfl ?_
      refine j_get d_Op_holds_1 fl_Op_13 (by first | assumption | exact hset_s _ _ _ | (rw [hset_n _ _ (by omega)]; first | assumption | exact hset_s _ _ _ | (rw [hset_n _ _ (by omega)]; first | assumption | exact hset_s _ _ _ | (rw [hset_n _ _ (by omega)]; first | assumption | exact hset_s _ _ _ | (rw [hset_n _ _ (by omega)]; first | assumption | exact hset_s _ _ _))))) rfl ?_
      exact j_iret d_Op_holds_4 rfl ⟨rfl, rfl, rfl⟩
    · refine ⟨m_Tu_holds, 9, _, _, ha, rfl, rfl, hv_Tu_holds, by decide +kernel, by decide, ?_⟩
      refine Ct.go rfl rfl rfl ?_
      refine j_aload_n d_Tu_holds_0 rfl ?_
      refine j_get d_Tu_holds_1 fl_Tu_7 (by first | assumption | exact hset_s _ _ _ | (rw [hset_n _ _ (by omega)]; first | assumption | exact hset_s _ _ _ | (rw [hset_n _ _ (by omega)]; first | assumption | exact hset_s _ _ _ | (rw [hset_n _ _ (by omega)]; first | assumption | exact hset_s _ _ _ | (rw [hset_n _ _ (by omega)]; first | assumption | exact hset_s _ _ _))))) rfl ?_
      refine j_aload_n d_Tu_holds_4 rfl ?_
      refine j_get d_Tu_holds_5 fl_Tu_13 (by first | assumption | exact hset_s _ _ _ | (rw [hset_n _ _ (by omega)]; first | assumption | exact hset_s _ _ _ | (rw [hset_n _ _ (by omega)]; first | assumption | exact hset_s _ _ _ | (rw [hset_n _ _ (by omega)]; first | assumption | exact hset_s _ _ _ | (rw [hset_n _ _ (by omega)]; first | assumption | exact hset_s _ _ _))))) rfl ?_
      refine j_aload_n d_Tu_holds_8 rfl ?_
      refine j_holds d_Tu_holds_9 fk_Tu_17 (ih p ψ hp) (Nat.le_of_ble_eq_true rfl) (by omega) ?_
      refine j_ixor d_Tu_holds_14 ?_
      exact j_iret d_Tu_holds_15 rfl ⟨rfl, rfl, rfl⟩
    · refine ⟨m_Jo_holds, 3, _, _, ha, rfl, rfl, hv_Jo_holds, by decide +kernel, by decide, ?_⟩
      refine Ct.go rfl rfl rfl ?_
      refine j_aload_n d_Jo_holds_0 rfl ?_
      refine j_get d_Jo_holds_1 fl_Jo_13 (by first | assumption | exact hset_s _ _ _ | (rw [hset_n _ _ (by omega)]; first | assumption | exact hset_s _ _ _ | (rw [hset_n _ _ (by omega)]; first | assumption | exact hset_s _ _ _ | (rw [hset_n _ _ (by omega)]; first | assumption | exact hset_s _ _ _ | (rw [hset_n _ _ (by omega)]; first | assumption | exact hset_s _ _ _))))) rfl ?_
      refine j_aload_n d_Jo_holds_4 rfl ?_
      refine j_holds d_Jo_holds_5 fk_Jo_20 (ih p ψ hp) (Nat.le_of_ble_eq_true rfl) (by omega) ?_
      refine j_istore_n d_Jo_holds_10 (by decide) ?_
      refine j_aload_n d_Jo_holds_11 rfl ?_
      refine j_get d_Jo_holds_12 fl_Jo_17 (by first | assumption | exact hset_s _ _ _ | (rw [hset_n _ _ (by omega)]; first | assumption | exact hset_s _ _ _ | (rw [hset_n _ _ (by omega)]; first | assumption | exact hset_s _ _ _ | (rw [hset_n _ _ (by omega)]; first | assumption | exact hset_s _ _ _ | (rw [hset_n _ _ (by omega)]; first | assumption | exact hset_s _ _ _))))) rfl ?_
      refine j_aload_n d_Jo_holds_15 rfl ?_
      refine j_holds d_Jo_holds_16 fk_Jo_20 (ih q χ hq) (Nat.le_of_ble_eq_true rfl) (by omega) ?_
      refine j_istore_n d_Jo_holds_21 (by decide) ?_
      refine j_aload_n d_Jo_holds_22 rfl ?_
      refine j_get d_Jo_holds_23 fl_Jo_7 (by first | assumption | exact hset_s _ _ _ | (rw [hset_n _ _ (by omega)]; first | assumption | exact hset_s _ _ _ | (rw [hset_n _ _ (by omega)]; first | assumption | exact hset_s _ _ _ | (rw [hset_n _ _ (by omega)]; first | assumption | exact hset_s _ _ _ | (rw [hset_n _ _ (by omega)]; first | assumption | exact hset_s _ _ _))))) rfl ?_
      refine j_if_eq (tgt := 35) d_Jo_holds_26 (by decide) (fun c => ?_) (fun c => ?_)
      · refine j_iload_n d_Jo_holds_35 rfl ?_
        refine j_iload_n d_Jo_holds_36 rfl ?_
        refine j_ior d_Jo_holds_37 ?_
        exact j_iret d_Jo_holds_38 rfl ⟨by simp only [if_pos c], rfl, rfl⟩
      · refine j_iload_n d_Jo_holds_29 rfl ?_
        refine j_iload_n d_Jo_holds_30 rfl ?_
        refine j_iand d_Jo_holds_31 ?_
        refine j_goto (tgt := 38) d_Jo_holds_32 (by decide) ?_
        exact j_iret d_Jo_holds_38 rfl ⟨by simp only [if_neg c], rfl, rfl⟩
end CLU

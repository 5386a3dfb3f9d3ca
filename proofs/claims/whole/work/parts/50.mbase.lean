section MBA
variable {E : EV} {M : MI} {d cl sl pc : Nat} {L : List (Nat × Value)} {st : List Value} {h : HP} {n mo : Nat} {Q : Option Value → HP → Nat → Prop} {v : Nat → Int32} {f : Nat → Nat → Int32}
/-! the reference: one object at mo, its twenty rows behind it. v: its numbers, by the field's number; f: its rows, by their place -/
def mL (mo : Nat) (v : Nat → Int32) : List Value := [.int (v 0), .int (v 1), .ref (mo + 1), .int (v 3), .int (v 4), .int (v 5), .int (v 6), .ref (mo + 2), .ref (mo + 3), .ref (mo + 4), .ref (mo + 5), .int (v 11), .int (v 12), .int (v 13), .int (v 14), .int (v 15), .ref (mo + 6), .ref (mo + 7), .ref (mo + 8), .ref (mo + 9), .int (v 20), .ref (mo + 10), .ref (mo + 11), .int (v 23), .int (v 24), .ref (mo + 12), .ref (mo + 13), .int (v 27), .ref (mo + 14), .ref (mo + 15), .ref (mo + 16), .ref (mo + 17), .ref (mo + 18), .int (v 33), .ref (mo + 19), .ref (mo + 20)]
def mN (k : Nat) : Nat := [0, 300, 21, 600, 600, 600, 22, 640, 640, 640, 96, 96, 110592, 32, 100, 12, 3, 12, 3, 60, 60].getD k 0
def mT (k : Nat) : Nat := if k = 13 then 1 else 0
def hM (E : EV) (h : HP) (mo : Nat) (v : Nat → Int32) (f : Nat → Nat → Int32) : HP := fun q => if q = mo then some (.inr (11, mL mo v)) else if mo < q ∧ q ≤ mo + 20 then some (arI E (mT (q - mo)) (mN (q - mo)) (f (q - mo))) else h q
def upG (f : Nat → Nat → Int32) (k : Nat) (g : Nat → Int32) : Nat → Nat → Int32 := fun j => if j = k then g else f j
theorem upG_s (f : Nat → Nat → Int32) (k : Nat) (g : Nat → Int32) : upG f k g k = g := if_pos rfl
theorem upG_n (f : Nat → Nat → Int32) {k j : Nat} (g : Nat → Int32) (h : j ≠ k) : upG f k g j = f j := if_neg h
theorem hM_0 : hM E h mo v f mo = some (.inr (11, mL mo v)) := if_pos rfl
theorem hM_a {k : Nat} (h1 : 1 ≤ k) (h2 : k ≤ 20) : hM E h mo v f (mo + k) = some (arI E (mT k) (mN k) (f k)) := by
  unfold hM
  rw [if_neg (by omega), if_pos (by omega), Nat.add_sub_cancel_left]
theorem hM_x {q : Nat} (hq : q < mo ∨ mo + 20 < q) : hM E h mo v f q = h q := by
  unfold hM
  rw [if_neg (by omega), if_neg (by omega)]
def isS (k : Nat) : Bool := k == 0 || k == 1 || k == 3 || k == 4 || k == 5 || k == 6 || k == 11 || k == 12 || k == 13 || k == 14 || k == 15 || k == 20 || k == 23 || k == 24 || k == 27 || k == 33
theorem mL_set {k : Nat} {x : Int32} (hk : isS k = true) : (mL mo v).set k (.int x) = mL mo (upd v k x) := by
  have e : k = 0 ∨ k = 1 ∨ k = 3 ∨ k = 4 ∨ k = 5 ∨ k = 6 ∨ k = 11 ∨ k = 12 ∨ k = 13 ∨ k = 14 ∨ k = 15 ∨ k = 20 ∨ k = 23 ∨ k = 24 ∨ k = 27 ∨ k = 33 := by simpa [isS, or_assoc] using hk
  rcases e with rfl | rfl | rfl | rfl | rfl | rfl | rfl | rfl | rfl | rfl | rfl | rfl | rfl | rfl | rfl | rfl <;> rfl
theorem hM_p {k : Nat} {x : Int32} (hk : isS k = true) : hset (hM E h mo v f) mo (.inr (11, (mL mo v).set k (.int x))) = hM E h mo (upd v k x) f := by
  rw [mL_set hk]
  funext q
  unfold hM hset
  by_cases h1 : q = mo
  · rw [if_pos h1, if_pos h1]
  · rw [if_neg h1, if_neg h1]
    dsimp only
    rw [if_neg h1]
theorem hM_s {k : Nat} {g : Nat → Int32} (h1 : 1 ≤ k) (h2 : k ≤ 20) : hset (hM E h mo v f) (mo + k) (arI E (mT k) (mN k) g) = hM E h mo v (upG f k g) := by
  funext q
  unfold hM hset
  by_cases h3 : q = mo + k
  · subst h3
    rw [if_pos rfl, if_neg (by omega), if_pos (by omega), Nat.add_sub_cancel_left, upG_s]
  · rw [if_neg h3]
    dsimp only
    by_cases h4 : q = mo
    · rw [if_pos h4, if_pos h4]
    · rw [if_neg h4, if_neg h4]
      by_cases h5 : mo < q ∧ q ≤ mo + 20
      · rw [if_pos h5, if_pos h5, upG_n _ _ (by omega)]
      · rw [if_neg h5, if_neg h5]
theorem m_get {idx k : Nat} {w : Value} (hd : decode M.2.1 pc = .ok (.getfield idx, 3)) (g : FW M.1.cls idx 11 k "ClueLogicModel" T_Md 36) (hv : (mL mo v)[k]? = some w) (kk : J E M d cl sl (pc + 3) L (w :: st) (hM E h mo v f) n Q) : J E M d cl sl pc L (.ref mo :: st) (hM E h mo v f) n Q :=
  j_get hd g hM_0 hv kk
theorem m_put {idx k : Nat} {x : Int32} (hd : decode M.2.1 pc = .ok (.putfield idx, 3)) (g : FW M.1.cls idx 11 k "ClueLogicModel" T_Md 36) (hk : isS k = true) (hf : (T_Md k).2.2.2 = false) (hb : E.2.2.2.1 ≤ mo) (h1 : narrow (ty_Md k) (.int x) = .int x) (h2 : fits (ty_Md k) (.int x) = true) (kk : J E M d cl sl (pc + 3) L st (hM E h mo (upd v k x) f) n Q) : J E M d cl sl pc L (.int x :: .ref mo :: st) (hM E h mo v f) n Q := by
  have hl : k < (mL mo v).length := g.2.2.1
  refine j_put hd g fp_Md (Or.inl hf) hM_0 hb h1 h2 hl ?_
  rw [hM_p hk]
  exact kk
theorem mT_0 {k : Nat} (hk : (1 ≤ k ∧ k ≤ 20) ∧ k ≠ 13) : mT k = 0 := if_neg hk.2
theorem m_ald {k j N : Nat} (hd : decode M.2.1 pc = .ok (.iaload, 1)) (hk : (1 ≤ k ∧ k ≤ 20) ∧ k ≠ 13) (hN : mN k = N) (hj : j < N) (hN2 : N < 2 ^ 31) (kk : J E M d cl sl (pc + 1) L (.int (f k j) :: st) (hM E h mo v f) n Q) : J E M d cl sl pc L (.int (nI j) :: .ref (mo + k) :: st) (hM E h mo v f) n Q := by
  subst hN
  have ha := hM_a (E := E) (h := h) (mo := mo) (v := v) (f := f) hk.1.1 hk.1.2
  rw [mT_0 hk] at ha
  refine j_iald (t := 0) hd rfl ha (vp_in_nI hj hN2) ?_ kk
  rw [nI_clamp (by omega)]
theorem m_ald4 {k a b N : Nat} (hd : decode M.2.1 pc = .ok (.iaload, 1)) (hk : (1 ≤ k ∧ k ≤ 20) ∧ k ≠ 13) (hN : mN k = N) (hj : 4 * a + b < N) (hN2 : N < 2 ^ 31) (kk : J E M d cl sl (pc + 1) L (.int (f k (4 * a + b)) :: st) (hM E h mo v f) n Q) : J E M d cl sl pc L (.int (4 * nI a + nI b) :: .ref (mo + k) :: st) (hM E h mo v f) n Q := by
  rw [nI_4]
  exact m_ald hd hk hN hj hN2 kk
theorem m_zld {k j N : Nat} (hd : decode M.2.1 pc = .ok (.baload, 1)) (hk : k = 13) (hN : mN k = N) (hj : j < N) (hN2 : N < 2 ^ 31) (kk : J E M d cl sl (pc + 1) L (.int (f k j) :: st) (hM E h mo v f) n Q) : J E M d cl sl pc L (.int (nI j) :: .ref (mo + k) :: st) (hM E h mo v f) n Q := by
  subst hk
  subst hN
  have ha := hM_a (E := E) (h := h) (mo := mo) (v := v) (f := f) (k := 13) (by decide) (by decide)
  refine j_zald (t := 1) hd rfl ha (vp_in_nI hj hN2) ?_ kk
  rw [nI_clamp (by omega)]
theorem m_ast {k j N : Nat} {x : Int32} (hd : decode M.2.1 pc = .ok (.iastore, 1)) (hk : (1 ≤ k ∧ k ≤ 20) ∧ k ≠ 13) (hN : mN k = N) (hb : E.2.2.2.1 ≤ mo) (hj : j < N) (hN2 : N < 2 ^ 31) (kk : J E M d cl sl (pc + 1) L st (hM E h mo v (upG f k (upd (f k) j x))) n Q) : J E M d cl sl pc L (.int x :: .int (nI j) :: .ref (mo + k) :: st) (hM E h mo v f) n Q := by
  subst hN
  have ha := hM_a (E := E) (h := h) (mo := mo) (v := v) (f := f) hk.1.1 hk.1.2
  have e := hM_s (E := E) (h := h) (mo := mo) (v := v) (f := f) (g := upd (f k) j x) hk.1.1 hk.1.2
  rw [mT_0 hk] at ha e
  refine j_iast (t := 0) hd rfl ha (by omega) (vp_in_nI hj hN2) ?_
  rw [nI_clamp (by omega), e]
  exact kk
theorem m_ast4 {k a b N : Nat} {x : Int32} (hd : decode M.2.1 pc = .ok (.iastore, 1)) (hk : (1 ≤ k ∧ k ≤ 20) ∧ k ≠ 13) (hN : mN k = N) (hb : E.2.2.2.1 ≤ mo) (hj : 4 * a + b < N) (hN2 : N < 2 ^ 31) (kk : J E M d cl sl (pc + 1) L st (hM E h mo v (upG f k (upd (f k) (4 * a + b) x))) n Q) : J E M d cl sl pc L (.int x :: .int (4 * nI a + nI b) :: .ref (mo + k) :: st) (hM E h mo v f) n Q := by
  rw [nI_4]
  exact m_ast hd hk hN hb hj hN2 kk
theorem m_zst {k j N : Nat} {p : Prop} [Decidable p] (hd : decode M.2.1 pc = .ok (.bastore, 1)) (hk : k = 13) (hN : mN k = N) (hb : E.2.2.2.1 ≤ mo) (hj : j < N) (hN2 : N < 2 ^ 31) (kk : J E M d cl sl (pc + 1) L st (hM E h mo v (upG f k (upd (f k) j (bI p)))) n Q) : J E M d cl sl pc L (.int (bI p) :: .int (nI j) :: .ref (mo + k) :: st) (hM E h mo v f) n Q := by
  subst hk
  subst hN
  have ha := hM_a (E := E) (h := h) (mo := mo) (v := v) (f := f) (k := 13) (by decide) (by decide)
  have e := hM_s (E := E) (h := h) (mo := mo) (v := v) (f := f) (k := 13) (g := upd (f 13) j (bI p)) (by decide) (by decide)
  refine j_zast (t := 1) hd rfl ha (by omega) (vp_in_nI hj hN2) ?_
  have e2 : vp_nar .boolean (bI p) = bI p := by rcases bI_01 p with q | q <;> rw [q] <;> rfl
  rw [nI_clamp (by omega), e2]
  show J E M d cl sl (pc + 1) L st (hset (hM E h mo v f) (mo + 13) (arI E (mT 13) (mN 13) (upd (f 13) j (bI p)))) n Q
  rw [e]
  exact kk
/-- a call of the reference's own method, nothing changed -/
theorem m_pV {idx d' k : Nat} {M' : MI} {As rest : List Value} {w : Option Value} (hd : decode M.2.1 pc = .ok (.invokevirtual idx, 3)) (g : CBx M.1.cls idx M' k) (gi : Cond.instanceMethod M'.1 ∈ GW ∧ Cond.selects M'.1.cls M'.1 M'.1 ∈ GW) (hcn : "ClueLogicModel" = M'.1.cls) (hk : As.length = k) (hst : st = As.reverse ++ .ref mo :: rest) (hroom : (rest.map fun v => v.category).sum ≤ 8) (hdd : d' + 1 ≤ d)
    (ct : Ct E M' d' 0 0 (.ref mo :: As) (hM E h mo v f) n (Rt w (hM E h mo v f) n)) (kk : J E M d cl sl (pc + 3) L (w.toList ++ rest) (hM E h mo v f) n Q) : J E M d cl sl pc L st (hM E h mo v f) n Q :=
  j_pV hd g gi hM_0 rfl hcn hk hst hroom hdd ct kk
theorem m_callV {idx d' k : Nat} {M' : MI} {As rest : List Value} {Q' : Option Value → HP → Nat → Prop} (hd : decode M.2.1 pc = .ok (.invokevirtual idx, 3)) (g : CBx M.1.cls idx M' k) (gi : Cond.instanceMethod M'.1 ∈ GW ∧ Cond.selects M'.1.cls M'.1 M'.1 ∈ GW) (hcn : "ClueLogicModel" = M'.1.cls) (hk : As.length = k) (hst : st = As.reverse ++ .ref mo :: rest) (hroom : (rest.map fun v => v.category).sum ≤ 8) (hdd : d' + 1 ≤ d)
    (ct : Ct E M' d' 0 0 (.ref mo :: As) (hM E h mo v f) n Q') (kk : ∀ (w : Option Value) (h' : HP) (n' : Nat), Q' w h' n' → n ≤ n' → J E M d cl sl (pc + 3) L (w.toList ++ rest) h' n' Q) : J E M d cl sl pc L st (hM E h mo v f) n Q :=
  j_callV hd g gi hM_0 rfl hcn hk hst hroom hdd (Nat.zero_le _) (Nat.zero_le _) ct kk
end MBA

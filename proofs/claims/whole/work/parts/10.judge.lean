/-! THE JUDGEMENT J: a method's walk over an abstract heap (a function from addresses to cells), with what is left of the room; Ct: a method's contract in the same words. Rows j_..: an instruction each. -/
abbrev HP : Type := Nat → Option va_E
def hset (h : HP) (a : Nat) (e : va_E) : HP := fun q => if q = a then some e else h q
theorem hset_s (h : HP) (a : Nat) (e : va_E) : hset h a e a = some e := if_pos rfl
theorem hset_n (h : HP) {a q : Nat} (e : va_E) (hq : q ≠ a) : hset h a e q = h q := if_neg hq
/-- launch, numbers of the classes and slots, array classes, the first own address, the addresses of the statics' arrays -/
abbrev EV : Type := Launch × va_G × (Nat → ClassId) × Nat × (Nat → Nat)
def Ab (E : EV) : Nat → Prop := fun q => E.2.2.2.1 ≤ q
def Rp (E : EV) (h : HP) (H : Heap) : Prop := ∀ (a : Nat) (e : va_E), h a = some e → va_at E.2.1 classes (a, e) H
def Zs (E : EV) (U : State) (H : Heap) : Prop := (∀ z ∈ stats E.2.2.2.2, va_Z z.1 z.2.1 z.2.2.1 z.2.2.2 (Ab E) U H) ∧ (∀ t ∈ starr E.2.2.2.2, va_T .int t.1 t.2.1 (fun j => .int (t.2.2 j)) (Ab E) U H) ∧ vk_S 1 [9] [sgnB] (fun _ => E.2.2.2.2 2) (fun _ => E.2.2.2.2 3) (Ab E) U H
theorem Zs.moved {E : EV} {u U : State} {H : Heap} (hvm : u.vm.Alike U.vm) (h : Zs E u H) : Zs E U H := ⟨fun z hz => (h.1 z hz).moved hvm, fun t ht => (h.2.1 t ht).moved hvm, h.2.2.moved hvm⟩
theorem Zs.kept {E : EV} {U : State} {H H1 : Heap} (h : Zs E U H) (hq : ∀ a : Nat, a < H.size → ¬ Ab E a → H1[a]? = H[a]?) : Zs E U H1 := ⟨fun z hz => (h.1 z hz).kept hq, fun t ht => (h.2.1 t ht).kept hq, h.2.2.kept hq⟩
def tysE (E : EV) : List (ClassId × FieldType) := (List.range atys.length).map (fun i => (E.2.2.1 i, atys.getD i .int))
def Kn (E : EV) (U : State) : Prop := va_K E.2.1 classes (tysE E) U ∧ (∀ w ∈ nestF, va_Nw (.fieldLinkNest w.1 w.2.1 w.2.2.1 w.2.2.2.1 w.2.2.2.2.1 w.2.2.2.2.2) U) ∧ (∀ q ∈ faceW, va_Fw q.1 q.2.1 q.2.2 U) ∧ (∀ q ∈ castW, va_Nw (.castable q.1 q.2) U) ∧ (∀ q ∈ overW, va_AO q U) ∧ vk_R "ClueLogic$Reader" 58 "=!<+tp~&|" (E.2.2.2.2 2) U
def wsM (M : MI) : List Cond := .code M.1 M.2.1 M.2.2.1 M.2.2.2 :: GW
def Wd (E : EV) (h : HP) (n : Nat) : State → Prop := fun U => Rp E h U.heap ∧ U.heap.size = n ∧ Kn E U ∧ Zs E U U.heap ∧ E.2.2.2.1 ≤ n
def Qx (E : EV) (Q : Option Value → HP → Nat → Prop) : Array Value → State → Outcome → State → Prop := fun _ st o t => ∃ (v : Option Value) (h : HP) (n : Nat), o = .returned v ∧ Q v h n ∧ Rp E h t.heap ∧ t.heap.size = n ∧ va_F (Ab E) st t
def rmD (d mc ms : Nat) : Room := { frames := d, cells := mc, slots := ms, locals := 40 * d }
def Ct (E : EV) (M : MI) (d mc ms : Nat) (as : List Value) (h : HP) (n : Nat) (Q : Option Value → HP → Nat → Prop) : Prop :=
  Met E.1 M.1 (wsM M) (rmD d mc ms) (va_Pc as (Wd E h n)) (Qx E Q) mc ms (Ab E)
def Cx (E : EV) (M : MI) (p : Program) (s : State) (m : MethodId) (args : Array Value) (meth : Method) (c : Code) : Prop :=
  p.tables.exec = Jvm.exec ∧ c.code = M.2.1 ∧ meth.sig.returnType = M.2.2.2 ∧ c.maxLocals = M.2.2.1 ∧ s.vm.findClass M.1.cls = some m.cls ∧ (∀ w ∈ GW, w.before args s = true) ∧ meth.locks = false ∧ meth.name = M.1.name ∧ Kn E s ∧ Zs E s s.heap ∧ E.2.2.2.1 ≤ s.heap.size
def Dx (E : EV) (M : MI) (d cl sl : Nat) (L : List (Nat × Value)) (h : HP) (n : Nat) (R : Room) (s : State) (H : Heap) (locs : List Loc) (cells slots : Nat) (ls : Array Slot) : Prop :=
  (d ≤ R.frames ∧ 40 * d ≤ R.locals ∧ cells + cl ≤ R.cells ∧ slots + sl ≤ R.slots) ∧ Rp E h H ∧ H.size = n ∧ va_S (Ab E) s.heap H locs ∧ lv_has ls M.2.2.1 L ∧ ∀ q ∈ L, q.2.category = 1
def J (E : EV) (M : MI) (d cl sl pc : Nat) (L : List (Nat × Value)) (st : List Value) (h : HP) (n : Nat) (Q : Option Value → HP → Nat → Prop) : Prop :=
  ∀ (p : Program) (e : Env) (R : Room) (s : State) (m : MethodId) (args : Array Value) (below : List Frame) (meth : Method) (c : Code) (H : Heap) (locs : List Loc) (cells slots : Nat) (ls : Array Slot),
    Cx E M p s m args meth c → Dx E M d cl sl L h n R s H locs cells slots ls →
    W p E.1 e R s m args below meth c H locs cells slots (MQ below (Qx E Q) args s R.cells R.slots (Ab E)) (F0 m pc ls st)
/-! locals: a list by their numbers -/
def lgt : List (Nat × Value) → Nat → Option Value
  | [], _ => none
  | (j, v) :: L, i => match Nat.beq j i with
    | true => some v
    | false => lgt L i
def ldel : List (Nat × Value) → Nat → List (Nat × Value)
  | [], _ => []
  | (j, w) :: L, i => match Nat.beq j i with
    | true => ldel L i
    | false => (j, w) :: ldel L i
def lset : List (Nat × Value) → Nat → Value → List (Nat × Value)
  | [], i, v => [(i, v)]
  | (j, w) :: L, i, v => match Nat.beq j i with
    | true => (i, v) :: ldel L i
    | false => (j, w) :: lset L i v
theorem lgt_mem : ∀ (L : List (Nat × Value)) (i : Nat) (v : Value), lgt L i = some v → (i, v) ∈ L
  | [], _, _, h => by cases h
  | (j, w) :: L, i, v, h => by
    unfold lgt at h
    cases hb : Nat.beq j i with
    | true =>
      rw [hb] at h
      have e := Nat.eq_of_beq_eq_true hb
      cases h
      rw [e]
      exact List.mem_cons_self
    | false =>
      rw [hb] at h
      exact List.mem_cons_of_mem _ (lgt_mem L i v h)
theorem ldel_mem : ∀ (L : List (Nat × Value)) (i : Nat) (q : Nat × Value), q ∈ ldel L i → q ∈ L ∧ q.1 ≠ i
  | [], _, _, h => by cases h
  | (j, w) :: L, i, q, h => by
    unfold ldel at h
    cases hb : Nat.beq j i with
    | true =>
      rw [hb] at h
      have := ldel_mem L i q h
      exact ⟨List.mem_cons_of_mem _ this.1, this.2⟩
    | false =>
      rw [hb] at h
      rcases List.mem_cons.mp h with h1 | h1
      · rw [h1]
        exact ⟨List.mem_cons_self, Nat.ne_of_beq_eq_false hb⟩
      · have := ldel_mem L i q h1
        exact ⟨List.mem_cons_of_mem _ this.1, this.2⟩
theorem lset_mem : ∀ (L : List (Nat × Value)) (i : Nat) (v : Value) (q : Nat × Value), q ∈ lset L i v → q = (i, v) ∨ (q ∈ L ∧ q.1 ≠ i)
  | [], i, v, q, h => by
    left
    exact List.mem_singleton.mp h
  | (j, w) :: L, i, v, q, h => by
    unfold lset at h
    cases hb : Nat.beq j i with
    | true =>
      rw [hb] at h
      rcases List.mem_cons.mp h with h1 | h1
      · exact Or.inl h1
      · have := ldel_mem L i q h1
        exact Or.inr ⟨List.mem_cons_of_mem _ this.1, this.2⟩
    | false =>
      rw [hb] at h
      rcases List.mem_cons.mp h with h1 | h1
      · rw [h1]
        exact Or.inr ⟨List.mem_cons_self, Nat.ne_of_beq_eq_false hb⟩
      · rcases lset_mem L i v q h1 with h2 | h2
        · exact Or.inl h2
        · exact Or.inr ⟨List.mem_cons_of_mem _ h2.1, h2.2⟩
theorem lgt_at {ls : Array Slot} {nL : Nat} {L : List (Nat × Value)} (h : lv_has ls nL L) {i : Nat} {v : Value} (hv : lgt L i = some v) : ls[i]? = some (.val v) := h.2.2 (i, v) (lgt_mem L i v hv)
theorem lset_has {ls : Array Slot} {nL : Nat} {L : List (Nat × Value)} {i : Nat} {v : Value} (hc : ∀ q ∈ L, q.2.category = 1) (h : lv_has ls nL ((i, v) :: L.filter (fun q => !(q.1 == i) && !(q.1 + 1 == i && q.2.category == 2)))) : lv_has ls nL (lset L i v) := by
  refine ⟨h.1, h.2.1, fun q hq => h.2.2 q ?_⟩
  rcases lset_mem L i v q hq with h1 | ⟨h1, h2⟩
  · rw [h1]; exact List.mem_cons_self
  · refine List.mem_cons_of_mem _ (List.mem_filter.mpr ⟨h1, ?_⟩)
    have := hc q h1
    simp [h2, this]
theorem lset_cat {L : List (Nat × Value)} {i : Nat} {v : Value} (hc : ∀ q ∈ L, q.2.category = 1) (hv : v.category = 1) : ∀ q ∈ lset L i v, q.2.category = 1 := by
  intro q hq
  rcases lset_mem L i v q hq with h1 | ⟨h1, -⟩
  · rw [h1]; exact hv
  · exact hc q h1
/-! the heap's steps -/
theorem Rp.set {E : EV} {h : HP} {H H1 : Heap} {a : Nat} {e : va_E} (hR : Rp E h H) (he : va_at E.2.1 classes (a, e) H1) (oq : ∀ q : Nat, q ≠ a → H1[q]? = H[q]?) : Rp E (hset h a e) H1 := by
  intro q f hq
  by_cases hqa : q = a
  · subst hqa
    rw [hset_s] at hq
    cases hq
    exact he
  · rw [hset_n h e hqa] at hq
    exact va_at.kept (hR q f hq) (oq q hqa)
theorem Rp.push {E : EV} {h : HP} {H H1 : Heap} {e : va_E} (hR : Rp E h H) (he : va_at E.2.1 classes (H.size, e) H1) (oq : ∀ q : Nat, q < H.size → H1[q]? = H[q]?) : Rp E (hset h H.size e) H1 := by
  intro q f hq
  by_cases hqa : q = H.size
  · subst hqa
    rw [hset_s] at hq
    cases hq
    exact he
  · rw [hset_n h e hqa] at hq
    exact va_at.kept (hR q f hq) (oq q (va_at.lt (hR q f hq)))
theorem Rp.kept {E : EV} {h : HP} {H H1 : Heap} (hR : Rp E h H) (e : H1 = H) : Rp E h H1 := by subst e; exact hR
theorem Kn.warm {E : EV} {s U : State} (hW : s.WarmedH U.vm) (h : Kn E s) : Kn E U :=
  ⟨va_K.moved hW.alike h.1, fun w hw => va_Nw.warmF hW (h.2.1 w hw), fun q hq => va_Fw.moved (faceW_ok q hq) hW.alike (h.2.2.1 q hq), fun q hq => va_Nw.warmC hW (h.2.2.2.1 q hq), fun q hq => (h.2.2.2.2.1 q hq).moved hW.alike, h.2.2.2.2.2.warm hW⟩
theorem Kn.same {E : EV} {s U : State} (hW : s.vm = U.vm) (h : Kn E s) : Kn E U :=
  ⟨va_K.moved (by rw [hW]; exact Vm.Alike.refl _) h.1, fun w hw => va_Nw.same rfl hW (h.2.1 w hw), fun q hq => va_Fw.moved (faceW_ok q hq) (by rw [hW]; exact Vm.Alike.refl _) (h.2.2.1 q hq), fun q hq => va_Nw.same rfl hW (h.2.2.2.1 q hq), fun q hq => (h.2.2.2.2.1 q hq).moved (by rw [hW]; exact Vm.Alike.refl _), h.2.2.2.2.2.same hW.symm⟩
theorem Wd.blind {E : EV} {as : List Value} {h : HP} {n : Nat} : FrameBlind (va_Pc as (Wd E h n)) := by
  intro a U g mk ⟨h1, h2, h3, h4, h5, h6⟩
  exact ⟨h1, h2, h3, Kn.same rfl h4, h5.moved (Vm.Alike.refl U.vm), h6⟩
theorem Wd.at {E : EV} {h : HP} {s : State} {H : Heap} {locs : List Loc} (hR : Rp E h H) (hK : Kn E s) (hZ : Zs E s s.heap) (hS : va_S (Ab E) s.heap H locs) (hb : E.2.2.2.1 ≤ s.heap.size) {U : State} (hU : U.heap = H) (hW : s.WarmedH U.vm) : Wd E h H.size U :=
  ⟨by rw [hU]; exact hR, by rw [hU], Kn.warm hW hK, by rw [hU]; exact (hZ.kept hS.2.1).moved hW.alike, Nat.le_trans hb hS.1⟩

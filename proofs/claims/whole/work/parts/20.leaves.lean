/-- ClueLogic: text, length, puzzle, answers, crossing, ran -/
abbrev oC (f0 : Nat) (f1 : Int32) (f2 : Nat) (f3 : Nat) (f4 : Nat) (f5 : Int32) : va_E := .inr (0, [.ref f0, .int f1, .ref f2, .ref f3, .ref f4, .int f5])
/-- ClueLogic$Answers: puzzle, walk, keptOrder, keptParty, countWithOrder, holding, needed, count, kept, found -/
abbrev oAn (f0 : Nat) (f1 : Nat) (f2 : Nat) (f3 : Nat) (f4 : Nat) (f5 : Nat) (f6 : Nat) (f7 : Int32) (f8 : Int32) (f9 : Int32) : va_E := .inr (1, [.ref f0, .ref f1, .ref f2, .ref f3, .ref f4, .ref f5, .ref f6, .int f7, .int f8, .int f9])
/-- ClueLogic$Crossing: puzzle, walk, may, seen, mayBe, seenToBe, stepClue, stepCrossed, steps, finished -/
abbrev oCr (f0 : Nat) (f1 : Nat) (f2 : Nat) (f3 : Nat) (f4 : Int32) (f5 : Int32) (f6 : Nat) (f7 : Nat) (f8 : Int32) (f9 : Int32) : va_E := .inr (2, [.ref f0, .ref f1, .ref f2, .ref f3, .int f4, .int f5, .ref f6, .ref f7, .int f8, .int f9])
/-- ClueLogic$Joined: both, first, second -/
abbrev oJo (f0 : Int32) (f1 : Nat) (f2 : Nat) : va_E := .inr (3, [.int f0, .ref f1, .ref f2])
/-- ClueLogic$OfPerson: parties -/
abbrev oOp (f0 : Int32) : va_E := .inr (4, [.int f0])
/-- ClueLogic$OfValues: sign, v, w -/
abbrev oOv (f0 : Int32) (f1 : Int32) (f2 : Int32) : va_E := .inr (5, [.int f0, .int f1, .int f2])
/-- ClueLogic$Orders: things, ticks, value, count, allTicks -/
abbrev oOd (f0 : Int32) (f1 : Nat) (f2 : Nat) (f3 : Int32) (f4 : Int32) : va_E := .inr (6, [.int f0, .ref f1, .ref f2, .int f3, .int f4])
/-- ClueLogic$Puzzle: things, kinds, persons, orders, clues, clueCount -/
abbrev oPz (f0 : Int32) (f1 : Int32) (f2 : Int32) (f3 : Nat) (f4 : Nat) (f5 : Int32) : va_E := .inr (7, [.int f0, .int f1, .int f2, .ref f3, .ref f4, .int f5])
/-- ClueLogic$Reader: text, length, place, kinds, things, persons, signs -/
abbrev oRd (f0 : Nat) (f1 : Int32) (f2 : Int32) (f3 : Int32) (f4 : Int32) (f5 : Int32) (f6 : Int32) : va_E := .inr (8, [.ref f0, .int f1, .int f2, .int f3, .int f4, .int f5, .int f6])
/-- ClueLogic$Turned: turning, part -/
abbrev oTu (f0 : Int32) (f1 : Nat) : va_E := .inr (9, [.int f0, .ref f1])
/-- ClueLogic$Walk: orders, kinds, open, openCount, at, thing -/
abbrev oWk (f0 : Nat) (f1 : Int32) (f2 : Nat) (f3 : Nat) (f4 : Nat) (f5 : Nat) : va_E := .inr (10, [.ref f0, .int f1, .ref f2, .ref f3, .ref f4, .ref f5])
/-- ClueLogicModel: thrown, size, text, things, kinds, persons, clues, begins, signs, ones, twos, newThings, newKinds, newPersons, newClues, at, newBegins, newSigns, newOnes, newTwos, orders, values, seats, isKnown, isCrossed, holds, pile, kept, answers, may, mayBe, some, someBe, steps, stepClue, stepMuch -/
abbrev oMd (f0 : Int32) (f1 : Int32) (f2 : Nat) (f3 : Int32) (f4 : Int32) (f5 : Int32) (f6 : Int32) (f7 : Nat) (f8 : Nat) (f9 : Nat) (f10 : Nat) (f11 : Int32) (f12 : Int32) (f13 : Int32) (f14 : Int32) (f15 : Int32) (f16 : Nat) (f17 : Nat) (f18 : Nat) (f19 : Nat) (f20 : Int32) (f21 : Nat) (f22 : Nat) (f23 : Int32) (f24 : Int32) (f25 : Nat) (f26 : Nat) (f27 : Int32) (f28 : Nat) (f29 : Nat) (f30 : Nat) (f31 : Nat) (f32 : Nat) (f33 : Int32) (f34 : Nat) (f35 : Nat) : va_E := .inr (11, [.int f0, .int f1, .ref f2, .int f3, .int f4, .int f5, .int f6, .ref f7, .ref f8, .ref f9, .ref f10, .int f11, .int f12, .int f13, .int f14, .int f15, .ref f16, .ref f17, .ref f18, .ref f19, .int f20, .ref f21, .ref f22, .int f23, .int f24, .ref f25, .ref f26, .int f27, .ref f28, .ref f29, .ref f30, .ref f31, .ref f32, .int f33, .ref f34, .ref f35])
theorem c_Pz_orders {E : EV} {h : HP} {n a : Nat} {fs : List Value} {x : Nat} (ha : h a = some (.inr (7, fs))) (hv : fs[3]? = some (.ref x)) : Ct E m_Pz_orders 0 0 0 [.ref a] h n (Rt (some (.ref x)) h n) :=
  Ct.go rfl rfl rfl (j_aload_n d_Pz_orders_0 rfl (j_get d_Pz_orders_1 fl_Pz_32 ha hv (j_aret d_Pz_orders_4 rfl (Or.inl ⟨_, rfl⟩) rfl ⟨rfl, rfl, rfl⟩)))
theorem c_Pz_kinds {E : EV} {h : HP} {n a : Nat} {fs : List Value} {x : Int32} (ha : h a = some (.inr (7, fs))) (hv : fs[1]? = some (.int x)) : Ct E m_Pz_kinds 0 0 0 [.ref a] h n (Rt (some (.int x)) h n) :=
  Ct.go rfl rfl rfl (j_aload_n d_Pz_kinds_0 rfl (j_get d_Pz_kinds_1 fl_Pz_21 ha hv (j_iret d_Pz_kinds_4 rfl ⟨rfl, rfl, rfl⟩)))
theorem c_Od_allTicks {E : EV} {h : HP} {n a : Nat} {fs : List Value} {x : Int32} (ha : h a = some (.inr (6, fs))) (hv : fs[4]? = some (.int x)) : Ct E m_Od_allTicks 0 0 0 [.ref a] h n (Rt (some (.int x)) h n) :=
  Ct.go rfl rfl rfl (j_aload_n d_Od_allTicks_0 rfl (j_get d_Od_allTicks_1 fl_Od_29 ha hv (j_iret d_Od_allTicks_4 rfl ⟨rfl, rfl, rfl⟩)))
theorem c_Pz_persons {E : EV} {h : HP} {n a : Nat} {fs : List Value} {x : Int32} (ha : h a = some (.inr (7, fs))) (hv : fs[2]? = some (.int x)) : Ct E m_Pz_persons 0 0 0 [.ref a] h n (Rt (some (.int x)) h n) :=
  Ct.go rfl rfl rfl (j_aload_n d_Pz_persons_0 rfl (j_get d_Pz_persons_1 fl_Pz_24 ha hv (j_iret d_Pz_persons_4 rfl ⟨rfl, rfl, rfl⟩)))
theorem c_Rd_place {E : EV} {h : HP} {n a : Nat} {fs : List Value} {x : Int32} (ha : h a = some (.inr (8, fs))) (hv : fs[2]? = some (.int x)) : Ct E m_Rd_place 0 0 0 [.ref a] h n (Rt (some (.int x)) h n) :=
  Ct.go rfl rfl rfl (j_aload_n d_Rd_place_0 rfl (j_get d_Rd_place_1 fl_Rd_19 ha hv (j_iret d_Rd_place_4 rfl ⟨rfl, rfl, rfl⟩)))
theorem c_Pz_clueCount {E : EV} {h : HP} {n a : Nat} {fs : List Value} {x : Int32} (ha : h a = some (.inr (7, fs))) (hv : fs[5]? = some (.int x)) : Ct E m_Pz_clueCount 0 0 0 [.ref a] h n (Rt (some (.int x)) h n) :=
  Ct.go rfl rfl rfl (j_aload_n d_Pz_clueCount_0 rfl (j_get d_Pz_clueCount_1 fl_Pz_36 ha hv (j_iret d_Pz_clueCount_4 rfl ⟨rfl, rfl, rfl⟩)))
theorem c_Pz_things {E : EV} {h : HP} {n a : Nat} {fs : List Value} {x : Int32} (ha : h a = some (.inr (7, fs))) (hv : fs[0]? = some (.int x)) : Ct E m_Pz_things 0 0 0 [.ref a] h n (Rt (some (.int x)) h n) :=
  Ct.go rfl rfl rfl (j_aload_n d_Pz_things_0 rfl (j_get d_Pz_things_1 fl_Pz_17 ha hv (j_iret d_Pz_things_4 rfl ⟨rfl, rfl, rfl⟩)))
theorem c_Od_count {E : EV} {h : HP} {n a : Nat} {fs : List Value} {x : Int32} (ha : h a = some (.inr (6, fs))) (hv : fs[3]? = some (.int x)) : Ct E m_Od_count 0 0 0 [.ref a] h n (Rt (some (.int x)) h n) :=
  Ct.go rfl rfl rfl (j_aload_n d_Od_count_0 rfl (j_get d_Od_count_1 fl_Od_26 ha hv (j_iret d_Od_count_4 rfl ⟨rfl, rfl, rfl⟩)))
theorem c_Od_things {E : EV} {h : HP} {n a : Nat} {fs : List Value} {x : Int32} (ha : h a = some (.inr (6, fs))) (hv : fs[0]? = some (.int x)) : Ct E m_Od_things 0 0 0 [.ref a] h n (Rt (some (.int x)) h n) :=
  Ct.go rfl rfl rfl (j_aload_n d_Od_things_0 rfl (j_get d_Od_things_1 fl_Od_18 ha hv (j_iret d_Od_things_4 rfl ⟨rfl, rfl, rfl⟩)))
theorem c_Wk_thing {E : EV} {h : HP} {n a : Nat} {fs : List Value} {x : Nat} (ha : h a = some (.inr (10, fs))) (hv : fs[5]? = some (.ref x)) : Ct E m_Wk_thing 0 0 0 [.ref a] h n (Rt (some (.ref x)) h n) :=
  Ct.go rfl rfl rfl (j_aload_n d_Wk_thing_0 rfl (j_get d_Wk_thing_1 fl_Wk_21 ha hv (j_aret d_Wk_thing_4 rfl (Or.inr ⟨_, rfl⟩) rfl ⟨rfl, rfl, rfl⟩)))
theorem c_An_count {E : EV} {h : HP} {n a : Nat} {fs : List Value} {x : Int32} (ha : h a = some (.inr (1, fs))) (hv : fs[7]? = some (.int x)) : Ct E m_An_count 0 0 0 [.ref a] h n (Rt (some (.int x)) h n) :=
  Ct.go rfl rfl rfl (j_aload_n d_An_count_0 rfl (j_get d_An_count_1 fl_An_41 ha hv (j_iret d_An_count_4 rfl ⟨rfl, rfl, rfl⟩)))
theorem c_An_kept {E : EV} {h : HP} {n a : Nat} {fs : List Value} {x : Int32} (ha : h a = some (.inr (1, fs))) (hv : fs[8]? = some (.int x)) : Ct E m_An_kept 0 0 0 [.ref a] h n (Rt (some (.int x)) h n) :=
  Ct.go rfl rfl rfl (j_aload_n d_An_kept_0 rfl (j_get d_An_kept_1 fl_An_45 ha hv (j_iret d_An_kept_4 rfl ⟨rfl, rfl, rfl⟩)))
theorem c_Cr_steps {E : EV} {h : HP} {n a : Nat} {fs : List Value} {x : Int32} (ha : h a = some (.inr (2, fs))) (hv : fs[8]? = some (.int x)) : Ct E m_Cr_steps 0 0 0 [.ref a] h n (Rt (some (.int x)) h n) :=
  Ct.go rfl rfl rfl (j_aload_n d_Cr_steps_0 rfl (j_get d_Cr_steps_1 fl_Cr_63 ha hv (j_iret d_Cr_steps_4 rfl ⟨rfl, rfl, rfl⟩)))
theorem c_Pz_hasThing {E : EV} {h : HP} {n a : Nat} {fs : List Value} {t x : Int32} (ha : h a = some (.inr (7, fs))) (hv : fs[0]? = some (.int x)) : Ct E m_Pz_hasThing 0 0 0 [.ref a, .int t] h n (Rt (some (.int (bI (0 ≤ t ∧ t < x)))) h n) := by
  refine Ct.go rfl rfl rfl ?_
  refine j_iload_n d_Pz_hasThing_0 rfl ?_
  refine j_if_lt (tgt := 16) d_Pz_hasThing_1 (by decide) (fun c => ?_) (fun c => ?_)
  · refine j_iconst (v := 0) d_Pz_hasThing_16 (by decide) ?_
    exact j_zret d_Pz_hasThing_17 rfl (Or.inl rfl) ⟨by rw [bI_f (fun q => absurd q.1 (Int32.not_le.mpr c))], rfl, rfl⟩
  · refine j_iload_n d_Pz_hasThing_4 rfl ?_
    refine j_aload_n d_Pz_hasThing_5 rfl ?_
    refine j_get d_Pz_hasThing_6 fl_Pz_17 ha hv ?_
    refine j_icmp_ge (tgt := 16) d_Pz_hasThing_9 (by decide) (fun c2 => ?_) (fun c2 => ?_)
    · refine j_iconst (v := 0) d_Pz_hasThing_16 (by decide) ?_
      exact j_zret d_Pz_hasThing_17 rfl (Or.inl rfl) ⟨by rw [bI_f (fun q => absurd q.2 (Int32.not_lt.mpr c2))], rfl, rfl⟩
    · refine j_iconst (v := 1) d_Pz_hasThing_12 (by decide) ?_
      refine j_goto (tgt := 17) d_Pz_hasThing_13 (by decide) ?_
      exact j_zret d_Pz_hasThing_17 rfl (Or.inr rfl) ⟨by rw [bI_t ⟨Int32.not_lt.mp c, Int32.not_le.mp c2⟩], rfl, rfl⟩
theorem c_Pz_hasKind {E : EV} {h : HP} {n a : Nat} {fs : List Value} {t x : Int32} (ha : h a = some (.inr (7, fs))) (hv : fs[1]? = some (.int x)) : Ct E m_Pz_hasKind 0 0 0 [.ref a, .int t] h n (Rt (some (.int (bI (0 ≤ t ∧ t < x)))) h n) := by
  refine Ct.go rfl rfl rfl ?_
  refine j_iload_n d_Pz_hasKind_0 rfl ?_
  refine j_if_lt (tgt := 16) d_Pz_hasKind_1 (by decide) (fun c => ?_) (fun c => ?_)
  · refine j_iconst (v := 0) d_Pz_hasKind_16 (by decide) ?_
    exact j_zret d_Pz_hasKind_17 rfl (Or.inl rfl) ⟨by rw [bI_f (fun q => absurd q.1 (Int32.not_le.mpr c))], rfl, rfl⟩
  · refine j_iload_n d_Pz_hasKind_4 rfl ?_
    refine j_aload_n d_Pz_hasKind_5 rfl ?_
    refine j_get d_Pz_hasKind_6 fl_Pz_21 ha hv ?_
    refine j_icmp_ge (tgt := 16) d_Pz_hasKind_9 (by decide) (fun c2 => ?_) (fun c2 => ?_)
    · refine j_iconst (v := 0) d_Pz_hasKind_16 (by decide) ?_
      exact j_zret d_Pz_hasKind_17 rfl (Or.inl rfl) ⟨by rw [bI_f (fun q => absurd q.2 (Int32.not_lt.mpr c2))], rfl, rfl⟩
    · refine j_iconst (v := 1) d_Pz_hasKind_12 (by decide) ?_
      refine j_goto (tgt := 17) d_Pz_hasKind_13 (by decide) ?_
      exact j_zret d_Pz_hasKind_17 rfl (Or.inr rfl) ⟨by rw [bI_t ⟨Int32.not_lt.mp c, Int32.not_le.mp c2⟩], rfl, rfl⟩
theorem c_Pz_hasValue {E : EV} {h : HP} {n a : Nat} {fs : List Value} {t x : Int32} (ha : h a = some (.inr (7, fs))) (hv : fs[0]? = some (.int x)) : Ct E m_Pz_hasValue 0 0 0 [.ref a, .int t] h n (Rt (some (.int (bI (0 ≤ t ∧ t < x)))) h n) := by
  refine Ct.go rfl rfl rfl ?_
  refine j_iload_n d_Pz_hasValue_0 rfl ?_
  refine j_if_lt (tgt := 16) d_Pz_hasValue_1 (by decide) (fun c => ?_) (fun c => ?_)
  · refine j_iconst (v := 0) d_Pz_hasValue_16 (by decide) ?_
    exact j_zret d_Pz_hasValue_17 rfl (Or.inl rfl) ⟨by rw [bI_f (fun q => absurd q.1 (Int32.not_le.mpr c))], rfl, rfl⟩
  · refine j_iload_n d_Pz_hasValue_4 rfl ?_
    refine j_aload_n d_Pz_hasValue_5 rfl ?_
    refine j_get d_Pz_hasValue_6 fl_Pz_17 ha hv ?_
    refine j_icmp_ge (tgt := 16) d_Pz_hasValue_9 (by decide) (fun c2 => ?_) (fun c2 => ?_)
    · refine j_iconst (v := 0) d_Pz_hasValue_16 (by decide) ?_
      exact j_zret d_Pz_hasValue_17 rfl (Or.inl rfl) ⟨by rw [bI_f (fun q => absurd q.2 (Int32.not_lt.mpr c2))], rfl, rfl⟩
    · refine j_iconst (v := 1) d_Pz_hasValue_12 (by decide) ?_
      refine j_goto (tgt := 17) d_Pz_hasValue_13 (by decide) ?_
      exact j_zret d_Pz_hasValue_17 rfl (Or.inr rfl) ⟨by rw [bI_t ⟨Int32.not_lt.mp c, Int32.not_le.mp c2⟩], rfl, rfl⟩
theorem c_Pz_hasPerson {E : EV} {h : HP} {n a : Nat} {fs : List Value} {t x : Int32} (ha : h a = some (.inr (7, fs))) (hv : fs[2]? = some (.int x)) : Ct E m_Pz_hasPerson 0 0 0 [.ref a, .int t] h n (Rt (some (.int (bI (0 ≤ t ∧ t < x)))) h n) := by
  refine Ct.go rfl rfl rfl ?_
  refine j_iload_n d_Pz_hasPerson_0 rfl ?_
  refine j_if_lt (tgt := 16) d_Pz_hasPerson_1 (by decide) (fun c => ?_) (fun c => ?_)
  · refine j_iconst (v := 0) d_Pz_hasPerson_16 (by decide) ?_
    exact j_zret d_Pz_hasPerson_17 rfl (Or.inl rfl) ⟨by rw [bI_f (fun q => absurd q.1 (Int32.not_le.mpr c))], rfl, rfl⟩
  · refine j_iload_n d_Pz_hasPerson_4 rfl ?_
    refine j_aload_n d_Pz_hasPerson_5 rfl ?_
    refine j_get d_Pz_hasPerson_6 fl_Pz_24 ha hv ?_
    refine j_icmp_ge (tgt := 16) d_Pz_hasPerson_9 (by decide) (fun c2 => ?_) (fun c2 => ?_)
    · refine j_iconst (v := 0) d_Pz_hasPerson_16 (by decide) ?_
      exact j_zret d_Pz_hasPerson_17 rfl (Or.inl rfl) ⟨by rw [bI_f (fun q => absurd q.2 (Int32.not_lt.mpr c2))], rfl, rfl⟩
    · refine j_iconst (v := 1) d_Pz_hasPerson_12 (by decide) ?_
      refine j_goto (tgt := 17) d_Pz_hasPerson_13 (by decide) ?_
      exact j_zret d_Pz_hasPerson_17 rfl (Or.inr rfl) ⟨by rw [bI_t ⟨Int32.not_lt.mp c, Int32.not_le.mp c2⟩], rfl, rfl⟩
theorem c_Pz_hasClue {E : EV} {h : HP} {n a : Nat} {fs : List Value} {t x : Int32} (ha : h a = some (.inr (7, fs))) (hv : fs[5]? = some (.int x)) : Ct E m_Pz_hasClue 0 0 0 [.ref a, .int t] h n (Rt (some (.int (bI (0 ≤ t ∧ t < x)))) h n) := by
  refine Ct.go rfl rfl rfl ?_
  refine j_iload_n d_Pz_hasClue_0 rfl ?_
  refine j_if_lt (tgt := 16) d_Pz_hasClue_1 (by decide) (fun c => ?_) (fun c => ?_)
  · refine j_iconst (v := 0) d_Pz_hasClue_16 (by decide) ?_
    exact j_zret d_Pz_hasClue_17 rfl (Or.inl rfl) ⟨by rw [bI_f (fun q => absurd q.1 (Int32.not_le.mpr c))], rfl, rfl⟩
  · refine j_iload_n d_Pz_hasClue_4 rfl ?_
    refine j_aload_n d_Pz_hasClue_5 rfl ?_
    refine j_get d_Pz_hasClue_6 fl_Pz_36 ha hv ?_
    refine j_icmp_ge (tgt := 16) d_Pz_hasClue_9 (by decide) (fun c2 => ?_) (fun c2 => ?_)
    · refine j_iconst (v := 0) d_Pz_hasClue_16 (by decide) ?_
      exact j_zret d_Pz_hasClue_17 rfl (Or.inl rfl) ⟨by rw [bI_f (fun q => absurd q.2 (Int32.not_lt.mpr c2))], rfl, rfl⟩
    · refine j_iconst (v := 1) d_Pz_hasClue_12 (by decide) ?_
      refine j_goto (tgt := 17) d_Pz_hasClue_13 (by decide) ?_
      exact j_zret d_Pz_hasClue_17 rfl (Or.inr rfl) ⟨by rw [bI_t ⟨Int32.not_lt.mp c, Int32.not_le.mp c2⟩], rfl, rfl⟩
section LE
variable {E : EV} {h : HP} {n : Nat}
theorem hset_hset (h : HP) (a : Nat) (e f : va_E) : hset (hset h a e) a f = hset h a f := by
  funext q
  unfold hset
  split <;> simp_all
theorem hset_id {h : HP} {a : Nat} {e : va_E} (ha : h a = some e) : hset h a e = h := by
  funext q
  unfold hset
  split
  · rename_i hq; rw [hq, ha]
  · rfl
theorem hset_comm (h : HP) {a b : Nat} (e f : va_E) (hab : a ≠ b) : hset (hset h a e) b f = hset (hset h b f) a e := by
  funext q
  unfold hset
  by_cases h1 : q = a <;> by_cases h2 : q = b <;> simp_all
theorem J.conv {M : MI} {d cl sl pc : Nat} {L L' : List (Nat × Value)} {st : List Value} {h h' : HP} {n : Nat} {Q : Option Value → HP → Nat → Prop} (hL : L' = L) (hh : h' = h) (k : J E M d cl sl pc L st h n Q) : J E M d cl sl pc L' st h' n Q := by
  subst hL; subst hh; exact k
/-! Integer.bitCount, as it counts -/
def ush (x y : Int32) : Int32 := (x.toUInt32 >>> (y.toUInt32 &&& Int32.toUInt32 31)).toInt32
def bc1 (x : Int32) : Int32 := x - (ush x 1 &&& 1431655765)
def bc2 (x : Int32) : Int32 := (x &&& 858993459) + (ush x 2 &&& 858993459)
def bc3 (x : Int32) : Int32 := (x + ush x 4) &&& 252645135
def bc4 (x : Int32) : Int32 := x + ush x 8
def bc5 (x : Int32) : Int32 := x + ush x 16
def bcF (x : Int32) : Int32 := bc5 (bc4 (bc3 (bc2 (bc1 x)))) &&& 63
theorem c_In_bitCount (x : Int32) : Ct E m_In_bitCount 0 0 0 [.int x] h n (Rt (some (.int (bcF x))) h n) := by
  refine Ct.go rfl rfl rfl ?_
  refine j_iload_n d_In_bitCount_0 rfl ?_
  refine j_iload_n d_In_bitCount_1 rfl ?_
  refine j_iconst (v := 1) d_In_bitCount_2 (by decide) ?_
  refine j_iushr d_In_bitCount_3 rfl ?_
  refine j_ldc_w d_In_bitCount_4 kc_In_265 ?_
  refine j_iand d_In_bitCount_7 ?_
  refine j_isub d_In_bitCount_8 ?_
  refine j_istore_n (x := bc1 x) d_In_bitCount_9 (by decide) ?_
  refine j_iload_n d_In_bitCount_10 rfl ?_
  refine j_ldc_w d_In_bitCount_11 kc_In_266 ?_
  refine j_iand d_In_bitCount_14 ?_
  refine j_iload_n d_In_bitCount_15 rfl ?_
  refine j_iconst (v := 2) d_In_bitCount_16 (by decide) ?_
  refine j_iushr d_In_bitCount_17 rfl ?_
  refine j_ldc_w d_In_bitCount_18 kc_In_266 ?_
  refine j_iand d_In_bitCount_21 ?_
  refine j_iadd d_In_bitCount_22 ?_
  refine j_istore_n (x := bc2 (bc1 x)) d_In_bitCount_23 (by decide) ?_
  refine j_iload_n d_In_bitCount_24 rfl ?_
  refine j_iload_n d_In_bitCount_25 rfl ?_
  refine j_iconst (v := 4) d_In_bitCount_26 (by decide) ?_
  refine j_iushr d_In_bitCount_27 rfl ?_
  refine j_iadd d_In_bitCount_28 ?_
  refine j_ldc_w d_In_bitCount_29 kc_In_267 ?_
  refine j_iand d_In_bitCount_32 ?_
  refine j_istore_n (x := bc3 (bc2 (bc1 x))) d_In_bitCount_33 (by decide) ?_
  refine j_iload_n d_In_bitCount_34 rfl ?_
  refine j_iload_n d_In_bitCount_35 rfl ?_
  refine j_bipush (v := 8) d_In_bitCount_36 (by decide) ?_
  refine j_iushr d_In_bitCount_38 rfl ?_
  refine j_iadd d_In_bitCount_39 ?_
  refine j_istore_n (x := bc4 (bc3 (bc2 (bc1 x)))) d_In_bitCount_40 (by decide) ?_
  refine j_iload_n d_In_bitCount_41 rfl ?_
  refine j_iload_n d_In_bitCount_42 rfl ?_
  refine j_bipush (v := 16) d_In_bitCount_43 (by decide) ?_
  refine j_iushr d_In_bitCount_45 rfl ?_
  refine j_iadd d_In_bitCount_46 ?_
  refine j_istore_n (x := bc5 (bc4 (bc3 (bc2 (bc1 x))))) d_In_bitCount_47 (by decide) ?_
  refine j_iload_n d_In_bitCount_48 rfl ?_
  refine j_bipush (v := 63) d_In_bitCount_49 (by decide) ?_
  refine j_iand d_In_bitCount_51 ?_
  exact j_iret d_In_bitCount_52 rfl ⟨rfl, rfl, rfl⟩
/-! Arrays.fill -/
def fillF (f : Nat → Int32) (k : Nat) (v : Int32) : Nat → Int32 := fun j => if j < k then v else f j
theorem fillF_0 (f : Nat → Int32) (v : Int32) : fillF f 0 v = f := by funext j; simp [fillF]
theorem fillF_s (f : Nat → Int32) (k : Nat) (v : Int32) : upd (fillF f k v) k v = fillF f (k + 1) v := by
  funext j
  unfold upd fillF
  by_cases h1 : j = k
  · simp [h1]
  · by_cases h2 : j < k
    · simp [h1, h2, Nat.lt_succ_of_lt h2]
    · have : ¬ j < k + 1 := by omega
      simp [h1, h2, this]
theorem l_Ar_fill {d cl sl a N : Nat} {f : Nat → Int32} {v : Int32} {Q : Option Value → HP → Nat → Prop} (hN : N < 2 ^ 31) (hb : E.2.2.2.1 ≤ a) (hQ : Q none (hset h a (arI E 0 N (fillF f N v))) n) :
    ∀ k i, i + k = N → J E m_Ar_fill d cl sl 5 [(0, .ref a), (1, .int v), (2, .int (nI i)), (3, .int (nI N))] [] (hset h a (arI E 0 N (fillF f i v))) n Q := by
  intro k
  induction k with
  | zero =>
    intro i hi
    have hi : i = N := by omega
    subst hi
    refine j_iload_n d_Ar_fill_5 rfl ?_
    refine j_iload_n d_Ar_fill_6 rfl ?_
    refine j_icmp_ge (tgt := 20) d_Ar_fill_7 (by decide) (fun c => ?_) (fun c => ?_)
    · exact j_vret d_Ar_fill_20 rfl hQ
    · exact absurd (nI_le (Nat.le_refl _) hN) c
  | succ k ih =>
    intro i hi
    refine j_iload_n d_Ar_fill_5 rfl ?_
    refine j_iload_n d_Ar_fill_6 rfl ?_
    refine j_icmp_ge (tgt := 20) d_Ar_fill_7 (by decide) (fun c => absurd c (nI_ge (by omega) hN)) (fun c => ?_)
    refine j_aload_n d_Ar_fill_10 rfl ?_
    refine j_iload_n d_Ar_fill_11 rfl ?_
    refine j_iload_n d_Ar_fill_12 rfl ?_
    refine j_iast (t := 0) d_Ar_fill_13 rfl (by first | assumption | exact hset_s _ _ _ | (rw [hset_n _ _ (by omega)]; first | assumption | exact hset_s _ _ _ | (rw [hset_n _ _ (by omega)]; first | assumption | exact hset_s _ _ _ | (rw [hset_n _ _ (by omega)]; first | assumption | exact hset_s _ _ _ | (rw [hset_n _ _ (by omega)]; first | assumption | exact hset_s _ _ _))))) hb (vp_in_nI (by omega) hN) ?_
    refine j_iinc (v := nI (i + 1)) d_Ar_fill_14 rfl (nI_succ i).symm (by decide) ?_
    refine j_goto (tgt := 5) d_Ar_fill_17 (by decide) ?_
    exact J.conv rfl (by rw [hset_hset, nI_clamp (by omega), fillF_s]) (ih (i + 1) (by omega))
theorem c_Ar_fill {a N : Nat} {f : Nat → Int32} {v : Int32} (hN : N < 2 ^ 31) (hb : E.2.2.2.1 ≤ a) (ha : h a = some (arI E 0 N f)) : Ct E m_Ar_fill 0 0 0 [.ref a, .int v] h n (Rt none (hset h a (arI E 0 N (fillF f N v))) n) := by
  refine Ct.go rfl rfl rfl ?_
  refine j_iconst (v := 0) d_Ar_fill_0 (by decide) ?_
  refine j_istore_n d_Ar_fill_1 (by decide) ?_
  refine j_aload_n d_Ar_fill_2 rfl ?_
  refine j_alen (t := 0) d_Ar_fill_3 rfl (by first | assumption | exact hset_s _ _ _ | (rw [hset_n _ _ (by omega)]; first | assumption | exact hset_s _ _ _ | (rw [hset_n _ _ (by omega)]; first | assumption | exact hset_s _ _ _ | (rw [hset_n _ _ (by omega)]; first | assumption | exact hset_s _ _ _ | (rw [hset_n _ _ (by omega)]; first | assumption | exact hset_s _ _ _))))) rfl ?_
  refine j_istore_n d_Ar_fill_4 (by decide) ?_
  exact J.conv rfl (by rw [fillF_0, hset_id ha]) (l_Ar_fill (h := h) (f := f) hN hb ⟨rfl, rfl, rfl⟩ N 0 (by omega))
/-! reading a place -/
theorem c_Od_value {a tk vl : Nat} {N c al x y : Int32} {f : Nat → Int32} (ha : h a = some (oOd N tk vl c al)) (hv : h vl = some (arI E 0 96 f)) (hi : vp_in (4 * x + y) 96) : Ct E m_Od_value 0 0 0 [.ref a, .int x, .int y] h n (Rt (some (.int (f (4 * x + y).toNatClampNeg))) h n) := by
  refine Ct.go rfl rfl rfl ?_
  refine j_aload_n d_Od_value_0 rfl ?_
  refine j_get d_Od_value_1 fl_Od_15 (by first | assumption | exact hset_s _ _ _ | (rw [hset_n _ _ (by omega)]; first | assumption | exact hset_s _ _ _ | (rw [hset_n _ _ (by omega)]; first | assumption | exact hset_s _ _ _ | (rw [hset_n _ _ (by omega)]; first | assumption | exact hset_s _ _ _ | (rw [hset_n _ _ (by omega)]; first | assumption | exact hset_s _ _ _))))) rfl ?_
  refine j_iconst (v := 4) d_Od_value_4 (by decide) ?_
  refine j_iload_n d_Od_value_5 rfl ?_
  refine j_imul d_Od_value_6 ?_
  refine j_iload_n d_Od_value_7 rfl ?_
  refine j_iadd d_Od_value_8 ?_
  refine j_iald (t := 0) d_Od_value_9 rfl (by first | assumption | exact hset_s _ _ _ | (rw [hset_n _ _ (by omega)]; first | assumption | exact hset_s _ _ _ | (rw [hset_n _ _ (by omega)]; first | assumption | exact hset_s _ _ _ | (rw [hset_n _ _ (by omega)]; first | assumption | exact hset_s _ _ _ | (rw [hset_n _ _ (by omega)]; first | assumption | exact hset_s _ _ _))))) (by assumption) rfl ?_
  exact j_iret d_Od_value_10 rfl ⟨rfl, rfl, rfl⟩
theorem c_Od_ticks {a tk vl : Nat} {N c al x : Int32} {f : Nat → Int32} (ha : h a = some (oOd N tk vl c al)) (hv : h tk = some (arI E 0 24 f)) (hi : vp_in x 24) : Ct E m_Od_ticks 0 0 0 [.ref a, .int x] h n (Rt (some (.int (f x.toNatClampNeg))) h n) := by
  refine Ct.go rfl rfl rfl ?_
  refine j_aload_n d_Od_ticks_0 rfl ?_
  refine j_get d_Od_ticks_1 fl_Od_9 (by first | assumption | exact hset_s _ _ _ | (rw [hset_n _ _ (by omega)]; first | assumption | exact hset_s _ _ _ | (rw [hset_n _ _ (by omega)]; first | assumption | exact hset_s _ _ _ | (rw [hset_n _ _ (by omega)]; first | assumption | exact hset_s _ _ _ | (rw [hset_n _ _ (by omega)]; first | assumption | exact hset_s _ _ _))))) rfl ?_
  refine j_iload_n d_Od_ticks_4 rfl ?_
  refine j_iald (t := 0) d_Od_ticks_5 rfl (by first | assumption | exact hset_s _ _ _ | (rw [hset_n _ _ (by omega)]; first | assumption | exact hset_s _ _ _ | (rw [hset_n _ _ (by omega)]; first | assumption | exact hset_s _ _ _ | (rw [hset_n _ _ (by omega)]; first | assumption | exact hset_s _ _ _ | (rw [hset_n _ _ (by omega)]; first | assumption | exact hset_s _ _ _))))) (by assumption) rfl ?_
  exact j_iret d_Od_ticks_6 rfl ⟨rfl, rfl, rfl⟩
theorem c_Wk_order {a od op oc at' th : Nat} {K x : Int32} {f g : Nat → Int32} (ha : h a = some (oWk od K op oc at' th)) (hv : h op = some (arI E 0 72 f)) (hg : h at' = some (arI E 0 3 g)) (hi : vp_in x 3) (hj : vp_in (24 * x + g x.toNatClampNeg) 72) : Ct E m_Wk_order 0 0 0 [.ref a, .int x] h n (Rt (some (.int (f (24 * x + g x.toNatClampNeg).toNatClampNeg))) h n) := by
  refine Ct.go rfl rfl rfl ?_
  refine j_aload_n d_Wk_order_0 rfl ?_
  refine j_get d_Wk_order_1 fl_Wk_9 (by first | assumption | exact hset_s _ _ _ | (rw [hset_n _ _ (by omega)]; first | assumption | exact hset_s _ _ _ | (rw [hset_n _ _ (by omega)]; first | assumption | exact hset_s _ _ _ | (rw [hset_n _ _ (by omega)]; first | assumption | exact hset_s _ _ _ | (rw [hset_n _ _ (by omega)]; first | assumption | exact hset_s _ _ _))))) rfl ?_
  refine j_bipush (v := 24) d_Wk_order_4 (by decide) ?_
  refine j_iload_n d_Wk_order_6 rfl ?_
  refine j_imul d_Wk_order_7 ?_
  refine j_aload_n d_Wk_order_8 rfl ?_
  refine j_get d_Wk_order_9 fl_Wk_18 (by first | assumption | exact hset_s _ _ _ | (rw [hset_n _ _ (by omega)]; first | assumption | exact hset_s _ _ _ | (rw [hset_n _ _ (by omega)]; first | assumption | exact hset_s _ _ _ | (rw [hset_n _ _ (by omega)]; first | assumption | exact hset_s _ _ _ | (rw [hset_n _ _ (by omega)]; first | assumption | exact hset_s _ _ _))))) rfl ?_
  refine j_iload_n d_Wk_order_12 rfl ?_
  refine j_iald (t := 0) d_Wk_order_13 rfl (by first | assumption | exact hset_s _ _ _ | (rw [hset_n _ _ (by omega)]; first | assumption | exact hset_s _ _ _ | (rw [hset_n _ _ (by omega)]; first | assumption | exact hset_s _ _ _ | (rw [hset_n _ _ (by omega)]; first | assumption | exact hset_s _ _ _ | (rw [hset_n _ _ (by omega)]; first | assumption | exact hset_s _ _ _))))) (by assumption) rfl ?_
  refine j_iadd d_Wk_order_14 ?_
  refine j_iald (t := 0) d_Wk_order_15 rfl (by first | assumption | exact hset_s _ _ _ | (rw [hset_n _ _ (by omega)]; first | assumption | exact hset_s _ _ _ | (rw [hset_n _ _ (by omega)]; first | assumption | exact hset_s _ _ _ | (rw [hset_n _ _ (by omega)]; first | assumption | exact hset_s _ _ _ | (rw [hset_n _ _ (by omega)]; first | assumption | exact hset_s _ _ _))))) (by assumption) rfl ?_
  exact j_iret d_Wk_order_16 rfl ⟨rfl, rfl, rfl⟩
theorem c_Pz_parties {a od cl : Nat} {N K M c : Int32} (ha : h a = some (oPz N K M od cl c)) (hi : vp_in M 4) : Ct E m_Pz_parties 0 0 0 [.ref a] h n (Rt (some (.int (partsF M.toNatClampNeg))) h n) := by
  refine Ct.go rfl rfl rfl ?_
  refine j_getsN (C := "ClueLogic") (nm := "PARTIES_OF") (ds := "[I") (host := "ClueLogic") (v := .ref (E.2.2.2.2 1)) d_Pz_parties_0 (by simp [stats]) (by decide +kernel) ?_
  refine j_aload_n d_Pz_parties_3 rfl ?_
  refine j_get d_Pz_parties_4 fl_Pz_24 (by first | assumption | exact hset_s _ _ _ | (rw [hset_n _ _ (by omega)]; first | assumption | exact hset_s _ _ _ | (rw [hset_n _ _ (by omega)]; first | assumption | exact hset_s _ _ _ | (rw [hset_n _ _ (by omega)]; first | assumption | exact hset_s _ _ _ | (rw [hset_n _ _ (by omega)]; first | assumption | exact hset_s _ _ _))))) rfl ?_
  refine j_stI (t := E.2.2.2.2 1) (N := 4) (f := partsF) d_Pz_parties_7 (List.mem_cons_of_mem _ List.mem_cons_self) hi rfl ?_
  exact j_iret d_Pz_parties_8 rfl ⟨rfl, rfl, rfl⟩
theorem c_Pz_clue {a od cl : Nat} {N K M c x : Int32} {f : Nat → Option Nat} {y : Nat} (ha : h a = some (oPz N K M od cl c)) (hv : h cl = some (arQ E 3 20 f)) (hi : vp_in x 20) (hy : f x.toNatClampNeg = some y) : Ct E m_Pz_clue 0 0 0 [.ref a, .int x] h n (Rt (some (.ref y)) h n) := by
  refine Ct.go rfl rfl rfl ?_
  refine j_aload_n d_Pz_clue_0 rfl ?_
  refine j_get d_Pz_clue_1 fl_Pz_11 (by first | assumption | exact hset_s _ _ _ | (rw [hset_n _ _ (by omega)]; first | assumption | exact hset_s _ _ _ | (rw [hset_n _ _ (by omega)]; first | assumption | exact hset_s _ _ _ | (rw [hset_n _ _ (by omega)]; first | assumption | exact hset_s _ _ _ | (rw [hset_n _ _ (by omega)]; first | assumption | exact hset_s _ _ _))))) rfl ?_
  refine j_iload_n d_Pz_clue_4 rfl ?_
  refine j_aald (t := 3) (v := .ref y) d_Pz_clue_5 rfl hv hi (by rw [hy]; rfl) ?_
  exact j_aret d_Pz_clue_6 rfl (Or.inl ⟨_, rfl⟩) rfl ⟨rfl, rfl, rfl⟩
theorem c_Cr_valuesLeft {a pz wk my sn sc sk : Nat} {mb sb sp fi x y : Int32} {f : Nat → Int32} (ha : h a = some (oCr pz wk my sn mb sb sc sk sp fi)) (hv : h my = some (arI E 0 3 f)) (hi : vp_in y 3) : Ct E m_Cr_valuesLeft 0 0 0 [.ref a, .int x, .int y] h n (Rt (some (.int ((f y.toNatClampNeg >>> (4 * x &&& 31)) &&& 15))) h n) := by
  refine Ct.go rfl rfl rfl ?_
  refine j_aload_n d_Cr_valuesLeft_0 rfl ?_
  refine j_get d_Cr_valuesLeft_1 fl_Cr_9 (by first | assumption | exact hset_s _ _ _ | (rw [hset_n _ _ (by omega)]; first | assumption | exact hset_s _ _ _ | (rw [hset_n _ _ (by omega)]; first | assumption | exact hset_s _ _ _ | (rw [hset_n _ _ (by omega)]; first | assumption | exact hset_s _ _ _ | (rw [hset_n _ _ (by omega)]; first | assumption | exact hset_s _ _ _))))) rfl ?_
  refine j_iload_n d_Cr_valuesLeft_4 rfl ?_
  refine j_iald (t := 0) d_Cr_valuesLeft_5 rfl (by first | assumption | exact hset_s _ _ _ | (rw [hset_n _ _ (by omega)]; first | assumption | exact hset_s _ _ _ | (rw [hset_n _ _ (by omega)]; first | assumption | exact hset_s _ _ _ | (rw [hset_n _ _ (by omega)]; first | assumption | exact hset_s _ _ _ | (rw [hset_n _ _ (by omega)]; first | assumption | exact hset_s _ _ _))))) (by assumption) rfl ?_
  refine j_iconst (v := 4) d_Cr_valuesLeft_6 (by decide) ?_
  refine j_iload_n d_Cr_valuesLeft_7 rfl ?_
  refine j_imul d_Cr_valuesLeft_8 ?_
  refine j_ishr d_Cr_valuesLeft_9 ?_
  refine j_bipush (v := 15) d_Cr_valuesLeft_10 (by decide) ?_
  refine j_iand d_Cr_valuesLeft_12 ?_
  exact j_iret d_Cr_valuesLeft_13 rfl ⟨rfl, rfl, rfl⟩
theorem c_Cr_waysLeft {a pz wk my sn sc sk : Nat} {mb sb sp fi x : Int32} (ha : h a = some (oCr pz wk my sn mb sb sc sk sp fi)) : Ct E m_Cr_waysLeft 0 0 0 [.ref a, .int x] h n (Rt (some (.int ((mb >>> (2 * x &&& 31)) &&& 3))) h n) := by
  refine Ct.go rfl rfl rfl ?_
  refine j_aload_n d_Cr_waysLeft_0 rfl ?_
  refine j_get d_Cr_waysLeft_1 fl_Cr_59 (by first | assumption | exact hset_s _ _ _ | (rw [hset_n _ _ (by omega)]; first | assumption | exact hset_s _ _ _ | (rw [hset_n _ _ (by omega)]; first | assumption | exact hset_s _ _ _ | (rw [hset_n _ _ (by omega)]; first | assumption | exact hset_s _ _ _ | (rw [hset_n _ _ (by omega)]; first | assumption | exact hset_s _ _ _))))) rfl ?_
  refine j_iconst (v := 2) d_Cr_waysLeft_4 (by decide) ?_
  refine j_iload_n d_Cr_waysLeft_5 rfl ?_
  refine j_imul d_Cr_waysLeft_6 ?_
  refine j_ishr d_Cr_waysLeft_7 ?_
  refine j_iconst (v := 3) d_Cr_waysLeft_8 (by decide) ?_
  refine j_iand d_Cr_waysLeft_9 ?_
  exact j_iret d_Cr_waysLeft_10 rfl ⟨rfl, rfl, rfl⟩
theorem c_Cr_clueOf {a pz wk my sn sc sk : Nat} {mb sb sp fi x : Int32} {f : Nat → Int32} (ha : h a = some (oCr pz wk my sn mb sb sc sk sp fi)) (hv : h sc = some (arI E 0 54 f)) (hi : vp_in x 54) : Ct E m_Cr_clueOf 0 0 0 [.ref a, .int x] h n (Rt (some (.int (f x.toNatClampNeg))) h n) := by
  refine Ct.go rfl rfl rfl ?_
  refine j_aload_n d_Cr_clueOf_0 rfl ?_
  refine j_get d_Cr_clueOf_1 fl_Cr_18 (by first | assumption | exact hset_s _ _ _ | (rw [hset_n _ _ (by omega)]; first | assumption | exact hset_s _ _ _ | (rw [hset_n _ _ (by omega)]; first | assumption | exact hset_s _ _ _ | (rw [hset_n _ _ (by omega)]; first | assumption | exact hset_s _ _ _ | (rw [hset_n _ _ (by omega)]; first | assumption | exact hset_s _ _ _))))) rfl ?_
  refine j_iload_n d_Cr_clueOf_4 rfl ?_
  refine j_iald (t := 0) d_Cr_clueOf_5 rfl (by first | assumption | exact hset_s _ _ _ | (rw [hset_n _ _ (by omega)]; first | assumption | exact hset_s _ _ _ | (rw [hset_n _ _ (by omega)]; first | assumption | exact hset_s _ _ _ | (rw [hset_n _ _ (by omega)]; first | assumption | exact hset_s _ _ _ | (rw [hset_n _ _ (by omega)]; first | assumption | exact hset_s _ _ _))))) (by assumption) rfl ?_
  exact j_iret d_Cr_clueOf_6 rfl ⟨rfl, rfl, rfl⟩
theorem c_Cr_crossedBy {a pz wk my sn sc sk : Nat} {mb sb sp fi x : Int32} {f : Nat → Int32} (ha : h a = some (oCr pz wk my sn mb sb sc sk sp fi)) (hv : h sk = some (arI E 0 54 f)) (hi : vp_in x 54) : Ct E m_Cr_crossedBy 0 0 0 [.ref a, .int x] h n (Rt (some (.int (f x.toNatClampNeg))) h n) := by
  refine Ct.go rfl rfl rfl ?_
  refine j_aload_n d_Cr_crossedBy_0 rfl ?_
  refine j_get d_Cr_crossedBy_1 fl_Cr_21 (by first | assumption | exact hset_s _ _ _ | (rw [hset_n _ _ (by omega)]; first | assumption | exact hset_s _ _ _ | (rw [hset_n _ _ (by omega)]; first | assumption | exact hset_s _ _ _ | (rw [hset_n _ _ (by omega)]; first | assumption | exact hset_s _ _ _ | (rw [hset_n _ _ (by omega)]; first | assumption | exact hset_s _ _ _))))) rfl ?_
  refine j_iload_n d_Cr_crossedBy_4 rfl ?_
  refine j_iald (t := 0) d_Cr_crossedBy_5 rfl (by first | assumption | exact hset_s _ _ _ | (rw [hset_n _ _ (by omega)]; first | assumption | exact hset_s _ _ _ | (rw [hset_n _ _ (by omega)]; first | assumption | exact hset_s _ _ _ | (rw [hset_n _ _ (by omega)]; first | assumption | exact hset_s _ _ _ | (rw [hset_n _ _ (by omega)]; first | assumption | exact hset_s _ _ _))))) (by assumption) rfl ?_
  exact j_iret d_Cr_crossedBy_6 rfl ⟨rfl, rfl, rfl⟩
theorem c_An_isNeeded {a pz wk ko kp co ho ne : Nat} {c k fo x : Int32} {f : Nat → Int32} (ha : h a = some (oAn pz wk ko kp co ho ne c k fo)) (hv : h ne = some (arI E 1 20 f)) (hi : vp_in x 20) (hf : f x.toNatClampNeg = 0 ∨ f x.toNatClampNeg = 1) : Ct E m_An_isNeeded 0 0 0 [.ref a, .int x] h n (Rt (some (.int (f x.toNatClampNeg))) h n) := by
  refine Ct.go rfl rfl rfl ?_
  refine j_aload_n d_An_isNeeded_0 rfl ?_
  refine j_get d_An_isNeeded_1 fl_An_24 (by first | assumption | exact hset_s _ _ _ | (rw [hset_n _ _ (by omega)]; first | assumption | exact hset_s _ _ _ | (rw [hset_n _ _ (by omega)]; first | assumption | exact hset_s _ _ _ | (rw [hset_n _ _ (by omega)]; first | assumption | exact hset_s _ _ _ | (rw [hset_n _ _ (by omega)]; first | assumption | exact hset_s _ _ _))))) rfl ?_
  refine j_iload_n d_An_isNeeded_4 rfl ?_
  refine j_zald (t := 1) d_An_isNeeded_5 rfl (by first | assumption | exact hset_s _ _ _ | (rw [hset_n _ _ (by omega)]; first | assumption | exact hset_s _ _ _ | (rw [hset_n _ _ (by omega)]; first | assumption | exact hset_s _ _ _ | (rw [hset_n _ _ (by omega)]; first | assumption | exact hset_s _ _ _ | (rw [hset_n _ _ (by omega)]; first | assumption | exact hset_s _ _ _))))) (by assumption) rfl ?_
  exact j_zret d_An_isNeeded_6 rfl hf ⟨rfl, rfl, rfl⟩
theorem c_An_value {a pz wk ko kp co ho ne od cl tk vl : Nat} {c k fo x y z N K M cc oc al : Int32} {f g : Nat → Int32} (ha : h a = some (oAn pz wk ko kp co ho ne c k fo)) (hp : h pz = some (oPz N K M od cl cc)) (ho' : h od = some (oOd N tk vl oc al)) (hvl : h vl = some (arI E 0 96 g)) (hv : h ko = some (arI E 0 300 f)) (hi : vp_in (3 * x + z) 300) (hj : vp_in (4 * f (3 * x + z).toNatClampNeg + y) 96) :
    Ct E m_An_value 1 0 0 [.ref a, .int x, .int y, .int z] h n (Rt (some (.int (g (4 * f (3 * x + z).toNatClampNeg + y).toNatClampNeg))) h n) := by
  refine Ct.go rfl rfl rfl ?_
  refine j_aload_n d_An_value_0 rfl ?_
  refine j_get d_An_value_1 fl_An_28 (by first | assumption | exact hset_s _ _ _ | (rw [hset_n _ _ (by omega)]; first | assumption | exact hset_s _ _ _ | (rw [hset_n _ _ (by omega)]; first | assumption | exact hset_s _ _ _ | (rw [hset_n _ _ (by omega)]; first | assumption | exact hset_s _ _ _ | (rw [hset_n _ _ (by omega)]; first | assumption | exact hset_s _ _ _))))) rfl ?_
  refine j_pV (As := []) d_An_value_4 cb_An_48 vv_Pz_orders hp rfl rfl rfl rfl (Nat.le_of_ble_eq_true rfl) (by decide) (c_Pz_orders hp rfl) ?_
  refine j_aload_n d_An_value_7 rfl ?_
  refine j_get d_An_value_8 fl_An_9 (by first | assumption | exact hset_s _ _ _ | (rw [hset_n _ _ (by omega)]; first | assumption | exact hset_s _ _ _ | (rw [hset_n _ _ (by omega)]; first | assumption | exact hset_s _ _ _ | (rw [hset_n _ _ (by omega)]; first | assumption | exact hset_s _ _ _ | (rw [hset_n _ _ (by omega)]; first | assumption | exact hset_s _ _ _))))) rfl ?_
  refine j_iconst (v := 3) d_An_value_11 (by decide) ?_
  refine j_iload_n d_An_value_12 rfl ?_
  refine j_imul d_An_value_13 ?_
  refine j_iload_n d_An_value_14 rfl ?_
  refine j_iadd d_An_value_15 ?_
  refine j_iald (t := 0) d_An_value_16 rfl (by first | assumption | exact hset_s _ _ _ | (rw [hset_n _ _ (by omega)]; first | assumption | exact hset_s _ _ _ | (rw [hset_n _ _ (by omega)]; first | assumption | exact hset_s _ _ _ | (rw [hset_n _ _ (by omega)]; first | assumption | exact hset_s _ _ _ | (rw [hset_n _ _ (by omega)]; first | assumption | exact hset_s _ _ _))))) (by assumption) rfl ?_
  refine j_iload_n d_An_value_17 rfl ?_
  refine j_pV (As := [.int _, .int _]) d_An_value_18 cb_An_54 vv_Od_value ho' rfl rfl rfl rfl (Nat.le_of_ble_eq_true rfl) (by decide) (c_Od_value ho' hvl hj) ?_
  exact j_iret d_An_value_21 rfl ⟨rfl, rfl, rfl⟩
theorem c_An_isTruthful {a pz wk ko kp co ho ne : Nat} {c k fo x y : Int32} {f : Nat → Int32} (ha : h a = some (oAn pz wk ko kp co ho ne c k fo)) (hv : h kp = some (arI E 0 100 f)) (hi : vp_in x 100) (hj : vp_in y 3) :
    Ct E m_An_isTruthful 0 0 0 [.ref a, .int x, .int y] h n (Rt (some (.int (bI (¬ (truthF y.toNatClampNeg >>> (f x.toNatClampNeg &&& 31)) &&& 1 = 0)))) h n) := by
  refine Ct.go rfl rfl rfl ?_
  refine j_getsN (C := "ClueLogic") (nm := "TRUTHFUL") (ds := "[I") (host := "ClueLogic") (v := .ref (E.2.2.2.2 0)) d_An_isTruthful_0 (by simp [stats]) (by decide +kernel) ?_
  refine j_iload_n d_An_isTruthful_3 rfl ?_
  refine j_stI (f := truthF) d_An_isTruthful_4 List.mem_cons_self hj rfl ?_
  refine j_aload_n d_An_isTruthful_5 rfl ?_
  refine j_get d_An_isTruthful_6 fl_An_15 (by first | assumption | exact hset_s _ _ _ | (rw [hset_n _ _ (by omega)]; first | assumption | exact hset_s _ _ _ | (rw [hset_n _ _ (by omega)]; first | assumption | exact hset_s _ _ _ | (rw [hset_n _ _ (by omega)]; first | assumption | exact hset_s _ _ _ | (rw [hset_n _ _ (by omega)]; first | assumption | exact hset_s _ _ _))))) rfl ?_
  refine j_iload_n d_An_isTruthful_9 rfl ?_
  refine j_iald (t := 0) d_An_isTruthful_10 rfl (by first | assumption | exact hset_s _ _ _ | (rw [hset_n _ _ (by omega)]; first | assumption | exact hset_s _ _ _ | (rw [hset_n _ _ (by omega)]; first | assumption | exact hset_s _ _ _ | (rw [hset_n _ _ (by omega)]; first | assumption | exact hset_s _ _ _ | (rw [hset_n _ _ (by omega)]; first | assumption | exact hset_s _ _ _))))) (by assumption) rfl ?_
  refine j_ishr d_An_isTruthful_11 ?_
  refine j_iconst (v := 1) d_An_isTruthful_12 (by decide) ?_
  refine j_iand d_An_isTruthful_13 ?_
  refine j_if_eq (tgt := 21) d_An_isTruthful_14 (by decide) (fun c => ?_) (fun c => ?_)
  · refine j_iconst (v := 0) d_An_isTruthful_21 (by decide) ?_
    exact j_zret d_An_isTruthful_22 rfl (Or.inl rfl) ⟨by rw [bI_f (fun q => q c)], rfl, rfl⟩
  · refine j_iconst (v := 1) d_An_isTruthful_17 (by decide) ?_
    refine j_goto (tgt := 22) d_An_isTruthful_18 (by decide) ?_
    exact j_zret d_An_isTruthful_22 rfl (Or.inr rfl) ⟨by rw [bI_t c], rfl, rfl⟩
end LE

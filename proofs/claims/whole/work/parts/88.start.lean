section STA
def adF (t0 t1 k2 k3 b L : Nat) (xs : Nat → Int32) : Nat → Nat := fun k => if k = 0 then t0 else if k = 1 then t1 else if k = 2 then k2 else if k = 3 then k3 else if k = 4 then b else if k = 5 then L else (xs (k - 6)).toBitVec.toNat
set_option maxRecDepth 100000 in
theorem adF_6 {t0 t1 k2 k3 b L : Nat} {xs : Nat → Int32} (j : Nat) : nI (adF t0 t1 k2 k3 b L xs (6 + j)) = xs j := by
  unfold adF
  rw [if_neg (by omega), if_neg (by omega), if_neg (by omega), if_neg (by omega), if_neg (by omega), if_neg (by omega), show 6 + j - 6 = j by omega]
  apply Int32.toBitVec_inj.mp
  show BitVec.ofNat 32 (xs j).toBitVec.toNat = _
  rw [BitVec.ofNat_toNat, BitVec.setWidth_eq]
set_option maxRecDepth 100000 in
theorem k_classes {s : State} {args : Array Value} (d0 : ClassId) (hts : ∀ w ∈ GW, w.before args s = true) : ∃ (dC : Nat → ClassId) (dI : Nat → Nat → Nat), ∀ (k : Nat) (q : vw_C), classes[k]? = some q → u_Kn s q.1 q.2.1 q.2.2 (dC k) (dI k) := by
  have mk : ∀ {C : String} {T : u_T} {N : Nat}, (∀ w ∈ u_ws C T N, w ∈ GW) → Cond.instantiable C N ∈ GW → ∃ (cC : ClassId) (iS : Nat → Nat), u_Kn s C T N cC iS := fun h1 h2 => u_known hts h1 (hts _ h2)
  have ex : ∀ (k : Nat) (q : vw_C), classes[k]? = some q → ∃ (cC : ClassId) (iS : Nat → Nat), u_Kn s q.1 q.2.1 q.2.2 cC iS := by
    intro k q hq
    match k, hq with
    | 0, hq => cases hq; exact mk uw_C nw_Lw_7.2.2.2.2.1
    | 1, hq => cases hq; exact mk uw_An nw_C_63.2.2.2.2.1
    | 2, hq => cases hq; exact mk uw_Cr nw_C_108.2.2.2.2.1
    | 3, hq => cases hq; exact mk uw_Jo nw_Rd_96.2.2.2.2.1
    | 4, hq => cases hq; exact mk uw_Op nw_Rd_83.2.2.2.2.1
    | 5, hq => cases hq; exact mk uw_Ov nw_Rd_105.2.2.2.2.1
    | 6, hq => cases hq; exact mk uw_Od nw_Pz_27.2.2.2.2.1
    | 7, hq => cases hq; exact mk uw_Pz nw_C_13.2.2.2.2.1
    | 8, hq => cases hq; exact mk uw_Rd nw_C_26.2.2.2.2.1
    | 9, hq => cases hq; exact mk uw_Tu nw_Rd_91.2.2.2.2.1
    | 10, hq => cases hq; exact mk uw_Wk nw_An_32.2.2.2.2.1
    | 11, hq => cases hq; exact mk uw_Md nw_Lw_10.2.2.2.2.1
    | k + 12, hq => simp [classes] at hq
  have ex2 : ∀ k : Nat, ∃ y : ClassId × (Nat → Nat), ∀ q : vw_C, classes[k]? = some q → u_Kn s q.1 q.2.1 q.2.2 y.1 y.2 := by
    intro k
    cases hq : classes[k]? with
    | none => exact ⟨(d0, fun _ => 0), fun q h => by cases h⟩
    | some q =>
      obtain ⟨a, b, h⟩ := ex k q hq
      exact ⟨(a, b), fun q' h' => by cases h'; exact h⟩
  obtain ⟨y, hy⟩ := Classical.axiomOfChoice ex2
  exact ⟨fun k => (y k).1, fun k => (y k).2, hy⟩
set_option maxRecDepth 100000 in
theorem k_arrays {s : State} {args : Array Value} (d0 : ClassId) (hts : ∀ w ∈ GW, w.before args s = true) (hov : (Cond.arrayOver (.object "ClueLogic$Clue")).before args s = true) : ∃ aC : Nat → ClassId, ∀ k, k < 4 → ArrOfT s (aC k) (atys.getD k .int) ∧ va_RA s (aC k) (atys.getD k .int) := by
  have ex : ∀ k : Nat, ∃ cA : ClassId, k < 4 → ArrOfT s cA (atys.getD k .int) ∧ va_RA s cA (atys.getD k .int) := by
    intro k
    match k with
    | 0 =>
      obtain ⟨cA, kA, comp, h1, h2, h3⟩ := Cond.arrayClass_spec (hts _ aw_int)
      exact ⟨cA, fun _ => ⟨fun n z => ⟨fun k h => (by cases h), kA, h2, comp, h3⟩, h1⟩⟩
    | 1 =>
      obtain ⟨cA, kA, comp, h1, h2, h3⟩ := Cond.arrayClass_spec (hts _ aw_boolean)
      exact ⟨cA, fun _ => ⟨fun n z => ⟨fun k h => (by cases h), kA, h2, comp, h3⟩, h1⟩⟩
    | 2 =>
      obtain ⟨cA, kA, comp, h1, h2, h3⟩ := Cond.arrayClass_spec (hts _ aw_byte)
      exact ⟨cA, fun _ => ⟨fun n z => ⟨fun k h => (by cases h), kA, h2, comp, h3⟩, h1⟩⟩
    | 3 =>
      obtain ⟨comp, cA, kA, h1, h2, h3, h4, h5⟩ := Cond.arrayOver_spec hov
      exact ⟨cA, fun _ => ⟨fun n z => ⟨fun k h => (by cases h), kA, h3, comp, h4⟩, kA, comp, h3, h4, h1, h5⟩⟩
    | k + 4 => exact ⟨d0, fun h => absurd h (by omega)⟩
  exact Classical.axiomOfChoice ex
set_option maxRecDepth 100000 in
theorem kn_start {l : Launch} {s : State} {args : Array Value} {dC : Nat → ClassId} {dI : Nat → Nat → Nat} {aC : Nat → ClassId} {ad : Nat → Nat} {bs : Nat} (htb : ∀ w ∈ lw_tbl, w.before args s = true) (hK : ∀ (k : Nat) (q : vw_C), classes[k]? = some q → u_Kn s q.1 q.2.1 q.2.2 (dC k) (dI k)) (hC : ∀ k, k < 4 → ArrOfT s (aC k) (atys.getD k .int) ∧ va_RA s (aC k) (atys.getD k .int)) (hstr : (Term.string "ClueLogic$Reader" 58).eval args s none [] s = some (.ref (ad 2))) : Kn (l, (dC, dI), aC, bs, ad) s := by
  refine ⟨⟨hK, fun k q hq => ?_⟩, ?_, ?_, ?_, ?_, ?_⟩
  · have hq : (List.map (fun i => (aC i, atys.getD i .int)) (List.range 4))[k]? = some q := hq
    have hk : k < 4 := by
      have := (List.getElem?_eq_some_iff.mp hq).1
      simpa using this
    match k, hk, hq with
    | 0, _, hq => cases hq; exact hC 0 (by decide)
    | 1, _, hq => cases hq; exact hC 1 (by decide)
    | 2, _, hq => cases hq; exact hC 2 (by decide)
    | 3, _, hq => cases hq; exact hC 3 (by decide)
  · refine List.forall_mem_cons.mpr ⟨?_, List.forall_mem_cons.mpr ⟨?_, List.forall_mem_cons.mpr ⟨?_, List.forall_mem_cons.mpr ⟨?_, List.forall_mem_cons.mpr ⟨?_, fun _ h => absurd h List.not_mem_nil⟩⟩⟩⟩⟩
    · exact va_Nw.of rfl (htb _ (by decide +kernel))
    · exact va_Nw.of rfl (htb _ (by decide +kernel))
    · exact va_Nw.of rfl (htb _ (by decide +kernel))
    · exact va_Nw.of rfl (htb _ (by decide +kernel))
    · exact va_Nw.of rfl (htb _ (by decide +kernel))
  · refine List.forall_mem_cons.mpr ⟨?_, List.forall_mem_cons.mpr ⟨?_, List.forall_mem_cons.mpr ⟨?_, List.forall_mem_cons.mpr ⟨?_, fun _ h => absurd h List.not_mem_nil⟩⟩⟩⟩
    · exact ⟨va_Nw.of rfl (htb _ (by decide +kernel)), va_Nw.of rfl (htb _ (by decide +kernel)), va_Nw.of rfl (htb _ (by decide +kernel)), va_Nw.of rfl (htb _ (by decide +kernel)), va_Nw.of rfl (htb _ (by decide +kernel))⟩
    · exact ⟨va_Nw.of rfl (htb _ (by decide +kernel)), va_Nw.of rfl (htb _ (by decide +kernel)), va_Nw.of rfl (htb _ (by decide +kernel)), va_Nw.of rfl (htb _ (by decide +kernel)), va_Nw.of rfl (htb _ (by decide +kernel))⟩
    · exact ⟨va_Nw.of rfl (htb _ (by decide +kernel)), va_Nw.of rfl (htb _ (by decide +kernel)), va_Nw.of rfl (htb _ (by decide +kernel)), va_Nw.of rfl (htb _ (by decide +kernel)), va_Nw.of rfl (htb _ (by decide +kernel))⟩
    · exact ⟨va_Nw.of rfl (htb _ (by decide +kernel)), va_Nw.of rfl (htb _ (by decide +kernel)), va_Nw.of rfl (htb _ (by decide +kernel)), va_Nw.of rfl (htb _ (by decide +kernel)), va_Nw.of rfl (htb _ (by decide +kernel))⟩
  · refine List.forall_mem_cons.mpr ⟨?_, List.forall_mem_cons.mpr ⟨?_, List.forall_mem_cons.mpr ⟨?_, List.forall_mem_cons.mpr ⟨?_, fun _ h => absurd h List.not_mem_nil⟩⟩⟩⟩
    · exact va_Nw.of rfl (htb _ (by decide +kernel))
    · exact va_Nw.of rfl (htb _ (by decide +kernel))
    · exact va_Nw.of rfl (htb _ (by decide +kernel))
    · exact va_Nw.of rfl (htb _ (by decide +kernel))
  · refine List.forall_mem_cons.mpr ⟨?_, fun _ h => absurd h List.not_mem_nil⟩
    exact va_AO.of (htb _ (by decide +kernel))
  · exact vk_R.of (htb (.stringRef "ClueLogic$Reader" 58 "=!<+tp~&|") (by decide +kernel)) hstr
set_option maxRecDepth 100000 in
theorem zs_start {l : Launch} {s : State} {args : Array Value} {D : va_G} {aC : Nat → ClassId} {t0 t1 k2 k3 b L : Nat} {xs : Nat → Int32} (htb : ∀ w ∈ lw_tbl, w.before args s = true) (hA : ∀ a : Nat, a < s.heap.size → ¬ s.heap.size ≤ a) (h0 : (Term.static "ClueLogic" "TRUTHFUL" "[I").eval args s none [] s = some (.ref t0)) (h1 : (Term.static "ClueLogic" "PARTIES_OF" "[I").eval args s none [] s = some (.ref t1)) (h2 : (Term.static "java/lang/String" "COMPACT_STRINGS" "Z").eval args s none [] s = some (.int 1))
    (T0 : va_T .int t0 3 (fun j => .int (truthF j)) (fun q => s.heap.size ≤ q) s s.heap) (T1 : va_T .int t1 4 (fun j => .int (partsF j)) (fun q => s.heap.size ≤ q) s s.heap) (hS : vk_S 1 [9] [sgnB] (fun _ => k2) (fun _ => k3) (fun q => s.heap.size ≤ q) s s.heap) (hX : va_X b L xs s s.heap) (hb : b < s.heap.size) : Zs (l, D, aC, s.heap.size, adF t0 t1 k2 k3 b L xs) s s.heap := by
  refine ⟨?_, ?_, hS⟩
  · refine List.forall_mem_cons.mpr ⟨?_, List.forall_mem_cons.mpr ⟨?_, List.forall_mem_cons.mpr ⟨?_, fun _ h => absurd h List.not_mem_nil⟩⟩⟩
    · exact va_Zof (htb (.laysStatic "ClueLogic" "TRUTHFUL" "[I") (by decide +kernel)) (htb (.initialized "ClueLogic") (by decide +kernel)) h0 hA
    · exact va_Zof (htb (.laysStatic "ClueLogic" "PARTIES_OF" "[I") (by decide +kernel)) (htb (.initialized "ClueLogic") (by decide +kernel)) h1 hA
    · exact va_Zof (htb (.laysStatic "java/lang/String" "COMPACT_STRINGS" "Z") (by decide +kernel)) (htb (.initialized "java/lang/String") (by decide +kernel)) h2 hA
  · refine List.forall_mem_cons.mpr ⟨T0, List.forall_mem_cons.mpr ⟨T1, List.forall_mem_cons.mpr ⟨?_, fun _ h => absurd h List.not_mem_nil⟩⟩⟩
    obtain ⟨scr, x1, x2, x3, x4, x5⟩ := hX
    refine ⟨scr, x1, x2, x3, ?_, ?_, fun j hj => ?_, hA b hb⟩
    · show L ≤ scr.slots.size
      omega
    · show scr.slots.size.toInt32 = Int32.ofNat L
      rw [x4]
    · show scr.slots[j]? = some (.int (nI (adF t0 t1 k2 k3 b L xs (6 + j))))
      rw [adF_6]
      exact x5 j hj
set_option maxRecDepth 100000 in
theorem whole_start {p : Program} {e : Env} {s : State} {m : MethodId} {below : List Frame} {meth : Method} {c : Code} (l : Launch) {b L : Nat} {xs : Nat → Int32} (hL : L ≤ 2048) (C0 : lw_At p s m meth c b L xs) : W p l e room_1 s m #[Value.ref b] below meth c s.heap [] 0 0 (lw_Z below #[Value.ref b] s) (entryFrame m ([Value.ref b] : List Value).toArray 4) := by
  obtain ⟨hx, hb, hr, hml, hown, hts, hX, hbl, hlocks, hgv⟩ := C0
  have hg := flat_of_before _ hgv
  have hA : ∀ a : Nat, a < s.heap.size → ¬ s.heap.size ≤ a := fun a h => Nat.not_le.mpr h
  have hgw : ∀ w ∈ GW, w.before #[Value.ref b] s = true := fun w hw => hts w (List.mem_filter.mp hw).1
  obtain ⟨dC, dI, hK⟩ := k_classes m.cls hgw
  obtain ⟨aC, hC⟩ := k_arrays m.cls hgw (hts _ (by decide +kernel))
  obtain ⟨t0, ht0, hT0⟩ := va_Tof (args := #[Value.ref b]) (s := s) (tm := .static "ClueLogic" "TRUTHFUL" "[I") (ty := .int) (N := 3) (f := fun j => .int (truthF j)) (A := fun q => s.heap.size ≤ q) (by decide) (hg _ (by decide +kernel)) (va_eqt (hg _ (by decide +kernel))) (fun j hj => by
    rcases (show j = 0 ∨ j = 1 ∨ j = 2 by omega) with rfl | rfl | rfl
    · exact va_eqt (z := 240) (hg _ (by decide +kernel))
    · exact va_eqt (z := 204) (hg _ (by decide +kernel))
    · exact va_eqt (z := 170) (hg _ (by decide +kernel))) hA
  obtain ⟨t1, ht1, hT1⟩ := va_Tof (args := #[Value.ref b]) (s := s) (tm := .static "ClueLogic" "PARTIES_OF" "[I") (ty := .int) (N := 4) (f := fun j => .int (partsF j)) (A := fun q => s.heap.size ≤ q) (by decide) (hg _ (by decide +kernel)) (va_eqt (hg _ (by decide +kernel))) (fun j hj => by
    rcases (show j = 0 ∨ j = 1 ∨ j = 2 ∨ j = 3 by omega) with rfl | rfl | rfl | rfl
    · exact va_eqt (z := 1) (hg _ (by decide +kernel))
    · exact va_eqt (z := 17) (hg _ (by decide +kernel))
    · exact va_eqt (z := 85) (hg _ (by decide +kernel))
    · exact va_eqt (z := 255) (hg _ (by decide +kernel))) hA
  have hN9 : ∀ i : Nat, i < 1 → ([9] : List Nat).getD i 0 < 2 ^ 31 := by
    intro i hi
    have : i = 0 := by omega
    subst this
    decide
  obtain ⟨adK, adV, hS, hSe⟩ := vk_Sof (args := #[Value.ref b]) (s := s) (N := 1) (tm := fun _ => .string "ClueLogic$Reader" 58) (len := [9]) (byt := [sgnB]) (A := fun q => s.heap.size ≤ q) hN9 (fun i hi => hg _ (by decide +kernel)) (fun i hi => hg _ (by decide +kernel)) (fun i hi => hg _ (by decide +kernel)) (fun i hi => by
    have : i = 0 := by omega
    subst this
    exact hg _ (by decide +kernel)) (fun i hi j hj => by
    have : i = 0 := by omega
    subst this
    have hj : j < 9 := hj
    rcases (show j = 0 ∨ j = 1 ∨ j = 2 ∨ j = 3 ∨ j = 4 ∨ j = 5 ∨ j = 6 ∨ j = 7 ∨ j = 8 by omega) with rfl | rfl | rfl | rfl | rfl | rfl | rfl | rfl | rfl
    · exact hg _ (by decide +kernel)
    · exact hg _ (by decide +kernel)
    · exact hg _ (by decide +kernel)
    · exact hg _ (by decide +kernel)
    · exact hg _ (by decide +kernel)
    · exact hg _ (by decide +kernel)
    · exact hg _ (by decide +kernel)
    · exact hg _ (by decide +kernel)
    · exact hg _ (by decide +kernel)) (fun i j hi hj ne => absurd (show i = j by omega) ne) hA
  have hS2 : vk_S 1 [9] [sgnB] (fun _ => adK 0) (fun _ => adV 0) (fun q => s.heap.size ≤ q) s s.heap := ⟨fun i hi => by
    have : i = 0 := by omega
    subst this
    exact hS.1 0 hi, fun i j hi hj _ => by omega⟩
  have kn : Kn (l, (dC, dI), aC, s.heap.size, adF t0 t1 (adK 0) (adV 0) b L xs) s := kn_start hts hK hC (hSe 0 (by decide))
  have zs : Zs (l, (dC, dI), aC, s.heap.size, adF t0 t1 (adK 0) (adV 0) b L xs) s s.heap := zs_start hts hA ht0 ht1 (va_eqt (hg _ (by decide +kernel))) hT0 hT1 hS2 hX hbl
  have body := lw_body (E := (l, (dC, dI), aC, s.heap.size, adF t0 t1 (adK 0) (adV 0) b L xs)) (h := fun _ => none) (n := s.heap.size) (nm := meth.name) hL (Nat.le_refl _)
  have hl := lv_entry ([.ref b]) (n := 4) (Nat.le_of_ble_eq_true rfl)
  rw [lg_entry_eq]
  generalize (lg_sl ([.ref b]) ++ List.replicate (4 - (lg_sl ([.ref b])).length) Slot.unset).toArray = ls at hl ⊢
  have hl : lv_has ls 4 [(0, .ref b)] := hl
  have hcat : ∀ q ∈ ([(0, Value.ref b)] : List (Nat × Value)), q.2.category = 1 := by
    intro q hq
    have : q = (0, Value.ref b) := by simpa using hq
    subst this
    rfl
  have hno : Rp (l, (dC, dI), aC, s.heap.size, adF t0 t1 (adK 0) (adV 0) b L xs) (fun _ => none) s.heap := by
    intro a e h
    cases h
  have K := body p e room_1 s m #[Value.ref b] below meth c s.heap [] 0 0 ls ⟨hx, hb, hr, hml, hown, hgw, hlocks, rfl, kn, zs, Nat.le_refl _⟩ ⟨⟨by decide, by decide, by decide, by decide⟩, hno, rfl, va_S.rf, hl, hcat⟩
  intro T hT XS
  obtain ⟨t, a1, o, b1, b2, ⟨v, h', n', c1, c2, c3⟩, L', fe, fr⟩ := K T hT XS
  refine ⟨t, a1, o, b1, b2, ?_, fe.1, fe.2.1, State.sameButNew.drop_fresh (L := []) (J := L') fe.2.2 (fun x hx => fr x hx)⟩
  rw [c1, c2]
end STA

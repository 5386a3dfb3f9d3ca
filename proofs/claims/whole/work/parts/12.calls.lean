section JC
variable {E : EV} {M : MI} {d cl sl pc : Nat} {L : List (Nat × Value)} {st : List Value} {h : HP} {n : Nat} {Q : Option Value → HP → Nat → Prop}
/-! references into an array, statics, makings -/
theorem j_aast {t a N ci v : Nat} {C : String} {r : vw_C} {f : Nat → Option Nat} {vs : List Value} {i : Int32} (hd : decode M.2.1 pc = .ok (.aastore, 1)) (ht : atys[t]? = some (.object C)) (ha : h a = some (arQ E t N f)) (hb : E.2.2.2.1 ≤ a) (hv : h v = some (.inr (ci, vs))) (hc : classes[ci]? = some r) (hca : (r.1, C) ∈ castW) (hi : vp_in i N) (kk : J E M d cl sl (pc + 1) L st (hset h a (arQ E t N (va_up f i.toNatClampNeg (some v)))) n Q) : J E M d cl sl pc L (.ref v :: .int i :: .ref a :: st) h n Q := by
  intro p e R s m args below meth c H locs cells slots ls X Y
  have hK := X.2.2.2.2.2.2.2.2.1.1
  have hlt : i.toNatClampNeg < N := Nat.not_le.mp fun q => hi (Or.inr q)
  have h0 : ¬ i < 0 := fun q => hi (Or.inl q)
  obtain ⟨r', hr', cellV, g1, g2, g3, -⟩ := Y.2.1 v _ hv
  have hcls := (hK.1 ci r hc).2
  obtain ⟨kA, comp, k1, k2, k3, -⟩ := (hK.2 t _ (tysE_at E ht)).2
  obtain ⟨kE, hkE, -⟩ := Vm.findClass_spec k3
  obtain ⟨c0, t1, f1, f2, f3⟩ := Cond.castable_spec (va_Nw.use (A := args) rfl (X.2.2.2.2.2.2.2.2.1.2.2.2.1 _ hca))
  cases hcls.1.symm.trans f1
  cases k3.symm.trans f2
  obtain ⟨kC, hkC, -⟩ := hcls.2
  refine W.aast X.1 X.2.1 (Y.2.1 a _ ha) (fun q h => by cases h) (fun h => by cases h) k1 k2 rfl hkE ⟨h0, by show _ < (arrV _ _ _).slots.size; rw [arrV_size]; exact hlt⟩ g1 (fun q h => by rw [g3] at h; cases h) (by rw [g2]; exact hkC) (by rw [g2]; exact f3) rfl rfl hd fun H1 e1 z oq => ?_
  refine kk p e R s m args below meth c H1 _ cells slots ls X ⟨Y.1, Y.2.1.set ?_ oq, by rw [z]; exact Y.2.2.1, Y.2.2.2.1.put z oq hb, Y.2.2.2.2⟩
  show H1[a]? = some (vp_cell _ _)
  rw [e1]
  rw [vp_cell_q, vp_cell_q, arrV_store]
  congr 2
  funext q
  by_cases hq : q = i.toNatClampNeg
  · subst hq
    simp [updV, va_up, va_rf]
  · simp [updV, va_up, hq]
theorem j_gets {idx : Nat} {C nm ds : String} {v : Value} (hd : decode M.2.1 pc = .ok (.getstatic idx, 3)) (hz : (C, nm, ds, v) ∈ stats E.2.2.2.2) (hl : Cond.fieldLink M.1.cls idx C nm ds ∈ GW) (kk : J E M d cl sl (pc + 3) L (v :: st) h n Q) : J E M d cl sl pc L st h n Q :=
  fun p e R s m args below meth c H locs cells slots ls X Y => va_gets X.1 X.2.1 (X.2.2.2.2.2.2.2.2.2.1.1 _ hz) Y.2.2.2.1 X.2.2.2.2.1 (X.2.2.2.2.2.1 _ hl) (fun _ hx => hx) hd (kk p e R s m args below meth c H locs cells slots ls X Y)
theorem j_getsN {idx : Nat} {C nm ds host : String} {v : Value} (hd : decode M.2.1 pc = .ok (.getstatic idx, 3)) (hz : (C, nm, ds, v) ∈ stats E.2.2.2.2) (hl : (M.1.cls, idx, C, nm, ds, host) ∈ nestF) (kk : J E M d cl sl (pc + 3) L (v :: st) h n Q) : J E M d cl sl pc L st h n Q :=
  fun p e R s m args below meth c H locs cells slots ls X Y => va_getsN X.1 X.2.1 (X.2.2.2.2.2.2.2.2.2.1.1 _ hz) Y.2.2.2.1 X.2.2.2.2.1 (va_Nw.use rfl (X.2.2.2.2.2.2.2.2.1.2.1 _ hl)) (fun _ hx => hx) hd (kk p e R s m args below meth c H locs cells slots ls X Y)
def NWc (own : String) (idx ci : Nat) (C : String) (T : u_T) (N : Nat) (ty : Nat → FieldType) : Prop := classes[ci]? = some (C, T, N) ∧ (∀ w ∈ u_ws C T N, w ∈ GW) ∧ (∀ k, k < N → parseFieldDescriptor (T k).2.2.1 = some (ty k)) ∧ Cond.classLink own idx C ∈ GW ∧ Cond.instantiable C N ∈ GW ∧ Cond.initialized C ∈ GW
theorem j_new {idx ci : Nat} {C : String} {T : u_T} {N : Nat} {ty : Nat → FieldType} {fs : List Value} (hd : decode M.2.1 pc = .ok (.new idx, 3)) (g : NWc M.1.cls idx ci C T N ty) (hfs : ∀ j, j < N → defaultValue (ty j) = vp_V fs j) (hcl : 1 ≤ cl) (hsl : N ≤ sl) (kk : J E M d (cl - 1) (sl - N) (pc + 3) L (.ref n :: st) (hset h n (.inr (ci, fs))) (n + 1) Q) : J E M d cl sl pc L st h n Q := by
  intro p e R s m args below meth c H locs cells slots ls X Y
  obtain ⟨hc, hin, hty, hl1, hl2, hl3⟩ := g
  have hts := X.2.2.2.2.2.1
  have hKn := X.2.2.2.2.2.2.2.2.1.1.1 ci _ hc
  obtain ⟨⟨y1, y2, y3, y4⟩, yR, ysz, yS, yl⟩ := Y
  subst ysz
  refine W.newcK X.1 X.2.1 X.2.2.2.2.1 (hts _ hl1) (hts _ hl2) (hts _ hl3) rfl hd (by omega) (by omega) hKn.2.1 rfl fun H1 kC hkC e1 z1 o1 => ?_
  refine kk p e R s m args below meth c H1 _ _ _ ls X ⟨⟨y1, y2, by omega, by omega⟩, yR.push ⟨_, hc, (u_born ty hts hin hKn hkC e1 hty).to hfs⟩ o1, z1, ⟨Nat.le_trans yS.1 (by omega), fun q h1 h2 => (o1 q (Nat.lt_of_lt_of_le h1 yS.1)).trans (yS.2.1 q h1 h2), yS.2.2⟩, yl⟩
theorem j_newa {atype : ArrayType} {t : Nat} {x : Int32} {N : Nat} (hd : decode M.2.1 pc = .ok (.newarray atype, 2)) (ht : atys[t]? = some (newarray.typeOf atype)) (hw : Cond.arrayClass (newarray.typeOf atype) ∈ GW) (hdv : defaultValue (newarray.typeOf atype) = .int 0) (hx : ¬ x < 0) (hN : x.toNatClampNeg = N) (hbytes : N * componentBytes (newarray.typeOf atype) ≤ 536870912) (hcl : 1 ≤ cl) (hsl : N ≤ sl) (kk : J E M d (cl - 1) (sl - N) (pc + 2) L (.ref n :: st) (hset h n (arI E t N (fun _ => 0))) (n + 1) Q) : J E M d cl sl pc L (.int x :: st) h n Q := by
  intro p e R s m args below meth c H locs cells slots ls X Y
  have hts := X.2.2.2.2.2.1
  have hK := X.2.2.2.2.2.2.2.2.1.1
  obtain ⟨⟨y1, y2, y3, y4⟩, yR, ysz, yS, yl⟩ := Y
  subst ysz
  refine va_newaK X.1 X.2.1 (hts _ hw) rfl hd rfl hx hN hbytes (by omega) (by omega) rfl fun H1 cA e1 z1 o1 hAr hNm => ?_
  have hcA : cA = E.2.2.1 t := by
    have h2 := (hK.2 t _ (tysE_at E ht)).2
    have h3 : s.vm.findClass ("[" ++ (newarray.typeOf atype).toString) = some (E.2.2.1 t) := by cases atype <;> exact h2
    exact Option.some.inj (hNm.symm.trans h3)
  subst hcA
  refine kk p e R s m args below meth c H1 _ _ _ ls X ⟨⟨y1, y2, by omega, by omega⟩, yR.push ?_ o1, z1, ⟨Nat.le_trans yS.1 (by omega), fun q h1 h2 => (o1 q (Nat.lt_of_lt_of_le h1 yS.1)).trans (yS.2.1 q h1 h2), yS.2.2⟩, yl⟩
  show H1[H.size]? = some (vp_cell _ _)
  rw [vp_cell_i, e1, hdv]
theorem j_anew {idx t : Nat} {C : String} {x : Int32} {N : Nat} (hd : decode M.2.1 pc = .ok (.anewarray idx, 3)) (ht : atys[t]? = some (.object C)) (hw : Cond.classLink M.1.cls idx C ∈ GW) (ho : C ∈ overW) (hx : ¬ x < 0) (hN : x.toNatClampNeg = N) (hbytes : N * 4 ≤ 536870912) (hcl : 1 ≤ cl) (hsl : N ≤ sl) (kk : J E M d (cl - 1) (sl - N) (pc + 3) L (.ref n :: st) (hset h n (arQ E t N (fun _ => none))) (n + 1) Q) : J E M d cl sl pc L (.int x :: st) h n Q := by
  intro p e R s m args below meth c H locs cells slots ls X Y
  have hts := X.2.2.2.2.2.1
  have hK := X.2.2.2.2.2.2.2.2.1.1
  obtain ⟨⟨y1, y2, y3, y4⟩, yR, ysz, yS, yl⟩ := Y
  subst ysz
  subst hN
  refine W.anew X.1 X.2.1 X.2.2.2.2.1 (hts _ hw) (va_AO.use (X.2.2.2.2.2.2.2.2.1.2.2.2.2.1 _ ho)) rfl hd rfl hx hbytes (by omega) (by omega) fun cA kA comp h1 h2 h3 h4 => ?_
  have hcA : cA = E.2.2.1 t := by
    obtain ⟨kA', comp', g1, g2, g3, g4⟩ := (hK.2 t _ (tysE_at E ht)).2
    exact Option.some.inj (h1.symm.trans g4)
  subst hcA
  have o1 : ∀ q : Nat, q < H.size → (H.push { cls := E.2.2.1 t, slots := Array.replicate x.toNatClampNeg .null, vm := .none })[q]? = H[q]? := fun q hq => by rw [Array.getElem?_push, if_neg (Nat.ne_of_lt hq)]
  refine kk p e R s m args below meth c _ _ _ _ ls X ⟨⟨y1, y2, by omega, by omega⟩, yR.push ?_ o1, by simp, ⟨Nat.le_trans yS.1 (by simp), fun q h1 h2 => (o1 q (Nat.lt_of_lt_of_le h1 yS.1)).trans (yS.2.1 q h1 h2), yS.2.2⟩, yl⟩
  show (H.push _)[H.size]? = some (vp_cell _ _)
  rw [vp_cell_q, ← arrV_new]
  simp [va_rf]
/-! ends -/
theorem j_iret {x : Int32} (hd : decode M.2.1 pc = .ok (.ireturn, 1)) (hr : M.2.2.2 = some .int) (hq : Q (some (.int x)) h n) : J E M d cl sl pc L [.int x] h n Q := by
  intro p e R s m args below meth c H locs cells slots ls X Y
  refine W.widen (k := R.cells) (n := R.slots) (by have := Y.1; omega) (by have := Y.1; omega) ?_
  exact W.iret X.1 X.2.1 (X.2.2.1.trans hr) (fun t ht _ => ⟨_, h, n, rfl, hq, by rw [ht]; exact Y.2.1, by rw [ht]; exact Y.2.2.1, Y.2.2.2.1.F ht⟩) Y.2.2.2.1.2.2 hd X.2.2.2.2.2.2.1
theorem j_zret {x : Int32} (hd : decode M.2.1 pc = .ok (.ireturn, 1)) (hr : M.2.2.2 = some .boolean) (hx : x = 0 ∨ x = 1) (hq : Q (some (.int x)) h n) : J E M d cl sl pc L [.int x] h n Q := by
  intro p e R s m args below meth c H locs cells slots ls X Y
  refine W.widen (k := R.cells) (n := R.slots) (by have := Y.1; omega) (by have := Y.1; omega) ?_
  exact W.zret X.1 X.2.1 (X.2.2.1.trans hr) (by rcases hx with rfl | rfl <;> rfl) (fun t ht _ => ⟨_, h, n, rfl, hq, by rw [ht]; exact Y.2.1, by rw [ht]; exact Y.2.2.1, Y.2.2.2.1.F ht⟩) Y.2.2.2.1.2.2 hd X.2.2.2.2.2.2.1
theorem j_vret (hd : decode M.2.1 pc = .ok (.return_, 1)) (hr : M.2.2.2 = none) (hq : Q none h n) : J E M d cl sl pc L [] h n Q := by
  intro p e R s m args below meth c H locs cells slots ls X Y
  refine W.widen (k := R.cells) (n := R.slots) (by have := Y.1; omega) (by have := Y.1; omega) ?_
  exact W.vret X.1 X.2.1 (X.2.2.1.trans hr) (fun t ht _ => ⟨_, h, n, rfl, hq, by rw [ht]; exact Y.2.1, by rw [ht]; exact Y.2.2.1, Y.2.2.2.1.F ht⟩) Y.2.2.2.1.2.2 hd X.2.2.2.2.2.2.1
theorem j_aret {v : Value} {rt : FieldType} (hd : decode M.2.1 pc = .ok (.areturn, 1)) (hr : M.2.2.2 = some rt) (hrt : (∃ n, rt = .object n) ∨ ∃ t, rt = .array t) (hv : isRf v = true) (hq : Q (some v) h n) : J E M d cl sl pc L [v] h n Q := by
  intro p e R s m args below meth c H locs cells slots ls X Y
  refine W.widen (k := R.cells) (n := R.slots) (by have := Y.1; omega) (by have := Y.1; omega) ?_
  exact W.aret X.1 X.2.1 (X.2.2.1.trans hr) hrt (isRf_of hv) (fun t ht _ => ⟨_, h, n, rfl, hq, by rw [ht]; exact Y.2.1, by rw [ht]; exact Y.2.2.1, Y.2.2.2.1.F ht⟩) Y.2.2.2.1.2.2 hd X.2.2.2.2.2.2.1
/-! a contract out of the walk of its body -/
theorem Ct.ofJ {mc ms : Nat} {as : List Value} (hy : plainName M.1.cls = true) (hn : (lg_sl as).length ≤ M.2.2.1) (hc : ∀ q ∈ lv_args 0 as, q.2.category = 1) (k : J E M d mc ms 0 (lv_args 0 as) [] h n Q) : Ct E M d mc ms as h n Q := by
  unfold Ct
  refine Met.ofW (cc := M.2.1) (maxL := M.2.2.1) (ret := M.2.2.2) hy rfl ?_
  intro p e s m args below meth c s₁ B hml hv
  obtain ⟨rfl, hR, hsz, hK, hZ, hbs⟩ := hv
  have hts := atoms_spec (ws := wsM M) B.pre
  have hl := lv_entry as (n := M.2.2.1) hn
  rw [lg_entry_eq]
  refine k p e (rmD d mc ms) s m _ below meth c s.heap [] 0 0 _ ⟨B.exec, B.bytes, B.returns, hml, findClass_of_methodNamed B.named, fun w hw => hts w (List.mem_cons_of_mem _ hw), B.notSynchronized, (name_of_methodNamed B.named B.method).1, hK, hZ, by rw [hsz]; exact hbs⟩ ⟨⟨Nat.le_refl _, Nat.le_refl _, by simp [rmD], by simp [rmD]⟩, hR, hsz, va_S.rf, hl, hc⟩
/-! calls -/
theorem j_back {p : Program} {e : Env} {R : Room} {s : State} {m : MethodId} {args : Array Value} {below : List Frame} {meth : Method} {c : Code} {H : Heap} {locs : List Loc} {cells slots : Nat} {ls : Array Slot} {mc ms len : Nat} {rest st0 : List Value} {a : Array Value} {Q' : Option Value → HP → Nat → Prop}
    (X : Cx E M p s m args meth c) (Y : Dx E M d cl sl L h n R s H locs cells slots ls) (h1 : mc ≤ cl) (h2 : ms ≤ sl)
    (hr : ∀ T : State, T.heap = H → Stand p E.1 e R s m args below meth c T locs cells slots → ∃ (v : Option Value) (st₀ t T' : State) (L : List Loc), st₀.heap = H ∧ Stand p E.1 e R s m args below meth c T' (locs ++ L) (cells + mc) (slots + ms) ∧ (∀ q ∈ L, Ab E q.base) ∧ T'.heap = t.heap ∧ T'.vm = t.vm ∧ Qx E Q' a st₀ (.returned v) t ∧ Goes p e below T (F0 m pc ls st0) T' (F0 m len ls (v.toList ++ rest)))
    (kk : ∀ (v : Option Value) (h' : HP) (n' : Nat), Q' v h' n' → n ≤ n' → J E M d (cl - mc) (sl - ms) len L (v.toList ++ rest) h' n' Q) :
    W p E.1 e R s m args below meth c H locs cells slots (MQ below (Qx E Q) args s R.cells R.slots (Ab E)) (F0 m pc ls st0) := by
  intro T hT XS
  obtain ⟨v, st₀, t, T', L2, h0, X', hL, e1, e2, ⟨v', h', n', hv, hq, hRp, hsz, hz, hk⟩, go⟩ := hr T hT XS
  cases hv
  rw [h0] at hz hk
  obtain ⟨⟨y1, y2, y3, y4⟩, yR, ysz, yS, yl⟩ := Y
  obtain ⟨t2, a1, b1⟩ := kk v h' n' hq (by rw [← ysz, ← hsz]; exact hz) p e R s m args below meth c T'.heap (locs ++ L2) (cells + mc) (slots + ms) ls X ⟨⟨y1, y2, by omega, by omega⟩, by rw [e1]; exact hRp, by rw [e1]; exact hsz,
    ⟨Nat.le_trans yS.1 (by rw [e1]; exact hz), fun q g1 g2 => by rw [e1, hk q (Nat.lt_of_lt_of_le g1 yS.1) g2]; exact yS.2.1 q g1 g2, fun q hq => by
      rcases List.mem_append.mp hq with g | g
      · exact yS.2.2 q g
      · exact hL q g⟩, yl⟩ T' rfl X'
  exact ⟨t2, go t2 a1, b1⟩
theorem GW_good : ∀ w ∈ GW, (w.onTables && w.keeps) = true ∨ ∃ ty, w = .arrayClass ty := fun w hw => good_of_word (List.mem_filter.mp hw).2
def CBx (own : String) (idx : Nat) (M' : MI) (k : Nat) : Prop := Cond.code M'.1 M'.2.1 M'.2.2.1 M'.2.2.2 ∈ GW ∧ Cond.methodLink own idx M'.1 ∈ GW ∧ Cond.initialized M'.1.cls ∈ GW ∧ (M'.1.cls ≠ "java/lang/invoke/MethodHandle" ∧ M'.1.cls ≠ "java/lang/invoke/VarHandle") ∧ (parseMethodDescriptor M'.1.desc).map (fun d => d.parameters.length) = some k ∧ M'.2.2.1 ≤ 21
theorem wsM_good {M' : MI} (hw : Cond.code M'.1 M'.2.1 M'.2.2.1 M'.2.2.2 ∈ GW) : GoodIn GW (wsM M') := by
  intro w h
  rcases List.mem_cons.mp h with rfl | h
  · exact ⟨hw, GW_good _ hw⟩
  · exact ⟨h, GW_good w h⟩
theorem j_cb {p : Program} {R : Room} {s : State} {m : MethodId} {args : Array Value} {meth : Method} {c : Code} {idx d' mc ms k : Nat} {M' : MI} (X : Cx E M p s m args meth c) (hd : d ≤ R.frames ∧ 40 * d ≤ R.locals) (g : CBx M.1.cls idx M' k) (hdd : d' + 1 ≤ d) :
    CallB R s args M.1.cls idx M'.1 M'.2.1 M'.2.2.1 M'.2.2.2 (wsM M') (rmD d' mc ms) mc ms k := by
  obtain ⟨g1, g2, g3, g4, g5, g6⟩ := g
  have hts := X.2.2.2.2.2.1
  refine callB_of (Ts := GW) (ws' := GW) k hts (wsM_good g1) rfl rfl rfl (hts _ g3) (hts _ g2) ⟨g4.1, g4.2, g5⟩ ⟨?_, ?_⟩
  · show d' + 1 ≤ R.frames
    omega
  · show 8 + (M'.2.2.1 + 11) + 40 * d' ≤ R.locals
    omega
theorem j_callV {idx d' mc ms k b ci : Nat} {M' : MI} {As rest : List Value} {r : vw_C} {fs : List Value} {Q' : Option Value → HP → Nat → Prop} (hd : decode M.2.1 pc = .ok (.invokevirtual idx, 3)) (g : CBx M.1.cls idx M' k) (gi : Cond.instanceMethod M'.1 ∈ GW ∧ Cond.selects M'.1.cls M'.1 M'.1 ∈ GW) (hb : h b = some (.inr (ci, fs))) (hc : classes[ci]? = some r) (hcn : r.1 = M'.1.cls) (hk : As.length = k) (hst : st = As.reverse ++ .ref b :: rest) (hroom : (rest.map fun v => v.category).sum ≤ 8) (hdd : d' + 1 ≤ d) (h1 : mc ≤ cl) (h2 : ms ≤ sl)
    (ct : Ct E M' d' mc ms (.ref b :: As) h n Q') (kk : ∀ (v : Option Value) (h' : HP) (n' : Nat), Q' v h' n' → n ≤ n' → J E M d (cl - mc) (sl - ms) (pc + 3) L (v.toList ++ rest) h' n' Q) : J E M d cl sl pc L st h n Q := by
  intro p e R s m args below meth c H locs cells slots ls X Y
  have hts := X.2.2.2.2.2.1
  have hK := X.2.2.2.2.2.2.2.2.1
  have ysz := Y.2.2.1
  refine j_back X Y h1 h2 (va_runV (As := As) (rest := rest) (C := M'.1.cls) (own := M.1.cls) (nL := M.2.2.1) (cc := M.2.1) (Ts := GW) ⟨X.1, X.2.1, X.2.2.2.1, X.2.2.2.2.1, hts⟩ ct ⟨j_cb X ⟨Y.1.1, Y.1.2.1⟩ g hdd, hts _ gi.1, hts _ gi.2⟩ ⟨Wd.blind, ?_, fun U hU hW => ⟨rfl, ?_⟩⟩ rfl hk Y.2.2.2.2.1.1 hst (lv_room hroom) hd ⟨by have := Y.1; omega, by have := Y.1; omega⟩) kk
  · have := va_recv hK.1 (va_P.one (Y.2.1 b _ hb)) (ci := ci) (q0 := 0) hc rfl
    rw [hcn] at this
    exact this
  · rw [← ysz]
    exact Wd.at Y.2.1 hK X.2.2.2.2.2.2.2.2.2.1 Y.2.2.2.1 X.2.2.2.2.2.2.2.2.2.2 hU hW
theorem j_callS {idx d' mc ms k : Nat} {M' : MI} {As rest : List Value} {Q' : Option Value → HP → Nat → Prop} (hd : decode M.2.1 pc = .ok (.invokestatic idx, 3)) (g : CBx M.1.cls idx M' k) (gi : Cond.static M'.1 ∈ GW) (hk : As.length = k) (hst : st = As.reverse ++ rest) (hroom : (rest.map fun v => v.category).sum ≤ 8) (hdd : d' + 1 ≤ d) (h1 : mc ≤ cl) (h2 : ms ≤ sl)
    (ct : Ct E M' d' mc ms As h n Q') (kk : ∀ (v : Option Value) (h' : HP) (n' : Nat), Q' v h' n' → n ≤ n' → J E M d (cl - mc) (sl - ms) (pc + 3) L (v.toList ++ rest) h' n' Q) : J E M d cl sl pc L st h n Q := by
  intro p e R s m args below meth c H locs cells slots ls X Y
  have hts := X.2.2.2.2.2.1
  have hK := X.2.2.2.2.2.2.2.2.1
  have ysz := Y.2.2.1
  refine j_back X Y h1 h2 (va_runS (As := As) (rest := rest) (own := M.1.cls) (nL := M.2.2.1) (cc := M.2.1) (Ts := GW) ⟨X.1, X.2.1, X.2.2.2.1, X.2.2.2.2.1, hts⟩ ct ⟨j_cb X ⟨Y.1.1, Y.1.2.1⟩ g hdd, hts _ gi⟩ ⟨Wd.blind, fun U hU hW => ⟨rfl, ?_⟩⟩ rfl hk Y.2.2.2.2.1.1 hst (lv_room hroom) hd ⟨by have := Y.1; omega, by have := Y.1; omega⟩) kk
  rw [← ysz]
  exact Wd.at Y.2.1 hK X.2.2.2.2.2.2.2.2.2.1 Y.2.2.2.1 X.2.2.2.2.2.2.2.2.2.2 hU hW
theorem j_callI {idx d' mc ms k b : Nat} {M' : MI} {As rest : List Value} {Q' : Option Value → HP → Nat → Prop} (hd : decode M.2.1 pc = .ok (.invokespecial idx, 3)) (g : CBx M.1.cls idx M' k) (gi : M'.1.name = "<init>" ∧ M'.2.2.2 = none ∧ Cond.instanceMethod M'.1 ∈ GW) (hk : As.length = k) (hst : st = As.reverse ++ .ref b :: rest) (hroom : (rest.map fun v => v.category).sum ≤ 8) (hdd : d' + 1 ≤ d) (h1 : mc ≤ cl) (h2 : ms ≤ sl)
    (ct : Ct E M' d' mc ms (.ref b :: As) h n Q') (kk : ∀ (v : Option Value) (h' : HP) (n' : Nat), Q' v h' n' → n ≤ n' → J E M d (cl - mc) (sl - ms) (pc + 3) L (v.toList ++ rest) h' n' Q) : J E M d cl sl pc L st h n Q := by
  intro p e R s m args below meth c H locs cells slots ls X Y
  have hts := X.2.2.2.2.2.1
  have hK := X.2.2.2.2.2.2.2.2.1
  have ysz := Y.2.2.1
  have hcb := j_cb (mc := mc) (ms := ms) X ⟨Y.1.1, Y.1.2.1⟩ g hdd
  rw [gi.2.1] at hcb
  refine j_back X Y h1 h2 (va_runI (As := As) (rest := rest) (own := M.1.cls) (nL := M.2.2.1) (cc := M.2.1) (Ts := GW) ⟨X.1, X.2.1, X.2.2.2.1, X.2.2.2.2.1, hts⟩ ct ⟨hcb, gi.1, hts _ gi.2.2⟩ ⟨Wd.blind, fun U hU hW => ⟨rfl, ?_⟩⟩ rfl hk Y.2.2.2.2.1.1 hst (lv_room hroom) hd ⟨by have := Y.1; omega, by have := Y.1; omega⟩) kk
  rw [← ysz]
  exact Wd.at Y.2.1 hK X.2.2.2.2.2.2.2.2.2.1 Y.2.2.2.1 X.2.2.2.2.2.2.2.2.2.2 hU hW
theorem j_obj {idx a : Nat} (hd : decode M.2.1 pc = .ok (.invokespecial idx, 3)) (hl : Cond.methodLink M.1.cls idx Lib.objectInit ∈ GW) (hi : Cond.instanceMethod Lib.objectInit ∈ GW) (hc : Cond.code Lib.objectInit ⟨#[0xb1]⟩ 1 none ∈ GW) (hroom : (st.map fun v => v.category).sum ≤ 8) (hdd : 1 ≤ d) (kk : J E M d cl sl (pc + 3) L st h n Q) : J E M d cl sl pc L (.ref a :: st) h n Q := by
  intro p e R s m args below meth c H locs cells slots ls X Y
  have hts := X.2.2.2.2.2.1
  have y1 := Y.1.1
  have y2 := Y.1.2.1
  have hr : 2 * (F0 m pc ls (.ref a :: st)).monitorRoom + (st.map fun v => v.category).sum ≤ 8 := lv_room hroom
  exact W.objInit X.1 X.2.1 X.2.2.2.2.1 (hts _ hl) (hts _ hi) (hts _ hc) rfl (Y.2.2.2.2.1.1.trans X.2.2.2.1.symm) rfl hd (by omega) (by omega) (kk p e R s m args below meth c H locs cells slots ls X Y)
theorem j_callF {idx cnt d' mc ms k b ci : Nat} {x : MethodName} {M' : MI} {As rest : List Value} {r : vw_C} {fs : List Value} {Q' : Option Value → HP → Nat → Prop} (hd : decode M.2.1 pc = .ok (.invokeinterface idx cnt, 5)) (g : Cond.code M'.1 M'.2.1 M'.2.2.1 M'.2.2.2 ∈ GW ∧ Cond.methodLink M.1.cls idx x ∈ GW ∧ Cond.selects M'.1.cls x M'.1 ∈ GW ∧ Cond.instanceMethod M'.1 ∈ GW ∧ Cond.initialized M'.1.cls ∈ GW) (gf : (M'.1.cls, x, M'.1) ∈ faceW) (gx : x.cls ≠ "java/lang/invoke/MethodHandle" ∧ x.cls ≠ "java/lang/invoke/VarHandle" ∧ (parseMethodDescriptor x.desc).map (fun d => d.parameters.length) = some k) (gm : M'.2.2.1 ≤ 21) (hb : h b = some (.inr (ci, fs))) (hc : classes[ci]? = some r) (hcn : r.1 = M'.1.cls) (hk : As.length = k) (hst : st = As.reverse ++ .ref b :: rest) (hroom : (rest.map fun v => v.category).sum ≤ 8) (hdd : d' + 1 ≤ d) (h1 : mc ≤ cl) (h2 : ms ≤ sl)
    (ct : Ct E M' d' mc ms (.ref b :: As) h n Q') (kk : ∀ (v : Option Value) (h' : HP) (n' : Nat), Q' v h' n' → n ≤ n' → J E M d (cl - mc) (sl - ms) (pc + 5) L (v.toList ++ rest) h' n' Q) : J E M d cl sl pc L st h n Q := by
  intro p e R s m args below meth c H locs cells slots ls X Y
  have hts := X.2.2.2.2.2.1
  have hK := X.2.2.2.2.2.2.2.2.1
  have ysz := Y.2.2.1
  have hdR := Y.1
  obtain ⟨g1, g2, g3, g4, g5⟩ := g
  have hG : GoodIn GW (va_wsF M.1.cls idx M'.1.cls x M'.1 (wsM M')) := by
    intro w hw
    rcases List.mem_append.mp hw with hw | hw
    · simp only [List.mem_cons, List.not_mem_nil, or_false] at hw
      rcases hw with rfl | rfl | rfl | rfl
      · exact ⟨g2, GW_good _ g2⟩
      · exact ⟨g3, GW_good _ g3⟩
      · exact ⟨g4, GW_good _ g4⟩
      · exact ⟨g5, GW_good _ g5⟩
    · exact wsM_good g1 w hw
  have hat : ClassAt s M'.1.cls (E.2.1.1 ci) := by
    have := (hK.1.1 ci r hc).2
    rw [hcn] at this
    exact this
  refine j_back X Y h1 h2 (va_runF (As := As) (rest := rest) (C := M'.1.cls) (own := M.1.cls) (nL := M.2.2.1) (cc := M.2.1) (Ts := GW) hat ⟨X.1, X.2.1, X.2.2.2.1, X.2.2.2.2.1, hts⟩ ct (va_cwF (ws' := GW) k hts hG rfl rfl rfl (hK.2.2.1 _ gf) gx ⟨by show d' + 1 ≤ R.frames; omega, by show 8 + (M'.2.2.1 + 11) + 40 * d' ≤ R.locals; omega⟩) ⟨Wd.blind, ?_, fun U hU hW => ⟨rfl, ?_⟩⟩ rfl hk Y.2.2.2.2.1.1 hst (lv_room hroom) hd ⟨by omega, by omega⟩) kk
  · have := va_recv hK.1 (va_P.one (Y.2.1 b _ hb)) (ci := ci) (q0 := 0) hc rfl
    rw [hcn] at this
    exact this
  · rw [← ysz]
    exact Wd.at Y.2.1 hK X.2.2.2.2.2.2.2.2.2.1 Y.2.2.2.1 X.2.2.2.2.2.2.2.2.2.2 hU hW
/-! the statics' rows, the text of the signs -/
theorem j_stI {i x : Int32} {t N : Nat} {f : Nat → Int32} (hd : decode M.2.1 pc = .ok (.iaload, 1)) (ht : (t, N, f) ∈ starr E.2.2.2.2) (hi : vp_in i N) (hx : f i.toNatClampNeg = x) (kk : J E M d cl sl (pc + 1) L (.int x :: st) h n Q) : J E M d cl sl pc L (.int i :: .ref t :: st) h n Q :=
  fun p e R s m args below meth c H locs cells slots ls X Y => va_ti X.1 X.2.1 (X.2.2.2.2.2.2.2.2.2.1.2.1 _ ht) Y.2.2.2.1 hi (by dsimp only; rw [hx]) hd (kk p e R s m args below meth c H locs cells slots ls X Y)
theorem j_ldcS (hd : decode M.2.1 pc = .ok (.ldc 58, 2)) (hc : M.1.cls = "ClueLogic$Reader") (kk : J E M d cl sl (pc + 2) L (.ref (E.2.2.2.2 2) :: st) h n Q) : J E M d cl sl pc L st h n Q :=
  fun p e R s m args below meth c H locs cells slots ls X Y => va_ldcS X.1 X.2.1 (hc ▸ X.2.2.2.2.1) X.2.2.2.2.2.2.2.2.1.2.2.2.2.2 hd (kk p e R s m args below meth c H locs cells slots ls X Y)
theorem j_sval {idx : Nat} (hd : decode M.2.1 pc = .ok (.getfield idx, 3)) (hl : Cond.fieldLink M.1.cls idx "java/lang/String" "value" "[B" ∈ GW) (kk : J E M d cl sl (pc + 3) L (.ref (E.2.2.2.2 3) :: st) h n Q) : J E M d cl sl pc L (.ref (E.2.2.2.2 2) :: st) h n Q :=
  fun p e R s m args below meth c H locs cells slots ls X Y => vk_getf X.1 X.2.1 (X.2.2.2.2.2.2.2.2.2.1.2.2.1 0 (by decide)).2.2.1 Y.2.2.2.1 X.2.2.2.2.1 (X.2.2.2.2.2.1 _ hl) (fun _ hx => hx) hd (kk p e R s m args below meth c H locs cells slots ls X Y)
theorem j_scod {idx : Nat} (hd : decode M.2.1 pc = .ok (.getfield idx, 3)) (hl : Cond.fieldLink M.1.cls idx "java/lang/String" "coder" "B" ∈ GW) (kk : J E M d cl sl (pc + 3) L (.int 0 :: st) h n Q) : J E M d cl sl pc L (.ref (E.2.2.2.2 2) :: st) h n Q :=
  fun p e R s m args below meth c H locs cells slots ls X Y => vk_getf X.1 X.2.1 (X.2.2.2.2.2.2.2.2.2.1.2.2.1 0 (by decide)).2.1 Y.2.2.2.1 X.2.2.2.2.1 (X.2.2.2.2.2.1 _ hl) (fun _ hx => hx) hd (kk p e R s m args below meth c H locs cells slots ls X Y)
theorem j_stB {i x : Int32} (hd : decode M.2.1 pc = .ok (.baload, 1)) (hi : vp_in i 9) (hx : sgnB.getD i.toNatClampNeg 0 = x) (kk : J E M d cl sl (pc + 1) L (.int x :: st) h n Q) : J E M d cl sl pc L (.int i :: .ref (E.2.2.2.2 3) :: st) h n Q :=
  fun p e R s m args below meth c H locs cells slots ls X Y => va_tb X.1 X.2.1 (X.2.2.2.2.2.2.2.2.2.1.2.2.1 0 (by decide)).2.2.2 Y.2.2.2.1 hi (by show Value.int (sgnB.getD _ 0) = _; rw [hx]) hd (kk p e R s m args below meth c H locs cells slots ls X Y)
theorem j_stL (hd : decode M.2.1 pc = .ok (.arraylength, 1)) (kk : J E M d cl sl (pc + 1) L (.int 9 :: st) h n Q) : J E M d cl sl pc L (.ref (E.2.2.2.2 3) :: st) h n Q :=
  fun p e R s m args below meth c H locs cells slots ls X Y => va_tlen X.1 X.2.1 (X.2.2.2.2.2.2.2.2.2.1.2.2.1 0 (by decide)).2.2.2 Y.2.2.2.1 rfl hd (kk p e R s m args below meth c H locs cells slots ls X Y)
theorem j_callStr {idx d' k : Nat} {M' : MI} {As rest : List Value} {v : Option Value} (hd : decode M.2.1 pc = .ok (.invokevirtual idx, 3)) (g : CBx M.1.cls idx M' k) (gi : Cond.instanceMethod M'.1 ∈ GW ∧ Cond.selects M'.1.cls M'.1 M'.1 ∈ GW) (hcn : "java/lang/String" = M'.1.cls) (hk : As.length = k) (hst : st = As.reverse ++ .ref (E.2.2.2.2 2) :: rest) (hroom : (rest.map fun v => v.category).sum ≤ 8) (hdd : d' + 1 ≤ d)
    (ct : Ct E M' d' 0 0 (.ref (E.2.2.2.2 2) :: As) h n (fun r h' n' => r = v ∧ h' = h ∧ n' = n)) (kk : J E M d cl sl (pc + 3) L (v.toList ++ rest) h n Q) : J E M d cl sl pc L st h n Q := by
  intro p e R s m args below meth c H locs cells slots ls X Y
  have hts := X.2.2.2.2.2.1
  have hK := X.2.2.2.2.2.2.2.2.1
  have ysz := Y.2.2.1
  refine j_back (mc := 0) (ms := 0) X Y (Nat.zero_le _) (Nat.zero_le _) (va_runV (As := As) (rest := rest) (C := M'.1.cls) (own := M.1.cls) (nL := M.2.2.1) (cc := M.2.1) (Ts := GW) ⟨X.1, X.2.1, X.2.2.2.1, X.2.2.2.2.1, hts⟩ ct ⟨j_cb X ⟨Y.1.1, Y.1.2.1⟩ g hdd, hts _ gi.1, hts _ gi.2⟩ ⟨Wd.blind, ?_, fun U hU hW => ⟨rfl, ?_⟩⟩ rfl hk Y.2.2.2.2.1.1 hst (lv_room hroom) hd ⟨by have := Y.1; omega, by have := Y.1; omega⟩) (fun v' h' n' q _ => by obtain ⟨rfl, rfl, rfl⟩ := q; exact kk)
  · have := vk_recv (i := 0) X.2.2.2.2.2.2.2.2.2.1.2.2 (by decide) Y.2.2.2.1
    rw [hcn] at this
    exact this
  · rw [← ysz]
    exact Wd.at Y.2.1 hK X.2.2.2.2.2.2.2.2.2.1 Y.2.2.2.1 X.2.2.2.2.2.2.2.2.2.2 hU hW
/-- a weaker end -/
theorem J.mono {Q2 : Option Value → HP → Nat → Prop} (hq : ∀ v h' n', Q v h' n' → Q2 v h' n') (k : J E M d cl sl pc L st h n Q) : J E M d cl sl pc L st h n Q2 := by
  intro p e R s m args below meth c H locs cells slots ls X Y T hT XS
  obtain ⟨t, a1, o, b1, b2, ⟨v, h', n', c1, c2, c3⟩, b4⟩ := k p e R s m args below meth c H locs cells slots ls X Y T hT XS
  exact ⟨t, a1, o, b1, b2, ⟨v, h', n', c1, hq _ _ _ c2, c3⟩, b4⟩
theorem J.room {d2 cl2 sl2 : Nat} (h1 : d2 ≤ d) (h2 : cl2 ≤ cl) (h3 : sl2 ≤ sl) (k : J E M d2 cl2 sl2 pc L st h n Q) : J E M d cl sl pc L st h n Q := by
  intro p e R s m args below meth c H locs cells slots ls X Y
  have := Y.1
  exact k p e R s m args below meth c H locs cells slots ls X ⟨⟨by omega, by omega, by omega, by omega⟩, Y.2⟩
end JC

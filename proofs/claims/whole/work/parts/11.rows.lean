section JR
variable {E : EV} {M : MI} {d cl sl pc : Nat} {L : List (Nat × Value)} {st : List Value} {h : HP} {n : Nat} {Q : Option Value → HP → Nat → Prop}
def isRf : Value → Bool
  | .ref _ => true
  | .null => true
  | _ => false
theorem isRf_of {v : Value} (h : isRf v = true) : v = .null ∨ ∃ a, v = .ref a := by
  cases v <;> first | exact Or.inl rfl | exact Or.inr ⟨_, rfl⟩ | cases h
theorem J.pure {pc' : Nat} {st' : List Value} (f : ∀ (p : Program) (e : Env) (R : Room) (s : State) (m : MethodId) (args : Array Value) (below : List Frame) (meth : Method) (c : Code) (H : Heap) (locs : List Loc) (cells slots : Nat) (ls : Array Slot) (QQ : State → Prop), p.tables.exec = Jvm.exec → c.code = M.2.1 → lv_has ls M.2.2.1 L → W p E.1 e R s m args below meth c H locs cells slots QQ (F0 m pc' ls st') → W p E.1 e R s m args below meth c H locs cells slots QQ (F0 m pc ls st)) (k : J E M d cl sl pc' L st' h n Q) : J E M d cl sl pc L st h n Q :=
  fun p e R s m args below meth c H locs cells slots ls X Y => f p e R s m args below meth c H locs cells slots ls _ X.1 X.2.1 Y.2.2.2.2.1 (k p e R s m args below meth c H locs cells slots ls X Y)
theorem J.store {pc' i : Nat} {v : Value} {st' : List Value} (hc : v.category = 1) (f : ∀ (p : Program) (e : Env) (R : Room) (s : State) (m : MethodId) (args : Array Value) (below : List Frame) (meth : Method) (c : Code) (H : Heap) (locs : List Loc) (cells slots : Nat) (ls : Array Slot) (QQ : State → Prop), p.tables.exec = Jvm.exec → c.code = M.2.1 → lv_has ls M.2.2.1 L → (∀ ls' : Array Slot, lv_has ls' M.2.2.1 ((i, v) :: L.filter (fun q => !(q.1 == i) && !(q.1 + 1 == i && q.2.category == 2))) → W p E.1 e R s m args below meth c H locs cells slots QQ (F0 m pc' ls' st')) → W p E.1 e R s m args below meth c H locs cells slots QQ (F0 m pc ls st)) (k : J E M d cl sl pc' (lset L i v) st' h n Q) : J E M d cl sl pc L st h n Q :=
  fun p e R s m args below meth c H locs cells slots ls X Y => f p e R s m args below meth c H locs cells slots ls _ X.1 X.2.1 Y.2.2.2.2.1 (fun ls' h' => k p e R s m args below meth c H locs cells slots ls' X ⟨Y.1, Y.2.1, Y.2.2.1, Y.2.2.2.1, lset_has Y.2.2.2.2.2 h', lset_cat Y.2.2.2.2.2 hc⟩)
theorem j_iconst {i : Int} {v : Int32} (hd : decode M.2.1 pc = .ok (.iconst i, 1)) (hv : Int32.ofInt i = v) (k : J E M d cl sl (pc + 1) L (.int v :: st) h n Q) : J E M d cl sl pc L st h n Q := J.pure (fun _ _ _ _ _ _ _ _ _ _ _ _ _ _ _ hx hb hl kk => lv_iconst hx hb hd hv kk) k
theorem j_bipush {i : Int} {v : Int32} (hd : decode M.2.1 pc = .ok (.bipush i, 2)) (hv : (Int8.ofInt i).toInt32 = v) (k : J E M d cl sl (pc + 2) L (.int v :: st) h n Q) : J E M d cl sl pc L st h n Q := J.pure (fun _ _ _ _ _ _ _ _ _ _ _ _ _ _ _ hx hb hl kk => lv_bipush hx hb hd hv kk) k
theorem j_sipush {i : Int} {v : Int32} (hd : decode M.2.1 pc = .ok (.sipush i, 3)) (hv : (Int16.ofInt i).toInt32 = v) (k : J E M d cl sl (pc + 3) L (.int v :: st) h n Q) : J E M d cl sl pc L st h n Q := J.pure (fun _ _ _ _ _ _ _ _ _ _ _ _ _ _ _ hx hb hl kk => lv_sipush hx hb hd hv kk) k
theorem j_null  (hd : decode M.2.1 pc = .ok (.aconst_null, 1)) (k : J E M d cl sl (pc + 1) L (.null :: st) h n Q) : J E M d cl sl pc L st h n Q := J.pure (fun _ _ _ _ _ _ _ _ _ _ _ _ _ _ _ hx hb hl kk => lv_null hx hb hd kk) k
theorem j_iload_n {i : Fin 4} {x : Int32} (hd : decode M.2.1 pc = .ok (.iload_n i, 1)) (hv : lgt L i = some (.int x)) (k : J E M d cl sl (pc + 1) L (.int x :: st) h n Q) : J E M d cl sl pc L st h n Q := J.pure (fun _ _ _ _ _ _ _ _ _ _ _ _ _ _ _ hx hb hl kk => lv_iload_n hx hb hd rfl (lgt_at hl hv) kk) k
theorem j_iload {i : Nat} {x : Int32} (hd : decode M.2.1 pc = .ok (.iload i, 2)) (hv : lgt L i = some (.int x)) (k : J E M d cl sl (pc + 2) L (.int x :: st) h n Q) : J E M d cl sl pc L st h n Q := J.pure (fun _ _ _ _ _ _ _ _ _ _ _ _ _ _ _ hx hb hl kk => lv_iload hx hb hd (lgt_at hl hv) kk) k
theorem j_aload_n {i : Fin 4} {x : Nat} (hd : decode M.2.1 pc = .ok (.aload_n i, 1)) (hv : lgt L i = some (.ref x)) (k : J E M d cl sl (pc + 1) L (.ref x :: st) h n Q) : J E M d cl sl pc L st h n Q := J.pure (fun _ _ _ _ _ _ _ _ _ _ _ _ _ _ _ hx hb hl kk => lv_aload_n hx hb hd rfl (lgt_at hl hv) kk) k
theorem j_aload {i : Nat} {x : Nat} (hd : decode M.2.1 pc = .ok (.aload i, 2)) (hv : lgt L i = some (.ref x)) (k : J E M d cl sl (pc + 2) L (.ref x :: st) h n Q) : J E M d cl sl pc L st h n Q := J.pure (fun _ _ _ _ _ _ _ _ _ _ _ _ _ _ _ hx hb hl kk => lv_aload hx hb hd (lgt_at hl hv) kk) k
theorem j_aload_nN {i : Fin 4} (hd : decode M.2.1 pc = .ok (.aload_n i, 1)) (hv : lgt L i = some .null) (k : J E M d cl sl (pc + 1) L (.null :: st) h n Q) : J E M d cl sl pc L st h n Q := J.pure (fun _ _ _ _ _ _ _ _ _ _ _ _ _ _ _ hx hb hl kk => lv_aload_nN hx hb hd rfl (lgt_at hl hv) kk) k
theorem j_aloadN {i : Nat} (hd : decode M.2.1 pc = .ok (.aload i, 2)) (hv : lgt L i = some .null) (k : J E M d cl sl (pc + 2) L (.null :: st) h n Q) : J E M d cl sl pc L st h n Q := J.pure (fun _ _ _ _ _ _ _ _ _ _ _ _ _ _ _ hx hb hl kk => lv_aloadN hx hb hd (lgt_at hl hv) kk) k
theorem j_istore_n {i : Fin 4} {x : Int32} (hd : decode M.2.1 pc = .ok (.istore_n i, 1)) (hn : (i : Nat) < M.2.2.1) (k : J E M d cl sl (pc + 1) (lset L (i : Nat) (.int x)) st h n Q) : J E M d cl sl pc L (.int x :: st) h n Q := J.store rfl (fun _ _ _ _ _ _ _ _ _ _ _ _ _ _ _ hx hb hl kk => lv_istore_n hx hb hd rfl hl hn rfl kk) k
theorem j_istore {i : Nat} {x : Int32} (hd : decode M.2.1 pc = .ok (.istore i, 2)) (hn : i < M.2.2.1) (k : J E M d cl sl (pc + 2) (lset L i (.int x)) st h n Q) : J E M d cl sl pc L (.int x :: st) h n Q := J.store rfl (fun _ _ _ _ _ _ _ _ _ _ _ _ _ _ _ hx hb hl kk => lv_istore hx hb hd hl hn rfl kk) k
theorem j_astore_n {i : Fin 4} {x : Nat} (hd : decode M.2.1 pc = .ok (.astore_n i, 1)) (hn : (i : Nat) < M.2.2.1) (k : J E M d cl sl (pc + 1) (lset L (i : Nat) (.ref x)) st h n Q) : J E M d cl sl pc L (.ref x :: st) h n Q := J.store rfl (fun _ _ _ _ _ _ _ _ _ _ _ _ _ _ _ hx hb hl kk => lv_astore_n hx hb hd rfl hl hn rfl kk) k
theorem j_astore {i : Nat} {x : Nat} (hd : decode M.2.1 pc = .ok (.astore i, 2)) (hn : i < M.2.2.1) (k : J E M d cl sl (pc + 2) (lset L i (.ref x)) st h n Q) : J E M d cl sl pc L (.ref x :: st) h n Q := J.store rfl (fun _ _ _ _ _ _ _ _ _ _ _ _ _ _ _ hx hb hl kk => lv_astore hx hb hd hl hn rfl kk) k
theorem j_astore_nN {i : Fin 4} (hd : decode M.2.1 pc = .ok (.astore_n i, 1)) (hn : (i : Nat) < M.2.2.1) (k : J E M d cl sl (pc + 1) (lset L (i : Nat) .null) st h n Q) : J E M d cl sl pc L (.null :: st) h n Q := J.store rfl (fun _ _ _ _ _ _ _ _ _ _ _ _ _ _ _ hx hb hl kk => lv_astore_nN hx hb hd rfl hl hn rfl kk) k
theorem j_astoreN {i : Nat} (hd : decode M.2.1 pc = .ok (.astore i, 2)) (hn : i < M.2.2.1) (k : J E M d cl sl (pc + 2) (lset L i .null) st h n Q) : J E M d cl sl pc L (.null :: st) h n Q := J.store rfl (fun _ _ _ _ _ _ _ _ _ _ _ _ _ _ _ hx hb hl kk => lv_astoreN hx hb hd hl hn rfl kk) k
theorem lgt_ix {L : List (Nat × Value)} {i : Nat} {v : Value} (h : lgt L i = some v) : ∃ k : Nat, L[k]? = some (i, v) := List.getElem?_of_mem (lgt_mem L i v h)
theorem j_iinc {i : Nat} {z : Int} {x v : Int32} (hd : decode M.2.1 pc = .ok (.iinc i z, 3)) (hx0 : lgt L i = some (.int x)) (hv : x + Int32.ofInt z = v) (hn : i < M.2.2.1) (k : J E M d cl sl (pc + 3) (lset L i (.int v)) st h n Q) : J E M d cl sl pc L st h n Q := by
  obtain ⟨q, hq⟩ := lgt_ix hx0
  exact J.store (v := .int v) rfl (fun _ _ _ _ _ _ _ _ _ _ _ _ _ _ _ hx hb hl kk => lv_iinc hx hb hd hl hq hv hn rfl kk) k
theorem j_iadd {x y : Int32} (hd : decode M.2.1 pc = .ok (.iadd, 1)) (k : J E M d cl sl (pc + 1) L (.int (x + y) :: st) h n Q) : J E M d cl sl pc L (.int y :: .int x :: st) h n Q := J.pure (fun _ _ _ _ _ _ _ _ _ _ _ _ _ _ _ hx hb hl kk => lv_iadd hx hb hd kk) k
theorem j_isub {x y : Int32} (hd : decode M.2.1 pc = .ok (.isub, 1)) (k : J E M d cl sl (pc + 1) L (.int (x - y) :: st) h n Q) : J E M d cl sl pc L (.int y :: .int x :: st) h n Q := J.pure (fun _ _ _ _ _ _ _ _ _ _ _ _ _ _ _ hx hb hl kk => lv_isub hx hb hd kk) k
theorem j_imul {x y : Int32} (hd : decode M.2.1 pc = .ok (.imul, 1)) (k : J E M d cl sl (pc + 1) L (.int (x * y) :: st) h n Q) : J E M d cl sl pc L (.int y :: .int x :: st) h n Q := J.pure (fun _ _ _ _ _ _ _ _ _ _ _ _ _ _ _ hx hb hl kk => lv_imul hx hb hd kk) k
theorem j_iand {x y : Int32} (hd : decode M.2.1 pc = .ok (.iand, 1)) (k : J E M d cl sl (pc + 1) L (.int (x &&& y) :: st) h n Q) : J E M d cl sl pc L (.int y :: .int x :: st) h n Q := J.pure (fun _ _ _ _ _ _ _ _ _ _ _ _ _ _ _ hx hb hl kk => lv_iand hx hb hd kk) k
theorem j_ior {x y : Int32} (hd : decode M.2.1 pc = .ok (.ior, 1)) (k : J E M d cl sl (pc + 1) L (.int (x ||| y) :: st) h n Q) : J E M d cl sl pc L (.int y :: .int x :: st) h n Q := J.pure (fun _ _ _ _ _ _ _ _ _ _ _ _ _ _ _ hx hb hl kk => lv_ior hx hb hd kk) k
theorem j_ixor {x y : Int32} (hd : decode M.2.1 pc = .ok (.ixor, 1)) (k : J E M d cl sl (pc + 1) L (.int (x ^^^ y) :: st) h n Q) : J E M d cl sl pc L (.int y :: .int x :: st) h n Q := J.pure (fun _ _ _ _ _ _ _ _ _ _ _ _ _ _ _ hx hb hl kk => lv_ixor hx hb hd kk) k
theorem j_ishl {x y : Int32} (hd : decode M.2.1 pc = .ok (.ishl, 1)) (k : J E M d cl sl (pc + 1) L (.int (x <<< (y &&& 31)) :: st) h n Q) : J E M d cl sl pc L (.int y :: .int x :: st) h n Q := J.pure (fun _ _ _ _ _ _ _ _ _ _ _ _ _ _ _ hx hb hl kk => lv_ishl hx hb hd kk) k
theorem j_ishr {x y : Int32} (hd : decode M.2.1 pc = .ok (.ishr, 1)) (k : J E M d cl sl (pc + 1) L (.int (x >>> (y &&& 31)) :: st) h n Q) : J E M d cl sl pc L (.int y :: .int x :: st) h n Q := J.pure (fun _ _ _ _ _ _ _ _ _ _ _ _ _ _ _ hx hb hl kk => lv_ishr hx hb hd kk) k
theorem j_iushr {x y v : Int32} (hd : decode M.2.1 pc = .ok (.iushr, 1)) (hv : (x.toUInt32 >>> (y.toUInt32 &&& Int32.toUInt32 31)).toInt32 = v) (k : J E M d cl sl (pc + 1) L (.int v :: st) h n Q) : J E M d cl sl pc L (.int y :: .int x :: st) h n Q := J.pure (fun _ _ _ _ _ _ _ _ _ _ _ _ _ _ _ hx hb hl kk => lv_iushr hx hb hd hv kk) k
theorem j_ineg {x : Int32} (hd : decode M.2.1 pc = .ok (.ineg, 1)) (k : J E M d cl sl (pc + 1) L (.int (-x) :: st) h n Q) : J E M d cl sl pc L (.int x :: st) h n Q := J.pure (fun _ _ _ _ _ _ _ _ _ _ _ _ _ _ _ hx hb hl kk => lv_ineg hx hb hd kk) k
theorem j_i2c {x v : Int32} (hd : decode M.2.1 pc = .ok (.i2c, 1)) (hv : (x.toUInt32 % 65536).toInt32 = v) (k : J E M d cl sl (pc + 1) L (.int v :: st) h n Q) : J E M d cl sl pc L (.int x :: st) h n Q := J.pure (fun _ _ _ _ _ _ _ _ _ _ _ _ _ _ _ hx hb hl kk => lv_i2c hx hb hd hv kk) k
theorem j_i2b {x v : Int32} (hd : decode M.2.1 pc = .ok (.i2b, 1)) (hv : x.toInt8.toInt32 = v) (k : J E M d cl sl (pc + 1) L (.int v :: st) h n Q) : J E M d cl sl pc L (.int x :: st) h n Q := J.pure (fun _ _ _ _ _ _ _ _ _ _ _ _ _ _ _ hx hb hl kk => lv_i2b hx hb hd hv kk) k
theorem j_dup {va : Value} (hd : decode M.2.1 pc = .ok (.dup, 1)) (ha : va.category = 1) (k : J E M d cl sl (pc + 1) L (va :: va :: st) h n Q) : J E M d cl sl pc L (va :: st) h n Q := J.pure (fun _ _ _ _ _ _ _ _ _ _ _ _ _ _ _ hx hb hl kk => lv_dup hx hb hd ha kk) k
theorem j_pop {va : Value} (hd : decode M.2.1 pc = .ok (.pop, 1)) (ha : va.category = 1) (k : J E M d cl sl (pc + 1) L st h n Q) : J E M d cl sl pc L (va :: st) h n Q := J.pure (fun _ _ _ _ _ _ _ _ _ _ _ _ _ _ _ hx hb hl kk => lv_pop hx hb hd ha kk) k
theorem j_dup_x1 {va vb : Value} (hd : decode M.2.1 pc = .ok (.dup_x1, 1)) (ha : va.category = 1) (hb' : vb.category = 1) (k : J E M d cl sl (pc + 1) L (va :: vb :: va :: st) h n Q) : J E M d cl sl pc L (va :: vb :: st) h n Q := J.pure (fun _ _ _ _ _ _ _ _ _ _ _ _ _ _ _ hx hb hl kk => lv_dup_x1 hx hb hd ha hb' kk) k
theorem j_dup_x2 {va vb vd : Value} (hd : decode M.2.1 pc = .ok (.dup_x2, 1)) (ha : va.category = 1) (hb' : vb.category = 1) (hc' : vd.category = 1) (k : J E M d cl sl (pc + 1) L (va :: vb :: vd :: va :: st) h n Q) : J E M d cl sl pc L (va :: vb :: vd :: st) h n Q := J.pure (fun _ _ _ _ _ _ _ _ _ _ _ _ _ _ _ hx hb hl kk => lv_dup_x2 hx hb hd ha hb' hc' kk) k
theorem j_dup2 {va vb : Value} (hd : decode M.2.1 pc = .ok (.dup2, 1)) (ha : va.category = 1) (hb' : vb.category = 1) (k : J E M d cl sl (pc + 1) L (va :: vb :: va :: vb :: st) h n Q) : J E M d cl sl pc L (va :: vb :: st) h n Q := J.pure (fun _ _ _ _ _ _ _ _ _ _ _ _ _ _ _ hx hb hl kk => lv_dup2_11 hx hb hd ha hb' kk) k
theorem j_if_eq {x : Int32} {off : Int} {tgt : Nat} (hd : decode M.2.1 pc = .ok (.ifCond .eq off, 3)) (ht : (pc : Int) + off = (tgt : Int)) (kt : (x = 0) → J E M d cl sl tgt L st h n Q) (kf : ¬ (x = 0) → J E M d cl sl (pc + 3) L st h n Q) : J E M d cl sl pc L (.int x :: st) h n Q :=
  fun p e R s m args below meth c H locs cells slots ls X Y => lv_if_eq X.1 X.2.1 hd ht (fun q => kt q p e R s m args below meth c H locs cells slots ls X Y) (fun q => kf q p e R s m args below meth c H locs cells slots ls X Y)
theorem j_icmp_eq {x y : Int32} {off : Int} {tgt : Nat} (hd : decode M.2.1 pc = .ok (.if_icmp .eq off, 3)) (ht : (pc : Int) + off = (tgt : Int)) (kt : (x = y) → J E M d cl sl tgt L st h n Q) (kf : ¬ (x = y) → J E M d cl sl (pc + 3) L st h n Q) : J E M d cl sl pc L (.int y :: .int x :: st) h n Q :=
  fun p e R s m args below meth c H locs cells slots ls X Y => lv_icmp_eq X.1 X.2.1 hd ht (fun q => kt q p e R s m args below meth c H locs cells slots ls X Y) (fun q => kf q p e R s m args below meth c H locs cells slots ls X Y)
theorem j_if_ne {x : Int32} {off : Int} {tgt : Nat} (hd : decode M.2.1 pc = .ok (.ifCond .ne off, 3)) (ht : (pc : Int) + off = (tgt : Int)) (kt : (¬ x = 0) → J E M d cl sl tgt L st h n Q) (kf : (x = 0) → J E M d cl sl (pc + 3) L st h n Q) : J E M d cl sl pc L (.int x :: st) h n Q :=
  fun p e R s m args below meth c H locs cells slots ls X Y => lv_if_ne X.1 X.2.1 hd ht (fun q => kt q p e R s m args below meth c H locs cells slots ls X Y) (fun q => kf q p e R s m args below meth c H locs cells slots ls X Y)
theorem j_icmp_ne {x y : Int32} {off : Int} {tgt : Nat} (hd : decode M.2.1 pc = .ok (.if_icmp .ne off, 3)) (ht : (pc : Int) + off = (tgt : Int)) (kt : (¬ x = y) → J E M d cl sl tgt L st h n Q) (kf : (x = y) → J E M d cl sl (pc + 3) L st h n Q) : J E M d cl sl pc L (.int y :: .int x :: st) h n Q :=
  fun p e R s m args below meth c H locs cells slots ls X Y => lv_icmp_ne X.1 X.2.1 hd ht (fun q => kt q p e R s m args below meth c H locs cells slots ls X Y) (fun q => kf q p e R s m args below meth c H locs cells slots ls X Y)
theorem j_if_lt {x : Int32} {off : Int} {tgt : Nat} (hd : decode M.2.1 pc = .ok (.ifCond .lt off, 3)) (ht : (pc : Int) + off = (tgt : Int)) (kt : (x < 0) → J E M d cl sl tgt L st h n Q) (kf : ¬ (x < 0) → J E M d cl sl (pc + 3) L st h n Q) : J E M d cl sl pc L (.int x :: st) h n Q :=
  fun p e R s m args below meth c H locs cells slots ls X Y => lv_if_lt X.1 X.2.1 hd ht (fun q => kt q p e R s m args below meth c H locs cells slots ls X Y) (fun q => kf q p e R s m args below meth c H locs cells slots ls X Y)
theorem j_icmp_lt {x y : Int32} {off : Int} {tgt : Nat} (hd : decode M.2.1 pc = .ok (.if_icmp .lt off, 3)) (ht : (pc : Int) + off = (tgt : Int)) (kt : (x < y) → J E M d cl sl tgt L st h n Q) (kf : ¬ (x < y) → J E M d cl sl (pc + 3) L st h n Q) : J E M d cl sl pc L (.int y :: .int x :: st) h n Q :=
  fun p e R s m args below meth c H locs cells slots ls X Y => lv_icmp_lt X.1 X.2.1 hd ht (fun q => kt q p e R s m args below meth c H locs cells slots ls X Y) (fun q => kf q p e R s m args below meth c H locs cells slots ls X Y)
theorem j_if_ge {x : Int32} {off : Int} {tgt : Nat} (hd : decode M.2.1 pc = .ok (.ifCond .ge off, 3)) (ht : (pc : Int) + off = (tgt : Int)) (kt : (0 ≤ x) → J E M d cl sl tgt L st h n Q) (kf : ¬ (0 ≤ x) → J E M d cl sl (pc + 3) L st h n Q) : J E M d cl sl pc L (.int x :: st) h n Q :=
  fun p e R s m args below meth c H locs cells slots ls X Y => lv_if_ge X.1 X.2.1 hd ht (fun q => kt q p e R s m args below meth c H locs cells slots ls X Y) (fun q => kf q p e R s m args below meth c H locs cells slots ls X Y)
theorem j_icmp_ge {x y : Int32} {off : Int} {tgt : Nat} (hd : decode M.2.1 pc = .ok (.if_icmp .ge off, 3)) (ht : (pc : Int) + off = (tgt : Int)) (kt : (y ≤ x) → J E M d cl sl tgt L st h n Q) (kf : ¬ (y ≤ x) → J E M d cl sl (pc + 3) L st h n Q) : J E M d cl sl pc L (.int y :: .int x :: st) h n Q :=
  fun p e R s m args below meth c H locs cells slots ls X Y => lv_icmp_ge X.1 X.2.1 hd ht (fun q => kt q p e R s m args below meth c H locs cells slots ls X Y) (fun q => kf q p e R s m args below meth c H locs cells slots ls X Y)
theorem j_if_gt {x : Int32} {off : Int} {tgt : Nat} (hd : decode M.2.1 pc = .ok (.ifCond .gt off, 3)) (ht : (pc : Int) + off = (tgt : Int)) (kt : (0 < x) → J E M d cl sl tgt L st h n Q) (kf : ¬ (0 < x) → J E M d cl sl (pc + 3) L st h n Q) : J E M d cl sl pc L (.int x :: st) h n Q :=
  fun p e R s m args below meth c H locs cells slots ls X Y => lv_if_gt X.1 X.2.1 hd ht (fun q => kt q p e R s m args below meth c H locs cells slots ls X Y) (fun q => kf q p e R s m args below meth c H locs cells slots ls X Y)
theorem j_icmp_gt {x y : Int32} {off : Int} {tgt : Nat} (hd : decode M.2.1 pc = .ok (.if_icmp .gt off, 3)) (ht : (pc : Int) + off = (tgt : Int)) (kt : (y < x) → J E M d cl sl tgt L st h n Q) (kf : ¬ (y < x) → J E M d cl sl (pc + 3) L st h n Q) : J E M d cl sl pc L (.int y :: .int x :: st) h n Q :=
  fun p e R s m args below meth c H locs cells slots ls X Y => lv_icmp_gt X.1 X.2.1 hd ht (fun q => kt q p e R s m args below meth c H locs cells slots ls X Y) (fun q => kf q p e R s m args below meth c H locs cells slots ls X Y)
theorem j_if_le {x : Int32} {off : Int} {tgt : Nat} (hd : decode M.2.1 pc = .ok (.ifCond .le off, 3)) (ht : (pc : Int) + off = (tgt : Int)) (kt : (x ≤ 0) → J E M d cl sl tgt L st h n Q) (kf : ¬ (x ≤ 0) → J E M d cl sl (pc + 3) L st h n Q) : J E M d cl sl pc L (.int x :: st) h n Q :=
  fun p e R s m args below meth c H locs cells slots ls X Y => lv_if_le X.1 X.2.1 hd ht (fun q => kt q p e R s m args below meth c H locs cells slots ls X Y) (fun q => kf q p e R s m args below meth c H locs cells slots ls X Y)
theorem j_icmp_le {x y : Int32} {off : Int} {tgt : Nat} (hd : decode M.2.1 pc = .ok (.if_icmp .le off, 3)) (ht : (pc : Int) + off = (tgt : Int)) (kt : (x ≤ y) → J E M d cl sl tgt L st h n Q) (kf : ¬ (x ≤ y) → J E M d cl sl (pc + 3) L st h n Q) : J E M d cl sl pc L (.int y :: .int x :: st) h n Q :=
  fun p e R s m args below meth c H locs cells slots ls X Y => lv_icmp_le X.1 X.2.1 hd ht (fun q => kt q p e R s m args below meth c H locs cells slots ls X Y) (fun q => kf q p e R s m args below meth c H locs cells slots ls X Y)
theorem j_goto {off : Int} {tgt : Nat} (hd : decode M.2.1 pc = .ok (.goto off, 3)) (ht : (pc : Int) + off = (tgt : Int)) (k : J E M d cl sl tgt L st h n Q) : J E M d cl sl pc L st h n Q := J.pure (fun _ _ _ _ _ _ _ _ _ _ _ _ _ _ _ hx hb hl kk => lv_goto hx hb hd ht kk) k
theorem j_ifnonnull {x : Nat} {off : Int} {tgt : Nat} (hd : decode M.2.1 pc = .ok (.ifnonnull off, 3)) (ht : (pc : Int) + off = (tgt : Int)) (k : J E M d cl sl tgt L st h n Q) : J E M d cl sl pc L (.ref x :: st) h n Q := J.pure (fun _ _ _ _ _ _ _ _ _ _ _ _ _ _ _ hx hb hl kk => lv_ifnonnull hx hb hd ht kk) k
theorem j_ifnull {x : Nat} {off : Int} (hd : decode M.2.1 pc = .ok (.ifnull off, 3)) (k : J E M d cl sl (pc + 3) L st h n Q) : J E M d cl sl pc L (.ref x :: st) h n Q := J.pure (fun _ _ _ _ _ _ _ _ _ _ _ _ _ _ _ hx hb hl kk => lv_ifnull hx hb hd kk) k
theorem j_ifnullN {off : Int} {tgt : Nat} (hd : decode M.2.1 pc = .ok (.ifnull off, 3)) (ht : (pc : Int) + off = (tgt : Int)) (k : J E M d cl sl tgt L st h n Q) : J E M d cl sl pc L (.null :: st) h n Q := J.pure (fun _ _ _ _ _ _ _ _ _ _ _ _ _ _ _ hx hb hl kk => lv_ifnullN hx hb hd ht kk) k
theorem j_ifnonnullN {off : Int} (hd : decode M.2.1 pc = .ok (.ifnonnull off, 3)) (k : J E M d cl sl (pc + 3) L st h n Q) : J E M d cl sl pc L (.null :: st) h n Q := J.pure (fun _ _ _ _ _ _ _ _ _ _ _ _ _ _ _ hx hb hl kk => lv_ifnonnullN hx hb hd kk) k
theorem j_lookup {dflt : Int} {ps : Array (Int × Int)} {len : Nat} {x : Int32} {off : Int} {tgt : Nat} (hd : decode M.2.1 pc = .ok (.lookupswitch dflt ps, len)) (hp : (ps.toList.zip (ps.toList.drop 1)).all (fun (a, next) => a.1 < next.1) = true) (ho : Op.lookupswitch.offset ps.toList dflt x.toInt = off) (ht : (pc : Int) + off = (tgt : Int)) (k : J E M d cl sl tgt L st h n Q) : J E M d cl sl pc L (.int x :: st) h n Q := J.pure (fun _ _ _ _ _ _ _ _ _ _ _ _ _ _ _ hx hb hl kk => lv_lookup hx hb hd hp ho ht kk) k
theorem j_tableOut {dflt lo hi : Int} {offs : Array Int} {len : Nat} {x : Int32} {tgt : Nat} (hd : decode M.2.1 pc = .ok (.tableswitch dflt lo hi offs, len)) (hr : x.toInt < lo ∨ hi < x.toInt) (ht : (pc : Int) + dflt = (tgt : Int)) (k : J E M d cl sl tgt L st h n Q) : J E M d cl sl pc L (.int x :: st) h n Q := J.pure (fun _ _ _ _ _ _ _ _ _ _ _ _ _ _ _ hx hb hl kk => lv_tableOut hx hb hd hr ht kk) k
theorem j_tableIn {dflt lo hi : Int} {offs : Array Int} {len : Nat} {x : Int32} {off : Int} {tgt : Nat} (hd : decode M.2.1 pc = .ok (.tableswitch dflt lo hi offs, len)) (h1 : ¬ x.toInt < lo) (h2 : ¬ hi < x.toInt) (ho : offs[(x.toInt - lo).toNat]? = some off) (ht : (pc : Int) + off = (tgt : Int)) (k : J E M d cl sl tgt L st h n Q) : J E M d cl sl pc L (.int x :: st) h n Q := J.pure (fun _ _ _ _ _ _ _ _ _ _ _ _ _ _ _ hx hb hl kk => lv_tableIn hx hb hd h1 h2 ho ht kk) k
theorem j_ldc {own : String} {idx : Nat} {v : Int32} (hd : decode M.2.1 pc = .ok (.ldc idx, 2)) (hw : Cond.constant M.1.cls idx v ∈ GW) (k : J E M d cl sl (pc + 2) L (.int v :: st) h n Q) : J E M d cl sl pc L st h n Q :=
  fun p e R s m args below meth c H locs cells slots ls X Y => lv_ldc X.1 X.2.1 X.2.2.2.2.1 (X.2.2.2.2.2.1 _ hw) hd (k p e R s m args below meth c H locs cells slots ls X Y)
/-! the heap -/
theorem va_P.one {D : va_G} {cl : List vw_C} {a : Nat} {e : va_E} {H : Heap} (h : va_at D cl (a, e) H) : va_P D cl [(a, e)] H := by
  intro k q hk
  match k, hk with
  | 0, hk => cases hk; exact h
  | k + 1, hk => simp at hk
def FW (own : String) (idx ci k : Nat) (C : String) (T : u_T) (N : Nat) : Prop := classes[ci]? = some (C, T, N) ∧ (∀ w ∈ u_ws C T N, w ∈ GW) ∧ k < N ∧ (T k).1 = C ∧ Cond.fieldLink own idx C (T k).2.1 (T k).2.2.1 ∈ GW
theorem j_get {idx ci k a : Nat} {C : String} {T : u_T} {N : Nat} {fs : List Value} {v : Value} (hd : decode M.2.1 pc = .ok (.getfield idx, 3)) (g : FW M.1.cls idx ci k C T N) (ha : h a = some (.inr (ci, fs))) (hv : fs[k]? = some v) (kk : J E M d cl sl (pc + 3) L (v :: st) h n Q) : J E M d cl sl pc L (.ref a :: st) h n Q := by
  intro p e R s m args below meth c H locs cells slots ls X Y
  obtain ⟨hc, hin, hk, hT, hl⟩ := g
  exact va_get X.1 X.2.1 X.2.2.2.2.2.1 hin X.2.2.2.2.1 X.2.2.2.2.2.2.2.2.1.1 (va_P.one (Y.2.1 a _ ha)) 0 rfl hc k hk (X.2.2.2.2.2.1 _ hl) (fun x hx => by rw [hT] at hx; exact hx) hv hd (kk p e R s m args below meth c H locs cells slots ls X Y)
def FP (C : String) (T : u_T) (N : Nat) (ty0 : Nat → FieldType) : Prop := (∀ k, k < N → parseFieldDescriptor (T k).2.2.1 = some (ty0 k)) ∧ ∀ a, a < N → ∀ b, b < N → a ≠ b → (T a).2.1 ≠ (T b).2.1
theorem j_put {idx ci k a : Nat} {C : String} {T : u_T} {N : Nat} {ty0 : Nat → FieldType} {fs : List Value} {v : Value} (hd : decode M.2.1 pc = .ok (.putfield idx, 3)) (g : FW M.1.cls idx ci k C T N) (f : FP C T N ty0) (hfin : (T k).2.2.2 = false ∨ ((T k).2.2.2 = true ∧ M.1.name = "<init>" ∧ C = M.1.cls)) (ha : h a = some (.inr (ci, fs))) (hb : E.2.2.2.1 ≤ a) (hn : narrow (ty0 k) v = v) (hf : fits (ty0 k) v = true) (hlen : k < fs.length) (kk : J E M d cl sl (pc + 3) L st (hset h a (.inr (ci, fs.set k v))) n Q) : J E M d cl sl pc L (v :: .ref a :: st) h n Q := by
  intro p e R s m args below meth c H locs cells slots ls X Y
  obtain ⟨hc, hin, hk, hT, hl⟩ := g
  have hts := X.2.2.2.2.2.1
  have hown := X.2.2.2.2.1
  have hK := X.2.2.2.2.2.2.2.2.1.1
  have hap := va_apart (own := M.1.cls) hts hin ty0 f.1 f.2 hK hc
  obtain ⟨r, h1, cell, q1, q2, q3, q4⟩ := Y.2.1 a _ ha
  have hr : r = (C, T, N) := Option.some.inj (h1.symm.trans hc)
  subst hr
  obtain ⟨hS, hfc, kC, hkC, hkind⟩ := hK.1 ci _ hc
  obtain ⟨cf, kf, fi, fl, hi, hsl⟩ := hS k hk
  have hsame : s.fieldFound? C (T k).2.1 (T k).2.2.1 = some (cf, kf, fi, fl) := by rw [← hi, hT]
  have hlay := hts _ (hin _ (u_in_lay hk))
  have hst := (u_facts hfc hkC (u_lays hts hin hk) hi).1
  have fin : ∀ (H' : Heap) (z : Nat), H'[a]? = some (cell.setSlot (E.2.1.2 ci k) v) → H'.size = H.size → (∀ q, q ≠ a → H'[q]? = H[q]?) → W p E.1 e R s m args below meth c H' (locs ++ [⟨a, z⟩]) cells slots (MQ below (Qx E Q) args s R.cells R.slots (Ab E)) (F0 m (pc + 3) ls st) := fun H' z e1 e2 e3 =>
    kk p e R s m args below meth c H' _ cells slots ls X ⟨Y.1, Y.2.1.set ⟨_, hc, t_OB.to (V := updV (vp_V fs) k v) ⟨_, e1, q2, q3, t_set q4 hap hk v⟩ (fun j _ => vp_updV_set hlen v j)⟩ e3, by rw [e2]; exact Y.2.2.1, Y.2.2.2.1.put e2 e3 hb, Y.2.2.2.2⟩
  rcases hfin with hfin | ⟨hfin, hni, hdecl⟩
  · unfold u_lay at hlay
    rw [if_neg (by rw [hfin]; decide)] at hlay
    have h6 := u_store hfc hkC hkind hlay hi (f.1 k hk) hn hf
    refine W.putK X.1 X.2.1 (f := fl) ⟨hown, hts _ hl, ⟨_, _, _, hsame⟩, hst⟩ (by rw [q2]; exact h6) q1 q3 (by rw [hsl]; exact k2_hasslot (q4 k hk)) rfl rfl hd fun H' e1 e2 e3 => ?_
    rw [hsl] at e1 ⊢
    exact fin H' _ e1 e2 e3
  · unfold u_lay at hlay
    rw [if_pos hfin] at hlay
    have hcf : m.cls = cf := by
      obtain ⟨_, _, c', _, _, _, -, -, hf', -, -, -, hown2, -⟩ := Cond.laysFinal_spec hlay
      have e1 : c' = cf := by have := hi.symm.trans hf'; simp at this; exact this.1.symm
      rw [hT, hdecl] at hown2
      rw [← e1]; exact Option.some.inj (hown.symm.trans hown2)
    have h6 := u_fits hfc hkC hkind (Or.inr hlay) hi (f.1 k hk) hn hf
    refine W.putFinK X.1 X.2.1 hown (hts _ hl) hsame hst hcf (X.2.2.2.2.2.2.2.1.trans hni) (by rw [q2]; exact h6) q1 q3 (by rw [hsl]; exact k2_hasslot (q4 k hk)) rfl rfl hd fun H' e1 e2 e3 => ?_
    rw [hsl] at e1 ⊢
    exact fin H' _ e1 e2 e3
theorem tysE_at (E : EV) {i : Nat} {ty : FieldType} (h : atys[i]? = some ty) : (tysE E)[i]? = some (E.2.2.1 i, ty) := by
  have hl := (List.getElem?_eq_some_iff.mp h).1
  unfold tysE
  rw [List.getElem?_map, List.getElem?_range hl]
  simp [h]
/-- an array of small numbers of the kind t, of length N -/
abbrev arI (E : EV) (t N : Nat) (f : Nat → Int32) : va_E := .inl (E.2.2.1 t, N, .inl f)
abbrev arQ (E : EV) (t N : Nat) (f : Nat → Option Nat) : va_E := .inl (E.2.2.1 t, N, .inr (.inr (.inr (.inr f))))
theorem j_iald {t a N : Nat} {f : Nat → Int32} {i x : Int32} (hd : decode M.2.1 pc = .ok (.iaload, 1)) (ht : atys[t]? = some .int) (ha : h a = some (arI E t N f)) (hi : vp_in i N) (hx : f i.toNatClampNeg = x) (kk : J E M d cl sl (pc + 1) L (.int x :: st) h n Q) : J E M d cl sl pc L (.int i :: .ref a :: st) h n Q := by
  subst hx
  exact fun p e R s m args below meth c H locs cells slots ls X Y => va_iald X.1 X.2.1 X.2.2.2.2.2.2.2.2.1.1 (va_P.one (Y.2.1 a _ ha)) 0 t rfl (tysE_at E ht) hi hd (kk p e R s m args below meth c H locs cells slots ls X Y)
theorem j_zald {t a N : Nat} {f : Nat → Int32} {i x : Int32} (hd : decode M.2.1 pc = .ok (.baload, 1)) (ht : atys[t]? = some .boolean) (ha : h a = some (arI E t N f)) (hi : vp_in i N) (hx : f i.toNatClampNeg = x) (kk : J E M d cl sl (pc + 1) L (.int x :: st) h n Q) : J E M d cl sl pc L (.int i :: .ref a :: st) h n Q := by
  subst hx
  exact fun p e R s m args below meth c H locs cells slots ls X Y => va_zald X.1 X.2.1 X.2.2.2.2.2.2.2.2.1.1 (va_P.one (Y.2.1 a _ ha)) 0 t rfl (tysE_at E ht) hi hd (kk p e R s m args below meth c H locs cells slots ls X Y)
theorem j_bald {t a N : Nat} {f : Nat → Int32} {i x : Int32} (hd : decode M.2.1 pc = .ok (.baload, 1)) (ht : atys[t]? = some .byte) (ha : h a = some (arI E t N f)) (hi : vp_in i N) (hx : f i.toNatClampNeg = x) (kk : J E M d cl sl (pc + 1) L (.int x :: st) h n Q) : J E M d cl sl pc L (.int i :: .ref a :: st) h n Q := by
  subst hx
  exact fun p e R s m args below meth c H locs cells slots ls X Y => va_bald X.1 X.2.1 X.2.2.2.2.2.2.2.2.1.1 (va_P.one (Y.2.1 a _ ha)) 0 t rfl (tysE_at E ht) hi hd (kk p e R s m args below meth c H locs cells slots ls X Y)
theorem j_alen {t a : Nat} {x : vp_A} {ty : FieldType} {v : Int32} (hd : decode M.2.1 pc = .ok (.arraylength, 1)) (ht : atys[t]? = some ty) (ha : h a = some (.inl (E.2.2.1 t, x))) (hv : Int32.ofNat x.1 = v) (kk : J E M d cl sl (pc + 1) L (.int v :: st) h n Q) : J E M d cl sl pc L (.ref a :: st) h n Q :=
  fun p e R s m args below meth c H locs cells slots ls X Y => va_alen X.1 X.2.1 X.2.2.2.2.2.2.2.2.1.1 (va_P.one (Y.2.1 a _ ha)) 0 t rfl (tysE_at E ht) hv hd (kk p e R s m args below meth c H locs cells slots ls X Y)
theorem j_aald {t a N : Nat} {C : String} {f : Nat → Option Nat} {i : Int32} {v : Value} (hd : decode M.2.1 pc = .ok (.aaload, 1)) (ht : atys[t]? = some (.object C)) (ha : h a = some (arQ E t N f)) (hi : vp_in i N) (hv : va_rf (f i.toNatClampNeg) = v) (kk : J E M d cl sl (pc + 1) L (v :: st) h n Q) : J E M d cl sl pc L (.int i :: .ref a :: st) h n Q := by
  subst hv
  exact fun p e R s m args below meth c H locs cells slots ls X Y => va_aldq X.1 X.2.1 X.2.2.2.2.2.2.2.2.1.1 (va_P.one (Y.2.1 a _ ha)) 0 t rfl (tysE_at E ht) hi hd (kk p e R s m args below meth c H locs cells slots ls X Y)
theorem j_iast {t a N : Nat} {f : Nat → Int32} {i x : Int32} (hd : decode M.2.1 pc = .ok (.iastore, 1)) (ht : atys[t]? = some .int) (ha : h a = some (arI E t N f)) (hb : E.2.2.2.1 ≤ a) (hi : vp_in i N) (kk : J E M d cl sl (pc + 1) L st (hset h a (arI E t N (upd f i.toNatClampNeg x))) n Q) : J E M d cl sl pc L (.int x :: .int i :: .ref a :: st) h n Q := by
  intro p e R s m args below meth c H locs cells slots ls X Y
  refine W.iast X.1 X.2.1 (Y.2.1 a _ ha) ((X.2.2.2.2.2.2.2.2.1.1.2 t _ (tysE_at E ht)).1 N (fun j => .int (f j))) (fun q => by cases q) (by show ¬ (i < 0 ∨ (arrV _ _ _).slots.size ≤ _); rw [arrV_size]; exact hi) rfl rfl hd fun H1 e1 z oq => ?_
  refine kk p e R s m args below meth c H1 _ cells slots ls X ⟨Y.1, Y.2.1.set ?_ oq, by rw [z]; exact Y.2.2.1, Y.2.2.2.1.put z oq hb, Y.2.2.2.2⟩
  show H1[a]? = some (vp_cell _ _)
  rw [e1]
  rw [vp_cell_i, vp_cell_i, arrV_store]
  congr 2
  funext q
  by_cases hq : q = i.toNatClampNeg
  · subst hq
    simp [updV, upd, vp_nar]
    try rfl
  · simp [updV, upd, hq]
theorem j_zast {t a N : Nat} {f : Nat → Int32} {i x : Int32} (hd : decode M.2.1 pc = .ok (.bastore, 1)) (ht : atys[t]? = some .boolean) (ha : h a = some (arI E t N f)) (hb : E.2.2.2.1 ≤ a) (hi : vp_in i N) (kk : J E M d cl sl (pc + 1) L st (hset h a (arI E t N (upd f i.toNatClampNeg (vp_nar .boolean x)))) n Q) : J E M d cl sl pc L (.int x :: .int i :: .ref a :: st) h n Q := by
  intro p e R s m args below meth c H locs cells slots ls X Y
  refine W.zast X.1 X.2.1 (Y.2.1 a _ ha) ((X.2.2.2.2.2.2.2.2.1.1.2 t _ (tysE_at E ht)).1 N (fun j => .int (f j))) (fun q => by cases q) (by show ¬ (i < 0 ∨ (arrV _ _ _).slots.size ≤ _); rw [arrV_size]; exact hi) rfl rfl hd fun H1 e1 z oq => ?_
  refine kk p e R s m args below meth c H1 _ cells slots ls X ⟨Y.1, Y.2.1.set ?_ oq, by rw [z]; exact Y.2.2.1, Y.2.2.2.1.put z oq hb, Y.2.2.2.2⟩
  show H1[a]? = some (vp_cell _ _)
  rw [e1]
  rw [vp_cell_i, vp_cell_i, arrV_store]
  congr 2
  funext q
  by_cases hq : q = i.toNatClampNeg
  · subst hq
    simp [updV, upd, vp_nar]
    try rfl
  · simp [updV, upd, hq]
end JR

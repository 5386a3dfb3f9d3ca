section JM
variable {E : EV} {M : MI} {d cl sl pc : Nat} {L : List (Nat × Value)} {st : List Value} {h : HP} {n : Nat} {Q : Option Value → HP → Nat → Prop}
theorem j_idiv {x y : Int32} (hd : decode M.2.1 pc = .ok (.idiv, 1)) (hy : ¬ y = 0) (k : J E M d cl sl (pc + 1) L (.int (x / y) :: st) h n Q) : J E M d cl sl pc L (.int y :: .int x :: st) h n Q := J.pure (fun _ _ _ _ _ _ _ _ _ _ _ _ _ _ _ hx hb _ kk => lv_idiv hx hb hd hy kk) k
theorem j_irem {x y : Int32} (hd : decode M.2.1 pc = .ok (.irem, 1)) (hy : ¬ y = 0) (k : J E M d cl sl (pc + 1) L (.int (x - x / y * y) :: st) h n Q) : J E M d cl sl pc L (.int y :: .int x :: st) h n Q := J.pure (fun _ _ _ _ _ _ _ _ _ _ _ _ _ _ _ hx hb _ kk => lv_irem hx hb hd hy kk) k
theorem j_ldc_w {idx : Nat} {v : Int32} (hd : decode M.2.1 pc = .ok (.ldc_w idx, 3)) (hw : Cond.constant M.1.cls idx v ∈ GW) (k : J E M d cl sl (pc + 3) L (.int v :: st) h n Q) : J E M d cl sl pc L st h n Q :=
  fun p e R s m args below meth c H locs cells slots ls X Y => lv_ldcw X.1 X.2.1 X.2.2.2.2.1 (X.2.2.2.2.2.1 _ hw) hd (k p e R s m args below meth c H locs cells slots ls X Y)
theorem lv_args_in : ∀ (as : List Value) (i : Nat) (q : Nat × Value), q ∈ lv_args i as → q.2 ∈ as
  | [], _, _, h => by cases h
  | v :: as, i, q, h => by
    rcases List.mem_cons.mp h with h | h
    · rw [h]; exact List.mem_cons_self
    · exact List.mem_cons_of_mem _ (lv_args_in as _ q h)
theorem Ct.go {mc ms : Nat} {as : List Value} (hy : plainName M.1.cls = true) (hn : Nat.ble (lg_sl as).length M.2.2.1 = true) (hc : (as.all fun v => v.category == 1) = true) (k : J E M d mc ms 0 (lv_args 0 as) [] h n Q) : Ct E M d mc ms as h n Q :=
  Ct.ofJ hy (Nat.le_of_ble_eq_true hn) (fun q hq => by have := List.all_eq_true.mp hc q.2 (lv_args_in as 0 q hq); simpa using this) k
/-- an answer, and nothing changed -/
def Rt (v : Option Value) (h : HP) (n : Nat) : Option Value → HP → Nat → Prop := fun r h' n' => r = v ∧ h' = h ∧ n' = n
theorem j_pV {idx d' k b ci : Nat} {M' : MI} {As rest : List Value} {r : vw_C} {fs : List Value} {v : Option Value} (hd : decode M.2.1 pc = .ok (.invokevirtual idx, 3)) (g : CBx M.1.cls idx M' k) (gi : Cond.instanceMethod M'.1 ∈ GW ∧ Cond.selects M'.1.cls M'.1 M'.1 ∈ GW) (hb : h b = some (.inr (ci, fs))) (hc : classes[ci]? = some r) (hcn : r.1 = M'.1.cls) (hk : As.length = k) (hst : st = As.reverse ++ .ref b :: rest) (hroom : (rest.map fun v => v.category).sum ≤ 8) (hdd : d' + 1 ≤ d)
    (ct : Ct E M' d' 0 0 (.ref b :: As) h n (Rt v h n)) (kk : J E M d cl sl (pc + 3) L (v.toList ++ rest) h n Q) : J E M d cl sl pc L st h n Q :=
  j_callV hd g gi hb hc hcn hk hst hroom hdd (Nat.zero_le _) (Nat.zero_le _) ct (fun v' h' n' q _ => by obtain ⟨rfl, rfl, rfl⟩ := q; exact kk)
theorem j_pS {idx d' k : Nat} {M' : MI} {As rest : List Value} {v : Option Value} (hd : decode M.2.1 pc = .ok (.invokestatic idx, 3)) (g : CBx M.1.cls idx M' k) (gi : Cond.static M'.1 ∈ GW) (hk : As.length = k) (hst : st = As.reverse ++ rest) (hroom : (rest.map fun v => v.category).sum ≤ 8) (hdd : d' + 1 ≤ d)
    (ct : Ct E M' d' 0 0 As h n (Rt v h n)) (kk : J E M d cl sl (pc + 3) L (v.toList ++ rest) h n Q) : J E M d cl sl pc L st h n Q :=
  j_callS hd g gi hk hst hroom hdd (Nat.zero_le _) (Nat.zero_le _) ct (fun v' h' n' q _ => by obtain ⟨rfl, rfl, rfl⟩ := q; exact kk)
/-- a truth as a number -/
def bI (p : Prop) [Decidable p] : Int32 := if p then 1 else 0
theorem bI_t {p : Prop} [Decidable p] (h : p) : bI p = 1 := if_pos h
theorem bI_f {p : Prop} [Decidable p] (h : ¬ p) : bI p = 0 := if_neg h
theorem bI_01 (p : Prop) [Decidable p] : bI p = 0 ∨ bI p = 1 := by unfold bI; split <;> simp
end JM

section LBO
variable {E : EV} {h : HP} {n : Nat} {nm : String}
set_option maxRecDepth 10000 in
theorem LI_0 {g : HP} (hb : E.2.2.2.1 ≤ n) (hd : Dm g (n + 28)) (C : CI E g (n + 28) n (n + 2) (n + 7) 0 1 0 0 0 (fun _ => 0) (fun _ _ => 0) as0 ws0 (xs0 0 0 (ord 1).2.2.2) ws0 0) : LI E (hM E g (n + 28) v0M (upG (upG (fun _ _ => 0) 15 (fillF (fun _ => 0) 12 1)) 16 (fillF (fun _ => 0) 3 3))) (n + 28 + 21) n (n + 28) := by
  have r0 := rel_0 (N := 1) (K := 0) (M := 0) (my := fillF (fun _ => 0) 12 1) (be := fillF (fun _ => 0) 3 3) (by decide) (by decide) (by decide) (fun j hj => (if_pos hj).trans (by decide)) (fun j hj => if_pos hj)
  refine ⟨n + 2, n + 7, 0, 1, 0, 0, 0, fun _ => 0, fun _ _ => 0, as0, ws0, xs0 0 0 (ord 1).2.2.2, ws0, 0, v0M, _, C.ext hd (fun q hq => hM_x (by omega)) (by omega), AB0, hM_new, ⟨by omega, Or.inl (by omega), by omega, by omega⟩, ?_⟩
  exact ⟨rfl, nA_0.symm, ⟨rfl, rfl, rfl, rfl, by decide, by decide, by decide, by decide⟩, fun i hi => absurd hi (by omega), Or.inl rfl, ⟨0, ⟨rfl, by decide, Or.inl rfl⟩, Or.inl ⟨rfl, rfl, rfl⟩, Or.inl rfl⟩, ⟨r0.1, rfl, fun j hj => absurd hj (by show ¬ j < 0; omega), by show 0 + potF (fillF (fun _ => 0) 12 1) (fillF (fun _ => 0) 3 3) 1 0 0 ≤ 54; have := r0.2; omega⟩, Or.inl ⟨rfl, rfl⟩⟩
set_option maxRecDepth 10000 in
set_option maxHeartbeats 4000000 in
theorem lw_body (hL : sLen E ≤ 2048) (hb : E.2.2.2.1 ≤ n) : J E (MLw nm) 200 600000 7302250 0 [(0, .ref (E.2.2.2.2 4))] [] h n lwQ := by
  refine j_new (fs := [.null, .int 0, .null, .null, .null, .int 0]) d_Lw_law_0 nw_Lw_7 (by decide) (by decide) (by decide) ?_
  refine j_dup d_Lw_law_3 rfl ?_
  refine j_callI (As := []) d_Lw_law_4 cb_Lw_9 iv_C_init rfl rfl (Nat.le_of_ble_eq_true rfl) (d' := 9) (by decide) (mc := 27) (ms := 1289) (by decide) (by decide) (c_C_init hb) (fun w h' n' q _ => ?_)
  obtain ⟨rfl, rfl, he, C⟩ := q
  refine j_astore_n d_Lw_law_7 (show 1 < 4 by decide) ?_
  refine J.dm (fun hdm => ?_)
  refine j_new (fs := [.int 0, .int 0, .null, .int 0, .int 0, .int 0, .int 0, .null, .null, .null, .null, .int 0, .int 0, .int 0, .int 0, .int 0, .null, .null, .null, .null, .int 0, .null, .null, .int 0, .int 0, .null, .null, .int 0, .null, .null, .null, .null, .null, .int 0, .null, .null]) d_Lw_law_8 nw_Lw_10 (by decide) (by decide) (by decide) ?_
  refine j_dup d_Lw_law_11 rfl ?_
  refine j_callI (As := []) d_Lw_law_12 cb_Lw_12 iv_Md_init rfl rfl (Nat.le_of_ble_eq_true rfl) (d' := 2) (by decide) (mc := 20) (ms := 115129) (by decide) (by decide) (c_Md_init (by omega)) (fun w h2 n2 q _ => ?_)
  obtain ⟨rfl, rfl, q3⟩ := q; have q3 := q3.symm; subst q3
  refine j_astore_n d_Lw_law_15 (show 2 < 4 by decide) ?_
  refine j_iconst (v := 0) d_Lw_law_16 (by decide) ?_
  refine j_istore_n d_Lw_law_17 (show 3 < 4 by decide) ?_
  exact J.room (Nat.le_refl _) (by decide) (by decide) (lw_loop hL 512 0 _ _ (by omega) (by omega) (LI_0 hb hdm C))
end LBO

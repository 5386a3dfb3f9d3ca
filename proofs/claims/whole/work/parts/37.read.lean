section RED
variable {E : EV} {h : HP} {n r tx ln : Nat} {txf : Nat → Nat}
theorem hZ_hR {p q nn k m : Nat} {e : va_E} (hq : q < p) : hZ E (hset h q e) p nn k m = hset (hZ E h p nn k m) q e := by
  unfold hZ hO
  rw [hset_comm _ _ _ (show p ≠ q by omega), hset_comm _ _ _ (show p + 1 ≠ q by omega), hset_comm _ _ _ (show p + 2 + 2 ≠ q by omega), hset_comm _ _ _ (show p + 2 + 1 ≠ q by omega), hset_comm _ _ _ (show p + 2 ≠ q by omega)]
/-- what a text says: right or not, the place, N, K, M, how many clues, the clues -/
noncomputable def rdF (txf : Nat → Nat) (ln : Nat) : Bool × Nat × Nat × Nat × Nat × Nat × (Nat → PhiT) :=
  if (hdF txf ln).1 = 0 then (false, (hdF txf ln).2.2.2.2, 0, 0, 0, 0, fun _ _ => 0)
  else ((pzL txf ln (hdF txf ln).2.2.1 (hdF txf ln).2.1 (hdF txf ln).2.2.2.1 21 0 (hdF txf ln).2.2.2.2 (fun _ _ => 0)).1, (pzL txf ln (hdF txf ln).2.2.1 (hdF txf ln).2.1 (hdF txf ln).2.2.2.1 21 0 (hdF txf ln).2.2.2.2 (fun _ _ => 0)).2.2.1, (hdF txf ln).2.1.toNatClampNeg, (hdF txf ln).2.2.1.toNatClampNeg, (hdF txf ln).2.2.2.1.toNatClampNeg, (pzL txf ln (hdF txf ln).2.2.1 (hdF txf ln).2.1 (hdF txf ln).2.2.2.1 21 0 (hdF txf ln).2.2.2.2 (fun _ _ => 0)).2.1, (pzL txf ln (hdF txf ln).2.2.1 (hdF txf ln).2.1 (hdF txf ln).2.2.2.1 21 0 (hdF txf ln).2.2.2.2 (fun _ _ => 0)).2.2.2)
def RdQ (E : EV) (h : HP) (n r tx ln : Nat) (x : Bool × Nat × Nat × Nat × Nat × Nat × (Nat → PhiT)) : Option Value → HP → Nat → Prop := fun v H' n' => ∃ h2 K N M sg, H' = hR h2 r tx ln x.2.1 K N M sg ∧ Ext h h2 n n' ∧ ((x.1 = false ∧ v = some .null) ∨ (x.1 = true ∧ v = some (.ref n) ∧ n + 5 ≤ n' ∧ x.2.2.2.2.2.1 ≤ 20 ∧ 1 ≤ x.2.2.1 ∧ x.2.2.1 ≤ 4 ∧ x.2.2.2.1 ≤ 3 ∧ x.2.2.2.2.1 ≤ 3 ∧ PzA E h2 n x.2.2.1 x.2.2.2.1 x.2.2.2.2.1 x.2.2.2.2.2.1 x.2.2.2.2.2.2))
theorem hdF_01 : (hdF txf ln).1 = 0 ∨ (hdF txf ln).1 = 1 := by
  have k3 : ∀ a b c, (hd3 txf ln a b c).1 = 0 ∨ (hd3 txf ln a b c).1 = 1 := by
    intro a b c
    by_cases q : c.1 = -1
    · rw [show hd3 txf ln a b c = (0, a.1, b.1, c.1, c.2) from if_pos q]; exact Or.inl rfl
    · rw [show hd3 txf ln a b c = hd4 a b c (semF txf ln c.2) from if_neg q]; exact semF_01
  have k2 : ∀ a b, (hd2 txf ln a b).1 = 0 ∨ (hd2 txf ln a b).1 = 1 := by
    intro a b
    by_cases q : b.1 = -1
    · rw [show hd2 txf ln a b = (0, a.1, b.1, 0, b.2) from if_pos q]; exact Or.inl rfl
    · rw [show hd2 txf ln a b = hd3 txf ln a b _ from if_neg q]; exact k3 _ _ _
  have k1 : ∀ a, (hd1 txf ln a).1 = 0 ∨ (hd1 txf ln a).1 = 1 := by
    intro a
    by_cases q : a.1 = -1
    · rw [show hd1 txf ln a = (0, a.1, 0, 0, a.2) from if_pos q]; exact Or.inl rfl
    · rw [show hd1 txf ln a = hd2 txf ln a _ from if_neg q]; exact k2 _ _
  exact k1 _
set_option maxHeartbeats 4000000 in
theorem c_Rd_puzzle (F : RF E h r tx ln txf) (hdm : Dm h n) (hrn : r < n) (htn : tx < n) (hrr : ∀ ci fs, clN ci → h r ≠ some (.inr (ci, fs))) : Ct E m_Rd_puzzle 98 305 1051 [.ref r] (hR h r tx ln 0 0 0 0 0) n (RdQ E h n r tx ln (rdF txf ln)) := by
  refine Ct.go rfl rfl rfl ?_
  have hbr : E.2.2.2.1 ≤ r := F.2.2.2.1
  have hr := hR_r (h := h) (r := r) (tx := tx) (ln := ln) (pl := 0) (K := 0) (N := 0) (M := 0) (sg := 0)
  refine j_aload_n d_Rd_puzzle_0 rfl ?_
  refine j_callV (As := []) d_Rd_puzzle_1 cb_Rd_22 vv_Rd_passHead hr rfl rfl rfl rfl (Nat.le_of_ble_eq_true rfl) (d' := 2) (by decide) (Nat.zero_le _) (Nat.zero_le _) (c_Rd_passHead F) (fun v' h' n' q _ => ?_)
  obtain ⟨rfl, rfl, q3⟩ := q; have q3 := q3.symm; subst q3
  have hok := hdF_ok (txf := txf) (ln := ln)
  have hln : ln ≤ 300 := F.2.2.1
  have er : rdF txf ln = (fun hd : Int32 × Int32 × Int32 × Int32 × Nat => if hd.1 = 0 then ((false, hd.2.2.2.2, 0, 0, 0, 0, fun _ _ => 0) : Bool × Nat × Nat × Nat × Nat × Nat × (Nat → PhiT)) else ((pzL txf ln hd.2.2.1 hd.2.1 hd.2.2.2.1 21 0 hd.2.2.2.2 (fun _ _ => 0)).1, (pzL txf ln hd.2.2.1 hd.2.1 hd.2.2.2.1 21 0 hd.2.2.2.2 (fun _ _ => 0)).2.2.1, hd.2.1.toNatClampNeg, hd.2.2.1.toNatClampNeg, hd.2.2.2.1.toNatClampNeg, (pzL txf ln hd.2.2.1 hd.2.1 hd.2.2.2.1 21 0 hd.2.2.2.2 (fun _ _ => 0)).2.1, (pzL txf ln hd.2.2.1 hd.2.1 hd.2.2.2.1 21 0 hd.2.2.2.2 (fun _ _ => 0)).2.2.2)) (hdF txf ln) := rfl
  rw [er]
  have main : ∀ hd : Int32 × Int32 × Int32 × Int32 × Nat, (¬ hd.1 = 0 → HdO ln hd) → J E m_Rd_puzzle 98 305 1051 4 (lv_args 0 [.ref r]) [.int hd.1] (hR h r tx ln hd.2.2.2.2 hd.2.2.1 hd.2.1 hd.2.2.2.1 0) n (RdQ E h n r tx ln (if hd.1 = 0 then ((false, hd.2.2.2.2, 0, 0, 0, 0, fun _ _ => 0) : Bool × Nat × Nat × Nat × Nat × Nat × (Nat → PhiT)) else ((pzL txf ln hd.2.2.1 hd.2.1 hd.2.2.2.1 21 0 hd.2.2.2.2 (fun _ _ => 0)).1, (pzL txf ln hd.2.2.1 hd.2.1 hd.2.2.2.1 21 0 hd.2.2.2.2 (fun _ _ => 0)).2.2.1, hd.2.1.toNatClampNeg, hd.2.2.1.toNatClampNeg, hd.2.2.2.1.toNatClampNeg, (pzL txf ln hd.2.2.1 hd.2.1 hd.2.2.2.1 21 0 hd.2.2.2.2 (fun _ _ => 0)).2.1, (pzL txf ln hd.2.2.1 hd.2.1 hd.2.2.2.1 21 0 hd.2.2.2.2 (fun _ _ => 0)).2.2.2))) := by
    rintro ⟨ok, vN, vK, vM, pl⟩ hHd
    dsimp only
    refine j_if_ne (tgt := 9) d_Rd_puzzle_4 (by decide) (fun c => ?_) (fun c => ?_)
    · rw [if_neg c]
      obtain ⟨nn, k, m, n1, n4, k3, m3, e1, e2, e3, hpl⟩ := hHd c
      dsimp only at e1 e2 e3 hpl
      subst e1; subst e2; subst e3
      rw [nI_clamp (by omega), nI_clamp (by omega), nI_clamp (by omega)]
      have hr2 := hR_r (h := h) (r := r) (tx := tx) (ln := ln) (pl := pl) (K := nI k) (N := nI nn) (M := nI m) (sg := 0)
      refine j_new (fs := [.int 0, .int 0, .int 0, .null, .null, .int 0]) d_Rd_puzzle_9 nw_Rd_26 (by decide) (by decide) (by decide) ?_
      have hr3 : hset (hR h r tx ln pl (nI k) (nI nn) (nI m) 0) n (.inr (7, [.int 0, .int 0, .int 0, .null, .null, .int 0])) r = some (oRd tx (nI ln) (nI pl) (nI k) (nI nn) (nI m) (nI 0)) := by rw [hset_n _ _ (by omega)]; exact hr2
      refine j_dup d_Rd_puzzle_12 rfl ?_
      refine j_aload_n d_Rd_puzzle_13 rfl ?_
      refine j_get d_Rd_puzzle_14 fl_Rd_28 (by first | assumption | exact hset_s _ _ _ | (rw [hset_n _ _ (by omega)]; first | assumption | exact hset_s _ _ _ | (rw [hset_n _ _ (by omega)]; first | assumption | exact hset_s _ _ _ | (rw [hset_n _ _ (by omega)]; first | assumption | exact hset_s _ _ _ | (rw [hset_n _ _ (by omega)]; first | assumption | exact hset_s _ _ _))))) rfl ?_
      refine j_aload_n d_Rd_puzzle_17 rfl ?_
      refine j_get d_Rd_puzzle_18 fl_Rd_31 (by first | assumption | exact hset_s _ _ _ | (rw [hset_n _ _ (by omega)]; first | assumption | exact hset_s _ _ _ | (rw [hset_n _ _ (by omega)]; first | assumption | exact hset_s _ _ _ | (rw [hset_n _ _ (by omega)]; first | assumption | exact hset_s _ _ _ | (rw [hset_n _ _ (by omega)]; first | assumption | exact hset_s _ _ _))))) rfl ?_
      refine j_aload_n d_Rd_puzzle_21 rfl ?_
      refine j_get d_Rd_puzzle_22 fl_Rd_34 (by first | assumption | exact hset_s _ _ _ | (rw [hset_n _ _ (by omega)]; first | assumption | exact hset_s _ _ _ | (rw [hset_n _ _ (by omega)]; first | assumption | exact hset_s _ _ _ | (rw [hset_n _ _ (by omega)]; first | assumption | exact hset_s _ _ _ | (rw [hset_n _ _ (by omega)]; first | assumption | exact hset_s _ _ _))))) rfl ?_
      refine j_callI (As := [.int (nI nn), .int (nI k), .int (nI m)]) d_Rd_puzzle_25 cb_Rd_37 iv_Pz_init rfl rfl (Nat.le_of_ble_eq_true rfl) (d' := 8) (by decide) (mc := 4) (ms := 145) (by decide) (by decide) (c_Pz_init n4 (by omega)) (fun v' h' n' q _ => ?_)
      obtain ⟨rfl, rfl, q3⟩ := q; have q3 := q3.symm; subst q3
      refine j_astore_n d_Rd_puzzle_28 (by decide) ?_
      refine j_iconst (v := 0) d_Rd_puzzle_29 (by decide) ?_
      refine j_istore_n d_Rd_puzzle_30 (by decide) ?_
      have hE := hZ_E (E := E) (nn := nn) (k := k) (m := m) hdm
      refine J.conv (L := _) rfl (show _ = hR (hZ E h n nn k m) r tx ln pl (nI k) (nI nn) (nI m) 0 from hZ_hR hrn) ?_
      refine J.mono (Q := PQ E h n r tx ln nn k m (pzL txf ln (nI k) (nI nn) (nI m) 21 0 pl (fun _ _ => 0))) (fun v H' n' q => ?_) (l_Rd_puzzle (txf := txf) (h := h) (n := n) k3 n4 m3 hrn htn (by omega) hrr 21 0 pl 0 (fun _ _ => 0) (hZ E h n nn k m) (n + 5) _ _ [] (by omega) (by omega) hpl ?_ hE (by omega) hZ_A (by show ln - pl ≤ 305 - 1 - 4; omega) (by show 3 * (ln - pl) ≤ 1051 - 6 - 145; omega) (Or.inl rfl))
      · obtain ⟨h2, sg, e1, e2, e3⟩ := q
        refine ⟨h2, _, _, _, sg, e1, e2, ?_⟩
        rcases e3 with ⟨e3, e4⟩ | ⟨e3, e4, e5, e6, e7⟩
        · exact Or.inl ⟨e3, e4⟩
        · exact Or.inr ⟨e3, e4, e5, e6, n1, n4, k3, m3, e7⟩
      · obtain ⟨f1, f2, f3, f4, f5⟩ := F
        exact ⟨by rw [hE.1 tx htn]; exact f1, f2, f3, f4, f5⟩
    · rw [if_pos c]
      refine j_null d_Rd_puzzle_7 ?_
      exact j_aret d_Rd_puzzle_8 rfl (Or.inl ⟨_, rfl⟩) rfl ⟨h, _, _, _, 0, rfl, Ext.rf hdm, Or.inl ⟨rfl, rfl⟩⟩
  exact main _ hok
end RED

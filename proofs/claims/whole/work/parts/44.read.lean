section REA
variable {E : EV} {h : HP} {n c p a ln nn k m cc : Nat} {txf : Nat → Nat} {φ : Nat → PhiT} {s : AS} {ws : WS} {xs : XS} {xws : WS} {rn : Int32}
theorem WB0 : WB ws0 := ⟨fun _ => Nat.le_of_ble_eq_true rfl, fun _ => Nat.le_of_ble_eq_true rfl, fun _ => Nat.le_of_ble_eq_true rfl⟩
theorem AB0 : AB as0 := ⟨fun _ => Nat.le_of_ble_eq_true rfl, fun _ => Nat.le_of_ble_eq_true rfl, fun _ => Or.inl rfl⟩
/-- the heap grew, and is as it was below -/
theorem CI.ext {h' : HP} {n' : Nat} (hd : Dm h n) (he : ∀ q, q < n → h' q = h q) (hn : n ≤ n') (C : CI E h n c p a ln nn k m cc txf φ s ws xs xws rn) : CI E h' n' c p a ln nn k m cc txf φ s ws xs xws rn := by
  obtain ⟨⟨h1, h2, A, hA, hX⟩, t, ⟨o1, o2, o3, o4⟩, r⟩ := C
  refine ⟨⟨by rw [he _ (by omega)]; exact h1, by rw [he _ (by omega)]; exact h2, A.ck (fun q ci fs _ hq => by rw [he q (hd q _ hq)]; exact hq) (fun q x y => he q (by omega)), ?_, ?_⟩, t, ⟨o1, o2, by omega, o4⟩, r⟩
  · exact hAn_self (h := h) (fun q x y => by rw [he q (by omega), hA])
  · exact hCr_self (h := h) (fun q x y => by rw [he q (by omega), hX])
/-- a new puzzle begun at a' -/
theorem CI.new {g : HP} {n' p' nn' k' m' cc' : Nat} {φ' : Nat → PhiT} {al : Int32} (hb : E.2.2.2.1 ≤ c) (hcp : c + 1 < p') (hpn : p' + 5 ≤ n') (hdg : Dm g n') (hgc : ∀ ci fs, clN ci → g c ≠ some (.inr (ci, fs))) (htx : g (c + 1) = some (arI E 0 300 (nA txf))) (t1 : ∀ j, txf j < 256) (A : PzA E g p' nn' k' m' cc' φ') (b1 : 1 ≤ nn') (b2 : nn' ≤ 4) (b3 : k' ≤ 3) (b4 : m' ≤ 3) (b5 : cc' ≤ 20) :
    CI E (hset (hCr E (hAn E g n' p' (p' + 2) k' as0 ws0) (n' + 11) p' (p' + 2) k' (xs0 k' m' al) ws0) c (oC (c + 1) (nI 0) p' n' (n' + 11) 0)) (n' + 21) c p' n' 0 nn' k' m' cc' txf φ' as0 ws0 (xs0 k' m' al) ws0 0 := by
  have px : ∀ q, q < n' → q ≠ c → hset (hCr E (hAn E g n' p' (p' + 2) k' as0 ws0) (n' + 11) p' (p' + 2) k' (xs0 k' m' al) ws0) c (oC (c + 1) (nI 0) p' n' (n' + 11) 0) q = g q := fun q x y => by rw [hset_n _ _ y, hCr_x (by omega), hAn_x (by omega)]
  refine ⟨⟨hset_s _ _ _, by rw [px _ (by omega) (by omega)]; exact htx, A.ck (fun q ci fs hcl hq => ?_) (fun q x y => px q (by omega) (by omega)), ?_, ?_⟩, ⟨t1, by omega, b1, b2, b3, b4, b5⟩, ⟨hcp, hpn, by omega, hb⟩, WB0, WB0, Nat.le_of_ble_eq_true rfl, Nat.le_of_ble_eq_true rfl, Or.inl rfl⟩
  · have h1 := hdg q _ hq
    have h2 : q ≠ c := fun e => hgc ci fs hcl (e ▸ hq)
    rw [px q h1 h2]; exact hq
  · refine hAn_self (h := g) (fun q x y => ?_)
    rw [hset_n _ _ (by omega), hCr_x (by omega)]
  · refine hCr_self (h := hAn E g n' p' (p' + 2) k' as0 ws0) (fun q x y => ?_)
    rw [hset_n _ _ (by omega)]
set_option maxHeartbeats 4000000 in
theorem c_C_read (C : CI E h n c p a ln nn k m cc txf φ s ws xs xws rn) : Ct E m_C_read 99 327 1896 [.ref c] h n (fun v h' n' => FrC c a n n' h h' ∧
    (((rdF txf ln).1 = false ∧ v = some (.int (-1 - nI (rdF txf ln).2.1)) ∧ CI E h' n' c p a 0 nn k m cc txf φ s ws xs xws rn) ∨
     ((rdF txf ln).1 = true ∧ v = some (.int (nI (rdF txf ln).2.2.2.2.2.1)) ∧ ∃ p' a', n ≤ p' ∧ CI E h' n' c p' a' 0 (rdF txf ln).2.2.1 (rdF txf ln).2.2.2.1 (rdF txf ln).2.2.2.2.1 (rdF txf ln).2.2.2.2.2.1 txf (rdF txf ln).2.2.2.2.2.2 as0 ws0 (xs0 (rdF txf ln).2.2.2.1 (rdF txf ln).2.2.2.2.1 (ord (rdF txf ln).2.2.1).2.2.2) ws0 0))) := by
  have C0 := C
  obtain ⟨⟨h1, h2, A, hA, hX⟩, ⟨t1, t2, t3, t4, t5, t6, t7⟩, ⟨o1, o2, o3, o4⟩, r1, r2, r3, r4, r5⟩ := C
  refine Ct.go rfl rfl rfl ?_
  refine J.dm (fun hdm => ?_)
  have hn0 : h n = none := by
    cases hx : h n with
    | none => rfl
    | some e => exact absurd (hdm n e hx) (Nat.lt_irrefl _)
  have h1n : hset h n (.inr (8, [.null, .int 0, .int 0, .int 0, .int 0, .int 0, .int 0])) c = some (oC (c + 1) (nI ln) p a (a + 11) rn) := by rw [hset_n _ _ (by omega)]; exact h1
  refine j_new (fs := [.null, .int 0, .int 0, .int 0, .int 0, .int 0, .int 0]) d_C_read_0 nw_C_26 (by decide) (by decide) (by decide) ?_
  refine j_dup d_C_read_3 rfl ?_
  refine j_aload_n d_C_read_4 rfl ?_
  refine j_get d_C_read_5 fl_C_9 (by first | assumption | exact hset_s _ _ _ | (rw [hset_n _ _ (by omega)]; first | assumption | exact hset_s _ _ _ | (rw [hset_n _ _ (by omega)]; first | assumption | exact hset_s _ _ _ | (rw [hset_n _ _ (by omega)]; first | assumption | exact hset_s _ _ _ | (rw [hset_n _ _ (by omega)]; first | assumption | exact hset_s _ _ _))))) rfl ?_
  refine j_aload_n d_C_read_8 rfl ?_
  refine j_get d_C_read_9 fl_C_22 (by first | assumption | exact hset_s _ _ _ | (rw [hset_n _ _ (by omega)]; first | assumption | exact hset_s _ _ _ | (rw [hset_n _ _ (by omega)]; first | assumption | exact hset_s _ _ _ | (rw [hset_n _ _ (by omega)]; first | assumption | exact hset_s _ _ _ | (rw [hset_n _ _ (by omega)]; first | assumption | exact hset_s _ _ _))))) rfl ?_
  refine j_callI (As := [.ref (c + 1), .int (nI ln)]) d_C_read_12 cb_C_28 iv_Rd_init rfl rfl (Nat.le_of_ble_eq_true rfl) (d' := 1) (by decide) (Nat.zero_le _) (Nat.zero_le _) (c_Rd_init (by omega)) (fun v' h' n' q _ => ?_)
  obtain ⟨rfl, rfl, q3⟩ := q; have q3 := q3.symm; subst q3
  have hr := hR_r (h := h) (r := n) (tx := c + 1) (ln := ln) (pl := 0) (K := 0) (N := 0) (M := 0) (sg := 0)
  have F : RF E h n (c + 1) ln txf := ⟨h2, by omega, t2, by omega, t1⟩
  have hdm1 : Dm h (n + 1) := fun q e hq => Nat.lt_succ_of_lt (hdm q e hq)
  have hct := c_Rd_puzzle (n := n + 1) F hdm1 (by omega) (by omega) (fun ci fs _ => by rw [hn0]; exact fun z => by cases z)
  generalize rdF txf ln = x at hct ⊢
  refine j_astore_n d_C_read_15 (by decide) ?_
  refine j_aload_n d_C_read_16 rfl ?_
  refine j_callV (As := []) d_C_read_17 cb_C_31 vv_Rd_puzzle hr rfl rfl rfl rfl (Nat.le_of_ble_eq_true rfl) (d' := 98) (by decide) (by decide) (by decide) hct (fun v' h' n' q _ => ?_)
  obtain ⟨g2, K2, N2, M2, sg2, rfl, hE, hq⟩ := q
  have hE1 := hE.1
  have hE3 := hE.2.2
  have gc : hR g2 n (c + 1) ln x.2.1 K2 N2 M2 sg2 c = some (oC (c + 1) (nI ln) p a (a + 11) rn) := by rw [hR_x (by omega), hE1 c (by omega)]; exact h1
  rcases hq with ⟨hx, rfl⟩ | ⟨hx, rfl, e5, e6, b1, b2, b3, b4, A2⟩
  · refine j_astore_nN d_C_read_20 (by decide) ?_
    refine j_aload_n d_C_read_21 rfl ?_
    refine j_iconst (v := 0) d_C_read_22 (by decide) ?_
    refine j_put d_C_read_23 fl_C_22 fp_C (Or.inl rfl) gc o4 rfl rfl (Nat.le_of_ble_eq_true rfl) ?_
    refine j_aload_nN d_C_read_26 rfl ?_
    refine j_ifnonnullN d_C_read_27 ?_
    refine j_iconst (v := (-1)) d_C_read_30 (by decide) ?_
    refine j_aload_n d_C_read_31 rfl ?_
    have hr2 : hset (hR g2 n (c + 1) ln x.2.1 K2 N2 M2 sg2) c (oC (c + 1) 0 p a (a + 11) rn) n = some (oRd (c + 1) (nI ln) (nI x.2.1) K2 N2 M2 (nI sg2)) := by rw [hset_n _ _ (by omega), hR_r]
    refine j_pV (As := []) d_C_read_32 cb_C_35 vv_Rd_place hr2 rfl rfl rfl rfl (Nat.le_of_ble_eq_true rfl) (d' := 0) (by decide) (c_Rd_place hr2 rfl) ?_
    refine j_isub d_C_read_35 ?_
    have C1 : CI E (hR g2 n (c + 1) ln x.2.1 K2 N2 M2 sg2) n' c p a ln nn k m cc txf φ s ws xs xws rn := C0.ext hdm (fun q hq => by rw [hR_x (by omega), hE1 q (by omega)]) (by omega)
    obtain ⟨C2, F2⟩ := C1.own (ln' := 0) (rn' := rn) (by omega) r5
    refine j_iret d_C_read_36 rfl ⟨⟨by omega, fun q q1 q2 _ _ => ?_⟩, Or.inl ⟨hx, rfl, C2⟩⟩
    show hset (hR g2 n (c + 1) ln x.2.1 K2 N2 M2 sg2) c (oC (c + 1) 0 p a (a + 11) rn) q = h q
    rw [hset_n _ _ q2, hR_x (by omega), hE1 q (by omega)]
  · refine j_astore_n d_C_read_20 (by decide) ?_
    refine j_aload_n d_C_read_21 rfl ?_
    refine j_iconst (v := 0) d_C_read_22 (by decide) ?_
    refine j_put d_C_read_23 fl_C_22 fp_C (Or.inl rfl) gc o4 rfl rfl (Nat.le_of_ble_eq_true rfl) ?_
    refine j_aload_n d_C_read_26 rfl ?_
    refine j_ifnonnull (tgt := 37) d_C_read_27 (by decide) ?_
    generalize hg : hset (hR g2 n (c + 1) ln x.2.1 K2 N2 M2 sg2) c (oC (c + 1) (nI 0) p a (a + 11) rn) = g
    show J E m_C_read 99 21 838 37 _ _ (hset (hR g2 n (c + 1) ln x.2.1 K2 N2 M2 sg2) c (oC (c + 1) (nI 0) p a (a + 11) rn)) _ _
    rw [hg]
    have gx : ∀ q, q ≠ c → q ≠ n → g q = g2 q := fun q y z => by rw [← hg, hset_n _ _ y, hR_x z]
    have gcc : g c = some (oC (c + 1) (nI 0) p a (a + 11) rn) := by rw [← hg, hset_s]
    have gn : g n = some (oRd (c + 1) (nI ln) (nI x.2.1) K2 N2 M2 (nI sg2)) := by rw [← hg, hset_n _ _ (by omega), hR_r]
    have g2n : g2 n = none := (hE1 n (by omega)).trans hn0
    have Ag : PzA E g (n + 1) x.2.2.1 x.2.2.2.1 x.2.2.2.2.1 x.2.2.2.2.2.1 x.2.2.2.2.2.2 := by
      refine A2.ck (fun q ci fs hcl hq => ?_) (fun q y z => gx q (by omega) (by omega))
      have z1 : q ≠ c := fun e => by rw [e, hE1 c (by omega), h1] at hq; cases hq; simp [clN] at hcl
      have z2 : q ≠ n := fun e => by rw [e, g2n] at hq; cases hq
      rw [gx q z1 z2]; exact hq
    have hdg : Dm g n' := fun q e hq => by
      by_cases z1 : q = c
      · omega
      · by_cases z2 : q = n
        · omega
        · rw [gx q z1 z2] at hq
          exact hE.2.1 q e hq
    have gtx : g (c + 1) = some (arI E 0 300 (nA txf)) := by rw [gx _ (by omega) (by omega), hE1 _ (by omega)]; exact h2
    refine j_aload_n d_C_read_37 rfl ?_
    refine j_aload_n d_C_read_38 rfl ?_
    refine j_callV (As := [.ref (n + 1)]) d_C_read_39 cb_C_18 vv_C_begin gcc rfl rfl rfl rfl (Nat.le_of_ble_eq_true rfl) (d' := 3) (by decide) (by decide) (by decide) (c_C_begin o4 gcc (by omega) (by omega) Ag.1 (by omega) (Ag.od b2 e5) (by omega) (by omega) (by omega) b3 b4) (fun v' h' n3 q _ => ?_)
    obtain ⟨rfl, rfl, q3⟩ := q; have q3 := q3.symm; subst q3
    have CN := CI.new (E := E) (c := c) (txf := txf) (al := (ord x.2.2.1).2.2.2) o4 (show c + 1 < n + 1 by omega) e5 hdg (fun ci fs hcl => by rw [gcc]; intro z; cases z; simp [clN] at hcl) gtx t1 Ag b1 b2 b3 b4 e6
    have hpz := CN.1.2.2.1.1
    refine j_aload_n d_C_read_42 rfl ?_
    refine j_pV (As := []) d_C_read_43 cb_C_39 vv_Pz_clueCount hpz rfl rfl rfl rfl (Nat.le_of_ble_eq_true rfl) (d' := 0) (by decide) (c_Pz_clueCount hpz rfl) ?_
    refine j_iret d_C_read_46 rfl ⟨⟨by omega, fun q q1 q2 _ _ => ?_⟩, Or.inr ⟨hx, rfl, n + 1, n', by omega, CN⟩⟩
    rw [hset_n _ _ q2, hCr_x (by omega), hAn_x (by omega), gx q q2 (by omega), hE1 q (by omega)]
/-- a new ClueLogic -/
theorem c_C_init (h0 : E.2.2.2.1 ≤ n) : Ct E m_C_init 9 27 1289 [.ref n] (hset h n (.inr (0, [.null, .int 0, .null, .null, .null, .int 0]))) (n + 1) (fun v h' n' => v = none ∧ n' = n + 28 ∧ (∀ q, q < n → h' q = h q) ∧ CI E h' n' n (n + 2) (n + 7) 0 1 0 0 0 (fun _ => 0) (fun _ _ => 0) as0 ws0 (xs0 0 0 (ord 1).2.2.2) ws0 0) := by
  refine Ct.go rfl rfl rfl ?_
  refine J.dm (fun hdm0 => ?_)
  refine j_aload_n d_C_init_0 rfl ?_
  refine j_obj d_C_init_1 ob_C_3 obi obc (by decide) (by decide) ?_
  refine j_aload_n d_C_init_4 rfl ?_
  refine j_sipush (v := 300) d_C_init_5 (by decide) ?_
  refine j_newa (t := 0) (N := 300) d_C_init_8 rfl aw_int rfl (by decide) (by decide) (by decide) (by decide) (by decide) ?_
  refine j_put (fs := [.null, .int 0, .null, .null, .null, .int 0]) d_C_init_10 fl_C_9 fp_C (Or.inr ⟨rfl, rfl, rfl⟩) (by simp [hset]) h0 rfl rfl (Nat.le_of_ble_eq_true rfl) ?_
  generalize hg : hset (hset (hset h n (.inr (0, [.null, .int 0, .null, .null, .null, .int 0]))) (n + 1) (arI E 0 300 (fun _ => 0))) n (.inr (0, [.ref (n + 1), .int 0, .null, .null, .null, .int 0])) = g
  show J E m_C_init 9 26 989 13 _ _ (hset (hset (hset h n (.inr (0, [.null, .int 0, .null, .null, .null, .int 0]))) (n + 1) (arI E 0 300 (fun _ => 0))) n (.inr (0, [.ref (n + 1), .int 0, .null, .null, .null, .int 0]))) (n + 2) _
  rw [hg]
  refine J.dm (fun hdm => ?_)
  have g0 : g n = some (.inr (0, [.ref (n + 1), .int 0, .null, .null, .null, .int 0])) := by rw [← hg, hset_s]
  have g1 : g (n + 1) = some (arI E 0 300 (nA (fun _ => 0))) := by rw [← hg, hset_n _ _ (by omega), hset_s, nA_0]
  have gx : ∀ q, q < n → g q = h q := fun q hq => by rw [← hg, hset_n _ _ (by omega), hset_n _ _ (by omega), hset_n _ _ (by omega)]
  refine j_aload_n d_C_init_13 rfl ?_
  refine j_new (fs := [.int 0, .int 0, .int 0, .null, .null, .int 0]) d_C_init_14 nw_C_13 (by decide) (by decide) (by decide) ?_
  refine j_dup d_C_init_17 rfl ?_
  refine j_iconst (v := 1) d_C_init_18 (by decide) ?_
  refine j_iconst (v := 0) d_C_init_19 (by decide) ?_
  refine j_iconst (v := 0) d_C_init_20 (by decide) ?_
  refine j_callI (As := [.int (nI 1), .int (nI 0), .int (nI 0)]) d_C_init_21 cb_C_15 iv_Pz_init rfl rfl (Nat.le_of_ble_eq_true rfl) (d' := 8) (by decide) (by decide) (by decide) (c_Pz_init (N := 1) (K := 0) (M := 0) (by decide) (by omega)) (fun v' h' n' q _ => ?_)
  obtain ⟨rfl, rfl, q3⟩ := q; have q3 := q3.symm; subst q3
  have A : PzA E (hZ E g (n + 2) 1 0 0) (n + 2) 1 0 0 0 (fun _ _ => 0) := hZ_A
  have z0 : hZ E g (n + 2) 1 0 0 n = some (.inr (0, [.ref (n + 1), .int 0, .null, .null, .null, .int 0])) := (hZ_x (by omega)).trans g0
  have z1 : hZ E g (n + 2) 1 0 0 (n + 1) = some (arI E 0 300 (nA (fun _ => 0))) := (hZ_x (by omega)).trans g1
  refine j_callV (As := [.ref (n + 2)]) d_C_init_24 cb_C_18 vv_C_begin z0 rfl rfl rfl rfl (Nat.le_of_ble_eq_true rfl) (d' := 3) (by decide) (by decide) (by decide) (c_C_begin (ln := 0) (rn := 0) h0 z0 (by omega) (by omega) A.1 (by omega) (A.od (by decide) (by omega)) (by omega) (by omega) (by omega) (by decide) (by decide)) (fun v' h' n3 q _ => ?_)
  obtain ⟨rfl, rfl, q3⟩ := q; have q3 := q3.symm; subst q3
  have CN := CI.new (E := E) (c := n) (txf := fun _ => 0) (al := (ord 1).2.2.2) h0 (show n + 1 < n + 2 by omega) (show n + 2 + 5 ≤ n + 2 + 5 by omega) (hZ_E hdm).2.1 (fun ci fs hcl => by rw [z0]; intro z; cases z; simp [clN] at hcl) z1 (fun _ => by decide) A (by decide) (by decide) (by decide) (by decide) (by decide)
  refine j_vret d_C_init_27 rfl ⟨rfl, rfl, fun q hq => ?_, CN⟩
  rw [hset_n _ _ (by omega), hCr_x (by omega), hAn_x (by omega), hZ_x (by omega)]
  exact gx q hq
end REA

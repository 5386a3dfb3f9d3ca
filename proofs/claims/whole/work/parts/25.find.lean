section FND
variable {E : EV} {h : HP} {n a p od K : Nat} {s : AS} {ws : WS}
theorem hAn_out {q : Nat} {e : va_E} (hq : a + 10 < q) : hset (hAn E h a p od K s ws) q e = hAn E (hset h q e) a p od K s ws := by
  unfold hAn hW hB
  rw [hset_comm _ _ _ (show a + 6 + 4 ≠ q by omega), hset_comm _ _ _ (show a + 6 + 3 ≠ q by omega), hset_comm _ _ _ (show a + 6 + 2 ≠ q by omega), hset_comm _ _ _ (show a + 6 + 1 ≠ q by omega), hset_comm _ _ _ (show a + 6 ≠ q by omega), hset_comm _ _ _ (show a + 5 ≠ q by omega), hset_comm _ _ _ (show a + 4 ≠ q by omega), hset_comm _ _ _ (show a + 3 ≠ q by omega), hset_comm _ _ _ (show a + 2 ≠ q by omega), hset_comm _ _ _ (show a + 1 ≠ q by omega), hset_comm _ _ _ (show a ≠ q by omega)]
/-- a new cell elsewhere changes nothing of the puzzle -/
theorem PzF.push {N M cc D q : Nat} {φ : Nat → (Nat → Int32) → Int32} {e : va_E} (F : PzF E h a p od K N M cc D φ) (hq : a + 10 < q) (hn : h q = none) : PzF E (hset h q e) a p od K N M cc D φ := by
  obtain ⟨cp, f, hp, hpa, hcp, hcpa, hcl, hcc, hK, hM, hck, hb⟩ := F
  have hk : CK h (hset h q e) := CK.set (fun ci fs _ => by rw [hn]; exact fun z => by cases z)
  refine ⟨cp, f, by rw [hset_n _ _ (by omega)]; exact hp, hpa, by rw [hset_n _ _ (by omega)]; exact hcp, hcpa, fun c hc => ?_, hcc, hK, hM, fun q' h1 h2 => by rw [hset_n _ _ (by omega)]; exact hck q' h1 h2, hb⟩
  obtain ⟨y, h1, h2⟩ := hcl c hc
  exact ⟨y, h1, h2.kept hk⟩
def anLoop (cc K N : Nat) (vf : Nat → Nat) (pM : Int32) (φ : Nat → (Nat → Int32) → Int32) : Nat → AS × WS → AS × WS
  | 0, x => x
  | k + 1, x => anLoop cc K N vf pM φ k (anWeigh cc K pM φ x.2 x.1, nxF vf N K x.2)
theorem anAdd_le {pts : Int32} (h : s.2.2.2.2.2.2.1 ≤ 100) : (anAdd K ws s pts).2.2.2.2.2.2.1 ≤ 100 := by
  unfold anAdd
  exact kps_le _ _ h
theorem anNeed_k {cc : Nat} {pts : Int32} (s : AS) : (anNeed cc s pts).2.2.2.2.2.2.1 = s.2.2.2.2.2.2.1 := rfl
theorem anWeigh_le {cc : Nat} {pM : Int32} {φ : Nat → (Nat → Int32) → Int32} (h : s.2.2.2.2.2.2.1 ≤ 100) : (anWeigh cc K pM φ ws s).2.2.2.2.2.2.1 ≤ 100 := by
  unfold anWeigh anEnd
  generalize (List.range' 0 cc).foldl (wlS φ (nA ws.2.2.2)) (s.2.2.2.1, pM, 0) = x
  by_cases h1 : x.2.2 = 0 <;> by_cases h2 : x.2.1 = 0
  · rw [if_pos h1, if_pos h2]; exact h
  · rw [if_pos h1, if_neg h2]; exact anAdd_le (s := (s.1, s.2.1, s.2.2.1, x.1, s.2.2.2.2)) h
  · rw [if_neg h1, if_pos h2, anNeed_k]; exact h
  · rw [if_neg h1, if_neg h2, anNeed_k]; exact anAdd_le (s := (s.1, s.2.1, s.2.2.1, x.1, s.2.2.2.2)) h
theorem chF_B {tkf my : Nat → Int32} {cnt : Nat} (hc : cnt ≤ 24) : ∀ (k kd : Nat) (x : (Nat → Nat) × (Nat → Nat) × Nat), (∀ j, x.1 j < 24) → (∀ j, x.2.1 j ≤ 24) →
    (∀ j, ((List.range' kd k).foldl (chS tkf cnt my) x).1 j < 24) ∧ (∀ j, ((List.range' kd k).foldl (chS tkf cnt my) x).2.1 j ≤ 24) ∧ ((List.range' kd k).foldl (chS tkf cnt my) x).2.2 ≤ x.2.2 * 24 ^ k
  | 0, _, x, h1, h2 => ⟨h1, h2, by simp⟩
  | k + 1, kd, x, h1, h2 => by
    have hb := coF_B tkf (my kd) kd cnt 0 (x.1, 0) (by omega) (Nat.le_refl _) h1
    have hb1 : (coF tkf cnt (my kd) kd x.1).2 ≤ 24 := by have := hb.1; unfold coF; omega
    rw [List.range'_succ, List.foldl_cons]
    have := chF_B (tkf := tkf) (my := my) hc k (kd + 1) (chS tkf cnt my x kd) hb.2 (fun j => by
      show upN _ _ _ j ≤ 24
      unfold upN; split
      · exact hb1
      · exact h2 j)
    refine ⟨this.1, this.2.1, Nat.le_trans this.2.2 ?_⟩
    show x.2.2 * (coF tkf cnt (my kd) kd x.1).2 * 24 ^ k ≤ _
    rw [Nat.pow_succ, Nat.mul_assoc, Nat.mul_comm (24 ^ k) 24, ← Nat.mul_assoc, ← Nat.mul_assoc]
    exact Nat.mul_le_mul_right _ (Nat.mul_le_mul_left _ hb1)
/-- what find finds -/
def anFind (cc K N cnt : Nat) (tkf : Nat → Int32) (al : Int32) (vf : Nat → Nat) (pM : Int32) (φ : Nat → (Nat → Int32) → Int32) (s : AS) (ws : WS) : AS × WS :=
  let ch := chF tkf cnt K (fillF (fun _ => 0) 3 al) ws.1 ws.2.1
  anLoop cc K N vf pM φ ch.2.2 ((s.1, s.2.1, s.2.2.1, s.2.2.2.1, s.2.2.2.2.1, s.2.2.2.2.2.1, s.2.2.2.2.2.2.1, 1), stF vf N K (ch.1, ch.2.1, ws.2.2))
/-- the orders' own facts -/
def OdF (E : EV) (h : HP) (a od N tk vl cnt : Nat) (al : Int32) (tkf : Nat → Int32) (vf : Nat → Nat) : Prop := h od = some (oOd (nI N) tk vl (nI cnt) al) ∧ h tk = some (arI E 0 24 tkf) ∧ h vl = some (arI E 0 96 (nA vf)) ∧ od < a ∧ tk < a ∧ vl < a ∧ cnt ≤ 24 ∧ N ≤ 4 ∧ ∀ j, vf j < 4
theorem OdF.push {N tk vl cnt q : Nat} {al : Int32} {tkf : Nat → Int32} {vf : Nat → Nat} {e : va_E} (F : OdF E h a od N tk vl cnt al tkf vf) (hq : a ≤ q) : OdF E (hset h q e) a od N tk vl cnt al tkf vf := by
  obtain ⟨h1, h2, h3, h4, h5, h6, h7⟩ := F
  exact ⟨by rw [hset_n _ _ (by omega)]; exact h1, by rw [hset_n _ _ (by omega)]; exact h2, by rw [hset_n _ _ (by omega)]; exact h3, h4, h5, h6, h7⟩
theorem c_An_find {N M cc D tk vl cnt : Nat} {al : Int32} {tkf : Nat → Int32} {vf : Nat → Nat} {φ : Nat → (Nat → Int32) → Int32} (F : PzF E h a p od K N M cc D φ) (O : OdF E h a od N tk vl cnt al tkf vf) (hs : WB ws) (hk : s.2.2.2.2.2.2.1 ≤ 100) (hf : s.2.2.2.2.2.2.2 = 0) :
    Ct E m_An_find (D + 4) 1 3 [.ref a] (hAn E h a p od K s ws) n (Rt none (hAn E (hset h n (arI E 0 3 (fillF (fun _ => 0) 3 al))) a p od K (anFind cc K N cnt tkf al vf (partsF M) φ s ws).1 (anFind cc K N cnt tkf al vf (partsF M) φ s ws).2) (n + 1)) := by
  refine Ct.go rfl rfl rfl ?_
  refine J.dm (fun hdm => ?_)
  have hna : a + 10 < n := hdm _ _ (hAn_10 (E := E) (h := h) (a := a) (p := p) (od := od) (K := K) (s := s) (ws := ws))
  have hn0 : h n = none := by
    cases hx : h n with
    | none => rfl
    | some e => exact absurd (hdm n e (by rw [hAn_x (by omega)]; exact hx)) (Nat.lt_irrefl _)
  have F2 : ∀ e, PzF E (hset h n e) a p od K N M cc D φ := fun e => F.push hna hn0
  have O2 : ∀ e, OdF E (hset h n e) a od N tk vl cnt al tkf vf := fun e => O.push (by omega)
  obtain ⟨cp, f, hp, hpa, hcp, hcpa, hcl, hcc, hK, hM, hck, hb⟩ := F
  obtain ⟨o1, o2, o3, o4, o5, o6, o7, o8, o9⟩ := O
  obtain ⟨ko, kp, co, ho, ne, cn, kept, fnd⟩ := s
  dsimp only at hk hf
  subst hf
  have hw0 := hAn_0 (E := E) (h := h) (a := a) (p := p) (od := od) (K := K) (s := (ko, kp, co, ho, ne, cn, kept, 0)) (ws := ws)
  refine j_aload_n d_An_find_0 rfl ?_
  refine j_get d_An_find_1 fl_An_66 (by first | assumption | exact hset_s _ _ _ | (rw [hset_n _ _ (by omega)]; first | assumption | exact hset_s _ _ _ | (rw [hset_n _ _ (by omega)]; first | assumption | exact hset_s _ _ _ | (rw [hset_n _ _ (by omega)]; first | assumption | exact hset_s _ _ _ | (rw [hset_n _ _ (by omega)]; first | assumption | exact hset_s _ _ _))))) rfl ?_
  refine j_if_eq (tgt := 8) d_An_find_4 (by decide) (fun c2 => ?_) (fun c2 => absurd rfl c2)
  refine j_aload_n d_An_find_8 rfl ?_
  refine j_iconst (v := 1) d_An_find_9 (by decide) ?_
  refine j_put d_An_find_10 fl_An_66 fp_An (Or.inl rfl) hw0 hb rfl rfl (Nat.le_of_ble_eq_true rfl) ?_
  refine J.conv (L := _) rfl (show _ = hAn E h a p od K (ko, kp, co, ho, ne, cn, kept, 1) ws from hAn_s0) ?_
  refine j_iconst (v := 3) d_An_find_13 (by decide) ?_
  refine j_newa (t := 0) (N := 3) d_An_find_14 rfl aw_int rfl (by decide) (by decide) (by decide) (by decide) (by decide) ?_
  refine J.conv (L := _) rfl (hAn_out hna) ?_
  have wp : ∀ e, hAn E (hset h n e) a p od K (ko, kp, co, ho, ne, cn, kept, 1) ws p = some (oPz (nI N) (nI K) (nI M) od cp (nI cc)) := fun e => by rw [hAn_x (Or.inl hpa), hset_n _ _ (by omega)]; exact hp
  have wo : ∀ e, hAn E (hset h n e) a p od K (ko, kp, co, ho, ne, cn, kept, 1) ws od = some (oOd (nI N) tk vl (nI cnt) al) := fun e => by rw [hAn_x (Or.inl o4), hset_n _ _ (by omega)]; exact o1
  have wn : ∀ e, hAn E (hset h n e) a p od K (ko, kp, co, ho, ne, cn, kept, 1) ws n = some e := fun e => by rw [hAn_x (Or.inr hna), hset_s]
  have w0 : ∀ e, hAn E (hset h n e) a p od K (ko, kp, co, ho, ne, cn, kept, 1) ws a = _ := fun e => hAn_0
  refine j_astore_n d_An_find_16 (by decide) ?_
  refine j_aload_n d_An_find_17 rfl ?_
  refine j_aload_n d_An_find_18 rfl ?_
  refine j_get d_An_find_19 fl_An_28 (w0 _) rfl ?_
  refine j_pV (As := []) d_An_find_22 cb_An_48 vv_Pz_orders (wp _) rfl rfl rfl rfl (Nat.le_of_ble_eq_true rfl) (show 0 + 1 ≤ D + 4 by omega) (c_Pz_orders (wp _) rfl) ?_
  refine j_pV (As := []) d_An_find_25 cb_An_70 vv_Od_allTicks (wo _) rfl rfl rfl rfl (Nat.le_of_ble_eq_true rfl) (show 0 + 1 ≤ D + 4 by omega) (c_Od_allTicks (wo _) rfl) ?_
  refine j_callS (As := [.ref n, .int al]) d_An_find_28 cb_An_73 sv_Ar_fill rfl rfl (Nat.le_of_ble_eq_true rfl) (show 0 + 1 ≤ D + 4 by omega) (Nat.zero_le _) (Nat.zero_le _) (c_Ar_fill (N := 3) (by omega) (by omega) (wn _)) (fun v' h' n' q _ => ?_)
  obtain ⟨rfl, rfl, rfl⟩ := q
  refine J.conv (L := _) rfl (show _ = hAn E (hset h n (arI E 0 3 (fillF (fun _ => 0) 3 al))) a p od K (ko, kp, co, ho, ne, cn, kept, 1) ws by rw [hAn_out hna, hset_hset]) ?_
  generalize hg : hset h n (arI E 0 3 (fillF (fun _ => 0) 3 al)) = g
  have Fg : PzF E g a p od K N M cc D φ := by rw [← hg]; exact F2 _
  have gn : g n = some (arI E 0 3 (fillF (fun _ => 0) 3 al)) := by rw [← hg, hset_s]
  have Og : OdF E g a od N tk vl cnt al tkf vf := by rw [← hg]; exact O2 _
  obtain ⟨g1, g2, g3, -⟩ := Og
  have hv0 := hAn_0 (E := E) (h := g) (a := a) (p := p) (od := od) (K := K) (s := (ko, kp, co, ho, ne, cn, kept, 1)) (ws := ws)
  have hv6 := hAn_6 (E := E) (h := g) (a := a) (p := p) (od := od) (K := K) (s := (ko, kp, co, ho, ne, cn, kept, 1)) (ws := ws)
  refine j_aload_n d_An_find_31 rfl ?_
  refine j_get d_An_find_32 fl_An_37 (by first | assumption | exact hset_s _ _ _ | (rw [hset_n _ _ (by omega)]; first | assumption | exact hset_s _ _ _ | (rw [hset_n _ _ (by omega)]; first | assumption | exact hset_s _ _ _ | (rw [hset_n _ _ (by omega)]; first | assumption | exact hset_s _ _ _ | (rw [hset_n _ _ (by omega)]; first | assumption | exact hset_s _ _ _))))) rfl ?_
  refine j_aload_n d_An_find_35 rfl ?_
  have hBx : ∀ (s : AS) q, q < a ∨ a + 5 < q → hB E g a p s q = g q := fun s q hq => hB_x hq
  refine j_callV (As := [.ref n]) d_An_find_36 cb_An_79 vv_Wk_choose hv6 rfl rfl rfl rfl (Nat.le_of_ble_eq_true rfl) (show 2 + 1 ≤ D + 4 by omega) (Nat.zero_le _) (Nat.zero_le _) (c_Wk_choose (h := hB E g a p (ko, kp, co, ho, ne, cn, kept, 1)) (w := a + 6) (by omega) (by rw [hBx _ _ (by omega)]; exact g1) (by rw [hBx _ _ (by omega)]; exact g2) (by rw [hBx _ _ (by omega)]; exact gn) (by omega) (by omega) (by omega) o7 hK hs.1) (fun v' h' n' q _ => ?_)
  obtain ⟨rfl, rfl, rfl⟩ := q
  generalize hch : chF tkf cnt K (fillF (fun _ => 0) 3 al) ws.1 ws.2.1 = ch
  have hchB := chF_B (tkf := tkf) (my := fillF (fun _ => 0) 3 al) o7 K 0 (ws.1, ws.2.1, 1) hs.1 hs.2.1
  rw [show (List.range' 0 K).foldl (chS tkf cnt (fillF (fun _ => 0) 3 al)) (ws.1, ws.2.1, 1) = ch from hch] at hchB
  have hlay : ch.2.2 < 2 ^ 31 := by
    have h1 := hchB.2.2
    have h2 : 24 ^ K ≤ 24 ^ 3 := Nat.pow_le_pow_right (by omega) hK
    have h3 : (24 : Nat) ^ 3 = 13824 := by decide
    simp only [Nat.one_mul] at h1
    omega
  have hs1 : WB (ch.1, ch.2.1, ws.2.2) := ⟨hchB.1, hchB.2.1, hs.2.2⟩
  have hu0 := hAn_0 (E := E) (h := g) (a := a) (p := p) (od := od) (K := K) (s := (ko, kp, co, ho, ne, cn, kept, 1)) (ws := (ch.1, ch.2.1, ws.2.2))
  have hu6 := hAn_6 (E := E) (h := g) (a := a) (p := p) (od := od) (K := K) (s := (ko, kp, co, ho, ne, cn, kept, 1)) (ws := (ch.1, ch.2.1, ws.2.2))
  show J E m_An_find (D + 4) 0 0 39 _ _ (hAn E g a p od K (ko, kp, co, ho, ne, cn, kept, 1) (ch.1, ch.2.1, ws.2.2)) _ _
  refine j_istore_n d_An_find_39 (by decide) ?_
  refine j_aload_n d_An_find_40 rfl ?_
  refine j_get d_An_find_41 fl_An_37 (by first | assumption | exact hset_s _ _ _ | (rw [hset_n _ _ (by omega)]; first | assumption | exact hset_s _ _ _ | (rw [hset_n _ _ (by omega)]; first | assumption | exact hset_s _ _ _ | (rw [hset_n _ _ (by omega)]; first | assumption | exact hset_s _ _ _ | (rw [hset_n _ _ (by omega)]; first | assumption | exact hset_s _ _ _))))) rfl ?_
  refine j_callV (As := []) d_An_find_44 cb_An_83 vv_Wk_start hu6 rfl rfl rfl rfl (Nat.le_of_ble_eq_true rfl) (show 2 + 1 ≤ D + 4 by omega) (Nat.zero_le _) (Nat.zero_le _) (c_Wk_start (h := hB E g a p (ko, kp, co, ho, ne, cn, kept, 1)) (w := a + 6) (by omega) (by rw [hBx _ _ (by omega)]; exact g1) (by rw [hBx _ _ (by omega)]; exact g3) (by omega) (by omega) hK o8 hs1 o9) (fun v' h' n' q _ => ?_)
  obtain ⟨rfl, rfl, rfl⟩ := q
  show J E m_An_find (D + 4) 0 0 47 _ _ (hAn E g a p od K (ko, kp, co, ho, ne, cn, kept, 1) (stF vf N K (ch.1, ch.2.1, ws.2.2))) _ _
  refine j_iconst (v := 0) d_An_find_47 (by decide) ?_
  refine j_istore_n d_An_find_48 (by decide) ?_
  have hfin : anFind cc K N cnt tkf al vf (partsF M) φ (ko, kp, co, ho, ne, cn, kept, 0) ws = anLoop cc K N vf (partsF M) φ ch.2.2 ((ko, kp, co, ho, ne, cn, kept, 1), stF vf N K (ch.1, ch.2.1, ws.2.2)) := by
    unfold anFind
    rw [hch]
  rw [hfin]
  have loop : ∀ (k i : Nat) (x : AS × WS), i + k = ch.2.2 → x.1.2.2.2.2.2.2.1 ≤ 100 → WB x.2 → J E m_An_find (D + 4) 0 0 49 [(0, .ref a), (1, .ref n), (2, .int (nI ch.2.2)), (3, .int (nI i))] [] (hAn E g a p od K x.1 x.2) (n + 1) (Rt none (hAn E g a p od K (anLoop cc K N vf (partsF M) φ k x).1 (anLoop cc K N vf (partsF M) φ k x).2) (n + 1)) := by
    intro k
    induction k with
    | zero =>
      intro i x hi h1 h2
      have hi : i = ch.2.2 := by omega
      subst hi
      refine j_iload_n d_An_find_49 rfl ?_
      refine j_iload_n d_An_find_50 rfl ?_
      refine j_icmp_ge (tgt := 71) d_An_find_51 (by decide) (fun c2 => ?_) (fun c2 => absurd (nI_le (Nat.le_refl _) hlay) c2)
      exact j_vret d_An_find_71 rfl ⟨rfl, rfl, rfl⟩
    | succ k ih =>
      intro i x hi h1 h2
      have hx0 := hAn_0 (E := E) (h := g) (a := a) (p := p) (od := od) (K := K) (s := x.1) (ws := x.2)
      refine j_iload_n d_An_find_49 rfl ?_
      refine j_iload_n d_An_find_50 rfl ?_
      refine j_icmp_ge (tgt := 71) d_An_find_51 (by decide) (fun c2 => absurd c2 (nI_ge (by omega) hlay)) (fun c2 => ?_)
      refine j_aload_n d_An_find_54 rfl ?_
      refine j_callV (As := []) d_An_find_55 cb_An_86 vv_An_weigh hx0 rfl rfl rfl rfl (Nat.le_of_ble_eq_true rfl) (show D + 3 + 1 ≤ D + 4 by omega) (Nat.zero_le _) (Nat.zero_le _) (c_An_weigh Fg h2 h1) (fun v' h' n' q _ => ?_)
      obtain ⟨rfl, rfl, rfl⟩ := q
      have hy0 := hAn_0 (E := E) (h := g) (a := a) (p := p) (od := od) (K := K) (s := anWeigh cc K (partsF M) φ x.2 x.1) (ws := x.2)
      have hy6 := hAn_6 (E := E) (h := g) (a := a) (p := p) (od := od) (K := K) (s := anWeigh cc K (partsF M) φ x.2 x.1) (ws := x.2)
      refine j_aload_n d_An_find_58 rfl ?_
      refine j_get d_An_find_59 fl_An_37 (by first | assumption | exact hset_s _ _ _ | (rw [hset_n _ _ (by omega)]; first | assumption | exact hset_s _ _ _ | (rw [hset_n _ _ (by omega)]; first | assumption | exact hset_s _ _ _ | (rw [hset_n _ _ (by omega)]; first | assumption | exact hset_s _ _ _ | (rw [hset_n _ _ (by omega)]; first | assumption | exact hset_s _ _ _))))) rfl ?_
      refine j_callV (As := []) d_An_find_62 cb_An_89 vv_Wk_next hy6 rfl rfl rfl rfl (Nat.le_of_ble_eq_true rfl) (show 2 + 1 ≤ D + 4 by omega) (Nat.zero_le _) (Nat.zero_le _) (c_Wk_next (h := hB E g a p (anWeigh cc K (partsF M) φ x.2 x.1)) (w := a + 6) (by omega) (by rw [hBx _ _ (by omega)]; exact g1) (by rw [hBx _ _ (by omega)]; exact g3) (by omega) (by omega) hK o8 h2 o9) (fun v' h' n' q _ => ?_)
      obtain ⟨rfl, rfl, rfl⟩ := q
      refine j_iinc (v := nI (i + 1)) d_An_find_65 rfl (nI_succ i).symm (by decide) ?_
      refine j_goto (tgt := 49) d_An_find_68 (by decide) ?_
      exact ih (i + 1) (anWeigh cc K (partsF M) φ x.2 x.1, nxF vf N K x.2) (by omega) (anWeigh_le h1) (nxF_WB K _ h2)
  exact loop ch.2.2 0 ((ko, kp, co, ho, ne, cn, kept, 1), stF vf N K (ch.1, ch.2.1, ws.2.2)) (by omega) hk (stF_WB _ _ hs1)
/-- found already -/
theorem c_An_find2 {d mc ms : Nat} (hf : ¬ s.2.2.2.2.2.2.2 = 0) : Ct E m_An_find d mc ms [.ref a] (hAn E h a p od K s ws) n (Rt none (hAn E h a p od K s ws) n) := by
  refine Ct.go rfl rfl rfl ?_
  have hw0 := hAn_0 (E := E) (h := h) (a := a) (p := p) (od := od) (K := K) (s := s) (ws := ws)
  refine j_aload_n d_An_find_0 rfl ?_
  refine j_get d_An_find_1 fl_An_66 (by first | assumption | exact hset_s _ _ _ | (rw [hset_n _ _ (by omega)]; first | assumption | exact hset_s _ _ _ | (rw [hset_n _ _ (by omega)]; first | assumption | exact hset_s _ _ _ | (rw [hset_n _ _ (by omega)]; first | assumption | exact hset_s _ _ _ | (rw [hset_n _ _ (by omega)]; first | assumption | exact hset_s _ _ _))))) rfl ?_
  refine j_if_eq (tgt := 8) d_An_find_4 (by decide) (fun c2 => absurd c2 hf) (fun c2 => ?_)
  exact j_vret d_An_find_7 rfl ⟨rfl, rfl, rfl⟩
end FND

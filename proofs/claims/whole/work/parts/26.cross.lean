section CRO
variable {E : EV} {h : HP} {n : Nat}
/-- Crossing: may, seen, mayBe, seenToBe, stepClue, stepCrossed, steps, finished -/
abbrev XS : Type := (Nat → Int32) × (Nat → Int32) × Int32 × Int32 × (Nat → Int32) × (Nat → Int32) × Nat × Int32
def hC (E : EV) (h : HP) (a p : Nat) (s : XS) : HP := hset (hset (hset (hset (hset h a (oCr p (a + 5) (a + 1) (a + 2) s.2.2.1 s.2.2.2.1 (a + 3) (a + 4) (nI s.2.2.2.2.2.2.1) s.2.2.2.2.2.2.2)) (a + 1) (arI E 0 3 s.1)) (a + 2) (arI E 0 3 s.2.1)) (a + 3) (arI E 0 54 s.2.2.2.2.1)) (a + 4) (arI E 0 54 s.2.2.2.2.2.1)
def hCr (E : EV) (h : HP) (a p od K : Nat) (s : XS) (ws : WS) : HP := hW E (hC E h a p s) (a + 5) od K ws
variable {a p od K : Nat} {s : XS} {ws : WS}
theorem hCr_0 : hCr E h a p od K s ws a = some (oCr p (a + 5) (a + 1) (a + 2) s.2.2.1 s.2.2.2.1 (a + 3) (a + 4) (nI s.2.2.2.2.2.2.1) s.2.2.2.2.2.2.2) := by unfold hCr; rw [hW_x (by omega)]; simp [hC, hset]
theorem hCr_1 : hCr E h a p od K s ws (a + 1) = some (arI E 0 3 s.1) := by unfold hCr; rw [hW_x (by omega)]; simp [hC, hset]
theorem hCr_2 : hCr E h a p od K s ws (a + 2) = some (arI E 0 3 s.2.1) := by unfold hCr; rw [hW_x (by omega)]; simp [hC, hset]
theorem hCr_3 : hCr E h a p od K s ws (a + 3) = some (arI E 0 54 s.2.2.2.2.1) := by unfold hCr; rw [hW_x (by omega)]; simp [hC, hset]
theorem hCr_4 : hCr E h a p od K s ws (a + 4) = some (arI E 0 54 s.2.2.2.2.2.1) := by unfold hCr; rw [hW_x (by omega)]; simp [hC, hset]
theorem hCr_5 : hCr E h a p od K s ws (a + 5) = some (oWk od (nI K) (a + 5 + 1) (a + 5 + 2) (a + 5 + 3) (a + 5 + 4)) := hW_0
theorem hCr_9 : hCr E h a p od K s ws (a + 5 + 4) = some (arI E 0 12 (nA ws.2.2.2)) := hW_4
theorem hC_x {q : Nat} (hq : q < a ∨ a + 4 < q) : hC E h a p s q = h q := by
  have h0 : q ≠ a := by omega
  have h1 : q ≠ a + 1 := by omega
  have h2 : q ≠ a + 2 := by omega
  have h3 : q ≠ a + 3 := by omega
  have h4 : q ≠ a + 4 := by omega
  simp [hC, hset, h0, h1, h2, h3, h4]
theorem hC_1 : hC E h a p s (a + 1) = some (arI E 0 3 s.1) := by simp [hC, hset]
theorem hCr_x {q : Nat} (hq : q < a ∨ a + 9 < q) : hCr E h a p od K s ws q = h q := by unfold hCr; rw [hW_x (by omega), hC_x (by omega)]
theorem hCr_s0 {mb sb fi : Int32} {k : Nat} : hset (hCr E h a p od K s ws) a (oCr p (a + 5) (a + 1) (a + 2) mb sb (a + 3) (a + 4) (nI k) fi) = hCr E h a p od K (s.1, s.2.1, mb, sb, s.2.2.2.2.1, s.2.2.2.2.2.1, k, fi) ws := by
  unfold hCr; rw [hW_out (by omega)]; congr 1; funext q; unfold hC hset
  by_cases h0 : q = a <;> simp [h0]
theorem hCr_s1 {f : Nat → Int32} : hset (hCr E h a p od K s ws) (a + 1) (arI E 0 3 f) = hCr E h a p od K (f, s.2) ws := by
  unfold hCr; rw [hW_out (by omega)]; congr 1; funext q; unfold hC hset
  by_cases h0 : q = a + 1 <;> simp [h0]
theorem hCr_s2 {f : Nat → Int32} : hset (hCr E h a p od K s ws) (a + 2) (arI E 0 3 f) = hCr E h a p od K (s.1, f, s.2.2) ws := by
  unfold hCr; rw [hW_out (by omega)]; congr 1; funext q; unfold hC hset
  by_cases h0 : q = a + 2 <;> simp [h0]
theorem hCr_s3 {f : Nat → Int32} : hset (hCr E h a p od K s ws) (a + 3) (arI E 0 54 f) = hCr E h a p od K (s.1, s.2.1, s.2.2.1, s.2.2.2.1, f, s.2.2.2.2.2) ws := by
  unfold hCr; rw [hW_out (by omega)]; congr 1; funext q; unfold hC hset
  by_cases h0 : q = a + 3 <;> simp [h0]
theorem hCr_s4 {f : Nat → Int32} : hset (hCr E h a p od K s ws) (a + 4) (arI E 0 54 f) = hCr E h a p od K (s.1, s.2.1, s.2.2.1, s.2.2.2.1, s.2.2.2.2.1, f, s.2.2.2.2.2.2) ws := by
  unfold hCr; rw [hW_out (by omega)]; congr 1; funext q; unfold hC hset
  by_cases h0 : q = a + 4 <;> simp [h0]
/-- which ways the persons have among these parties, two bits a person -/
def wiS (pts : Int32) (w : Int32) (q : Nat) : Int32 := w ||| (((if pts &&& (truthF q ^^^ (-1)) = 0 then 0 else 1) ||| (if pts &&& truthF q = 0 then 0 else 2)) <<< ((2 * nI q) &&& 31))
def wiF (M : Nat) (pts : Int32) : Int32 := (List.range' 0 M).foldl (wiS pts) 0
/-- the parties that are not crossed out -/
def opS (mb : Int32) (w : Int32) (q : Nat) : Int32 := w &&& ((if ((mb >>> ((2 * nI q) &&& 31)) &&& 3) &&& 1 = 0 then 0 else truthF q ^^^ (-1)) ||| (if ((mb >>> ((2 * nI q) &&& 31)) &&& 3) &&& 2 = 0 then 0 else truthF q))
def opF (M : Nat) (mb : Int32) : Int32 := (List.range' 0 M).foldl (opS mb) (partsF M)
theorem c_Cr_waysIn {x wk my sn sc sk cp N M c : Nat} {mb sb sp fi pts : Int32} (hx : h x = some (oCr p wk my sn mb sb sc sk sp fi)) (hp : h p = some (oPz (nI N) (nI K) (nI M) od cp (nI c))) (hM : M ≤ 3) : Ct E m_Cr_waysIn 1 0 0 [.ref x, .int pts] h n (Rt (some (.int (wiF M pts))) h n) := by
  refine Ct.go rfl rfl rfl ?_
  refine j_iconst (v := 0) d_Cr_waysIn_0 (by decide) ?_
  refine j_istore_n d_Cr_waysIn_1 (by decide) ?_
  refine j_iconst (v := 0) d_Cr_waysIn_2 (by decide) ?_
  refine j_istore_n d_Cr_waysIn_3 (by decide) ?_
  have loop : ∀ (k q : Nat) (w : Int32) (x4 : List (Nat × Value)), q + k = M → (x4 = [] ∨ ∃ u v, x4 = [(4, .int u), (5, .int v)]) → J E m_Cr_waysIn 1 0 0 4 ([(0, .ref x), (1, .int pts), (2, .int w), (3, .int (nI q))] ++ x4) [] h n (Rt (some (.int ((List.range' q k).foldl (wiS pts) w))) h n) := by
    intro k
    induction k with
    | zero =>
      intro q w x4 hq hx4
      have hq : q = M := by omega
      subst hq
      refine j_iload_n d_Cr_waysIn_4 rfl ?_
      refine j_aload_n d_Cr_waysIn_5 rfl ?_
      refine j_get d_Cr_waysIn_6 fl_Cr_24 (by first | assumption | exact hset_s _ _ _ | (rw [hset_n _ _ (by omega)]; first | assumption | exact hset_s _ _ _ | (rw [hset_n _ _ (by omega)]; first | assumption | exact hset_s _ _ _ | (rw [hset_n _ _ (by omega)]; first | assumption | exact hset_s _ _ _ | (rw [hset_n _ _ (by omega)]; first | assumption | exact hset_s _ _ _))))) rfl ?_
      refine j_pV (As := []) d_Cr_waysIn_9 cb_Cr_132 vv_Pz_persons hp rfl rfl rfl rfl (Nat.le_of_ble_eq_true rfl) (by decide) (c_Pz_persons hp rfl) ?_
      refine j_icmp_ge (tgt := 69) d_Cr_waysIn_12 (by decide) (fun c2 => ?_) (fun c2 => absurd (nI_le (Nat.le_refl _) (by omega)) c2)
      refine j_iload_n d_Cr_waysIn_69 rfl ?_
      exact j_iret d_Cr_waysIn_70 rfl ⟨rfl, rfl, rfl⟩
    | succ k ih =>
      intro q w x4 hq hx4
      have hin : vp_in (nI q) 3 := vp_in_nI (by omega) (by omega)
      refine j_iload_n d_Cr_waysIn_4 rfl ?_
      refine j_aload_n d_Cr_waysIn_5 rfl ?_
      refine j_get d_Cr_waysIn_6 fl_Cr_24 (by first | assumption | exact hset_s _ _ _ | (rw [hset_n _ _ (by omega)]; first | assumption | exact hset_s _ _ _ | (rw [hset_n _ _ (by omega)]; first | assumption | exact hset_s _ _ _ | (rw [hset_n _ _ (by omega)]; first | assumption | exact hset_s _ _ _ | (rw [hset_n _ _ (by omega)]; first | assumption | exact hset_s _ _ _))))) rfl ?_
      refine j_pV (As := []) d_Cr_waysIn_9 cb_Cr_132 vv_Pz_persons hp rfl rfl rfl rfl (Nat.le_of_ble_eq_true rfl) (by decide) (c_Pz_persons hp rfl) ?_
      refine j_icmp_ge (tgt := 69) d_Cr_waysIn_12 (by decide) (fun c2 => absurd c2 (nI_ge (by omega) (by omega))) (fun c2 => ?_)
      refine j_iload_n d_Cr_waysIn_15 rfl ?_
      refine j_getsN (C := "ClueLogic") (nm := "TRUTHFUL") (ds := "[I") (host := "ClueLogic") (v := .ref (E.2.2.2.2 0)) d_Cr_waysIn_16 (by simp [stats]) (by decide +kernel) ?_
      refine j_iload_n d_Cr_waysIn_19 rfl ?_
      refine j_stI (f := truthF) d_Cr_waysIn_20 List.mem_cons_self hin rfl ?_
      refine j_iconst (v := (-1)) d_Cr_waysIn_21 (by decide) ?_
      refine j_ixor d_Cr_waysIn_22 ?_
      refine j_iand d_Cr_waysIn_23 ?_
      rw [nI_clamp (by omega)]
      rw [List.range'_succ, List.foldl_cons]
      have k32 : ∀ u, u = (if pts &&& (truthF q ^^^ (-1)) = 0 then 0 else 1) → J E m_Cr_waysIn 1 0 0 32 ([(0, .ref x), (1, .int pts), (2, .int w), (3, .int (nI q))] ++ x4) [.int u] h n (Rt (some (.int ((List.range' (q + 1) k).foldl (wiS pts) (wiS pts w q)))) h n) := by
        intro u hu
        have k49 : ∀ v, v = (if pts &&& truthF q = 0 then 0 else 2) → ∀ x5, (x5 = [(4, .int u)] ∨ ∃ v, x5 = [(4, .int u), (5, .int v)]) → J E m_Cr_waysIn 1 0 0 49 ([(0, .ref x), (1, .int pts), (2, .int w), (3, .int (nI q))] ++ x5) [.int v] h n (Rt (some (.int ((List.range' (q + 1) k).foldl (wiS pts) (wiS pts w q)))) h n) := by
          intro v hv x5 hx5
          rcases hx5 with rfl | ⟨v5, rfl⟩
          all_goals
            refine j_istore d_Cr_waysIn_49 (by decide) ?_
            refine j_iload_n d_Cr_waysIn_51 rfl ?_
            refine j_iload d_Cr_waysIn_52 rfl ?_
            refine j_iload d_Cr_waysIn_54 rfl ?_
            refine j_ior d_Cr_waysIn_56 ?_
            refine j_iconst (v := 2) d_Cr_waysIn_57 (by decide) ?_
            refine j_iload_n d_Cr_waysIn_58 rfl ?_
            refine j_imul d_Cr_waysIn_59 ?_
            refine j_ishl d_Cr_waysIn_60 ?_
            refine j_ior d_Cr_waysIn_61 ?_
            refine j_istore_n d_Cr_waysIn_62 (by decide) ?_
            refine j_iinc (v := nI (q + 1)) d_Cr_waysIn_63 rfl (nI_succ q).symm (by decide) ?_
            refine j_goto (tgt := 4) d_Cr_waysIn_66 (by decide) ?_
            have e1 : wiS pts w q = w ||| ((u ||| v) <<< ((2 * nI q) &&& 31)) := by rw [hu, hv]; rfl
            rw [e1]
            exact ih (q + 1) _ [(4, .int u), (5, .int v)] (by omega) (Or.inr ⟨_, _, rfl⟩)
        rcases hx4 with rfl | ⟨u4, v5, rfl⟩
        · refine j_istore d_Cr_waysIn_32 (by decide) ?_
          refine j_iload_n d_Cr_waysIn_34 rfl ?_
          refine j_getsN (C := "ClueLogic") (nm := "TRUTHFUL") (ds := "[I") (host := "ClueLogic") (v := .ref (E.2.2.2.2 0)) d_Cr_waysIn_35 (by simp [stats]) (by decide +kernel) ?_
          refine j_iload_n d_Cr_waysIn_38 rfl ?_
          refine j_stI (f := truthF) d_Cr_waysIn_39 List.mem_cons_self hin rfl ?_
          refine j_iand d_Cr_waysIn_40 ?_
          rw [nI_clamp (by omega)]
          refine j_if_eq (tgt := 48) d_Cr_waysIn_41 (by decide) (fun c3 => ?_) (fun c3 => ?_)
          · refine j_iconst (v := 0) d_Cr_waysIn_48 (by decide) ?_
            exact k49 0 (by rw [if_pos c3]) _ (Or.inl rfl)
          · refine j_iconst (v := 2) d_Cr_waysIn_44 (by decide) ?_
            refine j_goto (tgt := 49) d_Cr_waysIn_45 (by decide) ?_
            exact k49 2 (by rw [if_neg c3]) _ (Or.inl rfl)
        · refine j_istore d_Cr_waysIn_32 (by decide) ?_
          refine j_iload_n d_Cr_waysIn_34 rfl ?_
          refine j_getsN (C := "ClueLogic") (nm := "TRUTHFUL") (ds := "[I") (host := "ClueLogic") (v := .ref (E.2.2.2.2 0)) d_Cr_waysIn_35 (by simp [stats]) (by decide +kernel) ?_
          refine j_iload_n d_Cr_waysIn_38 rfl ?_
          refine j_stI (f := truthF) d_Cr_waysIn_39 List.mem_cons_self hin rfl ?_
          refine j_iand d_Cr_waysIn_40 ?_
          rw [nI_clamp (by omega)]
          refine j_if_eq (tgt := 48) d_Cr_waysIn_41 (by decide) (fun c3 => ?_) (fun c3 => ?_)
          · refine j_iconst (v := 0) d_Cr_waysIn_48 (by decide) ?_
            exact k49 0 (by rw [if_pos c3]) _ (Or.inr ⟨_, rfl⟩)
          · refine j_iconst (v := 2) d_Cr_waysIn_44 (by decide) ?_
            refine j_goto (tgt := 49) d_Cr_waysIn_45 (by decide) ?_
            exact k49 2 (by rw [if_neg c3]) _ (Or.inr ⟨_, rfl⟩)
      refine j_if_eq (tgt := 31) d_Cr_waysIn_24 (by decide) (fun c3 => ?_) (fun c3 => ?_)
      · refine j_iconst (v := 0) d_Cr_waysIn_31 (by decide) ?_
        exact k32 0 (by rw [if_pos c3])
      · refine j_iconst (v := 1) d_Cr_waysIn_27 (by decide) ?_
        refine j_goto (tgt := 32) d_Cr_waysIn_28 (by decide) ?_
        exact k32 1 (by rw [if_neg c3])
  exact loop M 0 0 [] (by omega) (Or.inl rfl)
theorem c_Cr_openParties {x wk my sn sc sk cp N M c : Nat} {mb sb sp fi : Int32} (hx : h x = some (oCr p wk my sn mb sb sc sk sp fi)) (hp : h p = some (oPz (nI N) (nI K) (nI M) od cp (nI c))) (hM : M ≤ 3) : Ct E m_Cr_openParties 1 0 0 [.ref x] h n (Rt (some (.int (opF M mb))) h n) := by
  refine Ct.go rfl rfl rfl ?_
  refine j_aload_n d_Cr_openParties_0 rfl ?_
  refine j_get d_Cr_openParties_1 fl_Cr_24 (by first | assumption | exact hset_s _ _ _ | (rw [hset_n _ _ (by omega)]; first | assumption | exact hset_s _ _ _ | (rw [hset_n _ _ (by omega)]; first | assumption | exact hset_s _ _ _ | (rw [hset_n _ _ (by omega)]; first | assumption | exact hset_s _ _ _ | (rw [hset_n _ _ (by omega)]; first | assumption | exact hset_s _ _ _))))) rfl ?_
  refine j_pV (As := []) d_Cr_openParties_4 cb_Cr_52 vv_Pz_parties hp rfl rfl rfl rfl (Nat.le_of_ble_eq_true rfl) (by decide) (c_Pz_parties hp (vp_in_nI (by omega) (by omega))) ?_
  rw [nI_clamp (by omega)]
  refine j_istore_n d_Cr_openParties_7 (by decide) ?_
  refine j_iconst (v := 0) d_Cr_openParties_8 (by decide) ?_
  refine j_istore_n d_Cr_openParties_9 (by decide) ?_
  have loop : ∀ (k q : Nat) (w : Int32) (x4 : List (Nat × Value)), q + k = M → (x4 = [] ∨ ∃ t u v, x4 = [(3, .int t), (4, .int u), (5, .int v)]) → J E m_Cr_openParties 1 0 0 10 ([(0, .ref x), (1, .int w), (2, .int (nI q))] ++ x4) [] h n (Rt (some (.int ((List.range' q k).foldl (opS mb) w))) h n) := by
    intro k
    induction k with
    | zero =>
      intro q w x4 hq hx4
      have hq : q = M := by omega
      subst hq
      refine j_iload_n d_Cr_openParties_10 rfl ?_
      refine j_aload_n d_Cr_openParties_11 rfl ?_
      refine j_get d_Cr_openParties_12 fl_Cr_24 (by first | assumption | exact hset_s _ _ _ | (rw [hset_n _ _ (by omega)]; first | assumption | exact hset_s _ _ _ | (rw [hset_n _ _ (by omega)]; first | assumption | exact hset_s _ _ _ | (rw [hset_n _ _ (by omega)]; first | assumption | exact hset_s _ _ _ | (rw [hset_n _ _ (by omega)]; first | assumption | exact hset_s _ _ _))))) rfl ?_
      refine j_pV (As := []) d_Cr_openParties_15 cb_Cr_132 vv_Pz_persons hp rfl rfl rfl rfl (Nat.le_of_ble_eq_true rfl) (by decide) (c_Pz_persons hp rfl) ?_
      refine j_icmp_ge (tgt := 77) d_Cr_openParties_18 (by decide) (fun c2 => ?_) (fun c2 => absurd (nI_le (Nat.le_refl _) (by omega)) c2)
      refine j_iload_n d_Cr_openParties_77 rfl ?_
      exact j_iret d_Cr_openParties_78 rfl ⟨rfl, rfl, rfl⟩
    | succ k ih =>
      intro q w x4 hq hx4
      have hin : vp_in (nI q) 3 := vp_in_nI (by omega) (by omega)
      refine j_iload_n d_Cr_openParties_10 rfl ?_
      refine j_aload_n d_Cr_openParties_11 rfl ?_
      refine j_get d_Cr_openParties_12 fl_Cr_24 (by first | assumption | exact hset_s _ _ _ | (rw [hset_n _ _ (by omega)]; first | assumption | exact hset_s _ _ _ | (rw [hset_n _ _ (by omega)]; first | assumption | exact hset_s _ _ _ | (rw [hset_n _ _ (by omega)]; first | assumption | exact hset_s _ _ _ | (rw [hset_n _ _ (by omega)]; first | assumption | exact hset_s _ _ _))))) rfl ?_
      refine j_pV (As := []) d_Cr_openParties_15 cb_Cr_132 vv_Pz_persons hp rfl rfl rfl rfl (Nat.le_of_ble_eq_true rfl) (by decide) (c_Pz_persons hp rfl) ?_
      refine j_icmp_ge (tgt := 77) d_Cr_openParties_18 (by decide) (fun c2 => absurd c2 (nI_ge (by omega) (by omega))) (fun c2 => ?_)
      refine j_aload_n d_Cr_openParties_21 rfl ?_
      refine j_iload_n d_Cr_openParties_22 rfl ?_
      refine j_pV (As := [.int _]) d_Cr_openParties_23 cb_Cr_135 vv_Cr_waysLeft hx rfl rfl rfl rfl (Nat.le_of_ble_eq_true rfl) (by decide) (c_Cr_waysLeft hx) ?_
      rw [List.range'_succ, List.foldl_cons]
      generalize hg : (mb >>> ((2 * nI q) &&& 31)) &&& 3 = g
      have e0 : opS mb w q = w &&& ((if g &&& 1 = 0 then 0 else truthF q ^^^ (-1)) ||| (if g &&& 2 = 0 then 0 else truthF q)) := by rw [← hg]; rfl
      rw [e0]
      have k61 : ∀ u v, u = (if g &&& 1 = 0 then 0 else truthF q ^^^ (-1)) → v = (if g &&& 2 = 0 then 0 else truthF q) → ∀ x5, (x5 = [] ∨ ∃ v, x5 = [(5, .int v)]) → J E m_Cr_openParties 1 0 0 61 ([(0, .ref x), (1, .int w), (2, .int (nI q)), (3, .int g), (4, .int u)] ++ x5) [.int v] h n (Rt (some (.int ((List.range' (q + 1) k).foldl (opS mb) (w &&& ((if g &&& 1 = 0 then 0 else truthF q ^^^ (-1)) ||| (if g &&& 2 = 0 then 0 else truthF q)))))) h n) := by
        intro u v hu hv x5 hx5
        rw [← hu, ← hv]
        rcases hx5 with rfl | ⟨v5, rfl⟩
        all_goals
          refine j_istore d_Cr_openParties_61 (by decide) ?_
          refine j_iload_n d_Cr_openParties_63 rfl ?_
          refine j_iload d_Cr_openParties_64 rfl ?_
          refine j_iload d_Cr_openParties_66 rfl ?_
          refine j_ior d_Cr_openParties_68 ?_
          refine j_iand d_Cr_openParties_69 ?_
          refine j_istore_n d_Cr_openParties_70 (by decide) ?_
          refine j_iinc (v := nI (q + 1)) d_Cr_openParties_71 rfl (nI_succ q).symm (by decide) ?_
          refine j_goto (tgt := 10) d_Cr_openParties_74 (by decide) ?_
          exact ih (q + 1) _ [(3, .int g), (4, .int u), (5, .int v)] (by omega) (Or.inr ⟨_, _, _, rfl⟩)
      have k44 : ∀ u, u = (if g &&& 1 = 0 then 0 else truthF q ^^^ (-1)) → ∀ x5, (x5 = [(3, .int g)] ∨ ∃ u v, x5 = [(3, .int g), (4, .int u), (5, .int v)]) → J E m_Cr_openParties 1 0 0 44 ([(0, .ref x), (1, .int w), (2, .int (nI q))] ++ x5) [.int u] h n (Rt (some (.int ((List.range' (q + 1) k).foldl (opS mb) (w &&& ((if g &&& 1 = 0 then 0 else truthF q ^^^ (-1)) ||| (if g &&& 2 = 0 then 0 else truthF q)))))) h n) := by
        intro u hu x5 hx5
        rcases hx5 with rfl | ⟨u4, v5, rfl⟩
        · refine j_istore d_Cr_openParties_44 (by decide) ?_
          refine j_iload_n d_Cr_openParties_46 rfl ?_
          refine j_iconst (v := 2) d_Cr_openParties_47 (by decide) ?_
          refine j_iand d_Cr_openParties_48 ?_
          refine j_if_eq (tgt := 60) d_Cr_openParties_49 (by decide) (fun c3 => ?_) (fun c3 => ?_)
          · refine j_iconst (v := 0) d_Cr_openParties_60 (by decide) ?_
            exact k61 u 0 hu (by rw [if_pos c3]) [] (Or.inl rfl)
          · refine j_getsN (C := "ClueLogic") (nm := "TRUTHFUL") (ds := "[I") (host := "ClueLogic") (v := .ref (E.2.2.2.2 0)) d_Cr_openParties_52 (by simp [stats]) (by decide +kernel) ?_
            refine j_iload_n d_Cr_openParties_55 rfl ?_
            refine j_stI (f := truthF) d_Cr_openParties_56 List.mem_cons_self hin rfl ?_
            refine j_goto (tgt := 61) d_Cr_openParties_57 (by decide) ?_
            exact k61 u _ hu (by rw [if_neg c3, nI_clamp (by omega)]) [] (Or.inl rfl)
        · refine j_istore d_Cr_openParties_44 (by decide) ?_
          refine j_iload_n d_Cr_openParties_46 rfl ?_
          refine j_iconst (v := 2) d_Cr_openParties_47 (by decide) ?_
          refine j_iand d_Cr_openParties_48 ?_
          refine j_if_eq (tgt := 60) d_Cr_openParties_49 (by decide) (fun c3 => ?_) (fun c3 => ?_)
          · refine j_iconst (v := 0) d_Cr_openParties_60 (by decide) ?_
            exact k61 u 0 hu (by rw [if_pos c3]) [(5, .int v5)] (Or.inr ⟨_, rfl⟩)
          · refine j_getsN (C := "ClueLogic") (nm := "TRUTHFUL") (ds := "[I") (host := "ClueLogic") (v := .ref (E.2.2.2.2 0)) d_Cr_openParties_52 (by simp [stats]) (by decide +kernel) ?_
            refine j_iload_n d_Cr_openParties_55 rfl ?_
            refine j_stI (f := truthF) d_Cr_openParties_56 List.mem_cons_self hin rfl ?_
            refine j_goto (tgt := 61) d_Cr_openParties_57 (by decide) ?_
            exact k61 u _ hu (by rw [if_neg c3, nI_clamp (by omega)]) [(5, .int v5)] (Or.inr ⟨_, rfl⟩)
      rcases hx4 with rfl | ⟨t, u4, v5, rfl⟩
      · refine j_istore_n d_Cr_openParties_26 (by decide) ?_
        refine j_iload_n d_Cr_openParties_27 rfl ?_
        refine j_iconst (v := 1) d_Cr_openParties_28 (by decide) ?_
        refine j_iand d_Cr_openParties_29 ?_
        refine j_if_eq (tgt := 43) d_Cr_openParties_30 (by decide) (fun c3 => ?_) (fun c3 => ?_)
        · refine j_iconst (v := 0) d_Cr_openParties_43 (by decide) ?_
          exact k44 0 (by rw [if_pos c3]) _ (Or.inl rfl)
        · refine j_getsN (C := "ClueLogic") (nm := "TRUTHFUL") (ds := "[I") (host := "ClueLogic") (v := .ref (E.2.2.2.2 0)) d_Cr_openParties_33 (by simp [stats]) (by decide +kernel) ?_
          refine j_iload_n d_Cr_openParties_36 rfl ?_
          refine j_stI (f := truthF) d_Cr_openParties_37 List.mem_cons_self hin rfl ?_
          refine j_iconst (v := (-1)) d_Cr_openParties_38 (by decide) ?_
          refine j_ixor d_Cr_openParties_39 ?_
          refine j_goto (tgt := 44) d_Cr_openParties_40 (by decide) ?_
          exact k44 _ (by rw [if_neg c3, nI_clamp (by omega)]) _ (Or.inl rfl)
      · refine j_istore_n d_Cr_openParties_26 (by decide) ?_
        refine j_iload_n d_Cr_openParties_27 rfl ?_
        refine j_iconst (v := 1) d_Cr_openParties_28 (by decide) ?_
        refine j_iand d_Cr_openParties_29 ?_
        refine j_if_eq (tgt := 43) d_Cr_openParties_30 (by decide) (fun c3 => ?_) (fun c3 => ?_)
        · refine j_iconst (v := 0) d_Cr_openParties_43 (by decide) ?_
          exact k44 0 (by rw [if_pos c3]) _ (Or.inr ⟨_, _, rfl⟩)
        · refine j_getsN (C := "ClueLogic") (nm := "TRUTHFUL") (ds := "[I") (host := "ClueLogic") (v := .ref (E.2.2.2.2 0)) d_Cr_openParties_33 (by simp [stats]) (by decide +kernel) ?_
          refine j_iload_n d_Cr_openParties_36 rfl ?_
          refine j_stI (f := truthF) d_Cr_openParties_37 List.mem_cons_self hin rfl ?_
          refine j_iconst (v := (-1)) d_Cr_openParties_38 (by decide) ?_
          refine j_ixor d_Cr_openParties_39 ?_
          refine j_goto (tgt := 44) d_Cr_openParties_40 (by decide) ?_
          exact k44 _ (by rw [if_neg c3, nI_clamp (by omega)]) _ (Or.inr ⟨_, _, rfl⟩)
  exact loop M 0 (partsF M) [] (by omega) (Or.inl rfl)
end CRO

section PUZ
variable {E : EV} {h : HP} {n r tx ln k nn m : Nat} {txf : Nat → Nat}
theorem CR.cell {D y : Nat} {φ : PhiT} (hc : CR D h y φ) : ∃ (ci : Nat) (vs : List Value) (q : vw_C), h y = some (.inr (ci, vs)) ∧ clN ci ∧ classes[ci]? = some q ∧ (q.1, "ClueLogic$Clue") ∈ castW := by
  cases D with
  | zero => exact absurd hc (by simp [CR])
  | succ D =>
    rcases hc with ⟨sg, v, w, h1, -⟩ | ⟨p, h1, -⟩ | ⟨t, p, ψ, h1, -⟩ | ⟨b, p, q, ψ, χ, h1, -⟩
    · exact ⟨5, _, _, h1, by simp [clN], rfl, by decide +kernel⟩
    · exact ⟨4, _, _, h1, by simp [clN], rfl, by decide +kernel⟩
    · exact ⟨9, _, _, h1, by simp [clN], rfl, by decide +kernel⟩
    · exact ⟨3, _, _, h1, by simp [clN], rfl, by decide +kernel⟩
/-- a puzzle at p: its row of clues, its orders -/
def PzA (E : EV) (h : HP) (p nn k m c : Nat) (φ : Nat → PhiT) : Prop := h p = some (oPz (nI nn) (nI k) (nI m) (p + 2) (p + 1) (nI c)) ∧ h (p + 2) = some (oOd (nI nn) (p + 2 + 1) (p + 2 + 2) (nI (ord nn).1) (ord nn).2.2.2) ∧ h (p + 2 + 1) = some (arI E 0 24 (ord nn).2.1) ∧ h (p + 2 + 2) = some (arI E 0 96 (ord nn).2.2.1) ∧ ∃ f, h (p + 1) = some (arQ E 3 20 f) ∧ ∀ i, i < c → ∃ y, f i = some y ∧ CR 31 h y (φ i)
/-- the clues from place pl on, c of them read: whether all is right, how many, the place -/
noncomputable def pzL (txf : Nat → Nat) (ln : Nat) (K N M : Int32) : Nat → Nat → Nat → (Nat → PhiT) → Bool × Nat × Nat × (Nat → PhiT)
  | 0, c, pl, φ => (true, c, pl, φ)
  | f + 1, c, pl, φ => if ¬ pl < ln then (true, c, pl, φ) else match (pcl txf ln K N M 31 pl 0).1 with
    | none => (false, c, (pcl txf ln K N M 31 pl 0).2.1, φ)
    | some ψ => if c = 20 then (false, c, (pcl txf ln K N M 31 pl 0).2.1, φ) else if (semF txf ln (pcl txf ln K N M 31 pl 0).2.1).1 = 0 then (false, c, (semF txf ln (pcl txf ln K N M 31 pl 0).2.1).2, φ) else pzL txf ln K N M f (c + 1) (semF txf ln (pcl txf ln K N M 31 pl 0).2.1).2 (fun i => if i = c then ψ else φ i)
theorem semF_ln {pl : Nat} (h : pl ≤ ln) : (semF txf ln pl).2 ≤ ln := takeF_ln h
theorem semF_le {pl : Nat} : pl ≤ (semF txf ln pl).2 := takeF_le
theorem PzA.ck {h2 : HP} {p nn k m c : Nat} {φ : Nat → PhiT} (A : PzA E h p nn k m c φ) (hk : CK h h2) (hs : ∀ q, p ≤ q → q ≤ p + 4 → h2 q = h q) : PzA E h2 p nn k m c φ := by
  obtain ⟨a1, a2, a3, a4, f, a5, a6⟩ := A
  refine ⟨by rw [hs _ (by omega) (by omega)]; exact a1, by rw [hs _ (by omega) (by omega)]; exact a2, by rw [hs _ (by omega) (by omega)]; exact a3, by rw [hs _ (by omega) (by omega)]; exact a4, f, by rw [hs _ (by omega) (by omega)]; exact a5, fun i hi => ?_⟩
  obtain ⟨y, h1, h2⟩ := a6 i hi
  exact ⟨y, h1, h2.kept hk⟩
/-- what reading the clues leaves -/
def PQ (E : EV) (h : HP) (n r tx ln nn k m : Nat) (x : Bool × Nat × Nat × (Nat → PhiT)) : Option Value → HP → Nat → Prop := fun v H' n' => ∃ h2 sg, H' = hR h2 r tx ln x.2.2.1 (nI k) (nI nn) (nI m) sg ∧ Ext h h2 n n' ∧ ((x.1 = false ∧ v = some .null) ∨ (x.1 = true ∧ v = some (.ref n) ∧ n + 5 ≤ n' ∧ x.2.1 ≤ 20 ∧ PzA E h2 n nn k m x.2.1 x.2.2.2))
set_option maxHeartbeats 4000000 in
theorem l_Rd_puzzle (hk : k ≤ 3) (hnn : nn ≤ 4) (hm : m ≤ 3) (hrn : r < n) (htn : tx < n) (hb : E.2.2.2.1 ≤ n) (hrr : ∀ ci fs, clN ci → h r ≠ some (.inr (ci, fs))) : ∀ (f c pl sg : Nat) (φ : Nat → PhiT) (g : HP) (ni cl sl : Nat) (L3 : List (Nat × Value)), f + c = 21 → c ≤ 20 → pl ≤ ln → RF E g r tx ln txf → Ext h g n ni → n + 5 ≤ ni → PzA E g n nn k m c φ → ln - pl ≤ cl → 3 * (ln - pl) ≤ sl → (L3 = [] ∨ ∃ y, L3 = [(3, .ref y)]) →
    J E m_Rd_puzzle 98 cl sl 31 ([(0, .ref r), (1, .ref n), (2, .int (nI c))] ++ L3) [] (hR g r tx ln pl (nI k) (nI nn) (nI m) sg) ni (PQ E h n r tx ln nn k m (pzL txf ln (nI k) (nI nn) (nI m) f c pl φ)) := by
  intro f
  induction f with
  | zero =>
    intro c pl sg φ g ni cl sl L3 hc hc20 hpl F hE hni A hcl hsl hL3
    omega
  | succ f ih =>
    intro c pl sg φ g ni cl sl L3 hc hc20 hpl F hE hni A hcl hsl hL3
    have hr := hR_r (h := g) (r := r) (tx := tx) (ln := ln) (pl := pl) (K := nI k) (N := nI nn) (M := nI m) (sg := sg)
    have hbr : E.2.2.2.1 ≤ r := F.2.2.2.1
    have hln : ln ≤ 300 := F.2.2.1
    refine j_iload_n d_Rd_puzzle_31 rfl ?_
    refine j_bipush (v := 20) d_Rd_puzzle_32 (by decide) ?_
    refine j_icmp_gt (tgt := 88) d_Rd_puzzle_34 (by decide) (fun c1 => absurd c1 (nI_nlt (a := 20) (b := c) (by omega) (by omega))) (fun c1 => ?_)
    refine j_aload_n d_Rd_puzzle_37 rfl ?_
    refine j_get d_Rd_puzzle_38 fl_Rd_19 (by first | assumption | exact hset_s _ _ _ | (rw [hset_n _ _ (by omega)]; first | assumption | exact hset_s _ _ _ | (rw [hset_n _ _ (by omega)]; first | assumption | exact hset_s _ _ _ | (rw [hset_n _ _ (by omega)]; first | assumption | exact hset_s _ _ _ | (rw [hset_n _ _ (by omega)]; first | assumption | exact hset_s _ _ _))))) rfl ?_
    refine j_aload_n d_Rd_puzzle_41 rfl ?_
    refine j_get d_Rd_puzzle_42 fl_Rd_15 (by first | assumption | exact hset_s _ _ _ | (rw [hset_n _ _ (by omega)]; first | assumption | exact hset_s _ _ _ | (rw [hset_n _ _ (by omega)]; first | assumption | exact hset_s _ _ _ | (rw [hset_n _ _ (by omega)]; first | assumption | exact hset_s _ _ _ | (rw [hset_n _ _ (by omega)]; first | assumption | exact hset_s _ _ _))))) rfl ?_
    refine j_icmp_ge (tgt := 88) d_Rd_puzzle_45 (by decide) (fun c2 => ?_) (fun c2 => ?_)
    · have hge : ¬ pl < ln := fun q => absurd c2 (nI_ge q (by omega))
      rw [show pzL txf ln (nI k) (nI nn) (nI m) (f + 1) c pl φ = (true, c, pl, φ) by rw [pzL, if_pos hge]]
      refine j_aload_n d_Rd_puzzle_88 rfl ?_
      exact j_aret d_Rd_puzzle_89 rfl (Or.inl ⟨_, rfl⟩) rfl ⟨g, sg, rfl, hE, Or.inr ⟨rfl, rfl, hni, by show c ≤ 20; omega, A⟩⟩
    · have hlt : pl < ln := Nat.not_le.mp (fun q => c2 (nI_le q (by omega)))
      refine j_aload_n d_Rd_puzzle_48 rfl ?_
      refine j_iconst (v := 0) d_Rd_puzzle_49 (by decide) ?_
      refine j_put d_Rd_puzzle_50 fl_Rd_40 fp_Rd (Or.inl rfl) hr hbr rfl rfl (Nat.le_of_ble_eq_true rfl) ?_
      refine J.conv (L := _) rfl (show _ = hR g r tx ln pl (nI k) (nI nn) (nI m) 0 from hR_s (sg' := 0)) ?_
      have hr0 := hR_r (h := g) (r := r) (tx := tx) (ln := ln) (pl := pl) (K := nI k) (N := nI nn) (M := nI m) (sg := 0)
      have hdm := hE.2.1
      have hnn' := hE.2.2
      have p1 := pcl_le (txf := txf) (ln := ln) (K := nI k) (N := nI nn) (M := nI m) 31 pl 0
      have l1 := pcl_ln (txf := txf) (ln := ln) (k := k) (nn := nn) (m := m) 31 pl 0 hpl
      have hct := c_Rd_clue (E := E) (r := r) (tx := tx) (ln := ln) (txf := txf) hk hnn hm 31 g ni pl 0 ⟨F, hdm, by omega, by omega⟩ hpl (by omega) (by omega)
      have ez : pzL txf ln (nI k) (nI nn) (nI m) (f + 1) c pl φ = match (pcl txf ln (nI k) (nI nn) (nI m) 31 pl 0).1 with
        | none => (false, c, (pcl txf ln (nI k) (nI nn) (nI m) 31 pl 0).2.1, φ)
        | some ψ => if c = 20 then (false, c, (pcl txf ln (nI k) (nI nn) (nI m) 31 pl 0).2.1, φ) else if (semF txf ln (pcl txf ln (nI k) (nI nn) (nI m) 31 pl 0).2.1).1 = 0 then (false, c, (semF txf ln (pcl txf ln (nI k) (nI nn) (nI m) 31 pl 0).2.1).2, φ) else pzL txf ln (nI k) (nI nn) (nI m) f (c + 1) (semF txf ln (pcl txf ln (nI k) (nI nn) (nI m) 31 pl 0).2.1).2 (fun i => if i = c then ψ else φ i) := by rw [pzL, if_neg (fun q => q hlt)]
      rw [ez]
      generalize pcl txf ln (nI k) (nI nn) (nI m) 31 pl 0 = cr at p1 l1 hct ⊢
      obtain ⟨o1, pl1, sg1⟩ := cr
      dsimp only at p1 l1 hct ⊢
      refine j_aload_n d_Rd_puzzle_53 rfl ?_
      refine j_callV (As := []) d_Rd_puzzle_54 cb_Rd_43 vv_Rd_clue hr0 rfl rfl rfl rfl (Nat.le_of_ble_eq_true rfl) (show 3 * 31 + 4 + 1 ≤ 98 by decide) (by omega) (by omega) hct (fun v' h' n' q _ => ?_)
      obtain ⟨h2, rfl, hE2, hq⟩ := q
      dsimp only at hq ⊢
      have hdm2 := hE2.2.1
      have hn2 := hE2.2.2
      have F2 : RF E h2 r tx ln txf := (RG.ext ⟨F, hdm, by omega, by omega⟩ hE2).1
      have A2 : PzA E h2 n nn k m c φ := A.ck (hE2.ck hdm) (fun q h1 h3 => hE2.1 q (by omega))
      have nullEnd : ∀ (pl2 sg2 cl sl : Nat) (L : List (Nat × Value)), J E m_Rd_puzzle 98 cl sl 75 L [] (hR h2 r tx ln pl2 (nI k) (nI nn) (nI m) sg2) n' (PQ E h n r tx ln nn k m (false, c, pl2, φ)) := by
        intro pl2 sg2 cl sl L
        refine j_null d_Rd_puzzle_75 ?_
        exact j_aret d_Rd_puzzle_76 rfl (Or.inl ⟨_, rfl⟩) rfl ⟨h2, sg2, rfl, hE.trans hE2, Or.inl ⟨rfl, rfl⟩⟩
      rcases hq with ⟨hc1, rfl⟩ | ⟨ψ, y, hc1, rfl, hcr⟩
      · subst hc1
        rcases hL3 with rfl | ⟨y3, rfl⟩
        all_goals
          refine j_astore_nN d_Rd_puzzle_57 (by decide) ?_
          refine j_aload_nN d_Rd_puzzle_58 rfl ?_
          refine j_ifnullN (tgt := 75) d_Rd_puzzle_59 (by decide) ?_
          exact nullEnd pl1 sg1 _ _ _
      · subst hc1
        have hr2 := hR_r (h := h2) (r := r) (tx := tx) (ln := ln) (pl := pl1) (K := nI k) (N := nI nn) (M := nI m) (sg := sg1)
        have k58 : J E m_Rd_puzzle 98 (cl - (pl1 - pl)) (sl - 3 * (pl1 - pl)) 58 [(0, .ref r), (1, .ref n), (2, .int (nI c)), (3, .ref y)] [] (hR h2 r tx ln pl1 (nI k) (nI nn) (nI m) sg1) n' (PQ E h n r tx ln nn k m (if c = 20 then (false, c, pl1, φ) else if (semF txf ln pl1).1 = 0 then (false, c, (semF txf ln pl1).2, φ) else pzL txf ln (nI k) (nI nn) (nI m) f (c + 1) (semF txf ln pl1).2 (fun i => if i = c then ψ else φ i))) := by
          refine j_aload_n d_Rd_puzzle_58 rfl ?_
          refine j_ifnull d_Rd_puzzle_59 ?_
          refine j_iload_n d_Rd_puzzle_62 rfl ?_
          refine j_bipush (v := 20) d_Rd_puzzle_63 (by decide) ?_
          refine j_icmp_eq (tgt := 75) d_Rd_puzzle_65 (by decide) (fun c3 => ?_) (fun c3 => ?_)
          · have h20 : c = 20 := (nI_eq (a := c) (b := 20) (by omega) (by omega)).mp c3
            rw [if_pos h20]
            exact nullEnd pl1 sg1 _ _ _
          · have h20 : ¬ c = 20 := fun q => c3 (by rw [q]; rfl)
            rw [if_neg h20]
            refine j_aload_n d_Rd_puzzle_68 rfl ?_
            refine j_callV (As := []) d_Rd_puzzle_69 cb_Rd_47 vv_Rd_passSemicolon hr2 rfl rfl rfl rfl (Nat.le_of_ble_eq_true rfl) (d' := 1) (by decide) (Nat.zero_le _) (Nat.zero_le _) (c_Rd_passSemicolon F2 l1) (fun v' h' n3 q _ => ?_)
            obtain ⟨rfl, rfl, q3⟩ := q; have q3 := q3.symm; subst q3
            have s1 := semF_le (txf := txf) (ln := ln) (pl := pl1)
            have s2 := semF_ln (txf := txf) (ln := ln) (pl := pl1) l1
            generalize hsem : semF txf ln pl1 = sem at s1 s2 ⊢
            obtain ⟨sv, spl⟩ := sem
            dsimp only at s1 s2 ⊢
            have k72 : ∀ (cl' sl' : Nat), ln - spl ≤ cl' → 3 * (ln - spl) ≤ sl' → J E m_Rd_puzzle 98 cl' sl' 72 [(0, .ref r), (1, .ref n), (2, .int (nI c)), (3, .ref y)] [.int sv] (hR h2 r tx ln spl (nI k) (nI nn) (nI m) sg1) n' (PQ E h n r tx ln nn k m (if sv = 0 then (false, c, spl, φ) else pzL txf ln (nI k) (nI nn) (nI m) f (c + 1) spl (fun i => if i = c then ψ else φ i))) := by
              intro cl' sl' hcl' hsl'
              refine j_if_ne (tgt := 77) d_Rd_puzzle_72 (by decide) (fun c4 => ?_) (fun c4 => ?_)
              · rw [if_neg c4]
                obtain ⟨ci, vs, cq, hy, hci, hcq, hca⟩ := hcr.cell
                obtain ⟨a1, a2, a3, a4, fq, a5, a6⟩ := A2
                have hyn : y ≠ n := fun q => by rw [q, a1] at hy; cases hy; simp [clN] at hci
                have hyn1 : y ≠ n + 1 := fun q => by rw [q, a5] at hy; cases hy
                have hyr : y ≠ r := fun q => by
                  rw [q, (hE.trans hE2).1 r hrn] at hy
                  exact hrr ci vs hci hy
                have w1 : hR h2 r tx ln spl (nI k) (nI nn) (nI m) sg1 n = some (oPz (nI nn) (nI k) (nI m) (n + 2) (n + 1) (nI c)) := (hR_x (by omega)).trans a1
                have w2 : hR h2 r tx ln spl (nI k) (nI nn) (nI m) sg1 (n + 1) = some (arQ E 3 20 fq) := (hR_x (by omega)).trans a5
                have w3 : hR h2 r tx ln spl (nI k) (nI nn) (nI m) sg1 y = some (.inr (ci, vs)) := (hR_x hyr).trans hy
                refine j_aload_n d_Rd_puzzle_77 rfl ?_
                refine j_aload_n d_Rd_puzzle_78 rfl ?_
                refine j_callV (As := [.ref y]) d_Rd_puzzle_79 cb_Rd_50 vv_Pz_add w1 rfl rfl rfl rfl (Nat.le_of_ble_eq_true rfl) (d' := 0) (by decide) (Nat.zero_le _) (Nat.zero_le _) (c_Pz_add hb (by omega) w1 w2 (by omega) (by omega) w3 hcq hca) (fun v' h' n3 q _ => ?_)
                obtain ⟨rfl, rfl, q3⟩ := q; have q3 := q3.symm; subst q3
                refine j_iinc (v := nI (c + 1)) d_Rd_puzzle_82 rfl (nI_succ c).symm (by decide) ?_
                refine j_goto (tgt := 31) d_Rd_puzzle_85 (by decide) ?_
                have ck1 : CK h2 (hset h2 (n + 1) (arQ E 3 20 (va_up fq c (some y)))) := CK.set (fun ci fs _ => by rw [a5]; exact fun z => by cases z)
                have ck2 : CK (hset h2 (n + 1) (arQ E 3 20 (va_up fq c (some y)))) (hset (hset h2 (n + 1) (arQ E 3 20 (va_up fq c (some y)))) n (oPz (nI nn) (nI k) (nI m) (n + 2) (n + 1) (nI (c + 1)))) := CK.set (fun ci fs hcl => by
                  rw [hset_n _ _ (by omega), a1]
                  intro z
                  cases z
                  simp [clN] at hcl)
                have ck := ck1.trans ck2
                refine J.conv (L := _) rfl (show _ = hR (hset (hset h2 (n + 1) (arQ E 3 20 (va_up fq c (some y)))) n (oPz (nI nn) (nI k) (nI m) (n + 2) (n + 1) (nI (c + 1)))) r tx ln spl (nI k) (nI nn) (nI m) sg1 from ?_) (ih (c + 1) spl sg1 (fun i => if i = c then ψ else φ i) _ n' cl' sl' [(3, .ref y)] (by omega) (by omega) s2 ?_ ?_ (by omega) ?_ hcl' hsl' (Or.inr ⟨_, rfl⟩))
                · unfold hR
                  rw [hset_comm _ _ _ (show r ≠ n + 1 by omega), hset_comm _ _ _ (show r ≠ n by omega)]
                · obtain ⟨f1, f2, f3, f4, f5⟩ := F2
                  exact ⟨by rw [hset_n _ _ (by omega), hset_n _ _ (by omega)]; exact f1, f2, f3, f4, f5⟩
                · have hEE := hE.trans hE2
                  refine ⟨fun q hq => by rw [hset_n _ _ (by omega), hset_n _ _ (by omega)]; exact hEE.1 q hq, fun q e hq => ?_, hEE.2.2⟩
                  by_cases q1 : q = n
                  · omega
                  · by_cases q2 : q = n + 1
                    · omega
                    · rw [hset_n _ _ q1, hset_n _ _ q2] at hq
                      exact hdm2 q e hq
                · refine ⟨hset_s _ _ _, by rw [hset_n _ _ (by omega), hset_n _ _ (by omega)]; exact a2, by rw [hset_n _ _ (by omega), hset_n _ _ (by omega)]; exact a3, by rw [hset_n _ _ (by omega), hset_n _ _ (by omega)]; exact a4, va_up fq c (some y), by rw [hset_n _ _ (by omega), hset_s], fun i hi => ?_⟩
                  by_cases hic : i = c
                  · refine ⟨y, by rw [hic]; simp [va_up], ?_⟩
                    dsimp only
                    rw [if_pos hic]
                    exact hcr.kept ck
                  · obtain ⟨yi, h1, h3⟩ := a6 i (by omega)
                    refine ⟨yi, by simp [va_up, hic]; exact h1, ?_⟩
                    dsimp only
                    rw [if_neg hic]
                    exact h3.kept ck
              · rw [if_pos c4]
                exact nullEnd spl sg1 _ _ _
            exact k72 _ _ (by omega) (by omega)
        rcases hL3 with rfl | ⟨y3, rfl⟩
        all_goals
          refine j_astore_n d_Rd_puzzle_57 (by decide) ?_
          exact k58
/-- what reading the whole text gives: right or not, clues, the place of the end, the clues; N, K, M stand in hdF -/
theorem hZ_A {p nn k m : Nat} {φ : Nat → PhiT} : PzA E (hZ E h p nn k m) p nn k m 0 φ := by
  refine ⟨by simp [hZ, hset], by simp [hZ, hset, hO], by simp [hZ, hset, hO]; omega, by simp [hZ, hset, hO]; omega, fun _ => none, by simp [hZ, hset], fun i hi => absurd hi (Nat.not_lt_zero _)⟩
theorem hZ_x {p q nn k m : Nat} (hq : q < p ∨ p + 4 < q) : hZ E h p nn k m q = h q := by
  unfold hZ
  rw [hset_n _ _ (by omega), hset_n _ _ (by omega), hO_x (by omega) (by omega) (by omega)]
theorem hZ_E {p nn k m : Nat} (hd : Dm h p) : Ext h (hZ E h p nn k m) p (p + 5) := by
  refine ⟨fun q hq => hZ_x (Or.inl hq), fun q e hq => ?_, by omega⟩
  by_cases hr : q < p + 5
  · exact hr
  · rw [hZ_x (by omega)] at hq
    have := hd q e hq
    omega
theorem takeF_lh {low high : Int32} {l u p : Nat} (hl : low = nI l) (hu : high = nI u) (h31 : u < 2 ^ 31) (hlu : l ≤ u) (h : ¬ (takeF txf ln 48 low high p).1 = -1) : ∃ j, l ≤ j ∧ j ≤ u ∧ (takeF txf ln 48 low high p).1 = nI j := by
  subst hl; subst hu
  unfold takeF at h ⊢
  split at h
  · exact absurd rfl h
  · rename_i h1
    split at h
    · exact absurd rfl h
    · rename_i h2
      rw [if_neg h1, if_neg h2]
      have a1 : nI l ≤ nI (txf p) - 48 := Int32.not_lt.mp (fun q => h2 (Or.inl q))
      have a2 : nI (txf p) - 48 ≤ nI u := Int32.not_lt.mp (fun q => h2 (Or.inr q))
      show ∃ j, l ≤ j ∧ j ≤ u ∧ nI (txf p) - 48 = nI j
      generalize nI (txf p) - 48 = x at a1 a2
      have a3 : ¬ x < 0 := fun q => absurd (Int32.lt_of_le_of_lt a1 q) (nI_pos (by omega))
      obtain ⟨j, h5, h6⟩ := nI_of2 (n := u) (nI_toInt h31) a3 a2
      subst h6
      exact ⟨j, (nI_leI (by omega) (by omega)).mp a1, h5, rfl⟩
/-- a head that is right -/
def HdO (ln : Nat) (x : Int32 × Int32 × Int32 × Int32 × Nat) : Prop := ∃ nn k m : Nat, 1 ≤ nn ∧ nn ≤ 4 ∧ k ≤ 3 ∧ m ≤ 3 ∧ x.2.1 = nI nn ∧ x.2.2.1 = nI k ∧ x.2.2.2.1 = nI m ∧ x.2.2.2.2 ≤ ln
theorem hd3_ok {a b c : Int32 × Nat} (ha : ∃ j, 1 ≤ j ∧ j ≤ 4 ∧ a.1 = nI j) (hb : ∃ j, 0 ≤ j ∧ j ≤ 3 ∧ b.1 = nI j) (hc : ¬ c.1 = -1 → ∃ j, 0 ≤ j ∧ j ≤ 3 ∧ c.1 = nI j) (hl : c.2 ≤ ln) (h1 : ¬ (hd3 txf ln a b c).1 = 0) : HdO ln (hd3 txf ln a b c) := by
  by_cases q : c.1 = -1
  · rw [show hd3 txf ln a b c = (0, a.1, b.1, c.1, c.2) from if_pos q] at h1
    exact absurd rfl h1
  · rw [show hd3 txf ln a b c = hd4 a b c (semF txf ln c.2) from if_neg q]
    obtain ⟨x, x1, x2, x3⟩ := ha
    obtain ⟨y, y1, y2, y3⟩ := hb
    obtain ⟨z, z1, z2, z3⟩ := hc q
    exact ⟨x, y, z, x1, x2, y2, z2, x3, y3, z3, semF_ln hl⟩
theorem hd2_ok {a b : Int32 × Nat} (ha : ∃ j, 1 ≤ j ∧ j ≤ 4 ∧ a.1 = nI j) (hb : ¬ b.1 = -1 → ∃ j, 0 ≤ j ∧ j ≤ 3 ∧ b.1 = nI j) (hl : b.2 ≤ ln) (h1 : ¬ (hd2 txf ln a b).1 = 0) : HdO ln (hd2 txf ln a b) := by
  by_cases q : b.1 = -1
  · rw [show hd2 txf ln a b = (0, a.1, b.1, 0, b.2) from if_pos q] at h1
    exact absurd rfl h1
  · rw [show hd2 txf ln a b = hd3 txf ln a b (takeF txf ln 48 0 3 b.2) from if_neg q] at h1 ⊢
    exact hd3_ok ha (hb q) (takeF_lh (l := 0) (u := 3) rfl rfl (by omega) (by omega)) (takeF_ln hl) h1
theorem hd1_ok {a : Int32 × Nat} (ha : ¬ a.1 = -1 → ∃ j, 1 ≤ j ∧ j ≤ 4 ∧ a.1 = nI j) (hl : a.2 ≤ ln) (h1 : ¬ (hd1 txf ln a).1 = 0) : HdO ln (hd1 txf ln a) := by
  by_cases q : a.1 = -1
  · rw [show hd1 txf ln a = (0, a.1, 0, 0, a.2) from if_pos q] at h1
    exact absurd rfl h1
  · rw [show hd1 txf ln a = hd2 txf ln a (takeF txf ln 48 0 3 a.2) from if_neg q] at h1 ⊢
    exact hd2_ok (ha q) (takeF_lh (l := 0) (u := 3) rfl rfl (by omega) (by omega)) (takeF_ln hl) h1
theorem hdF_ok (h1 : ¬ (hdF txf ln).1 = 0) : HdO ln (hdF txf ln) := hd1_ok (takeF_lh (l := 1) (u := 4) rfl rfl (by omega) (by omega)) (takeF_ln (Nat.zero_le _)) h1
end PUZ

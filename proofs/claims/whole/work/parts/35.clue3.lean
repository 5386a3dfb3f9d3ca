section CL3
variable {E : EV} {h : HP} {n r tx ln pl sg k nn m : Nat} {txf : Nat → Nat}
theorem i2c_nI {b : Nat} (hb : b < 65536) : ((nI b).toUInt32 % 65536).toInt32 = nI b := by
  rw [pk_char, pk_tn (by omega), Nat.mod_eq_of_lt hb]
theorem RQ.mono {h : HP} {K N M : Int32} {D D2 : Nat} {c : PcR} {v : Option Value} {H' : HP} {n' : Nat} (hD : D ≤ D2) (q : RQ h n r tx ln K N M D c v H' n') : RQ h n r tx ln K N M D2 c v H' n' := by
  obtain ⟨h2, e, hE, hq⟩ := q
  refine ⟨h2, e, hE, ?_⟩
  rcases hq with hq | ⟨φ, y, h1, h3, h4⟩
  · exact Or.inl hq
  · exact Or.inr ⟨φ, y, h1, h3, h4.mono hD⟩
theorem RQ.rf {h : HP} {K N M : Int32} {D : Nat} {c : PcR} {v : Option Value} {H' : HP} {n' : Nat} (q : RQ h n r tx ln K N M D c v H' n') : ∃ x, v = some x ∧ isRf x = true := by
  obtain ⟨h2, e, hE, hq⟩ := q
  rcases hq with ⟨-, h⟩ | ⟨φ, y, h1, h3, h4⟩
  · exact ⟨_, h, rfl⟩
  · exact ⟨_, h3, rfl⟩
set_option maxHeartbeats 4000000 in
theorem c_Rd_clue (hk : k ≤ 3) (hnn : nn ≤ 4) (hm : m ≤ 3) : ∀ f, CLc E r tx ln txf k nn m f := by
  intro f
  induction f with
  | zero => intro h n pl sg G hpl hsg hf; omega
  | succ f IH =>
    intro h n pl sg G hpl hsg hf
    have G0 := G
    obtain ⟨⟨g1, g2, g3, g4, g5⟩, hdm, hrn, htn⟩ := G
    have hF : RF E h r tx ln txf := ⟨g1, g2, g3, g4, g5⟩
    refine Ct.go rfl rfl rfl ?_
    have hr := hR_r (h := h) (r := r) (tx := tx) (ln := ln) (pl := pl) (K := nI k) (N := nI nn) (M := nI m) (sg := sg)
    have ht : hR h r tx ln pl (nI k) (nI nn) (nI m) sg tx = some (arI E 0 300 (nA txf)) := (hR_x g2).trans g1
    have bad : ∀ (cl sl : Nat), (¬ pl < ln ∨ ¬ sg < 30 ∨ isSg (txf pl) = false) → J E m_Rd_clue (3 * (f + 1) + 4) cl sl 38 (lv_args 0 [.ref r]) [] (hR h r tx ln pl (nI k) (nI nn) (nI m) sg) n (RQ h n r tx ln (nI k) (nI nn) (nI m) (f + 1) (pcl txf ln (nI k) (nI nn) (nI m) (f + 1) pl sg)) := by
      intro cl sl hbad
      rw [show pcl txf ln (nI k) (nI nn) (nI m) (f + 1) pl sg = (none, pl, sg) from if_pos hbad]
      refine j_null d_Rd_clue_38 ?_
      exact j_aret d_Rd_clue_39 rfl (Or.inl ⟨_, rfl⟩) rfl ⟨h, rfl, Ext.rf hdm, Or.inl ⟨rfl, rfl⟩⟩
    refine j_aload_n d_Rd_clue_0 rfl ?_
    refine j_get d_Rd_clue_1 fl_Rd_19 (by first | assumption | exact hset_s _ _ _ | (rw [hset_n _ _ (by omega)]; first | assumption | exact hset_s _ _ _ | (rw [hset_n _ _ (by omega)]; first | assumption | exact hset_s _ _ _ | (rw [hset_n _ _ (by omega)]; first | assumption | exact hset_s _ _ _ | (rw [hset_n _ _ (by omega)]; first | assumption | exact hset_s _ _ _))))) rfl ?_
    refine j_aload_n d_Rd_clue_4 rfl ?_
    refine j_get d_Rd_clue_5 fl_Rd_15 (by first | assumption | exact hset_s _ _ _ | (rw [hset_n _ _ (by omega)]; first | assumption | exact hset_s _ _ _ | (rw [hset_n _ _ (by omega)]; first | assumption | exact hset_s _ _ _ | (rw [hset_n _ _ (by omega)]; first | assumption | exact hset_s _ _ _ | (rw [hset_n _ _ (by omega)]; first | assumption | exact hset_s _ _ _))))) rfl ?_
    refine j_icmp_ge (tgt := 38) d_Rd_clue_8 (by decide) (fun c => ?_) (fun c => ?_)
    · exact bad _ _ (Or.inl (fun q => absurd c (nI_ge q (by omega))))
    have hlt : pl < ln := Nat.not_le.mp (fun q => c (nI_le q (by omega)))
    refine j_aload_n d_Rd_clue_11 rfl ?_
    refine j_get d_Rd_clue_12 fl_Rd_40 (by first | assumption | exact hset_s _ _ _ | (rw [hset_n _ _ (by omega)]; first | assumption | exact hset_s _ _ _ | (rw [hset_n _ _ (by omega)]; first | assumption | exact hset_s _ _ _ | (rw [hset_n _ _ (by omega)]; first | assumption | exact hset_s _ _ _ | (rw [hset_n _ _ (by omega)]; first | assumption | exact hset_s _ _ _))))) rfl ?_
    refine j_bipush (v := 30) d_Rd_clue_15 (by decide) ?_
    refine j_icmp_ge (tgt := 38) d_Rd_clue_17 (by decide) (fun c2 => ?_) (fun c2 => ?_)
    · exact bad _ _ (Or.inr (Or.inl (fun q => absurd c2 (nI_ge (a := sg) (b := 30) q (by omega)))))
    have hs30 : sg < 30 := Nat.not_le.mp (fun q => c2 (nI_le (a := 30) (b := sg) q (by omega)))
    have hb256 := g5 pl
    refine j_ldcS d_Rd_clue_20 rfl ?_
    refine j_aload_n d_Rd_clue_22 rfl ?_
    refine j_get d_Rd_clue_23 fl_Rd_9 (by first | assumption | exact hset_s _ _ _ | (rw [hset_n _ _ (by omega)]; first | assumption | exact hset_s _ _ _ | (rw [hset_n _ _ (by omega)]; first | assumption | exact hset_s _ _ _ | (rw [hset_n _ _ (by omega)]; first | assumption | exact hset_s _ _ _ | (rw [hset_n _ _ (by omega)]; first | assumption | exact hset_s _ _ _))))) rfl ?_
    refine j_aload_n d_Rd_clue_26 rfl ?_
    refine j_get d_Rd_clue_27 fl_Rd_19 (by first | assumption | exact hset_s _ _ _ | (rw [hset_n _ _ (by omega)]; first | assumption | exact hset_s _ _ _ | (rw [hset_n _ _ (by omega)]; first | assumption | exact hset_s _ _ _ | (rw [hset_n _ _ (by omega)]; first | assumption | exact hset_s _ _ _ | (rw [hset_n _ _ (by omega)]; first | assumption | exact hset_s _ _ _))))) rfl ?_
    refine j_iald (t := 0) (x := nI (txf pl)) d_Rd_clue_30 rfl ht (vp_in_nI (by omega) (by omega)) (by rw [nI_clamp (by omega)]; rfl) ?_
    refine j_i2c (v := nI (txf pl)) d_Rd_clue_31 (i2c_nI (by omega)) ?_
    refine j_callStr (As := [.int (nI (txf pl))]) d_Rd_clue_32 cb_Rd_60 vv_St_indexOf rfl rfl rfl (Nat.le_of_ble_eq_true rfl) (d' := 3) (by omega) (c_St_indexOf hb256) ?_
    have hix := ixL_sg (txf pl) hb256
    refine j_if_ge (tgt := 40) d_Rd_clue_35 (by decide) (fun c3 => ?_) (fun c3 => bad _ _ (Or.inr (Or.inr (by rw [← hix]; exact decide_eq_false c3))))
    have hsgn : ¬ (¬ pl < ln ∨ ¬ sg < 30 ∨ isSg (txf pl) = false) := by
      rintro (q | q | q)
      · exact q hlt
      · exact q hs30
      · rw [← hix, decide_eq_true c3] at q; cases q
    refine j_aload_n d_Rd_clue_40 rfl ?_
    refine j_get d_Rd_clue_41 fl_Rd_9 (by first | assumption | exact hset_s _ _ _ | (rw [hset_n _ _ (by omega)]; first | assumption | exact hset_s _ _ _ | (rw [hset_n _ _ (by omega)]; first | assumption | exact hset_s _ _ _ | (rw [hset_n _ _ (by omega)]; first | assumption | exact hset_s _ _ _ | (rw [hset_n _ _ (by omega)]; first | assumption | exact hset_s _ _ _))))) rfl ?_
    refine j_aload_n d_Rd_clue_44 rfl ?_
    refine j_get d_Rd_clue_45 fl_Rd_19 (by first | assumption | exact hset_s _ _ _ | (rw [hset_n _ _ (by omega)]; first | assumption | exact hset_s _ _ _ | (rw [hset_n _ _ (by omega)]; first | assumption | exact hset_s _ _ _ | (rw [hset_n _ _ (by omega)]; first | assumption | exact hset_s _ _ _ | (rw [hset_n _ _ (by omega)]; first | assumption | exact hset_s _ _ _))))) rfl ?_
    refine j_iald (t := 0) (x := nI (txf pl)) d_Rd_clue_48 rfl ht (vp_in_nI (by omega) (by omega)) (by rw [nI_clamp (by omega)]; rfl) ?_
    refine j_istore_n d_Rd_clue_49 (by decide) ?_
    refine j_aload_n d_Rd_clue_50 rfl ?_
    refine j_dup d_Rd_clue_51 rfl ?_
    refine j_get d_Rd_clue_52 fl_Rd_19 (by first | assumption | exact hset_s _ _ _ | (rw [hset_n _ _ (by omega)]; first | assumption | exact hset_s _ _ _ | (rw [hset_n _ _ (by omega)]; first | assumption | exact hset_s _ _ _ | (rw [hset_n _ _ (by omega)]; first | assumption | exact hset_s _ _ _ | (rw [hset_n _ _ (by omega)]; first | assumption | exact hset_s _ _ _))))) rfl ?_
    refine j_iconst (v := 1) d_Rd_clue_55 (by decide) ?_
    refine j_iadd d_Rd_clue_56 ?_
    refine j_put d_Rd_clue_57 fl_Rd_19 fp_Rd (Or.inl rfl) hr g4 rfl rfl (Nat.le_of_ble_eq_true rfl) ?_
    refine J.conv (L := _) rfl (show _ = hR h r tx ln (pl + 1) (nI k) (nI nn) (nI m) sg from ?_) ?_
    · show hset _ r (oRd tx (nI ln) (nI pl + 1) (nI k) (nI nn) (nI m) (nI sg)) = _
      rw [nI_1, hR_s]
    have hr2 := hR_r (h := h) (r := r) (tx := tx) (ln := ln) (pl := pl + 1) (K := nI k) (N := nI nn) (M := nI m) (sg := sg)
    refine j_aload_n d_Rd_clue_60 rfl ?_
    refine j_dup d_Rd_clue_61 rfl ?_
    refine j_get d_Rd_clue_62 fl_Rd_40 (by first | assumption | exact hset_s _ _ _ | (rw [hset_n _ _ (by omega)]; first | assumption | exact hset_s _ _ _ | (rw [hset_n _ _ (by omega)]; first | assumption | exact hset_s _ _ _ | (rw [hset_n _ _ (by omega)]; first | assumption | exact hset_s _ _ _ | (rw [hset_n _ _ (by omega)]; first | assumption | exact hset_s _ _ _))))) rfl ?_
    refine j_iconst (v := 1) d_Rd_clue_65 (by decide) ?_
    refine j_iadd d_Rd_clue_66 ?_
    refine j_put d_Rd_clue_67 fl_Rd_40 fp_Rd (Or.inl rfl) hr2 g4 rfl rfl (Nat.le_of_ble_eq_true rfl) ?_
    refine J.conv (L := _) rfl (show _ = hR h r tx ln (pl + 1) (nI k) (nI nn) (nI m) (sg + 1) from ?_) ?_
    · show hset _ r (oRd tx (nI ln) (nI (pl + 1)) (nI k) (nI nn) (nI m) (nI sg + 1)) = _
      rw [nI_1, hR_s]
    have hr3 := hR_r (h := h) (r := r) (tx := tx) (ln := ln) (pl := pl + 1) (K := nI k) (N := nI nn) (M := nI m) (sg := sg + 1)
    refine j_iload_n d_Rd_clue_70 rfl ?_
    have hle := pcl_le (txf := txf) (ln := ln) (K := nI k) (N := nI nn) (M := nI m) f
    by_cases h116 : txf pl = 116
    · rw [show pcl txf ln (nI k) (nI nn) (nI m) (f + 1) pl sg = pOp txf ln (nI m) (pl + 1) (sg + 1) by unfold pcl; rw [if_neg hsgn, if_pos h116]]
      have hp := pOp_le (txf := txf) (ln := ln) (M := nI m) (pl := pl + 1) (sg := sg + 1)
      rw [h116]
      refine j_lookup (tgt := 120) d_Rd_clue_71 (by decide) (off := 49) (by decide) (by decide) ?_
      refine j_aload_n d_Rd_clue_120 rfl ?_
      refine j_callV (As := []) d_Rd_clue_121 cb_Rd_66 vv_Rd_ofPerson hr3 rfl rfl rfl rfl (Nat.le_of_ble_eq_true rfl) (show 2 + 1 ≤ 3 * (f + 1) + 4 by omega) (by omega) (by omega) (c_Rd_ofPerson (D := f) G0 (by omega) hm) (fun v' h' n' q _ => ?_)
      obtain ⟨x, rfl, hx⟩ := q.rf
      exact j_aret d_Rd_clue_124 rfl (Or.inl ⟨_, rfl⟩) hx q
    by_cases h112 : txf pl = 112
    · rw [show pcl txf ln (nI k) (nI nn) (nI m) (f + 1) pl sg = pSay txf ln (nI m) (pcl txf ln (nI k) (nI nn) (nI m) f) (pl + 1) (sg + 1) by rw [pcl, if_neg hsgn, if_neg h116, if_pos h112]]
      have hp := pSay_le (txf := txf) (ln := ln) (M := nI m) (pl := pl + 1) (sg := sg + 1) hle
      rw [h112]
      refine j_lookup (tgt := 125) d_Rd_clue_71 (by decide) (off := 54) (by decide) (by decide) ?_
      refine j_aload_n d_Rd_clue_125 rfl ?_
      refine j_callV (As := []) d_Rd_clue_126 cb_Rd_69 vv_Rd_saying hr3 rfl rfl rfl rfl (Nat.le_of_ble_eq_true rfl) (show 3 * f + 6 + 1 ≤ 3 * (f + 1) + 4 by omega) (by omega) (by omega) (c_Rd_saying IH G0 hm (by omega) (by omega) (by omega)) (fun v' h' n' q _ => ?_)
      obtain ⟨x, rfl, hx⟩ := q.rf
      exact j_aret d_Rd_clue_129 rfl (Or.inl ⟨_, rfl⟩) hx q
    by_cases h126 : txf pl = 126
    · rw [show pcl txf ln (nI k) (nI nn) (nI m) (f + 1) pl sg = pTu (pcl txf ln (nI k) (nI nn) (nI m) f (pl + 1) (sg + 1)) (-1) by rw [pcl, if_neg hsgn, if_neg h116, if_neg h112, if_pos h126]]
      have hp := hle (pl + 1) (sg + 1)
      rw [h126]
      refine j_lookup (tgt := 130) d_Rd_clue_71 (by decide) (off := 59) (by decide) (by decide) ?_
      refine j_aload_n d_Rd_clue_130 rfl ?_
      refine j_iconst (v := (-1)) d_Rd_clue_131 (by decide) ?_
      refine j_callV (As := [.int (-1)]) d_Rd_clue_132 cb_Rd_72 vv_Rd_turned hr3 rfl rfl rfl rfl (Nat.le_of_ble_eq_true rfl) (show 3 * f + 5 + 1 ≤ 3 * (f + 1) + 4 by omega) (by rw [pTu_2]; omega) (by rw [pTu_2]; omega) (c_Rd_turned IH G0 (by omega) (by omega) (by omega)) (fun v' h' n' q _ => ?_)
      obtain ⟨x, rfl, hx⟩ := q.rf
      exact j_aret d_Rd_clue_135 rfl (Or.inl ⟨_, rfl⟩) hx q
    by_cases h38 : txf pl = 38
    · rw [show pcl txf ln (nI k) (nI nn) (nI m) (f + 1) pl sg = pJo (pcl txf ln (nI k) (nI nn) (nI m) f) 1 (pl + 1) (sg + 1) by rw [pcl, if_neg hsgn, if_neg h116, if_neg h112, if_neg h126, if_pos h38]]
      have hp := pJo_le (pl := pl + 1) (sg := sg + 1) (b := 1) hle
      rw [h38]
      refine j_lookup (tgt := 136) d_Rd_clue_71 (by decide) (off := 65) (by decide) (by decide) ?_
      refine j_aload_n d_Rd_clue_136 rfl ?_
      refine j_iload_n d_Rd_clue_137 rfl ?_
      refine j_bipush (v := 38) d_Rd_clue_138 (by decide) ?_
      refine j_icmp_ne (tgt := 147) d_Rd_clue_140 (by decide) (fun c4 => absurd rfl c4) (fun c4 => ?_)
      refine j_iconst (v := 1) d_Rd_clue_143 (by decide) ?_
      refine j_goto (tgt := 148) d_Rd_clue_144 (by decide) ?_
      refine j_callV (As := [.int 1]) d_Rd_clue_148 cb_Rd_76 vv_Rd_joined hr3 rfl rfl rfl rfl (Nat.le_of_ble_eq_true rfl) (show 3 * f + 5 + 1 ≤ 3 * (f + 1) + 4 by omega) (by omega) (by omega) (c_Rd_joined (Or.inr rfl) IH G0 (by omega) (by omega) (by omega)) (fun v' h' n' q _ => ?_)
      obtain ⟨x, rfl, hx⟩ := q.rf
      exact j_aret d_Rd_clue_151 rfl (Or.inl ⟨_, rfl⟩) hx q
    by_cases h124 : txf pl = 124
    · rw [show pcl txf ln (nI k) (nI nn) (nI m) (f + 1) pl sg = pJo (pcl txf ln (nI k) (nI nn) (nI m) f) 0 (pl + 1) (sg + 1) by rw [pcl, if_neg hsgn, if_neg h116, if_neg h112, if_neg h126, if_neg h38, if_pos h124]]
      have hp := pJo_le (pl := pl + 1) (sg := sg + 1) (b := 0) hle
      rw [h124]
      refine j_lookup (tgt := 136) d_Rd_clue_71 (by decide) (off := 65) (by decide) (by decide) ?_
      refine j_aload_n d_Rd_clue_136 rfl ?_
      refine j_iload_n d_Rd_clue_137 rfl ?_
      refine j_bipush (v := 38) d_Rd_clue_138 (by decide) ?_
      refine j_icmp_ne (tgt := 147) d_Rd_clue_140 (by decide) (fun c4 => ?_) (fun c4 => absurd c4 (by decide))
      refine j_iconst (v := 0) d_Rd_clue_147 (by decide) ?_
      refine j_callV (As := [.int 0]) d_Rd_clue_148 cb_Rd_76 vv_Rd_joined hr3 rfl rfl rfl rfl (Nat.le_of_ble_eq_true rfl) (show 3 * f + 5 + 1 ≤ 3 * (f + 1) + 4 by omega) (by omega) (by omega) (c_Rd_joined (Or.inl rfl) IH G0 (by omega) (by omega) (by omega)) (fun v' h' n' q _ => ?_)
      obtain ⟨x, rfl, hx⟩ := q.rf
      exact j_aret d_Rd_clue_151 rfl (Or.inl ⟨_, rfl⟩) hx q
    · rw [show pcl txf ln (nI k) (nI nn) (nI m) (f + 1) pl sg = pOv txf ln (nI k) (nI nn) (nI (txf pl)) (pl + 1) (sg + 1) by rw [pcl, if_neg hsgn, if_neg h116, if_neg h112, if_neg h126, if_neg h38, if_neg h124]]
      have hp := pOv_le (txf := txf) (ln := ln) (K := nI k) (N := nI nn) (b := nI (txf pl)) (pl := pl + 1) (sg := sg + 1)
      have ne : ∀ v : Nat, v < 256 → txf pl ≠ v → ¬ nI (txf pl) = nI v := fun v hv q e => q ((nI_eq (by omega) (by omega)).mp e)
      refine j_lookup (tgt := 152) d_Rd_clue_71 (by decide) (off := 81) ?_ (by decide) ?_
      · show Op.lookupswitch.offset [(38, 65), (112, 54), (116, 49), (124, 65), (126, 59)] 81 (nI (txf pl)).toInt = 81
        rw [lv_osw (ne 38 (by omega) h38) (by decide), lv_osw (ne 112 (by omega) h112) (by decide), lv_osw (ne 116 (by omega) h116) (by decide), lv_osw (ne 124 (by omega) h124) (by decide), lv_osw (ne 126 (by omega) h126) (by decide)]
        rfl
      refine j_aload_n d_Rd_clue_152 rfl ?_
      refine j_iload_n d_Rd_clue_153 rfl ?_
      refine j_callV (As := [.int (nI (txf pl))]) d_Rd_clue_154 cb_Rd_80 vv_Rd_ofValues hr3 rfl rfl rfl rfl (Nat.le_of_ble_eq_true rfl) (show 2 + 1 ≤ 3 * (f + 1) + 4 by omega) (by omega) (by omega) (c_Rd_ofValues (D := f) G0 (by omega) hk hnn) (fun v' h' n' q _ => ?_)
      obtain ⟨x, rfl, hx⟩ := q.rf
      exact j_aret d_Rd_clue_157 rfl (Or.inl ⟨_, rfl⟩) hx q
end CL3

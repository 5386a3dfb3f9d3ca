section MIN
variable {E : EV} {h : HP} {n : Nat}
/-- the reference, being made: k rows stand -/
def hMi (E : EV) (h : HP) (n k : Nat) (fs : List Value) : HP := fun q => if q = n then some (.inr (11, fs)) else if n < q ∧ q ≤ n + k then some (arI E (mT (q - n)) (mN (q - n)) (fun _ => 0)) else h q
set_option maxRecDepth 10000 in
theorem hMi_0 {k : Nat} {fs : List Value} : hMi E h n k fs n = some (.inr (11, fs)) := if_pos rfl
set_option maxRecDepth 10000 in
theorem hMi_n {fs : List Value} : hset h n (.inr (11, fs)) = hMi E h n 0 fs := by
  funext q
  unfold hset hMi
  by_cases e : q = n
  · rw [if_pos e, if_pos e]
  · rw [if_neg e, if_neg e, if_neg (by omega)]
set_option maxRecDepth 10000 in
theorem hMi_a {k t N : Nat} {fs : List Value} (ht : mT (k + 1) = t) (hN : mN (k + 1) = N) : hset (hMi E h n k fs) (n + (k + 1)) (arI E t N (fun _ => 0)) = hMi E h n (k + 1) fs := by
  subst ht hN
  funext q
  unfold hset hMi
  by_cases e : q = n + (k + 1)
  · subst e
    rw [if_pos rfl, if_neg (by omega), if_pos (by omega), Nat.add_sub_cancel_left]
  · rw [if_neg e]
    try dsimp only
    by_cases e2 : q = n
    · rw [if_pos e2, if_pos e2]
    · rw [if_neg e2, if_neg e2]
      by_cases e3 : n < q ∧ q ≤ n + k
      · rw [if_pos e3, if_pos (by omega)]
      · rw [if_neg e3, if_neg (by omega)]
set_option maxRecDepth 10000 in
theorem hMi_s {k : Nat} {fs fs' : List Value} : hset (hMi E h n k fs) n (.inr (11, fs')) = hMi E h n k fs' := by
  funext q
  unfold hset hMi
  by_cases e : q = n
  · rw [if_pos e, if_pos e]
  · rw [if_neg e, if_neg e]
    try dsimp only
    rw [if_neg e]
def v0M : Nat → Int32 := fun k => if k = 3 then 1 else 0
set_option maxRecDepth 10000 in
theorem hMi_20 : hMi E h n 20 (mL n v0M) = hM E h n v0M (fun _ _ => 0) := rfl
set_option maxRecDepth 10000 in
theorem mi_end (h0 : E.2.2.2.1 ≤ n) : J E m_Md_init 2 0 0 174 [(0, .ref n)] [] (hMi E h n 20 [.int 0, .int 0, .ref (n + 1), .int 1, .int 0, .int 0, .int 0, .ref (n + 2), .ref (n + 3), .ref (n + 4), .ref (n + 5), .int 0, .int 0, .int 0, .int 0, .int 0, .ref (n + 6), .ref (n + 7), .ref (n + 8), .ref (n + 9), .int 0, .ref (n + 10), .ref (n + 11), .int 0, .int 0, .ref (n + 12), .ref (n + 13), .int 0, .ref (n + 14), .ref (n + 15), .ref (n + 16), .ref (n + 17), .ref (n + 18), .int 0, .ref (n + 19), .ref (n + 20)]) (n + 21) (Rt none (hM E h n v0M (upG (upG (fun _ _ => 0) 15 (fillF (fun _ => 0) 12 1)) 16 (fillF (fun _ => 0) 3 3))) (n + 21)) := by
  refine J.conv (L := _) (h := hM E h n v0M (fun _ _ => 0)) rfl rfl ?_
  refine j_aload_n d_Md_init_174 rfl ?_
  refine m_callV (As := []) d_Md_init_175 cb_Md_76 vv_Md_fresh rfl rfl rfl (Nat.le_of_ble_eq_true rfl) (d' := 1) (by decide) (c_Md_fresh h0) (fun w h' n' q _ => ?_)
  obtain ⟨rfl, rfl, q3⟩ := q; have q3 := q3.symm; subst q3
  refine j_vret d_Md_init_178 rfl ⟨rfl, ?_, rfl⟩
  have e : upd (upd (upd (upd v0M 23 0) 24 0) 27 0) 33 0 = v0M := by rw [upd_eq (k := 23) (g := v0M) (x := 0) rfl, upd_eq (k := 24) (g := v0M) (x := 0) rfl, upd_eq (k := 27) (g := v0M) (x := 0) rfl, upd_eq (k := 33) (g := v0M) (x := 0) rfl]
  rw [e]
  rfl
set_option maxRecDepth 10000 in
theorem mi_166 (h0 : E.2.2.2.1 ≤ n) : J E m_Md_init 2 1 60 166 [(0, .ref n)] [] (hMi E h n 19 [.int 0, .int 0, .ref (n + 1), .int 1, .int 0, .int 0, .int 0, .ref (n + 2), .ref (n + 3), .ref (n + 4), .ref (n + 5), .int 0, .int 0, .int 0, .int 0, .int 0, .ref (n + 6), .ref (n + 7), .ref (n + 8), .ref (n + 9), .int 0, .ref (n + 10), .ref (n + 11), .int 0, .int 0, .ref (n + 12), .ref (n + 13), .int 0, .ref (n + 14), .ref (n + 15), .ref (n + 16), .ref (n + 17), .ref (n + 18), .int 0, .ref (n + 19), .null]) (n + 20) (Rt none (hM E h n v0M (upG (upG (fun _ _ => 0) 15 (fillF (fun _ => 0) 12 1)) 16 (fillF (fun _ => 0) 3 3))) (n + 21)) := by
  refine j_aload_n d_Md_init_166 rfl ?_
  refine j_bipush (v := 60) d_Md_init_167 (by decide) ?_
  refine j_newa (t := 0) (N := 60) d_Md_init_169 rfl aw_int rfl (by decide) rfl (by decide) (by decide) (by decide) ?_
  refine J.conv (L := _) rfl (hMi_a (k := 19) rfl rfl) ?_
  refine j_put d_Md_init_171 fl_Md_73 fp_Md (Or.inr ⟨rfl, rfl, rfl⟩) hMi_0 (by omega) rfl rfl (Nat.le_of_ble_eq_true rfl) ?_
  rw [hMi_s]
  exact mi_end h0
set_option maxRecDepth 10000 in
theorem mi_158 (h0 : E.2.2.2.1 ≤ n) : J E m_Md_init 2 2 120 158 [(0, .ref n)] [] (hMi E h n 18 [.int 0, .int 0, .ref (n + 1), .int 1, .int 0, .int 0, .int 0, .ref (n + 2), .ref (n + 3), .ref (n + 4), .ref (n + 5), .int 0, .int 0, .int 0, .int 0, .int 0, .ref (n + 6), .ref (n + 7), .ref (n + 8), .ref (n + 9), .int 0, .ref (n + 10), .ref (n + 11), .int 0, .int 0, .ref (n + 12), .ref (n + 13), .int 0, .ref (n + 14), .ref (n + 15), .ref (n + 16), .ref (n + 17), .ref (n + 18), .int 0, .null, .null]) (n + 19) (Rt none (hM E h n v0M (upG (upG (fun _ _ => 0) 15 (fillF (fun _ => 0) 12 1)) 16 (fillF (fun _ => 0) 3 3))) (n + 21)) := by
  refine j_aload_n d_Md_init_158 rfl ?_
  refine j_bipush (v := 60) d_Md_init_159 (by decide) ?_
  refine j_newa (t := 0) (N := 60) d_Md_init_161 rfl aw_int rfl (by decide) rfl (by decide) (by decide) (by decide) ?_
  refine J.conv (L := _) rfl (hMi_a (k := 18) rfl rfl) ?_
  refine j_put d_Md_init_163 fl_Md_70 fp_Md (Or.inr ⟨rfl, rfl, rfl⟩) hMi_0 (by omega) rfl rfl (Nat.le_of_ble_eq_true rfl) ?_
  rw [hMi_s]
  exact mi_166 h0
set_option maxRecDepth 10000 in
theorem mi_151 (h0 : E.2.2.2.1 ≤ n) : J E m_Md_init 2 3 123 151 [(0, .ref n)] [] (hMi E h n 17 [.int 0, .int 0, .ref (n + 1), .int 1, .int 0, .int 0, .int 0, .ref (n + 2), .ref (n + 3), .ref (n + 4), .ref (n + 5), .int 0, .int 0, .int 0, .int 0, .int 0, .ref (n + 6), .ref (n + 7), .ref (n + 8), .ref (n + 9), .int 0, .ref (n + 10), .ref (n + 11), .int 0, .int 0, .ref (n + 12), .ref (n + 13), .int 0, .ref (n + 14), .ref (n + 15), .ref (n + 16), .ref (n + 17), .null, .int 0, .null, .null]) (n + 18) (Rt none (hM E h n v0M (upG (upG (fun _ _ => 0) 15 (fillF (fun _ => 0) 12 1)) 16 (fillF (fun _ => 0) 3 3))) (n + 21)) := by
  refine j_aload_n d_Md_init_151 rfl ?_
  refine j_iconst (v := 3) d_Md_init_152 (by decide) ?_
  refine j_newa (t := 0) (N := 3) d_Md_init_153 rfl aw_int rfl (by decide) rfl (by decide) (by decide) (by decide) ?_
  refine J.conv (L := _) rfl (hMi_a (k := 17) rfl rfl) ?_
  refine j_put d_Md_init_155 fl_Md_67 fp_Md (Or.inr ⟨rfl, rfl, rfl⟩) hMi_0 (by omega) rfl rfl (Nat.le_of_ble_eq_true rfl) ?_
  rw [hMi_s]
  exact mi_158 h0
set_option maxRecDepth 10000 in
theorem mi_143 (h0 : E.2.2.2.1 ≤ n) : J E m_Md_init 2 4 135 143 [(0, .ref n)] [] (hMi E h n 16 [.int 0, .int 0, .ref (n + 1), .int 1, .int 0, .int 0, .int 0, .ref (n + 2), .ref (n + 3), .ref (n + 4), .ref (n + 5), .int 0, .int 0, .int 0, .int 0, .int 0, .ref (n + 6), .ref (n + 7), .ref (n + 8), .ref (n + 9), .int 0, .ref (n + 10), .ref (n + 11), .int 0, .int 0, .ref (n + 12), .ref (n + 13), .int 0, .ref (n + 14), .ref (n + 15), .ref (n + 16), .null, .null, .int 0, .null, .null]) (n + 17) (Rt none (hM E h n v0M (upG (upG (fun _ _ => 0) 15 (fillF (fun _ => 0) 12 1)) 16 (fillF (fun _ => 0) 3 3))) (n + 21)) := by
  refine j_aload_n d_Md_init_143 rfl ?_
  refine j_bipush (v := 12) d_Md_init_144 (by decide) ?_
  refine j_newa (t := 0) (N := 12) d_Md_init_146 rfl aw_int rfl (by decide) rfl (by decide) (by decide) (by decide) ?_
  refine J.conv (L := _) rfl (hMi_a (k := 16) rfl rfl) ?_
  refine j_put d_Md_init_148 fl_Md_64 fp_Md (Or.inr ⟨rfl, rfl, rfl⟩) hMi_0 (by omega) rfl rfl (Nat.le_of_ble_eq_true rfl) ?_
  rw [hMi_s]
  exact mi_151 h0
set_option maxRecDepth 10000 in
theorem mi_136 (h0 : E.2.2.2.1 ≤ n) : J E m_Md_init 2 5 138 136 [(0, .ref n)] [] (hMi E h n 15 [.int 0, .int 0, .ref (n + 1), .int 1, .int 0, .int 0, .int 0, .ref (n + 2), .ref (n + 3), .ref (n + 4), .ref (n + 5), .int 0, .int 0, .int 0, .int 0, .int 0, .ref (n + 6), .ref (n + 7), .ref (n + 8), .ref (n + 9), .int 0, .ref (n + 10), .ref (n + 11), .int 0, .int 0, .ref (n + 12), .ref (n + 13), .int 0, .ref (n + 14), .ref (n + 15), .null, .null, .null, .int 0, .null, .null]) (n + 16) (Rt none (hM E h n v0M (upG (upG (fun _ _ => 0) 15 (fillF (fun _ => 0) 12 1)) 16 (fillF (fun _ => 0) 3 3))) (n + 21)) := by
  refine j_aload_n d_Md_init_136 rfl ?_
  refine j_iconst (v := 3) d_Md_init_137 (by decide) ?_
  refine j_newa (t := 0) (N := 3) d_Md_init_138 rfl aw_int rfl (by decide) rfl (by decide) (by decide) (by decide) ?_
  refine J.conv (L := _) rfl (hMi_a (k := 15) rfl rfl) ?_
  refine j_put d_Md_init_140 fl_Md_61 fp_Md (Or.inr ⟨rfl, rfl, rfl⟩) hMi_0 (by omega) rfl rfl (Nat.le_of_ble_eq_true rfl) ?_
  rw [hMi_s]
  exact mi_143 h0
set_option maxRecDepth 10000 in
theorem mi_128 (h0 : E.2.2.2.1 ≤ n) : J E m_Md_init 2 6 150 128 [(0, .ref n)] [] (hMi E h n 14 [.int 0, .int 0, .ref (n + 1), .int 1, .int 0, .int 0, .int 0, .ref (n + 2), .ref (n + 3), .ref (n + 4), .ref (n + 5), .int 0, .int 0, .int 0, .int 0, .int 0, .ref (n + 6), .ref (n + 7), .ref (n + 8), .ref (n + 9), .int 0, .ref (n + 10), .ref (n + 11), .int 0, .int 0, .ref (n + 12), .ref (n + 13), .int 0, .ref (n + 14), .null, .null, .null, .null, .int 0, .null, .null]) (n + 15) (Rt none (hM E h n v0M (upG (upG (fun _ _ => 0) 15 (fillF (fun _ => 0) 12 1)) 16 (fillF (fun _ => 0) 3 3))) (n + 21)) := by
  refine j_aload_n d_Md_init_128 rfl ?_
  refine j_bipush (v := 12) d_Md_init_129 (by decide) ?_
  refine j_newa (t := 0) (N := 12) d_Md_init_131 rfl aw_int rfl (by decide) rfl (by decide) (by decide) (by decide) ?_
  refine J.conv (L := _) rfl (hMi_a (k := 14) rfl rfl) ?_
  refine j_put d_Md_init_133 fl_Md_58 fp_Md (Or.inr ⟨rfl, rfl, rfl⟩) hMi_0 (by omega) rfl rfl (Nat.le_of_ble_eq_true rfl) ?_
  rw [hMi_s]
  exact mi_136 h0
set_option maxRecDepth 10000 in
theorem mi_120 (h0 : E.2.2.2.1 ≤ n) : J E m_Md_init 2 7 250 120 [(0, .ref n)] [] (hMi E h n 13 [.int 0, .int 0, .ref (n + 1), .int 1, .int 0, .int 0, .int 0, .ref (n + 2), .ref (n + 3), .ref (n + 4), .ref (n + 5), .int 0, .int 0, .int 0, .int 0, .int 0, .ref (n + 6), .ref (n + 7), .ref (n + 8), .ref (n + 9), .int 0, .ref (n + 10), .ref (n + 11), .int 0, .int 0, .ref (n + 12), .ref (n + 13), .int 0, .null, .null, .null, .null, .null, .int 0, .null, .null]) (n + 14) (Rt none (hM E h n v0M (upG (upG (fun _ _ => 0) 15 (fillF (fun _ => 0) 12 1)) 16 (fillF (fun _ => 0) 3 3))) (n + 21)) := by
  refine j_aload_n d_Md_init_120 rfl ?_
  refine j_bipush (v := 100) d_Md_init_121 (by decide) ?_
  refine j_newa (t := 0) (N := 100) d_Md_init_123 rfl aw_int rfl (by decide) rfl (by decide) (by decide) (by decide) ?_
  refine J.conv (L := _) rfl (hMi_a (k := 13) rfl rfl) ?_
  refine j_put d_Md_init_125 fl_Md_55 fp_Md (Or.inr ⟨rfl, rfl, rfl⟩) hMi_0 (by omega) rfl rfl (Nat.le_of_ble_eq_true rfl) ?_
  rw [hMi_s]
  exact mi_128 h0
set_option maxRecDepth 10000 in
theorem mi_112 (h0 : E.2.2.2.1 ≤ n) : J E m_Md_init 2 8 282 112 [(0, .ref n)] [] (hMi E h n 12 [.int 0, .int 0, .ref (n + 1), .int 1, .int 0, .int 0, .int 0, .ref (n + 2), .ref (n + 3), .ref (n + 4), .ref (n + 5), .int 0, .int 0, .int 0, .int 0, .int 0, .ref (n + 6), .ref (n + 7), .ref (n + 8), .ref (n + 9), .int 0, .ref (n + 10), .ref (n + 11), .int 0, .int 0, .ref (n + 12), .null, .int 0, .null, .null, .null, .null, .null, .int 0, .null, .null]) (n + 13) (Rt none (hM E h n v0M (upG (upG (fun _ _ => 0) 15 (fillF (fun _ => 0) 12 1)) 16 (fillF (fun _ => 0) 3 3))) (n + 21)) := by
  refine j_aload_n d_Md_init_112 rfl ?_
  refine j_bipush (v := 32) d_Md_init_113 (by decide) ?_
  refine j_newa (t := 1) (N := 32) d_Md_init_115 rfl aw_boolean rfl (by decide) rfl (by decide) (by decide) (by decide) ?_
  refine J.conv (L := _) rfl (hMi_a (k := 12) rfl rfl) ?_
  refine j_put d_Md_init_117 fl_Md_51 fp_Md (Or.inr ⟨rfl, rfl, rfl⟩) hMi_0 (by omega) rfl rfl (Nat.le_of_ble_eq_true rfl) ?_
  rw [hMi_s]
  exact mi_120 h0
set_option maxRecDepth 10000 in
theorem mi_104 (h0 : E.2.2.2.1 ≤ n) : J E m_Md_init 2 9 110874 104 [(0, .ref n)] [] (hMi E h n 11 [.int 0, .int 0, .ref (n + 1), .int 1, .int 0, .int 0, .int 0, .ref (n + 2), .ref (n + 3), .ref (n + 4), .ref (n + 5), .int 0, .int 0, .int 0, .int 0, .int 0, .ref (n + 6), .ref (n + 7), .ref (n + 8), .ref (n + 9), .int 0, .ref (n + 10), .ref (n + 11), .int 0, .int 0, .null, .null, .int 0, .null, .null, .null, .null, .null, .int 0, .null, .null]) (n + 12) (Rt none (hM E h n v0M (upG (upG (fun _ _ => 0) 15 (fillF (fun _ => 0) 12 1)) 16 (fillF (fun _ => 0) 3 3))) (n + 21)) := by
  refine j_aload_n d_Md_init_104 rfl ?_
  refine j_ldc (own := "") d_Md_init_105 kc_Md_47 ?_
  refine j_newa (t := 0) (N := 110592) d_Md_init_107 rfl aw_int rfl (by decide) rfl (by decide) (by decide) (by decide) ?_
  refine J.conv (L := _) rfl (hMi_a (k := 11) rfl rfl) ?_
  refine j_put d_Md_init_109 fl_Md_48 fp_Md (Or.inr ⟨rfl, rfl, rfl⟩) hMi_0 (by omega) rfl rfl (Nat.le_of_ble_eq_true rfl) ?_
  rw [hMi_s]
  exact mi_112 h0
set_option maxRecDepth 10000 in
theorem mi_96 (h0 : E.2.2.2.1 ≤ n) : J E m_Md_init 2 10 110970 96 [(0, .ref n)] [] (hMi E h n 10 [.int 0, .int 0, .ref (n + 1), .int 1, .int 0, .int 0, .int 0, .ref (n + 2), .ref (n + 3), .ref (n + 4), .ref (n + 5), .int 0, .int 0, .int 0, .int 0, .int 0, .ref (n + 6), .ref (n + 7), .ref (n + 8), .ref (n + 9), .int 0, .ref (n + 10), .null, .int 0, .int 0, .null, .null, .int 0, .null, .null, .null, .null, .null, .int 0, .null, .null]) (n + 11) (Rt none (hM E h n v0M (upG (upG (fun _ _ => 0) 15 (fillF (fun _ => 0) 12 1)) 16 (fillF (fun _ => 0) 3 3))) (n + 21)) := by
  refine j_aload_n d_Md_init_96 rfl ?_
  refine j_bipush (v := 96) d_Md_init_97 (by decide) ?_
  refine j_newa (t := 0) (N := 96) d_Md_init_99 rfl aw_int rfl (by decide) rfl (by decide) (by decide) (by decide) ?_
  refine J.conv (L := _) rfl (hMi_a (k := 10) rfl rfl) ?_
  refine j_put d_Md_init_101 fl_Md_44 fp_Md (Or.inr ⟨rfl, rfl, rfl⟩) hMi_0 (by omega) rfl rfl (Nat.le_of_ble_eq_true rfl) ?_
  rw [hMi_s]
  exact mi_104 h0
set_option maxRecDepth 10000 in
theorem mi_88 (h0 : E.2.2.2.1 ≤ n) : J E m_Md_init 2 11 111066 88 [(0, .ref n)] [] (hMi E h n 9 [.int 0, .int 0, .ref (n + 1), .int 1, .int 0, .int 0, .int 0, .ref (n + 2), .ref (n + 3), .ref (n + 4), .ref (n + 5), .int 0, .int 0, .int 0, .int 0, .int 0, .ref (n + 6), .ref (n + 7), .ref (n + 8), .ref (n + 9), .int 0, .null, .null, .int 0, .int 0, .null, .null, .int 0, .null, .null, .null, .null, .null, .int 0, .null, .null]) (n + 10) (Rt none (hM E h n v0M (upG (upG (fun _ _ => 0) 15 (fillF (fun _ => 0) 12 1)) 16 (fillF (fun _ => 0) 3 3))) (n + 21)) := by
  refine j_aload_n d_Md_init_88 rfl ?_
  refine j_bipush (v := 96) d_Md_init_89 (by decide) ?_
  refine j_newa (t := 0) (N := 96) d_Md_init_91 rfl aw_int rfl (by decide) rfl (by decide) (by decide) (by decide) ?_
  refine J.conv (L := _) rfl (hMi_a (k := 9) rfl rfl) ?_
  refine j_put d_Md_init_93 fl_Md_41 fp_Md (Or.inr ⟨rfl, rfl, rfl⟩) hMi_0 (by omega) rfl rfl (Nat.le_of_ble_eq_true rfl) ?_
  rw [hMi_s]
  exact mi_96 h0
set_option maxRecDepth 10000 in
theorem mi_79 (h0 : E.2.2.2.1 ≤ n) : J E m_Md_init 2 12 111706 79 [(0, .ref n)] [] (hMi E h n 8 [.int 0, .int 0, .ref (n + 1), .int 1, .int 0, .int 0, .int 0, .ref (n + 2), .ref (n + 3), .ref (n + 4), .ref (n + 5), .int 0, .int 0, .int 0, .int 0, .int 0, .ref (n + 6), .ref (n + 7), .ref (n + 8), .null, .int 0, .null, .null, .int 0, .int 0, .null, .null, .int 0, .null, .null, .null, .null, .null, .int 0, .null, .null]) (n + 9) (Rt none (hM E h n v0M (upG (upG (fun _ _ => 0) 15 (fillF (fun _ => 0) 12 1)) 16 (fillF (fun _ => 0) 3 3))) (n + 21)) := by
  refine j_aload_n d_Md_init_79 rfl ?_
  refine j_sipush (v := 640) d_Md_init_80 (by decide) ?_
  refine j_newa (t := 0) (N := 640) d_Md_init_83 rfl aw_int rfl (by decide) rfl (by decide) (by decide) (by decide) ?_
  refine J.conv (L := _) rfl (hMi_a (k := 8) rfl rfl) ?_
  refine j_put d_Md_init_85 fl_Md_38 fp_Md (Or.inr ⟨rfl, rfl, rfl⟩) hMi_0 (by omega) rfl rfl (Nat.le_of_ble_eq_true rfl) ?_
  rw [hMi_s]
  exact mi_88 h0
set_option maxRecDepth 10000 in
theorem mi_70 (h0 : E.2.2.2.1 ≤ n) : J E m_Md_init 2 13 112346 70 [(0, .ref n)] [] (hMi E h n 7 [.int 0, .int 0, .ref (n + 1), .int 1, .int 0, .int 0, .int 0, .ref (n + 2), .ref (n + 3), .ref (n + 4), .ref (n + 5), .int 0, .int 0, .int 0, .int 0, .int 0, .ref (n + 6), .ref (n + 7), .null, .null, .int 0, .null, .null, .int 0, .int 0, .null, .null, .int 0, .null, .null, .null, .null, .null, .int 0, .null, .null]) (n + 8) (Rt none (hM E h n v0M (upG (upG (fun _ _ => 0) 15 (fillF (fun _ => 0) 12 1)) 16 (fillF (fun _ => 0) 3 3))) (n + 21)) := by
  refine j_aload_n d_Md_init_70 rfl ?_
  refine j_sipush (v := 640) d_Md_init_71 (by decide) ?_
  refine j_newa (t := 0) (N := 640) d_Md_init_74 rfl aw_int rfl (by decide) rfl (by decide) (by decide) (by decide) ?_
  refine J.conv (L := _) rfl (hMi_a (k := 7) rfl rfl) ?_
  refine j_put d_Md_init_76 fl_Md_35 fp_Md (Or.inr ⟨rfl, rfl, rfl⟩) hMi_0 (by omega) rfl rfl (Nat.le_of_ble_eq_true rfl) ?_
  rw [hMi_s]
  exact mi_79 h0
set_option maxRecDepth 10000 in
theorem mi_61 (h0 : E.2.2.2.1 ≤ n) : J E m_Md_init 2 14 112986 61 [(0, .ref n)] [] (hMi E h n 6 [.int 0, .int 0, .ref (n + 1), .int 1, .int 0, .int 0, .int 0, .ref (n + 2), .ref (n + 3), .ref (n + 4), .ref (n + 5), .int 0, .int 0, .int 0, .int 0, .int 0, .ref (n + 6), .null, .null, .null, .int 0, .null, .null, .int 0, .int 0, .null, .null, .int 0, .null, .null, .null, .null, .null, .int 0, .null, .null]) (n + 7) (Rt none (hM E h n v0M (upG (upG (fun _ _ => 0) 15 (fillF (fun _ => 0) 12 1)) 16 (fillF (fun _ => 0) 3 3))) (n + 21)) := by
  refine j_aload_n d_Md_init_61 rfl ?_
  refine j_sipush (v := 640) d_Md_init_62 (by decide) ?_
  refine j_newa (t := 0) (N := 640) d_Md_init_65 rfl aw_int rfl (by decide) rfl (by decide) (by decide) (by decide) ?_
  refine J.conv (L := _) rfl (hMi_a (k := 6) rfl rfl) ?_
  refine j_put d_Md_init_67 fl_Md_32 fp_Md (Or.inr ⟨rfl, rfl, rfl⟩) hMi_0 (by omega) rfl rfl (Nat.le_of_ble_eq_true rfl) ?_
  rw [hMi_s]
  exact mi_70 h0
set_option maxRecDepth 10000 in
theorem mi_53 (h0 : E.2.2.2.1 ≤ n) : J E m_Md_init 2 15 113008 53 [(0, .ref n)] [] (hMi E h n 5 [.int 0, .int 0, .ref (n + 1), .int 1, .int 0, .int 0, .int 0, .ref (n + 2), .ref (n + 3), .ref (n + 4), .ref (n + 5), .int 0, .int 0, .int 0, .int 0, .int 0, .null, .null, .null, .null, .int 0, .null, .null, .int 0, .int 0, .null, .null, .int 0, .null, .null, .null, .null, .null, .int 0, .null, .null]) (n + 6) (Rt none (hM E h n v0M (upG (upG (fun _ _ => 0) 15 (fillF (fun _ => 0) 12 1)) 16 (fillF (fun _ => 0) 3 3))) (n + 21)) := by
  refine j_aload_n d_Md_init_53 rfl ?_
  refine j_bipush (v := 22) d_Md_init_54 (by decide) ?_
  refine j_newa (t := 0) (N := 22) d_Md_init_56 rfl aw_int rfl (by decide) rfl (by decide) (by decide) (by decide) ?_
  refine J.conv (L := _) rfl (hMi_a (k := 5) rfl rfl) ?_
  refine j_put d_Md_init_58 fl_Md_29 fp_Md (Or.inr ⟨rfl, rfl, rfl⟩) hMi_0 (by omega) rfl rfl (Nat.le_of_ble_eq_true rfl) ?_
  rw [hMi_s]
  exact mi_61 h0
set_option maxRecDepth 10000 in
theorem mi_44 (h0 : E.2.2.2.1 ≤ n) : J E m_Md_init 2 16 113608 44 [(0, .ref n)] [] (hMi E h n 4 [.int 0, .int 0, .ref (n + 1), .int 1, .int 0, .int 0, .int 0, .ref (n + 2), .ref (n + 3), .ref (n + 4), .null, .int 0, .int 0, .int 0, .int 0, .int 0, .null, .null, .null, .null, .int 0, .null, .null, .int 0, .int 0, .null, .null, .int 0, .null, .null, .null, .null, .null, .int 0, .null, .null]) (n + 5) (Rt none (hM E h n v0M (upG (upG (fun _ _ => 0) 15 (fillF (fun _ => 0) 12 1)) 16 (fillF (fun _ => 0) 3 3))) (n + 21)) := by
  refine j_aload_n d_Md_init_44 rfl ?_
  refine j_sipush (v := 600) d_Md_init_45 (by decide) ?_
  refine j_newa (t := 0) (N := 600) d_Md_init_48 rfl aw_int rfl (by decide) rfl (by decide) (by decide) (by decide) ?_
  refine J.conv (L := _) rfl (hMi_a (k := 4) rfl rfl) ?_
  refine j_put d_Md_init_50 fl_Md_26 fp_Md (Or.inr ⟨rfl, rfl, rfl⟩) hMi_0 (by omega) rfl rfl (Nat.le_of_ble_eq_true rfl) ?_
  rw [hMi_s]
  exact mi_53 h0
set_option maxRecDepth 10000 in
theorem mi_35 (h0 : E.2.2.2.1 ≤ n) : J E m_Md_init 2 17 114208 35 [(0, .ref n)] [] (hMi E h n 3 [.int 0, .int 0, .ref (n + 1), .int 1, .int 0, .int 0, .int 0, .ref (n + 2), .ref (n + 3), .null, .null, .int 0, .int 0, .int 0, .int 0, .int 0, .null, .null, .null, .null, .int 0, .null, .null, .int 0, .int 0, .null, .null, .int 0, .null, .null, .null, .null, .null, .int 0, .null, .null]) (n + 4) (Rt none (hM E h n v0M (upG (upG (fun _ _ => 0) 15 (fillF (fun _ => 0) 12 1)) 16 (fillF (fun _ => 0) 3 3))) (n + 21)) := by
  refine j_aload_n d_Md_init_35 rfl ?_
  refine j_sipush (v := 600) d_Md_init_36 (by decide) ?_
  refine j_newa (t := 0) (N := 600) d_Md_init_39 rfl aw_int rfl (by decide) rfl (by decide) (by decide) (by decide) ?_
  refine J.conv (L := _) rfl (hMi_a (k := 3) rfl rfl) ?_
  refine j_put d_Md_init_41 fl_Md_23 fp_Md (Or.inr ⟨rfl, rfl, rfl⟩) hMi_0 (by omega) rfl rfl (Nat.le_of_ble_eq_true rfl) ?_
  rw [hMi_s]
  exact mi_44 h0
set_option maxRecDepth 10000 in
theorem mi_26 (h0 : E.2.2.2.1 ≤ n) : J E m_Md_init 2 18 114808 26 [(0, .ref n)] [] (hMi E h n 2 [.int 0, .int 0, .ref (n + 1), .int 1, .int 0, .int 0, .int 0, .ref (n + 2), .null, .null, .null, .int 0, .int 0, .int 0, .int 0, .int 0, .null, .null, .null, .null, .int 0, .null, .null, .int 0, .int 0, .null, .null, .int 0, .null, .null, .null, .null, .null, .int 0, .null, .null]) (n + 3) (Rt none (hM E h n v0M (upG (upG (fun _ _ => 0) 15 (fillF (fun _ => 0) 12 1)) 16 (fillF (fun _ => 0) 3 3))) (n + 21)) := by
  refine j_aload_n d_Md_init_26 rfl ?_
  refine j_sipush (v := 600) d_Md_init_27 (by decide) ?_
  refine j_newa (t := 0) (N := 600) d_Md_init_30 rfl aw_int rfl (by decide) rfl (by decide) (by decide) (by decide) ?_
  refine J.conv (L := _) rfl (hMi_a (k := 2) rfl rfl) ?_
  refine j_put d_Md_init_32 fl_Md_20 fp_Md (Or.inr ⟨rfl, rfl, rfl⟩) hMi_0 (by omega) rfl rfl (Nat.le_of_ble_eq_true rfl) ?_
  rw [hMi_s]
  exact mi_35 h0
set_option maxRecDepth 10000 in
theorem mi_18 (h0 : E.2.2.2.1 ≤ n) : J E m_Md_init 2 19 114829 18 [(0, .ref n)] [] (hMi E h n 1 [.int 0, .int 0, .ref (n + 1), .int 1, .int 0, .int 0, .int 0, .null, .null, .null, .null, .int 0, .int 0, .int 0, .int 0, .int 0, .null, .null, .null, .null, .int 0, .null, .null, .int 0, .int 0, .null, .null, .int 0, .null, .null, .null, .null, .null, .int 0, .null, .null]) (n + 2) (Rt none (hM E h n v0M (upG (upG (fun _ _ => 0) 15 (fillF (fun _ => 0) 12 1)) 16 (fillF (fun _ => 0) 3 3))) (n + 21)) := by
  refine j_aload_n d_Md_init_18 rfl ?_
  refine j_bipush (v := 21) d_Md_init_19 (by decide) ?_
  refine j_newa (t := 0) (N := 21) d_Md_init_21 rfl aw_int rfl (by decide) rfl (by decide) (by decide) (by decide) ?_
  refine J.conv (L := _) rfl (hMi_a (k := 1) rfl rfl) ?_
  refine j_put d_Md_init_23 fl_Md_17 fp_Md (Or.inr ⟨rfl, rfl, rfl⟩) hMi_0 (by omega) rfl rfl (Nat.le_of_ble_eq_true rfl) ?_
  rw [hMi_s]
  exact mi_26 h0
set_option maxRecDepth 10000 in
theorem mi_13 (h0 : E.2.2.2.1 ≤ n) : J E m_Md_init 2 19 114829 13 [(0, .ref n)] [] (hMi E h n 1 [.int 0, .int 0, .ref (n + 1), .int 0, .int 0, .int 0, .int 0, .null, .null, .null, .null, .int 0, .int 0, .int 0, .int 0, .int 0, .null, .null, .null, .null, .int 0, .null, .null, .int 0, .int 0, .null, .null, .int 0, .null, .null, .null, .null, .null, .int 0, .null, .null]) (n + 2) (Rt none (hM E h n v0M (upG (upG (fun _ _ => 0) 15 (fillF (fun _ => 0) 12 1)) 16 (fillF (fun _ => 0) 3 3))) (n + 21)) := by
  refine j_aload_n d_Md_init_13 rfl ?_
  refine j_iconst (v := 1) d_Md_init_14 (by decide) ?_
  refine j_put d_Md_init_15 fl_Md_13 fp_Md (Or.inl rfl) hMi_0 (by omega) rfl rfl (Nat.le_of_ble_eq_true rfl) ?_
  rw [hMi_s]
  exact mi_18 h0
set_option maxRecDepth 10000 in
theorem mi_4 (h0 : E.2.2.2.1 ≤ n) : J E m_Md_init 2 20 115129 4 [(0, .ref n)] [] (hMi E h n 0 [.int 0, .int 0, .null, .int 0, .int 0, .int 0, .int 0, .null, .null, .null, .null, .int 0, .int 0, .int 0, .int 0, .int 0, .null, .null, .null, .null, .int 0, .null, .null, .int 0, .int 0, .null, .null, .int 0, .null, .null, .null, .null, .null, .int 0, .null, .null]) (n + 1) (Rt none (hM E h n v0M (upG (upG (fun _ _ => 0) 15 (fillF (fun _ => 0) 12 1)) 16 (fillF (fun _ => 0) 3 3))) (n + 21)) := by
  refine j_aload_n d_Md_init_4 rfl ?_
  refine j_sipush (v := 300) d_Md_init_5 (by decide) ?_
  refine j_newa (t := 0) (N := 300) d_Md_init_8 rfl aw_int rfl (by decide) rfl (by decide) (by decide) (by decide) ?_
  refine J.conv (L := _) rfl (hMi_a (k := 0) rfl rfl) ?_
  refine j_put d_Md_init_10 fl_Md_7 fp_Md (Or.inr ⟨rfl, rfl, rfl⟩) hMi_0 (by omega) rfl rfl (Nat.le_of_ble_eq_true rfl) ?_
  rw [hMi_s]
  exact mi_13 h0
set_option maxRecDepth 10000 in
theorem c_Md_init (h0 : E.2.2.2.1 ≤ n) : Ct E m_Md_init 2 20 115129 [.ref n] (hset h n (.inr (11, [.int 0, .int 0, .null, .int 0, .int 0, .int 0, .int 0, .null, .null, .null, .null, .int 0, .int 0, .int 0, .int 0, .int 0, .null, .null, .null, .null, .int 0, .null, .null, .int 0, .int 0, .null, .null, .int 0, .null, .null, .null, .null, .null, .int 0, .null, .null]))) (n + 1) (Rt none (hM E h n v0M (upG (upG (fun _ _ => 0) 15 (fillF (fun _ => 0) 12 1)) 16 (fillF (fun _ => 0) 3 3))) (n + 21)) := by
  refine Ct.go rfl rfl rfl ?_
  rw [hMi_n (E := E)]
  refine j_aload_n d_Md_init_0 rfl ?_
  refine j_obj d_Md_init_1 ob_Md_1 obi obc (by decide) (by decide) ?_
  exact mi_4 h0
end MIN

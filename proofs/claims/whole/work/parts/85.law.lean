section LAW
variable {E : EV} {H : HP} {n c mo d i r : Nat} {nm : String}
abbrev MLw (nm : String) : MI := (⟨"ClueLogicLaw", nm, "([I)Z"⟩, code, 4, ret)
abbrev lwQ : Option Value → HP → Nat → Prop := fun w _ _ => w = some (.int 1)
abbrev sLen (E : EV) : Nat := E.2.2.2.2 5
abbrev sAt (E : EV) (j : Nat) : Int32 := nI (E.2.2.2.2 (6 + j))
set_option maxRecDepth 10000 in
theorem j_slen {M : MI} {cl sl pc : Nat} {L : List (Nat × Value)} {st : List Value} {Q : Option Value → HP → Nat → Prop} (hd : decode M.2.1 pc = .ok (.arraylength, 1)) (kk : J E M d cl sl (pc + 1) L (.int (nI (sLen E)) :: st) H n Q) : J E M d cl sl pc L (.ref (E.2.2.2.2 4) :: st) H n Q :=
  fun p e R s m args below meth c H locs cells slots ls X Y => va_tlen X.1 X.2.1 (X.2.2.2.2.2.2.2.2.2.1.2.1 (E.2.2.2.2 4, E.2.2.2.2 5, fun j => nI (E.2.2.2.2 (6 + j))) (List.mem_cons_of_mem _ (List.mem_cons_of_mem _ List.mem_cons_self))) Y.2.2.2.1 rfl hd (kk p e R s m args below meth c H locs cells slots ls X Y)
set_option maxRecDepth 10000 in
theorem j_scr {M : MI} {cl sl pc j : Nat} {L : List (Nat × Value)} {st : List Value} {Q : Option Value → HP → Nat → Prop} (hd : decode M.2.1 pc = .ok (.iaload, 1)) (hj : j < sLen E) (hL : sLen E ≤ 2048) (kk : J E M d cl sl (pc + 1) L (.int (sAt E j) :: st) H n Q) : J E M d cl sl pc L (.int (nI j) :: .ref (E.2.2.2.2 4) :: st) H n Q :=
  j_stI (N := sLen E) (f := fun j => nI (E.2.2.2.2 (6 + j))) hd (List.mem_cons_of_mem _ (List.mem_cons_of_mem _ List.mem_cons_self)) (vp_in_nI hj (by omega)) (by rw [nI_clamp (by omega)]) kk
/-- behind a call of each -/
def lwK (E : EV) (nm : String) (c mo i r : Nat) : Prop := ∀ (H : HP) (n : Nat), LI E H n c mo → J E (MLw nm) 200 (327 * r) (1896 * r) 412 [(0, .ref (E.2.2.2.2 4)), (1, .ref c), (2, .ref mo), (3, .int (nI i))] [] H n lwQ
set_option maxRecDepth 10000 in
theorem lw_unit (hL : sLen E ≤ 2048) (hi : i + 4 ≤ sLen E) (K : lwK E nm c mo i r) (I : LI E H n c mo) : J E (MLw nm) 200 (327 * (r + 1)) (1896 * (r + 1)) 96 [(0, .ref (E.2.2.2.2 4)), (1, .ref c), (2, .ref mo), (3, .int (nI i))] [] H n lwQ := by
  obtain ⟨fs, QC, hc, ctC, kC⟩ := t_unit (u := sAt E (i + 1)) I
  refine j_aload_n d_Lw_law_96 rfl ?_
  refine j_aload_n d_Lw_law_97 rfl ?_
  refine j_iload_n d_Lw_law_98 rfl ?_
  refine j_iconst (v := 1) d_Lw_law_99 (by decide) ?_
  refine j_iadd d_Lw_law_100 ?_
  rw [show nI i + 1 = nI (i + 1) from nI_add i 1]
  refine j_scr d_Lw_law_101 (by omega) hL ?_
  refine j_callV (As := [.int (sAt E (i + 1))]) d_Lw_law_102 cb_Lw_13 vv_C_unit hc rfl rfl rfl rfl (Nat.le_of_ble_eq_true rfl) (show 0 + 1 ≤ 200 by decide) (by omega) (by omega) ctC (fun w h' n' q _ => ?_)
  obtain ⟨r0, v, f, QM, rfl, hs, ctM, kM⟩ := kC w h' n' q
  have hmo : h' mo = some (.inr (11, mL mo v)) := by rw [← hs]; exact hM_0
  rw [hs] at ctM
  refine j_aload_n d_Lw_law_105 rfl ?_
  refine j_aload_n d_Lw_law_106 rfl ?_
  refine j_iload_n d_Lw_law_107 rfl ?_
  refine j_iconst (v := 1) d_Lw_law_108 (by decide) ?_
  refine j_iadd d_Lw_law_109 ?_
  rw [show nI i + 1 = nI (i + 1) from nI_add i 1]
  refine j_scr d_Lw_law_110 (by omega) hL ?_
  refine j_callV (As := [.int (sAt E (i + 1))]) d_Lw_law_111 cb_Lw_17 vv_Md_unit hmo rfl rfl rfl rfl (Nat.le_of_ble_eq_true rfl) (show 0 + 1 ≤ 200 by decide) (Nat.zero_le _) (Nat.zero_le _) ctM (fun w h' n' q _ => ?_)
  obtain ⟨rfl, I2⟩ := kM w h' n' q
  refine j_icmp_eq (tgt := 412) d_Lw_law_114 (by decide) (fun _ => ?_) (fun z => absurd rfl z)
  exact J.room (Nat.le_refl _) (by omega) (by omega) (K _ _ I2)
set_option maxRecDepth 10000 in
theorem lw_read (hL : sLen E ≤ 2048) (hi : i + 4 ≤ sLen E) (K : lwK E nm c mo i r) (I : LI E H n c mo) : J E (MLw nm) 200 (327 * (r + 1)) (1896 * (r + 1)) 119 [(0, .ref (E.2.2.2.2 4)), (1, .ref c), (2, .ref mo), (3, .int (nI i))] [] H n lwQ := by
  obtain ⟨fs, QC, hc, ctC, kC⟩ := t_read I
  refine j_aload_n d_Lw_law_119 rfl ?_
  refine j_callV (As := []) d_Lw_law_120 cb_Lw_18 vv_C_read hc rfl rfl rfl rfl (Nat.le_of_ble_eq_true rfl) (show 99 + 1 ≤ 200 by decide) (by omega) (by omega) ctC (fun w h' n' q _ => ?_)
  obtain ⟨r0, v, f, QM, rfl, hs, ctM, kM⟩ := kC w h' n' q
  have hmo : h' mo = some (.inr (11, mL mo v)) := by rw [← hs]; exact hM_0
  rw [hs] at ctM
  refine j_aload_n d_Lw_law_123 rfl ?_
  refine j_callV (As := []) d_Lw_law_124 cb_Lw_22 vv_Md_read hmo rfl rfl rfl rfl (Nat.le_of_ble_eq_true rfl) (show 5 + 1 ≤ 200 by decide) (Nat.zero_le _) (Nat.zero_le _) ctM (fun w h' n' q _ => ?_)
  obtain ⟨rfl, I2⟩ := kM w h' n' q
  refine j_icmp_eq (tgt := 412) d_Lw_law_127 (by decide) (fun _ => ?_) (fun z => absurd rfl z)
  exact J.room (Nat.le_refl _) (by omega) (by omega) (K _ _ I2)
set_option maxRecDepth 10000 in
theorem lw_told (hL : sLen E ≤ 2048) (hi : i + 4 ≤ sLen E) (K : lwK E nm c mo i r) (I : LI E H n c mo) : J E (MLw nm) 200 (327 * (r + 1)) (1896 * (r + 1)) 132 [(0, .ref (E.2.2.2.2 4)), (1, .ref c), (2, .ref mo), (3, .int (nI i))] [] H n lwQ := by
  obtain ⟨fs, QC, hc, ctC, kC⟩ := t_told (w := sAt E (i + 1)) I
  refine j_aload_n d_Lw_law_132 rfl ?_
  refine j_aload_n d_Lw_law_133 rfl ?_
  refine j_iload_n d_Lw_law_134 rfl ?_
  refine j_iconst (v := 1) d_Lw_law_135 (by decide) ?_
  refine j_iadd d_Lw_law_136 ?_
  rw [show nI i + 1 = nI (i + 1) from nI_add i 1]
  refine j_scr d_Lw_law_137 (by omega) hL ?_
  refine j_callV (As := [.int (sAt E (i + 1))]) d_Lw_law_138 cb_Lw_23 vv_C_told hc rfl rfl rfl rfl (Nat.le_of_ble_eq_true rfl) (show 1 + 1 ≤ 200 by decide) (by omega) (by omega) ctC (fun w h' n' q _ => ?_)
  obtain ⟨r0, v, f, QM, rfl, hs, ctM, kM⟩ := kC w h' n' q
  have hmo : h' mo = some (.inr (11, mL mo v)) := by rw [← hs]; exact hM_0
  rw [hs] at ctM
  refine j_aload_n d_Lw_law_141 rfl ?_
  refine j_aload_n d_Lw_law_142 rfl ?_
  refine j_iload_n d_Lw_law_143 rfl ?_
  refine j_iconst (v := 1) d_Lw_law_144 (by decide) ?_
  refine j_iadd d_Lw_law_145 ?_
  rw [show nI i + 1 = nI (i + 1) from nI_add i 1]
  refine j_scr d_Lw_law_146 (by omega) hL ?_
  refine j_callV (As := [.int (sAt E (i + 1))]) d_Lw_law_147 cb_Lw_27 vv_Md_told hmo rfl rfl rfl rfl (Nat.le_of_ble_eq_true rfl) (show 0 + 1 ≤ 200 by decide) (Nat.zero_le _) (Nat.zero_le _) ctM (fun w h' n' q _ => ?_)
  obtain ⟨rfl, I2⟩ := kM w h' n' q
  refine j_icmp_eq (tgt := 412) d_Lw_law_150 (by decide) (fun _ => ?_) (fun z => absurd rfl z)
  exact J.room (Nat.le_refl _) (by omega) (by omega) (K _ _ I2)
set_option maxRecDepth 10000 in
theorem lw_run (hL : sLen E ≤ 2048) (hi : i + 4 ≤ sLen E) (K : lwK E nm c mo i r) (I : LI E H n c mo) : J E (MLw nm) 200 (327 * (r + 1)) (1896 * (r + 1)) 155 [(0, .ref (E.2.2.2.2 4)), (1, .ref c), (2, .ref mo), (3, .int (nI i))] [] H n lwQ := by
  obtain ⟨fs, QC, hc, ctC, kC⟩ := t_run I
  refine j_aload_n d_Lw_law_155 rfl ?_
  refine j_callV (As := []) d_Lw_law_156 cb_Lw_28 vv_C_run hc rfl rfl rfl rfl (Nat.le_of_ble_eq_true rfl) (show 36 + 1 ≤ 200 by decide) (by omega) (by omega) ctC (fun w h' n' q _ => ?_)
  obtain ⟨r0, v, f, QM, rfl, hs, ctM, kM⟩ := kC w h' n' q
  have hmo : h' mo = some (.inr (11, mL mo v)) := by rw [← hs]; exact hM_0
  rw [hs] at ctM
  refine j_aload_n d_Lw_law_159 rfl ?_
  refine j_callV (As := []) d_Lw_law_160 cb_Lw_31 vv_Md_run hmo rfl rfl rfl rfl (Nat.le_of_ble_eq_true rfl) (show 4 + 1 ≤ 200 by decide) (Nat.zero_le _) (Nat.zero_le _) ctM (fun w h' n' q _ => ?_)
  obtain ⟨rfl, I2⟩ := kM w h' n' q
  refine j_icmp_eq (tgt := 412) d_Lw_law_163 (by decide) (fun _ => ?_) (fun z => absurd rfl z)
  exact J.room (Nat.le_refl _) (by omega) (by omega) (K _ _ I2)
set_option maxRecDepth 10000 in
theorem lw_answer (hL : sLen E ≤ 2048) (hi : i + 4 ≤ sLen E) (K : lwK E nm c mo i r) (I : LI E H n c mo) : J E (MLw nm) 200 (327 * (r + 1)) (1896 * (r + 1)) 168 [(0, .ref (E.2.2.2.2 4)), (1, .ref c), (2, .ref mo), (3, .int (nI i))] [] H n lwQ := by
  obtain ⟨fs, QC, hc, ctC, kC⟩ := t_answer (t := sAt E (i + 1)) (th := sAt E (i + 2)) (kd := sAt E (i + 3)) I
  refine j_aload_n d_Lw_law_168 rfl ?_
  refine j_aload_n d_Lw_law_169 rfl ?_
  refine j_iload_n d_Lw_law_170 rfl ?_
  refine j_iconst (v := 1) d_Lw_law_171 (by decide) ?_
  refine j_iadd d_Lw_law_172 ?_
  rw [show nI i + 1 = nI (i + 1) from nI_add i 1]
  refine j_scr d_Lw_law_173 (by omega) hL ?_
  refine j_aload_n d_Lw_law_174 rfl ?_
  refine j_iload_n d_Lw_law_175 rfl ?_
  refine j_iconst (v := 2) d_Lw_law_176 (by decide) ?_
  refine j_iadd d_Lw_law_177 ?_
  rw [show nI i + 2 = nI (i + 2) from nI_add i 2]
  refine j_scr d_Lw_law_178 (by omega) hL ?_
  refine j_aload_n d_Lw_law_179 rfl ?_
  refine j_iload_n d_Lw_law_180 rfl ?_
  refine j_iconst (v := 3) d_Lw_law_181 (by decide) ?_
  refine j_iadd d_Lw_law_182 ?_
  rw [show nI i + 3 = nI (i + 3) from nI_add i 3]
  refine j_scr d_Lw_law_183 (by omega) hL ?_
  refine j_callV (As := [.int (sAt E (i + 1)), .int (sAt E (i + 2)), .int (sAt E (i + 3))]) d_Lw_law_184 cb_Lw_32 vv_C_answer hc rfl rfl rfl rfl (Nat.le_of_ble_eq_true rfl) (show 2 + 1 ≤ 200 by decide) (by omega) (by omega) ctC (fun w h' n' q _ => ?_)
  obtain ⟨r0, v, f, QM, rfl, hs, ctM, kM⟩ := kC w h' n' q
  have hmo : h' mo = some (.inr (11, mL mo v)) := by rw [← hs]; exact hM_0
  rw [hs] at ctM
  refine j_aload_n d_Lw_law_187 rfl ?_
  refine j_aload_n d_Lw_law_188 rfl ?_
  refine j_iload_n d_Lw_law_189 rfl ?_
  refine j_iconst (v := 1) d_Lw_law_190 (by decide) ?_
  refine j_iadd d_Lw_law_191 ?_
  rw [show nI i + 1 = nI (i + 1) from nI_add i 1]
  refine j_scr d_Lw_law_192 (by omega) hL ?_
  refine j_aload_n d_Lw_law_193 rfl ?_
  refine j_iload_n d_Lw_law_194 rfl ?_
  refine j_iconst (v := 2) d_Lw_law_195 (by decide) ?_
  refine j_iadd d_Lw_law_196 ?_
  rw [show nI i + 2 = nI (i + 2) from nI_add i 2]
  refine j_scr d_Lw_law_197 (by omega) hL ?_
  refine j_aload_n d_Lw_law_198 rfl ?_
  refine j_iload_n d_Lw_law_199 rfl ?_
  refine j_iconst (v := 3) d_Lw_law_200 (by decide) ?_
  refine j_iadd d_Lw_law_201 ?_
  rw [show nI i + 3 = nI (i + 3) from nI_add i 3]
  refine j_scr d_Lw_law_202 (by omega) hL ?_
  refine j_callV (As := [.int (sAt E (i + 1)), .int (sAt E (i + 2)), .int (sAt E (i + 3))]) d_Lw_law_203 cb_Lw_36 vv_Md_answer hmo rfl rfl rfl rfl (Nat.le_of_ble_eq_true rfl) (show 2 + 1 ≤ 200 by decide) (Nat.zero_le _) (Nat.zero_le _) ctM (fun w h' n' q _ => ?_)
  obtain ⟨rfl, I2⟩ := kM w h' n' q
  refine j_icmp_eq (tgt := 412) d_Lw_law_206 (by decide) (fun _ => ?_) (fun z => absurd rfl z)
  exact J.room (Nat.le_refl _) (by omega) (by omega) (K _ _ I2)
set_option maxRecDepth 10000 in
theorem lw_truth (hL : sLen E ≤ 2048) (hi : i + 4 ≤ sLen E) (K : lwK E nm c mo i r) (I : LI E H n c mo) : J E (MLw nm) 200 (327 * (r + 1)) (1896 * (r + 1)) 211 [(0, .ref (E.2.2.2.2 4)), (1, .ref c), (2, .ref mo), (3, .int (nI i))] [] H n lwQ := by
  obtain ⟨fs, QC, hc, ctC, kC⟩ := t_truth (t := sAt E (i + 1)) (q0 := sAt E (i + 2)) I
  refine j_aload_n d_Lw_law_211 rfl ?_
  refine j_aload_n d_Lw_law_212 rfl ?_
  refine j_iload_n d_Lw_law_213 rfl ?_
  refine j_iconst (v := 1) d_Lw_law_214 (by decide) ?_
  refine j_iadd d_Lw_law_215 ?_
  rw [show nI i + 1 = nI (i + 1) from nI_add i 1]
  refine j_scr d_Lw_law_216 (by omega) hL ?_
  refine j_aload_n d_Lw_law_217 rfl ?_
  refine j_iload_n d_Lw_law_218 rfl ?_
  refine j_iconst (v := 2) d_Lw_law_219 (by decide) ?_
  refine j_iadd d_Lw_law_220 ?_
  rw [show nI i + 2 = nI (i + 2) from nI_add i 2]
  refine j_scr d_Lw_law_221 (by omega) hL ?_
  refine j_callV (As := [.int (sAt E (i + 1)), .int (sAt E (i + 2))]) d_Lw_law_222 cb_Lw_37 vv_C_truth hc rfl rfl rfl rfl (Nat.le_of_ble_eq_true rfl) (show 2 + 1 ≤ 200 by decide) (by omega) (by omega) ctC (fun w h' n' q _ => ?_)
  obtain ⟨r0, v, f, QM, rfl, hs, ctM, kM⟩ := kC w h' n' q
  have hmo : h' mo = some (.inr (11, mL mo v)) := by rw [← hs]; exact hM_0
  rw [hs] at ctM
  refine j_aload_n d_Lw_law_225 rfl ?_
  refine j_aload_n d_Lw_law_226 rfl ?_
  refine j_iload_n d_Lw_law_227 rfl ?_
  refine j_iconst (v := 1) d_Lw_law_228 (by decide) ?_
  refine j_iadd d_Lw_law_229 ?_
  rw [show nI i + 1 = nI (i + 1) from nI_add i 1]
  refine j_scr d_Lw_law_230 (by omega) hL ?_
  refine j_aload_n d_Lw_law_231 rfl ?_
  refine j_iload_n d_Lw_law_232 rfl ?_
  refine j_iconst (v := 2) d_Lw_law_233 (by decide) ?_
  refine j_iadd d_Lw_law_234 ?_
  rw [show nI i + 2 = nI (i + 2) from nI_add i 2]
  refine j_scr d_Lw_law_235 (by omega) hL ?_
  refine j_callV (As := [.int (sAt E (i + 1)), .int (sAt E (i + 2))]) d_Lw_law_236 cb_Lw_41 vv_Md_truth hmo rfl rfl rfl rfl (Nat.le_of_ble_eq_true rfl) (show 1 + 1 ≤ 200 by decide) (Nat.zero_le _) (Nat.zero_le _) ctM (fun w h' n' q _ => ?_)
  obtain ⟨rfl, I2⟩ := kM w h' n' q
  refine j_icmp_eq (tgt := 412) d_Lw_law_239 (by decide) (fun _ => ?_) (fun z => absurd rfl z)
  exact J.room (Nat.le_refl _) (by omega) (by omega) (K _ _ I2)
set_option maxRecDepth 10000 in
theorem lw_often (hL : sLen E ≤ 2048) (hi : i + 4 ≤ sLen E) (K : lwK E nm c mo i r) (I : LI E H n c mo) : J E (MLw nm) 200 (327 * (r + 1)) (1896 * (r + 1)) 244 [(0, .ref (E.2.2.2.2 4)), (1, .ref c), (2, .ref mo), (3, .int (nI i))] [] H n lwQ := by
  obtain ⟨fs, QC, hc, ctC, kC⟩ := t_often (t := sAt E (i + 1)) (kd := sAt E (i + 2)) (w := sAt E (i + 3)) I
  refine j_aload_n d_Lw_law_244 rfl ?_
  refine j_aload_n d_Lw_law_245 rfl ?_
  refine j_iload_n d_Lw_law_246 rfl ?_
  refine j_iconst (v := 1) d_Lw_law_247 (by decide) ?_
  refine j_iadd d_Lw_law_248 ?_
  rw [show nI i + 1 = nI (i + 1) from nI_add i 1]
  refine j_scr d_Lw_law_249 (by omega) hL ?_
  refine j_aload_n d_Lw_law_250 rfl ?_
  refine j_iload_n d_Lw_law_251 rfl ?_
  refine j_iconst (v := 2) d_Lw_law_252 (by decide) ?_
  refine j_iadd d_Lw_law_253 ?_
  rw [show nI i + 2 = nI (i + 2) from nI_add i 2]
  refine j_scr d_Lw_law_254 (by omega) hL ?_
  refine j_aload_n d_Lw_law_255 rfl ?_
  refine j_iload_n d_Lw_law_256 rfl ?_
  refine j_iconst (v := 3) d_Lw_law_257 (by decide) ?_
  refine j_iadd d_Lw_law_258 ?_
  rw [show nI i + 3 = nI (i + 3) from nI_add i 3]
  refine j_scr d_Lw_law_259 (by omega) hL ?_
  refine j_callV (As := [.int (sAt E (i + 1)), .int (sAt E (i + 2)), .int (sAt E (i + 3))]) d_Lw_law_260 cb_Lw_42 vv_C_often hc rfl rfl rfl rfl (Nat.le_of_ble_eq_true rfl) (show 36 + 1 ≤ 200 by decide) (by omega) (by omega) ctC (fun w h' n' q _ => ?_)
  obtain ⟨r0, v, f, QM, rfl, hs, ctM, kM⟩ := kC w h' n' q
  have hmo : h' mo = some (.inr (11, mL mo v)) := by rw [← hs]; exact hM_0
  rw [hs] at ctM
  refine j_aload_n d_Lw_law_263 rfl ?_
  refine j_aload_n d_Lw_law_264 rfl ?_
  refine j_iload_n d_Lw_law_265 rfl ?_
  refine j_iconst (v := 1) d_Lw_law_266 (by decide) ?_
  refine j_iadd d_Lw_law_267 ?_
  rw [show nI i + 1 = nI (i + 1) from nI_add i 1]
  refine j_scr d_Lw_law_268 (by omega) hL ?_
  refine j_aload_n d_Lw_law_269 rfl ?_
  refine j_iload_n d_Lw_law_270 rfl ?_
  refine j_iconst (v := 2) d_Lw_law_271 (by decide) ?_
  refine j_iadd d_Lw_law_272 ?_
  rw [show nI i + 2 = nI (i + 2) from nI_add i 2]
  refine j_scr d_Lw_law_273 (by omega) hL ?_
  refine j_aload_n d_Lw_law_274 rfl ?_
  refine j_iload_n d_Lw_law_275 rfl ?_
  refine j_iconst (v := 3) d_Lw_law_276 (by decide) ?_
  refine j_iadd d_Lw_law_277 ?_
  rw [show nI i + 3 = nI (i + 3) from nI_add i 3]
  refine j_scr d_Lw_law_278 (by omega) hL ?_
  refine j_callV (As := [.int (sAt E (i + 1)), .int (sAt E (i + 2)), .int (sAt E (i + 3))]) d_Lw_law_279 cb_Lw_45 vv_Md_often hmo rfl rfl rfl rfl (Nat.le_of_ble_eq_true rfl) (show 4 + 1 ≤ 200 by decide) (Nat.zero_le _) (Nat.zero_le _) ctM (fun w h' n' q _ => ?_)
  obtain ⟨rfl, I2⟩ := kM w h' n' q
  refine j_icmp_eq (tgt := 412) d_Lw_law_282 (by decide) (fun _ => ?_) (fun z => absurd rfl z)
  exact J.room (Nat.le_refl _) (by omega) (by omega) (K _ _ I2)
set_option maxRecDepth 10000 in
theorem lw_spare (hL : sLen E ≤ 2048) (hi : i + 4 ≤ sLen E) (K : lwK E nm c mo i r) (I : LI E H n c mo) : J E (MLw nm) 200 (327 * (r + 1)) (1896 * (r + 1)) 287 [(0, .ref (E.2.2.2.2 4)), (1, .ref c), (2, .ref mo), (3, .int (nI i))] [] H n lwQ := by
  obtain ⟨fs, QC, hc, ctC, kC⟩ := t_spare (t := sAt E (i + 1)) I
  refine j_aload_n d_Lw_law_287 rfl ?_
  refine j_aload_n d_Lw_law_288 rfl ?_
  refine j_iload_n d_Lw_law_289 rfl ?_
  refine j_iconst (v := 1) d_Lw_law_290 (by decide) ?_
  refine j_iadd d_Lw_law_291 ?_
  rw [show nI i + 1 = nI (i + 1) from nI_add i 1]
  refine j_scr d_Lw_law_292 (by omega) hL ?_
  refine j_callV (As := [.int (sAt E (i + 1))]) d_Lw_law_293 cb_Lw_46 vv_C_spare hc rfl rfl rfl rfl (Nat.le_of_ble_eq_true rfl) (show 36 + 1 ≤ 200 by decide) (by omega) (by omega) ctC (fun w h' n' q _ => ?_)
  obtain ⟨r0, v, f, QM, rfl, hs, ctM, kM⟩ := kC w h' n' q
  have hmo : h' mo = some (.inr (11, mL mo v)) := by rw [← hs]; exact hM_0
  rw [hs] at ctM
  refine j_aload_n d_Lw_law_296 rfl ?_
  refine j_aload_n d_Lw_law_297 rfl ?_
  refine j_iload_n d_Lw_law_298 rfl ?_
  refine j_iconst (v := 1) d_Lw_law_299 (by decide) ?_
  refine j_iadd d_Lw_law_300 ?_
  rw [show nI i + 1 = nI (i + 1) from nI_add i 1]
  refine j_scr d_Lw_law_301 (by omega) hL ?_
  refine j_callV (As := [.int (sAt E (i + 1))]) d_Lw_law_302 cb_Lw_49 vv_Md_spare hmo rfl rfl rfl rfl (Nat.le_of_ble_eq_true rfl) (show 4 + 1 ≤ 200 by decide) (Nat.zero_le _) (Nat.zero_le _) ctM (fun w h' n' q _ => ?_)
  obtain ⟨rfl, I2⟩ := kM w h' n' q
  refine j_icmp_eq (tgt := 412) d_Lw_law_305 (by decide) (fun _ => ?_) (fun z => absurd rfl z)
  exact J.room (Nat.le_refl _) (by omega) (by omega) (K _ _ I2)
set_option maxRecDepth 10000 in
theorem lw_cross (hL : sLen E ≤ 2048) (hi : i + 4 ≤ sLen E) (K : lwK E nm c mo i r) (I : LI E H n c mo) : J E (MLw nm) 200 (327 * (r + 1)) (1896 * (r + 1)) 310 [(0, .ref (E.2.2.2.2 4)), (1, .ref c), (2, .ref mo), (3, .int (nI i))] [] H n lwQ := by
  obtain ⟨fs, QC, hc, ctC, kC⟩ := t_cross I
  refine j_aload_n d_Lw_law_310 rfl ?_
  refine j_callV (As := []) d_Lw_law_311 cb_Lw_50 vv_C_cross hc rfl rfl rfl rfl (Nat.le_of_ble_eq_true rfl) (show 37 + 1 ≤ 200 by decide) (by omega) (by omega) ctC (fun w h' n' q _ => ?_)
  obtain ⟨r0, v, f, QM, rfl, hs, ctM, kM⟩ := kC w h' n' q
  have hmo : h' mo = some (.inr (11, mL mo v)) := by rw [← hs]; exact hM_0
  rw [hs] at ctM
  refine j_aload_n d_Lw_law_314 rfl ?_
  refine j_callV (As := []) d_Lw_law_315 cb_Lw_53 vv_Md_cross hmo rfl rfl rfl rfl (Nat.le_of_ble_eq_true rfl) (show 4 + 1 ≤ 200 by decide) (Nat.zero_le _) (Nat.zero_le _) ctM (fun w h' n' q _ => ?_)
  obtain ⟨rfl, I2⟩ := kM w h' n' q
  refine j_icmp_eq (tgt := 412) d_Lw_law_318 (by decide) (fun _ => ?_) (fun z => absurd rfl z)
  exact J.room (Nat.le_refl _) (by omega) (by omega) (K _ _ I2)
set_option maxRecDepth 10000 in
theorem lw_step (hL : sLen E ≤ 2048) (hi : i + 4 ≤ sLen E) (K : lwK E nm c mo i r) (I : LI E H n c mo) : J E (MLw nm) 200 (327 * (r + 1)) (1896 * (r + 1)) 323 [(0, .ref (E.2.2.2.2 4)), (1, .ref c), (2, .ref mo), (3, .int (nI i))] [] H n lwQ := by
  obtain ⟨fs, QC, hc, ctC, kC⟩ := t_step (t := sAt E (i + 1)) (w := sAt E (i + 2)) I
  refine j_aload_n d_Lw_law_323 rfl ?_
  refine j_aload_n d_Lw_law_324 rfl ?_
  refine j_iload_n d_Lw_law_325 rfl ?_
  refine j_iconst (v := 1) d_Lw_law_326 (by decide) ?_
  refine j_iadd d_Lw_law_327 ?_
  rw [show nI i + 1 = nI (i + 1) from nI_add i 1]
  refine j_scr d_Lw_law_328 (by omega) hL ?_
  refine j_aload_n d_Lw_law_329 rfl ?_
  refine j_iload_n d_Lw_law_330 rfl ?_
  refine j_iconst (v := 2) d_Lw_law_331 (by decide) ?_
  refine j_iadd d_Lw_law_332 ?_
  rw [show nI i + 2 = nI (i + 2) from nI_add i 2]
  refine j_scr d_Lw_law_333 (by omega) hL ?_
  refine j_callV (As := [.int (sAt E (i + 1)), .int (sAt E (i + 2))]) d_Lw_law_334 cb_Lw_54 vv_C_step hc rfl rfl rfl rfl (Nat.le_of_ble_eq_true rfl) (show 1 + 1 ≤ 200 by decide) (by omega) (by omega) ctC (fun w h' n' q _ => ?_)
  obtain ⟨r0, v, f, QM, rfl, hs, ctM, kM⟩ := kC w h' n' q
  have hmo : h' mo = some (.inr (11, mL mo v)) := by rw [← hs]; exact hM_0
  rw [hs] at ctM
  refine j_aload_n d_Lw_law_337 rfl ?_
  refine j_aload_n d_Lw_law_338 rfl ?_
  refine j_iload_n d_Lw_law_339 rfl ?_
  refine j_iconst (v := 1) d_Lw_law_340 (by decide) ?_
  refine j_iadd d_Lw_law_341 ?_
  rw [show nI i + 1 = nI (i + 1) from nI_add i 1]
  refine j_scr d_Lw_law_342 (by omega) hL ?_
  refine j_aload_n d_Lw_law_343 rfl ?_
  refine j_iload_n d_Lw_law_344 rfl ?_
  refine j_iconst (v := 2) d_Lw_law_345 (by decide) ?_
  refine j_iadd d_Lw_law_346 ?_
  rw [show nI i + 2 = nI (i + 2) from nI_add i 2]
  refine j_scr d_Lw_law_347 (by omega) hL ?_
  refine j_callV (As := [.int (sAt E (i + 1)), .int (sAt E (i + 2))]) d_Lw_law_348 cb_Lw_57 vv_Md_step hmo rfl rfl rfl rfl (Nat.le_of_ble_eq_true rfl) (show 0 + 1 ≤ 200 by decide) (Nat.zero_le _) (Nat.zero_le _) ctM (fun w h' n' q _ => ?_)
  obtain ⟨rfl, I2⟩ := kM w h' n' q
  refine j_icmp_eq (tgt := 412) d_Lw_law_351 (by decide) (fun _ => ?_) (fun z => absurd rfl z)
  exact J.room (Nat.le_refl _) (by omega) (by omega) (K _ _ I2)
set_option maxRecDepth 10000 in
theorem lw_may (hL : sLen E ≤ 2048) (hi : i + 4 ≤ sLen E) (K : lwK E nm c mo i r) (I : LI E H n c mo) : J E (MLw nm) 200 (327 * (r + 1)) (1896 * (r + 1)) 356 [(0, .ref (E.2.2.2.2 4)), (1, .ref c), (2, .ref mo), (3, .int (nI i))] [] H n lwQ := by
  obtain ⟨fs, QC, hc, ctC, kC⟩ := t_may (t := sAt E (i + 1)) (kd := sAt E (i + 2)) I
  refine j_aload_n d_Lw_law_356 rfl ?_
  refine j_aload_n d_Lw_law_357 rfl ?_
  refine j_iload_n d_Lw_law_358 rfl ?_
  refine j_iconst (v := 1) d_Lw_law_359 (by decide) ?_
  refine j_iadd d_Lw_law_360 ?_
  rw [show nI i + 1 = nI (i + 1) from nI_add i 1]
  refine j_scr d_Lw_law_361 (by omega) hL ?_
  refine j_aload_n d_Lw_law_362 rfl ?_
  refine j_iload_n d_Lw_law_363 rfl ?_
  refine j_iconst (v := 2) d_Lw_law_364 (by decide) ?_
  refine j_iadd d_Lw_law_365 ?_
  rw [show nI i + 2 = nI (i + 2) from nI_add i 2]
  refine j_scr d_Lw_law_366 (by omega) hL ?_
  refine j_callV (As := [.int (sAt E (i + 1)), .int (sAt E (i + 2))]) d_Lw_law_367 cb_Lw_58 vv_C_may hc rfl rfl rfl rfl (Nat.le_of_ble_eq_true rfl) (show 1 + 1 ≤ 200 by decide) (by omega) (by omega) ctC (fun w h' n' q _ => ?_)
  obtain ⟨r0, v, f, QM, rfl, hs, ctM, kM⟩ := kC w h' n' q
  have hmo : h' mo = some (.inr (11, mL mo v)) := by rw [← hs]; exact hM_0
  rw [hs] at ctM
  refine j_aload_n d_Lw_law_370 rfl ?_
  refine j_aload_n d_Lw_law_371 rfl ?_
  refine j_iload_n d_Lw_law_372 rfl ?_
  refine j_iconst (v := 1) d_Lw_law_373 (by decide) ?_
  refine j_iadd d_Lw_law_374 ?_
  rw [show nI i + 1 = nI (i + 1) from nI_add i 1]
  refine j_scr d_Lw_law_375 (by omega) hL ?_
  refine j_aload_n d_Lw_law_376 rfl ?_
  refine j_iload_n d_Lw_law_377 rfl ?_
  refine j_iconst (v := 2) d_Lw_law_378 (by decide) ?_
  refine j_iadd d_Lw_law_379 ?_
  rw [show nI i + 2 = nI (i + 2) from nI_add i 2]
  refine j_scr d_Lw_law_380 (by omega) hL ?_
  refine j_callV (As := [.int (sAt E (i + 1)), .int (sAt E (i + 2))]) d_Lw_law_381 cb_Lw_61 vv_Md_may hmo rfl rfl rfl rfl (Nat.le_of_ble_eq_true rfl) (show 1 + 1 ≤ 200 by decide) (Nat.zero_le _) (Nat.zero_le _) ctM (fun w h' n' q _ => ?_)
  obtain ⟨rfl, I2⟩ := kM w h' n' q
  refine j_icmp_eq (tgt := 412) d_Lw_law_384 (by decide) (fun _ => ?_) (fun z => absurd rfl z)
  exact J.room (Nat.le_refl _) (by omega) (by omega) (K _ _ I2)
set_option maxRecDepth 10000 in
theorem lw_mayBe (hL : sLen E ≤ 2048) (hi : i + 4 ≤ sLen E) (K : lwK E nm c mo i r) (I : LI E H n c mo) : J E (MLw nm) 200 (327 * (r + 1)) (1896 * (r + 1)) 389 [(0, .ref (E.2.2.2.2 4)), (1, .ref c), (2, .ref mo), (3, .int (nI i))] [] H n lwQ := by
  obtain ⟨fs, QC, hc, ctC, kC⟩ := t_mayBe (t := sAt E (i + 1)) I
  refine j_aload_n d_Lw_law_389 rfl ?_
  refine j_aload_n d_Lw_law_390 rfl ?_
  refine j_iload_n d_Lw_law_391 rfl ?_
  refine j_iconst (v := 1) d_Lw_law_392 (by decide) ?_
  refine j_iadd d_Lw_law_393 ?_
  rw [show nI i + 1 = nI (i + 1) from nI_add i 1]
  refine j_scr d_Lw_law_394 (by omega) hL ?_
  refine j_callV (As := [.int (sAt E (i + 1))]) d_Lw_law_395 cb_Lw_62 vv_C_mayBe hc rfl rfl rfl rfl (Nat.le_of_ble_eq_true rfl) (show 1 + 1 ≤ 200 by decide) (by omega) (by omega) ctC (fun w h' n' q _ => ?_)
  obtain ⟨r0, v, f, QM, rfl, hs, ctM, kM⟩ := kC w h' n' q
  have hmo : h' mo = some (.inr (11, mL mo v)) := by rw [← hs]; exact hM_0
  rw [hs] at ctM
  refine j_aload_n d_Lw_law_398 rfl ?_
  refine j_aload_n d_Lw_law_399 rfl ?_
  refine j_iload_n d_Lw_law_400 rfl ?_
  refine j_iconst (v := 1) d_Lw_law_401 (by decide) ?_
  refine j_iadd d_Lw_law_402 ?_
  rw [show nI i + 1 = nI (i + 1) from nI_add i 1]
  refine j_scr d_Lw_law_403 (by omega) hL ?_
  refine j_callV (As := [.int (sAt E (i + 1))]) d_Lw_law_404 cb_Lw_65 vv_Md_mayBe hmo rfl rfl rfl rfl (Nat.le_of_ble_eq_true rfl) (show 1 + 1 ≤ 200 by decide) (Nat.zero_le _) (Nat.zero_le _) ctM (fun w h' n' q _ => ?_)
  obtain ⟨rfl, I2⟩ := kM w h' n' q
  refine j_icmp_eq (tgt := 412) d_Lw_law_407 (by decide) (fun _ => ?_) (fun z => absurd rfl z)
  exact J.room (Nat.le_refl _) (by omega) (by omega) (K _ _ I2)
set_option maxRecDepth 10000 in
theorem and15 (x : Int32) : ∃ a, a < 16 ∧ x &&& 15 = nI a := by
  refine nI_ex (k := 4) (fun p h1 h2 => ?_)
  have t : ∀ p : Fin 32, 4 ≤ p.1 → tb 15 p.1 = false := by decide +kernel
  rw [tb_and, t ⟨p, h2⟩ h1, Bool.and_false]
set_option maxRecDepth 10000 in
theorem lw_loop (hL : sLen E ≤ 2048) : ∀ (r i : Nat) (H : HP) (n : Nat), sLen E < i + 4 * (r + 1) → i ≤ 2048 → LI E H n c mo → J E (MLw nm) 200 (327 * r) (1896 * r) 18 [(0, .ref (E.2.2.2.2 4)), (1, .ref c), (2, .ref mo), (3, .int (nI i))] [] H n lwQ := by
  intro r
  have stop : ∀ (r i : Nat) (H : HP) (n : Nat), ¬ i + 4 ≤ sLen E → i ≤ 2048 → J E (MLw nm) 200 (327 * r) (1896 * r) 18 [(0, .ref (E.2.2.2.2 4)), (1, .ref c), (2, .ref mo), (3, .int (nI i))] [] H n lwQ := by
    intro r i H n hi h2
    refine j_iload_n d_Lw_law_18 rfl ?_
    refine j_aload_n d_Lw_law_19 rfl ?_
    refine j_slen d_Lw_law_20 ?_
    refine j_iconst (v := 4) d_Lw_law_21 (by decide) ?_
    refine j_isub d_Lw_law_22 ?_
    refine j_icmp_gt (tgt := 418) d_Lw_law_23 (by decide) (fun _ => ?_) (fun z => absurd ?_ z)
    · refine j_iconst (v := 1) d_Lw_law_418 (by decide) ?_
      exact j_zret d_Lw_law_419 rfl (Or.inr rfl) rfl
    · by_cases e : 4 ≤ sLen E
      · rw [show nI (sLen E) - 4 = nI (sLen E - 4) from nI_sub (b := 4) e]
        exact nI_lt (by omega) (by omega)
      · have : ∀ q : Fin 4, nI q.1 - 4 < 0 := by decide +kernel
        exact Int32.lt_of_lt_of_le (this ⟨sLen E, by omega⟩) (nI_pos' (by omega))
  induction r with
  | zero =>
    intro i H n h1 h2 _
    exact stop 0 i H n (by omega) h2
  | succ r ih =>
    intro i H n h1 h2 I
    by_cases hi : i + 4 ≤ sLen E
    · have K : lwK E nm c mo i r := by
        intro H n I
        refine j_iinc (v := nI (i + 4)) d_Lw_law_412 rfl (nI_add i 4) (show 3 < 4 by decide) ?_
        refine j_goto (tgt := 18) d_Lw_law_415 (by decide) ?_
        exact ih (i + 4) H n (by omega) (by omega) I
      refine j_iload_n d_Lw_law_18 rfl ?_
      refine j_aload_n d_Lw_law_19 rfl ?_
      refine j_slen d_Lw_law_20 ?_
      refine j_iconst (v := 4) d_Lw_law_21 (by decide) ?_
      refine j_isub d_Lw_law_22 ?_
      rw [show nI (sLen E) - 4 = nI (sLen E - 4) from nI_sub (b := 4) (by omega)]
      refine j_icmp_gt (tgt := 418) d_Lw_law_23 (by decide) (fun z => absurd z (nI_nlt (by omega) (by omega))) (fun _ => ?_)
      refine j_aload_n d_Lw_law_26 rfl ?_
      refine j_iload_n d_Lw_law_27 rfl ?_
      refine j_scr d_Lw_law_28 (by omega) hL ?_
      refine j_bipush (v := 15) d_Lw_law_29 (by decide) ?_
      refine j_iand d_Lw_law_31 ?_
      obtain ⟨x, hx, ex⟩ := and15 (sAt E i)
      rw [ex]
      rcases (show x = 0 ∨ x = 1 ∨ x = 2 ∨ x = 3 ∨ x = 4 ∨ x = 5 ∨ x = 6 ∨ x = 7 ∨ x = 8 ∨ x = 9 ∨ x = 10 ∨ x = 11 ∨ 12 ≤ x by omega) with rfl | rfl | rfl | rfl | rfl | rfl | rfl | rfl | rfl | rfl | rfl | rfl | h12
      · exact j_tableIn (off := 64) (tgt := 96) d_Lw_law_32 (by decide) (by decide) (by decide) (by decide) (lw_unit hL hi K I)
      · exact j_tableIn (off := 87) (tgt := 119) d_Lw_law_32 (by decide) (by decide) (by decide) (by decide) (lw_read hL hi K I)
      · exact j_tableIn (off := 100) (tgt := 132) d_Lw_law_32 (by decide) (by decide) (by decide) (by decide) (lw_told hL hi K I)
      · exact j_tableIn (off := 123) (tgt := 155) d_Lw_law_32 (by decide) (by decide) (by decide) (by decide) (lw_run hL hi K I)
      · exact j_tableIn (off := 136) (tgt := 168) d_Lw_law_32 (by decide) (by decide) (by decide) (by decide) (lw_answer hL hi K I)
      · exact j_tableIn (off := 179) (tgt := 211) d_Lw_law_32 (by decide) (by decide) (by decide) (by decide) (lw_truth hL hi K I)
      · exact j_tableIn (off := 212) (tgt := 244) d_Lw_law_32 (by decide) (by decide) (by decide) (by decide) (lw_often hL hi K I)
      · exact j_tableIn (off := 255) (tgt := 287) d_Lw_law_32 (by decide) (by decide) (by decide) (by decide) (lw_spare hL hi K I)
      · exact j_tableIn (off := 278) (tgt := 310) d_Lw_law_32 (by decide) (by decide) (by decide) (by decide) (lw_cross hL hi K I)
      · exact j_tableIn (off := 291) (tgt := 323) d_Lw_law_32 (by decide) (by decide) (by decide) (by decide) (lw_step hL hi K I)
      · exact j_tableIn (off := 324) (tgt := 356) d_Lw_law_32 (by decide) (by decide) (by decide) (by decide) (lw_may hL hi K I)
      · exact j_tableIn (off := 357) (tgt := 389) d_Lw_law_32 (by decide) (by decide) (by decide) (by decide) (lw_mayBe hL hi K I)
      · refine j_tableOut (tgt := 412) d_Lw_law_32 (Or.inr ?_) (by decide) (J.room (Nat.le_refl _) (by omega) (by omega) (K H n I))
        rw [nI_toInt (by omega)]
        omega
    · exact stop (r + 1) i H n hi h2
end LAW

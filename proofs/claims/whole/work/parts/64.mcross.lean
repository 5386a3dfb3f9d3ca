section MCR
variable {E : EV} {h : HP} {n mo N K M cc : Nat} {v : Nat → Int32} {f : Nat → Nat → Int32} {φ : Nat → PhiT}
/-- is there one below i -/
def exP (P : Nat → Bool) : Nat → Bool
  | 0 => false
  | i + 1 => exP P i || P i
def esB (N K M : Nat) (φ : Nat → PhiT) (my be : Nat → Int32) (c st : Nat) : Bool := Hs N K M φ st c && opB my be N K M st
def svB (N K M : Nat) (φ : Nat → PhiT) (my be : Nat → Int32) (c kd t p i : Nat) : Bool := exP (fun st => esB N K M φ my be c st && (vS N K M st t kd == p)) i
def sbB (N K M : Nat) (φ : Nat → PhiT) (my be : Nat → Int32) (c q p i : Nat) : Bool := exP (fun st => esB N K M φ my be c st && (zS M st q == p)) i
def suT (g : Nat → Nat) : Nat → Nat
  | 0 => 0
  | t + 1 => suT g t + g t
def cfN (x : Int32) : Nat := (if tb x 0 = true then 1 else 0) + (if tb x 1 = true then 1 else 0) + (if tb x 2 = true then 1 else 0) + (if tb x 3 = true then 1 else 0)
set_option maxRecDepth 10000 in
theorem cof_N (x : Int32) : cof x = nI (cfN x) := by
  unfold cof cfN bI
  cases tb x 0 <;> cases tb x 1 <;> cases tb x 2 <;> cases tb x 3 <;> decide
def muT (my so : Nat → Int32) (N kd : Nat) : Nat := suT (fun t => cfN (my (4 * kd + t) &&& (so (4 * kd + t) ^^^ (-1)))) N
def muN (my so : Nat → Int32) (N K : Nat) : Nat := suT (muT my so N) K
def muB (be sb : Nat → Int32) (M : Nat) : Nat := suT (fun q => cfN (be q &&& (sb q ^^^ (-1)))) M
def SoB (N K M : Nat) (φ : Nat → PhiT) (my be : Nat → Int32) (c : Nat) (so : Nat → Int32) (i : Nat) : Prop := ∀ kd t p, kd < K → t < N → p < 32 → tb (so (4 * kd + t)) p = svB N K M φ my be c kd t p i
def SbB (N K M : Nat) (φ : Nat → PhiT) (my be : Nat → Int32) (c : Nat) (sb : Nat → Int32) (i : Nat) : Prop := ∀ q p, q < M → p < 32 → tb (sb q) p = sbB N K M φ my be c q p i
def CbQ (E : EV) (h : HP) (n mo : Nat) (v : Nat → Int32) (f : Nat → Nat → Int32) (N K M : Nat) (φ : Nat → PhiT) (c : Nat) : Option Value → HP → Nat → Prop := fun r h' n' => n' = n ∧ ∃ F so sb, h' = hM E h mo v F ∧ (∀ j, j < 15 ∨ 18 < j → F j = f j) ∧ SoB N K M φ (f 15) (f 16) c so (stN N K M) ∧ SbB N K M φ (f 15) (f 16) c sb (stN N K M) ∧ (∀ kd t, kd < K → t < N → F 15 (4 * kd + t) = f 15 (4 * kd + t) &&& so (4 * kd + t)) ∧ (∀ q, q < M → F 16 q = f 16 q &&& sb q) ∧ r = some (.int (nI (muN (f 15) so N K + muB (f 16) sb M)))
set_option maxRecDepth 10000 in
theorem c_Md_crossBy {c : Nat} (hb : E.2.2.2.1 ≤ mo) (P : MP v N K M cc) (kn : KnF v f N K M cc φ) (hc : c < cc) : Ct E m_Md_crossBy 3 0 0 [.ref mo, .int (nI c)] (hM E h mo v f) n (CbQ E h n mo v f N K M φ c) := by
  have hsz := stN_le (N := N) P.2.2.2.2.2.1 P.2.2.2.2.2.2.1
  have h5 := P.2.2.2.2.1
  have h6 := P.2.2.2.2.2.1
  have h7 := P.2.2.2.2.2.2.1
  have h8 := P.2.2.2.2.2.2.2
  have P0 := P
  obtain ⟨p1, p2, p3, p4, -⟩ := P
  refine Ct.go rfl rfl rfl ?_
  -- what was seen goes into the rows: persons
  have be2 : ∀ (so sb : Nat → Int32), SoB N K M φ (f 15) (f 16) c so (stN N K M) → SbB N K M φ (f 15) (f 16) c sb (stN N K M) → ∀ (k q : Nat) (F : Nat → Nat → Int32), q + k = M → (∀ j, j < 15 ∨ 18 < j → F j = f j) → F 18 = sb → (∀ kd t, kd < K → t < N → F 15 (4 * kd + t) = f 15 (4 * kd + t) &&& so (4 * kd + t)) → (∀ j, j < q → F 16 j = f 16 j &&& sb j) → (∀ j, q ≤ j → F 16 j = f 16 j) → ∀ L, L.take 4 = [(0, .ref mo), (1, .int (nI c)), (2, .int (nI (muN (f 15) so N K + muB (f 16) sb q))), (3, .int (nI q))] → J E m_Md_crossBy 3 0 0 294 L [] (hM E h mo v F) n (CbQ E h n mo v f N K M φ c) := by
    intro so sb hso hsb k
    induction k with
    | zero =>
      intro q F hq hF h18 h15 h16 _ L hL
      have hq : q = M := by omega
      subst hq
      refine J.tk 4 ?_
      rw [hL]
      refine j_iload_n d_Md_crossBy_294 rfl ?_
      refine j_aload_n d_Md_crossBy_295 rfl ?_
      refine m_get d_Md_crossBy_296 fl_Md_141 rfl ?_
      rw [p3]
      refine j_icmp_ge (tgt := 348) d_Md_crossBy_299 (by decide) (fun _ => ?_) (fun z => absurd (nI_le (Nat.le_refl _) (by omega)) z)
      refine j_iload_n d_Md_crossBy_348 rfl ?_
      exact j_iret d_Md_crossBy_349 rfl ⟨rfl, F, so, sb, rfl, hF, hso, hsb, h15, h16, rfl⟩
    | succ k ih =>
      intro q F hq hF h18 h15 h16 h16' L hL
      refine J.tk 4 ?_
      rw [hL]
      refine j_iload_n d_Md_crossBy_294 rfl ?_
      refine j_aload_n d_Md_crossBy_295 rfl ?_
      refine m_get d_Md_crossBy_296 fl_Md_141 rfl ?_
      rw [p3]
      refine j_icmp_ge (tgt := 348) d_Md_crossBy_299 (by decide) (fun z => absurd z (nI_ge (by omega) (by omega))) (fun _ => ?_)
      refine j_iload_n d_Md_crossBy_302 rfl ?_
      refine j_aload_n d_Md_crossBy_303 rfl ?_
      refine m_get d_Md_crossBy_304 fl_Md_61 rfl ?_
      refine j_iload_n d_Md_crossBy_307 rfl ?_
      refine m_ald (k := 16) (N := 3) d_Md_crossBy_308 (by decide) rfl (by omega) (by decide) ?_
      refine j_aload_n d_Md_crossBy_309 rfl ?_
      refine m_get d_Md_crossBy_310 fl_Md_67 rfl ?_
      refine j_iload_n d_Md_crossBy_313 rfl ?_
      refine m_ald (k := 18) (N := 3) d_Md_crossBy_314 (by decide) rfl (by omega) (by decide) ?_
      refine j_iconst (v := (-1)) d_Md_crossBy_315 (by decide) ?_
      refine j_ixor d_Md_crossBy_316 ?_
      refine j_iand d_Md_crossBy_317 ?_
      refine j_pS (As := [.int (F 16 q &&& (F 18 q ^^^ (-1)))]) d_Md_crossBy_318 cb_Md_192 sv_Md_countOf rfl rfl (Nat.le_of_ble_eq_true rfl) (d' := 0) (by decide) c_Md_countOf ?_
      rw [cof_N, h18, h16' q (Nat.le_refl _)]
      refine j_iadd d_Md_crossBy_321 ?_
      rw [nI_add, Nat.add_assoc (muN (f 15) so N K), show muB (f 16) sb q + cfN (f 16 q &&& (sb q ^^^ (-1))) = muB (f 16) sb (q + 1) from rfl]
      refine j_istore_n d_Md_crossBy_322 (by decide) ?_
      refine j_aload_n d_Md_crossBy_323 rfl ?_
      refine m_get d_Md_crossBy_324 fl_Md_61 rfl ?_
      refine j_iload_n d_Md_crossBy_327 rfl ?_
      refine j_aload_n d_Md_crossBy_328 rfl ?_
      refine m_get d_Md_crossBy_329 fl_Md_61 rfl ?_
      refine j_iload_n d_Md_crossBy_332 rfl ?_
      refine m_ald (k := 16) (N := 3) d_Md_crossBy_333 (by decide) rfl (by omega) (by decide) ?_
      refine j_aload_n d_Md_crossBy_334 rfl ?_
      refine m_get d_Md_crossBy_335 fl_Md_67 rfl ?_
      refine j_iload_n d_Md_crossBy_338 rfl ?_
      refine m_ald (k := 18) (N := 3) d_Md_crossBy_339 (by decide) rfl (by omega) (by decide) ?_
      refine j_iand d_Md_crossBy_340 ?_
      refine m_ast (k := 16) (N := 3) d_Md_crossBy_341 (by decide) rfl hb (by omega) (by decide) ?_
      rw [h18, h16' q (Nat.le_refl _)]
      refine j_iinc (v := nI (q + 1)) d_Md_crossBy_342 rfl (nI_succ q).symm (by decide) ?_
      refine j_goto (tgt := 294) d_Md_crossBy_345 (by decide) ?_
      refine ih (q + 1) (upG F 16 (upd (F 16) q (f 16 q &&& sb q))) (by omega) (fun j hj => by rw [upG_n _ _ (by omega)]; exact hF j hj) h18 h15 (fun j hj => ?_) (fun j hj => ?_) _ rfl
      · show upd (F 16) q _ j = _
        by_cases e : j = q
        · subst e; rw [upd_ss]
        · rw [upd_nn _ _ e]; exact h16 j (by omega)
      · show upd (F 16) q _ j = _
        rw [upd_nn _ _ (by omega)]; exact h16' j (by omega)
  -- .. and things
  have my2 : ∀ (so sb : Nat → Int32), SoB N K M φ (f 15) (f 16) c so (stN N K M) → SbB N K M φ (f 15) (f 16) c sb (stN N K M) → ∀ (k kd : Nat) (F : Nat → Nat → Int32), kd + k = K → (∀ j, j < 15 ∨ 18 < j → F j = f j) → F 17 = so → F 18 = sb → F 16 = f 16 → (∀ kd' t', t' < N → 4 * kd' + t' < 4 * kd → F 15 (4 * kd' + t') = f 15 (4 * kd' + t') &&& so (4 * kd' + t')) → (∀ j, 4 * kd ≤ j → F 15 j = f 15 j) → ∀ L, L.take 4 = [(0, .ref mo), (1, .int (nI c)), (2, .int (nI (muN (f 15) so N kd))), (3, .int (nI kd))] → J E m_Md_crossBy 3 0 0 195 L [] (hM E h mo v F) n (CbQ E h n mo v f N K M φ c) := by
    intro so sb hso hsb k
    induction k with
    | zero =>
      intro kd F hkd hF h17 h18 h16 h15 _ L hL
      have hkd : kd = K := by omega
      subst hkd
      refine J.tk 4 ?_
      rw [hL]
      refine j_iload_n d_Md_crossBy_195 rfl ?_
      refine j_aload_n d_Md_crossBy_196 rfl ?_
      refine m_get d_Md_crossBy_197 fl_Md_138 rfl ?_
      rw [p2]
      refine j_icmp_ge (tgt := 292) d_Md_crossBy_200 (by decide) (fun _ => ?_) (fun z => absurd (nI_le (Nat.le_refl _) (by omega)) z)
      refine j_iconst (v := 0) d_Md_crossBy_292 (by decide) ?_
      refine j_istore_n d_Md_crossBy_293 (by decide) ?_
      exact be2 so sb hso hsb M 0 F (by omega) hF h18 (fun a b ha hb => h15 a b hb (by omega)) (fun j hj => absurd hj (by omega)) (fun j _ => by rw [h16]) _ rfl
    | succ k ih =>
      intro kd F hkd hF h17 h18 h16 h15 h15' L hL
      refine J.tk 4 ?_
      rw [hL]
      refine j_iload_n d_Md_crossBy_195 rfl ?_
      refine j_aload_n d_Md_crossBy_196 rfl ?_
      refine m_get d_Md_crossBy_197 fl_Md_138 rfl ?_
      rw [p2]
      refine j_icmp_ge (tgt := 292) d_Md_crossBy_200 (by decide) (fun z => absurd z (nI_ge (by omega) (by omega))) (fun _ => ?_)
      refine j_iconst (v := 0) d_Md_crossBy_203 (by decide) ?_
      refine j_istore d_Md_crossBy_204 (by decide) ?_
      have inner : ∀ (k2 t : Nat) (F : Nat → Nat → Int32), t + k2 = N → (∀ j, j < 15 ∨ 18 < j → F j = f j) → F 17 = so → F 18 = sb → F 16 = f 16 → (∀ kd' t', t' < N → 4 * kd' + t' < 4 * kd + t → F 15 (4 * kd' + t') = f 15 (4 * kd' + t') &&& so (4 * kd' + t')) → (∀ j, 4 * kd + t ≤ j → F 15 j = f 15 j) → J E m_Md_crossBy 3 0 0 206 [(0, .ref mo), (1, .int (nI c)), (2, .int (nI (muN (f 15) so N kd + suT (fun t => cfN (f 15 (4 * kd + t) &&& (so (4 * kd + t) ^^^ (-1)))) t))), (3, .int (nI kd)), (4, .int (nI t))] [] (hM E h mo v F) n (CbQ E h n mo v f N K M φ c) := by
        intro k2
        induction k2 with
        | zero =>
          intro t F ht hF h17 h18 h16 h15 h15'
          have ht : t = N := by omega
          subst ht
          refine j_iload d_Md_crossBy_206 rfl ?_
          refine j_aload_n d_Md_crossBy_208 rfl ?_
          refine m_get d_Md_crossBy_209 fl_Md_13 rfl ?_
          rw [p1]
          refine j_icmp_ge (tgt := 286) d_Md_crossBy_212 (by decide) (fun _ => ?_) (fun z => absurd (nI_le (Nat.le_refl _) (by omega)) z)
          refine j_iinc (v := nI (kd + 1)) d_Md_crossBy_286 rfl (nI_succ kd).symm (by decide) ?_
          refine j_goto (tgt := 195) d_Md_crossBy_289 (by decide) ?_
          exact ih (kd + 1) F (by omega) hF h17 h18 h16 (fun a b hb hl => h15 a b hb (by omega)) (fun j hj => h15' j (by omega)) _ rfl
        | succ k2 ih2 =>
          intro t F ht hF h17 h18 h16 h15 h15'
          have e15 : F 15 (4 * kd + t) = f 15 (4 * kd + t) := h15' _ (Nat.le_refl _)
          refine j_iload d_Md_crossBy_206 rfl ?_
          refine j_aload_n d_Md_crossBy_208 rfl ?_
          refine m_get d_Md_crossBy_209 fl_Md_13 rfl ?_
          rw [p1]
          refine j_icmp_ge (tgt := 286) d_Md_crossBy_212 (by decide) (fun z => absurd z (nI_ge (by omega) (by omega))) (fun _ => ?_)
          refine j_iload_n d_Md_crossBy_215 rfl ?_
          refine j_aload_n d_Md_crossBy_216 rfl ?_
          refine m_get d_Md_crossBy_217 fl_Md_58 rfl ?_
          refine j_iconst (v := 4) d_Md_crossBy_220 (by decide) ?_
          refine j_iload_n d_Md_crossBy_221 rfl ?_
          refine j_imul d_Md_crossBy_222 ?_
          refine j_iload d_Md_crossBy_223 rfl ?_
          refine j_iadd d_Md_crossBy_225 ?_
          refine m_ald4 (k := 15) (N := 12) d_Md_crossBy_226 (by decide) rfl (by omega) (by decide) ?_
          refine j_aload_n d_Md_crossBy_227 rfl ?_
          refine m_get d_Md_crossBy_228 fl_Md_64 rfl ?_
          refine j_iconst (v := 4) d_Md_crossBy_231 (by decide) ?_
          refine j_iload_n d_Md_crossBy_232 rfl ?_
          refine j_imul d_Md_crossBy_233 ?_
          refine j_iload d_Md_crossBy_234 rfl ?_
          refine j_iadd d_Md_crossBy_236 ?_
          refine m_ald4 (k := 17) (N := 12) d_Md_crossBy_237 (by decide) rfl (by omega) (by decide) ?_
          rw [h17, e15]
          refine j_iconst (v := (-1)) d_Md_crossBy_238 (by decide) ?_
          refine j_ixor d_Md_crossBy_239 ?_
          refine j_iand d_Md_crossBy_240 ?_
          refine j_pS (As := [.int (f 15 (4 * kd + t) &&& (so (4 * kd + t) ^^^ (-1)))]) d_Md_crossBy_241 cb_Md_192 sv_Md_countOf rfl rfl (Nat.le_of_ble_eq_true rfl) (d' := 0) (by decide) c_Md_countOf ?_
          rw [cof_N]
          refine j_iadd d_Md_crossBy_244 ?_
          rw [nI_add, Nat.add_assoc (muN (f 15) so N kd)]
          refine j_istore_n d_Md_crossBy_245 (by decide) ?_
          refine j_aload_n d_Md_crossBy_246 rfl ?_
          refine m_get d_Md_crossBy_247 fl_Md_58 rfl ?_
          refine j_iconst (v := 4) d_Md_crossBy_250 (by decide) ?_
          refine j_iload_n d_Md_crossBy_251 rfl ?_
          refine j_imul d_Md_crossBy_252 ?_
          refine j_iload d_Md_crossBy_253 rfl ?_
          refine j_iadd d_Md_crossBy_255 ?_
          refine j_aload_n d_Md_crossBy_256 rfl ?_
          refine m_get d_Md_crossBy_257 fl_Md_58 rfl ?_
          refine j_iconst (v := 4) d_Md_crossBy_260 (by decide) ?_
          refine j_iload_n d_Md_crossBy_261 rfl ?_
          refine j_imul d_Md_crossBy_262 ?_
          refine j_iload d_Md_crossBy_263 rfl ?_
          refine j_iadd d_Md_crossBy_265 ?_
          refine m_ald4 (k := 15) (N := 12) d_Md_crossBy_266 (by decide) rfl (by omega) (by decide) ?_
          refine j_aload_n d_Md_crossBy_267 rfl ?_
          refine m_get d_Md_crossBy_268 fl_Md_64 rfl ?_
          refine j_iconst (v := 4) d_Md_crossBy_271 (by decide) ?_
          refine j_iload_n d_Md_crossBy_272 rfl ?_
          refine j_imul d_Md_crossBy_273 ?_
          refine j_iload d_Md_crossBy_274 rfl ?_
          refine j_iadd d_Md_crossBy_276 ?_
          refine m_ald4 (k := 17) (N := 12) d_Md_crossBy_277 (by decide) rfl (by omega) (by decide) ?_
          rw [h17, e15]
          refine j_iand d_Md_crossBy_278 ?_
          refine m_ast4 (k := 15) (N := 12) d_Md_crossBy_279 (by decide) rfl hb (by omega) (by decide) ?_
          refine j_iinc (v := nI (t + 1)) d_Md_crossBy_280 rfl (nI_succ t).symm (by decide) ?_
          refine j_goto (tgt := 206) d_Md_crossBy_283 (by decide) ?_
          refine ih2 (t + 1) _ (by omega) (fun j hj => by rw [upG_n _ _ (by omega)]; exact hF j hj) h17 h18 h16 (fun a b hb hl => ?_) (fun j hj => ?_)
          · show upd (F 15) (4 * kd + t) _ _ = _
            by_cases e : 4 * a + b = 4 * kd + t
            · rw [e, upd_ss]
            · rw [upd_nn _ _ e]; exact h15 a b hb (by omega)
          · show upd (F 15) (4 * kd + t) _ _ = _
            rw [upd_nn _ _ (by omega)]; exact h15' j (by omega)
      exact inner N 0 F (by omega) hF h17 h18 h16 h15 h15'
  -- the states
  have main : ∀ (k i : Nat) (F : Nat → Nat → Int32), i + k = stN N K M → (∀ j, j ≠ 17 → j ≠ 18 → F j = f j) → SoB N K M φ (f 15) (f 16) c (F 17) i → SbB N K M φ (f 15) (f 16) c (F 18) i → ∀ L, L.take 3 = [(0, .ref mo), (1, .int (nI c)), (2, .int (nI i))] → J E m_Md_crossBy 3 0 0 43 L [] (hM E h mo v F) n (CbQ E h n mo v f N K M φ c) := by
    intro k
    induction k with
    | zero =>
      intro i F hi hF hso hsb L hL
      have hi : i = stN N K M := by omega
      refine J.tk 3 ?_
      rw [hL]
      refine j_iload_n d_Md_crossBy_43 rfl ?_
      refine j_aload_n d_Md_crossBy_44 rfl ?_
      refine m_pV (As := []) d_Md_crossBy_45 cb_Md_163 vv_Md_states rfl rfl rfl (Nat.le_of_ble_eq_true rfl) (d' := 0) (by decide) (c_Md_states P0 kn.1) ?_
      refine j_icmp_ge (tgt := 191) d_Md_crossBy_48 (by decide) (fun _ => ?_) (fun q => absurd (nI_le (by omega) (by omega)) q)
      refine j_iconst (v := 0) d_Md_crossBy_191 (by decide) ?_
      refine j_istore_n d_Md_crossBy_192 (by decide) ?_
      refine j_iconst (v := 0) d_Md_crossBy_193 (by decide) ?_
      refine j_istore_n d_Md_crossBy_194 (by decide) ?_
      rw [hi] at hso hsb
      exact my2 (F 17) (F 18) hso hsb K 0 F (by omega) (fun j hj => hF j (by omega) (by omega)) rfl rfl (hF 16 (by decide) (by decide)) (fun a b _ hl => absurd hl (by omega)) (fun j _ => by rw [hF 15 (by decide) (by decide)]) _ rfl
    | succ k ih =>
      intro i F hi hF hso hsb L hL
      have kn2 : KnF v F N K M cc φ := kn.cg rfl (hF _ (by decide) (by decide)) (hF _ (by decide) (by decide)) (hF _ (by decide) (by decide))
      refine J.tk 3 ?_
      rw [hL]
      refine j_iload_n d_Md_crossBy_43 rfl ?_
      refine j_aload_n d_Md_crossBy_44 rfl ?_
      refine m_pV (As := []) d_Md_crossBy_45 cb_Md_163 vv_Md_states rfl rfl rfl (Nat.le_of_ble_eq_true rfl) (d' := 0) (by decide) (c_Md_states P0 kn.1) ?_
      refine j_icmp_ge (tgt := 191) d_Md_crossBy_48 (by decide) (fun q => absurd q (nI_ge (by omega) (by omega))) (fun _ => ?_)
      have skip : ∀ (L : List (Nat × Value)), L.take 3 = [(0, .ref mo), (1, .int (nI c)), (2, .int (nI i))] → esB N K M φ (f 15) (f 16) c i = false → J E m_Md_crossBy 3 0 0 185 L [] (hM E h mo v F) n (CbQ E h n mo v f N K M φ c) := by
        intro L hL es
        refine J.tk 3 ?_
        rw [hL]
        refine j_iinc (v := nI (i + 1)) d_Md_crossBy_185 rfl (nI_succ i).symm (by decide) ?_
        refine j_goto (tgt := 43) d_Md_crossBy_188 (by decide) ?_
        refine ih (i + 1) F (by omega) hF (fun a b p ha hb hp => ?_) (fun q p hq hp => ?_) _ rfl
        · rw [hso a b p ha hb hp]; unfold svB; rw [exP, es, Bool.false_and, Bool.or_false]
        · rw [hsb q p hq hp]; unfold sbB; rw [exP, es, Bool.false_and, Bool.or_false]
      refine j_aload_n d_Md_crossBy_51 rfl ?_
      refine m_get d_Md_crossBy_52 fl_Md_48 rfl ?_
      refine j_iload_n d_Md_crossBy_55 rfl ?_
      refine m_ald (k := 12) (N := 110592) d_Md_crossBy_56 (by decide) rfl (by omega) (by decide) ?_
      refine j_iload_n d_Md_crossBy_57 rfl ?_
      refine j_ishr d_Md_crossBy_58 ?_
      refine j_iconst (v := 1) d_Md_crossBy_59 (by decide) ?_
      refine j_iand d_Md_crossBy_60 ?_
      rw [tb_low (by omega)]
      have e12 : tb (F 12 i) c = Hs N K M φ i c := by
        rw [kn2.2.2.2 i (by omega) c (by omega), decide_eq_true hc, Bool.true_and]
      rw [e12]
      refine j_if_eq (tgt := 185) d_Md_crossBy_61 (by decide) (fun q => skip _ rfl (by unfold esB; rw [Bool.eq_false_iff.mpr (bI_eq q), Bool.false_and])) (fun q => ?_)
      refine j_aload_n d_Md_crossBy_64 rfl ?_
      refine j_iload_n d_Md_crossBy_65 rfl ?_
      refine m_pV (As := [.int (nI i)]) d_Md_crossBy_66 cb_Md_189 vv_Md_isOpen rfl rfl rfl (Nat.le_of_ble_eq_true rfl) (d' := 2) (by decide) (c_Md_isOpen P0 kn.1 kn2.2.1 (by omega)) ?_
      rw [hF 15 (by decide) (by decide), hF 16 (by decide) (by decide)]
      refine j_if_ne (tgt := 75) d_Md_crossBy_69 (by decide) (fun q2 => ?_) (fun q2 => ?_)
      rotate_left
      · refine j_goto (tgt := 185) d_Md_crossBy_72 (by decide) ?_
        exact skip _ rfl (by unfold esB; rw [Bool.eq_false_iff.mpr (bI_eq q2), Bool.and_false])
      have es : esB N K M φ (f 15) (f 16) c i = true := by unfold esB; rw [bI_ne q, bI_ne q2]; rfl
      clear skip q q2 e12
      have sv1 : ∀ kd t p, svB N K M φ (f 15) (f 16) c kd t p (i + 1) = (svB N K M φ (f 15) (f 16) c kd t p i || (vS N K M i t kd == p)) := fun kd t p => by unfold svB; rw [exP, es, Bool.true_and]
      have sb1 : ∀ q p, sbB N K M φ (f 15) (f 16) c q p (i + 1) = (sbB N K M φ (f 15) (f 16) c q p i || (zS M i q == p)) := fun q p => by unfold sbB; rw [exP, es, Bool.true_and]
      -- the persons of this state
      have pers : ∀ (k2 q : Nat) (G : Nat → Nat → Int32), q + k2 = M → (∀ j, j ≠ 17 → j ≠ 18 → G j = f j) → SoB N K M φ (f 15) (f 16) c (G 17) (i + 1) → (∀ q' p, q' < M → p < 32 → tb (G 18 q') p = sbB N K M φ (f 15) (f 16) c q' p (if q' < q then i + 1 else i)) → ∀ L, L.take 4 = [(0, .ref mo), (1, .int (nI c)), (2, .int (nI i)), (3, .int (nI q))] → J E m_Md_crossBy 3 0 0 144 L [] (hM E h mo v G) n (CbQ E h n mo v f N K M φ c) := by
        intro k2
        induction k2 with
        | zero =>
          intro q G hq hG hso hsb L hL
          have hq : q = M := by omega
          subst hq
          refine J.tk 4 ?_
          rw [hL]
          refine j_iload_n d_Md_crossBy_144 rfl ?_
          refine j_aload_n d_Md_crossBy_145 rfl ?_
          refine m_get d_Md_crossBy_146 fl_Md_141 rfl ?_
          rw [p3]
          refine j_icmp_ge (tgt := 185) d_Md_crossBy_149 (by decide) (fun _ => ?_) (fun z => absurd (nI_le (Nat.le_refl _) (by omega)) z)
          refine j_iinc (v := nI (i + 1)) d_Md_crossBy_185 rfl (nI_succ i).symm (by decide) ?_
          refine j_goto (tgt := 43) d_Md_crossBy_188 (by decide) ?_
          refine ih (i + 1) G (by omega) hG hso (fun q' p hq' hp => ?_) _ rfl
          rw [hsb q' p hq' hp, if_pos hq']
        | succ k2 ih2 =>
          intro q G hq hG hso hsb L hL
          refine J.tk 4 ?_
          rw [hL]
          refine j_iload_n d_Md_crossBy_144 rfl ?_
          refine j_aload_n d_Md_crossBy_145 rfl ?_
          refine m_get d_Md_crossBy_146 fl_Md_141 rfl ?_
          rw [p3]
          refine j_icmp_ge (tgt := 185) d_Md_crossBy_149 (by decide) (fun z => absurd z (nI_ge (by omega) (by omega))) (fun _ => ?_)
          refine j_aload_n d_Md_crossBy_152 rfl ?_
          refine m_get d_Md_crossBy_153 fl_Md_67 rfl ?_
          refine j_iload_n d_Md_crossBy_156 rfl ?_
          refine j_aload_n d_Md_crossBy_157 rfl ?_
          refine m_get d_Md_crossBy_158 fl_Md_67 rfl ?_
          refine j_iload_n d_Md_crossBy_161 rfl ?_
          refine m_ald (k := 18) (N := 3) d_Md_crossBy_162 (by decide) rfl (by omega) (by decide) ?_
          refine j_aload_n d_Md_crossBy_163 rfl ?_
          refine j_iload_n d_Md_crossBy_164 rfl ?_
          refine j_iload_n d_Md_crossBy_165 rfl ?_
          refine m_pV (As := [.int (nI i), .int (nI q)]) d_Md_crossBy_166 cb_Md_156 vv_Md_isTruthful rfl rfl rfl (Nat.le_of_ble_eq_true rfl) (d' := 0) (by decide) (c_Md_isTruthful P0 (by omega)) ?_
          have fin : ∀ x : Int32, x = 1 <<< (nI (zS M i q) &&& 31) → J E m_Md_crossBy 3 0 0 177 [(0, .ref mo), (1, .int (nI c)), (2, .int (nI i)), (3, .int (nI q))] [.int x, .int (G 18 q), .int (nI q), .ref (mo + 18)] (hM E h mo v G) n (CbQ E h n mo v f N K M φ c) := by
            intro x hx
            have hz : zS M i q < 32 := by unfold zS; split <;> decide
            refine j_ior d_Md_crossBy_177 ?_
            refine m_ast (k := 18) (N := 3) d_Md_crossBy_178 (by decide) rfl hb (by omega) (by decide) ?_
            refine j_iinc (v := nI (q + 1)) d_Md_crossBy_179 rfl (nI_succ q).symm (by decide) ?_
            refine j_goto (tgt := 144) d_Md_crossBy_182 (by decide) ?_
            refine ih2 (q + 1) (upG G 18 (upd (G 18) q (G 18 q ||| x))) (by omega) (fun j h1 h2 => by rw [upG_n _ _ h2]; exact hG j h1 h2) hso (fun q' p hq' hp => ?_) _ rfl
            show tb (upd (G 18) q (G 18 q ||| x) q') p = _
            by_cases e : q' = q
            · subst e
              rw [upd_ss, tb_or, hsb q' p hq' hp, if_neg (by omega), if_pos (by omega), hx, tb_shl hz hp, sb1]
              congr 1
              by_cases e2 : p = zS M i q'
              · rw [decide_eq_true e2, e2, beq_self_eq_true]
              · rw [decide_eq_false e2, beq_eq_false_iff_ne.mpr (fun y => e2 y.symm)]
            · rw [upd_nn _ _ e, hsb q' p hq' hp]
              by_cases e2 : q' < q
              · rw [if_pos e2, if_pos (by omega)]
              · rw [if_neg e2, if_neg (by omega)]
          refine j_if_eq (tgt := 176) d_Md_crossBy_169 (by decide) (fun z => ?_) (fun z => ?_)
          · refine j_iconst (v := 1) d_Md_crossBy_176 (by decide) ?_
            exact fin 1 (by rw [show zS M i q = 0 from if_neg (bI_eq z)]; decide)
          · refine j_iconst (v := 2) d_Md_crossBy_172 (by decide) ?_
            refine j_goto (tgt := 177) d_Md_crossBy_173 (by decide) ?_
            exact fin 2 (by rw [show zS M i q = 1 from if_pos (bI_ne z)]; decide)
      have thin : ∀ (k2 kd : Nat) (G : Nat → Nat → Int32), kd + k2 = K → (∀ j, j ≠ 17 → j ≠ 18 → G j = f j) → SbB N K M φ (f 15) (f 16) c (G 18) i → (∀ a b p, a < K → b < N → p < 32 → tb (G 17 (4 * a + b)) p = svB N K M φ (f 15) (f 16) c a b p (if 4 * a + b < 4 * kd then i + 1 else i)) → ∀ L, L.take 4 = [(0, .ref mo), (1, .int (nI c)), (2, .int (nI i)), (3, .int (nI kd))] → J E m_Md_crossBy 3 0 0 77 L [] (hM E h mo v G) n (CbQ E h n mo v f N K M φ c) := by
        intro k2
        induction k2 with
        | zero =>
          intro kd G hkd hG hsb hso L hL
          have hkd : kd = K := by omega
          subst hkd
          refine J.tk 4 ?_
          rw [hL]
          refine j_iload_n d_Md_crossBy_77 rfl ?_
          refine j_aload_n d_Md_crossBy_78 rfl ?_
          refine m_get d_Md_crossBy_79 fl_Md_138 rfl ?_
          rw [p2]
          refine j_icmp_ge (tgt := 142) d_Md_crossBy_82 (by decide) (fun _ => ?_) (fun z => absurd (nI_le (Nat.le_refl _) (by omega)) z)
          refine j_iconst (v := 0) d_Md_crossBy_142 (by decide) ?_
          refine j_istore_n d_Md_crossBy_143 (by decide) ?_
          refine pers M 0 G (by omega) hG (fun a b p ha hb hp => ?_) (fun q' p hq' hp => ?_) _ rfl
          · rw [hso a b p ha hb hp, if_pos (by omega)]
          · rw [hsb q' p hq' hp, if_neg (by omega)]
        | succ k2 ih2 =>
          intro kd G hkd hG hsb hso L hL
          refine J.tk 4 ?_
          rw [hL]
          refine j_iload_n d_Md_crossBy_77 rfl ?_
          refine j_aload_n d_Md_crossBy_78 rfl ?_
          refine m_get d_Md_crossBy_79 fl_Md_138 rfl ?_
          rw [p2]
          refine j_icmp_ge (tgt := 142) d_Md_crossBy_82 (by decide) (fun z => absurd z (nI_ge (by omega) (by omega))) (fun _ => ?_)
          refine j_iconst (v := 0) d_Md_crossBy_85 (by decide) ?_
          refine j_istore d_Md_crossBy_86 (by decide) ?_
          have inner : ∀ (k3 t : Nat) (G : Nat → Nat → Int32), t + k3 = N → (∀ j, j ≠ 17 → j ≠ 18 → G j = f j) → SbB N K M φ (f 15) (f 16) c (G 18) i → (∀ a b p, a < K → b < N → p < 32 → tb (G 17 (4 * a + b)) p = svB N K M φ (f 15) (f 16) c a b p (if 4 * a + b < 4 * kd + t then i + 1 else i)) → J E m_Md_crossBy 3 0 0 88 [(0, .ref mo), (1, .int (nI c)), (2, .int (nI i)), (3, .int (nI kd)), (4, .int (nI t))] [] (hM E h mo v G) n (CbQ E h n mo v f N K M φ c) := by
            intro k3
            induction k3 with
            | zero =>
              intro t G ht hG hsb hso
              have ht : t = N := by omega
              subst ht
              refine j_iload d_Md_crossBy_88 rfl ?_
              refine j_aload_n d_Md_crossBy_90 rfl ?_
              refine m_get d_Md_crossBy_91 fl_Md_13 rfl ?_
              rw [p1]
              refine j_icmp_ge (tgt := 136) d_Md_crossBy_94 (by decide) (fun _ => ?_) (fun z => absurd (nI_le (Nat.le_refl _) (by omega)) z)
              refine j_iinc (v := nI (kd + 1)) d_Md_crossBy_136 rfl (nI_succ kd).symm (by decide) ?_
              refine j_goto (tgt := 77) d_Md_crossBy_139 (by decide) ?_
              refine ih2 (kd + 1) G (by omega) hG hsb (fun a b p ha hb hp => ?_) _ rfl
              rw [hso a b p ha hb hp]
              by_cases e : 4 * a + b < 4 * kd + t
              · rw [if_pos e, if_pos (by omega)]
              · rw [if_neg e, if_neg (by omega)]
            | succ k3 ih3 =>
              intro t G ht hG hsb hso
              have kn3 : MV G N := by
                have := kn.2.1
                intro o t ho ht
                rw [hG 10 (by decide) (by decide)]
                exact this o t ho ht
              have hv := vS_lt (M := M) (st := i) h5 (show kd < K by omega) (show t < N by omega)
              refine j_iload d_Md_crossBy_88 rfl ?_
              refine j_aload_n d_Md_crossBy_90 rfl ?_
              refine m_get d_Md_crossBy_91 fl_Md_13 rfl ?_
              rw [p1]
              refine j_icmp_ge (tgt := 136) d_Md_crossBy_94 (by decide) (fun z => absurd z (nI_ge (by omega) (by omega))) (fun _ => ?_)
              refine j_aload_n d_Md_crossBy_97 rfl ?_
              refine m_get d_Md_crossBy_98 fl_Md_64 rfl ?_
              refine j_iconst (v := 4) d_Md_crossBy_101 (by decide) ?_
              refine j_iload_n d_Md_crossBy_102 rfl ?_
              refine j_imul d_Md_crossBy_103 ?_
              refine j_iload d_Md_crossBy_104 rfl ?_
              refine j_iadd d_Md_crossBy_106 ?_
              refine j_aload_n d_Md_crossBy_107 rfl ?_
              refine m_get d_Md_crossBy_108 fl_Md_64 rfl ?_
              refine j_iconst (v := 4) d_Md_crossBy_111 (by decide) ?_
              refine j_iload_n d_Md_crossBy_112 rfl ?_
              refine j_imul d_Md_crossBy_113 ?_
              refine j_iload d_Md_crossBy_114 rfl ?_
              refine j_iadd d_Md_crossBy_116 ?_
              refine m_ald4 (k := 17) (N := 12) d_Md_crossBy_117 (by decide) rfl (by omega) (by decide) ?_
              refine j_iconst (v := 1) d_Md_crossBy_118 (by decide) ?_
              refine j_aload_n d_Md_crossBy_119 rfl ?_
              refine j_iload_n d_Md_crossBy_120 rfl ?_
              refine j_iload d_Md_crossBy_121 rfl ?_
              refine j_iload_n d_Md_crossBy_123 rfl ?_
              refine m_pV (As := [.int (nI i), .int (nI t), .int (nI kd)]) d_Md_crossBy_124 cb_Md_182 vv_Md_valueOf rfl rfl rfl (Nat.le_of_ble_eq_true rfl) (d' := 1) (by decide) (c_Md_vO P0 kn.1 kn3 (by omega) (by omega) (by omega)) ?_
              refine j_ishl d_Md_crossBy_127 ?_
              refine j_ior d_Md_crossBy_128 ?_
              refine m_ast4 (k := 17) (N := 12) d_Md_crossBy_129 (by decide) rfl hb (by omega) (by decide) ?_
              refine j_iinc (v := nI (t + 1)) d_Md_crossBy_130 rfl (nI_succ t).symm (by decide) ?_
              refine j_goto (tgt := 88) d_Md_crossBy_133 (by decide) ?_
              refine ih3 (t + 1) _ (by omega) (fun j h1 h2 => by rw [upG_n _ _ h1]; exact hG j h1 h2) hsb (fun a b p ha hb hp => ?_)
              show tb (upd (G 17) (4 * kd + t) _ (4 * a + b)) p = _
              by_cases e : 4 * a + b = 4 * kd + t
              · have ea : a = kd := by omega
                have eb : b = t := by omega
                subst ea eb
                rw [upd_ss, tb_or, hso a b p ha hb hp, if_neg (by omega), if_pos (by omega), tb_shl (by omega) hp, sv1]
                congr 1
                by_cases e2 : p = vS N K M i b a
                · rw [decide_eq_true e2, e2, beq_self_eq_true]
                · rw [decide_eq_false e2, beq_eq_false_iff_ne.mpr (fun y => e2 y.symm)]
              · rw [upd_nn _ _ e, hso a b p ha hb hp]
                by_cases e2 : 4 * a + b < 4 * kd + t
                · rw [if_pos e2, if_pos (by omega)]
                · rw [if_neg e2, if_neg (by omega)]
          exact inner N 0 G (by omega) hG hsb hso
      refine j_iconst (v := 0) d_Md_crossBy_75 (by decide) ?_
      refine j_istore_n d_Md_crossBy_76 (by decide) ?_
      exact thin K 0 F (by omega) hF hsb (fun a b p ha hb hp => by rw [if_neg (by omega)]; exact hso a b p ha hb hp) _ rfl
  -- the two rows, emptied
  have zer2 : ∀ (k i : Nat) (F : Nat → Nat → Int32), i + k = 3 → (∀ j, j ≠ 17 → j ≠ 18 → F j = f j) → (∀ j, j < 12 → F 17 j = 0) → (∀ j, j < i → F 18 j = 0) → J E m_Md_crossBy 3 0 0 23 [(0, .ref mo), (1, .int (nI c)), (2, .int (nI i))] [] (hM E h mo v F) n (CbQ E h n mo v f N K M φ c) := by
    intro k
    induction k with
    | zero =>
      intro i F hi hF h17 h18
      have hi : i = 3 := by omega
      subst hi
      refine j_iload_n d_Md_crossBy_23 rfl ?_
      refine j_iconst (v := 3) d_Md_crossBy_24 (by decide) ?_
      refine j_icmp_ge (tgt := 41) d_Md_crossBy_25 (by decide) (fun _ => ?_) (fun z => absurd (by decide) z)
      refine j_iconst (v := 0) d_Md_crossBy_41 (by decide) ?_
      refine j_istore_n d_Md_crossBy_42 (by decide) ?_
      refine main (stN N K M) 0 F (by omega) hF (fun a b p ha hb hp => ?_) (fun q p hq hp => ?_) _ rfl
      · rw [h17 _ (by omega), tb_0]; rfl
      · rw [h18 _ (by omega), tb_0]; rfl
    | succ k ih =>
      intro i F hi hF h17 h18
      refine j_iload_n d_Md_crossBy_23 rfl ?_
      refine j_iconst (v := 3) d_Md_crossBy_24 (by decide) ?_
      refine j_icmp_ge (tgt := 41) d_Md_crossBy_25 (by decide) (fun z => absurd z (nI_ge (a := i) (b := 3) (by omega) (by omega))) (fun _ => ?_)
      refine j_aload_n d_Md_crossBy_28 rfl ?_
      refine m_get d_Md_crossBy_29 fl_Md_67 rfl ?_
      refine j_iload_n d_Md_crossBy_32 rfl ?_
      refine j_iconst (v := 0) d_Md_crossBy_33 (by decide) ?_
      refine m_ast (k := 18) (N := 3) d_Md_crossBy_34 (by decide) rfl hb (by omega) (by decide) ?_
      refine j_iinc (v := nI (i + 1)) d_Md_crossBy_35 rfl (nI_succ i).symm (by decide) ?_
      refine j_goto (tgt := 23) d_Md_crossBy_38 (by decide) ?_
      refine ih (i + 1) _ (by omega) (fun j h1 h2 => by rw [upG_n _ _ h2]; exact hF j h1 h2) h17 (fun j hj => ?_)
      show upd (F 18) i 0 j = 0
      by_cases e : j = i
      · subst e; rw [upd_ss]
      · rw [upd_nn _ _ e]; exact h18 j (by omega)
  have zer1 : ∀ (k i : Nat) (F : Nat → Nat → Int32), i + k = 12 → (∀ j, j ≠ 17 → j ≠ 18 → F j = f j) → (∀ j, j < i → F 17 j = 0) → J E m_Md_crossBy 3 0 0 2 [(0, .ref mo), (1, .int (nI c)), (2, .int (nI i))] [] (hM E h mo v F) n (CbQ E h n mo v f N K M φ c) := by
    intro k
    induction k with
    | zero =>
      intro i F hi hF h17
      have hi : i = 12 := by omega
      subst hi
      refine j_iload_n d_Md_crossBy_2 rfl ?_
      refine j_bipush (v := 12) d_Md_crossBy_3 (by decide) ?_
      refine j_icmp_ge (tgt := 21) d_Md_crossBy_5 (by decide) (fun _ => ?_) (fun z => absurd (by decide) z)
      refine j_iconst (v := 0) d_Md_crossBy_21 (by decide) ?_
      refine j_istore_n d_Md_crossBy_22 (by decide) ?_
      exact zer2 3 0 F rfl hF h17 (fun j hj => absurd hj (by omega))
    | succ k ih =>
      intro i F hi hF h17
      refine j_iload_n d_Md_crossBy_2 rfl ?_
      refine j_bipush (v := 12) d_Md_crossBy_3 (by decide) ?_
      refine j_icmp_ge (tgt := 21) d_Md_crossBy_5 (by decide) (fun z => absurd z (nI_ge (a := i) (b := 12) (by omega) (by omega))) (fun _ => ?_)
      refine j_aload_n d_Md_crossBy_8 rfl ?_
      refine m_get d_Md_crossBy_9 fl_Md_64 rfl ?_
      refine j_iload_n d_Md_crossBy_12 rfl ?_
      refine j_iconst (v := 0) d_Md_crossBy_13 (by decide) ?_
      refine m_ast (k := 17) (N := 12) d_Md_crossBy_14 (by decide) rfl hb (by omega) (by decide) ?_
      refine j_iinc (v := nI (i + 1)) d_Md_crossBy_15 rfl (nI_succ i).symm (by decide) ?_
      refine j_goto (tgt := 2) d_Md_crossBy_18 (by decide) ?_
      refine ih (i + 1) _ (by omega) (fun j h1 h2 => by rw [upG_n _ _ h1]; exact hF j h1 h2) (fun j hj => ?_)
      show upd (F 17) i 0 j = 0
      by_cases e : j = i
      · subst e; rw [upd_ss]
      · rw [upd_nn _ _ e]; exact h17 j (by omega)
  refine j_iconst (v := 0) d_Md_crossBy_0 (by decide) ?_
  refine j_istore_n d_Md_crossBy_1 (by decide) ?_
  exact zer1 12 0 f rfl (fun _ _ _ => rfl) (fun j hj => absurd hj (by omega))
end MCR

section MS5
variable {E : EV} {h : HP} {n mo N K M cc : Nat} {v : Nat → Int32} {f : Nat → Nat → Int32}
variable {st c bC : Nat} {th : Nat → Nat} {Q : Option Value → HP → Nat → Prop}
set_option maxRecDepth 10000 in
theorem so_tru {b p n0 : Nat} {g : Nat → Int32} (S : SoF E mo v f N K M cc st c bC th) (h1 : bC ≤ b) (h2 : b < 600) (hn : n0 < 32) (r1 : f 3 b = 4) (r2 : f 4 b = nI p) (r3 : p < M)
    (kk : ∀ L', L'.take 5 = [(0, .ref mo), (1, .int (nI st)), (2, .int (nI c)), (3, .int (nI (n0 + 1))), (4, .int (nI b - 1))] → J E m_Md_isSo 2 0 0 14 L' [] (hM E h mo v (upG f 13 (upd g n0 (bI (trS M st p))))) n Q) :
    ∀ L, L.take 5 = [(0, .ref mo), (1, .int (nI st)), (2, .int (nI c)), (3, .int (nI n0)), (4, .int (nI (b + 1) - 1))] → J E m_Md_isSo 2 0 0 14 L [] (hM E h mo v (upG f 13 g)) n Q := by
  refine so_head S h1 h2 ?_
  obtain ⟨P, hC, hS, hs, T, hbC, hc, hb⟩ := S
  rw [r1]
  refine j_iload d_Md_isSo_34 rfl ?_
  refine j_iconst (v := 4) d_Md_isSo_36 (by decide) ?_
  refine j_icmp_ge (tgt := 165) d_Md_isSo_37 (by decide) (fun _ => ?_) (fun q => absurd (by decide) q)
  refine j_iload d_Md_isSo_165 rfl ?_
  refine j_iconst (v := 4) d_Md_isSo_167 (by decide) ?_
  refine j_icmp_ne (tgt := 195) d_Md_isSo_168 (by decide) (fun q => absurd (by decide) q) (fun _ => ?_)
  refine j_aload_n d_Md_isSo_171 rfl ?_
  refine m_get d_Md_isSo_172 fl_Md_51 rfl ?_
  refine j_iload_n d_Md_isSo_175 rfl ?_
  refine j_aload_n d_Md_isSo_176 rfl ?_
  refine j_iload_n d_Md_isSo_177 rfl ?_
  refine j_aload_n d_Md_isSo_178 rfl ?_
  refine m_get d_Md_isSo_179 fl_Md_23 rfl ?_
  refine j_iload d_Md_isSo_182 rfl ?_
  refine m_ald (k := 4) (N := 600) d_Md_isSo_184 (by decide) rfl (by omega) (by decide) ?_
  rw [show upG f 13 g 4 b = nI p from r2]
  refine m_pV (As := [.int (nI st), .int (nI p)]) d_Md_isSo_185 cb_Md_156 vv_Md_isTruthful rfl rfl rfl (Nat.le_of_ble_eq_true rfl) (by decide) (c_Md_isTruthful P r3) ?_
  refine m_zst (k := 13) (N := 32) d_Md_isSo_188 (by decide) rfl hb (by omega) (by decide) ?_
  rw [upG_upG]
  refine j_iinc (v := nI (n0 + 1)) d_Md_isSo_189 rfl (nI_succ n0).symm (by decide) ?_
  refine j_goto (tgt := 349) d_Md_isSo_192 (by decide) ?_
  exact so_tail rfl kk
set_option maxRecDepth 10000 in
theorem so_say {b p n0 : Nat} {g : Nat → Int32} {x y : Bool} (S : SoF E mo v f N K M cc st c bC th) (h1 : bC ≤ b) (h2 : b < 600) (hn : n0 < 32) (r1 : f 3 b = 5) (r2 : f 4 b = nI p) (r3 : p < M) (hx : g n0 = bI (x = true)) (hy : y = (st.testBit (M - 1 - p) == x))
    (kk : ∀ L', L'.take 5 = [(0, .ref mo), (1, .int (nI st)), (2, .int (nI c)), (3, .int (nI (n0 + 1))), (4, .int (nI b - 1))] → J E m_Md_isSo 2 0 0 14 L' [] (hM E h mo v (upG f 13 (upd g n0 (bI (y = true))))) n Q) :
    ∀ L, L.take 5 = [(0, .ref mo), (1, .int (nI st)), (2, .int (nI c)), (3, .int (nI (n0 + 1))), (4, .int (nI (b + 1) - 1))] → J E m_Md_isSo 2 0 0 14 L [] (hM E h mo v (upG f 13 g)) n Q := by
  refine so_head S h1 h2 ?_
  obtain ⟨P, hC, hS, hs, T, hbC, hc, hb⟩ := S
  rw [r1]
  refine j_iload d_Md_isSo_34 rfl ?_
  refine j_iconst (v := 4) d_Md_isSo_36 (by decide) ?_
  refine j_icmp_ge (tgt := 165) d_Md_isSo_37 (by decide) (fun _ => ?_) (fun q => absurd (by decide) q)
  refine j_iload d_Md_isSo_165 rfl ?_
  refine j_iconst (v := 4) d_Md_isSo_167 (by decide) ?_
  refine j_icmp_ne (tgt := 195) d_Md_isSo_168 (by decide) (fun _ => ?_) (fun q => absurd q (by decide))
  refine j_iload d_Md_isSo_195 rfl ?_
  refine j_iconst (v := 5) d_Md_isSo_197 (by decide) ?_
  refine j_icmp_ne (tgt := 240) d_Md_isSo_198 (by decide) (fun q => absurd (by decide) q) (fun _ => ?_)
  refine j_aload_n d_Md_isSo_201 rfl ?_
  refine m_get d_Md_isSo_202 fl_Md_51 rfl ?_
  refine j_iload_n d_Md_isSo_205 rfl ?_
  refine j_iconst (v := 1) d_Md_isSo_206 (by decide) ?_
  refine j_isub d_Md_isSo_207 ?_
  rw [nI_pred]
  refine j_aload_n d_Md_isSo_208 rfl ?_
  refine m_get d_Md_isSo_209 fl_Md_51 rfl ?_
  refine j_iload_n d_Md_isSo_212 rfl ?_
  refine j_iconst (v := 1) d_Md_isSo_213 (by decide) ?_
  refine j_isub d_Md_isSo_214 ?_
  rw [nI_pred]
  refine m_zld (k := 13) (N := 32) d_Md_isSo_215 (by decide) rfl (by omega) (by decide) ?_
  refine j_aload_n d_Md_isSo_216 rfl ?_
  refine j_iload_n d_Md_isSo_217 rfl ?_
  refine j_aload_n d_Md_isSo_218 rfl ?_
  refine m_get d_Md_isSo_219 fl_Md_23 rfl ?_
  refine j_iload d_Md_isSo_222 rfl ?_
  refine m_ald (k := 4) (N := 600) d_Md_isSo_224 (by decide) rfl (by omega) (by decide) ?_
  rw [show upG f 13 g 4 b = nI p from r2, show upG f 13 g 13 n0 = bI (x = true) from hx]
  refine m_pV (As := [.int (nI st), .int (nI p)]) d_Md_isSo_225 cb_Md_156 vv_Md_isTruthful rfl rfl rfl (Nat.le_of_ble_eq_true rfl) (by decide) (c_Md_isTruthful P r3) ?_
  have fin : ∀ w : Int32, w = bI (y = true) → J E m_Md_isSo 2 0 0 236 [(0, .ref mo), (1, .int (nI st)), (2, .int (nI c)), (3, .int (nI (n0 + 1))), (4, .int (nI b)), (5, .int 5)] [.int w, .int (nI n0), .ref (mo + 13)] (hM E h mo v (upG f 13 g)) n Q := by
    intro w hw
    subst hw
    refine m_zst (k := 13) (N := 32) d_Md_isSo_236 (by decide) rfl hb (by omega) (by decide) ?_
    refine j_goto (tgt := 349) d_Md_isSo_237 (by decide) ?_
    rw [upG_upG]
    exact so_tail rfl kk
  have hbi : ∀ u w : Bool, (bI (u = true) = bI (w = true)) ↔ u = w := by decide
  refine j_icmp_ne (tgt := 235) d_Md_isSo_228 (by decide) (fun q => ?_) (fun q => ?_)
  · refine j_iconst (v := 0) d_Md_isSo_235 (by decide) ?_
    refine fin _ (bI_f (fun z => q ((hbi _ _).mpr ?_))).symm
    rw [z] at hy
    exact (beq_iff_eq.mp hy.symm).symm
  · refine j_iconst (v := 1) d_Md_isSo_231 (by decide) ?_
    refine j_goto (tgt := 236) d_Md_isSo_232 (by decide) ?_
    refine fin _ (bI_t ?_).symm
    rw [hy, (hbi _ _).mp q]
    exact beq_self_eq_true _
set_option maxRecDepth 10000 in
theorem so_not {b n0 : Nat} {g : Nat → Int32} {x : Bool} (S : SoF E mo v f N K M cc st c bC th) (h1 : bC ≤ b) (h2 : b < 600) (hn : n0 < 32) (r1 : f 3 b = 6) (hx : g n0 = bI (x = true))
    (kk : ∀ L', L'.take 5 = [(0, .ref mo), (1, .int (nI st)), (2, .int (nI c)), (3, .int (nI (n0 + 1))), (4, .int (nI b - 1))] → J E m_Md_isSo 2 0 0 14 L' [] (hM E h mo v (upG f 13 (upd g n0 (bI ((!x) = true))))) n Q) :
    ∀ L, L.take 5 = [(0, .ref mo), (1, .int (nI st)), (2, .int (nI c)), (3, .int (nI (n0 + 1))), (4, .int (nI (b + 1) - 1))] → J E m_Md_isSo 2 0 0 14 L [] (hM E h mo v (upG f 13 g)) n Q := by
  refine so_head S h1 h2 ?_
  obtain ⟨P, hC, hS, hs, T, hbC, hc, hb⟩ := S
  rw [r1]
  refine j_iload d_Md_isSo_34 rfl ?_
  refine j_iconst (v := 4) d_Md_isSo_36 (by decide) ?_
  refine j_icmp_ge (tgt := 165) d_Md_isSo_37 (by decide) (fun _ => ?_) (fun q => absurd (by decide) q)
  refine j_iload d_Md_isSo_165 rfl ?_
  refine j_iconst (v := 4) d_Md_isSo_167 (by decide) ?_
  refine j_icmp_ne (tgt := 195) d_Md_isSo_168 (by decide) (fun _ => ?_) (fun q => absurd q (by decide))
  refine j_iload d_Md_isSo_195 rfl ?_
  refine j_iconst (v := 5) d_Md_isSo_197 (by decide) ?_
  refine j_icmp_ne (tgt := 240) d_Md_isSo_198 (by decide) (fun _ => ?_) (fun q => absurd q (by decide))
  refine j_iload d_Md_isSo_240 rfl ?_
  refine j_bipush (v := 6) d_Md_isSo_242 (by decide) ?_
  refine j_icmp_ne (tgt := 274) d_Md_isSo_244 (by decide) (fun q => absurd (by decide) q) (fun _ => ?_)
  refine j_aload_n d_Md_isSo_247 rfl ?_
  refine m_get d_Md_isSo_248 fl_Md_51 rfl ?_
  refine j_iload_n d_Md_isSo_251 rfl ?_
  refine j_iconst (v := 1) d_Md_isSo_252 (by decide) ?_
  refine j_isub d_Md_isSo_253 ?_
  rw [nI_pred]
  refine j_aload_n d_Md_isSo_254 rfl ?_
  refine m_get d_Md_isSo_255 fl_Md_51 rfl ?_
  refine j_iload_n d_Md_isSo_258 rfl ?_
  refine j_iconst (v := 1) d_Md_isSo_259 (by decide) ?_
  refine j_isub d_Md_isSo_260 ?_
  rw [nI_pred]
  refine m_zld (k := 13) (N := 32) d_Md_isSo_261 (by decide) rfl (by omega) (by decide) ?_
  rw [show upG f 13 g 13 n0 = bI (x = true) from hx]
  have fin : ∀ w : Int32, w = bI ((!x) = true) → J E m_Md_isSo 2 0 0 270 [(0, .ref mo), (1, .int (nI st)), (2, .int (nI c)), (3, .int (nI (n0 + 1))), (4, .int (nI b)), (5, .int 6)] [.int w, .int (nI n0), .ref (mo + 13)] (hM E h mo v (upG f 13 g)) n Q := by
    intro w hw
    subst hw
    refine m_zst (k := 13) (N := 32) d_Md_isSo_270 (by decide) rfl hb (by omega) (by decide) ?_
    refine j_goto (tgt := 349) d_Md_isSo_271 (by decide) ?_
    rw [upG_upG]
    exact so_tail rfl kk
  refine j_if_ne (tgt := 269) d_Md_isSo_262 (by decide) (fun q => ?_) (fun q => ?_)
  · refine j_iconst (v := 0) d_Md_isSo_269 (by decide) ?_
    exact fin _ (bI_f (by rw [bI_ne q]; decide)).symm
  · refine j_iconst (v := 1) d_Md_isSo_265 (by decide) ?_
    refine j_goto (tgt := 270) d_Md_isSo_266 (by decide) ?_
    exact fin _ (bI_t (by have := bI_eq q; cases x <;> simp_all)).symm
set_option maxRecDepth 10000 in
theorem so_join {b n0 : Nat} {b1 : Int32} {g : Nat → Int32} {x y : Bool} (S : SoF E mo v f N K M cc st c bC th) (h1 : bC ≤ b) (h2 : b < 600) (hn : n0 + 1 < 32) (hb1 : b1 = 0 ∨ b1 = 1) (r1 : f 3 b = 8 - b1) (hx : g (n0 + 1) = bI (x = true)) (hy : g n0 = bI (y = true))
    (kk : ∀ L', L'.take 5 = [(0, .ref mo), (1, .int (nI st)), (2, .int (nI c)), (3, .int (nI (n0 + 1))), (4, .int (nI b - 1))] → J E m_Md_isSo 2 0 0 14 L' [] (hM E h mo v (upG f 13 (upd g n0 (bI ((if b1 = 0 then x || y else x && y) = true))))) n Q) :
    ∀ L, L.take 5 = [(0, .ref mo), (1, .int (nI st)), (2, .int (nI c)), (3, .int (nI (n0 + 2))), (4, .int (nI (b + 1) - 1))] → J E m_Md_isSo 2 0 0 14 L [] (hM E h mo v (upG f 13 g)) n Q := by
  refine so_head S h1 h2 ?_
  obtain ⟨P, hC, hS, hs, T, hbC, hc, hb⟩ := S
  have e2 : nI (n0 + 2) - 2 = nI n0 := nI_sub (b := 2) (by omega)
  have e1 : nI (n0 + 2) - 1 = nI (n0 + 1) := nI_pred (n0 + 1)
  have fin : ∀ w u : Int32, w = bI ((if b1 = 0 then x || y else x && y) = true) → J E m_Md_isSo 2 0 0 345 [(0, .ref mo), (1, .int (nI st)), (2, .int (nI c)), (3, .int (nI (n0 + 2))), (4, .int (nI b)), (5, .int u)] [.int w, .int (nI n0), .ref (mo + 13)] (hM E h mo v (upG f 13 g)) n Q := by
    intro w u hw
    subst hw
    refine m_zst (k := 13) (N := 32) d_Md_isSo_345 (by decide) rfl hb (by omega) (by decide) ?_
    rw [upG_upG]
    refine j_iinc (v := nI (n0 + 1)) d_Md_isSo_346 rfl ((dec1 _).trans e1) (by decide) ?_
    exact so_tail rfl kk
  have i0 : ∀ u : Bool, bI (u = true) = 0 → u = false := by decide
  have i1 : ∀ u : Bool, ¬ bI (u = true) = 0 → u = true := by decide
  have g0 : upG f 13 g 13 n0 = bI (y = true) := hy
  have g1 : upG f 13 g 13 (n0 + 1) = bI (x = true) := hx
  rw [r1]
  rcases hb1 with rfl | rfl
  · refine j_iload d_Md_isSo_34 rfl ?_
    refine j_iconst (v := 4) d_Md_isSo_36 (by decide) ?_
    refine j_icmp_ge (tgt := 165) d_Md_isSo_37 (by decide) (fun _ => ?_) (fun q => absurd (by decide) q)
    refine j_iload d_Md_isSo_165 rfl ?_
    refine j_iconst (v := 4) d_Md_isSo_167 (by decide) ?_
    refine j_icmp_ne (tgt := 195) d_Md_isSo_168 (by decide) (fun _ => ?_) (fun q => absurd q (by decide))
    refine j_iload d_Md_isSo_195 rfl ?_
    refine j_iconst (v := 5) d_Md_isSo_197 (by decide) ?_
    refine j_icmp_ne (tgt := 240) d_Md_isSo_198 (by decide) (fun _ => ?_) (fun q => absurd q (by decide))
    refine j_iload d_Md_isSo_240 rfl ?_
    refine j_bipush (v := 6) d_Md_isSo_242 (by decide) ?_
    refine j_icmp_ne (tgt := 274) d_Md_isSo_244 (by decide) (fun _ => ?_) (fun q => absurd q (by decide))
    refine j_aload_n d_Md_isSo_274 rfl ?_
    refine m_get d_Md_isSo_275 fl_Md_51 rfl ?_
    refine j_iload_n d_Md_isSo_278 rfl ?_
    refine j_iconst (v := 2) d_Md_isSo_279 (by decide) ?_
    refine j_isub d_Md_isSo_280 ?_
    rw [e2]
    refine j_iload d_Md_isSo_281 rfl ?_
    refine j_bipush (v := 7) d_Md_isSo_283 (by decide) ?_
    refine j_icmp_ne (tgt := 318) d_Md_isSo_285 (by decide) (fun _ => ?_) (fun q => absurd q (by decide))
    refine j_aload_n d_Md_isSo_318 rfl ?_
    refine m_get d_Md_isSo_319 fl_Md_51 rfl ?_
    refine j_iload_n d_Md_isSo_322 rfl ?_
    refine j_iconst (v := 1) d_Md_isSo_323 (by decide) ?_
    refine j_isub d_Md_isSo_324 ?_
    rw [e1]
    refine m_zld (k := 13) (N := 32) d_Md_isSo_325 (by decide) rfl (by omega) (by decide) ?_
    rw [g1]
    refine j_if_ne (tgt := 340) d_Md_isSo_326 (by decide) (fun q => ?_) (fun q => ?_)
    · refine j_iconst (v := 1) d_Md_isSo_340 (by decide) ?_
      refine j_goto (tgt := 345) d_Md_isSo_341 (by decide) ?_
      exact fin _ _ (bI_t (by rw [if_pos rfl, i1 _ q]; rfl)).symm
    · refine j_aload_n d_Md_isSo_329 rfl ?_
      refine m_get d_Md_isSo_330 fl_Md_51 rfl ?_
      refine j_iload_n d_Md_isSo_333 rfl ?_
      refine j_iconst (v := 2) d_Md_isSo_334 (by decide) ?_
      refine j_isub d_Md_isSo_335 ?_
      rw [e2]
      refine m_zld (k := 13) (N := 32) d_Md_isSo_336 (by decide) rfl (by omega) (by decide) ?_
      rw [g0]
      refine j_if_eq (tgt := 344) d_Md_isSo_337 (by decide) (fun q2 => ?_) (fun q2 => ?_)
      · refine j_iconst (v := 0) d_Md_isSo_344 (by decide) ?_
        exact fin _ _ (bI_f (by rw [if_pos rfl, i0 _ q, i0 _ q2]; decide)).symm
      · refine j_iconst (v := 1) d_Md_isSo_340 (by decide) ?_
        refine j_goto (tgt := 345) d_Md_isSo_341 (by decide) ?_
        exact fin _ _ (bI_t (by rw [if_pos rfl, i1 _ q2, Bool.or_true])).symm
  · refine j_iload d_Md_isSo_34 rfl ?_
    refine j_iconst (v := 4) d_Md_isSo_36 (by decide) ?_
    refine j_icmp_ge (tgt := 165) d_Md_isSo_37 (by decide) (fun _ => ?_) (fun q => absurd (by decide) q)
    refine j_iload d_Md_isSo_165 rfl ?_
    refine j_iconst (v := 4) d_Md_isSo_167 (by decide) ?_
    refine j_icmp_ne (tgt := 195) d_Md_isSo_168 (by decide) (fun _ => ?_) (fun q => absurd q (by decide))
    refine j_iload d_Md_isSo_195 rfl ?_
    refine j_iconst (v := 5) d_Md_isSo_197 (by decide) ?_
    refine j_icmp_ne (tgt := 240) d_Md_isSo_198 (by decide) (fun _ => ?_) (fun q => absurd q (by decide))
    refine j_iload d_Md_isSo_240 rfl ?_
    refine j_bipush (v := 6) d_Md_isSo_242 (by decide) ?_
    refine j_icmp_ne (tgt := 274) d_Md_isSo_244 (by decide) (fun _ => ?_) (fun q => absurd q (by decide))
    refine j_aload_n d_Md_isSo_274 rfl ?_
    refine m_get d_Md_isSo_275 fl_Md_51 rfl ?_
    refine j_iload_n d_Md_isSo_278 rfl ?_
    refine j_iconst (v := 2) d_Md_isSo_279 (by decide) ?_
    refine j_isub d_Md_isSo_280 ?_
    rw [e2]
    refine j_iload d_Md_isSo_281 rfl ?_
    refine j_bipush (v := 7) d_Md_isSo_283 (by decide) ?_
    refine j_icmp_ne (tgt := 318) d_Md_isSo_285 (by decide) (fun q => absurd (by decide) q) (fun _ => ?_)
    refine j_aload_n d_Md_isSo_288 rfl ?_
    refine m_get d_Md_isSo_289 fl_Md_51 rfl ?_
    refine j_iload_n d_Md_isSo_292 rfl ?_
    refine j_iconst (v := 1) d_Md_isSo_293 (by decide) ?_
    refine j_isub d_Md_isSo_294 ?_
    rw [e1]
    refine m_zld (k := 13) (N := 32) d_Md_isSo_295 (by decide) rfl (by omega) (by decide) ?_
    rw [g1]
    refine j_if_eq (tgt := 314) d_Md_isSo_296 (by decide) (fun q => ?_) (fun q => ?_)
    · refine j_iconst (v := 0) d_Md_isSo_314 (by decide) ?_
      refine j_goto (tgt := 345) d_Md_isSo_315 (by decide) ?_
      exact fin _ _ (bI_f (by rw [if_neg (by decide), i0 _ q, Bool.false_and]; decide)).symm
    · refine j_aload_n d_Md_isSo_299 rfl ?_
      refine m_get d_Md_isSo_300 fl_Md_51 rfl ?_
      refine j_iload_n d_Md_isSo_303 rfl ?_
      refine j_iconst (v := 2) d_Md_isSo_304 (by decide) ?_
      refine j_isub d_Md_isSo_305 ?_
      rw [e2]
      refine m_zld (k := 13) (N := 32) d_Md_isSo_306 (by decide) rfl (by omega) (by decide) ?_
      rw [g0]
      refine j_if_eq (tgt := 314) d_Md_isSo_307 (by decide) (fun q2 => ?_) (fun q2 => ?_)
      · refine j_iconst (v := 0) d_Md_isSo_314 (by decide) ?_
        refine j_goto (tgt := 345) d_Md_isSo_315 (by decide) ?_
        exact fin _ _ (bI_f (by rw [if_neg (by decide), i0 _ q2, Bool.and_false]; decide)).symm
      · refine j_iconst (v := 1) d_Md_isSo_310 (by decide) ?_
        refine j_goto (tgt := 345) d_Md_isSo_311 (by decide) ?_
        exact fin _ _ (bI_t (by rw [if_neg (by decide), i1 _ q, i1 _ q2]; rfl)).symm
/-- the value of a clue in a state -/
abbrev vlS (φ : PhiT) (th : Nat → Nat) (M st : Nat) : Bool := tb (φ (nA th)) (ptS M st)
set_option maxRecDepth 10000 in
theorem so_all (S : SoF E mo v f N K M cc st c bC th) : ∀ (D b e : Nat) (φ : PhiT), PX N K M (f 3) (f 4) (f 5) D b e φ → bC ≤ b → e ≤ 600 → ∀ (n0 : Nat) (g : Nat → Int32), n0 + (e - b) ≤ 32 →
    (∀ (g' : Nat → Int32) L', g' n0 = bI (vlS φ th M st = true) → (∀ j, j < n0 → g' j = g j) → L'.take 5 = [(0, .ref mo), (1, .int (nI st)), (2, .int (nI c)), (3, .int (nI (n0 + 1))), (4, .int (nI b - 1))] → J E m_Md_isSo 2 0 0 14 L' [] (hM E h mo v (upG f 13 g')) n Q) →
    ∀ L, L.take 5 = [(0, .ref mo), (1, .int (nI st)), (2, .int (nI c)), (3, .int (nI n0)), (4, .int (nI e - 1))] → J E m_Md_isSo 2 0 0 14 L [] (hM E h mo v (upG f 13 g)) n Q
  | 0, _, _, _, q => absurd q (by simp [PX])
  | D + 1, b, e, φ, q => by
    intro hbC he n0 g hn kk
    have lt := PX_lt q
    have hM3 := S.1.2.2.2.2.2.2.1
    have hp32 : ptS M st < 32 := Nat.lt_of_lt_of_le (ptS_lt hM3) (by decide)
    unfold PX at q
    rcases q with ⟨bb, a1, w1, a2, w2, rfl, q1, q2, q3, q4, q5, q6, q7, q8, rfl⟩ | ⟨p, rfl, q1, q2, q3, rfl⟩ | ⟨p, ψ, q1, q2, q3, q4, rfl⟩ | ⟨ψ, q1, q2, rfl⟩ | ⟨b1, mid, ψ, χ, q0, q1, q2, q3, rfl⟩
    · refine so_rel S hbC (by omega) (by omega) q1 q2 q3 q4 q5 q6 q7 q8 (fun L' hL' => ?_)
      exact kk _ L' (upd_ss _ _ _) (fun j hj => upd_nn _ _ (by omega)) hL'
    · refine so_tru S hbC (by omega) (by omega) q1 q2 q3 (fun L' hL' => ?_)
      refine kk _ L' ?_ (fun j hj => upd_nn _ _ (by omega)) hL'
      rw [upd_ss]
      show _ = bI (tb (truthF p) (ptS M st) = true)
      rw [tru_pt hM3 q3]
    · refine so_all S D (b + 1) e ψ q4 (by omega) he n0 g (by omega) (fun g' L' hg hg2 hL' => ?_)
      refine so_say S hbC (by omega) (by omega) q1 q2 q3 hg (y := vlS (fun th => (truthF p ^^^ (-1)) ^^^ ψ th) th M st) ?_ (fun L2 hL2 => ?_) L' hL'
      · show tb ((truthF p ^^^ (-1)) ^^^ ψ (nA th)) (ptS M st) = _
        rw [tb_xor, tb_not _ hp32, tru_pt hM3 q3]
        generalize st.testBit (M - 1 - p) = u
        show (!u ^^ tb (ψ (nA th)) (ptS M st)) = (u == tb (ψ (nA th)) (ptS M st))
        cases u <;> cases tb (ψ (nA th)) (ptS M st) <;> rfl
      · exact kk _ L2 (upd_ss _ _ _) (fun j hj => by rw [upd_nn _ _ (by omega)]; exact hg2 j hj) hL2
    · refine so_all S D (b + 1) e ψ q2 (by omega) he n0 g (by omega) (fun g' L' hg hg2 hL' => ?_)
      refine so_not S hbC (by omega) (by omega) q1 hg (fun L2 hL2 => ?_) L' hL'
      refine kk _ L2 ?_ (fun j hj => by rw [upd_nn _ _ (by omega)]; exact hg2 j hj) hL2
      rw [upd_ss]
      show _ = bI (tb ((-1) ^^^ ψ (nA th)) (ptS M st) = true)
      rw [tb_xor, tb_m1 hp32, Bool.true_xor]
    · have l1 := PX_lt q2
      have l2 := PX_lt q3
      refine so_all S D mid e χ q3 (by omega) he n0 g (by omega) (fun g' L' hg hg2 hL' => ?_)
      refine so_all S D (b + 1) mid ψ q2 (by omega) (by omega) (n0 + 1) g' (by omega) (fun g3 L3 hg3 hg4 hL3 => ?_) L' hL'
      refine so_join S hbC (by omega) (by omega) q0 q1 hg3 ((hg4 n0 (by omega)).trans hg) (fun L2 hL2 => ?_) L3 hL3
      refine kk _ L2 ?_ (fun j hj => by rw [upd_nn _ _ (by omega), hg4 j (by omega)]; exact hg2 j hj) hL2
      rw [upd_ss]
      show _ = bI (tb (if b1 = 0 then ψ (nA th) ||| χ (nA th) else ψ (nA th) &&& χ (nA th)) (ptS M st) = true)
      rcases q0 with rfl | rfl
      · rw [if_pos rfl, if_pos rfl, tb_or]
      · rw [if_neg (by decide), if_neg (by decide), tb_and]
set_option maxRecDepth 10000 in
theorem c_Md_isSo {D e : Nat} {φ : PhiT} (S : SoF E mo v f N K M cc st c bC th) (he : f 2 (c + 1) = nI e) (h6 : e ≤ 600) (h3 : e - bC ≤ 30) (X : PX N K M (f 3) (f 4) (f 5) D bC e φ) : Ct E m_Md_isSo 2 0 0 [.ref mo, .int (nI st), .int (nI c)] (hM E h mo v f) n (fun r h' n' => r = some (.int (bI (vlS φ th M st = true))) ∧ n' = n ∧ ∃ g, h' = hM E h mo v (upG f 13 g)) := by
  have lt := PX_lt X
  have hc := S.2.2.2.2.2.2.1
  have hbC := S.2.2.2.2.2.1
  refine Ct.go rfl rfl rfl ?_
  refine j_iconst (v := 0) d_Md_isSo_0 (by decide) ?_
  refine j_istore_n d_Md_isSo_1 (by decide) ?_
  refine j_aload_n d_Md_isSo_2 rfl ?_
  refine m_get d_Md_isSo_3 fl_Md_17 rfl ?_
  refine j_iload_n d_Md_isSo_6 rfl ?_
  refine j_iconst (v := 1) d_Md_isSo_7 (by decide) ?_
  refine j_iadd d_Md_isSo_8 ?_
  rw [nI_1]
  refine m_ald (k := 2) (N := 21) d_Md_isSo_9 (by decide) rfl (by omega) (by decide) ?_
  refine j_iconst (v := 1) d_Md_isSo_10 (by decide) ?_
  refine j_isub d_Md_isSo_11 ?_
  refine j_istore d_Md_isSo_12 (by decide) ?_
  rw [he]
  have := so_all (h := h) (n := n) (Q := fun r h' n' => r = some (.int (bI (vlS φ th M st = true))) ∧ n' = n ∧ ∃ g, h' = hM E h mo v (upG f 13 g)) S D bC e φ X (Nat.le_refl _) h6 0 (f 13) (by omega) (fun g' L' hg _ hL' => ?_) [(0, .ref mo), (1, .int (nI st)), (2, .int (nI c)), (3, .int (nI 0)), (4, .int (nI e - 1))] rfl
  · rw [upG_id] at this
    exact this
  · refine J.tk 5 ?_
    rw [hL']
    refine j_iload d_Md_isSo_14 rfl ?_
    refine j_aload_n d_Md_isSo_16 rfl ?_
    refine m_get d_Md_isSo_17 fl_Md_17 rfl ?_
    refine j_iload_n d_Md_isSo_20 rfl ?_
    refine m_ald (k := 2) (N := 21) d_Md_isSo_21 (by decide) rfl (by omega) (by decide) ?_
    rw [show upG f 13 g' 2 c = nI bC from hbC]
    refine j_icmp_lt (tgt := 355) d_Md_isSo_22 (by decide) (fun _ => ?_) (fun q => absurd ?_ q)
    · refine j_aload_n d_Md_isSo_355 rfl ?_
      refine m_get d_Md_isSo_356 fl_Md_51 rfl ?_
      refine j_iconst (v := 0) d_Md_isSo_359 (by decide) ?_
      refine m_zld (k := 13) (j := 0) (N := 32) d_Md_isSo_360 (by decide) rfl (by decide) (by decide) ?_
      rw [show upG f 13 g' 13 0 = bI (vlS φ th M st = true) from hg]
      exact j_zret d_Md_isSo_361 rfl (bI_01 _) ⟨rfl, rfl, g', rfl⟩
    · rcases bC with _ | b
      · decide
      · rw [nI_pred]; exact nI_lt (by omega) (by omega)
end MS5

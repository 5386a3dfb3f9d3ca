section MRE
variable {E : EV} {h : HP} {n mo N K M c B ln pl : Nat} {v : Nat → Int32} {f F : Nat → Nat → Int32} {txf : Nat → Nat}
def RcQ (E : EV) (h : HP) (n mo : Nat) (v : Nat → Int32) (f : Nat → Nat → Int32) (N K M c B : Nat) (p : PcR) : Option Value → HP → Nat → Prop := fun r h' n' => n' = n ∧ ((p.1 = none ∧ r = some (.int 0) ∧ ∃ F, Sm F f ∧ h' = hM E h mo (upd v 15 (nI p.2.1)) F) ∨
  (∃ φ F, p.1 = some φ ∧ r = some (.int 1) ∧ (∀ j, j ≠ 6 → j ≠ 7 → j ≠ 8 → j ≠ 9 → F j = f j) ∧ F 6 = upd (f 6) (c + 1) (nI (B + p.2.2)) ∧ (∀ j, j < B → F 7 j = f 7 j ∧ F 8 j = f 8 j ∧ F 9 j = f 9 j) ∧ PX N K M (F 7) (F 8) (F 9) 31 B (B + p.2.2) φ ∧ h' = hM E h mo (upd v 15 (nI p.2.1)) F))
set_option maxRecDepth 10000 in
theorem c_Md_readClue (R : RcF E mo v f N K M c B ln txf) (hpl : pl ≤ ln) : Ct E m_Md_readClue 3 0 0 [.ref mo] (hM E h mo (upd v 15 (nI pl)) f) n (RcQ E h n mo v f N K M c B (pcl txf ln (nI K) (nI N) (nI M) 31 pl 0)) := by
  obtain ⟨r1, r2, r3, r4, r5, r6, r7, ⟨r8, r9, r10, r11, r12, r13, r14⟩, hb⟩ := id R
  have q2 := pcl_sg (txf := txf) (ln := ln) (k := K) (nn := N) (m := M) 31 pl 0 (by omega)
  refine Ct.go rfl rfl rfl ?_
  refine j_iconst (v := 1) d_Md_readClue_0 (by decide) ?_
  refine j_istore_n d_Md_readClue_1 (by decide) ?_
  refine j_aload_n d_Md_readClue_2 rfl ?_
  refine m_get d_Md_readClue_3 fl_Md_29 rfl ?_
  refine j_aload_n d_Md_readClue_6 rfl ?_
  refine m_get d_Md_readClue_7 fl_Md_118 rfl ?_
  rw [show upd v 15 (nI pl) 14 = nI c from r5]
  refine m_ald (k := 6) (N := 22) d_Md_readClue_10 (by decide) rfl (by omega) (by decide) ?_
  refine j_istore_n d_Md_readClue_11 (by decide) ?_
  rw [r7]
  refine rc_all R 31 pl 0 0 f hpl (by omega) (by omega) (by omega) (fun _ _ _ _ => rfl) (fun a F' s' => ⟨rfl, Or.inl ⟨a, rfl, F', s', rfl⟩⟩) (fun φ a F' L' s' lo X hL' => ?_) _ rfl
  generalize pcl txf ln (nI K) (nI N) (nI M) 31 pl 0 = p at q2 a X hL' ⊢
  refine J.tk 3 ?_
  rw [hL']
  refine j_iload_n d_Md_readClue_12 rfl ?_
  refine j_if_le (tgt := 183) d_Md_readClue_13 (by decide) (fun _ => ?_) (fun q => absurd (by decide) q)
  refine j_aload_n d_Md_readClue_183 rfl ?_
  refine m_get d_Md_readClue_184 fl_Md_29 rfl ?_
  refine j_aload_n d_Md_readClue_187 rfl ?_
  refine m_get d_Md_readClue_188 fl_Md_118 rfl ?_
  refine j_iconst (v := 1) d_Md_readClue_191 (by decide) ?_
  refine j_iadd d_Md_readClue_192 ?_
  rw [show upd v 15 (nI p.2.1) 14 = nI c from r5, nI_1]
  refine j_iload_n d_Md_readClue_193 rfl ?_
  refine m_ast (k := 6) (N := 22) d_Md_readClue_194 (by decide) rfl hb (by omega) (by decide) ?_
  refine j_iconst (v := 1) d_Md_readClue_195 (by decide) ?_
  refine j_zret d_Md_readClue_196 rfl (Or.inr rfl) ⟨rfl, Or.inr ⟨φ, upG F' 6 (upd (F' 6) (c + 1) (nI (B + p.2.2))), a, rfl, fun j h6 h7 h8 h9 => ?_, ?_, fun j hj => lo j hj, X, rfl⟩⟩
  · rw [upG_n _ _ h6]; exact s' j h7 h8 h9
  · rw [upG_s, s' 6 (by decide) (by decide) (by decide)]
set_option maxRecDepth 10000 in
theorem sem_y (q : byF txf ln pl = 59) (h6 : ∀ j, txf j < 256) : semF txf ln pl = (1, pl + 1) ∧ pl < ln := by
  by_cases e : pl < ln
  · rw [show byF txf ln pl = nI (txf pl) from if_pos e] at q
    have : takeF txf ln 59 0 0 pl = (0, pl + 1) := by unfold takeF; rw [if_neg (by omega), q]; rfl
    unfold semF
    rw [this]
    exact ⟨rfl, e⟩
  · rw [show byF txf ln pl = -1 from if_neg e] at q
    exact absurd q (by decide)
set_option maxRecDepth 10000 in
theorem sem_n (q : ¬ byF txf ln pl = 59) (h6 : ∀ j, txf j < 256) : semF txf ln pl = (0, pl) := by
  have : takeF txf ln 59 0 0 pl = (-1, pl) := by
    unfold takeF
    by_cases e : pl < ln
    · rw [show byF txf ln pl = nI (txf pl) from if_pos e] at q
      rw [if_neg (by omega), if_pos]
      have := h6 pl
      have key : ∀ b : Fin 256, ¬ nI b.1 = 59 → (nI b.1 - 59 < 0 ∨ 0 < nI b.1 - 59) := by decide +kernel
      exact key ⟨txf pl, this⟩ q
    · rw [if_pos (by omega)]
  unfold semF
  rw [this]
  rfl
/-- the clues read so far -/
def TkL (F : Nat → Nat → Int32) (N K M c B : Nat) (φ : Nat → PhiT) : Prop := ∀ i, i < c → ∃ b e D, F 6 i = nI b ∧ F 6 (i + 1) = nI e ∧ e ≤ B ∧ e - b ≤ 30 ∧ PX N K M (F 7) (F 8) (F 9) D b e (φ i)
def RaQ (E : EV) (h : HP) (n mo : Nat) (v : Nat → Int32) (f : Nat → Nat → Int32) (N K M : Nat) (x : Bool × Nat × Nat × (Nat → PhiT)) : Option Value → HP → Nat → Prop := fun r h' n' => n' = n ∧ ∃ u F, h' = hM E h mo u F ∧ (∀ j, j < 11 ∨ 15 < j → u j = v j) ∧ (∀ j, j < 6 ∨ 9 < j → F j = f j) ∧ u 15 = nI x.2.2.1 ∧ ((x.1 = false ∧ r = some (.int 0)) ∨ (x.1 = true ∧ r = some (.int 1) ∧ u 11 = nI N ∧ u 12 = nI K ∧ u 13 = nI M ∧ u 14 = nI x.2.1 ∧ x.2.1 ≤ 20 ∧ ∃ B, F 6 x.2.1 = nI B ∧ B ≤ 600 ∧ TkL F N K M x.2.1 B x.2.2.2))
set_option maxRecDepth 10000 in
theorem upd_comm {g : Nat → Int32} {i j : Nat} {x y : Int32} (hij : i ≠ j) : upd (upd g i x) j y = upd (upd g j y) i x := by
  funext q
  unfold upd
  by_cases e : q = j
  · by_cases e2 : q = i
    · omega
    · simp [e, e2]; omega
  · simp [e]
set_option maxRecDepth 10000 in
theorem ra_loop {u : Nat → Int32} (hb : E.2.2.2.1 ≤ mo) (u1 : u 1 = nI ln) (u11 : u 11 = nI N) (u12 : u 12 = nI K) (u13 : u 13 = nI M) (uo : ∀ j, j < 11 ∨ 15 < j → u j = v j) (f1 : f 1 = nA txf) (bd : ln ≤ 300 ∧ (∀ j, txf j < 256) ∧ N ≤ 4 ∧ K ≤ 3 ∧ M ≤ 3) :
    ∀ (fu c pl B : Nat) (φ : Nat → PhiT) (F : Nat → Nat → Int32), fu + c = 21 → c ≤ 20 → pl ≤ ln → B ≤ 30 * c → F 6 c = nI B → (∀ j, j < 6 ∨ 9 < j → F j = f j) → TkL F N K M c B φ → J E m_Md_readAll 4 0 0 97 [(0, .ref mo)] [] (hM E h mo (upd (upd u 14 (nI c)) 15 (nI pl)) F) n (RaQ E h n mo v f N K M (pzL txf ln (nI K) (nI N) (nI M) fu c pl φ))
  | 0, c, _, _, _, _, h1, h2, _, _, _, _, _ => absurd h1 (by omega)
  | fu + 1, c, pl, B, φ, F, hfu, hc, hpl, hB, h6, hF, hT => by
    have ih := fun c pl B φ F => ra_loop hb u1 u11 u12 u13 uo f1 bd fu c pl B φ F
    obtain ⟨b1, b2, b3, b4, b5⟩ := bd
    have R : RcF E mo (upd u 14 (nI c)) F N K M c B ln txf := ⟨u1, u11, u12, u13, rfl, (hF 1 (by omega)).trans f1, h6, ⟨b1, b2, hc, by omega, b3, b4, b5⟩, hb⟩
    refine j_aload_n d_Md_readAll_97 rfl ?_
    refine m_get d_Md_readAll_98 fl_Md_101 rfl ?_
    refine j_aload_n d_Md_readAll_101 rfl ?_
    refine m_get d_Md_readAll_102 fl_Md_98 rfl ?_
    rw [show upd (upd u 14 (nI c)) 15 (nI pl) 15 = nI pl from rfl, show upd (upd u 14 (nI c)) 15 (nI pl) 1 = nI ln from u1]
    have uo' : ∀ (a b : Int32) j, j < 11 ∨ 15 < j → upd (upd u 14 a) 15 b j = v j := fun a b j hj => by rw [upd_nn _ _ (by omega), upd_nn _ _ (by omega)]; exact uo j hj
    refine j_icmp_ge (tgt := 162) d_Md_readAll_105 (by decide) (fun q => ?_) (fun q => ?_)
    · have ge : ln ≤ pl := (nI_leI (by omega) (by omega)).mp q
      have e : pzL txf ln (nI K) (nI N) (nI M) (fu + 1) c pl φ = (true, c, pl, φ) := by rw [pzL, if_pos (by omega)]
      rw [e]
      refine j_iconst (v := 1) d_Md_readAll_162 (by decide) ?_
      exact j_zret d_Md_readAll_163 rfl (Or.inr rfl) ⟨rfl, _, F, rfl, uo' _ _, hF, rfl, Or.inr ⟨rfl, rfl, u11, u12, u13, rfl, hc, B, h6, by omega, hT⟩⟩
    · have lt : pl < ln := Nat.lt_of_not_le (fun z => q ((nI_leI (by omega) (by omega)).mpr z))
      have out : ∀ (L : List (Nat × Value)) (pl' : Nat) (G : Nat → Nat → Int32) (x : Bool × Nat × Nat × (Nat → PhiT)), (∀ j, j < 6 ∨ 9 < j → G j = f j) → x.1 = false → x.2.2.1 = pl' → J E m_Md_readAll 4 0 0 137 L [] (hM E h mo (upd (upd u 14 (nI c)) 15 (nI pl')) G) n (RaQ E h n mo v f N K M x) := by
        intro L pl' G x hG hx hx2
        refine j_iconst (v := 0) d_Md_readAll_137 (by decide) ?_
        exact j_zret d_Md_readAll_138 rfl (Or.inl rfl) ⟨rfl, _, G, rfl, uo' _ _, hG, by rw [hx2]; rfl, Or.inl ⟨hx, rfl⟩⟩
      have q1 := pcl_ln (txf := txf) (k := K) (nn := N) (m := M) 31 pl 0 hpl
      have q2 := pcl_sg (txf := txf) (ln := ln) (k := K) (nn := N) (m := M) 31 pl 0 (by omega)
      have ezn : (pcl txf ln (nI K) (nI N) (nI M) 31 pl 0).1 = none → pzL txf ln (nI K) (nI N) (nI M) (fu + 1) c pl φ = (false, c, (pcl txf ln (nI K) (nI N) (nI M) 31 pl 0).2.1, φ) := fun a => by rw [pzL, if_neg (by omega), a]
      have ezs : ∀ ψ, (pcl txf ln (nI K) (nI N) (nI M) 31 pl 0).1 = some ψ → pzL txf ln (nI K) (nI N) (nI M) (fu + 1) c pl φ = if c = 20 then (false, c, (pcl txf ln (nI K) (nI N) (nI M) 31 pl 0).2.1, φ) else if (semF txf ln (pcl txf ln (nI K) (nI N) (nI M) 31 pl 0).2.1).1 = 0 then (false, c, (semF txf ln (pcl txf ln (nI K) (nI N) (nI M) 31 pl 0).2.1).2, φ) else pzL txf ln (nI K) (nI N) (nI M) fu (c + 1) (semF txf ln (pcl txf ln (nI K) (nI N) (nI M) 31 pl 0).2.1).2 (fun i => if i = c then ψ else φ i) := fun ψ a => by rw [pzL, if_neg (by omega), a]
      refine j_aload_n d_Md_readAll_108 rfl ?_
      refine m_callV (As := []) d_Md_readAll_109 cb_Md_131 vv_Md_readClue rfl rfl rfl (Nat.le_of_ble_eq_true rfl) (d' := 3) (by decide) (c_Md_readClue R hpl) (fun w h' n' qq _ => ?_)
      obtain ⟨rfl, qq⟩ := qq
      generalize pcl txf ln (nI K) (nI N) (nI M) 31 pl 0 = p at q1 q2 qq ezn ezs
      rcases qq with ⟨a, rfl, G, sG, rfl⟩ | ⟨ψ, G, a, rfl, sG, g6, glo, X, rfl⟩
      · have ez := ezn a
        refine j_if_eq (tgt := 137) d_Md_readAll_112 (by decide) (fun _ => ?_) (fun z => absurd (by decide) z)
        rw [ez]
        exact out _ _ G _ (fun j hj => by rw [sG j (by omega) (by omega) (by omega)]; exact hF j hj) rfl rfl
      · have ez := ezs ψ a
        have hG : ∀ j, j < 6 ∨ 9 < j → G j = f j := fun j hj => by rw [sG j (by omega) (by omega) (by omega) (by omega)]; exact hF j hj
        have T : MTx (upd (upd u 14 (nI c)) 15 (nI p.2.1)) G ln p.2.1 txf := ⟨u1, rfl, (hG 1 (by omega)).trans f1, b1, q1, b2⟩
        refine j_if_eq (tgt := 137) d_Md_readAll_112 (by decide) (fun z => absurd z (by decide)) (fun _ => ?_)
        refine j_aload_n d_Md_readAll_115 rfl ?_
        refine j_aload_n d_Md_readAll_116 rfl ?_
        refine m_get d_Md_readAll_117 fl_Md_101 rfl ?_
        rw [show upd (upd u 14 (nI c)) 15 (nI p.2.1) 15 = nI p.2.1 from rfl]
        refine m_pV (As := [.int (nI p.2.1)]) d_Md_readAll_120 cb_Md_104 vv_Md_byteAt rfl rfl rfl (Nat.le_of_ble_eq_true rfl) (d' := 0) (by decide) (c_Md_byte T) ?_
        refine j_bipush (v := 59) d_Md_readAll_123 (by decide) ?_
        refine j_icmp_ne (tgt := 137) d_Md_readAll_125 (by decide) (fun z => ?_) (fun z => ?_)
        · have es := sem_n z b2
          rw [es] at ez
          dsimp only at ez
          rw [ez]
          refine out _ _ G _ hG ?_ ?_
          · split
            · rfl
            · rfl
          · split
            · rfl
            · rfl
        · have es := sem_y z b2
          rw [es.1] at ez
          dsimp only at ez
          refine j_aload_n d_Md_readAll_128 rfl ?_
          refine m_get d_Md_readAll_129 fl_Md_118 rfl ?_
          refine j_bipush (v := 20) d_Md_readAll_132 (by decide) ?_
          rw [show upd (upd u 14 (nI c)) 15 (nI p.2.1) 14 = nI c from rfl]
          refine j_icmp_ne (tgt := 139) d_Md_readAll_134 (by decide) (fun z2 => ?_) (fun z2 => ?_)
          · have c20 : ¬ c = 20 := fun y => z2 (by rw [y]; rfl)
            rw [if_neg c20, if_neg (by decide)] at ez
            rw [ez]
            refine j_aload_n d_Md_readAll_139 rfl ?_
            refine j_dup d_Md_readAll_140 rfl ?_
            refine m_get d_Md_readAll_141 fl_Md_101 rfl ?_
            refine j_iconst (v := 1) d_Md_readAll_144 (by decide) ?_
            refine j_iadd d_Md_readAll_145 ?_
            rw [show upd (upd u 14 (nI c)) 15 (nI p.2.1) 15 = nI p.2.1 from rfl, nI_1]
            refine m_put d_Md_readAll_146 fl_Md_101 rfl rfl hb rfl rfl ?_
            rw [upd_upd]
            refine j_aload_n d_Md_readAll_149 rfl ?_
            refine j_dup d_Md_readAll_150 rfl ?_
            refine m_get d_Md_readAll_151 fl_Md_118 rfl ?_
            refine j_iconst (v := 1) d_Md_readAll_154 (by decide) ?_
            refine j_iadd d_Md_readAll_155 ?_
            rw [show upd (upd u 14 (nI c)) 15 (nI (p.2.1 + 1)) 14 = nI c from rfl, nI_1]
            refine m_put d_Md_readAll_156 fl_Md_118 rfl rfl hb rfl rfl ?_
            refine j_goto (tgt := 97) d_Md_readAll_159 (by decide) ?_
            rw [upd_comm (show (15 : Nat) ≠ 14 by decide), upd_upd]
            refine ih (c + 1) (p.2.1 + 1) (B + p.2.2) _ G (by omega) (by omega) (by omega) (by omega) (by rw [g6, upd_ss]) hG (fun i hi => ?_)
            by_cases e : i = c
            · subst e
              exact ⟨B, B + p.2.2, 31, by rw [g6, upd_nn _ _ (by omega)]; exact h6, by rw [g6, upd_ss], Nat.le_refl _, by omega, by rw [if_pos rfl]; exact X⟩
            · obtain ⟨b, e', D, t1, t2, t3, t4, t5⟩ := hT i (by omega)
              exact ⟨b, e', D, by rw [g6, upd_nn _ _ (by omega)]; exact t1, by rw [g6, upd_nn _ _ (by omega)]; exact t2, by omega, t4, by rw [if_neg e]; exact PX_eq (fun j _ hj => glo j (by omega)) t5⟩
          · have c20 : c = 20 := (nI_eq (b := 20) (by omega) (by decide)).mp z2
            rw [if_pos c20] at ez
            rw [ez]
            exact out _ _ G _ hG rfl rfl
end MRE

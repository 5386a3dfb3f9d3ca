section MX2
variable {E : EV} {h : HP} {n mo N K M cc : Nat} {v : Nat → Int32} {f : Nat → Nat → Int32} {φ : Nat → PhiT}
set_option maxRecDepth 10000 in
theorem MCl.V (C : MCl f N K M cc φ) : PhiV N K cc φ := by
  intro c hc th th' hh
  obtain ⟨b, e, D, _, _, _, _, X⟩ := C c hc
  exact PX_th hh X
set_option maxRecDepth 10000 in
theorem xoF_flag {s : XS} {c : Nat} {x : Int32} : (xoF K s c x).2.2.2.2.2.2.2 = s.2.2.2.2.2.2.2 := by
  unfold xoF
  split <;> rfl
set_option maxRecDepth 10000 in
theorem tsL_flag {vf : Nat → Nat} {tkf : Nat → Int32} {lay : Nat} : ∀ (k c : Nat) (x : XS × WS), (tsL K N M vf tkf φ lay k c x).2.1.2.2.2.2.2.2.2 = x.1.2.2.2.2.2.2.2
  | 0, _, _ => rfl
  | k + 1, c, x => by
    rw [tsL]
    split
    · exact xoF_flag
    · rw [tsL_flag k (c + 1)]; rfl
set_option maxRecDepth 10000 in
theorem fiL_flag {cnt : Nat} {vf : Nat → Nat} {tkf : Nat → Int32} : ∀ (k : Nat) (m : Int32) (x : XS × WS), (fiL K N M cc cnt vf tkf φ k m x).1.2.2.2.2.2.2.2 = x.1.2.2.2.2.2.2.2
  | 0, _, _ => rfl
  | k + 1, m, x => by
    rw [fiL]
    split
    · rfl
    · rw [fiL_flag k]
      exact tsL_flag _ _ _
def CoQ (E : EV) (h : HP) (n mo : Nat) (v : Nat → Int32) (f : Nat → Nat → Int32) (N K M cc : Nat) (φ : Nat → PhiT) (R : XS) : Option Value → HP → Nat → Prop := fun r h' n' => n' = n ∧ r = some (.int (nI R.2.2.2.2.2.2.1)) ∧ ∃ v' f', h' = hM E h mo v' f' ∧ KnF v' f' N K M cc φ ∧ v' 23 = 1 ∧ v' 0 = 0 ∧ TX N K M R v' f' ∧ (∀ j, j ≠ 0 → j ≠ 20 → j ≠ 23 → j ≠ 24 → j ≠ 33 → v' j = v j) ∧ ∀ j, j < 10 ∨ j = 14 → f' j = f j
set_option maxRecDepth 10000 in
theorem XI.cg {xs : XS} {v' : Nat → Int32} {f' : Nat → Nat → Int32} (X : XI N K M xs v f) (h33 : v' 33 = v 33) (h1 : f' 15 = f 15) (h2 : f' 16 = f 16) (h3 : f' 19 = f 19) (h4 : f' 20 = f 20) : XI N K M xs v' f' := by
  obtain ⟨a, b, c, d⟩ := X
  exact ⟨by rw [h1, h2]; exact a, h33.trans b, fun j hj => by rw [h3, h4]; exact c j hj, by rw [h1, h2]; exact d⟩
set_option maxRecDepth 10000 in
theorem c_Md_cross {xs : XS} {xws : WS} (hb : E.2.2.2.1 ≤ mo) (P : MP v N K M cc) (C : MCl f N K M cc φ) (hk : KnD v f N K M cc φ) (T : TX N K M xs v f) : Ct E m_Md_cross 4 0 0 [.ref mo] (hM E h mo v f) n (CoQ E h n mo v f N K M cc φ (finF N K M cc φ xs xws).1) := by
  have V := C.V
  have h1 := P.2.2.2.2.1
  have hK := P.2.2.2.2.2.1
  have hM' := P.2.2.2.2.2.2.1
  have cl := cT_le N
  refine Ct.go rfl rfl rfl ?_
  refine j_aload_n d_Md_cross_0 rfl ?_
  refine j_iconst (v := 0) d_Md_cross_1 (by decide) ?_
  refine m_put d_Md_cross_2 fl_Md_79 rfl rfl hb rfl rfl ?_
  refine j_aload_n d_Md_cross_5 rfl ?_
  refine m_callV (As := []) d_Md_cross_6 cb_Md_169 vv_Md_know rfl rfl rfl (Nat.le_of_ble_eq_true rfl) (d' := 3) (by decide) (c_Md_know (φ := φ) hb (P.up (k := 0) (by decide)) C hk.th) (fun w h' n' q _ => ?_)
  obtain ⟨rfl, rfl, u, F, rfl, kn, u23, uo, hF⟩ := q
  have P1 : MP u N K M cc := P.o uo
  have u0 : u 0 = 0 := uo 0 (by decide) (by decide)
  obtain ⟨X, T⟩ := T
  rcases T with ⟨rfl, v24⟩ | ⟨fl, v24⟩
  · have u24 : u 24 = 0 := (uo 24 (by decide) (by decide)).trans v24
    refine j_aload_n d_Md_cross_9 rfl ?_
    refine m_get d_Md_cross_10 fl_Md_86 rfl ?_
    rw [u24]
    refine j_if_eq (tgt := 21) d_Md_cross_13 (by decide) (fun _ => ?_) (fun z => absurd rfl z)
    refine j_aload_n d_Md_cross_21 rfl ?_
    refine j_iconst (v := 1) d_Md_cross_22 (by decide) ?_
    refine m_put d_Md_cross_23 fl_Md_86 rfl rfl hb rfl rfl ?_
    refine j_aload_n d_Md_cross_26 rfl ?_
    refine j_iconst (v := 0) d_Md_cross_27 (by decide) ?_
    refine m_put d_Md_cross_28 fl_Md_92 rfl rfl hb rfl rfl ?_
    refine j_aload_n d_Md_cross_31 rfl ?_
    refine m_callV (As := []) d_Md_cross_32 cb_Md_95 vv_Md_all rfl rfl rfl (Nat.le_of_ble_eq_true rfl) (d' := 0) (by decide) (c_Md_all hb) (fun w h' n'' q _ => ?_)
    obtain ⟨rfl, rfl, q3⟩ := q; have q3 := q3.symm; subst q3
    have e3 : upd (upd u 24 1) 33 0 3 = nI N := P1.1
    rw [e3]
    have P2 : MP (upd (upd u 24 1) 33 0) N K M cc := (P1.up (by decide)).up (by decide)
    have kn2 : KnF (upd (upd u 24 1) 33 0) (upG (upG F 15 (fillF (F 15) 12 (1 <<< (nI N &&& 31) - 1))) 16 (fillF (F 16) 3 3)) N K M cc φ := kn.cg rfl rfl rfl rfl
    have r0 := rel_0 (N := N) (K := K) (M := M) (my := fillF (F 15) 12 (1 <<< (nI N &&& 31) - 1)) (be := fillF (F 16) 3 3) h1 hK hM' (fun j hj => if_pos hj) (fun j hj => if_pos hj)
    have efi : finF N K M cc φ (xs0 K M (ord N).2.2.2) xws = fiL K N M cc (ord N).1 (vT N) (ord N).2.1 φ 53 (tsF K N M cc (ord N).1 (vT N) (ord N).2.1 φ (my0 K (ord N).2.2.2, fun _ => 0, wiF M (partsF M), 0, fun _ => 0, fun _ => 0, 0, 1) xws).1 (tsF K N M cc (ord N).1 (vT N) (ord N).2.1 φ (my0 K (ord N).2.2.2, fun _ => 0, wiF M (partsF M), 0, fun _ => 0, fun _ => 0, 0, 1) xws).2 := by
      unfold finF
      rw [if_pos (show (xs0 K M (ord N).2.2.2).2.2.2.2.2.2.2 = 0 from rfl), fiL, if_neg (show ¬ (1 : Int32) = 0 by decide)]
      rfl
    have I := chF_I (tkf := (ord N).2.1) (cnt := cT N) (my := my0 K (ord N).2.2.2) cl.2 K 0 (xws.1, xws.2.1, 1) ⟨fun kd hh => absurd hh (by omega), rfl⟩
    rw [Nat.zero_add] at I
    have big := cr_all (E := E) (h := h) (n := n') (mo := mo) (u := upd (upd u 24 1) 33 0) (f := upG (upG F 15 (fillF (F 15) 12 (1 <<< (nI N &&& 31) - 1))) 16 (fillF (F 16) 3 3)) hb V 53 cc 0 ((my0 K (ord N).2.2.2, fun _ => 0, wiF M (partsF M), 0, fun _ => 0, fun _ => 0, 0, 1), ((chF (ord N).2.1 (ord N).1 K (my0 K (ord N).2.2.2) xws.1 xws.2.1).1, (chF (ord N).2.1 (ord N).1 K (my0 K (ord N).2.2.2) xws.1 xws.2.1).2.1, xws.2.2)) (chF (ord N).2.1 (ord N).1 K (my0 K (ord N).2.2.2) xws.1 xws.2.1).2.2 (upd (upd u 24 1) 33 0) (upG (upG F 15 (fillF (F 15) 12 (1 <<< (nI N &&& 31) - 1))) 16 (fillF (F 16) 3 3)) (by omega) P2 kn2 ⟨r0.1, rfl, fun j hj => absurd hj (by show ¬ j < 0; omega), by show 0 + _ ≤ 54; have := r0.2; show 0 + potF (fillF (F 15) 12 (1 <<< (nI N &&& 31) - 1)) (fillF (F 16) 3 3) N K M ≤ 54; omega⟩ (by rw [ord_cT h1.1 h1.2]; exact I) r0.2 (fun _ _ => rfl) (fun _ _ => rfl)
    refine j_iconst (v := 0) d_Md_cross_35 (by decide) ?_
    refine j_istore_n d_Md_cross_36 (by decide) ?_
    refine J.mono (fun r h' n' q => ?_) (big _ rfl)
    obtain ⟨a1, v', f', a2, a3, a4, a5, a6⟩ := q
    rw [efi]
    refine ⟨a1, a6, v', f', a2, kn2.cg (a4 20 (by decide)) (a5 10 (by decide)) (a5 11 (by decide)) (a5 12 (by decide)), (a4 23 (by decide)).trans u23, (a4 0 (by decide)).trans u0, ⟨a3, Or.inr ⟨?_, a4 24 (by decide)⟩⟩, fun j j0 j1 j2 j3 j4 => ?_, fun j hj => ?_⟩
    · rw [fiL_flag]
      show ¬ (tsL _ _ _ _ _ _ _ _ _ _).2.1.2.2.2.2.2.2.2 = 0
      rw [tsL_flag]
      show ¬ (1 : Int32) = 0
      decide
    · rw [a4 j j4, upd_nn _ _ j4, upd_nn _ _ j3, uo j j1 j2, upd_nn _ _ j0]
    · rw [a5 j (by omega), upG_n _ _ (by omega), upG_n _ _ (by omega)]
      exact hF j (by omega)
  · have u24 : u 24 = 1 := (uo 24 (by decide) (by decide)).trans v24
    have efi : finF N K M cc φ xs xws = (xs, xws) := if_neg fl
    rw [efi]
    refine j_aload_n d_Md_cross_9 rfl ?_
    refine m_get d_Md_cross_10 fl_Md_86 rfl ?_
    rw [u24]
    refine j_if_eq (tgt := 21) d_Md_cross_13 (by decide) (fun z => absurd z (by decide)) (fun _ => ?_)
    have u33 : u 33 = nI xs.2.2.2.2.2.2.1 := (uo 33 (by decide) (by decide)).trans X.2.1
    refine j_aload_n d_Md_cross_16 rfl ?_
    refine m_get d_Md_cross_17 fl_Md_92 rfl ?_
    rw [u33]
    exact j_iret d_Md_cross_20 rfl ⟨rfl, rfl, u, F, rfl, kn, u23, u0, ⟨X.cg (uo 33 (by decide) (by decide)) (hF _ (by omega)) (hF _ (by omega)) (hF _ (by omega)) (hF _ (by omega)), Or.inr ⟨fl, u24⟩⟩, fun j j0 j1 j2 j3 j4 => by rw [uo j j1 j2, upd_nn _ _ j0], fun j hj => hF j (by omega)⟩
end MX2

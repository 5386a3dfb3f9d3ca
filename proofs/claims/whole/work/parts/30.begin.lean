section BEG
variable {E : EV} {h : HP} {n p od K : Nat}
def ws0 : WS := (fun _ => 0, fun _ => 0, fun _ => 0, fun _ => 0)
def as0 : AS := (fun _ => 0, fun _ => 0, fun _ => 0, fun _ => 0, fun _ => 0, 0, 0, 0)
def my0 (K : Nat) (al : Int32) : Nat → Int32 := (List.range' 0 K).foldl (fun f kd => upd f kd al) (fun _ => 0)
def xs0 (K M : Nat) (al : Int32) : XS := (my0 K al, fun _ => 0, wiF M (partsF M), 0, fun _ => 0, fun _ => 0, 0, 0)
/-- the heap with a new Puzzle at n: its clues' row, its Orders -/
def hZ (E : EV) (h : HP) (n N K M : Nat) : HP := hset (hset (hO E h (n + 2) N (ord N)) (n + 1) (arQ E 3 20 (fun _ => none))) n (oPz (nI N) (nI K) (nI M) (n + 2) (n + 1) (nI 0))
theorem c_Pz_init {N M : Nat} (hN : N ≤ 4) (h0 : E.2.2.2.1 ≤ n) : Ct E m_Pz_init 8 4 145 [.ref n, .int (nI N), .int (nI K), .int (nI M)] (hset h n (.inr (7, [.int 0, .int 0, .int 0, .null, .null, .int 0]))) (n + 1) (Rt none (hZ E h n N K M) (n + 5)) := by
  refine Ct.go rfl rfl rfl ?_
  refine j_aload_n d_Pz_init_0 rfl ?_
  refine j_obj d_Pz_init_1 ob_Pz_3 obi obc (by decide) (by decide) ?_
  refine j_aload_n d_Pz_init_4 rfl ?_
  refine j_bipush (v := 20) d_Pz_init_5 (by decide) ?_
  refine j_anew (t := 3) (N := 20) d_Pz_init_7 rfl ak_Pz_9 (by decide) (by decide) (by decide) (by decide) (by decide) (by decide) ?_
  refine j_put d_Pz_init_10 fl_Pz_11 fp_Pz (Or.inr ⟨rfl, rfl, rfl⟩) (by first | assumption | exact hset_s _ _ _ | (rw [hset_n _ _ (by omega)]; first | assumption | exact hset_s _ _ _ | (rw [hset_n _ _ (by omega)]; first | assumption | exact hset_s _ _ _ | (rw [hset_n _ _ (by omega)]; first | assumption | exact hset_s _ _ _ | (rw [hset_n _ _ (by omega)]; first | assumption | exact hset_s _ _ _))))) (by omega) rfl rfl (Nat.le_of_ble_eq_true rfl) ?_
  refine j_aload_n d_Pz_init_13 rfl ?_
  refine j_iload_n d_Pz_init_14 rfl ?_
  refine j_put d_Pz_init_15 fl_Pz_17 fp_Pz (Or.inr ⟨rfl, rfl, rfl⟩) (by first | assumption | exact hset_s _ _ _ | (rw [hset_n _ _ (by omega)]; first | assumption | exact hset_s _ _ _ | (rw [hset_n _ _ (by omega)]; first | assumption | exact hset_s _ _ _ | (rw [hset_n _ _ (by omega)]; first | assumption | exact hset_s _ _ _ | (rw [hset_n _ _ (by omega)]; first | assumption | exact hset_s _ _ _))))) (by omega) rfl rfl (Nat.le_of_ble_eq_true rfl) ?_
  refine j_aload_n d_Pz_init_18 rfl ?_
  refine j_iload_n d_Pz_init_19 rfl ?_
  refine j_put d_Pz_init_20 fl_Pz_21 fp_Pz (Or.inr ⟨rfl, rfl, rfl⟩) (by first | assumption | exact hset_s _ _ _ | (rw [hset_n _ _ (by omega)]; first | assumption | exact hset_s _ _ _ | (rw [hset_n _ _ (by omega)]; first | assumption | exact hset_s _ _ _ | (rw [hset_n _ _ (by omega)]; first | assumption | exact hset_s _ _ _ | (rw [hset_n _ _ (by omega)]; first | assumption | exact hset_s _ _ _))))) (by omega) rfl rfl (Nat.le_of_ble_eq_true rfl) ?_
  refine j_aload_n d_Pz_init_23 rfl ?_
  refine j_iload_n d_Pz_init_24 rfl ?_
  refine j_put d_Pz_init_25 fl_Pz_24 fp_Pz (Or.inr ⟨rfl, rfl, rfl⟩) (by first | assumption | exact hset_s _ _ _ | (rw [hset_n _ _ (by omega)]; first | assumption | exact hset_s _ _ _ | (rw [hset_n _ _ (by omega)]; first | assumption | exact hset_s _ _ _ | (rw [hset_n _ _ (by omega)]; first | assumption | exact hset_s _ _ _ | (rw [hset_n _ _ (by omega)]; first | assumption | exact hset_s _ _ _))))) (by omega) rfl rfl (Nat.le_of_ble_eq_true rfl) ?_
  refine j_aload_n d_Pz_init_28 rfl ?_
  refine j_new (fs := [.int 0, .null, .null, .int 0, .int 0]) d_Pz_init_29 nw_Pz_27 (by decide) (by decide) (by decide) ?_
  refine j_dup d_Pz_init_32 rfl ?_
  refine j_iload_n d_Pz_init_33 rfl ?_
  refine j_callI (As := [.int (nI N)]) d_Pz_init_34 cb_Pz_29 iv_Od_init rfl rfl (Nat.le_of_ble_eq_true rfl) (by decide) (by decide) (by decide) (c_Od_init hN (by omega)) (fun v' h' n' q _ => ?_)
  obtain ⟨rfl, rfl, q3⟩ := q; have q3 := q3.symm; subst q3
  refine j_put (fs := [.int (nI N), .int (nI K), .int (nI M), .null, .ref (n + 1), .int 0]) d_Pz_init_37 fl_Pz_32 fp_Pz (Or.inr ⟨rfl, rfl, rfl⟩) (by rw [hO_x (by omega) (by omega) (by omega)]; simp [hset]) h0 rfl rfl (Nat.le_of_ble_eq_true rfl) ?_
  refine j_vret d_Pz_init_40 rfl ⟨rfl, ?_, rfl⟩
  funext q
  unfold hZ hO hset
  by_cases h1 : q = n <;> by_cases h2 : q = n + 1 <;> by_cases h3 : q = n + 2 <;> by_cases h4 : q = n + 3 <;> by_cases h5 : q = n + 4 <;> simp_all [nI_0]
theorem c_Pz_add {cp N M cc y ci : Nat} {r : vw_C} {vs : List Value} {f : Nat → Option Nat} (hb : E.2.2.2.1 ≤ p) (hb2 : E.2.2.2.1 ≤ cp) (hp : h p = some (oPz (nI N) (nI K) (nI M) od cp (nI cc))) (hcp : h cp = some (arQ E 3 20 f)) (hne : p ≠ cp) (hcc : cc < 20) (hy : h y = some (.inr (ci, vs))) (hr : classes[ci]? = some r) (hca : (r.1, "ClueLogic$Clue") ∈ castW) :
    Ct E m_Pz_add 0 0 0 [.ref p, .ref y] h n (Rt none (hset (hset h cp (arQ E 3 20 (va_up f cc (some y)))) p (oPz (nI N) (nI K) (nI M) od cp (nI (cc + 1)))) n) := by
  refine Ct.go rfl rfl rfl ?_
  refine j_aload_n d_Pz_add_0 rfl ?_
  refine j_get d_Pz_add_1 fl_Pz_36 (by first | assumption | exact hset_s _ _ _ | (rw [hset_n _ _ (by omega)]; first | assumption | exact hset_s _ _ _ | (rw [hset_n _ _ (by omega)]; first | assumption | exact hset_s _ _ _ | (rw [hset_n _ _ (by omega)]; first | assumption | exact hset_s _ _ _ | (rw [hset_n _ _ (by omega)]; first | assumption | exact hset_s _ _ _))))) rfl ?_
  refine j_bipush (v := 20) d_Pz_add_4 (by decide) ?_
  refine j_icmp_ge (tgt := 29) d_Pz_add_6 (by decide) (fun c2 => absurd c2 (nI_ge (a := cc) (b := 20) hcc (by omega))) (fun c2 => ?_)
  refine j_aload_n d_Pz_add_9 rfl ?_
  refine j_get d_Pz_add_10 fl_Pz_11 (by first | assumption | exact hset_s _ _ _ | (rw [hset_n _ _ (by omega)]; first | assumption | exact hset_s _ _ _ | (rw [hset_n _ _ (by omega)]; first | assumption | exact hset_s _ _ _ | (rw [hset_n _ _ (by omega)]; first | assumption | exact hset_s _ _ _ | (rw [hset_n _ _ (by omega)]; first | assumption | exact hset_s _ _ _))))) rfl ?_
  refine j_aload_n d_Pz_add_13 rfl ?_
  refine j_get d_Pz_add_14 fl_Pz_36 (by first | assumption | exact hset_s _ _ _ | (rw [hset_n _ _ (by omega)]; first | assumption | exact hset_s _ _ _ | (rw [hset_n _ _ (by omega)]; first | assumption | exact hset_s _ _ _ | (rw [hset_n _ _ (by omega)]; first | assumption | exact hset_s _ _ _ | (rw [hset_n _ _ (by omega)]; first | assumption | exact hset_s _ _ _))))) rfl ?_
  refine j_aload_n d_Pz_add_17 rfl ?_
  refine j_aast (t := 3) d_Pz_add_18 rfl hcp hb2 hy hr hca (vp_in_nI hcc (by omega)) ?_
  rw [nI_clamp (by omega)]
  have hp2 : hset h cp (arQ E 3 20 (va_up f cc (some y))) p = some (oPz (nI N) (nI K) (nI M) od cp (nI cc)) := by rw [hset_n _ _ hne]; exact hp
  refine j_aload_n d_Pz_add_19 rfl ?_
  refine j_dup d_Pz_add_20 rfl ?_
  refine j_get d_Pz_add_21 fl_Pz_36 (by first | assumption | exact hset_s _ _ _ | (rw [hset_n _ _ (by omega)]; first | assumption | exact hset_s _ _ _ | (rw [hset_n _ _ (by omega)]; first | assumption | exact hset_s _ _ _ | (rw [hset_n _ _ (by omega)]; first | assumption | exact hset_s _ _ _ | (rw [hset_n _ _ (by omega)]; first | assumption | exact hset_s _ _ _))))) rfl ?_
  refine j_iconst (v := 1) d_Pz_add_24 (by decide) ?_
  refine j_iadd d_Pz_add_25 ?_
  refine j_put d_Pz_add_26 fl_Pz_36 fp_Pz (Or.inl rfl) hp2 hb rfl rfl (Nat.le_of_ble_eq_true rfl) ?_
  refine j_vret d_Pz_add_29 rfl ⟨rfl, ?_, rfl⟩
  show hset _ p (oPz (nI N) (nI K) (nI M) od cp (nI cc + 1)) = _
  rw [nI_1]
theorem c_An_init {cp : Nat} {N M c : Int32} (h0 : E.2.2.2.1 ≤ n) (hp : h p = some (oPz N (nI K) M od cp c)) (hpn : p < n) : Ct E m_An_init 2 10 608 [.ref n, .ref p] (hset h n (.inr (1, [.null, .null, .null, .null, .null, .null, .null, .int 0, .int 0, .int 0]))) (n + 1) (Rt none (hAn E h n p od K as0 ws0) (n + 11)) := by
  refine Ct.go rfl rfl rfl ?_
  refine j_aload_n d_An_init_0 rfl ?_
  refine j_obj d_An_init_1 ob_An_3 obi obc (by decide) (by decide) ?_
  refine j_aload_n d_An_init_4 rfl ?_
  refine j_sipush (v := 300) d_An_init_5 (by decide) ?_
  refine j_newa (t := 0) d_An_init_8 rfl aw_int rfl (by decide) rfl (by decide) (by decide) (by decide) ?_
  refine j_put d_An_init_10 fl_An_9 fp_An (Or.inr ⟨rfl, rfl, rfl⟩) (by first | assumption | exact hset_s _ _ _ | (rw [hset_n _ _ (by omega)]; first | assumption | exact hset_s _ _ _ | (rw [hset_n _ _ (by omega)]; first | assumption | exact hset_s _ _ _ | (rw [hset_n _ _ (by omega)]; first | assumption | exact hset_s _ _ _ | (rw [hset_n _ _ (by omega)]; first | assumption | exact hset_s _ _ _))))) (by omega) rfl rfl (Nat.le_of_ble_eq_true rfl) ?_
  refine j_aload_n d_An_init_13 rfl ?_
  refine j_bipush (v := 100) d_An_init_14 (by decide) ?_
  refine j_newa (t := 0) d_An_init_16 rfl aw_int rfl (by decide) rfl (by decide) (by decide) (by decide) ?_
  refine j_put d_An_init_18 fl_An_15 fp_An (Or.inr ⟨rfl, rfl, rfl⟩) (by first | assumption | exact hset_s _ _ _ | (rw [hset_n _ _ (by omega)]; first | assumption | exact hset_s _ _ _ | (rw [hset_n _ _ (by omega)]; first | assumption | exact hset_s _ _ _ | (rw [hset_n _ _ (by omega)]; first | assumption | exact hset_s _ _ _ | (rw [hset_n _ _ (by omega)]; first | assumption | exact hset_s _ _ _))))) (by omega) rfl rfl (Nat.le_of_ble_eq_true rfl) ?_
  refine j_aload_n d_An_init_21 rfl ?_
  refine j_bipush (v := 72) d_An_init_22 (by decide) ?_
  refine j_newa (t := 0) d_An_init_24 rfl aw_int rfl (by decide) rfl (by decide) (by decide) (by decide) ?_
  refine j_put d_An_init_26 fl_An_18 fp_An (Or.inr ⟨rfl, rfl, rfl⟩) (by first | assumption | exact hset_s _ _ _ | (rw [hset_n _ _ (by omega)]; first | assumption | exact hset_s _ _ _ | (rw [hset_n _ _ (by omega)]; first | assumption | exact hset_s _ _ _ | (rw [hset_n _ _ (by omega)]; first | assumption | exact hset_s _ _ _ | (rw [hset_n _ _ (by omega)]; first | assumption | exact hset_s _ _ _))))) (by omega) rfl rfl (Nat.le_of_ble_eq_true rfl) ?_
  refine j_aload_n d_An_init_29 rfl ?_
  refine j_bipush (v := 20) d_An_init_30 (by decide) ?_
  refine j_newa (t := 0) d_An_init_32 rfl aw_int rfl (by decide) rfl (by decide) (by decide) (by decide) ?_
  refine j_put d_An_init_34 fl_An_21 fp_An (Or.inr ⟨rfl, rfl, rfl⟩) (by first | assumption | exact hset_s _ _ _ | (rw [hset_n _ _ (by omega)]; first | assumption | exact hset_s _ _ _ | (rw [hset_n _ _ (by omega)]; first | assumption | exact hset_s _ _ _ | (rw [hset_n _ _ (by omega)]; first | assumption | exact hset_s _ _ _ | (rw [hset_n _ _ (by omega)]; first | assumption | exact hset_s _ _ _))))) (by omega) rfl rfl (Nat.le_of_ble_eq_true rfl) ?_
  refine j_aload_n d_An_init_37 rfl ?_
  refine j_bipush (v := 20) d_An_init_38 (by decide) ?_
  refine j_newa (t := 1) d_An_init_40 rfl aw_boolean rfl (by decide) rfl (by decide) (by decide) (by decide) ?_
  refine j_put d_An_init_42 fl_An_24 fp_An (Or.inr ⟨rfl, rfl, rfl⟩) (by first | assumption | exact hset_s _ _ _ | (rw [hset_n _ _ (by omega)]; first | assumption | exact hset_s _ _ _ | (rw [hset_n _ _ (by omega)]; first | assumption | exact hset_s _ _ _ | (rw [hset_n _ _ (by omega)]; first | assumption | exact hset_s _ _ _ | (rw [hset_n _ _ (by omega)]; first | assumption | exact hset_s _ _ _))))) (by omega) rfl rfl (Nat.le_of_ble_eq_true rfl) ?_
  refine j_aload_n d_An_init_45 rfl ?_
  refine j_aload_n d_An_init_46 rfl ?_
  refine j_put d_An_init_47 fl_An_28 fp_An (Or.inr ⟨rfl, rfl, rfl⟩) (by first | assumption | exact hset_s _ _ _ | (rw [hset_n _ _ (by omega)]; first | assumption | exact hset_s _ _ _ | (rw [hset_n _ _ (by omega)]; first | assumption | exact hset_s _ _ _ | (rw [hset_n _ _ (by omega)]; first | assumption | exact hset_s _ _ _ | (rw [hset_n _ _ (by omega)]; first | assumption | exact hset_s _ _ _))))) (by omega) rfl rfl (Nat.le_of_ble_eq_true rfl) ?_
  refine j_aload_n d_An_init_50 rfl ?_
  refine j_new (fs := [.null, .int 0, .null, .null, .null, .null]) d_An_init_51 nw_An_32 (by decide) (by decide) (by decide) ?_
  refine j_dup d_An_init_54 rfl ?_
  refine j_aload_n d_An_init_55 rfl ?_
  have far : ∀ {x : HP}, (∀ q, q < n → x q = h q) → x p = some (oPz N (nI K) M od cp c) := fun hx => (hx p hpn).trans hp
  refine j_callI (As := [.ref p]) d_An_init_56 cb_An_34 iv_Wk_init rfl rfl (Nat.le_of_ble_eq_true rfl) (by decide) (by decide) (by decide) (c_Wk_init (by omega) (far (fun q hq => by simp [hset, show q ≠ n by omega, show q ≠ n + 1 by omega, show q ≠ n + 2 by omega, show q ≠ n + 3 by omega, show q ≠ n + 4 by omega, show q ≠ n + 5 by omega])) (by omega)) (fun v' h' n' q _ => ?_)
  obtain ⟨rfl, rfl, q3⟩ := q; have q3 := q3.symm; subst q3
  refine j_put (fs := [.ref p, .null, .ref (n + 1), .ref (n + 2), .ref (n + 3), .ref (n + 4), .ref (n + 5), .int 0, .int 0, .int 0]) d_An_init_59 fl_An_37 fp_An (Or.inr ⟨rfl, rfl, rfl⟩) (by rw [hW_x (by omega)]; simp [hset]) h0 rfl rfl (Nat.le_of_ble_eq_true rfl) ?_
  refine j_vret d_An_init_62 rfl ⟨rfl, ?_, rfl⟩
  unfold hAn
  rw [hW_out (by omega)]
  congr 1
  funext q
  unfold hB hset as0
  by_cases h1 : q = n <;> by_cases h2 : q = n + 1 <;> by_cases h3 : q = n + 2 <;> by_cases h4 : q = n + 3 <;> by_cases h5 : q = n + 4 <;> by_cases h6 : q = n + 5 <;> simp_all [nI_0, nA_0]
theorem c_Cr_init {cp N M c tk vl cnt : Nat} {al : Int32} {tkf : Nat → Int32} {vf : Nat → Nat} (h0 : E.2.2.2.1 ≤ n) (hp : h p = some (oPz (nI N) (nI K) (nI M) od cp (nI c))) (hpn : p < n) (O : OdF E h n od N tk vl cnt al tkf vf) (hK : K ≤ 3) (hM : M ≤ 3) :
    Ct E m_Cr_init 2 9 210 [.ref n, .ref p] (hset h n (.inr (2, [.null, .null, .null, .null, .int 0, .int 0, .null, .null, .int 0, .int 0]))) (n + 1) (Rt none (hCr E h n p od K (xs0 K M al) ws0) (n + 10)) := by
  obtain ⟨o1, o2, o3, o4, o5, o6, o7, o8, o9⟩ := O
  refine Ct.go rfl rfl rfl ?_
  refine j_aload_n d_Cr_init_0 rfl ?_
  refine j_obj d_Cr_init_1 ob_Cr_3 obi obc (by decide) (by decide) ?_
  refine j_aload_n d_Cr_init_4 rfl ?_
  refine j_iconst (v := 3) d_Cr_init_5 (by decide) ?_
  refine j_newa (t := 0) d_Cr_init_6 rfl aw_int rfl (by decide) rfl (by decide) (by decide) (by decide) ?_
  refine j_put d_Cr_init_8 fl_Cr_9 fp_Cr (Or.inr ⟨rfl, rfl, rfl⟩) (by first | assumption | exact hset_s _ _ _ | (rw [hset_n _ _ (by omega)]; first | assumption | exact hset_s _ _ _ | (rw [hset_n _ _ (by omega)]; first | assumption | exact hset_s _ _ _ | (rw [hset_n _ _ (by omega)]; first | assumption | exact hset_s _ _ _ | (rw [hset_n _ _ (by omega)]; first | assumption | exact hset_s _ _ _))))) (by omega) rfl rfl (Nat.le_of_ble_eq_true rfl) ?_
  refine j_aload_n d_Cr_init_11 rfl ?_
  refine j_iconst (v := 3) d_Cr_init_12 (by decide) ?_
  refine j_newa (t := 0) d_Cr_init_13 rfl aw_int rfl (by decide) rfl (by decide) (by decide) (by decide) ?_
  refine j_put d_Cr_init_15 fl_Cr_15 fp_Cr (Or.inr ⟨rfl, rfl, rfl⟩) (by first | assumption | exact hset_s _ _ _ | (rw [hset_n _ _ (by omega)]; first | assumption | exact hset_s _ _ _ | (rw [hset_n _ _ (by omega)]; first | assumption | exact hset_s _ _ _ | (rw [hset_n _ _ (by omega)]; first | assumption | exact hset_s _ _ _ | (rw [hset_n _ _ (by omega)]; first | assumption | exact hset_s _ _ _))))) (by omega) rfl rfl (Nat.le_of_ble_eq_true rfl) ?_
  refine j_aload_n d_Cr_init_18 rfl ?_
  refine j_bipush (v := 54) d_Cr_init_19 (by decide) ?_
  refine j_newa (t := 0) d_Cr_init_21 rfl aw_int rfl (by decide) rfl (by decide) (by decide) (by decide) ?_
  refine j_put d_Cr_init_23 fl_Cr_18 fp_Cr (Or.inr ⟨rfl, rfl, rfl⟩) (by first | assumption | exact hset_s _ _ _ | (rw [hset_n _ _ (by omega)]; first | assumption | exact hset_s _ _ _ | (rw [hset_n _ _ (by omega)]; first | assumption | exact hset_s _ _ _ | (rw [hset_n _ _ (by omega)]; first | assumption | exact hset_s _ _ _ | (rw [hset_n _ _ (by omega)]; first | assumption | exact hset_s _ _ _))))) (by omega) rfl rfl (Nat.le_of_ble_eq_true rfl) ?_
  refine j_aload_n d_Cr_init_26 rfl ?_
  refine j_bipush (v := 54) d_Cr_init_27 (by decide) ?_
  refine j_newa (t := 0) d_Cr_init_29 rfl aw_int rfl (by decide) rfl (by decide) (by decide) (by decide) ?_
  refine j_put d_Cr_init_31 fl_Cr_21 fp_Cr (Or.inr ⟨rfl, rfl, rfl⟩) (by first | assumption | exact hset_s _ _ _ | (rw [hset_n _ _ (by omega)]; first | assumption | exact hset_s _ _ _ | (rw [hset_n _ _ (by omega)]; first | assumption | exact hset_s _ _ _ | (rw [hset_n _ _ (by omega)]; first | assumption | exact hset_s _ _ _ | (rw [hset_n _ _ (by omega)]; first | assumption | exact hset_s _ _ _))))) (by omega) rfl rfl (Nat.le_of_ble_eq_true rfl) ?_
  refine j_aload_n d_Cr_init_34 rfl ?_
  refine j_aload_n d_Cr_init_35 rfl ?_
  refine j_put d_Cr_init_36 fl_Cr_24 fp_Cr (Or.inr ⟨rfl, rfl, rfl⟩) (by first | assumption | exact hset_s _ _ _ | (rw [hset_n _ _ (by omega)]; first | assumption | exact hset_s _ _ _ | (rw [hset_n _ _ (by omega)]; first | assumption | exact hset_s _ _ _ | (rw [hset_n _ _ (by omega)]; first | assumption | exact hset_s _ _ _ | (rw [hset_n _ _ (by omega)]; first | assumption | exact hset_s _ _ _))))) (by omega) rfl rfl (Nat.le_of_ble_eq_true rfl) ?_
  refine j_aload_n d_Cr_init_39 rfl ?_
  refine j_new (fs := [.null, .int 0, .null, .null, .null, .null]) d_Cr_init_40 nw_Cr_28 (by decide) (by decide) (by decide) ?_
  refine j_dup d_Cr_init_43 rfl ?_
  refine j_aload_n d_Cr_init_44 rfl ?_
  have far : ∀ {x : HP}, (∀ q, q < n → x q = h q) → x p = some (oPz (nI N) (nI K) (nI M) od cp (nI c)) := fun hx => (hx p hpn).trans hp
  refine j_callI (As := [.ref p]) d_Cr_init_45 cb_Cr_30 iv_Wk_init rfl rfl (Nat.le_of_ble_eq_true rfl) (by decide) (by decide) (by decide) (c_Wk_init (by omega) (far (fun q hq => by simp [hset, show q ≠ n by omega, show q ≠ n + 1 by omega, show q ≠ n + 2 by omega, show q ≠ n + 3 by omega, show q ≠ n + 4 by omega, show q ≠ n + 5 by omega])) (by omega)) (fun v' h' n' q _ => ?_)
  obtain ⟨rfl, rfl, q3⟩ := q; have q3 := q3.symm; subst q3
  refine j_put (fs := [.ref p, .null, .ref (n + 1), .ref (n + 2), .int 0, .int 0, .ref (n + 3), .ref (n + 4), .int 0, .int 0]) d_Cr_init_48 fl_Cr_33 fp_Cr (Or.inr ⟨rfl, rfl, rfl⟩) (by rw [hW_x (by omega)]; simp [hset]) h0 rfl rfl (Nat.le_of_ble_eq_true rfl) ?_
  refine J.conv (L := _) rfl (show _ = hCr E h n p od K (fun _ => 0, fun _ => 0, 0, 0, fun _ => 0, fun _ => 0, 0, 0) ws0 from ?_) ?_
  · unfold hCr
    rw [hW_out (by omega)]
    congr 1
    funext q
    unfold hC hset
    by_cases h1 : q = n <;> by_cases h2 : q = n + 1 <;> by_cases h3 : q = n + 2 <;> by_cases h4 : q = n + 3 <;> by_cases h5 : q = n + 4 <;> simp_all [nI_0]
  have px : ∀ (s : XS) (q : Nat), q < n → hCr E h n p od K s ws0 q = h q := fun s q hq => hCr_x (Or.inl hq)
  refine j_iconst (v := 0) d_Cr_init_51 (by decide) ?_
  refine j_istore_n d_Cr_init_52 (by decide) ?_
  have loop : ∀ (k kd : Nat) (f : Nat → Int32), kd + k = K → J E m_Cr_init 2 0 0 53 [(0, .ref n), (1, .ref p), (2, .int (nI kd))] [] (hCr E h n p od K (f, fun _ => 0, 0, 0, fun _ => 0, fun _ => 0, 0, 0) ws0) (n + 10) (Rt none (hCr E h n p od K ((List.range' kd k).foldl (fun f kd => upd f kd al) f, fun _ => 0, wiF M (partsF M), 0, fun _ => 0, fun _ => 0, 0, 0) ws0) (n + 10)) := by
    intro k
    induction k with
    | zero =>
      intro kd f hkd
      have hkd : kd = K := by omega
      subst hkd
      have hw0 := hCr_0 (E := E) (h := h) (a := n) (p := p) (od := od) (K := kd) (s := (f, fun _ => 0, 0, 0, fun _ => 0, fun _ => 0, 0, 0)) (ws := ws0)
      have hwp : hCr E h n p od kd (f, fun _ => 0, 0, 0, fun _ => 0, fun _ => 0, 0, 0) ws0 p = some (oPz (nI N) (nI kd) (nI M) od cp (nI c)) := (px _ _ hpn).trans hp
      refine j_iload_n d_Cr_init_53 rfl ?_
      refine j_aload_n d_Cr_init_54 rfl ?_
      refine j_pV (As := []) d_Cr_init_55 cb_Cr_37 vv_Pz_kinds hwp rfl rfl rfl rfl (Nat.le_of_ble_eq_true rfl) (by decide) (c_Pz_kinds hwp rfl) ?_
      refine j_icmp_ge (tgt := 80) d_Cr_init_58 (by decide) (fun c2 => ?_) (fun c2 => absurd (nI_le (Nat.le_refl _) (by omega)) c2)
      refine j_aload_n d_Cr_init_80 rfl ?_
      refine j_aload_n d_Cr_init_81 rfl ?_
      refine j_aload_n d_Cr_init_82 rfl ?_
      refine j_pV (As := []) d_Cr_init_83 cb_Cr_52 vv_Pz_parties hwp rfl rfl rfl rfl (Nat.le_of_ble_eq_true rfl) (by decide) (c_Pz_parties hwp (vp_in_nI (by omega) (by omega))) ?_
      rw [nI_clamp (by omega)]
      refine j_pV (As := [.int (partsF M)]) d_Cr_init_86 cb_Cr_55 vv_Cr_waysIn hw0 rfl rfl rfl rfl (Nat.le_of_ble_eq_true rfl) (by decide) (c_Cr_waysIn hw0 hwp hM) ?_
      refine j_put d_Cr_init_89 fl_Cr_59 fp_Cr (Or.inl rfl) hw0 h0 rfl rfl (Nat.le_of_ble_eq_true rfl) ?_
      exact j_vret d_Cr_init_92 rfl ⟨rfl, hCr_s0, rfl⟩
    | succ k ih =>
      intro kd f hkd
      have hw0 := hCr_0 (E := E) (h := h) (a := n) (p := p) (od := od) (K := K) (s := (f, fun _ => 0, 0, 0, fun _ => 0, fun _ => 0, 0, 0)) (ws := ws0)
      have hw1 := hCr_1 (E := E) (h := h) (a := n) (p := p) (od := od) (K := K) (s := (f, fun _ => 0, 0, 0, fun _ => 0, fun _ => 0, 0, 0)) (ws := ws0)
      have hwp : hCr E h n p od K (f, fun _ => 0, 0, 0, fun _ => 0, fun _ => 0, 0, 0) ws0 p = some (oPz (nI N) (nI K) (nI M) od cp (nI c)) := (px _ _ hpn).trans hp
      have hwo : hCr E h n p od K (f, fun _ => 0, 0, 0, fun _ => 0, fun _ => 0, 0, 0) ws0 od = some (oOd (nI N) tk vl (nI cnt) al) := (px _ _ o4).trans o1
      refine j_iload_n d_Cr_init_53 rfl ?_
      refine j_aload_n d_Cr_init_54 rfl ?_
      refine j_pV (As := []) d_Cr_init_55 cb_Cr_37 vv_Pz_kinds hwp rfl rfl rfl rfl (Nat.le_of_ble_eq_true rfl) (by decide) (c_Pz_kinds hwp rfl) ?_
      refine j_icmp_ge (tgt := 80) d_Cr_init_58 (by decide) (fun c2 => absurd c2 (nI_ge (by omega) (by omega))) (fun c2 => ?_)
      refine j_aload_n d_Cr_init_61 rfl ?_
      refine j_get d_Cr_init_62 fl_Cr_9 (by first | assumption | exact hset_s _ _ _ | (rw [hset_n _ _ (by omega)]; first | assumption | exact hset_s _ _ _ | (rw [hset_n _ _ (by omega)]; first | assumption | exact hset_s _ _ _ | (rw [hset_n _ _ (by omega)]; first | assumption | exact hset_s _ _ _ | (rw [hset_n _ _ (by omega)]; first | assumption | exact hset_s _ _ _))))) rfl ?_
      refine j_iload_n d_Cr_init_65 rfl ?_
      refine j_aload_n d_Cr_init_66 rfl ?_
      refine j_pV (As := []) d_Cr_init_67 cb_Cr_43 vv_Pz_orders hwp rfl rfl rfl rfl (Nat.le_of_ble_eq_true rfl) (by decide) (c_Pz_orders hwp rfl) ?_
      refine j_pV (As := []) d_Cr_init_70 cb_Cr_47 vv_Od_allTicks hwo rfl rfl rfl rfl (Nat.le_of_ble_eq_true rfl) (by decide) (c_Od_allTicks hwo rfl) ?_
      refine j_iast (t := 0) d_Cr_init_73 rfl hw1 (by omega) (vp_in_nI (by omega) (by omega)) ?_
      refine j_iinc (v := nI (kd + 1)) d_Cr_init_74 rfl (nI_succ kd).symm (by decide) ?_
      refine j_goto (tgt := 53) d_Cr_init_77 (by decide) ?_
      rw [List.range'_succ, List.foldl_cons]
      refine J.conv (L := _) rfl ?_ (ih (kd + 1) _ (by omega))
      rw [nI_clamp (n := kd) (by omega), hCr_s1]
  exact loop K 0 (fun _ => 0) (by omega)
theorem hAn_in {a q : Nat} {s : AS} {ws : WS} {e : va_E} (hq : q < a) : hset (hAn E h a p od K s ws) q e = hAn E (hset h q e) a p od K s ws := by
  unfold hAn hW hB
  rw [hset_comm _ _ _ (show a + 6 + 4 ≠ q by omega), hset_comm _ _ _ (show a + 6 + 3 ≠ q by omega), hset_comm _ _ _ (show a + 6 + 2 ≠ q by omega), hset_comm _ _ _ (show a + 6 + 1 ≠ q by omega), hset_comm _ _ _ (show a + 6 ≠ q by omega), hset_comm _ _ _ (show a + 5 ≠ q by omega), hset_comm _ _ _ (show a + 4 ≠ q by omega), hset_comm _ _ _ (show a + 3 ≠ q by omega), hset_comm _ _ _ (show a + 2 ≠ q by omega), hset_comm _ _ _ (show a + 1 ≠ q by omega), hset_comm _ _ _ (show a ≠ q by omega)]
/-- begin: new Answers, new Crossing -/
theorem c_C_begin {c tx cp N M cc tk vl cnt : Nat} {ln rn al : Int32} {v2 v3 v4 : Value} {tkf : Nat → Int32} {vf : Nat → Nat} (hb : E.2.2.2.1 ≤ c) (hc : h c = some (.inr (0, [.ref tx, .int ln, v2, v3, v4, .int rn]))) (hcn : c < n) (hpc : p ≠ c) (hp : h p = some (oPz (nI N) (nI K) (nI M) od cp (nI cc))) (hpn : p < n) (O : OdF E h n od N tk vl cnt al tkf vf) (hod : od ≠ c) (htk : tk ≠ c) (hvl : vl ≠ c) (hK : K ≤ 3) (hM : M ≤ 3) :
    Ct E m_C_begin 3 21 838 [.ref c, .ref p] h n (Rt none (hset (hCr E (hAn E h n p od K as0 ws0) (n + 11) p od K (xs0 K M al) ws0) c (oC tx ln p n (n + 11) 0)) (n + 21)) := by
  obtain ⟨o1, o2, o3, o4, o5, o6, o7, o8, o9⟩ := O
  refine Ct.go rfl rfl rfl ?_
  refine j_aload_n d_C_begin_0 rfl ?_
  refine j_aload_n d_C_begin_1 rfl ?_
  refine j_put d_C_begin_2 fl_C_42 fp_C (Or.inl rfl) hc hb rfl rfl (Nat.le_of_ble_eq_true rfl) ?_
  generalize hg : hset h c (.inr (0, [.ref tx, .int ln, .ref p, v3, v4, .int rn])) = g
  have gx : ∀ q, q ≠ c → g q = h q := fun q hq => by rw [← hg, hset_n _ _ hq]
  have gc : g c = some (.inr (0, [.ref tx, .int ln, .ref p, v3, v4, .int rn])) := by rw [← hg, hset_s]
  show J E m_C_begin 3 21 838 5 _ _ (hset h c (.inr (0, [.ref tx, .int ln, .ref p, v3, v4, .int rn]))) _ _
  rw [hg]
  refine j_aload_n d_C_begin_5 rfl ?_
  refine j_new (fs := [.null, .null, .null, .null, .null, .null, .null, .int 0, .int 0, .int 0]) d_C_begin_6 nw_C_63 (by decide) (by decide) (by decide) ?_
  refine j_dup d_C_begin_9 rfl ?_
  refine j_aload_n d_C_begin_10 rfl ?_
  refine j_callI (As := [.ref p]) d_C_begin_11 cb_C_129 iv_An_init rfl rfl (Nat.le_of_ble_eq_true rfl) (by decide) (by decide) (by decide) (c_An_init (by omega) ((gx p hpc).trans hp) hpn) (fun v' h' n' q _ => ?_)
  obtain ⟨rfl, rfl, q3⟩ := q; have q3 := q3.symm; subst q3
  refine j_put (fs := [.ref tx, .int ln, .ref p, v3, v4, .int rn]) d_C_begin_14 fl_C_58 fp_C (Or.inl rfl) (by rw [hAn_x (by omega)]; exact gc) hb rfl rfl (Nat.le_of_ble_eq_true rfl) ?_
  generalize hk : hset (hAn E g n p od K as0 ws0) c (.inr (0, [.ref tx, .int ln, .ref p, .ref n, v4, .int rn])) = k
  have kx : ∀ q, q < n → q ≠ c → k q = h q := fun q hq hc => by rw [← hk, hset_n _ _ hc, hAn_x (by omega), gx q hc]
  have kc : k c = some (.inr (0, [.ref tx, .int ln, .ref p, .ref n, v4, .int rn])) := by rw [← hk, hset_s]
  show J E m_C_begin 3 10 220 17 _ _ (hset (hAn E g n p od K as0 ws0) c (.inr (0, [.ref tx, .int ln, .ref p, .ref n, v4, .int rn]))) _ _
  rw [hk]
  refine j_aload_n d_C_begin_17 rfl ?_
  refine j_new (fs := [.null, .null, .null, .null, .int 0, .int 0, .null, .null, .int 0, .int 0]) d_C_begin_18 nw_C_108 (by decide) (by decide) (by decide) ?_
  refine j_dup d_C_begin_21 rfl ?_
  refine j_aload_n d_C_begin_22 rfl ?_
  refine j_callI (As := [.ref p]) d_C_begin_23 cb_C_131 iv_Cr_init rfl rfl (Nat.le_of_ble_eq_true rfl) (by decide) (by decide) (by decide) (c_Cr_init (by omega) ((kx p hpn hpc).trans hp) (by omega) ⟨(kx _ o4 hod).trans o1, (kx _ o5 htk).trans o2, (kx _ o6 hvl).trans o3, by omega, by omega, by omega, o7, o8, o9⟩ hK hM) (fun v' h' n' q _ => ?_)
  obtain ⟨rfl, rfl, q3⟩ := q; have q3 := q3.symm; subst q3
  refine j_put (fs := [.ref tx, .int ln, .ref p, .ref n, v4, .int rn]) d_C_begin_26 fl_C_103 fp_C (Or.inl rfl) (by rw [hCr_x (by omega)]; exact kc) hb rfl rfl (Nat.le_of_ble_eq_true rfl) ?_
  refine j_aload_n d_C_begin_29 rfl ?_
  refine j_iconst (v := 0) d_C_begin_30 (by decide) ?_
  refine j_put d_C_begin_31 fl_C_54 fp_C (Or.inl rfl) (hset_s _ _ _) hb rfl rfl (Nat.le_of_ble_eq_true rfl) ?_
  refine j_vret d_C_begin_34 rfl ⟨rfl, ?_, rfl⟩
  rw [hset_hset]
  funext q
  by_cases h1 : q = c
  · rw [h1, hset_s, hset_s]; rfl
  · rw [hset_n _ _ h1, hset_n _ _ h1]
    have e : ∀ q, q ≠ c → k q = hAn E h n p od K as0 ws0 q := by
      intro q hq
      rw [← hk, hset_n _ _ hq, ← hg, ← hAn_in (show c < n from hcn), hset_n _ _ hq]
    unfold hCr hW hC
    unfold hset
    simp only [e q h1]
end BEG

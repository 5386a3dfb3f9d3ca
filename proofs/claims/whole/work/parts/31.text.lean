theorem d_St_indexOf_0 : decode prog_18_method_79_code 0 = .ok (.aload_n 0, 1) := by decide +kernel
theorem d_St_indexOf_1 : decode prog_18_method_79_code 1 = .ok (.iload_n 1, 1) := by decide +kernel
theorem d_St_indexOf_2 : decode prog_18_method_79_code 2 = .ok (.iconst 0, 1) := by decide +kernel
theorem d_St_indexOf_3 : decode prog_18_method_79_code 3 = .ok (.invokevirtual 633, 3) := by decide +kernel
theorem d_St_indexOf_6 : decode prog_18_method_79_code 6 = .ok (.ireturn, 1) := by decide +kernel
theorem d_St_indexOf2_0 : decode prog_18_method_80_code 0 = .ok (.aload_n 0, 1) := by decide +kernel
theorem d_St_indexOf2_1 : decode prog_18_method_80_code 1 = .ok (.invokevirtual 492, 3) := by decide +kernel
theorem d_St_indexOf2_4 : decode prog_18_method_80_code 4 = .ok (.ifCond .eq 19, 3) := by decide +kernel
theorem d_St_indexOf2_7 : decode prog_18_method_80_code 7 = .ok (.aload_n 0, 1) := by decide +kernel
theorem d_St_indexOf2_8 : decode prog_18_method_80_code 8 = .ok (.getfield 9, 3) := by decide +kernel
theorem d_St_indexOf2_11 : decode prog_18_method_80_code 11 = .ok (.iload_n 1, 1) := by decide +kernel
theorem d_St_indexOf2_12 : decode prog_18_method_80_code 12 = .ok (.iload_n 2, 1) := by decide +kernel
theorem d_St_indexOf2_13 : decode prog_18_method_80_code 13 = .ok (.aload_n 0, 1) := by decide +kernel
theorem d_St_indexOf2_14 : decode prog_18_method_80_code 14 = .ok (.invokevirtual 505, 3) := by decide +kernel
theorem d_St_indexOf2_17 : decode prog_18_method_80_code 17 = .ok (.invokestatic 637, 3) := by decide +kernel
theorem d_St_indexOf2_20 : decode prog_18_method_80_code 20 = .ok (.goto 16, 3) := by decide +kernel
theorem d_St_indexOf2_23 : decode prog_18_method_80_code 23 = .ok (.aload_n 0, 1) := by decide +kernel
theorem d_St_indexOf2_24 : decode prog_18_method_80_code 24 = .ok (.getfield 9, 3) := by decide +kernel
theorem d_St_indexOf2_27 : decode prog_18_method_80_code 27 = .ok (.iload_n 1, 1) := by decide +kernel
theorem d_St_indexOf2_28 : decode prog_18_method_80_code 28 = .ok (.iload_n 2, 1) := by decide +kernel
theorem d_St_indexOf2_29 : decode prog_18_method_80_code 29 = .ok (.aload_n 0, 1) := by decide +kernel
theorem d_St_indexOf2_30 : decode prog_18_method_80_code 30 = .ok (.invokevirtual 505, 3) := by decide +kernel
theorem d_St_indexOf2_33 : decode prog_18_method_80_code 33 = .ok (.invokestatic 640, 3) := by decide +kernel
theorem d_St_indexOf2_36 : decode prog_18_method_80_code 36 = .ok (.ireturn, 1) := by decide +kernel
theorem d_St_isLatin1_0 : decode prog_18_method_154_code 0 = .ok (.getstatic 38, 3) := by decide +kernel
theorem d_St_isLatin1_3 : decode prog_18_method_154_code 3 = .ok (.ifCond .eq 14, 3) := by decide +kernel
theorem d_St_isLatin1_6 : decode prog_18_method_154_code 6 = .ok (.aload_n 0, 1) := by decide +kernel
theorem d_St_isLatin1_7 : decode prog_18_method_154_code 7 = .ok (.getfield 15, 3) := by decide +kernel
theorem d_St_isLatin1_10 : decode prog_18_method_154_code 10 = .ok (.ifCond .ne 7, 3) := by decide +kernel
theorem d_St_isLatin1_13 : decode prog_18_method_154_code 13 = .ok (.iconst 1, 1) := by decide +kernel
theorem d_St_isLatin1_14 : decode prog_18_method_154_code 14 = .ok (.goto 4, 3) := by decide +kernel
theorem d_St_isLatin1_17 : decode prog_18_method_154_code 17 = .ok (.iconst 0, 1) := by decide +kernel
theorem d_St_isLatin1_18 : decode prog_18_method_154_code 18 = .ok (.ireturn, 1) := by decide +kernel
theorem d_St_length_0 : decode prog_18_method_54_code 0 = .ok (.aload_n 0, 1) := by decide +kernel
theorem d_St_length_1 : decode prog_18_method_54_code 1 = .ok (.getfield 9, 3) := by decide +kernel
theorem d_St_length_4 : decode prog_18_method_54_code 4 = .ok (.arraylength, 1) := by decide +kernel
theorem d_St_length_5 : decode prog_18_method_54_code 5 = .ok (.aload_n 0, 1) := by decide +kernel
theorem d_St_length_6 : decode prog_18_method_54_code 6 = .ok (.invokevirtual 335, 3) := by decide +kernel
theorem d_St_length_9 : decode prog_18_method_54_code 9 = .ok (.ishr, 1) := by decide +kernel
theorem d_St_length_10 : decode prog_18_method_54_code 10 = .ok (.ireturn, 1) := by decide +kernel
theorem d_St_coder_0 : decode prog_18_method_152_code 0 = .ok (.getstatic 38, 3) := by decide +kernel
theorem d_St_coder_3 : decode prog_18_method_152_code 3 = .ok (.ifCond .eq 10, 3) := by decide +kernel
theorem d_St_coder_6 : decode prog_18_method_152_code 6 = .ok (.aload_n 0, 1) := by decide +kernel
theorem d_St_coder_7 : decode prog_18_method_152_code 7 = .ok (.getfield 15, 3) := by decide +kernel
theorem d_St_coder_10 : decode prog_18_method_152_code 10 = .ok (.goto 4, 3) := by decide +kernel
theorem d_St_coder_13 : decode prog_18_method_152_code 13 = .ok (.iconst 1, 1) := by decide +kernel
theorem d_St_coder_14 : decode prog_18_method_152_code 14 = .ok (.ireturn, 1) := by decide +kernel
theorem d_Sl_indexOf_0 : decode prog_19_method_22_code 0 = .ok (.iload_n 1, 1) := by decide +kernel
theorem d_Sl_indexOf_1 : decode prog_19_method_22_code 1 = .ok (.invokestatic 88, 3) := by decide +kernel
theorem d_Sl_indexOf_4 : decode prog_19_method_22_code 4 = .ok (.ifCond .ne 5, 3) := by decide +kernel
theorem d_Sl_indexOf_7 : decode prog_19_method_22_code 7 = .ok (.iconst (-1), 1) := by decide +kernel
theorem d_Sl_indexOf_8 : decode prog_19_method_22_code 8 = .ok (.ireturn, 1) := by decide +kernel
theorem d_Sl_indexOf_9 : decode prog_19_method_22_code 9 = .ok (.iload_n 2, 1) := by decide +kernel
theorem d_Sl_indexOf_10 : decode prog_19_method_22_code 10 = .ok (.iconst 0, 1) := by decide +kernel
theorem d_Sl_indexOf_11 : decode prog_19_method_22_code 11 = .ok (.invokestatic 92, 3) := by decide +kernel
theorem d_Sl_indexOf_14 : decode prog_19_method_22_code 14 = .ok (.istore_n 2, 1) := by decide +kernel
theorem d_Sl_indexOf_15 : decode prog_19_method_22_code 15 = .ok (.iload_n 3, 1) := by decide +kernel
theorem d_Sl_indexOf_16 : decode prog_19_method_22_code 16 = .ok (.aload_n 0, 1) := by decide +kernel
theorem d_Sl_indexOf_17 : decode prog_19_method_22_code 17 = .ok (.arraylength, 1) := by decide +kernel
theorem d_Sl_indexOf_18 : decode prog_19_method_22_code 18 = .ok (.invokestatic 38, 3) := by decide +kernel
theorem d_Sl_indexOf_21 : decode prog_19_method_22_code 21 = .ok (.istore_n 3, 1) := by decide +kernel
theorem d_Sl_indexOf_22 : decode prog_19_method_22_code 22 = .ok (.iload_n 2, 1) := by decide +kernel
theorem d_Sl_indexOf_23 : decode prog_19_method_22_code 23 = .ok (.iload_n 3, 1) := by decide +kernel
theorem d_Sl_indexOf_24 : decode prog_19_method_22_code 24 = .ok (.if_icmp .lt 5, 3) := by decide +kernel
theorem d_Sl_indexOf_27 : decode prog_19_method_22_code 27 = .ok (.iconst (-1), 1) := by decide +kernel
theorem d_Sl_indexOf_28 : decode prog_19_method_22_code 28 = .ok (.ireturn, 1) := by decide +kernel
theorem d_Sl_indexOf_29 : decode prog_19_method_22_code 29 = .ok (.aload_n 0, 1) := by decide +kernel
theorem d_Sl_indexOf_30 : decode prog_19_method_22_code 30 = .ok (.iload_n 1, 1) := by decide +kernel
theorem d_Sl_indexOf_31 : decode prog_19_method_22_code 31 = .ok (.iload_n 2, 1) := by decide +kernel
theorem d_Sl_indexOf_32 : decode prog_19_method_22_code 32 = .ok (.iload_n 3, 1) := by decide +kernel
theorem d_Sl_indexOf_33 : decode prog_19_method_22_code 33 = .ok (.invokestatic 95, 3) := by decide +kernel
theorem d_Sl_indexOf_36 : decode prog_19_method_22_code 36 = .ok (.ireturn, 1) := by decide +kernel
theorem d_Sl_canEncode_0 : decode prog_19_method_4_code 0 = .ok (.iload_n 0, 1) := by decide +kernel
theorem d_Sl_canEncode_1 : decode prog_19_method_4_code 1 = .ok (.ifCond .lt 14, 3) := by decide +kernel
theorem d_Sl_canEncode_4 : decode prog_19_method_4_code 4 = .ok (.iload_n 0, 1) := by decide +kernel
theorem d_Sl_canEncode_5 : decode prog_19_method_4_code 5 = .ok (.sipush 255, 3) := by decide +kernel
theorem d_Sl_canEncode_8 : decode prog_19_method_4_code 8 = .ok (.if_icmp .gt 7, 3) := by decide +kernel
theorem d_Sl_canEncode_11 : decode prog_19_method_4_code 11 = .ok (.iconst 1, 1) := by decide +kernel
theorem d_Sl_canEncode_12 : decode prog_19_method_4_code 12 = .ok (.goto 4, 3) := by decide +kernel
theorem d_Sl_canEncode_15 : decode prog_19_method_4_code 15 = .ok (.iconst 0, 1) := by decide +kernel
theorem d_Sl_canEncode_16 : decode prog_19_method_4_code 16 = .ok (.ireturn, 1) := by decide +kernel
theorem d_Sl_indexOfChar_0 : decode prog_19_method_23_code 0 = .ok (.iload_n 1, 1) := by decide +kernel
theorem d_Sl_indexOfChar_1 : decode prog_19_method_23_code 1 = .ok (.i2b, 1) := by decide +kernel
theorem d_Sl_indexOfChar_2 : decode prog_19_method_23_code 2 = .ok (.istore 4, 2) := by decide +kernel
theorem d_Sl_indexOfChar_4 : decode prog_19_method_23_code 4 = .ok (.iload_n 2, 1) := by decide +kernel
theorem d_Sl_indexOfChar_5 : decode prog_19_method_23_code 5 = .ok (.istore 5, 2) := by decide +kernel
theorem d_Sl_indexOfChar_7 : decode prog_19_method_23_code 7 = .ok (.iload 5, 2) := by decide +kernel
theorem d_Sl_indexOfChar_9 : decode prog_19_method_23_code 9 = .ok (.iload_n 3, 1) := by decide +kernel
theorem d_Sl_indexOfChar_10 : decode prog_19_method_23_code 10 = .ok (.if_icmp .ge 21, 3) := by decide +kernel
theorem d_Sl_indexOfChar_13 : decode prog_19_method_23_code 13 = .ok (.aload_n 0, 1) := by decide +kernel
theorem d_Sl_indexOfChar_14 : decode prog_19_method_23_code 14 = .ok (.iload 5, 2) := by decide +kernel
theorem d_Sl_indexOfChar_16 : decode prog_19_method_23_code 16 = .ok (.baload, 1) := by decide +kernel
theorem d_Sl_indexOfChar_17 : decode prog_19_method_23_code 17 = .ok (.iload 4, 2) := by decide +kernel
theorem d_Sl_indexOfChar_19 : decode prog_19_method_23_code 19 = .ok (.if_icmp .ne 6, 3) := by decide +kernel
theorem d_Sl_indexOfChar_22 : decode prog_19_method_23_code 22 = .ok (.iload 5, 2) := by decide +kernel
theorem d_Sl_indexOfChar_24 : decode prog_19_method_23_code 24 = .ok (.ireturn, 1) := by decide +kernel
theorem d_Sl_indexOfChar_25 : decode prog_19_method_23_code 25 = .ok (.iinc 5 1, 3) := by decide +kernel
theorem d_Sl_indexOfChar_28 : decode prog_19_method_23_code 28 = .ok (.goto (-21), 3) := by decide +kernel
theorem d_Sl_indexOfChar_31 : decode prog_19_method_23_code 31 = .ok (.iconst (-1), 1) := by decide +kernel
theorem d_Sl_indexOfChar_32 : decode prog_19_method_23_code 32 = .ok (.ireturn, 1) := by decide +kernel
section TXT
variable {E : EV} {h : HP} {n : Nat}
theorem j_nret {M : MI} {d cl sl pc : Nat} {L : List (Nat × Value)} {Q : Option Value → HP → Nat → Prop} {x : Int32} {ty : FieldType} (hd : decode M.2.1 pc = .ok (.ireturn, 1)) (hr : M.2.2.2 = some ty) (hx : narrow ty (.int x) = .int x) (hq : Q (some (.int x)) h n) : J E M d cl sl pc L [.int x] h n Q := by
  intro p e R s m args below meth c H locs cells slots ls X Y
  refine W.widen (k := R.cells) (n := R.slots) (by have := Y.1; omega) (by have := Y.1; omega) ?_
  exact W.zret X.1 X.2.1 (X.2.2.1.trans hr) hx (fun t ht _ => ⟨_, h, n, rfl, hq, by rw [ht]; exact Y.2.1, by rw [ht]; exact Y.2.2.1, Y.2.2.2.1.F ht⟩) Y.2.2.2.1.2.2 hd X.2.2.2.2.2.2.1
theorem stC : ("java/lang/String", "COMPACT_STRINGS", "Z", Value.int 1) ∈ stats E.2.2.2.2 := by simp [stats]
theorem c_St_coder : Ct E m_St_coder 0 0 0 [.ref (E.2.2.2.2 2)] h n (Rt (some (.int 0)) h n) := by
  refine Ct.go rfl rfl rfl ?_
  refine j_gets d_St_coder_0 stC gk_St_38 ?_
  refine j_if_eq (tgt := 13) d_St_coder_3 (by decide) (fun c => absurd c (by decide)) (fun c => ?_)
  refine j_aload_n d_St_coder_6 rfl ?_
  refine j_scod d_St_coder_7 gk_St_15 ?_
  refine j_goto (tgt := 14) d_St_coder_10 (by decide) ?_
  exact j_nret d_St_coder_14 rfl rfl ⟨rfl, rfl, rfl⟩
theorem c_St_isLatin1 : Ct E m_St_isLatin1 0 0 0 [.ref (E.2.2.2.2 2)] h n (Rt (some (.int 1)) h n) := by
  refine Ct.go rfl rfl rfl ?_
  refine j_gets d_St_isLatin1_0 stC gk_St_38 ?_
  refine j_if_eq (tgt := 17) d_St_isLatin1_3 (by decide) (fun c => absurd c (by decide)) (fun c => ?_)
  refine j_aload_n d_St_isLatin1_6 rfl ?_
  refine j_scod d_St_isLatin1_7 gk_St_15 ?_
  refine j_if_ne (tgt := 17) d_St_isLatin1_10 (by decide) (fun c => absurd rfl c) (fun c => ?_)
  refine j_iconst (v := 1) d_St_isLatin1_13 (by decide) ?_
  refine j_goto (tgt := 18) d_St_isLatin1_14 (by decide) ?_
  exact j_nret d_St_isLatin1_18 rfl rfl ⟨rfl, rfl, rfl⟩
theorem c_St_length : Ct E m_St_length 1 0 0 [.ref (E.2.2.2.2 2)] h n (Rt (some (.int 9)) h n) := by
  refine Ct.go rfl rfl rfl ?_
  refine j_aload_n d_St_length_0 rfl ?_
  refine j_sval d_St_length_1 gk_St_9 ?_
  refine j_stL d_St_length_4 ?_
  refine j_aload_n d_St_length_5 rfl ?_
  refine j_callStr (As := []) d_St_length_6 cb_St_335 vv_St_coder rfl rfl rfl (Nat.le_of_ble_eq_true rfl) (by decide) c_St_coder ?_
  refine j_ishr d_St_length_9 ?_
  exact j_iret d_St_length_10 rfl ⟨by rfl, rfl, rfl⟩
/-- where a byte stands among the signs, from place i on -/
def ixL (c : Int32) : Nat → Nat → Int32
  | 0, _ => -1
  | k + 1, i => if sgnB.getD i 0 = c then nI i else ixL c k (i + 1)
theorem c_Sl_indexOfChar {c : Int32} : Ct E m_Sl_indexOfChar 0 0 0 [.ref (E.2.2.2.2 3), .int c, .int 0, .int 9] h n (Rt (some (.int (ixL c.toInt8.toInt32 9 0))) h n) := by
  refine Ct.go rfl rfl rfl ?_
  refine j_iload_n d_Sl_indexOfChar_0 rfl ?_
  refine j_i2b d_Sl_indexOfChar_1 rfl ?_
  refine j_istore d_Sl_indexOfChar_2 (by decide) ?_
  refine j_iload_n d_Sl_indexOfChar_4 rfl ?_
  refine j_istore d_Sl_indexOfChar_5 (by decide) ?_
  have loop : ∀ k i, i + k = 9 → J E m_Sl_indexOfChar 0 0 0 7 [(0, .ref (E.2.2.2.2 3)), (1, .int c), (2, .int 0), (3, .int 9), (4, .int c.toInt8.toInt32), (5, .int (nI i))] [] h n (Rt (some (.int (ixL c.toInt8.toInt32 k i))) h n) := by
    intro k
    induction k with
    | zero =>
      intro i hi
      have hi : i = 9 := by omega
      subst hi
      refine j_iload d_Sl_indexOfChar_7 rfl ?_
      refine j_iload_n d_Sl_indexOfChar_9 rfl ?_
      refine j_icmp_ge (tgt := 31) d_Sl_indexOfChar_10 (by decide) (fun c2 => ?_) (fun c2 => absurd (by decide) c2)
      refine j_iconst (v := (-1)) d_Sl_indexOfChar_31 (by decide) ?_
      exact j_iret d_Sl_indexOfChar_32 rfl ⟨rfl, rfl, rfl⟩
    | succ k ih =>
      intro i hi
      refine j_iload d_Sl_indexOfChar_7 rfl ?_
      refine j_iload_n d_Sl_indexOfChar_9 rfl ?_
      refine j_icmp_ge (tgt := 31) d_Sl_indexOfChar_10 (by decide) (fun c2 => absurd c2 (nI_ge (a := i) (b := 9) (by omega) (by omega))) (fun c2 => ?_)
      refine j_aload_n d_Sl_indexOfChar_13 rfl ?_
      refine j_iload d_Sl_indexOfChar_14 rfl ?_
      refine j_stB (x := sgnB.getD i 0) d_Sl_indexOfChar_16 (vp_in_nI (by omega) (by omega)) (by rw [nI_clamp (by omega)]) ?_
      refine j_iload d_Sl_indexOfChar_17 rfl ?_
      refine j_icmp_ne (tgt := 25) d_Sl_indexOfChar_19 (by decide) (fun c3 => ?_) (fun c3 => ?_)
      · rw [show ixL c.toInt8.toInt32 (k + 1) i = ixL c.toInt8.toInt32 k (i + 1) from if_neg c3]
        refine j_iinc (v := nI (i + 1)) d_Sl_indexOfChar_25 rfl (nI_succ i).symm (by decide) ?_
        refine j_goto (tgt := 7) d_Sl_indexOfChar_28 (by decide) ?_
        exact ih (i + 1) (by omega)
      · rw [show ixL c.toInt8.toInt32 (k + 1) i = nI i from if_pos c3]
        refine j_iload d_Sl_indexOfChar_22 rfl ?_
        exact j_iret d_Sl_indexOfChar_24 rfl ⟨rfl, rfl, rfl⟩
  exact loop 9 0 (by omega)
theorem j_mmax {M : MI} {d cl sl pc idx : Nat} {L : List (Nat × Value)} {st : List Value} {Q : Option Value → HP → Nat → Prop} {x y : Int32} (hd : decode M.2.1 pc = .ok (.invokestatic idx, 3)) (g : CBx M.1.cls idx m_Ma_max 2) (hs : Cond.static m_Ma_max.1 ∈ GW) (hroom : (st.map fun v => v.category).sum ≤ 8) (hdd : 1 ≤ d) (kk : J E M d cl sl (pc + 3) L (.int (if x < y then y else x) :: st) h n Q) : J E M d cl sl pc L (.int y :: .int x :: st) h n Q := by
  intro p e R s m args below meth c H locs cells slots ls X Y
  obtain ⟨g1, g2, g3, -⟩ := g
  have hts := X.2.2.2.2.2.1
  have y1 := Y.1
  exact va_mmax X.1 X.2.1 (X.2.2.2.1.trans Y.2.2.2.2.1.1.symm) X.2.2.2.2.1 (hts _ g2) (hts _ hs) (hts _ g3) (hts _ g1) (by omega) (by omega) (by omega) (by omega) hd (kk p e R s m args below meth c H locs cells slots ls X Y)
theorem j_mmin {M : MI} {d cl sl pc idx : Nat} {L : List (Nat × Value)} {st : List Value} {Q : Option Value → HP → Nat → Prop} {x y : Int32} (hd : decode M.2.1 pc = .ok (.invokestatic idx, 3)) (g : CBx M.1.cls idx m_Ma_min 2) (hs : Cond.static m_Ma_min.1 ∈ GW) (hroom : (st.map fun v => v.category).sum ≤ 8) (hdd : 1 ≤ d) (kk : J E M d cl sl (pc + 3) L (.int (if y < x then y else x) :: st) h n Q) : J E M d cl sl pc L (.int y :: .int x :: st) h n Q := by
  intro p e R s m args below meth c H locs cells slots ls X Y
  obtain ⟨g1, g2, g3, -⟩ := g
  have hts := X.2.2.2.2.2.1
  have y1 := Y.1
  exact va_mmin X.1 X.2.1 (X.2.2.2.1.trans Y.2.2.2.2.1.1.symm) X.2.2.2.2.1 (hts _ g2) (hts _ hs) (hts _ g3) (hts _ g1) (by omega) (by omega) (by omega) (by omega) hd (kk p e R s m args below meth c H locs cells slots ls X Y)
theorem c_Sl_canEncode {b : Nat} (hb : b < 256) : Ct E m_Sl_canEncode 0 0 0 [.int (nI b)] h n (Rt (some (.int 1)) h n) := by
  refine Ct.go rfl rfl rfl ?_
  refine j_iload_n d_Sl_canEncode_0 rfl ?_
  refine j_if_lt (tgt := 15) d_Sl_canEncode_1 (by decide) (fun c => absurd c (nI_pos (by omega))) (fun c => ?_)
  refine j_iload_n d_Sl_canEncode_4 rfl ?_
  refine j_sipush (v := 255) d_Sl_canEncode_5 (by decide) ?_
  refine j_icmp_gt (tgt := 15) d_Sl_canEncode_8 (by decide) (fun c2 => absurd c2 (nI_nlt (a := 255) (b := b) (by omega) (by omega))) (fun c2 => ?_)
  refine j_iconst (v := 1) d_Sl_canEncode_11 (by decide) ?_
  refine j_goto (tgt := 16) d_Sl_canEncode_12 (by decide) ?_
  exact j_nret d_Sl_canEncode_16 rfl rfl ⟨rfl, rfl, rfl⟩
theorem c_Sl_indexOf {b : Nat} (hb : b < 256) : Ct E m_Sl_indexOf 1 0 0 [.ref (E.2.2.2.2 3), .int (nI b), .int 0, .int 9] h n (Rt (some (.int (ixL (nI b).toInt8.toInt32 9 0))) h n) := by
  refine Ct.go rfl rfl rfl ?_
  refine j_iload_n d_Sl_indexOf_0 rfl ?_
  refine j_pS (As := [.int _]) d_Sl_indexOf_1 cb_Sl_88 sv_Sl_canEncode rfl rfl (Nat.le_of_ble_eq_true rfl) (by decide) (c_Sl_canEncode hb) ?_
  refine j_if_ne (tgt := 9) d_Sl_indexOf_4 (by decide) (fun c => ?_) (fun c => absurd c (by decide))
  refine j_iload_n d_Sl_indexOf_9 rfl ?_
  refine j_iconst (v := 0) d_Sl_indexOf_10 (by decide) ?_
  refine j_mmax d_Sl_indexOf_11 cb_Sl_92 sv_Ma_max (Nat.le_of_ble_eq_true rfl) (by decide) ?_
  rw [if_neg (by decide)]
  refine j_istore_n d_Sl_indexOf_14 (by decide) ?_
  refine j_iload_n d_Sl_indexOf_15 rfl ?_
  refine j_aload_n d_Sl_indexOf_16 rfl ?_
  refine j_stL d_Sl_indexOf_17 ?_
  refine j_mmin d_Sl_indexOf_18 cb_Sl_38 sv_Ma_min (Nat.le_of_ble_eq_true rfl) (by decide) ?_
  rw [if_neg (by decide)]
  refine j_istore_n d_Sl_indexOf_21 (by decide) ?_
  refine j_iload_n d_Sl_indexOf_22 rfl ?_
  refine j_iload_n d_Sl_indexOf_23 rfl ?_
  refine j_icmp_lt (tgt := 29) d_Sl_indexOf_24 (by decide) (fun c => ?_) (fun c => absurd (by decide) c)
  refine j_aload_n d_Sl_indexOf_29 rfl ?_
  refine j_iload_n d_Sl_indexOf_30 rfl ?_
  refine j_iload_n d_Sl_indexOf_31 rfl ?_
  refine j_iload_n d_Sl_indexOf_32 rfl ?_
  refine j_pS (As := [.ref _, .int _, .int _, .int _]) d_Sl_indexOf_33 cb_Sl_95 sv_Sl_indexOfChar rfl rfl (Nat.le_of_ble_eq_true rfl) (by decide) c_Sl_indexOfChar ?_
  exact j_iret d_Sl_indexOf_36 rfl ⟨rfl, rfl, rfl⟩
theorem c_St_indexOf2 {b : Nat} (hb : b < 256) : Ct E m_St_indexOf2 2 0 0 [.ref (E.2.2.2.2 2), .int (nI b), .int 0] h n (Rt (some (.int (ixL (nI b).toInt8.toInt32 9 0))) h n) := by
  refine Ct.go rfl rfl rfl ?_
  refine j_aload_n d_St_indexOf2_0 rfl ?_
  refine j_callStr (As := []) d_St_indexOf2_1 cb_St_492 vv_St_isLatin1 rfl rfl rfl (Nat.le_of_ble_eq_true rfl) (d' := 0) (by decide) c_St_isLatin1 ?_
  refine j_if_eq (tgt := 23) d_St_indexOf2_4 (by decide) (fun c => absurd c (by decide)) (fun c => ?_)
  refine j_aload_n d_St_indexOf2_7 rfl ?_
  refine j_sval d_St_indexOf2_8 gk_St_9 ?_
  refine j_iload_n d_St_indexOf2_11 rfl ?_
  refine j_iload_n d_St_indexOf2_12 rfl ?_
  refine j_aload_n d_St_indexOf2_13 rfl ?_
  refine j_callStr (As := []) d_St_indexOf2_14 cb_St_505 vv_St_length rfl rfl rfl (Nat.le_of_ble_eq_true rfl) (d' := 1) (by decide) c_St_length ?_
  refine j_pS (As := [.ref _, .int _, .int _, .int _]) d_St_indexOf2_17 cb_St_637 sv_Sl_indexOf rfl rfl (Nat.le_of_ble_eq_true rfl) (by decide) (c_Sl_indexOf hb) ?_
  refine j_goto (tgt := 36) d_St_indexOf2_20 (by decide) ?_
  exact j_iret d_St_indexOf2_36 rfl ⟨rfl, rfl, rfl⟩
theorem c_St_indexOf {b : Nat} (hb : b < 256) : Ct E m_St_indexOf 3 0 0 [.ref (E.2.2.2.2 2), .int (nI b)] h n (Rt (some (.int (ixL (nI b).toInt8.toInt32 9 0))) h n) := by
  refine Ct.go rfl rfl rfl ?_
  refine j_aload_n d_St_indexOf_0 rfl ?_
  refine j_iload_n d_St_indexOf_1 rfl ?_
  refine j_iconst (v := 0) d_St_indexOf_2 (by decide) ?_
  refine j_callStr (As := [.int _, .int _]) d_St_indexOf_3 cb_St_633 vv_St_indexOf2 rfl rfl rfl (Nat.le_of_ble_eq_true rfl) (d' := 2) (by decide) (c_St_indexOf2 hb) ?_
  exact j_iret d_St_indexOf_6 rfl ⟨rfl, rfl, rfl⟩
/-- the signs, by their bytes -/
def isSg (b : Nat) : Bool := b == 61 || b == 33 || b == 60 || b == 43 || b == 116 || b == 112 || b == 126 || b == 38 || b == 124
theorem ixL_sg : ∀ b : Nat, b < 256 → (decide (0 ≤ ixL (nI b).toInt8.toInt32 9 0) = isSg b) := by decide +kernel
end TXT

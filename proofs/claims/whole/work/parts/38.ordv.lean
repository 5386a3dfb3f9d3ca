section ORV
/-! the orders' values: small numbers -/
theorem vlA_far {vl : Nat → Int32} {c : Nat} {t : Int32} (hc : c < 24) (hv : ∀ j, 96 ≤ j → vl j = 0) : ∀ (k : Nat), k ≤ 4 → ∀ j, 96 ≤ j → vlA vl c t k j = 0
  | 0, _, j, hj => hv j hj
  | k + 1, hk, j, hj => by
    unfold vlA upd
    rw [if_neg (by omega)]
    exact vlA_far hc hv k (by omega) j hj
theorem addF_far {N : Nat} {s : OS} {t : Int32} (hN : N ≤ 4) (hv : ∀ j, 96 ≤ j → s.2.2.1 j = 0) : ∀ j, 96 ≤ j → (addF N s t).2.2.1 j = 0 := by
  unfold addF
  split
  · rename_i hc; exact vlA_far hc hv N hN
  · exact hv
theorem ofill_far {N : Nat} (hN : N ≤ 4) : ∀ (f th : Nat) (tk : Int32) (s : OS), (∀ j, 96 ≤ j → s.2.2.1 j = 0) → ∀ j, 96 ≤ j → (ofill N f th tk s).2.2.1 j = 0
  | 0, _, _, _, h => h
  | f + 1, th, tk, s, h => by
    rw [ofill_s]
    split
    · exact addF_far hN h
    · refine foldl_le (fun s => ∀ j, 96 ≤ j → s.2.2.1 j = 0) _ (fun s v hs => ?_) _ s h
      unfold ostep
      split
      · exact ofill_far hN f _ _ s hs
      · exact hs
theorem ord_far {N : Nat} (hN : N ≤ 4) : ∀ j, 96 ≤ j → (ord N).2.2.1 j = 0 := ofill_far hN 5 0 0 _ (fun _ _ => rfl)
theorem ord_cnt (N : Nat) : (ord N).1 ≤ 24 := ofill_le 5 0 0 _ (by decide)
set_option maxRecDepth 100000 in
theorem ord_near : ∀ N, N < 5 → ∀ j, j < 96 → ((ord N).2.2.1 j = 0 ∨ (ord N).2.2.1 j = 1 ∨ (ord N).2.2.1 j = 2 ∨ (ord N).2.2.1 j = 3) := by decide +kernel
def vT (N : Nat) : Nat → Nat := fun j => ((ord N).2.2.1 j).toNatClampNeg
theorem ord_sm {N : Nat} (hN : N ≤ 4) (j : Nat) : (ord N).2.2.1 j = 0 ∨ (ord N).2.2.1 j = 1 ∨ (ord N).2.2.1 j = 2 ∨ (ord N).2.2.1 j = 3 := by
  by_cases hj : j < 96
  · exact ord_near N (by omega) j hj
  · exact Or.inl (ord_far hN j (by omega))
theorem ord_vT {N : Nat} (hN : N ≤ 4) : (ord N).2.2.1 = nA (vT N) := by
  funext j
  show _ = nI (((ord N).2.2.1 j).toNatClampNeg)
  rcases ord_sm hN j with h | h | h | h <;> rw [h] <;> rfl
theorem vT_lt {N : Nat} (hN : N ≤ 4) (j : Nat) : vT N j < 4 := by
  show ((ord N).2.2.1 j).toNatClampNeg < 4
  rcases ord_sm hN j with h | h | h | h <;> rw [h] <;> decide
variable {E : EV} {h : HP}
theorem PzA.od {p nn k m c a : Nat} {φ : Nat → PhiT} (A : PzA E h p nn k m c φ) (hnn : nn ≤ 4) (hpa : p + 5 ≤ a) : OdF E h a (p + 2) nn (p + 2 + 1) (p + 2 + 2) (ord nn).1 (ord nn).2.2.2 (ord nn).2.1 (vT nn) := by
  obtain ⟨a1, a2, a3, a4, -⟩ := A
  exact ⟨a2, a3, by rw [← ord_vT hnn]; exact a4, by omega, by omega, by omega, ord_cnt nn, hnn, vT_lt hnn⟩
theorem PzA.pf {p nn k m c a : Nat} {φ : Nat → PhiT} {s : AS} {ws : WS} (A : PzA E h p nn k m c φ) (hpa : p + 5 ≤ a) (hb : E.2.2.2.1 ≤ a) (hc : c ≤ 20) (hk : k ≤ 3) (hm : m ≤ 3) (hA : hAn E h a p (p + 2) k s ws = h) : PzF E h a p (p + 2) k nn m c 31 φ := by
  obtain ⟨a1, a2, a3, a4, f, a5, a6⟩ := A
  refine ⟨p + 1, f, a1, by omega, a5, by omega, a6, hc, hk, hm, ?_, hb⟩
  intro q h1 h2 ci fs hci
  rw [← hA]
  have e : q = a ∨ q = a + 1 ∨ q = a + 2 ∨ q = a + 3 ∨ q = a + 4 ∨ q = a + 5 ∨ q = a + 6 ∨ q = a + 6 + 1 ∨ q = a + 6 + 2 ∨ q = a + 6 + 3 ∨ q = a + 6 + 4 := by omega
  rcases e with rfl | rfl | rfl | rfl | rfl | rfl | rfl | rfl | rfl | rfl | rfl
  · rw [hAn_0]; intro z; cases z; simp [clN] at hci
  · rw [hAn_1]; intro z; cases z
  · rw [hAn_2]; intro z; cases z
  · rw [hAn_3]; intro z; cases z
  · rw [hAn_4]; intro z; cases z
  · rw [hAn_5]; intro z; cases z
  · rw [hAn_6]; intro z; cases z; simp [clN] at hci
  · rw [show hAn E h a p (p + 2) k s ws (a + 6 + 1) = _ from hW_1]; intro z; cases z
  · rw [show hAn E h a p (p + 2) k s ws (a + 6 + 2) = _ from hW_2]; intro z; cases z
  · rw [show hAn E h a p (p + 2) k s ws (a + 6 + 3) = _ from hW_3]; intro z; cases z
  · rw [show hAn E h a p (p + 2) k s ws (a + 6 + 4) = _ from hW_4]; intro z; cases z
theorem PzA.pg {p nn k m c a : Nat} {φ : Nat → PhiT} {s : XS} {ws : WS} (A : PzA E h p nn k m c φ) (hpa : p + 5 ≤ a) (hb : E.2.2.2.1 ≤ a) (hc : c ≤ 20) (hk : k ≤ 3) (hm : m ≤ 3) (hA : hCr E h a p (p + 2) k s ws = h) : PzG E h a p (p + 2) k nn m c 31 φ := by
  obtain ⟨a1, a2, a3, a4, f, a5, a6⟩ := A
  refine ⟨p + 1, f, a1, by omega, a5, by omega, a6, hc, hk, hm, ?_, hb⟩
  intro q h1 h2 ci fs hci
  rw [← hA]
  have e : q = a ∨ q = a + 1 ∨ q = a + 2 ∨ q = a + 3 ∨ q = a + 4 ∨ q = a + 5 ∨ q = a + 5 + 1 ∨ q = a + 5 + 2 ∨ q = a + 5 + 3 ∨ q = a + 5 + 4 := by omega
  rcases e with rfl | rfl | rfl | rfl | rfl | rfl | rfl | rfl | rfl | rfl
  · rw [hCr_0]; intro z; cases z; simp [clN] at hci
  · rw [hCr_1]; intro z; cases z
  · rw [hCr_2]; intro z; cases z
  · rw [hCr_3]; intro z; cases z
  · rw [hCr_4]; intro z; cases z
  · rw [hCr_5]; intro z; cases z; simp [clN] at hci
  · rw [show hCr E h a p (p + 2) k s ws (a + 5 + 1) = _ from hW_1]; intro z; cases z
  · rw [show hCr E h a p (p + 2) k s ws (a + 5 + 2) = _ from hW_2]; intro z; cases z
  · rw [show hCr E h a p (p + 2) k s ws (a + 5 + 3) = _ from hW_3]; intro z; cases z
  · rw [show hCr E h a p (p + 2) k s ws (a + 5 + 4) = _ from hW_4]; intro z; cases z
end ORV

/-! THE PAST, class: bring back -/
section
variable {S T : AS} {N : Nat → Nat}
def bk_n (n : Nat) : Nat := if n = 0 then 39 else n - 1
def bk_S (S : AS) (n c : Nat) : AS := ax_sfi (ax_sfi S 7 0 1 (nI (bk_n n))) 7 0 2 (nI (c - 1))
theorem bk_lt {n : Nat} (h : n < 40) : bk_n n < 40 := by
  unfold bk_n
  split <;> omega
theorem jc_back0 (e2 : ax_fi S 7 0 2 = nI 0) : f_X7_bringBack 0 S = some (0, S) := by
  unfold f_X7_bringBack
  rw [e2, if_pos (sn_0).symm]
theorem jc_back {n c : Nat} (hn : n < 40) (h1 : 1 ≤ c) (hc : c ≤ 40) (e1 : ax_fi S 7 0 1 = nI n) (e2 : ax_fi S 7 0 2 = nI c) (hr : ∀ m, m < 18 → ax_ai S 33 0 (bk_n n * 18 + m) = nI (sv N m)) : ∃ Z, f_X7_bringBack 0 S = some (1, Z) ∧ jc_S Z 0 N ∧ jc_st (bk_S S n c) Z 0 := by
  have hb := bk_lt hn
  have c0 : (nI c = (0 : Int32)) ↔ c = 0 := nI_eq (b := 0) (by omega) (by omega)
  have d0 : (nI n ≤ (0 : Int32)) ↔ n ≤ 0 := nI_leI (b := 0) (by omega) (by omega)
  have ix : nI (bk_n n) * (18 : Int32) = nI (bk_n n * 18) := by rw [sn_18, pk_mul]
  obtain ⟨Z, z1, z2, z3⟩ := jc_load (S := bk_S S n c) (N := N) (a := bk_n n * 18) (by omega) hr
  have f2 : ax_fi (ax_sfi S 7 0 1 (nI (bk_n n))) 7 0 2 = nI c := by
    rw [sg, if_neg (by omega)]
    exact e2
  have f1 : ax_fi (bk_S S n c) 7 0 1 = nI (bk_n n) := by
    unfold bk_S
    rw [sg, if_neg (by omega), sg, if_pos rfl]
  have s1 : nI c - (1 : Int32) = nI (c - 1) := by rw [sn_1, pk_sub (by omega)]
  have en : ∀ x : Int32, x = nI (bk_n n) → ax_let (ax_sfi S 7 0 1 x) (fun (S5 : AS) => ax_let (ax_sfi S5 7 0 2 ((ax_fi S5 7 0 2) - (1 : Int32))) (fun (S6 : AS) => (f_X9_loadFrom_33x0 0 ((ax_fi S6 7 0 1) * (18 : Int32)) S6).bind (fun (S7 : AS) => some ((1 : Int32), S7)))) = some (1, Z) := fun x hx => by
    have hs : ax_sfi (ax_sfi S 7 0 1 (nI (bk_n n))) 7 0 2 (nI (c - 1)) = bk_S S n c := rfl
    rw [hx, sn_let, f2, s1, hs, sn_let, f1, ix, z1, sn_bs]
  refine ⟨Z, ?_, z2, z3⟩
  unfold f_X7_bringBack
  rw [e2, if_neg (fun z => absurd (c0.mp z) (by omega)), sn_let, e1]
  by_cases q : n = 0
  · rw [if_pos (d0.mpr (by omega))]
    exact en 39 (by unfold bk_n; rw [if_pos q]; exact Eq.trans rfl rfl)
  · rw [if_neg (fun z => absurd (d0.mp z) (by omega))]
    exact en _ (by unfold bk_n; rw [if_neg q, sn_1, pk_sub (by omega)])
end

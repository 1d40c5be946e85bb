/-! THE PAST, class: remember -/
section
variable {S T : AS} {N : Nat → Nat}
def rm_S (S : AS) (N : Nat → Nat) (n c : Nat) : AS := ax_sfi (ax_sfi (rw_st S 33 (sv_f (ax_ai S 33 0) N (n * 18))) 7 0 1 (nI (if n = 39 then 0 else n + 1))) 7 0 2 (nI (min 40 (c + 1)))
theorem jc_rem {n c : Nat} (hn : n < 40) (hc : c ≤ 40) (e1 : ax_fi S 7 0 1 = nI n) (e2 : ax_fi S 7 0 2 = nI c) (hS : jc_S S 0 N) : f_X7_remember 0 S = some (rm_S S N n c) := by
  have ix : nI n * (18 : Int32) = nI (n * 18) := by rw [sn_18, pk_mul]
  have f1 : ax_fi (rw_st S 33 (sv_f (ax_ai S 33 0) N (n * 18))) 7 0 1 = nI n := e1
  have c40 : ((40 : Int32) ≤ nI (n + 1)) ↔ 40 ≤ n + 1 := nI_leI (a := 40) (by omega) (by omega)
  have f2 : ∀ v, ax_fi (ax_sfi (rw_st S 33 (sv_f (ax_ai S 33 0) N (n * 18))) 7 0 1 v) 7 0 2 = nI c := fun v => by
    rw [sg, if_neg (by omega)]
    exact e2
  unfold f_X7_remember rm_S
  rw [e1, ix, jc_save (by omega) hS, sn_bs, sn_let, f1, nI_1]
  by_cases q : n = 39
  · rw [if_pos (c40.mpr (by omega)), if_pos q]
    dsimp only
    rw [sn_let, f2, nI_1, sn_40, sn_mn (by omega) (by omega), sn_bs, sn_let]
    rfl
  · rw [if_neg (fun z => absurd (c40.mp z) (by omega)), if_neg q]
    dsimp only
    rw [sn_let, f2, nI_1, sn_40, sn_mn (by omega) (by omega), sn_bs, sn_let]
end

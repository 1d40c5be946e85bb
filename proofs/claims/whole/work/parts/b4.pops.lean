/-! THE PAST on both sides: undo -/
section
variable {S T S' T' : AS} {N : Nat → Nat} {n c : Nat} {P : Nat → Nat → Nat} {Lg : Nat → Nat}
theorem bk_eq (h : n < 40) : (n = 0 ∧ bk_n n = 39) ∨ (1 ≤ n ∧ bk_n n = n - 1) := by
  unfold bk_n
  by_cases q : n = 0
  · exact .inl ⟨q, if_pos q⟩
  · exact .inr ⟨by omega, if_neg q⟩
theorem jpa_top (h : jpa S T n (c + 1) P Lg) : (∀ m, m < 18 → ax_ai S 33 0 (bk_n n * 18 + m) = nI (sv (P c) m)) ∧ jr_S (un_f (ax_ai T 59 0) (ax_ai T 55 0) c) (P c) ∧ jl_r (un_f (ax_ai T 59 0) (ax_ai T 55 0) c) (P c 22) Lg := by
  obtain ⟨h1, h2, h3, h4, h5, h6⟩ := h
  obtain ⟨k1, k2, k3⟩ := h6 c (by omega)
  have hb := bk_eq h1
  have g : ∀ j, j < 204 → un_f (ax_ai T 59 0) (ax_ai T 55 0) c j = (fun j => ax_ai T 59 0 (204 * c + j)) j := fun j hj => by
    unfold un_f
    rw [if_pos hj]
  refine ⟨fun m hm => ?_, jr_S_c g k2, jl_r_c g k3⟩
  have w := k1 m hm
  rw [(by omega : (n + 40 - (c + 1) + c) % 40 = bk_n n)] at w
  exact w
theorem jpa_pop (h : jpa S T n (c + 1) P Lg) (s1 : ax_fi S' 7 0 1 = nI (bk_n n)) (s2 : ax_fi S' 7 0 2 = nI c) (s3 : ax_ai S' 33 0 = ax_ai S 33 0) (t1 : ax_fi T' 12 0 39 = nI c) (t2 : ax_ai T' 59 0 = ax_ai T 59 0) : jpa S' T' (bk_n n) c P Lg := by
  obtain ⟨h1, h2, h3, h4, h5, h6⟩ := h
  have hb := bk_eq h1
  refine ⟨by omega, by omega, s1, s2, t1, fun a ha => ?_⟩
  rw [s3, t2, (by omega : (bk_n n + 40 - c + a) % 40 = (n + 40 - (c + 1) + a) % 40)]
  exact h6 a (by omega)
theorem un_jpa {i : Nat} (h : jpa S T n (c + 1) P Lg) : ∃ Z, f_X7_bringBack 0 S = some (1, Z) ∧ jc_S Z 0 (P c) ∧ jc_st (bk_S S n (c + 1)) Z 0 ∧ f_X12_undo T = some (nI c, rw_st (ax_sfi (ax_sfi T 12 0 0 0) 12 0 39 (nI c)) 55 (un_f (ax_ai T 59 0) (ax_ai T 55 0) c)) := by
  have t := jpa_top h
  obtain ⟨Z, z1, z2, z3⟩ := jc_back h.1 (by omega) h.2.1 h.2.2.1 h.2.2.2.1 t.1
  have hc := h.2.1
  exact ⟨Z, z1, z2, z3, jr_undo (by omega) h.2.2.2.2.1⟩
end

/-! THE PAST, class: a state is loaded -/
section
variable {S T : AS} {N : Nat → Nat} {i : Nat}
theorem sfa {k i j : Nat} {v : Int32} : ax_ai (ax_sfi S k i j v) = ax_ai S := rfl
theorem cp_r33 (U : AS) : ax_rd U 33 0 = ax_ai U 33 0 := rfl
theorem cp_g2 {k a m p sp : Nat} {f : Nat → Int32} : ax_ai (ax_cpy S k a f sp 0 m) k a p = if p < m then f (sp + p) else ax_ai S k a p := by
  unfold ax_ai ax_cpy va_cpy
  simp
theorem cp_fi2 {k a m sp : Nat} {f : Nat → Int32} : ax_fi (ax_cpy S k a f sp 0 m) = ax_fi S := rfl
theorem jc_st.cp2 {k m sp : Nat} {f : Nat → Int32} (hk : k = 38 ∨ k = 39) : jc_st S (ax_cpy S k i f sp 0 m) i := by
  refine ⟨fun _ _ _ _ _ => rfl, rfl, rfl, rfl, fun a b p _ _ => ?_, rfl⟩
  exact ax_cpy_o (fun q => p ⟨by rw [q.1]; exact hk, q.2⟩)
theorem jc_load {a : Nat} (ha : a ≤ 702) (hr : ∀ m, m < 18 → ax_ai S 33 0 (a + m) = nI (sv N m)) : ∃ Z, f_X9_loadFrom_33x0 0 (nI a) S = some Z ∧ jc_S Z 0 N ∧ jc_st S Z 0 := by
  have x1 : nI a + (1 : Int32) = nI (a + 1) := by rw [sn_1, nI_add]
  have x2 : nI a + (2 : Int32) = nI (a + 2) := by rw [sn_2, nI_add]
  have x3 : nI a + (3 : Int32) = nI (a + 3) := by rw [sn_3, nI_add]
  have x4 : nI a + (4 : Int32) = nI (a + 4) := by rw [sn_4, nI_add]
  have x5 : nI a + (5 : Int32) = nI (a + 5) := by rw [sn_5, nI_add]
  have x6 : nI a + (6 : Int32) = nI (a + 6) := by rw [sn_6, nI_add]
  have x7 : nI a + (7 : Int32) = nI (a + 7) := by rw [sn_7, nI_add]
  have x8 : nI a + (8 : Int32) = nI (a + 8) := by rw [sn_8, nI_add]
  have x12 : nI a + (12 : Int32) = nI (a + 12) := by rw [sn_12, nI_add]
  have x18 : nI a + (18 : Int32) = nI (a + 18) := by rw [sn_18, nI_add]
  have c18 : nI (a + 18) ≤ Int32.ofNat 720 := (nI_leI (b := 720) (by omega) (by omega)).mpr (by omega)
  have g0 : ax_in (nI a) 720 = true := sn_in (by omega) (by omega)
  have g1 : ax_in (nI (a + 1)) 720 = true := sn_in (by omega) (by omega)
  have g2 : ax_in (nI (a + 2)) 720 = true := sn_in (by omega) (by omega)
  have g3 : ax_in (nI (a + 3)) 720 = true := sn_in (by omega) (by omega)
  have g4 : ax_in (nI (a + 4)) 720 = true := sn_in (by omega) (by omega)
  have g5 : ax_in (nI (a + 5)) 720 = true := sn_in (by omega) (by omega)
  have g6 : ax_in (nI (a + 6)) 720 = true := sn_in (by omega) (by omega)
  have g7 : ax_in (nI (a + 7)) 720 = true := sn_in (by omega) (by omega)
  have k0 : (nI a).toNatClampNeg = a := nI_clamp (by omega)
  have k1 : (nI (a + 1)).toNatClampNeg = (a + 1) := nI_clamp (by omega)
  have k2 : (nI (a + 2)).toNatClampNeg = (a + 2) := nI_clamp (by omega)
  have k3 : (nI (a + 3)).toNatClampNeg = (a + 3) := nI_clamp (by omega)
  have k4 : (nI (a + 4)).toNatClampNeg = (a + 4) := nI_clamp (by omega)
  have k5 : (nI (a + 5)).toNatClampNeg = (a + 5) := nI_clamp (by omega)
  have k6 : (nI (a + 6)).toNatClampNeg = (a + 6) := nI_clamp (by omega)
  have k7 : (nI (a + 7)).toNatClampNeg = (a + 7) := nI_clamp (by omega)
  have k8 : (nI (a + 8)).toNatClampNeg = (a + 8) := nI_clamp (by omega)
  have k12 : (nI (a + 12)).toNatClampNeg = (a + 12) := nI_clamp (by omega)
  have r0 : ax_ai S 33 0 a = nI (N 16) := by
    have q := hr 0 (by omega)
    rw [sv_0] at q
    exact q
  have r1 : ax_ai S 33 0 (a + 1) = nI (jn_bits N) := by
    have q := hr 1 (by omega)
    rw [sv_1] at q
    exact q
  have r2 : ax_ai S 33 0 (a + 2) = nI (N 20) := by
    have q := hr 2 (by omega)
    rw [sv_2] at q
    exact q
  have r3 : ax_ai S 33 0 (a + 3) = nI (N 17) := by
    have q := hr 3 (by omega)
    rw [sv_3] at q
    exact q
  have r4 : ax_ai S 33 0 (a + 4) = nI (N 18) := by
    have q := hr 4 (by omega)
    rw [sv_4] at q
    exact q
  have r5 : ax_ai S 33 0 (a + 5) = nI (N 19) := by
    have q := hr 5 (by omega)
    rw [sv_5] at q
    exact q
  have r6 : ax_ai S 33 0 (a + 6) = nI (N 21) := by
    have q := hr 6 (by omega)
    rw [sv_6] at q
    exact q
  have r7 : ax_ai S 33 0 (a + 7) = nI (N 22) := by
    have q := hr 7 (by omega)
    rw [sv_7] at q
    exact q
  have r8 : ∀ l, l < 4 → ax_ai S 33 0 (a + 8 + l) = nI (N (12 + l)) := fun l hl => by
    have q := hr (8 + l) (by omega)
    rw [sv_r hl, ← Nat.add_assoc] at q
    exact q
  have r12 : ∀ l, l < 6 → ax_ai S 33 0 (a + 12 + l) = nI (N (2 * l)) := fun l hl => by
    have q := hr (12 + l) (by omega)
    rw [sv_t, ← Nat.add_assoc] at q
    exact q
  have c4 : (4 : Int32).toNatClampNeg = 4 := Eq.trans rfl rfl
  have c6 : (6 : Int32).toNatClampNeg = 6 := Eq.trans rfl rfl
  have G8 : (!decide (nI (a + 8) < 0) && !decide ((0 : Int32) < 0) && !decide ((4 : Int32) < 0) && decide (a + 8 + 4 ≤ 720) && decide (0 + 4 ≤ 4)) = true := by
    have z : decide (nI (a + 8) < 0) = false := decide_eq_false (nI_pos (by omega))
    have y : decide (a + 8 + 4 ≤ 720) = true := decide_eq_true (by omega)
    rw [z, y]
    decide
  have G12 : (!decide (nI (a + 12) < 0) && !decide ((0 : Int32) < 0) && !decide ((6 : Int32) < 0) && decide (a + 12 + 6 ≤ 720) && decide (0 + 6 ≤ 6)) = true := by
    have z : decide (nI (a + 12) < 0) = false := decide_eq_false (nI_pos (by omega))
    have y : decide (a + 12 + 6 ≤ 720) = true := decide_eq_true (by omega)
    rw [z, y]
    decide
  unfold f_X9_loadFrom_33x0
  rw [if_neg (nI_pos (by omega)), x18, if_pos c18, x1, x2, x3, x4, x5, x6, x7, x8, x12]
  rw [g0, sn_gd, k0, r0, sn_let]
  rw [g1, sn_gd, k1, sfa, r1, sn_let]
  rw [g2, sn_gd, k2, sfa, sfa, r2, sn_let]
  rw [g3, sn_gd, k3, sfa, sfa, sfa, r3, sn_let]
  rw [g4, sn_gd, k4, sfa, sfa, sfa, sfa, r4, sn_let]
  rw [g5, sn_gd, k5, sfa, sfa, sfa, sfa, sfa, r5, sn_let]
  rw [g6, sn_gd, k6, sfa, sfa, sfa, sfa, sfa, sfa, r6, sn_let]
  rw [g7, sn_gd, k7, sfa, sfa, sfa, sfa, sfa, sfa, sfa, r7, sn_let]
  generalize hU : ax_sfi (ax_sfi (ax_sfi (ax_sfi (ax_sfi (ax_sfi (ax_sfi (ax_sfi (S) 9 0 0 (nI (N 16))) 9 0 1 (nI (jn_bits N))) 9 0 2 (nI (N 20))) 9 0 3 (nI (N 17))) 9 0 4 (nI (N 18))) 9 0 5 (nI (N 19))) 9 0 6 (nI (N 21))) 9 0 7 (nI (N 22)) = U
  have u : ∀ m, ax_fi U 9 0 m = if m = 7 then nI (N 22) else if m = 6 then nI (N 21) else if m = 5 then nI (N 19) else if m = 4 then nI (N 18) else if m = 3 then nI (N 17) else if m = 2 then nI (N 20) else if m = 1 then nI (jn_bits N) else if m = 0 then nI (N 16) else ax_fi S 9 0 m := fun m => by
    rw [← hU, sg, sg, sg, sg, sg, sg, sg, sg]
  have ua : ax_ai U = ax_ai S := by rw [← hU]; rfl
  have qU : jc_st S U 0 := by
    rw [← hU]
    exact ((((((jc_st.fi.tr jc_st.fi).tr jc_st.fi).tr jc_st.fi).tr jc_st.fi).tr jc_st.fi).tr jc_st.fi).tr jc_st.fi
  rw [cp_l33, cp_l38, k8, c4, cl_r0, G8, sn_gd, cp_r33, sn_let, cp_l33, cp_l39, k12, c6, G12, sn_gd, cp_r33, sn_let]
  clear G8 G12 g0 g1 g2 g3 g4 g5 g6 g7 k0 k1 k2 k3 k4 k5 k6 k7 k8 k12 x1 x2 x3 x4 x5 x6 x7 x8 x12 x18 c18 c4 c6 hU
  refine ⟨_, rfl, ⟨?_, ?_, ?_, ?_, ?_, ?_, ?_, ?_, ?_, ?_⟩, (qU.tr (jc_st.cp2 (.inl rfl))).tr (jc_st.cp2 (.inr rfl))⟩
  · rw [cp_fi2, cp_fi2, u, if_neg (by omega), if_neg (by omega), if_neg (by omega), if_neg (by omega), if_neg (by omega), if_neg (by omega), if_neg (by omega), if_pos rfl]
  · rw [cp_fi2, cp_fi2, u, if_neg (by omega), if_neg (by omega), if_neg (by omega), if_neg (by omega), if_neg (by omega), if_neg (by omega), if_pos rfl]
  · rw [cp_fi2, cp_fi2, u, if_neg (by omega), if_neg (by omega), if_neg (by omega), if_neg (by omega), if_neg (by omega), if_pos rfl]
  · rw [cp_fi2, cp_fi2, u, if_neg (by omega), if_neg (by omega), if_neg (by omega), if_neg (by omega), if_pos rfl]
  · rw [cp_fi2, cp_fi2, u, if_neg (by omega), if_neg (by omega), if_neg (by omega), if_pos rfl]
  · rw [cp_fi2, cp_fi2, u, if_neg (by omega), if_neg (by omega), if_pos rfl]
  · rw [cp_fi2, cp_fi2, u, if_neg (by omega), if_pos rfl]
  · rw [cp_fi2, cp_fi2, u, if_pos rfl]
  · intro l hl
    rw [ax_cpy_o (fun q => absurd q.1 (by omega)), cp_g2, if_pos hl, ua]
    exact r8 l hl
  · intro v hv
    rw [cp_g2, if_pos hv, ax_cpy_o (fun q => absurd q.1 (by omega)), ua]
    exact r12 v hv
end

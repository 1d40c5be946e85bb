/-! COPIES of states -/
section
variable {S Z T : AS} {i j : Nat} {H N : Nat → Nat} {W : Option (List la_C)} {M : Nat} {K : Nat → List la_C}
theorem cp_l38 (U : AS) (a : Nat) : ax_ln U 38 a = 4 := rfl
theorem cp_l39 (U : AS) (a : Nat) : ax_ln U 39 a = 6 := rfl
theorem cp_r38 (U : AS) (a : Nat) : ax_rd U 38 a = ax_ai U 38 a := rfl
theorem cp_r39 (U : AS) (a : Nat) : ax_rd U 39 a = ax_ai U 39 a := rfl
theorem cp_g {k a b m p : Nat} {f : Nat → Int32} : ax_ai (ax_cpy S k a f 0 0 m) k a p = if p < m then f p else ax_ai S k a p := by
  unfold ax_ai ax_cpy va_cpy
  simp
theorem cp_fi {k a m : Nat} {f : Nat → Int32} : ax_fi (ax_cpy S k a f 0 0 m) = ax_fi S := rfl
theorem jc_st.cp {k m : Nat} {f : Nat → Int32} (hk : k = 38 ∨ k = 39) : jc_st S (ax_cpy S k i f 0 0 m) i := by
  refine ⟨fun _ _ _ _ _ => rfl, rfl, rfl, rfl, fun a b p _ _ => ?_, rfl⟩
  exact ax_cpy_o (fun q => p ⟨by rw [q.1]; exact hk, q.2⟩)
theorem sgi {k p m : Nat} {v : Int32} (h : j ≠ i) : ax_fi (ax_sfi S k i p v) k j m = ax_fi S k j m := by
  unfold ax_fi ax_sfi ax_u3
  exact if_neg (fun q => h q.2.1)
theorem jc_copy (hS : jc_S S j N) (h : j ≠ i) : ∃ Z, f_X9_copyFrom i j S = some Z ∧ jc_S Z i N ∧ jc_st S Z i := by
  obtain ⟨s0, s1, s2, s3, s4, s5, s6, s7, s8, s9⟩ := hS
  have g4 : (!decide ((0 : Int32) < 0) && !decide ((0 : Int32) < 0) && !decide ((4 : Int32) < 0) && decide ((0 : Int32).toNatClampNeg + (4 : Int32).toNatClampNeg ≤ 4) && decide ((0 : Int32).toNatClampNeg + (4 : Int32).toNatClampNeg ≤ 4)) = true := by decide
  have g6 : (!decide ((0 : Int32) < 0) && !decide ((0 : Int32) < 0) && !decide ((6 : Int32) < 0) && decide ((0 : Int32).toNatClampNeg + (6 : Int32).toNatClampNeg ≤ 6) && decide ((0 : Int32).toNatClampNeg + (6 : Int32).toNatClampNeg ≤ 6)) = true := by decide
  have c4 : (4 : Int32).toNatClampNeg = 4 := Eq.trans rfl rfl
  have c6 : (6 : Int32).toNatClampNeg = 6 := Eq.trans rfl rfl
  unfold f_X9_copyFrom
  rw [sn_let, sgi h, sn_let, sgi h, sgi h, sn_let, sgi h, sgi h, sgi h, sn_let, sgi h, sgi h, sgi h, sgi h, sn_let, sgi h, sgi h, sgi h, sgi h, sgi h, sn_let, sgi h, sgi h, sgi h, sgi h, sgi h, sgi h, sn_let, sgi h, sgi h, sgi h, sgi h, sgi h, sgi h, sgi h, sn_let, s0, s1, s2, s3, s4, s5, s6, s7]
  generalize hU : ax_sfi (ax_sfi (ax_sfi (ax_sfi (ax_sfi (ax_sfi (ax_sfi (ax_sfi S 9 i 0 (nI (N 16))) 9 i 1 (nI (jn_bits N))) 9 i 2 (nI (N 20))) 9 i 3 (nI (N 17))) 9 i 4 (nI (N 18))) 9 i 5 (nI (N 19))) 9 i 6 (nI (N 21))) 9 i 7 (nI (N 22)) = U
  have u : ∀ m, ax_fi U 9 i m = if m = 7 then nI (N 22) else if m = 6 then nI (N 21) else if m = 5 then nI (N 19) else if m = 4 then nI (N 18) else if m = 3 then nI (N 17) else if m = 2 then nI (N 20) else if m = 1 then nI (jn_bits N) else if m = 0 then nI (N 16) else ax_fi S 9 i m := fun m => by
    rw [← hU, sg, sg, sg, sg, sg, sg, sg, sg]
  have ua : ax_ai U = ax_ai S := by rw [← hU]; rfl
  have qU : jc_st S U i := by
    rw [← hU]
    exact ((((((jc_st.fi.tr jc_st.fi).tr jc_st.fi).tr jc_st.fi).tr jc_st.fi).tr jc_st.fi).tr jc_st.fi).tr jc_st.fi
  rw [cp_l38, cp_l38, g4, sn_gd, sn_let, cp_l39, cp_l39, g6, sn_gd, sn_let, cp_r38, cp_r39, cl_r0, c4, c6]
  refine ⟨_, rfl, ⟨?_, ?_, ?_, ?_, ?_, ?_, ?_, ?_, ?_, ?_⟩, (qU.tr (jc_st.cp (.inl rfl))).tr (jc_st.cp (.inr rfl))⟩
  · rw [cp_fi, cp_fi, u, if_neg (by omega), if_neg (by omega), if_neg (by omega), if_neg (by omega), if_neg (by omega), if_neg (by omega), if_neg (by omega), if_pos rfl]
  · rw [cp_fi, cp_fi, u, if_neg (by omega), if_neg (by omega), if_neg (by omega), if_neg (by omega), if_neg (by omega), if_neg (by omega), if_pos rfl]
  · rw [cp_fi, cp_fi, u, if_neg (by omega), if_neg (by omega), if_neg (by omega), if_neg (by omega), if_neg (by omega), if_pos rfl]
  · rw [cp_fi, cp_fi, u, if_neg (by omega), if_neg (by omega), if_neg (by omega), if_neg (by omega), if_pos rfl]
  · rw [cp_fi, cp_fi, u, if_neg (by omega), if_neg (by omega), if_neg (by omega), if_pos rfl]
  · rw [cp_fi, cp_fi, u, if_neg (by omega), if_neg (by omega), if_pos rfl]
  · rw [cp_fi, cp_fi, u, if_neg (by omega), if_pos rfl]
  · rw [cp_fi, cp_fi, u, if_pos rfl]
  · intro l hl
    rw [ax_cpy_o (fun q => absurd q.1 (by omega)), cp_g (b := 0), if_pos hl, ua]
    exact s8 l hl
  · intro v hv
    rw [cp_g (b := 0), if_pos hv, ax_cpy_o (fun q => absurd q.1 (by omega)), ua]
    exact s9 v hv
/-! the reference: row 55 to row 56 -/
theorem jr_cpL {f : Nat → Int32} (Kr : AS → Option AS) : ∀ d n p (g : Nat → Int32), p + d = 23 → d < n → ax_ai T 55 0 = f → f_X12_copy_55x0_56x0_L2 Kr n (nI p) (rw_st T 56 g) = Kr (rw_st T 56 (fun m => if p ≤ m ∧ m < 23 then f m else g m))
  | 0, n + 1, p, g, hp, _, _ => by
    obtain rfl : p = 23 := by omega
    have e : (fun m => if 23 ≤ m ∧ m < 23 then f m else g m) = g := by funext m; rw [if_neg (by omega)]
    rw [f_X12_copy_55x0_56x0_L2, if_pos (by decide), e]
  | d + 1, n + 1, p, g, hp, hn, hf => by
    have c23 : ((23 : Int32) ≤ nI p) ↔ 23 ≤ p := nI_leI (a := 23) (by omega) (by omega)
    have e55 : ax_ai (rw_st T 56 g) 55 0 p = f p := by
      rw [← hf]
      simp [ax_ai, rw_st]
    rw [f_X12_copy_55x0_56x0_L2, if_neg (fun z => absurd (c23.mp z) (by omega)), sn_in (by omega) (by omega), sn_gd, sn_gd, sn_let, nI_clamp (by omega), e55, rw_s, sn_let, nI_1, jr_cpL Kr d n (p + 1) _ (by omega) (by omega) hf]
    congr 2
    funext m
    by_cases q : m = p
    · rw [if_neg (by omega), if_pos q, if_pos (by omega), q]
    · by_cases q2 : p + 1 ≤ m ∧ m < 23
      · rw [if_pos q2, if_pos (by omega)]
      · rw [if_neg q2, if_neg q, if_neg (by omega)]
theorem jr_copy (hS : jr_S (ax_ai T 55 0) N) : ∃ Y, f_X12_copy_55x0_56x0 T = some Y ∧ jr_S (ax_ai Y 56 0) N ∧ ax_ai Y 56 0 23 = nI 0 ∧ jr_st T Y 56 ∧ (jr_C T H M K W → jr_C Y H M K W) := by
  have e0 : f_X12_copy_55x0_56x0 T = f_X12_copy_55x0_56x0 (rw_st T 56 (ax_ai T 56 0)) := by rw [rw_e]
  have q := jr_cpL (T := T) (f := ax_ai T 55 0) (fun (S8 : AS) => ax_gd (ax_in (23 : Int32) 204) (ax_let (ax_sai S8 56 0 (23 : Int32).toNatClampNeg (0 : Int32)) (fun (S10 : AS) => some S10))) 23 ax_F 0 (ax_ai T 56 0) (by omega) (by show _ < 1000000; omega) rfl
  rw [← sn_0] at q
  refine ⟨_, by rw [e0]; unfold f_X12_copy_55x0_56x0; rw [q, in_23, sn_gd, sn_let, cl_23, rw_s], ?_, ?_, rw_st_st, fun hC => jr_C_rw (.inr rfl) hC⟩
  · intro m hm
    rw [rw_g]
    rw [if_neg (by omega), if_pos (by omega)]
    exact hS m hm
  · rw [rw_g]
    exact if_pos rfl
end

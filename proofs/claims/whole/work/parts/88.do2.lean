/-! THE CLASS: carryOut, every kind -/
section
variable {S Z Y : AS} {o i : Nat} {H N : Nat → Nat} {W : Option (List la_C)}
/-- jc_S out of the fields' values -/
theorem jc_S_mk {M : Nat → Nat} (hS : jc_S S i N) (h0 : ax_fi Z 9 i 0 = nI (M 16)) (h1 : ax_fi Z 9 i 1 = nI (jn_bits M)) (h2 : ax_fi Z 9 i 2 = nI (M 20)) (h3 : ax_fi Z 9 i 3 = nI (M 17)) (h4 : ax_fi Z 9 i 4 = nI (M 18)) (h5 : ax_fi Z 9 i 5 = nI (M 19)) (h6 : ax_fi Z 9 i 6 = nI (M 21)) (h7 : ax_fi Z 9 i 7 = nI (M 22)) (h8 : ∀ l, l < 4 → ax_ai Z 38 i l = nI (M (12 + l))) (h9 : ∀ v, v < 6 → ax_ai Z 39 i v = nI (M (2 * v))) : jc_S Z i M := ⟨h0, h1, h2, h3, h4, h5, h6, h7, h8, h9⟩
theorem jn_bits_c {M : Nat → Nat} (h : ∀ w, w < 6 → M (2 * w + 1) = N (2 * w + 1)) : jn_bits M = jn_bits N := by
  have e0 := h 0 (by omega)
  have e1 := h 1 (by omega)
  have e2 := h 2 (by omega)
  have e3 := h 3 (by omega)
  have e4 := h 4 (by omega)
  have e5 := h 5 (by omega)
  simp only [Nat.reduceMul, Nat.reduceAdd] at e0 e1 e2 e3 e4 e5
  unfold jn_bits
  rw [e0, e1, e2, e3, e4, e5]
theorem jn_bits_day : jn_bits (cn_day N) = 0 := by
  unfold jn_bits cn_day
  simp
theorem jc_do1 (hS : jc_S S i N) (ho : jh_ok H) {v : Nat} (hv : v < H 4) (h21 : 2 ≤ N 21) : ∃ Z, f_X6_carryOut i (nI 1) (nI v) S = some Z ∧ jc_S Z i (cn_do H W N 1 v) ∧ jc_st S Z i := by
  have h6 : H 4 ≤ 6 := ho.2.2.2.2.1
  obtain ⟨s0, s1, s2, s3, s4, s5, s6, s7, s8, s9⟩ := hS
  have eT : f_X9_titlesOf i (nI v) (ax_sfi S 9 i 6 (nI (N 21 - 2))) = some (nI (N (2 * v))) := by
    have := jc_titles (S := S) (i := i) (N := N) ⟨s0, s1, s2, s3, s4, s5, s6, s7, s8, s9⟩ (v := v) (by omega)
    unfold f_X9_titlesOf at this ⊢
    exact this
  have g : ∀ j, ax_fi (ax_sai (ax_sfi S 9 i 6 (nI (N 21 - 2))) 39 i v (nI (N (2 * v) + 1))) 9 i j = if j = 6 then nI (N 21 - 2) else ax_fi S 9 i j := fun j => by
    show ax_fi (ax_sfi S 9 i 6 (nI (N 21 - 2))) 9 i j = _
    rw [sg]
  have d : cn_do H W N 1 v = fun j => if j = 2 * v then N j + 1 else if j = 21 then N 21 - 2 else N j := by unfold cn_do; rw [if_neg (by omega), if_pos rfl]
  refine ⟨ax_sai (ax_sfi S 9 i 6 (nI (N 21 - 2))) 39 i v (nI (N (2 * v) + 1)), ?_, ?_, jc_st.fi.tr (jc_st.ai (.inr rfl))⟩
  · unfold f_X6_carryOut
    rw [if_neg (by decide), if_pos (by decide), sn_let, s6, sn_2, pk_sub h21, eT, sn_bs, nI_1, jc_setT (by omega), sn_bs]
  · rw [d]
    refine ⟨?_, ?_, ?_, ?_, ?_, ?_, ?_, ?_, ?_, ?_⟩
    · rw [g, if_neg (by omega), s0]; dsimp only; rw [if_neg (by omega), if_neg (by omega)]
    · rw [g, if_neg (by omega), s1, jn_bits_c]; intro w hw; rw [if_neg (by omega), if_neg (by omega)]
    · rw [g, if_neg (by omega), s2]; dsimp only; rw [if_neg (by omega), if_neg (by omega)]
    · rw [g, if_neg (by omega), s3]; dsimp only; rw [if_neg (by omega), if_neg (by omega)]
    · rw [g, if_neg (by omega), s4]; dsimp only; rw [if_neg (by omega), if_neg (by omega)]
    · rw [g, if_neg (by omega), s5]; dsimp only; rw [if_neg (by omega), if_neg (by omega)]
    · rw [g, if_pos rfl]; dsimp only; rw [if_neg (by omega), if_pos rfl]
    · rw [g, if_neg (by omega), s7]; dsimp only; rw [if_neg (by omega), if_neg (by omega)]
    · intro l hl
      dsimp only
      rw [sgo (by omega), if_neg (by omega), if_neg (by omega)]
      exact s8 l hl
    · intro w hw
      dsimp only
      rw [sga]
      by_cases q : w = v
      · rw [if_pos q, if_pos (by omega), q]
      · rw [if_neg q, if_neg (by omega), if_neg (by omega)]
        exact s9 w hw
theorem jc_do5 (hS : jc_S S i N) (ho : jh_ok H) {v : Nat} (hv : v < H 4) (h0 : 0 < N (2 * v)) : ∃ Z, f_X6_carryOut i (nI 5) (nI v) S = some Z ∧ jc_S Z i (cn_do H W N 5 v) ∧ jc_st S Z i := by
  have h6 : H 4 ≤ 6 := ho.2.2.2.2.1
  have eT := jc_titles hS (v := v) (by omega)
  obtain ⟨s0, s1, s2, s3, s4, s5, s6, s7, s8, s9⟩ := hS
  have d : cn_do H W N 5 v = fun j => if j = 2 * v then N j - 1 else N j := by unfold cn_do; rw [if_neg (by omega), if_neg (by omega), if_neg (by omega), if_neg (by omega), if_neg (by omega), if_pos rfl]
  refine ⟨ax_sai S 39 i v (nI (N (2 * v) - 1)), ?_, ?_, jc_st.ai (.inr rfl)⟩
  · unfold f_X6_carryOut
    rw [if_neg (by decide), if_neg (by decide), if_neg (by decide), if_neg (by decide), if_neg (by decide), if_pos (by decide), eT, sn_bs, sn_1, pk_sub (by omega), jc_setT (by omega), sn_bs]
  · rw [d]
    refine ⟨?_, ?_, ?_, ?_, ?_, ?_, ?_, ?_, ?_, ?_⟩
    · dsimp only; rw [if_neg (by omega)]; exact s0
    · rw [jn_bits_c (N := N)]
      · exact s1
      · intro w hw; rw [if_neg (by omega)]
    · dsimp only; rw [if_neg (by omega)]; exact s2
    · dsimp only; rw [if_neg (by omega)]; exact s3
    · dsimp only; rw [if_neg (by omega)]; exact s4
    · dsimp only; rw [if_neg (by omega)]; exact s5
    · dsimp only; rw [if_neg (by omega)]; exact s6
    · dsimp only; rw [if_neg (by omega)]; exact s7
    · intro l hl
      dsimp only
      rw [sgo (by omega), if_neg (by omega)]
      exact s8 l hl
    · intro w hw
      dsimp only
      rw [sga]
      by_cases q : w = v
      · rw [if_pos q, if_pos (by omega), q]
      · rw [if_neg q, if_neg (by omega)]
        exact s9 w hw
theorem jc_do2 (hS : jc_S S i N) (h18 : N 18 ≤ 1) {x : Int32} {v : Nat} : ∃ Z, f_X6_carryOut i (nI 2) x S = some Z ∧ jc_S Z i (cn_do H W N 2 v) ∧ jc_st S Z i := by
  obtain ⟨s0, s1, s2, s3, s4, s5, s6, s7, s8, s9⟩ := hS
  have g : ∀ j, ax_fi (ax_sfi S 9 i 4 (nI (1 - N 18))) 9 i j = if j = 4 then nI (1 - N 18) else ax_fi S 9 i j := fun j => by rw [sg]
  have d : cn_do H W N 2 v = fun j => if j = 18 then 1 - N 18 else N j := by unfold cn_do; rw [if_neg (by omega), if_neg (by omega), if_pos rfl]
  refine ⟨ax_sfi S 9 i 4 (nI (1 - N 18)), ?_, ?_, jc_st.fi⟩
  · unfold f_X6_carryOut
    rw [if_neg (by decide), if_neg (by decide), if_pos (by decide), sn_let, s4, sn_1, pk_sub h18]
  · rw [d]
    refine ⟨?_, ?_, ?_, ?_, ?_, ?_, ?_, ?_, ?_, ?_⟩
    · rw [g, if_neg (by omega), s0]; dsimp only; rw [if_neg (by omega)]
    · rw [g, if_neg (by omega), s1, jn_bits_c]; intro w hw; rw [if_neg (by omega)]
    · rw [g, if_neg (by omega), s2]; dsimp only; rw [if_neg (by omega)]
    · rw [g, if_neg (by omega), s3]; dsimp only; rw [if_neg (by omega)]
    · rw [g, if_pos rfl]; dsimp only; rw [if_pos rfl]
    · rw [g, if_neg (by omega), s5]; dsimp only; rw [if_neg (by omega)]
    · rw [g, if_neg (by omega), s6]; dsimp only; rw [if_neg (by omega)]
    · rw [g, if_neg (by omega), s7]; dsimp only; rw [if_neg (by omega)]
    · intro l hl; dsimp only; rw [if_neg (by omega)]; exact s8 l hl
    · intro w hw; dsimp only; rw [if_neg (by omega)]; exact s9 w hw
theorem jc_do3 (hS : jc_S S i N) {v : Nat} : ∃ Z, f_X6_carryOut i (nI 3) (nI v) S = some Z ∧ jc_S Z i (cn_do H W N 3 v) ∧ jc_st S Z i := by
  obtain ⟨s0, s1, s2, s3, s4, s5, s6, s7, s8, s9⟩ := hS
  have g : ∀ j, ax_fi (ax_sfi S 9 i 0 (nI (N 16 + v))) 9 i j = if j = 0 then nI (N 16 + v) else ax_fi S 9 i j := fun j => by rw [sg]
  have d : cn_do H W N 3 v = fun j => if j = 16 then N 16 + v else N j := by unfold cn_do; rw [if_neg (by omega), if_neg (by omega), if_neg (by omega), if_pos rfl]
  refine ⟨ax_sfi S 9 i 0 (nI (N 16 + v)), ?_, ?_, jc_st.fi⟩
  · unfold f_X6_carryOut
    rw [if_neg (by decide), if_neg (by decide), if_neg (by decide), if_pos (by decide), sn_let, s0, nI_add]
  · rw [d]
    refine ⟨?_, ?_, ?_, ?_, ?_, ?_, ?_, ?_, ?_, ?_⟩
    · rw [g, if_pos rfl]; dsimp only; rw [if_pos rfl]
    · rw [g, if_neg (by omega), s1, jn_bits_c]; intro w hw; rw [if_neg (by omega)]
    · rw [g, if_neg (by omega), s2]; dsimp only; rw [if_neg (by omega)]
    · rw [g, if_neg (by omega), s3]; dsimp only; rw [if_neg (by omega)]
    · rw [g, if_neg (by omega), s4]; dsimp only; rw [if_neg (by omega)]
    · rw [g, if_neg (by omega), s5]; dsimp only; rw [if_neg (by omega)]
    · rw [g, if_neg (by omega), s6]; dsimp only; rw [if_neg (by omega)]
    · rw [g, if_neg (by omega), s7]; dsimp only; rw [if_neg (by omega)]
    · intro l hl; dsimp only; rw [if_neg (by omega)]; exact s8 l hl
    · intro w hw; dsimp only; rw [if_neg (by omega)]; exact s9 w hw
theorem jc_do6 (hS : jc_S S i N) (h17 : N 17 ≤ 99) {x : Int32} {v : Nat} : ∃ Z, f_X6_carryOut i (nI 6) x S = some Z ∧ jc_S Z i (cn_do H W N 6 v) ∧ jc_st S Z i := by
  obtain ⟨s0, s1, s2, s3, s4, s5, s6, s7, s8, s9⟩ := hS
  have g : ∀ j, ax_fi (ax_sfi (ax_sfi S 9 i 0 (nI (N 16 + 3))) 9 i 3 (nI (N 17 - 2))) 9 i j = if j = 3 then nI (N 17 - 2) else if j = 0 then nI (N 16 + 3) else ax_fi S 9 i j := fun j => by rw [sg, sg]
  have d : cn_do H W N 6 v = fun j => if j = 16 then N 16 + 3 else if j = 17 then N 17 - 2 else N j := by unfold cn_do; rw [if_neg (by omega), if_neg (by omega), if_neg (by omega), if_neg (by omega), if_neg (by omega), if_neg (by omega)]
  have em : f_J9_max_7cf53 (0 : Int32) (nI (N 17) - nI 2) (ax_sfi S 9 i 0 (nI (N 16 + 3))) = some (nI (N 17 - 2)) := by
    unfold f_J9_max_7cf53
    by_cases h2 : 2 < N 17
    · rw [pk_sub (by omega), sn_0, if_pos ((nI_ltI (by omega) (by omega)).mpr (by omega))]
    · have hz : ¬ ((0 : Int32) < nI (N 17) - nI 2) := by
        rw [Int32.lt_iff_toInt_lt, pk_sub_toInt (by omega) (by omega)]
        have e : (0 : Int32).toInt = 0 := rfl
        omega
      rw [if_neg hz, (by omega : N 17 - 2 = 0)]; rfl
  have e3 : ax_fi (ax_sfi S 9 i 0 (nI (N 16 + 3))) 9 i 3 = nI (N 17) := by rw [sg, if_neg (by omega)]; exact s3
  refine ⟨ax_sfi (ax_sfi S 9 i 0 (nI (N 16 + 3))) 9 i 3 (nI (N 17 - 2)), ?_, ?_, jc_st.fi.tr jc_st.fi⟩
  · unfold f_X6_carryOut
    rw [if_neg (by decide), if_neg (by decide), if_neg (by decide), if_neg (by decide), if_neg (by decide), if_neg (by decide), if_pos (by decide), sn_let, s0, sn_3, nI_add, e3, sn_2, em, sn_bs, sn_let]
  · rw [d]
    refine ⟨?_, ?_, ?_, ?_, ?_, ?_, ?_, ?_, ?_, ?_⟩
    · rw [g, if_neg (by omega), if_pos rfl]; dsimp only; rw [if_pos rfl]
    · rw [g, if_neg (by omega), if_neg (by omega), s1, jn_bits_c]; intro w hw; rw [if_neg (by omega), if_neg (by omega)]
    · rw [g, if_neg (by omega), if_neg (by omega), s2]; dsimp only; rw [if_neg (by omega), if_neg (by omega)]
    · rw [g, if_pos rfl]; dsimp only; rw [if_neg (by omega), if_pos rfl]
    · rw [g, if_neg (by omega), if_neg (by omega), s4]; dsimp only; rw [if_neg (by omega), if_neg (by omega)]
    · rw [g, if_neg (by omega), if_neg (by omega), s5]; dsimp only; rw [if_neg (by omega), if_neg (by omega)]
    · rw [g, if_neg (by omega), if_neg (by omega), s6]; dsimp only; rw [if_neg (by omega), if_neg (by omega)]
    · rw [g, if_neg (by omega), if_neg (by omega), s7]; dsimp only; rw [if_neg (by omega), if_neg (by omega)]
    · intro l hl; dsimp only; rw [if_neg (by omega), if_neg (by omega)]; exact s8 l hl
    · intro w hw; dsimp only; rw [if_neg (by omega), if_neg (by omega)]; exact s9 w hw
theorem jc_do4 (hS : jc_S S i N) (hN : jn_ok H N) {x : Int32} {v : Nat} : ∃ Z, f_X6_carryOut i (nI 4) x S = some Z ∧ jc_S Z i (cn_do H W N 4 v) ∧ jc_st S Z i := by
  have h21 : N 21 ≤ 999 := hN.2.2.2.2.2.2.2.2.2.1
  have h20 := (cn_tired hN).2
  obtain ⟨s0, s1, s2, s3, s4, s5, s6, s7, s8, s9⟩ := hS
  have d : cn_do H W N 4 v = cn_day N := by unfold cn_do; rw [if_neg (by omega), if_neg (by omega), if_neg (by omega), if_neg (by omega), if_pos rfl]
  have em := sn_mn (S := S) (a := 999) (b := N 21 + N 20) (by omega) (by omega)
  rw [← sn_999] at em
  have e7 : ax_fi (ax_sfi S 9 i 6 (nI (min 999 (N 21 + N 20)))) 9 i 7 = nI (N 22) := by rw [sg, if_neg (by omega)]; exact s7
  refine ⟨ax_sai (ax_sai (ax_sai (ax_sai (ax_sfi (ax_sfi (ax_sfi (ax_sfi (ax_sfi (ax_sfi S 9 i 6 (nI (min 999 (N 21 + N 20)))) 9 i 7 (nI (N 22 + 1))) 9 i 0 0) 9 i 1 0) 9 i 2 0) 9 i 3 0) 38 i 0 0) 38 i 1 0) 38 i 2 0) 38 i 3 0, ?_, ?_, ?_⟩
  · unfold f_X6_carryOut
    rw [if_neg (by decide), if_neg (by decide), if_neg (by decide), if_neg (by decide), if_pos (by decide), s6, s2, nI_add, em, sn_bs, sn_let, sn_let, e7, nI_1, jc_sday, sn_bs]
  · rw [d]
    generalize hU : ax_sfi (ax_sfi S 9 i 6 (nI (min 999 (N 21 + N 20)))) 9 i 7 (nI (N 22 + 1)) = U
    have u : ∀ j, ax_fi U 9 i j = if j = 7 then nI (N 22 + 1) else if j = 6 then nI (min 999 (N 21 + N 20)) else ax_fi S 9 i j := fun j => by rw [← hU, sg, sg]
    have g : ∀ j, ax_fi (ax_sai (ax_sai (ax_sai (ax_sai (ax_sfi (ax_sfi (ax_sfi (ax_sfi U 9 i 0 0) 9 i 1 0) 9 i 2 0) 9 i 3 0) 38 i 0 0) 38 i 1 0) 38 i 2 0) 38 i 3 0) 9 i j = if j = 3 then 0 else if j = 2 then 0 else if j = 1 then 0 else if j = 0 then 0 else ax_fi U 9 i j := fun j => by
      show ax_fi (ax_sfi (ax_sfi (ax_sfi (ax_sfi U 9 i 0 0) 9 i 1 0) 9 i 2 0) 9 i 3 0) 9 i j = _
      rw [sg, sg, sg, sg]
    refine ⟨?_, ?_, ?_, ?_, ?_, ?_, ?_, ?_, ?_, ?_⟩
    · rw [g, if_neg (by omega), if_neg (by omega), if_neg (by omega), if_pos rfl]; rfl
    · rw [g, if_neg (by omega), if_neg (by omega), if_pos rfl, jn_bits_day]; rfl
    · rw [g, if_neg (by omega), if_pos rfl]; rfl
    · rw [g, if_pos rfl]; rfl
    · rw [g, if_neg (by omega), if_neg (by omega), if_neg (by omega), if_neg (by omega), u, if_neg (by omega), if_neg (by omega), s4]; rfl
    · rw [g, if_neg (by omega), if_neg (by omega), if_neg (by omega), if_neg (by omega), u, if_neg (by omega), if_neg (by omega), s5]; rfl
    · rw [g, if_neg (by omega), if_neg (by omega), if_neg (by omega), if_neg (by omega), u, if_neg (by omega), if_pos rfl]; rfl
    · rw [g, if_neg (by omega), if_neg (by omega), if_neg (by omega), if_neg (by omega), u, if_pos rfl]; rfl
    · intro l hl
      have e : cn_day N (12 + l) = 0 := by unfold cn_day; rw [if_neg (by omega), if_neg (by omega), if_pos (by omega)]
      rw [e, sga, sga, sga, sga]
      rcases (by omega : l = 0 ∨ l = 1 ∨ l = 2 ∨ l = 3) with rfl | rfl | rfl | rfl
      · rw [if_neg (by omega), if_neg (by omega), if_neg (by omega), if_pos rfl]; rfl
      · rw [if_neg (by omega), if_neg (by omega), if_pos rfl]; rfl
      · rw [if_neg (by omega), if_pos rfl]; rfl
      · rw [if_pos rfl]; rfl
    · intro w hw
      have e : cn_day N (2 * w) = N (2 * w) := by unfold cn_day; rw [if_neg (by omega), if_neg (by omega), if_neg (by omega), if_neg (by omega), if_neg (by omega)]
      rw [e, sgo (by omega), sgo (by omega), sgo (by omega), sgo (by omega)]
      show ax_ai U 39 i w = _
      rw [← hU]
      exact s9 w hw
  · exact (((((((((jc_st.fi.tr jc_st.fi).tr jc_st.fi).tr jc_st.fi).tr jc_st.fi).tr jc_st.fi).tr (jc_st.ai (.inl rfl))).tr (jc_st.ai (.inl rfl))).tr (jc_st.ai (.inl rfl))).tr (jc_st.ai (.inl rfl)))
theorem jc_do (ho : jh_ok H) (hN : jn_ok H N) (hC : jc_C S o H W) (hS : jc_S S i N) {k : Nat} {x : Int32} (h : cn_may H W N k x) : ∃ Z, f_X6_carryOut i (nI k) x S = some Z ∧ jc_S Z i (cn_do H W N k x.toNatClampNeg) ∧ jc_st S Z i := by
  have h6 : H 4 ≤ 6 := ho.2.2.2.2.1
  rcases h with ⟨rfl, v, hv, rfl, hc⟩ | ⟨rfl, v, hv, rfl, _, h21⟩ | rfl | ⟨rfl, n, n1, n2, rfl, _⟩ | ⟨rfl, _⟩ | ⟨rfl, v, hv, rfl, h0⟩ | ⟨rfl, _, _⟩
  · rw [nI_clamp (by omega)]
    obtain ⟨Z, z1, z2, z3⟩ := jc_put ho hN hC hS hv hc.1
    refine ⟨Z, ?_, ?_, z3⟩
    · unfold f_X6_carryOut
      rw [if_pos (by decide), z1, sn_bs]
    · unfold cn_do
      rw [if_pos rfl]; exact z2
  · rw [nI_clamp (by omega)]
    exact jc_do1 hS ho hv h21
  · exact jc_do2 hS hN.2.2.2.2.2.2.1
  · rw [nI_clamp (by omega)]
    exact jc_do3 hS
  · exact jc_do4 hS hN
  · rw [nI_clamp (by omega)]
    exact jc_do5 hS ho hv h0
  · exact jc_do6 hS (by have := cn_tired hN; omega)
end

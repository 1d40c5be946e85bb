/-! back, count keep the invariant -/
section
variable {S T Z Y X S1 T1 T2 T3 : AS} {o M c cn im hI tn wh n ca hi : Nat} {H N L E Q NI LI tb Lg : Nat → Nat} {W : Option (List la_C)} {K : Nat → List la_C} {P : Nat → Nat → Nat}
theorem x_back (h : jI S T) : jX (f_X11_back S) (f_X12_back T) := by
  obtain ⟨o, H, N, W, M, K, c, L, E, cn, Q, im, NI, LI, hI, tn, tb, wh, n, ca, P, Lg, hi, hR, hC, hA⟩ := h
  obtain ⟨i1, i2, i3, i4⟩ := hR.2.2.2.2.2.1
  have q2 : ax_fr jr_q T (ax_sfi T 12 0 0 0) := jr_thr
  have t49 : ax_fi (ax_sfi T 12 0 0 0) 12 0 49 = nI im := by rw [sg, if_neg (by omega)]; exact i3
  have ez : f_X12_back T = f_X12_back T := rfl
  unfold f_X11_back
  rcases (by omega : im = 0 ∨ im = 1) with rfl | rfl
  · have e0 : nI 0 = (0 : Int32) := (sn_0).symm
    unfold f_X12_back
    rw [sn_let, i2, t49, if_pos e0, if_pos e0]
    exact act_no hR hA ax_fr.rf q2 (jr_C_thr hC)
  · obtain ⟨b0, b1, b2, b3, b4, b5, b6, b7⟩ := i4 rfl
    obtain ⟨Z, z1, z2, z3⟩ := jc_copy (i := 0) (j := 2) b2 (by omega)
    have q := baL (T := ax_sfi T 12 0 0 0) (fun (S10 : AS) => ax_let (ax_sfi S10 12 0 39 (0 : Int32)) (fun (S11 : AS) => ax_gd (ax_in (22 : Int32) 204) (some ((ax_ai S11 55 0 (22 : Int32).toNatClampNeg), S11)))) 204 ax_F 0 (ax_ai (ax_sfi T 12 0 0 0) 55 0) (by omega) (by show _ < 1000000; omega)
    rw [← sn_0, rw_e] at q
    have eT : f_X12_back T = some ((ax_ai (ax_sfi (rw_st (ax_sfi T 12 0 0 0) 55 (fun q => if 0 ≤ q ∧ q < 204 then ax_ai (ax_sfi T 12 0 0 0) 62 0 q else ax_ai (ax_sfi T 12 0 0 0) 55 0 q)) 12 0 39 0) 55 0 22), ax_sfi (rw_st (ax_sfi T 12 0 0 0) 55 (fun q => if 0 ≤ q ∧ q < 204 then ax_ai (ax_sfi T 12 0 0 0) 62 0 q else ax_ai (ax_sfi T 12 0 0 0) 55 0 q)) 12 0 39 0) := by
      unfold f_X12_back
      rw [sn_let, t49, if_neg nen1, q, sn_let, in_22, sn_gd, cl_22]
    have e55 : ∀ j, j < 204 → ax_ai (ax_sfi (rw_st (ax_sfi T 12 0 0 0) 55 (fun q => if 0 ≤ q ∧ q < 204 then ax_ai (ax_sfi T 12 0 0 0) 62 0 q else ax_ai (ax_sfi T 12 0 0 0) 55 0 q)) 12 0 39 0) 55 0 j = ax_ai T 62 0 j := fun j hj => by
      rw [sfa, rw_g]
      exact if_pos ⟨by omega, hj⟩
    have e39 : ax_fi (ax_sfi (rw_st (ax_sfi T 12 0 0 0) 55 (fun q => if 0 ≤ q ∧ q < 204 then ax_ai (ax_sfi T 12 0 0 0) 62 0 q else ax_ai (ax_sfi T 12 0 0 0) 55 0 q)) 12 0 39 0) 12 0 39 = nI 0 := by rw [sg, if_pos rfl]; exact sn_0
    have ft := fr_X12_back eT
    rw [eT, i2, if_neg nen1, z1, sn_bs, dcopy, sn_bs]
    unfold f_X7_forget
    rw [sn_let, sn_let, sn_bs]
    generalize ax_sfi (rw_st (ax_sfi T 12 0 0 0) 55 (fun q => if 0 ≤ q ∧ q < 204 then ax_ai (ax_sfi T 12 0 0 0) 62 0 q else ax_ai (ax_sfi T 12 0 0 0) 55 0 q)) 12 0 39 0 = Y at *
    generalize hU : ax_cpy Z 23 0 (ax_ai Z 23 1) 0 0 300 = U
    have uf : ax_fi U = ax_fi Z := by rw [← hU]; rfl
    have ux : ax_fx U = ax_fx Z := by rw [← hU]; rfl
    have uo : ax_fo U = ax_fo Z := by rw [← hU]; rfl
    have ua : ∀ k i, ¬ (k = 23 ∧ i = 0) → ax_ai U k i = ax_ai Z k i := fun k i hk => by rw [← hU]; exact cp_fr hk
    have zw : jl_w Z 1 (NI 22) hI LI := fun d h1 h2 w hw => by
      rw [z3.2.2.2.2.1 23 1 (by omega) (by omega) (by omega)]
      exact b5 d h1 h2 w hw
    have uw : jl_w U 0 (NI 22) hI LI := by rw [← hU]; exact dcopy_w zw
    have fU : ∀ k i j, k ≠ 7 → ax_fi (ax_sfi (ax_sfi U 7 0 1 0) 7 0 2 0) k i j = ax_fi Z k i j := fun k i j h1 => by
      have f : ∀ (V : AS) (a : Nat) (v : Int32), ax_fi (ax_sfi V 7 0 a v) k i j = ax_fi V k i j := fun V a v => by
        unfold ax_fi ax_sfi ax_u3
        exact if_neg (fun q => h1 q.1)
      rw [f, f, uf]
    have gS : cg0 o M c S (ax_sfi (ax_sfi U 7 0 1 0) 7 0 2 0) := by
      refine (cg_st0 z3).tr ⟨fun k i j _ _ _ _ _ h6 _ _ => fU k i j h6, fun j => ?_, fun j => ?_, fun k i _ _ _ _ _ _ _ _ _ _ h => ua k i h⟩
      · exact congrFun (congrFun (congrFun ux 11) 0) j
      · exact congrFun (congrFun (congrFun uo 6) 0) j
    have gT : rg0 T Y := by
      refine ⟨fun j hj => ?_, ft.2.2.2.2.1 44 0 (by decide), fun m _ => by rw [ft.2.2.2.2.1 53 0 (by decide)], fun m _ => by rw [ft.2.2.2.2.1 54 0 (by decide)], ft.2.2.2.2.1 61 0 (by decide), ft.2.2.2.2.1 62 0 (by decide)⟩
      rcases hj with rfl | rfl | rfl | rfl | rfl | rfl | rfl | rfl | rfl
      all_goals exact ft.1 12 0 _ (by decide)
    have sZ : jc_S (ax_sfi (ax_sfi U 7 0 1 0) 7 0 2 0) 0 NI := by
      obtain ⟨g0, g1, g2, g3, g4, g5, g6, g7, g8, g9⟩ := z2
      have f9 : ∀ j, ax_fi (ax_sfi (ax_sfi U 7 0 1 0) 7 0 2 0) 9 0 j = ax_fi Z 9 0 j := fun j => fU 9 0 j (by omega)
      refine ⟨?_, ?_, ?_, ?_, ?_, ?_, ?_, ?_, ?_, ?_⟩
      · rw [f9]; exact g0
      · rw [f9]; exact g1
      · rw [f9]; exact g2
      · rw [f9]; exact g3
      · rw [f9]; exact g4
      · rw [f9]; exact g5
      · rw [f9]; exact g6
      · rw [f9]; exact g7
      · intro l hl
        rw [sfa, sfa, ua 38 0 (by omega)]
        exact g8 l hl
      · intro l hl
        rw [sfa, sfa, ua 39 0 (by omega)]
        exact g9 l hl
    have e7 := sZ.2.2.2.2.2.2.2.1
    rw [e7, e55 22 (by omega), b3 22 (by omega)]
    refine ⟨_, _, Y, rfl, rfl, jI_mk (jR_g gS gT hR) (jr_C_f ft (by decide) hC) (N := NI) (n := 0) (ca := 0) (P := P) (Lg := LI) (hi := hI) ⟨b1, sZ, jr_S_c e55 b3, ⟨by omega, by omega, ?_, ?_, e39, fun a ha => absurd ha (by omega)⟩, uw, jl_r_c e55 b4, b6, b7, fun a ha => absurd ha (by omega), fun z => absurd z (by omega)⟩⟩
    · rw [sg, if_neg (by omega), sg, if_pos rfl]; exact sn_0
    · rw [sg, if_pos rfl]; exact sn_0
theorem x_count (h : jI S T) (a : Int32) : jXo S (f_X11_count a S) (f_X12_count a T) := by
  obtain ⟨o, H, N, W, M, K, c, L, E, cn, Q, im, NI, LI, hI, tn, tb, wh, n, ca, P, Lg, hi, hR, hC, hA⟩ := h
  have q2 : ax_fr jr_q T (ax_sfi T 12 0 0 0) := jr_thr
  have hR1 := jR_g cg0.rf (rg_q q2).1 hR
  have hA1 := jA_g cg1.rf (rg_q q2).2 hA
  have hC1 : jr_C (ax_sfi T 12 0 0 0) H M K W := jr_C_thr hC
  unfold f_X11_count f_X12_count
  rw [sn_let]
  generalize ax_sfi T 12 0 0 0 = Y at *
  have fin : ∀ r : Int32, jXo S (some r) (some (r, Y)) := fun r => ⟨r, Y, rfl, rfl, jI_mk hR1 hC1 hA1⟩
  obtain ⟨r1, r2, r3, r4, r5, r6, r7, r8⟩ := hR1
  obtain ⟨a1, a2, a3, a4, a5, a6, a7⟩ := hA1
  have h22 : N 22 ≤ 999 := a1.2.2.2.2.2.2.2.2.2.2
  have e0 : ax_fi S 4 (ax_fx S 11 0 14) 5 = nI (H 4) := by rw [r2.2.1]; exact r2.2.2.2.2.2.1
  have e1 : ax_fi S 4 (ax_fx S 11 0 14) 4 = nI (H 3) := by rw [r2.2.1]; exact r2.2.2.2.2.1
  have el : f_X2_lengthOn (ax_fi S 9 0 7) S = some (nI (min 60 (N 22))) := by
    unfold f_X2_lengthOn
    rw [a2.2.2.2.2.2.2.2.1, sn_60, sn_mn (by omega) (by omega), sn_bs]
  have e5 : ax_fi S 11 0 18 = ax_fi Y 12 0 34 := by
    rcases r3.2.2.2.2 with ⟨_, x, y, _⟩ | ⟨k, _, _, x, y, _⟩
    · rw [x, y]
    · rw [x, y]
  by_cases q0 : a = (0 : Int32)
  · rw [if_pos q0, if_pos q0, e0, hC1.1.2.1]
    exact fin _
  rw [if_neg q0, if_neg q0]
  by_cases q1 : a = (1 : Int32)
  · rw [if_pos q1, if_pos q1, e1, hC1.1.1]
    exact fin _
  rw [if_neg q1, if_neg q1]
  by_cases q2 : a = (2 : Int32)
  · rw [if_pos q2, if_pos q2, r3.2.1, r3.2.2.1]
    exact fin _
  rw [if_neg q2, if_neg q2]
  by_cases q3 : a = (3 : Int32)
  · rw [if_pos q3, if_pos q3, r4.2.1, r4.2.2.1]
    exact fin _
  rw [if_neg q3, if_neg q3]
  by_cases q4 : a = (4 : Int32)
  · rw [if_pos q4, if_pos q4, r7.2.1, r7.2.2.1]
    exact fin _
  rw [if_neg q4, if_neg q4]
  by_cases q5 : a = (5 : Int32)
  · rw [if_pos q5, if_pos q5, e5]
    exact fin _
  rw [if_neg q5, if_neg q5]
  by_cases q6 : a = (6 : Int32)
  · rw [if_pos q6, if_pos q6, a2.2.2.2.2.2.2.2.1, in_22, sn_gd, cl_22, a3 22 (by omega)]
    exact fin _
  rw [if_neg q6, if_neg q6]
  by_cases q7 : a = (7 : Int32)
  · rw [if_pos q7, if_pos q7, a2.1, in_16, sn_gd, cl_16, a3 16 (by omega)]
    exact fin _
  rw [if_neg q7, if_neg q7]
  by_cases q8 : a = (8 : Int32)
  · rw [if_pos q8, if_pos q8, a2.2.2.2.1, in_17, sn_gd, cl_17, a3 17 (by omega)]
    exact fin _
  rw [if_neg q8, if_neg q8]
  by_cases q9 : a = (9 : Int32)
  · rw [if_pos q9, if_pos q9, a2.2.2.2.2.1, in_18, sn_gd, cl_18, a3 18 (by omega)]
    exact fin _
  rw [if_neg q9, if_neg q9]
  by_cases q10 : a = (10 : Int32)
  · rw [if_pos q10, if_pos q10, a2.2.2.2.2.2.1, in_19, sn_gd, cl_19, a3 19 (by omega)]
    exact fin _
  rw [if_neg q10, if_neg q10]
  by_cases q11 : a = (11 : Int32)
  · rw [if_pos q11, if_pos q11, a2.2.2.1, in_20, sn_gd, cl_20, a3 20 (by omega)]
    exact fin _
  rw [if_neg q11, if_neg q11]
  by_cases q12 : a = (12 : Int32)
  · rw [if_pos q12, if_pos q12, r8.2.1, r8.2.2]
    exact fin _
  rw [if_neg q12, if_neg q12]
  by_cases q13 : a = (13 : Int32)
  · rw [if_pos q13, if_pos q13, r5.2.1, r5.2.2.1]
    exact fin _
  rw [if_neg q13, if_neg q13]
  by_cases q14 : a = (14 : Int32)
  · rw [if_pos q14, if_pos q14, el, sn_bs, in_23, sn_gd, cl_23, a6.1]
    exact fin _
  rw [if_neg q14, if_neg q14]
  by_cases q15 : a = (15 : Int32)
  · rw [if_pos q15, if_pos q15, a4.2.2.2.1, a4.2.2.2.2.1]
    exact fin _
  rw [if_neg q15, if_neg q15]
  exact fin _
end

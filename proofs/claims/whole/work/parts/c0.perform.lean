/-! perform, undo, image, back, count keep the invariant -/
section
variable {S T Z Y X S1 T1 T2 T3 : AS} {o M c cn im hI tn wh n ca hi : Nat} {H N L E Q NI LI tb Lg : Nat → Nat} {W : Option (List la_C)} {K : Nat → List la_C} {P : Nat → Nat → Nat}
theorem x_perfL {k : Nat} (hk : k < c) (h0 : 0 < H 4) : ∀ d m p N n ca P Lg hi S T, jR o H W M K c L E cn Q im NI LI hI tn tb wh S T → jr_C T H M K W → jA H N n ca P Lg hi S T → p + d = L k → d < m → jX (f_X11_perform_L26 (fun (x14 : Int32) (S34 : AS) => some (x14, S34)) m k (nI p) S) (f_X12_perform_L24 (fun (x10 : Int32) (S26 : AS) => some (x10, S26)) m (nI k) (nI p) T)
  | 0, m + 1, p, N, n, ca, P, Lg, hi, S, T, hR, hC, hA, hd, _ => by
    have hp := hR.2.2.2.1
    obtain ⟨l1, l2, l3, l4⟩ := hp.2.2.2 k hk
    have hc := hp.1
    rw [f_X11_perform_L26, f_X12_perform_L24, l2, sn_in (by omega) (by omega), sn_gd, nI_clamp (by omega), l3, if_pos ((nI_leI (by omega) (by omega)).mpr (by omega)), if_pos ((nI_leI (by omega) (by omega)).mpr (by omega))]
    exact ⟨_, S, T, rfl, rfl, jI_mk hR hC hA⟩
  | d + 1, m + 1, p, N, n, ca, P, Lg, hi, S, T, hR, hC, hA, hd, hm => by
    have hp := hR.2.2.2.1
    obtain ⟨l1, l2, l3, l4⟩ := hp.2.2.2 k hk
    have hc := hp.1
    obtain ⟨e0, e1, e2, e3, e4⟩ := l4 p (by omega)
    obtain ⟨r', Y, y1, y2, y3, y4⟩ := jr_cst55 hR.1 hA.1 hC hA.2.2.1 (r := 32 * k + 2 * p) (by omega) e0 e3 e4
    have q2 : ax_fr jr_q T Y := jr_q_of y2
    have ix : (2 : Int32) * ((16 : Int32) * nI k + nI p) = nI (32 * k + 2 * p) := by rw [sn_2, sn_16, pk_mul, nI_add, pk_mul, (by omega : 2 * (16 * k + p) = 32 * k + 2 * p)]
    have pk := pl_kind hp hk (i := p) (by omega)
    rw [f_X11_perform_L26, f_X12_perform_L24, l2, sn_in (by omega) (by omega), sn_gd, nI_clamp (by omega), l3, if_neg (fun z => absurd ((nI_leI (by omega) (by omega)).mp z) (by omega)), if_neg (fun z => absurd ((nI_leI (by omega) (by omega)).mp z) (by omega)), pk.1, sn_bs, pk.2, sn_bs, ix, y1, ax_bu_s]
    rcases ac_c hR hA (k := E (32 * k + 2 * p)) (by omega) (dg (E (32 * k + 2 * p + 1))) with ⟨hn, Z, z1, z2⟩ | ⟨hn, Z, z1, cz⟩
    · have er : r' = 0 := by
        rcases y4 with ⟨e, _⟩ | ⟨_, e⟩
        · exact absurd ⟨h0, e⟩ hn
        · exact e
      rw [z1, ax_bu_s, if_pos rfl, er, if_pos rfl]
      exact act_no hR hA z2 q2 y3
    · have er : r' = 1 := by
        rcases y4 with ⟨_, e⟩ | ⟨e, _⟩
        · exact e
        · exact absurd hn.2 e
      obtain ⟨T3, t1, t2, t3, t4, t5, t6⟩ := rem_r y3 hA.2.2.2.1.2.1 (q39 hA q2)
      have e55 : ax_ai T3 55 0 = ax_ai T 55 0 := t4.trans (jr_q55 q2)
      have s3 : jr_S (ax_ai T3 55 0) N := by rw [e55]; exact hA.2.2.1
      have p3 : ∀ m, m < 128 → ax_ai T3 53 0 m = ax_ai T 53 0 m := fun m hm => by
        rw [t6.2.2.1 m hm, y2.2.2.2.2.1 53 0 (by decide)]
      obtain ⟨X, x1, nx, x3, x4⟩ := jr_gst55 hR.1 hA.1 t5 s3 (g := min 60 (N 22)) (by omega) (by rw [e55]; exact hA.2.2.2.2.2.1.1) (r := 32 * k + 2 * p) (by omega) e0 (by rw [p3 _ (by omega)]; exact e3) (by rw [p3 _ (by omega)]; exact e4) hn.2
      obtain ⟨f1, f2, n', ca', P', Lg', hi', f3⟩ := act_all hR hA hn cz q2 t2 t3 t4 t6 x3 nx x4
      rw [z1, ax_bu_s, if_neg ne10, er, if_neg ne10, t1, sn_bs, x1, sn_bs, sn_let, sn_let, nI_1]
      exact x_perfL hk h0 d m (p + 1) _ n' ca' P' Lg' hi' Z X f1 f2 f3 (by omega) (by omega)
theorem x_perform (h : jI S T) (a : Int32) : jX (f_X11_perform a S) (f_X12_perform a T) := by
  obtain ⟨o, H, N, W, M, K, c, L, E, cn, Q, im, NI, LI, hI, tn, tb, wh, n, ca, P, Lg, hi, hR, hC, hA⟩ := h
  have hq0 := jI_q hR hC hA
  have hq := jq_thr (v := 0) hq0
  have q2 : ax_fr jr_q T (ax_sfi T 12 0 0 0) := jr_thr
  have hp1 : jp S (ax_sfi T 12 0 0 0) c L E := jp_thr hR.2.2.2.1
  have y3 := hq.2.2.2.2.1
  have no := jr_no0 hq
  have hR1 := jR_g cg0.rf (rg_q q2).1 hR
  have hA1 := jA_g cg1.rf (rg_q q2).2 hA
  unfold f_X11_perform f_X12_perform
  rw [sn_let, jc_noH hq0, sn_bs]
  generalize ax_sfi T 12 0 0 0 = Y at *
  by_cases h0 : H 4 = 0
  · rw [if_pos h0, if_neg ne10]
    rcases jp_plan hp1 a with ⟨k, hk, rfl, e1, e2⟩ | ⟨e1, e2⟩
    · rw [e2, sn_bs, if_neg ne10, if_pos (no.mpr h0)]
      exact act_no hR hA ax_fr.rf q2 y3
    · rw [e2, sn_bs, if_pos rfl]
      exact act_no hR hA ax_fr.rf q2 y3
  · rw [if_neg h0, if_pos rfl]
    rcases jp_plan hp1 a with ⟨k, hk, rfl, e1, e2⟩ | ⟨e1, e2⟩
    · have hc := hp1.1
      have l1 := (hp1.2.2.2 k hk).1
      rw [e1, sn_bs, if_pos rfl, e2, sn_bs, if_neg ne10, if_neg (fun z => h0 (no.mp z)), sn_in (by omega) (by omega), sn_gd, nI_clamp (by omega)]
      have w := x_perfL hk (by omega) (L k) ax_F 0 N n ca P Lg hi S Y hR1 y3 hA1 (by omega) (by show _ < 1000000; omega)
      rw [← sn_0] at w
      exact w
    · rw [e1, sn_bs, if_neg ne10, e2, sn_bs, if_pos rfl]
      exact act_no hR hA ax_fr.rf q2 y3
/-! undo -/
theorem cg_bk {c' : Nat} : cg0 o M c S (bk_S S n c') := by
  refine ⟨fun k i j _ _ _ _ _ h6 _ _ => ?_, fun _ => rfl, fun _ => rfl, fun k i _ _ _ _ _ _ _ _ _ _ _ => rfl⟩
  unfold bk_S
  have f : ∀ (U : AS) (a : Nat) (v : Int32), ax_fi (ax_sfi U 7 0 a v) k i j = ax_fi U k i j := fun U a v => by
    unfold ax_fi ax_sfi ax_u3
    exact if_neg (fun q => h6 q.1)
  rw [f, f]
theorem x_undo (h : jI S T) : jX (f_X11_undo S) (f_X12_undo T) := by
  obtain ⟨o, H, N, W, M, K, c, L, E, cn, Q, im, NI, LI, hI, tn, tb, wh, n, ca, P, Lg, hi, hR, hC, hA⟩ := h
  obtain ⟨a1, a2, a3, a4, a5, a6, a7⟩ := hA
  unfold f_X11_undo
  match ca, a4, a7 with
  | 0, a4, a7 =>
    rw [jc_back0 a4.2.2.2.1, ax_bu_s, if_pos rfl, jr_undo0 a4.2.2.2.2.1]
    exact act_no hR ⟨a1, a2, a3, a4, a5, a6, a7⟩ ax_fr.rf jr_thr (jr_C_thr hC)
  | ca + 1, a4, a7 =>
    obtain ⟨Z, z1, z2, z3, z4⟩ := un_jpa (i := 0) a4
    obtain ⟨d1, d2, d3, d4⟩ := a7
    obtain ⟨b1, b2, b3, b4, b5⟩ := d3 ca (by omega)
    have hc4 : H 4 ≠ 0 := fun z => absurd (d4 z).2 (by omega)
    have tp := jpa_top a4
    have e7 : ∀ j, ax_fi Z 7 0 j = ax_fi (bk_S S n (ca + 1)) 7 0 j := fun j => z3.1 7 0 j (by omega) (by omega)
    have s2 : ax_fi Z 7 0 2 = nI ca := by
      rw [e7]
      unfold bk_S
      rw [sg, if_pos rfl]
      rfl
    have s1 : ax_fi Z 7 0 1 = nI (bk_n n) := by
      rw [e7]
      unfold bk_S
      rw [sg, if_neg (by omega), sg, if_pos rfl]
    have s3 : ax_ai Z 33 0 = ax_ai S 33 0 := z3.2.2.2.2.1 33 0 (by omega) (by omega) (by omega)
    have s23 : ax_ai Z 23 0 = ax_ai S 23 0 := z3.2.2.2.2.1 23 0 (by omega) (by omega) (by omega)
    have gS : cg0 o M c S Z := cg_bk.tr (cg_st0 z3)
    rw [z1, ax_bu_s, if_neg ne10, s2, z4]
    have ft : ax_fr w_X12_undo T (rw_st (ax_sfi (ax_sfi T 12 0 0 0) 12 0 39 (nI ca)) 55 (un_f (ax_ai T 59 0) (ax_ai T 55 0) ca)) := fr_X12_undo z4
    have t39 : ax_fi (rw_st (ax_sfi (ax_sfi T 12 0 0 0) 12 0 39 (nI ca)) 55 (un_f (ax_ai T 59 0) (ax_ai T 55 0) ca)) 12 0 39 = nI ca := by
      rw [rw_fi, sg, if_pos rfl]
    have t55 : ax_ai (rw_st (ax_sfi (ax_sfi T 12 0 0 0) 12 0 39 (nI ca)) 55 (un_f (ax_ai T 59 0) (ax_ai T 55 0) ca)) 55 0 = un_f (ax_ai T 59 0) (ax_ai T 55 0) ca := rw_g
    generalize rw_st (ax_sfi (ax_sfi T 12 0 0 0) 12 0 39 (nI ca)) 55 (un_f (ax_ai T 59 0) (ax_ai T 55 0) ca) = Y at *
    have t59 : ax_ai Y 59 0 = ax_ai T 59 0 := ft.2.2.2.2.1 59 0 (by decide)
    have gT : rg0 T Y := by
      refine ⟨fun j hj => ?_, ft.2.2.2.2.1 44 0 (by decide), fun m _ => by rw [ft.2.2.2.2.1 53 0 (by decide)], fun m _ => by rw [ft.2.2.2.2.1 54 0 (by decide)], ft.2.2.2.2.1 61 0 (by decide), ft.2.2.2.2.1 62 0 (by decide)⟩
      rcases hj with rfl | rfl | rfl | rfl | rfl | rfl | rfl | rfl | rfl
      all_goals exact ft.1 12 0 _ (by decide)
    refine ⟨_, Z, Y, rfl, rfl, jI_mk (jR_g gS gT hR) (jr_C_f ft (by decide) hC) (N := P ca) (n := bk_n n) (ca := ca) (P := P) (Lg := Lg) (hi := hi) ⟨b1, z2, ?_, jpa_pop a4 s1 s2 s3 t39 t59, ?_, ?_, ?_⟩⟩
    · rw [t55]; exact tp.2.1
    · intro d e1 e2 w hw
      rw [s23]
      exact a5 d (by omega) e2 w hw
    · rw [t55]; exact tp.2.2
    · refine ⟨by omega, by omega, fun a ha => ?_, fun z => absurd z hc4⟩
      obtain ⟨k1, k2, k3, k4, k5⟩ := d3 a (by omega)
      have := k5 ca (by omega) (by omega)
      exact ⟨k1, by omega, by omega, k4, fun b g1 g2 => k5 b g1 (by omega)⟩
/-! image, back -/
theorem dcopy {i j : Nat} : f_X2_copyFrom i j S = some (ax_cpy S 23 i (ax_ai S 23 j) 0 0 300) := by
  unfold f_X2_copyFrom
  have g : (!decide ((0 : Int32) < 0) && !decide ((0 : Int32) < 0) && !decide ((Int32.ofNat 300) < 0) && decide ((0 : Int32).toNatClampNeg + (Int32.ofNat 300).toNatClampNeg ≤ 300) && decide ((0 : Int32).toNatClampNeg + (Int32.ofNat 300).toNatClampNeg ≤ 300)) = true := by decide
  have l : ∀ a, ax_ln S 23 a = 300 := fun a => rfl
  have r : ax_rd S 23 j = ax_ai S 23 j := rfl
  have c3 : (Int32.ofNat 300).toNatClampNeg = 300 := Eq.trans rfl rfl
  rw [l, l, g, sn_gd, sn_let, r, cl_r0, c3]
theorem dcopy_w {i j day hi : Nat} (hj : jl_w S j day hi Lg) : jl_w (ax_cpy S 23 i (ax_ai S 23 j) 0 0 300) i day hi Lg := fun d h1 h2 w hw => by
  rw [cp_g (b := 0), if_pos (by omega)]
  exact hj d h1 h2 w hw
theorem imL (Kr : AS → Option (Int32 × AS)) : ∀ d m p (g : Nat → Int32), p + d = 204 → d < m → f_X12_image_L16 Kr m (nI p) (rw_st T 62 g) = Kr (rw_st T 62 (fun q => if p ≤ q ∧ q < 204 then ax_ai T 55 0 q else g q))
  | 0, m + 1, p, g, hp, _ => by
    obtain rfl : p = 204 := by omega
    have e : (fun q => if 204 ≤ q ∧ q < 204 then ax_ai T 55 0 q else g q) = g := by funext q; rw [if_neg (by omega)]
    rw [f_X12_image_L16, if_pos (by decide), e]
  | d + 1, m + 1, p, g, hp, hn => by
    have c : ((204 : Int32) ≤ nI p) ↔ 204 ≤ p := nI_leI (a := 204) (by omega) (by omega)
    rw [f_X12_image_L16, if_neg (fun z => absurd (c.mp z) (by omega)), sn_in (by omega) (by omega), sn_gd, sn_gd, sn_let, nI_clamp (n := p) (by omega), rw_o (by omega), rw_s, sn_let, nI_1, imL Kr d m (p + 1) _ (by omega) (by omega)]
    congr 2
    funext q
    by_cases h : q = p
    · rw [if_neg (by omega), if_pos h, if_pos (by omega), h]
    · by_cases h2 : p + 1 ≤ q ∧ q < 204
      · rw [if_pos h2, if_pos (by omega)]
      · rw [if_neg h2, if_neg h, if_neg (by omega)]
theorem baL (Kr : AS → Option (Int32 × AS)) : ∀ d m p (g : Nat → Int32), p + d = 204 → d < m → f_X12_back_L16 Kr m (nI p) (rw_st T 55 g) = Kr (rw_st T 55 (fun q => if p ≤ q ∧ q < 204 then ax_ai T 62 0 q else g q))
  | 0, m + 1, p, g, hp, _ => by
    obtain rfl : p = 204 := by omega
    have e : (fun q => if 204 ≤ q ∧ q < 204 then ax_ai T 62 0 q else g q) = g := by funext q; rw [if_neg (by omega)]
    rw [f_X12_back_L16, if_pos (by decide), e]
  | d + 1, m + 1, p, g, hp, hn => by
    have c : ((204 : Int32) ≤ nI p) ↔ 204 ≤ p := nI_leI (a := 204) (by omega) (by omega)
    rw [f_X12_back_L16, if_neg (fun z => absurd (c.mp z) (by omega)), sn_in (by omega) (by omega), sn_gd, sn_gd, sn_let, nI_clamp (n := p) (by omega), rw_o (by omega), rw_s, sn_let, nI_1, baL Kr d m (p + 1) _ (by omega) (by omega)]
    congr 2
    funext q
    by_cases h : q = p
    · rw [if_neg (by omega), if_pos h, if_pos (by omega), h]
    · by_cases h2 : p + 1 ≤ q ∧ q < 204
      · rw [if_pos h2, if_pos (by omega)]
      · rw [if_neg h2, if_neg h, if_neg (by omega)]
theorem cp_fr {k a m sp dp : Nat} {f : Nat → Int32} {k' a' : Nat} (h : ¬ (k' = k ∧ a' = a)) : ax_ai (ax_cpy S k a f sp dp m) k' a' = ax_ai S k' a' := ax_cpy_o h
theorem x_image (h : jI S T) : jX (f_X11_image S) (f_X12_image T) := by
  obtain ⟨o, H, N, W, M, K, c, L, E, cn, Q, im, NI, LI, hI, tn, tb, wh, n, ca, P, Lg, hi, hR, hC, hA⟩ := h
  have hq0 := jI_q hR hC hA
  have hq := jq_thr (v := 0) hq0
  have no := jr_no0 hq
  have q2 : ax_fr jr_q T (ax_sfi T 12 0 0 0) := jr_thr
  have hR1 := jR_g cg0.rf (rg_q q2).1 hR
  have hA1 := jA_g cg1.rf (rg_q q2).2 hA
  have y3 := hq.2.2.2.2.1
  unfold f_X11_image f_X12_image
  rw [sn_let, jc_noH hq0, sn_bs]
  generalize ax_sfi T 12 0 0 0 = Y at *
  by_cases h0 : H 4 = 0
  · rw [if_pos h0, if_neg ne10, if_pos (no.mpr h0)]
    exact act_no hR hA ax_fr.rf q2 y3
  · rw [if_neg h0, if_pos rfl, if_neg (fun z => h0 (no.mp z))]
    obtain ⟨a1, a2, a3, a4, a5, a6, a7⟩ := hA1
    obtain ⟨r1, r2, r3, r4, r5, r6, r7, r8⟩ := hR1
    obtain ⟨Z, z1, z2, z3⟩ := jc_copy (i := 2) (j := 0) a2 (by omega)
    have q := imL (T := Y) (fun (S10 : AS) => ax_let (ax_sfi S10 12 0 49 (1 : Int32)) (fun (S11 : AS) => ax_gd (ax_in (22 : Int32) 204) (some ((ax_ai S11 55 0 (22 : Int32).toNatClampNeg), S11)))) 204 ax_F 0 (ax_ai Y 62 0) (by omega) (by show _ < 1000000; omega)
    rw [← sn_0, rw_e] at q
    rw [z1, sn_bs, dcopy, sn_bs, sn_let, q, sn_let, in_22, sn_gd, cl_22]
    have e62 : ax_ai (rw_st Y 62 (fun q => if 0 ≤ q ∧ q < 204 then ax_ai Y 55 0 q else ax_ai Y 62 0 q)) 62 0 = (fun q => if 0 ≤ q ∧ q < 204 then ax_ai Y 55 0 q else ax_ai Y 62 0 q) := rw_g
    have o62 : ∀ k, k ≠ 62 → ax_ai (rw_st Y 62 (fun q => if 0 ≤ q ∧ q < 204 then ax_ai Y 55 0 q else ax_ai Y 62 0 q)) k = ax_ai Y k := fun k hk => by
      funext i m
      simp [ax_ai, rw_st, hk]
    have f62 : ax_fi (rw_st Y 62 (fun q => if 0 ≤ q ∧ q < 204 then ax_ai Y 55 0 q else ax_ai Y 62 0 q)) = ax_fi Y := rfl
    have l62 : ax_al (rw_st Y 62 (fun q => if 0 ≤ q ∧ q < 204 then ax_ai Y 55 0 q else ax_ai Y 62 0 q)) = ax_al Y := rfl
    generalize rw_st Y 62 (fun q => if 0 ≤ q ∧ q < 204 then ax_ai Y 55 0 q else ax_ai Y 62 0 q) = V at *
    have fV : ∀ j, j ≠ 49 → ax_fi (ax_sfi V 12 0 49 1) 12 0 j = ax_fi Y 12 0 j := fun j hj => by rw [sg, if_neg hj, f62]
    have aV : ∀ k, k ≠ 62 → ax_ai (ax_sfi V 12 0 49 1) k = ax_ai Y k := o62
    have n62 : ∀ j, j < 204 → ax_ai V 62 0 j = ax_ai Y 55 0 j := fun j hj => by
      rw [e62]
      exact if_pos ⟨by omega, hj⟩
    generalize hU : ax_cpy Z 23 1 (ax_ai Z 23 0) 0 0 300 = U
    have uf : ax_fi U = ax_fi Z := by rw [← hU]; rfl
    have ux : ax_fx U = ax_fx Z := by rw [← hU]; rfl
    have uo : ax_fo U = ax_fo Z := by rw [← hU]; rfl
    have ua : ∀ k i, ¬ (k = 23 ∧ i = 1) → ax_ai U k i = ax_ai Z k i := fun k i hk => by rw [← hU]; exact cp_fr hk
    have zw : jl_w Z 0 (N 22) hi Lg := fun d h1 h2 w hw => by
      rw [z3.2.2.2.2.1 23 0 (by omega) (by omega) (by omega)]
      exact a5 d h1 h2 w hw
    have uw : jl_w U 1 (N 22) hi Lg := by rw [← hU]; exact dcopy_w zw
    have fU : ∀ k i j, ¬ (k = 9 ∧ i = 2) → ¬ (k = 5 ∧ j = 3) → ¬ (k = 11 ∧ j = 19) → ax_fi (ax_sfi U 11 0 19 1) k i j = ax_fi S k i j := fun k i j h1 h2 h3 => by
      have : ax_fi (ax_sfi U 11 0 19 1) k i j = ax_fi U k i j := by
        unfold ax_fi ax_sfi ax_u3
        exact if_neg (fun q => h3 ⟨q.1, q.2.2⟩)
      rw [this, uf]
      exact z3.1 k i j h1 h2
    have aU : ∀ k i, ¬ (k = 23 ∧ i = 1) → ¬ ((k = 38 ∨ k = 39) ∧ i = 2) → k ≠ 31 → k ≠ 32 → ax_ai (ax_sfi U 11 0 19 1) k i = ax_ai S k i := fun k i h1 h2 h3 h4 => (ua k i h1).trans (z3.2.2.2.2.1 k i h2 h3 h4)
    have xU : ax_fx (ax_sfi U 11 0 19 1) = ax_fx S := ux.trans z3.2.2.1
    have oU : ax_fo (ax_sfi U 11 0 19 1) = ax_fo S := uo.trans z3.2.2.2.1
    have e7 : ax_fi (ax_sfi U 11 0 19 1) 9 0 7 = nI (N 22) := by
      rw [fU 9 0 7 (by omega) (by omega) (by omega)]
      exact a2.2.2.2.2.2.2.2.1
    have e22 : ax_ai (ax_sfi V 12 0 49 1) 55 0 22 = nI (N 22) := by
      rw [aV 55 (by omega)]
      exact a3 22 (by omega)
    rw [e7, e22]
    refine ⟨_, _, _, rfl, rfl, jI_mk (o := o) (W := W) (M := M) (K := K) (c := c) (L := L) (E := E) (cn := cn) (Q := Q) (tn := tn) (tb := tb) (wh := wh) (im := 1) (NI := N) (LI := Lg) (hI := hi) ⟨r1, ?_, ?_, ?_, ?_, ?_, ?_, ?_⟩ ?_ (jA_g ?_ ?_ ⟨a1, a2, a3, a4, a5, a6, a7⟩)⟩
    · exact jc_H_e (fun j => by rw [xU]) (by rw [oU]) (fun j => fU 4 o j (by omega) (by omega) (by omega)) (aU 27 o (by omega) (by omega) (by omega) (by omega)) (aU 28 o (by omega) (by omega) (by omega) (by omega)) (aU 29 o (by omega) (by omega) (by omega) (by omega)) r2
    · exact jz_e (fU 11 0 16 (by omega) (by omega) (by omega)) (fU 11 0 18 (by omega) (by omega) (by omega)) (fun k _ => aU 30 k (by omega) (by omega) (by omega) (by omega)) (fun k _ => fU 5 k 2 (by omega) (by omega) (by omega)) (by rw [oU]) (fV 7 (by omega)) (fV 34 (by omega)) r3
    · exact jp_e (fU 11 0 17 (by omega) (by omega) (by omega)) (fun k _ => fU 0 k 2 (by omega) (by omega) (by omega)) (fun k _ => aU 20 k (by omega) (by omega) (by omega) (by omega)) (fun k _ => aU 21 k (by omega) (by omega) (by omega) (by omega)) (fV 30 (by omega)) (fun m _ => by rw [aV 53 (by omega)]) (fun m _ => by rw [aV 54 (by omega)]) r4
    · exact jo_e (fU 3 0 3 (by omega) (by omega) (by omega)) (aU 24 0 (by omega) (by omega) (by omega) (by omega)) (aU 25 0 (by omega) (by omega) (by omega) (by omega)) (aU 26 0 (by omega) (by omega) (by omega) (by omega)) (fV 47 (by omega)) (by rw [aV 61 (by omega)]) r5
    · refine ⟨by omega, by rw [sg, if_pos rfl]; rfl, by rw [sg, if_pos rfl]; rfl, fun _ => ⟨by omega, a1, ?_, ?_, ?_, ?_, a7.1, a7.2.1⟩⟩
      · obtain ⟨g0, g1, g2, g3, g4, g5, g6, g7, g8, g9⟩ := z2
        have f9 : ∀ j, ax_fi (ax_sfi U 11 0 19 1) 9 2 j = ax_fi Z 9 2 j := fun j => by
          rw [show ax_fi (ax_sfi U 11 0 19 1) 9 2 j = ax_fi U 9 2 j from rfl, uf]
        refine ⟨?_, ?_, ?_, ?_, ?_, ?_, ?_, ?_, ?_, ?_⟩
        · rw [f9]; exact g0
        · rw [f9]; exact g1
        · rw [f9]; exact g2
        · rw [f9]; exact g3
        · rw [f9]; exact g4
        · rw [f9]; exact g5
        · rw [f9]; exact g6
        · rw [f9]; exact g7
        · intro l hl
          rw [show ax_ai (ax_sfi U 11 0 19 1) 38 2 = ax_ai U 38 2 from rfl, ua 38 2 (by omega)]
          exact g8 l hl
        · intro l hl
          rw [show ax_ai (ax_sfi U 11 0 19 1) 39 2 = ax_ai U 39 2 from rfl, ua 39 2 (by omega)]
          exact g9 l hl
      · exact jr_S_c n62 a3
      · exact jl_r_c n62 a6
      · exact uw
    · exact jt_e (fU 10 0 1 (by omega) (by omega) (by omega)) (aU 40 0 (by omega) (by omega) (by omega) (by omega)) (fV 6 (by omega)) (by rw [aV 44 (by omega)]) r7
    · exact jwh_e (fU 1 0 2 (by omega) (by omega) (by omega)) (fV 35 (by omega)) r8
    · exact jr_C_e (fV 26 (by omega)) (fV 27 (by omega)) (fV 34 (by omega)) (by rw [aV 47 (by omega)]) (by rw [aV 49 (by omega)]) (by rw [aV 51 (by omega)]) (by rw [aV 45 (by omega)]) (by rw [aV 44 (by omega)]) (by rw [aV 46 (by omega)]) (by rw [aV 58 (by omega)]) (by rw [show ax_al (ax_sfi V 12 0 49 1) = ax_al V from rfl, l62]) y3
    · exact ⟨fun j => fU 9 0 j (by omega) (by omega) (by omega), fun j => fU 7 0 j (by omega) (by omega) (by omega), aU 33 0 (by omega) (by omega) (by omega) (by omega), aU 38 0 (by omega) (by omega) (by omega) (by omega), aU 39 0 (by omega) (by omega) (by omega) (by omega), aU 23 0 (by omega) (by omega) (by omega) (by omega)⟩
    · exact ⟨fV 39 (by omega), by rw [aV 55 (by omega)], by rw [aV 59 (by omega)]⟩
end

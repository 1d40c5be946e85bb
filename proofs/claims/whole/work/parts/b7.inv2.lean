/-! run, heard, law, whim, caller keep the invariant -/
section
variable {S T Z Y : AS} {o M c cn im hI tn wh n ca hi : Nat} {H N L E Q NI LI tb Lg : Nat → Nat} {W : Option (List la_C)} {K : Nat → List la_C} {P : Nat → Nat → Nat}
theorem cg_st1 (h : jc_st S Z 1) : cg0 o M c S Z ∧ cg1 S Z := by
  obtain ⟨f1, f2, f3, f4, f5, f6⟩ := h
  refine ⟨⟨fun k i j _ h2 h3 _ _ _ _ _ => f1 k i j (by omega) (by omega), fun j => by rw [f3], fun j => by rw [f4], fun k i _ _ h3 h4 _ _ h7 _ _ _ _ => f5 k i (by omega) h3 h4⟩, fun j => f1 9 0 j (by omega) (by omega), fun j => f1 7 0 j (by omega) (by omega), f5 33 0 (by omega) (by omega) (by omega), f5 38 0 (by omega) (by omega) (by omega), f5 39 0 (by omega) (by omega) (by omega), f5 23 0 (by omega) (by omega) (by omega)⟩
theorem rg_st56 (h : jr_st T Y 56) : rg0 T Y ∧ rg1 T Y := by
  obtain ⟨f1, f2, f3, f4, f5, f6⟩ := h
  refine ⟨⟨fun j hj => f1 12 0 j (by omega), f5 44 0 (by omega) (by omega) (by omega), fun m _ => by rw [f5 53 0 (by omega) (by omega) (by omega)], fun m _ => by rw [f5 54 0 (by omega) (by omega) (by omega)], f5 61 0 (by omega) (by omega) (by omega), f5 62 0 (by omega) (by omega) (by omega)⟩, f1 12 0 39 (by omega), f5 55 0 (by omega) (by omega) (by omega), f5 59 0 (by omega) (by omega) (by omega)⟩
theorem rg_thr {v : Int32} : rg0 T (ax_sfi T 12 0 0 v) ∧ rg1 T (ax_sfi T 12 0 0 v) := rg_q jr_thr
theorem jX_qs {x y : Option (Int32 × AS)} (h : jR o H W M K c L E cn Q im NI LI hI tn tb wh S T) (hA : jA H N n ca P Lg hi S T) (q : qs H W M K S T x y) : jX x y := by
  obtain ⟨r, S', T', h1, h2, h3, h4, h5⟩ := q
  exact ⟨r, S', T', h1, h2, jI_g h hA (cg_st1 h3) ⟨rg_thr.1.tr (rg_st56 h4).1, rg_thr.2.tr (rg_st56 h4).2⟩ h5⟩
theorem x_run (h : jI S T) (a b : Int32) : jX (f_X11_run a b S) (f_X12_run a b T) := by
  obtain ⟨o, H, N, W, M, K, c, L, E, cn, Q, im, NI, LI, hI, tn, tb, wh, n, ca, P, Lg, hi, hR, hC, hA⟩ := h
  exact jX_qs hR hA (q_run (jI_q hR hC hA) hR.2.2.2.1 a b)
theorem x_heard (h : jI S T) (a b : Int32) {s : Nat} (hs : s ≤ 1) : jX (f_X11_heard a b (nI s) S) (f_X12_heard a b (nI s) T) := by
  obtain ⟨o, H, N, W, M, K, c, L, E, cn, Q, im, NI, LI, hI, tn, tb, wh, n, ca, P, Lg, hi, hR, hC, hA⟩ := h
  obtain ⟨r, S', T', c', Q', e1, e2, f1, f2, f3⟩ := q_heard (jI_q hR hC hA) hR.2.2.2.2.1 a b hs
  obtain ⟨r1, r2, r3, r4, r5, r6, r7, r8⟩ := hR
  refine ⟨r, S', T', e1, e2, jI_mk ⟨r1, jc_H_f f1 (fun j => by simp) (by decide) (fun j => by simp) (by decide) (by decide) (by decide) r2, jz_f f1 f2 (by decide) (by decide) r3, jp_f f1 f2 (by decide) (by decide) r4, f3, jim_f f1 f2 (by decide) (fun j => by simp) (by decide) (by decide) (by decide) (by decide) (by decide) r6, jt_f f1 f2 (by decide) (by decide) r7, jwh_f f1 f2 (by decide) (by decide) r8⟩ (jr_C_f f2 (by decide) hC) (jA_g (cg1_f f1 (fun j => by simp) (fun j => by simp) (by decide) (by decide) (by decide) (by decide)) (rg1_f f2 (by decide) (by decide) (by decide)) hA)⟩
/-! whim -/
abbrev wm_c : List (Nat × Nat × Nat) := [(0, 1, 2)]
abbrev wm_r : List (Nat × Nat × Nat) := [(0, 12, 35), (0, 12, 0)]
theorem wm_keep (h : jR o H W M K c L E cn Q im NI LI hI tn tb wh S T) (hC : jr_C T H M K W) (hA : jA H N n ca P Lg hi S T) {w : Nat} (f1 : ax_fr wm_c S Z) (f2 : ax_fr wm_r T Y) (hw : jwh Z Y w) : jI Z Y := by
  obtain ⟨r1, r2, r3, r4, r5, r6, r7, r8⟩ := h
  exact jI_mk ⟨r1, jc_H_f f1 (fun j => by simp) (by decide) (fun j => by simp) (by decide) (by decide) (by decide) r2, jz_f f1 f2 (by decide) (by decide) r3, jp_f f1 f2 (by decide) (by decide) r4, jo_f f1 f2 (by decide) (by decide) r5, jim_f f1 f2 (by decide) (fun j => by simp) (by decide) (by decide) (by decide) (by decide) (by decide) r6, jt_f f1 f2 (by decide) (by decide) r7, hw⟩ (jr_C_f f2 (by decide) hC) (jA_g (cg1_f f1 (fun j => by simp) (fun j => by simp) (by decide) (by decide) (by decide) (by decide)) (rg1_f f2 (by decide) (by decide) (by decide)) hA)
theorem i_9 : (9 : Int64).toInt = ((9 : Nat) : Int) := rfl
theorem x_whim (h : jI S T) (a : Int32) : jX (f_X11_whim a S) (f_X12_whim a T) := by
  obtain ⟨o, H, N, W, M, K, c, L, E, cn, Q, im, NI, LI, hI, tn, tb, wh, n, ca, P, Lg, hi, hR, hC, hA⟩ := h
  obtain ⟨w1, w2, w3⟩ := hR.2.2.2.2.2.2.2
  have t35 : ax_fi (ax_sfi T 12 0 0 0) 12 0 35 = nI wh := by rw [sg, if_neg (by omega)]; exact w3
  have ft : ax_fr wm_r T (ax_sfi T 12 0 0 0) := ax_fr_sfi (by decide)
  have no : jX (some (0, S)) (some (0, ax_sfi T 12 0 0 0)) := ⟨0, S, _, rfl, rfl, wm_keep hR hC hA (w := wh) ax_fr.rf ft ⟨w1, w2, t35⟩⟩
  have c0 : (a < 0) ↔ a.toInt < ((0 : Nat) : Int) := lt_i rfl
  have c9 : ((9 : Int32) < a) ↔ ((9 : Nat) : Int) < a.toInt := by rw [Int32.lt_iff_toInt_lt]; rfl
  unfold f_X11_whim f_X12_whim
  rw [sn_let, sn_let]
  rcases rg i_0 i_9 a with ⟨m, m1, m2, rfl, q⟩ | ⟨m1, q⟩
  · rw [nIi (by omega)] at c0 c9
    rw [q, sn_bs, if_neg ne10, if_neg (fun z => absurd (c0.mp z) (by omega)), if_neg (fun z => absurd (c9.mp z) (by omega)), w2, t35]
    by_cases e : nI m = nI wh
    · rw [if_pos e, if_pos e]; exact no
    · rw [if_neg e, if_neg e, sn_let]
      refine ⟨1, _, _, rfl, rfl, wm_keep hR hC hA (w := m) (ax_fr_sfi (by decide)) (ft.tr (ax_fr_sfi (by decide))) ⟨m2, ?_, ?_⟩⟩
      · rw [sg, if_pos rfl]
      · rw [sg, if_pos rfl]
  · rw [q, sn_bs, if_pos rfl]
    by_cases z : a < 0
    · rw [if_pos z]; exact no
    · rw [if_neg z, if_pos (c9.mpr (by have w : ¬ (a.toInt < ((0 : Nat) : Int)) := fun w => z (c0.mpr w); omega))]
      exact no
/-! law -/
abbrev lw_c : List (Nat × Nat × Nat) := [(0, 11, 18), (3, 6, 2)]
abbrev lw_r : List (Nat × Nat × Nat) := [(0, 12, 34), (0, 12, 0)]
theorem jr_C_law {W' : Option (List la_C)} (f2 : ax_fr lw_r T Y) (hC : jr_C T H M K W) (hW : jr_W Y M K W') : jr_C Y H M K W' := by
  obtain ⟨⟨h0, h1, h2, h3, h4⟩, ⟨l0, l1⟩, hm, hlt, _⟩ := hC
  refine ⟨⟨?_, ?_, ?_, ?_, ?_⟩, ⟨l0, ?_⟩, ?_, ?_, hW⟩
  · rw [f2.1 12 0 26 (by decide)]; exact h0
  · rw [f2.1 12 0 27 (by decide)]; exact h1
  · rw [f2.2.2.2.2.1 47 0 (by decide)]; exact h2
  · rw [f2.2.2.2.2.1 49 0 (by decide)]; exact h3
  · rw [f2.2.2.2.2.1 51 0 (by decide)]; exact h4
  · rw [f2.2.2.2.2.1 45 0 (by decide), f2.2.2.2.2.1 44 1 (by decide)]; exact l1
  · unfold jr_M
    rw [f2.2.2.2.2.2 57 0 (by decide), f2.2.2.2.2.1 58 0 (by decide)]; exact hm
  · unfold jr_lt
    rw [f2.2.2.2.2.1 46 0 (by decide)]; exact hlt
theorem lw_keep {W' : Option (List la_C)} (h : jR o H W M K c L E cn Q im NI LI hI tn tb wh S T) (hC : jr_C T H M K W) (hA : jA H N n ca P Lg hi S T) (f1 : ax_fr lw_c S Z) (f2 : ax_fr lw_r T Y) (hz : (W' = none ∧ ax_fi Z 11 0 18 = Int32.ofInt (-1) ∧ ax_fi Y 12 0 34 = Int32.ofInt (-1) ∧ ax_fo Z 6 0 2 = none) ∨ ∃ k, k < M ∧ W' = some (K k) ∧ ax_fi Z 11 0 18 = nI k ∧ ax_fi Y 12 0 34 = nI k ∧ ax_fo Z 6 0 2 = some k) : jI Z Y := by
  obtain ⟨r1, r2, ⟨z0, z1, z2, z3, _⟩, r4, r5, r6, r7, r8⟩ := h
  have hW : jr_W Y M K W' := by
    rcases hz with ⟨rfl, _, e, _⟩ | ⟨k, hk, rfl, _, e, _⟩
    · exact e
    · exact ⟨k, hk, e, rfl⟩
  refine jI_mk (W := W') ⟨r1, jc_H_f f1 (fun j => by simp) (by decide) (fun j => by simp) (by decide) (by decide) (by decide) r2, ⟨z0, ?_, ?_, fun k hk => ⟨(z3 k hk).1, ?_⟩, hz⟩, jp_f f1 f2 (by decide) (by decide) r4, jo_f f1 f2 (by decide) (by decide) r5, jim_f f1 f2 (by decide) (fun j => by simp) (by decide) (by decide) (by decide) (by decide) (by decide) r6, jt_f f1 f2 (by decide) (by decide) r7, jwh_f f1 f2 (by decide) (by decide) r8⟩ (jr_C_law f2 hC hW) (jA_g (cg1_f f1 (fun j => by simp) (fun j => by simp) (by decide) (by decide) (by decide) (by decide)) (rg1_f f2 (by decide) (by decide) (by decide)) hA)
  · rw [f1.1 11 0 16 (by decide)]; exact z1
  · rw [f2.1 12 0 7 (by decide)]; exact z2
  · obtain ⟨g1, g2, g3, g4⟩ := (z3 k hk).2
    refine ⟨g1, fun j hj => ?_, ?_, g4⟩
    · rw [f1.2.2.2.2.1 30 k (by decide)]; exact g2 j hj
    · rw [f1.1 5 k 2 (by decide)]; exact g3
theorem sgof {k i j : Nat} {v : Option Nat} : ax_fo (ax_sfo S k i j v) k i j = v := by
  unfold ax_fo ax_sfo ax_u3
  exact if_pos ⟨rfl, rfl, rfl⟩
theorem i_m1 : (Int32.ofInt (-1)).toInt = -1 := by decide
theorem x_law (h : jI S T) (a : Int32) : jX (f_X11_law a S) (f_X12_law a T) := by
  obtain ⟨o, H, N, W, M, K, c, L, E, cn, Q, im, NI, LI, hI, tn, tb, wh, n, ca, P, Lg, hi, hR, hC, hA⟩ := h
  obtain ⟨z0, z1, z2, z3, z4⟩ := hR.2.2.1
  have t7 : ax_fi (ax_sfi T 12 0 0 0) 12 0 7 = nI M := by rw [sg, if_neg (by omega)]; exact z2
  have t34 : ax_fi (ax_sfi T 12 0 0 0) 12 0 34 = ax_fi T 12 0 34 := by rw [sg, if_neg (by omega)]
  have ft : ax_fr lw_r T (ax_sfi T 12 0 0 0) := ax_fr_sfi (by decide)
  have no : jX (some (0, S)) (some (0, ax_sfi T 12 0 0 0)) := ⟨0, S, _, rfl, rfl, lw_keep hR hC hA (W' := W) ax_fr.rf ft (by rw [t34]; exact z4)⟩
  have q6 : (nI M - 1).toInt64.toInt = ((M : Nat) : Int) - 1 := by
    rcases Nat.eq_zero_or_pos M with u | u
    · rw [u]; rfl
    · rw [sn_1, pk_sub (by omega), Int32.toInt_toInt64, nIi (by omega)]
      omega
  have cm : (a < Int32.ofInt (-1)) ↔ a.toInt < -1 := by rw [Int32.lt_iff_toInt_lt, i_m1]
  have cM : (a < nI M) ↔ a.toInt < (M : Int) := by rw [Int32.lt_iff_toInt_lt, nIi (by omega)]
  have ce : (a = Int32.ofInt (-1)) ↔ a.toInt = -1 := by rw [← Int32.toInt_inj, i_m1]
  unfold f_X11_law f_X12_law
  rw [sn_let, sn_let, z1, t7]
  by_cases q1 : a.toInt < -1
  · rw [if_pos (cm.mpr q1), if_neg (fun z => absurd (ce.mp z) (by omega)), ii, q6, i_0, if_neg (fun z => by omega), sn_bs, if_pos rfl]
    exact no
  · rw [if_neg (fun z => q1 (cm.mp z))]
    by_cases q2 : a.toInt < (M : Int)
    · rw [if_pos (cM.mpr q2)]
      by_cases q3 : a = Int32.ofInt (-1)
      · rw [if_pos q3, if_pos q3, sn_let]
        unfold f_X6_useLaw_n
        rw [sn_let, sn_bs]
        refine ⟨1, _, _, rfl, rfl, lw_keep hR hC hA (W' := none) ((ax_fr_sfi (by decide)).tr (ax_fr_sfo (by decide))) (ft.tr (ax_fr_sfi (by decide))) (.inl ⟨rfl, ?_, ?_, ?_⟩)⟩
        · show ax_fi (ax_sfi S 11 0 18 a) 11 0 18 = _
          rw [sg, if_pos rfl, q3]
        · rw [sg, if_pos rfl, q3]
        · exact sgof
      · have q4 : 0 ≤ a.toInt := by
          have : a.toInt ≠ -1 := fun z => q3 (ce.mpr z)
          omega
        obtain ⟨k, _, k2, rfl⟩ := ii_n (x := a) (a := 0) (b := M) (by omega) (by omega)
        rw [nIi (by omega)] at q2
        have k3 : k < M := by omega
        have e1 : f_X12_isIn (nI k).toInt64 0 (nI M - 1).toInt64 (ax_sfi T 12 0 0 0) = some 1 := by rw [ii, q6, i_0, nIi (by omega), if_pos (by omega)]
        rw [if_neg q3, if_neg q3, e1, sn_bs, if_neg ne10, sn_let, sn_in (by omega) (by omega), sn_gd, nI_clamp (by omega)]
        unfold f_X6_useLaw
        rw [sn_let, sn_bs]
        refine ⟨1, _, _, rfl, rfl, lw_keep hR hC hA (W' := some (K k)) ((ax_fr_sfi (by decide)).tr (ax_fr_sfo (by decide))) (ft.tr (ax_fr_sfi (by decide))) (.inr ⟨k, k3, rfl, ?_, ?_, ?_⟩)⟩
        · show ax_fi (ax_sfi S 11 0 18 (nI k)) 11 0 18 = _
          rw [sg, if_pos rfl]
        · rw [sg, if_pos rfl]
        · exact sgof
    · have q3 : ¬ (a = Int32.ofInt (-1)) := fun z => by
        have := ce.mp z
        omega
      rw [if_neg (fun z => q2 (cM.mp z)), if_neg q3, ii, q6, i_0, if_neg (fun z => by omega), sn_bs, if_pos rfl]
      exact no
end

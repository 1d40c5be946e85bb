/-! text of a law, text of an afternoon -/
section
variable {S T Z Y X : AS} {o M c cn im hI tn wh n ca hi : Nat} {H N L E Q NI LI tb Lg : Nat → Nat} {W : Option (List la_C)} {K : Nat → List la_C} {P : Nat → Nat → Nat} {p φ p' φ' : Int32}
theorem sg_o {k i j k' i' j' : Nat} {v : Int32} (h : k' ≠ k) : ax_fi (ax_sfi S k i j v) k' i' j' = ax_fi S k' i' j' := by
  unfold ax_fi ax_sfi ax_u3
  exact if_neg (fun z => h z.1)
theorem cut0 (h : tn ≤ 240) (e : ax_fi S 10 0 1 = nI tn) : f_X10_cut 0 S = some (1, ax_sfi S 10 0 1 0) := by
  unfold f_X10_cut
  have n0 : ¬ ((0 : Int32) < 0) := by decide
  rw [if_neg n0, e, if_pos (ge0 (by omega)), sn_let]
theorem t71 (hM : M < 4) {Kr : Int32 → AS → Option (Int32 × AS)} : ∀ d m p U, (∀ k, k < tn → ax_ai U 44 0 k = lr_by (tb k) ∧ tb k ≤ 255) → ax_fi U 12 0 7 = nI M → tn ≤ 240 → p + d = tn → d < m → ∃ Y, f_X12_text_L71 Kr m (nI tn) (nI p) U = Kr (nI tn) Y ∧ (∀ k i, ¬ (k = 44 ∧ i = 1) → ax_ai Y k i = ax_ai U k i) ∧ ax_fi Y = ax_fi U ∧ ax_fl Y = ax_fl U ∧ ax_fx Y = ax_fx U ∧ ax_fo Y = ax_fo U ∧ ax_al Y = ax_al U ∧ ∀ j, ax_ai Y 44 1 j = if 240 * M + p ≤ j ∧ j < 240 * M + tn then lr_by (tb (j - 240 * M)) else ax_ai U 44 1 j
  | 0, m + 1, p, U, hb, h7, hn, hp, _ => by
    obtain rfl : p = tn := by omega
    rw [f_X12_text_L71, if_pos (Int32.le_refl _)]
    exact ⟨U, rfl, fun _ _ _ => rfl, rfl, rfl, rfl, rfl, rfl, fun j => by rw [if_neg (by omega)]⟩
  | d + 1, m + 1, p, U, hb, h7, hn, hp, hm => by
    have ix : (240 : Int32) * nI M + nI p = nI (240 * M + p) := by rw [sn_240, pk_mul, nI_add]
    have hbp := hb p (by omega)
    have o1 : ∀ k i, ¬ (k = 44 ∧ i = 1) → ax_ai (ax_sai U 44 1 (240 * M + p) (lr_by (tb p))) k i = ax_ai U k i := fun k i q => ax_u3_o q
    obtain ⟨Y, y1, y2, y3, y4, y5, y6, y7, y8⟩ := t71 hM (Kr := Kr) d m (p + 1) (ax_sai U 44 1 (240 * M + p) (lr_by (tb p))) (fun k hk => by rw [o1 44 0 (by omega)]; exact hb k hk) h7 hn (by omega) (by omega)
    refine ⟨Y, ?_, fun k i q => (y2 k i q).trans (o1 k i q), y3, y4, y5, y6, y7, fun j => ?_⟩
    · rw [f_X12_text_L71, if_neg (fun z => absurd ((nI_leI (by omega) (by omega)).mp z) (by omega)), h7, ix, sn_in (by omega) (by omega), sn_gd, sn_in (by omega) (by omega), sn_gd, nI_clamp (n := 240 * M + p) (by omega), nI_clamp (n := p) (by omega), hbp.1, nar_by _ (by omega), sn_let, sn_let, nI_1]
      exact y1
    · rw [y8, sga]
      by_cases q : j = 240 * M + p
      · rw [if_neg (by omega), if_pos q, if_pos (by omega), (by omega : j - 240 * M = p)]
      · by_cases q2 : 240 * M + (p + 1) ≤ j ∧ j < 240 * M + tn
        · rw [if_pos q2, if_pos (by omega)]
        · rw [if_neg q2, if_neg q, if_neg (by omega)]
abbrev t1_c : List (Nat × Nat × Nat) := [(0, 10, 1), (0, 11, 16)]
abbrev t1_r : List (Nat × Nat × Nat) := [(0, 12, 6), (0, 12, 7), (4, 44, 0), (4, 45, 0)]
def kL (K : Nat → List la_C) (M : Nat) (cs : List la_C) : Nat → List la_C := fun k => if k = M then cs else K k
theorem tx1 (hR : jR o H W M K c L E cn Q im NI LI hI tn tb wh S T) (hC : jr_C T H M K W) (hA : jA H N n ca P Lg hi S T) (hM : M < 4) {cs : List la_C} (hL : la_L tb tn (tn + 1) 0 (.inr cs)) (hH : la_H S M cs) : jX (ax_bu (f_X10_cut (0 : Int32) S) (fun (_ : Int32) (S8 : AS) => ax_let (ax_sfi S8 11 0 16 ((ax_fi S8 11 0 16) + (1 : Int32))) (fun (S20 : AS) => some (((ax_fi S20 11 0 16) - (1 : Int32)), S20)))) (ax_let (ax_fi T 12 0 6) (fun (v14 : Int32) => ax_let (ax_sfi T 12 0 6 (0 : Int32)) (fun (S15 : AS) => f_X12_text_L71 (fun (x79 : Int32) (S86 : AS) => ax_gd (ax_in (ax_fi S86 12 0 7) 4) (ax_let (ax_sai S86 45 0 (ax_fi S86 12 0 7).toNatClampNeg x79) (fun (S88 : AS) => ax_let (ax_sfi S88 12 0 7 ((ax_fi S88 12 0 7) + (1 : Int32))) (fun (S89 : AS) => some (((ax_fi S89 12 0 7) - (1 : Int32)), S89))))) ax_F v14 (0 : Int32) S15))) := by
  obtain ⟨r1, r2, r3, r4, r5, r6, r7, r8⟩ := hR
  obtain ⟨z0, z1, z2, z3, z4⟩ := r3
  have h240 := r7.1
  have e7 : ax_fi (ax_sfi T 12 0 6 0) 12 0 7 = nI M := by rw [sg, if_neg (by omega)]; exact z2
  obtain ⟨Y, y1, y2, y3, y4, y5, y6, y7, y8⟩ := t71 (M := M) (tn := tn) (tb := tb) hM (Kr := (fun (x79 : Int32) (S86 : AS) => ax_gd (ax_in (ax_fi S86 12 0 7) 4) (ax_let (ax_sai S86 45 0 (ax_fi S86 12 0 7).toNatClampNeg x79) (fun (S88 : AS) => ax_let (ax_sfi S88 12 0 7 ((ax_fi S88 12 0 7) + (1 : Int32))) (fun (S89 : AS) => some (((ax_fi S89 12 0 7) - (1 : Int32)), S89)))))) tn ax_F 0 (ax_sfi T 12 0 6 0) (fun k hk => ⟨(r7.2.2.2 k hk).2.1, (r7.2.2.2 k hk).2.2.2⟩) e7 h240 (by omega) (by show _ < 1000000; omega)
  rw [← sn_0] at y1
  have k16 : ax_fi (ax_sfi S 10 0 1 0) 11 0 16 = nI M := z1
  have yf7 : ax_fi Y 12 0 7 = nI M := by rw [y3]; exact e7
  have yg7 : ax_fi (ax_sai Y 45 0 M (nI tn)) 12 0 7 = nI M := yf7
  have m1' : nI (M + 1) - 1 = nI M := by rw [sn_1, pk_sub (by omega), Nat.add_sub_cancel]
  rw [cut0 h240 r7.2.1, ax_bu_s, k16, nI_1, sn_let, sg, if_pos rfl, m1', r7.2.2.1, sn_let, sn_let, y1, yf7, sn_in (by omega) (by omega), sn_gd, nI_clamp (n := M) (by omega), sn_let, yg7, nI_1, sn_let, sg, if_pos rfl, m1']
  have f1 : ax_fr t1_c S (ax_sfi (ax_sfi S 10 0 1 0) 11 0 16 (nI (M + 1))) := (ax_fr_sfi (by decide)).tr (ax_fr_sfi (by decide))
  have fY : ax_fr t1_r T Y := by
    have a : ax_fr t1_r T (ax_sfi T 12 0 6 0) := ax_fr_sfi (by decide)
    refine a.tr ⟨fun k i j _ => by rw [y3], fun k i j _ => by rw [y4], fun k i j _ => by rw [y5], fun k i j _ => by rw [y6], fun k i q => y2 k i (fun z => ?_), fun k i _ => by rw [y7]⟩
    rw [z.1] at q
    exact absurd q (by decide)
  have f2 : ax_fr t1_r T (ax_sfi (ax_sai Y 45 0 M (nI tn)) 12 0 7 (nI (M + 1))) := (fY.tr (ax_fr_sai (by decide))).tr (ax_fr_sfi (by decide))
  have kk : ∀ k, k < M → kL K M cs k = K k := fun k hk => if_neg (by omega)
  have kM : kL K M cs M = cs := if_pos rfl
  have b1 : ∀ j, ax_ai (ax_sfi (ax_sai Y 45 0 M (nI tn)) 12 0 7 (nI (M + 1))) 44 1 j = if 240 * M ≤ j ∧ j < 240 * M + tn then lr_by (tb (j - 240 * M)) else ax_ai T 44 1 j := fun j => by
    rw [sfa, sgo (by omega), y8]
    rfl
  have b45 : ∀ j, ax_ai (ax_sfi (ax_sai Y 45 0 M (nI tn)) 12 0 7 (nI (M + 1))) 45 0 j = if j = M then nI tn else ax_ai T 45 0 j := fun j => by
    rw [sfa, sga, y2 45 0 (by omega)]
    rfl
  have q7 : ax_fi (ax_sfi (ax_sai Y 45 0 M (nI tn)) 12 0 7 (nI (M + 1))) 12 0 7 = nI (M + 1) := by rw [sg, if_pos rfl]
  have q6 : ax_fi (ax_sfi (ax_sai Y 45 0 M (nI tn)) 12 0 7 (nI (M + 1))) 12 0 6 = nI 0 := by
    rw [sg, if_neg (by omega), show ax_fi (ax_sai Y 45 0 M (nI tn)) 12 0 6 = ax_fi Y 12 0 6 from rfl, y3, sg, if_pos rfl]
    exact sn_0
  generalize ax_sfi (ax_sai Y 45 0 M (nI tn)) 12 0 7 (nI (M + 1)) = V at *
  have f18 : ax_fi (ax_sfi (ax_sfi S 10 0 1 0) 11 0 16 (nI (M + 1))) 11 0 18 = ax_fi S 11 0 18 := f1.1 11 0 18 (by decide)
  have f34 : ax_fi V 12 0 34 = ax_fi T 12 0 34 := f2.1 12 0 34 (by decide)
  have fo2 : ax_fo (ax_sfi (ax_sfi S 10 0 1 0) 11 0 16 (nI (M + 1))) 6 0 2 = ax_fo S 6 0 2 := rfl
  have lH : ∀ k cs, la_H S k cs → la_H (ax_sfi (ax_sfi S 10 0 1 0) 11 0 16 (nI (M + 1))) k cs := fun k cs hh => by
    obtain ⟨g1, g2, g3, g4⟩ := hh
    exact ⟨g1, fun j hj => g2 j hj, (f1.1 5 k 2 (by decide)).trans g3, g4⟩
  obtain ⟨⟨h0, h1, h2, h3, h4⟩, ⟨l0, l1⟩, hm, hlt, hW⟩ := hC
  refine ⟨nI M, _, V, rfl, rfl, jI_mk (M := M + 1) (K := kL K M cs) (tn := 0) (tb := tb) (W := W) ⟨r1, jc_H_f f1 (fun j => by simp) (by decide) (fun j => by simp) (by decide) (by decide) (by decide) r2, ⟨by omega, by rw [sg, if_pos rfl], q7, fun k hk => ?_, ?_⟩, jp_f f1 f2 (by decide) (by decide) r4, jo_f f1 f2 (by decide) (by decide) r5, jim_f f1 f2 (by decide) (fun j => by simp) (by decide) (by decide) (by decide) (by decide) (by decide) r6, ⟨by omega, ?_, q6, fun p hp => absurd hp (by omega)⟩, jwh_f f1 f2 (by decide) (by decide) r8⟩ ⟨⟨?_, ?_, ?_, ?_, ?_⟩, ⟨by omega, fun k hk => ?_⟩, ?_, ?_, ?_⟩ (jA_g (cg1_f f1 (fun j => by simp) (fun j => by simp) (by decide) (by decide) (by decide) (by decide)) (rg1_f f2 (by decide) (by decide) (by decide)) hA)⟩
  · by_cases q : k = M
    · rw [q, kM]
      exact ⟨la_dcL _ _ _ hL, lH M cs hH⟩
    · rw [kk k (by omega)]
      exact ⟨(z3 k (by omega)).1, lH k _ (z3 k (by omega)).2⟩
  · rw [f18, f34, fo2]
    rcases z4 with z4 | ⟨k, k1, k2, k3, k4, k5⟩
    · exact .inl z4
    · exact .inr ⟨k, by omega, by rw [kk k k1]; exact k2, k3, k4, k5⟩
  · rw [sg_o (by omega), sg, if_pos rfl]
    exact sn_0
  · rw [f2.1 12 0 26 (by decide)]; exact h0
  · rw [f2.1 12 0 27 (by decide)]; exact h1
  · rw [f2.2.2.2.2.1 47 0 (by decide)]; exact h2
  · rw [f2.2.2.2.2.1 49 0 (by decide)]; exact h3
  · rw [f2.2.2.2.2.1 51 0 (by decide)]; exact h4
  · by_cases q : k = M
    · subst q
      refine ⟨tb, tn, h240, by rw [b45, if_pos rfl], fun p hp => ?_, fun p hp => (r7.2.2.2 p hp).2.2, by rw [kM]; exact hL⟩
      rw [b1, if_pos (by omega), Nat.add_sub_cancel_left]
    · obtain ⟨b, m, a1, a2, a3, a4, a5⟩ := l1 k (by omega)
      refine ⟨b, m, a1, by rw [b45, if_neg q]; exact a2, fun p hp => ?_, a4, by rw [kk k (by omega)]; exact a5⟩
      rw [b1, if_neg (by omega)]
      exact a3 p hp
  · intro q hq
    rw [f2.2.2.2.2.2 57 0 (by decide), f2.2.2.2.2.1 58 0 (by decide)]
    rcases hm q hq with e | ⟨k, n, h, t, g, s, d, e1, e2, e3, e4⟩
    · exact .inl e
    · exact .inr ⟨k, n, h, t, g, s, d, by omega, e2, e3, by rw [kk k e1]; exact e4⟩
  · unfold jr_lt
    rw [f2.2.2.2.2.1 46 0 (by decide)]
    exact hlt
  · match W, hW with
    | none, hW => exact f34.trans hW
    | some cs', ⟨k, a, b, c⟩ => exact ⟨k, by omega, f34.trans b, by rw [kk k a]; exact c⟩
/-! an afternoon -/
theorem t137 (hc : c < 4) {Kr : AS → Option (Int32 × AS)} : ∀ d m p U, ax_fi U 12 0 30 = nI c → p + d = 32 → d < m → ∃ Y, f_X12_text_L137 Kr m (nI p) U = Kr Y ∧ (∀ k i, ¬ (k = 53 ∧ i = 0) → ax_ai Y k i = ax_ai U k i) ∧ ax_fi Y = ax_fi U ∧ ax_fl Y = ax_fl U ∧ ax_fx Y = ax_fx U ∧ ax_fo Y = ax_fo U ∧ ax_al Y = ax_al U ∧ ∀ j, ax_ai Y 53 0 j = if 32 * c + p ≤ j ∧ j < 32 * c + 32 then ax_ai U 53 0 (128 + (j - 32 * c)) else ax_ai U 53 0 j
  | 0, m + 1, p, U, h30, hp, _ => by
    obtain rfl : p = 32 := by omega
    rw [f_X12_text_L137, if_pos (by decide)]
    exact ⟨U, rfl, fun _ _ _ => rfl, rfl, rfl, rfl, rfl, rfl, fun j => by rw [if_neg (by omega)]⟩
  | d + 1, m + 1, p, U, h30, hp, hm => by
    have c32 : ((32 : Int32) ≤ nI p) ↔ 32 ≤ p := nI_leI (a := 32) (by omega) (by omega)
    have ix : (32 : Int32) * nI c + nI p = nI (32 * c + p) := by rw [sn_32, pk_mul, nI_add]
    have iy : (128 : Int32) + nI p = nI (128 + p) := by rw [sn_128, nI_add]
    obtain ⟨Y, y1, y2, y3, y4, y5, y6, y7, y8⟩ := t137 hc (Kr := Kr) d m (p + 1) (ax_sai U 53 0 (32 * c + p) (ax_ai U 53 0 (128 + p))) h30 (by omega) (by omega)
    refine ⟨Y, ?_, fun k i q => (y2 k i q).trans (ax_u3_o q), y3, y4, y5, y6, y7, fun j => ?_⟩
    · rw [f_X12_text_L137, if_neg (fun z => absurd (c32.mp z) (by omega)), h30, ix, iy, sn_in (by omega) (by omega), sn_gd, sn_in (by omega) (by omega), sn_gd, nI_clamp (n := 32 * c + p) (by omega), nI_clamp (n := 128 + p) (by omega), sn_let, sn_let, nI_1]
      exact y1
    · rw [y8, sga, sga]
      by_cases q : j = 32 * c + p
      · rw [if_neg (by omega), if_pos q, if_pos (by omega), (by omega : 128 + (j - 32 * c) = 128 + p)]
      · by_cases q2 : 32 * c + (p + 1) ≤ j ∧ j < 32 * c + 32
        · rw [if_pos q2, if_neg (by omega), if_pos (by omega)]
        · rw [if_neg q2, if_neg q, if_neg (by omega)]
abbrev t2_c : List (Nat × Nat × Nat) := [(0, 10, 1), (0, 11, 17)]
abbrev t2_r : List (Nat × Nat × Nat) := [(0, 12, 6), (0, 12, 30), (4, 53, 0), (4, 54, 0)]
theorem tx2 (hR : jR o H W M K c L E cn Q im NI LI hI tn tb wh S T) (hC : jr_C T H M K W) (hA : jA H N n ca P Lg hi S T) (hc : c < 4) {k2 : Nat} {E2 : Nat → Nat} (hg : pg c k2 E2 S T) (h54 : ax_ai T 54 0 4 = nI k2) : jX (ax_bu (f_X10_cut (0 : Int32) S) (fun (_ : Int32) (S8 : AS) => ax_let (ax_sfi S8 11 0 17 ((ax_fi S8 11 0 17) + (1 : Int32))) (fun (S20 : AS) => some (((ax_fi S20 11 0 17) - (1 : Int32)), S20)))) (ax_let (ax_fi T 12 0 6) (fun (_ : Int32) => ax_let (ax_sfi T 12 0 6 (0 : Int32)) (fun (S15 : AS) => f_X12_text_L137 (fun (S72 : AS) => ax_gd (ax_in (4 : Int32) 5) (ax_gd (ax_in (ax_fi S72 12 0 30) 5) (ax_let (ax_sai S72 54 0 (ax_fi S72 12 0 30).toNatClampNeg (ax_ai S72 54 0 (4 : Int32).toNatClampNeg)) (fun (S75 : AS) => ax_let (ax_sfi S75 12 0 30 ((ax_fi S75 12 0 30) + (1 : Int32))) (fun (S76 : AS) => some (((ax_fi S76 12 0 30) - (1 : Int32)), S76)))))) ax_F (0 : Int32) S15))) := by
  obtain ⟨r1, r2, r3, r4, r5, r6, r7, r8⟩ := hR
  obtain ⟨p0, p1, p2, p3⟩ := r4
  obtain ⟨g1, g2, g3⟩ := hg
  have h240 := r7.1
  have e30 : ax_fi (ax_sfi T 12 0 6 0) 12 0 30 = nI c := by rw [sg, if_neg (by omega)]; exact p2
  obtain ⟨Y, y1, y2, y3, y4, y5, y6, y7, y8⟩ := t137 (c := c) hc (Kr := (fun (S72 : AS) => ax_gd (ax_in (4 : Int32) 5) (ax_gd (ax_in (ax_fi S72 12 0 30) 5) (ax_let (ax_sai S72 54 0 (ax_fi S72 12 0 30).toNatClampNeg (ax_ai S72 54 0 (4 : Int32).toNatClampNeg)) (fun (S75 : AS) => ax_let (ax_sfi S75 12 0 30 ((ax_fi S75 12 0 30) + (1 : Int32))) (fun (S76 : AS) => some (((ax_fi S76 12 0 30) - (1 : Int32)), S76))))))) 32 ax_F 0 (ax_sfi T 12 0 6 0) e30 (by omega) (by show _ < 1000000; omega)
  rw [← sn_0] at y1
  have k17 : ax_fi (ax_sfi S 10 0 1 0) 11 0 17 = nI c := p1
  have yf : ax_fi Y 12 0 30 = nI c := by rw [y3]; exact e30
  have y54 : ax_ai Y 54 0 4 = nI k2 := by rw [y2 54 0 (by omega)]; exact h54
  have yg : ax_fi (ax_sai Y 54 0 c (nI k2)) 12 0 30 = nI c := yf
  have m1' : nI (c + 1) - 1 = nI c := by rw [sn_1, pk_sub (by omega), Nat.add_sub_cancel]
  have i4 : ax_in (4 : Int32) 5 = true := by decide
  have c4 : (4 : Int32).toNatClampNeg = 4 := Eq.trans rfl rfl
  rw [cut0 h240 r7.2.1, ax_bu_s, k17, nI_1, sn_let, sg, if_pos rfl, m1', sn_let, sn_let, y1, i4, sn_gd, yf, sn_in (by omega) (by omega), sn_gd, nI_clamp (n := c) (by omega), c4, y54, sn_let, yg, nI_1, sn_let, sg, if_pos rfl, m1']
  have f1 : ax_fr t2_c S (ax_sfi (ax_sfi S 10 0 1 0) 11 0 17 (nI (c + 1))) := (ax_fr_sfi (by decide)).tr (ax_fr_sfi (by decide))
  have fY : ax_fr t2_r T Y := by
    have a : ax_fr t2_r T (ax_sfi T 12 0 6 0) := ax_fr_sfi (by decide)
    refine a.tr ⟨fun k i j _ => by rw [y3], fun k i j _ => by rw [y4], fun k i j _ => by rw [y5], fun k i j _ => by rw [y6], fun k i q => y2 k i (fun z => ?_), fun k i _ => by rw [y7]⟩
    rw [z.1] at q
    exact absurd q (by decide)
  have f2 : ax_fr t2_r T (ax_sfi (ax_sai Y 54 0 c (nI k2)) 12 0 30 (nI (c + 1))) := (fY.tr (ax_fr_sai (by decide))).tr (ax_fr_sfi (by decide))
  have b53 : ∀ j, ax_ai (ax_sfi (ax_sai Y 54 0 c (nI k2)) 12 0 30 (nI (c + 1))) 53 0 j = if 32 * c ≤ j ∧ j < 32 * c + 32 then ax_ai T 53 0 (128 + (j - 32 * c)) else ax_ai T 53 0 j := fun j => by
    rw [sfa, sgo (by omega), y8]
    rfl
  have b54 : ∀ j, ax_ai (ax_sfi (ax_sai Y 54 0 c (nI k2)) 12 0 30 (nI (c + 1))) 54 0 j = if j = c then nI k2 else ax_ai T 54 0 j := fun j => by
    rw [sfa, sga, y2 54 0 (by omega)]
    rfl
  have q30 : ax_fi (ax_sfi (ax_sai Y 54 0 c (nI k2)) 12 0 30 (nI (c + 1))) 12 0 30 = nI (c + 1) := by rw [sg, if_pos rfl]
  have q6 : ax_fi (ax_sfi (ax_sai Y 54 0 c (nI k2)) 12 0 30 (nI (c + 1))) 12 0 6 = nI 0 := by
    rw [sg, if_neg (by omega), show ax_fi (ax_sai Y 54 0 c (nI k2)) 12 0 6 = ax_fi Y 12 0 6 from rfl, y3, sg, if_pos rfl]
    exact sn_0
  generalize ax_sfi (ax_sai Y 54 0 c (nI k2)) 12 0 30 (nI (c + 1)) = V at *
  refine ⟨nI c, _, V, rfl, rfl, jI_mk (c := c + 1) (L := fun k => if k = c then k2 else L k) (E := fun m => if 32 * c ≤ m ∧ m < 32 * c + 32 then E2 (m - 32 * c) else E m) (tn := 0) (tb := tb) ⟨r1, jc_H_f f1 (fun j => by simp) (by decide) (fun j => by simp) (by decide) (by decide) (by decide) r2, jz_f f1 f2 (by decide) (by decide) r3, ⟨by omega, by rw [sg, if_pos rfl], q30, fun k hk => ?_⟩, jo_f f1 f2 (by decide) (by decide) r5, jim_f f1 f2 (by decide) (fun j => by simp) (by decide) (by decide) (by decide) (by decide) (by decide) r6, ⟨by omega, ?_, q6, fun p hp => absurd hp (by omega)⟩, jwh_f f1 f2 (by decide) (by decide) r8⟩ (jr_C_f f2 (by decide) hC) (jA_g (cg1_f f1 (fun j => by simp) (fun j => by simp) (by decide) (by decide) (by decide) (by decide)) (rg1_f f2 (by decide) (by decide) (by decide)) hA)⟩
  · have s2 : ax_fi (ax_sfi (ax_sfi S 10 0 1 0) 11 0 17 (nI (c + 1))) 0 k 2 = ax_fi S 0 k 2 := f1.1 0 k 2 (by decide)
    rw [s2, b54]
    dsimp only
    by_cases q : k = c
    · subst q
      rw [if_pos rfl, if_pos rfl]
      refine ⟨g1, g2, rfl, fun i hi => ?_⟩
      obtain ⟨w1, w2, w3, w4, w5⟩ := g3 i hi
      rw [b53, b53, if_pos (by omega), if_pos (by omega), if_pos (by omega), if_pos (by omega), (by omega : 32 * k + 2 * i - 32 * k = 2 * i), (by omega : 32 * k + 2 * i + 1 - 32 * k = 2 * i + 1)]
      exact ⟨w1, w2, w3, w4, w5⟩
    · rw [if_neg q, if_neg q]
      obtain ⟨a1, a2, a3, a4⟩ := p3 k (by omega)
      refine ⟨a1, a2, a3, fun i hi => ?_⟩
      rw [b53, b53, if_neg (by omega), if_neg (by omega), if_neg (by omega), if_neg (by omega)]
      exact a4 i hi
  · rw [sg_o (by omega), sg, if_pos rfl]
    exact sn_0
end

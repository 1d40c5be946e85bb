/-! text of a house -/
def n0 (G : Nat → Nat) (vc : Nat) : Nat → Nat := fun j => if j < 12 ∧ j % 2 = 0 then (if j / 2 < vc then G (18 + 7 * (j / 2)) else 0) else if j = 21 then G 2 else 0
def h0' (G : Nat → Nat) (lc vc : Nat) : Nat → Nat := fun m => if m = 3 then lc else if m = 4 then vc else G m
section
variable {S T Z Y X : AS} {o M c cn im hI tn wh n ca hi y rt lc vc : Nat} {H N L E Q NI LI tb Lg G : Nat → Nat} {W : Option (List la_C)} {K : Nat → List la_C} {P : Nat → Nat → Nat} {p φ p' φ' : Int32}
theorem n0_t {v : Nat} (hv : v < 6) : n0 G vc (2 * v) = if v < vc then G (18 + 7 * v) else 0 := by
  unfold n0
  rw [if_pos (by omega), (by omega : 2 * v / 2 = v)]
theorem n0_o {v : Nat} : n0 G vc (2 * v + 1) = 0 ∨ 2 * v + 1 = 21 := by
  unfold n0
  by_cases q : 2 * v + 1 = 21
  · exact .inr q
  · refine .inl ?_
    rw [if_neg (by omega), if_neg q]
theorem n0_z {j : Nat} (h : ¬ (j < 12 ∧ j % 2 = 0)) (h2 : j ≠ 21) : n0 G vc j = 0 := by
  unfold n0
  rw [if_neg h, if_neg h2]
theorem n0_21 : n0 G vc 21 = G 2 := by
  unfold n0
  rw [if_neg (by omega), if_pos rfl]
theorem n0_b : jn_bits (n0 G vc) = 0 := by
  unfold jn_bits
  rw [n0_z (by omega) (by omega), n0_z (by omega) (by omega), n0_z (by omega) (by omega), n0_z (by omega) (by omega), n0_z (by omega) (by omega), n0_z (by omega) (by omega)]
theorem h0_o {m : Nat} (h : m ≠ 3) (h2 : m ≠ 4) : h0' G lc vc m = G m := by
  unfold h0'
  rw [if_neg h, if_neg h2]
theorem h0_3 : h0' G lc vc 3 = lc := if_pos rfl
theorem h0_4 : h0' G lc vc 4 = vc := by
  unfold h0'
  rw [if_neg (by omega), if_pos rfl]
theorem h0_ok (h : hg y rt lc vc G S T) (hw : hwh lc vc G) : jh_ok (h0' G lc vc) := by
  obtain ⟨h1, h2, h3, _, _, ⟨_, _, g3, _⟩, gl, gv⟩ := h
  have a0 := (g3 0 (by omega)).2
  have a1 := (g3 1 (by omega)).2
  have a2 := (g3 2 (by omega)).2
  have e0 : hi0 0 = 99 := rfl
  have e1 : hi0 1 = 9 := rfl
  have e2 : hi0 2 = 99 := rfl
  refine ⟨?_, ?_, ?_, ?_, ?_, fun l hl => ?_, fun v hv => ?_⟩
  · rw [h0_o (by omega) (by omega)]; omega
  · rw [h0_o (by omega) (by omega)]; omega
  · rw [h0_o (by omega) (by omega)]; omega
  · rw [h0_3]; exact h2
  · rw [h0_4]; exact h3
  · rw [h0_3] at hl
    have b0 := (gl l hl).2.2 0 (by omega)
    have b1 := (gl l hl).2.2 1 (by omega)
    have f0 : hi1 0 = 9 := rfl
    have f1 : hi1 1 = 9 := rfl
    rw [h0_o (by omega) (by omega), h0_o (by omega) (by omega), (by omega : 9 + 2 * l = 8 + 2 * l + 1)]
    rw [Nat.add_zero] at b0
    omega
  · rw [h0_4] at hv
    have b0 := (gv v hv).2.2 0 (by omega)
    have b1 := (gv v hv).2.2 1 (by omega)
    have b2 := (gv v hv).2.2 2 (by omega)
    have b3 := (gv v hv).2.2 3 (by omega)
    have b4 := (gv v hv).2.2 4 (by omega)
    have b6 := (gv v hv).2.2 6 (by omega)
    have w5 := hw.2.2 v hv
    have f0 : hi2 0 = 9 ∧ lo2 0 = 1 := ⟨rfl, rfl⟩
    have f1 : hi2 1 = 5 := rfl
    have f2 : hi2 2 = 3 := rfl
    have f3 : hi2 3 = 30 ∧ lo2 3 = 1 := ⟨rfl, rfl⟩
    have f4 : hi2 4 = 9 := rfl
    have f6 : hi2 6 = 99 := rfl
    rw [h0_3, h0_o (by omega) (by omega), h0_o (by omega) (by omega), h0_o (by omega) (by omega), h0_o (by omega) (by omega), h0_o (by omega) (by omega), h0_o (by omega) (by omega), h0_o (by omega) (by omega), (by omega : 17 + 7 * v = 16 + 7 * v + 1), (by omega : 18 + 7 * v = 16 + 7 * v + 2), (by omega : 19 + 7 * v = 16 + 7 * v + 3), (by omega : 20 + 7 * v = 16 + 7 * v + 4), (by omega : 22 + 7 * v = 16 + 7 * v + 6)]
    rw [Nat.add_zero] at b0
    omega
theorem n0_ok (h : hg y rt lc vc G S T) : jn_ok (h0' G lc vc) (n0 G vc) := by
  obtain ⟨h1, h2, h3, _, _, ⟨_, _, g3, _⟩, gl, gv⟩ := h
  have a2 := (g3 2 (by omega)).2
  have e2 : hi0 2 = 99 := rfl
  have od : ∀ v, v < 6 → n0 G vc (2 * v + 1) = 0 := fun v hv => n0_z (by omega) (by omega)
  have tt : ∀ v, v < 6 → n0 G vc (2 * v) ≤ 3 := fun v hv => by
    rw [n0_t hv]
    by_cases q : v < vc
    · have b2 := (gv v q).2.2 2 (by omega)
      have f2 : hi2 2 = 3 := rfl
      rw [if_pos q, (by omega : 18 + 7 * v = 16 + 7 * v + 2)]
      omega
    · rw [if_neg q]; omega
  refine ⟨fun v hv => ⟨tt v hv, ?_⟩, fun v hv hh => ⟨?_, od v hv⟩, fun l hl => ?_, fun l hl _ => n0_z (by omega) (by omega), ?_, ?_, ?_, ?_, ?_, ?_, ?_⟩
  · rw [od v hv]; omega
  · rw [h0_4] at hh
    rw [n0_t hv, if_neg (by omega)]
  · rw [n0_z (by omega) (by omega)]; omega
  · rw [n0_z (by omega) (by omega)]; omega
  · rw [n0_z (j := 17) (by omega) (by omega)]; omega
  · rw [n0_z (by omega) (by omega)]; omega
  · rw [n0_z (by omega) (by omega)]; omega
  · rw [n0_z (j := 20) (by omega) (by omega)]; omega
  · rw [n0_21]; omega
  · rw [n0_z (by omega) (by omega)]; omega
/-! the given code -/
theorem tr2 (h5 : ax_fi S 4 y 5 = nI vc) (h3 : vc ≤ 6) (gv : ∀ v, v < vc → ith 29 y (7 * v) 7 S (fun w => G (16 + 7 * v + w))) {v : Nat} (hv : v < 6) : f_X4_traitOf y (nI v) 2 S = some (nI (if v < vc then G (18 + 7 * v) else 0)) := by
  unfold f_X4_traitOf
  rw [sn_let, if_neg (nI_pos (by omega)), h5]
  by_cases q : v < vc
  · have g2 : ax_ai S 29 y (7 * v + 2) = nI (G (16 + 7 * v + 2)) := gv v q 2 (by omega)
    have ix : nI v * (7 : Int32) + 2 = nI (7 * v + 2) := by rw [sn_7, sn_2, pk_mul, nI_add, Nat.mul_comm]
    rw [if_neg (fun z => absurd ((nI_leI (by omega) (by omega)).mp z) (by omega)), if_neg (by decide), if_neg (by decide)]
    dsimp only
    rw [if_neg ne10, ix, sn_in (by omega) (by omega), sn_gd, nI_clamp (n := 7 * v + 2) (by omega), g2, if_pos q, (by omega : 16 + 7 * v + 2 = 18 + 7 * v)]
  · rw [if_pos ((nI_leI (by omega) (by omega)).mpr (by omega)), if_neg q]
    dsimp only
    rw [if_pos rfl]
    rfl
theorem si_L {Kc : AS → Option AS} : ∀ d m p S, ax_fi S 4 y 5 = nI vc → vc ≤ 6 → (∀ v, v < vc → ith 29 y (7 * v) 7 S (fun w => G (16 + 7 * v + w))) → p + d = 6 → d < m → ∃ Z, f_X9_startIn_L29 Kc m 0 y (nI p) S = Kc Z ∧ jc_st S Z 0 ∧ ax_fi Z = ax_fi S ∧ ax_ai Z 38 0 = ax_ai S 38 0 ∧ ∀ v, ax_ai Z 39 0 v = if p ≤ v ∧ v < 6 then nI (if v < vc then G (18 + 7 * v) else 0) else ax_ai S 39 0 v
  | 0, m + 1, p, S, _, _, _, hp, _ => by
    obtain rfl : p = 6 := by omega
    rw [f_X9_startIn_L29, if_pos (by decide)]
    exact ⟨S, rfl, jc_st.rf, rfl, rfl, fun v => by rw [if_neg (by omega)]⟩
  | d + 1, m + 1, p, S, h5, h3, gv, hp, hm => by
    have c6 : ((6 : Int32) ≤ nI p) ↔ 6 ≤ p := nI_leI (a := 6) (by omega) (by omega)
    obtain ⟨Z, z1, z2, z3, z4, z5⟩ := si_L (Kc := Kc) d m (p + 1) (ax_sai S 39 0 p (nI (if p < vc then G (18 + 7 * p) else 0))) h5 h3 (fun v hv w hw => by
      rw [sgo (by omega)]
      exact gv v hv w hw) (by omega) (by omega)
    refine ⟨Z, ?_, (jc_st.ai (.inr rfl)).tr z2, z3, z4.trans (sgo (by omega)), fun v => ?_⟩
    · rw [f_X9_startIn_L29, if_neg (fun z => absurd (c6.mp z) (by omega)), tr2 h5 h3 gv (by omega), sn_bs, sn_in (by omega) (by omega), sn_gd, nI_clamp (n := p) (by omega), sn_let, sn_let, nI_1]
      exact z1
    · rw [z5, sga]
      by_cases q : v = p
      · rw [if_neg (show ¬ (p + 1 ≤ v ∧ v < 6) by omega), if_pos q, if_pos (show p ≤ v ∧ v < 6 by omega), q]
      · by_cases q2 : p + 1 ≤ v ∧ v < 6
        · rw [if_pos q2, if_pos (show p ≤ v ∧ v < 6 by omega)]
        · rw [if_neg q2, if_neg q, if_neg (show ¬ (p ≤ v ∧ v < 6) by omega)]
theorem si_all (h5 : ax_fi S 4 y 5 = nI vc) (h3 : vc ≤ 6) (gv : ∀ v, v < vc → ith 29 y (7 * v) 7 S (fun w => G (16 + 7 * v + w))) (h27 : ax_ai S 27 y 2 = nI (G 2)) : ∃ Z, f_X9_startIn 0 y S = some Z ∧ jc_S Z 0 (n0 G vc) ∧ jc_st S Z 0 := by
  unfold f_X9_startIn
  rw [jc_sday, sn_bs]
  generalize hU : ax_sai (ax_sai (ax_sai (ax_sai (ax_sfi (ax_sfi (ax_sfi (ax_sfi S 9 0 0 0) 9 0 1 0) 9 0 2 0) 9 0 3 0) 38 0 0 0) 38 0 1 0) 38 0 2 0) 38 0 3 0 = U
  have uS : jc_st S U 0 := by
    rw [← hU]
    exact (((((((jc_st.fi.tr jc_st.fi).tr jc_st.fi).tr jc_st.fi).tr (jc_st.ai (.inl rfl))).tr (jc_st.ai (.inl rfl))).tr (jc_st.ai (.inl rfl))).tr (jc_st.ai (.inl rfl)))
  have u38 : ∀ l, l < 4 → ax_ai U 38 0 l = nI 0 := fun l hl => by
    rw [← hU, sga, sga, sga, sga]
    rcases (by omega : l = 0 ∨ l = 1 ∨ l = 2 ∨ l = 3) with rfl | rfl | rfl | rfl
    all_goals rfl
  have uf : ∀ j, j < 4 → ax_fi U 9 0 j = nI 0 := fun j hj => by
    rw [← hU]
    show ax_fi (ax_sfi (ax_sfi (ax_sfi (ax_sfi S 9 0 0 0) 9 0 1 0) 9 0 2 0) 9 0 3 0) 9 0 j = nI 0
    rw [sg, sg, sg, sg]
    rcases (by omega : j = 0 ∨ j = 1 ∨ j = 2 ∨ j = 3) with rfl | rfl | rfl | rfl
    all_goals rfl
  have ec : f_X4_coins y (ax_sfi (ax_sfi U 9 0 4 0) 9 0 5 0) = some (nI (G 2)) := by
    have i2 : ax_in (2 : Int32) 3 = true := by decide
    have c2 : (2 : Int32).toNatClampNeg = 2 := Eq.trans rfl rfl
    have a27 : ax_ai (ax_sfi (ax_sfi U 9 0 4 0) 9 0 5 0) 27 y 2 = nI (G 2) := by
      rw [sfa, sfa, uS.2.2.2.2.1 27 y (by omega) (by omega) (by omega)]
      exact h27
    unfold f_X4_coins
    rw [i2, sn_gd, c2, a27]
  rw [sn_let, sn_let, ec, sn_bs, sn_let, sn_let]
  generalize hV : ax_sfi (ax_sfi (ax_sfi (ax_sfi U 9 0 4 0) 9 0 5 0) 9 0 6 (nI (G 2))) 9 0 7 0 = V
  have vS : jc_st S V 0 := by
    rw [← hV]
    exact (((uS.tr jc_st.fi).tr jc_st.fi).tr jc_st.fi).tr jc_st.fi
  have va : ax_ai V = ax_ai U := by rw [← hV]; rfl
  have vf : ∀ j, ax_fi V 9 0 j = if j = 7 then 0 else if j = 6 then nI (G 2) else if j = 5 then 0 else if j = 4 then 0 else ax_fi U 9 0 j := fun j => by
    rw [← hV, sg, sg, sg, sg]
  obtain ⟨Z, z1, z2, z3, z4, z5⟩ := si_L (y := y) (vc := vc) (G := G) (Kc := fun (S24 : AS) => some S24) 6 ax_F 0 V ((vS.1 4 y 5 (by omega) (by omega)).trans h5) h3 (fun v hv w hw => by
    rw [vS.2.2.2.2.1 29 y (by omega) (by omega) (by omega)]
    exact gv v hv w hw) (by omega) (by show _ < 1000000; omega)
  rw [← sn_0] at z1
  refine ⟨Z, z1, ⟨?_, ?_, ?_, ?_, ?_, ?_, ?_, ?_, fun l hl => ?_, fun v hv => ?_⟩, vS.tr z2⟩
  · rw [z3, vf, if_neg (by omega), if_neg (by omega), if_neg (by omega), if_neg (by omega), uf 0 (by omega), n0_z (by omega) (by omega)]
  · rw [z3, vf, if_neg (by omega), if_neg (by omega), if_neg (by omega), if_neg (by omega), uf 1 (by omega), n0_b]
  · rw [z3, vf, if_neg (by omega), if_neg (by omega), if_neg (by omega), if_neg (by omega), uf 2 (by omega), n0_z (by omega) (by omega)]
  · rw [z3, vf, if_neg (by omega), if_neg (by omega), if_neg (by omega), if_neg (by omega), uf 3 (by omega), n0_z (by omega) (by omega)]
  · rw [z3, vf, if_neg (by omega), if_neg (by omega), if_neg (by omega), if_pos rfl, n0_z (by omega) (by omega)]; rfl
  · rw [z3, vf, if_neg (by omega), if_neg (by omega), if_pos rfl, n0_z (by omega) (by omega)]; rfl
  · rw [z3, vf, if_neg (by omega), if_pos rfl, n0_21]
  · rw [z3, vf, if_pos rfl, n0_z (by omega) (by omega)]; rfl
  · rw [z4, va, u38 l hl, n0_z (by omega) (by omega)]
  · rw [z5, if_pos ⟨by omega, hv⟩, n0_t hv]
/-! the reference: rows are copied -/
theorem t_L223 {Kr : AS → Option (Int32 × AS)} : ∀ d m p (g : Nat → Int32), p + d = 3 → d < m → f_X12_text_L223 Kr m (nI p) (rw_st T 47 g) = Kr (rw_st T 47 (fun q => if p ≤ q ∧ q < 3 then ax_ai T 48 0 q else g q))
  | 0, m + 1, p, g, hp, _ => by
    obtain rfl : p = 3 := by omega
    have e : (fun q => if 3 ≤ q ∧ q < 3 then ax_ai T 48 0 q else g q) = g := by funext q; rw [if_neg (by omega)]
    rw [f_X12_text_L223, if_pos (by decide), e]
  | d + 1, m + 1, p, g, hp, hn => by
    have c : ((3 : Int32) ≤ nI p) ↔ 3 ≤ p := nI_leI (a := 3) (by omega) (by omega)
    rw [f_X12_text_L223, if_neg (fun z => absurd (c.mp z) (by omega)), sn_in (by omega) (by omega), sn_gd, sn_gd, sn_let, nI_clamp (n := p) (by omega), rw_o (by omega), rw_s, sn_let, nI_1, t_L223 d m (p + 1) _ (by omega) (by omega)]
    congr 2
    funext q
    by_cases h : q = p
    · rw [if_neg (by omega), if_pos h, if_pos (by omega), h]
    · by_cases h2 : p + 1 ≤ q ∧ q < 3
      · rw [if_pos h2, if_pos (by omega)]
      · rw [if_neg h2, if_neg h, if_neg (by omega)]
theorem u_L223 {Kr : AS → Option (Int32 × AS)} : ∃ Y, f_X12_text_L223 Kr ax_F 0 T = Kr Y ∧ ax_fr [(4, 47, 0)] T Y ∧ ∀ j, j < 3 → ax_ai Y 47 0 j = ax_ai T 48 0 j := by
  have w := t_L223 (T := T) (Kr := Kr) 3 ax_F 0 (ax_ai T 47 0) (by omega) (by show _ < 1000000; omega)
  rw [← sn_0, rw_e] at w
  refine ⟨_, w, ⟨fun _ _ _ _ => rfl, fun _ _ _ _ => rfl, fun _ _ _ _ => rfl, fun _ _ _ _ => rfl, fun k i q => ?_, fun _ _ _ => rfl⟩, fun j hj => ?_⟩
  · have : k ≠ 47 := fun e => by rw [e] at q; exact absurd q (by decide)
    funext m
    simp [ax_ai, rw_st, this]
  · rw [rw_g, if_pos ⟨by omega, hj⟩]
theorem t_L248 {Kr : AS → Option (Int32 × AS)} : ∀ d m p (g : Nat → Int32), p + d = 8 → d < m → f_X12_text_L248 Kr m (nI p) (rw_st T 49 g) = Kr (rw_st T 49 (fun q => if p ≤ q ∧ q < 8 then ax_ai T 50 0 q else g q))
  | 0, m + 1, p, g, hp, _ => by
    obtain rfl : p = 8 := by omega
    have e : (fun q => if 8 ≤ q ∧ q < 8 then ax_ai T 50 0 q else g q) = g := by funext q; rw [if_neg (by omega)]
    rw [f_X12_text_L248, if_pos (by decide), e]
  | d + 1, m + 1, p, g, hp, hn => by
    have c : ((8 : Int32) ≤ nI p) ↔ 8 ≤ p := nI_leI (a := 8) (by omega) (by omega)
    rw [f_X12_text_L248, if_neg (fun z => absurd (c.mp z) (by omega)), sn_in (by omega) (by omega), sn_gd, sn_gd, sn_let, nI_clamp (n := p) (by omega), rw_o (by omega), rw_s, sn_let, nI_1, t_L248 d m (p + 1) _ (by omega) (by omega)]
    congr 2
    funext q
    by_cases h : q = p
    · rw [if_neg (by omega), if_pos h, if_pos (by omega), h]
    · by_cases h2 : p + 1 ≤ q ∧ q < 8
      · rw [if_pos h2, if_pos (by omega)]
      · rw [if_neg h2, if_neg h, if_neg (by omega)]
theorem u_L248 {Kr : AS → Option (Int32 × AS)} : ∃ Y, f_X12_text_L248 Kr ax_F 0 T = Kr Y ∧ ax_fr [(4, 49, 0)] T Y ∧ ∀ j, j < 8 → ax_ai Y 49 0 j = ax_ai T 50 0 j := by
  have w := t_L248 (T := T) (Kr := Kr) 8 ax_F 0 (ax_ai T 49 0) (by omega) (by show _ < 1000000; omega)
  rw [← sn_0, rw_e] at w
  refine ⟨_, w, ⟨fun _ _ _ _ => rfl, fun _ _ _ _ => rfl, fun _ _ _ _ => rfl, fun _ _ _ _ => rfl, fun k i q => ?_, fun _ _ _ => rfl⟩, fun j hj => ?_⟩
  · have : k ≠ 49 := fun e => by rw [e] at q; exact absurd q (by decide)
    funext m
    simp [ax_ai, rw_st, this]
  · rw [rw_g, if_pos ⟨by omega, hj⟩]
theorem t_L274 {Kr : AS → Option (Int32 × AS)} : ∀ d m p (g : Nat → Int32), p + d = 42 → d < m → f_X12_text_L274 Kr m (nI p) (rw_st T 51 g) = Kr (rw_st T 51 (fun q => if p ≤ q ∧ q < 42 then ax_ai T 52 0 q else g q))
  | 0, m + 1, p, g, hp, _ => by
    obtain rfl : p = 42 := by omega
    have e : (fun q => if 42 ≤ q ∧ q < 42 then ax_ai T 52 0 q else g q) = g := by funext q; rw [if_neg (by omega)]
    rw [f_X12_text_L274, if_pos (by decide), e]
  | d + 1, m + 1, p, g, hp, hn => by
    have c : ((42 : Int32) ≤ nI p) ↔ 42 ≤ p := nI_leI (a := 42) (by omega) (by omega)
    rw [f_X12_text_L274, if_neg (fun z => absurd (c.mp z) (by omega)), sn_in (by omega) (by omega), sn_gd, sn_gd, sn_let, nI_clamp (n := p) (by omega), rw_o (by omega), rw_s, sn_let, nI_1, t_L274 d m (p + 1) _ (by omega) (by omega)]
    congr 2
    funext q
    by_cases h : q = p
    · rw [if_neg (by omega), if_pos h, if_pos (by omega), h]
    · by_cases h2 : p + 1 ≤ q ∧ q < 42
      · rw [if_pos h2, if_pos (by omega)]
      · rw [if_neg h2, if_neg h, if_neg (by omega)]
theorem u_L274 {Kr : AS → Option (Int32 × AS)} : ∃ Y, f_X12_text_L274 Kr ax_F 0 T = Kr Y ∧ ax_fr [(4, 51, 0)] T Y ∧ ∀ j, j < 42 → ax_ai Y 51 0 j = ax_ai T 52 0 j := by
  have w := t_L274 (T := T) (Kr := Kr) 42 ax_F 0 (ax_ai T 51 0) (by omega) (by show _ < 1000000; omega)
  rw [← sn_0, rw_e] at w
  refine ⟨_, w, ⟨fun _ _ _ _ => rfl, fun _ _ _ _ => rfl, fun _ _ _ _ => rfl, fun _ _ _ _ => rfl, fun k i q => ?_, fun _ _ _ => rfl⟩, fun j hj => ?_⟩
  · have : k ≠ 51 := fun e => by rw [e] at q; exact absurd q (by decide)
    funext m
    simp [ax_ai, rw_st, this]
  · rw [rw_g, if_pos ⟨by omega, hj⟩]
theorem t_L300 {Kr : AS → Option (Int32 × AS)} : ∀ d m p (g : Nat → Int32), p + d = 204 → d < m → f_X12_text_L300 Kr m (nI p) (rw_st T 55 g) = Kr (rw_st T 55 (fun q => if p ≤ q ∧ q < 204 then 0 else g q))
  | 0, m + 1, p, g, hp, _ => by
    obtain rfl : p = 204 := by omega
    have e : (fun q => if 204 ≤ q ∧ q < 204 then (0 : Int32) else g q) = g := by funext q; rw [if_neg (by omega)]
    rw [f_X12_text_L300, if_pos (by decide), e]
  | d + 1, m + 1, p, g, hp, hn => by
    have c : ((204 : Int32) ≤ nI p) ↔ 204 ≤ p := nI_leI (a := 204) (by omega) (by omega)
    rw [f_X12_text_L300, if_neg (fun z => absurd (c.mp z) (by omega)), sn_in (by omega) (by omega), sn_gd, sn_let, nI_clamp (n := p) (by omega), rw_s, sn_let, nI_1, t_L300 d m (p + 1) _ (by omega) (by omega)]
    congr 2
    funext q
    by_cases h : q = p
    · rw [if_neg (by omega), if_pos h, if_pos (by omega)]
    · by_cases h2 : p + 1 ≤ q ∧ q < 204
      · rw [if_pos h2, if_pos (by omega)]
      · rw [if_neg h2, if_neg h, if_neg (by omega)]
theorem u_L300 {Kr : AS → Option (Int32 × AS)} : ∃ Y, f_X12_text_L300 Kr ax_F 0 T = Kr Y ∧ ax_fr [(4, 55, 0)] T Y ∧ ∀ j, j < 204 → ax_ai Y 55 0 j = 0 := by
  have w := t_L300 (T := T) (Kr := Kr) 204 ax_F 0 (ax_ai T 55 0) (by omega) (by show _ < 1000000; omega)
  rw [← sn_0, rw_e] at w
  refine ⟨_, w, ⟨fun _ _ _ _ => rfl, fun _ _ _ _ => rfl, fun _ _ _ _ => rfl, fun _ _ _ _ => rfl, fun k i q => ?_, fun _ _ _ => rfl⟩, fun j hj => ?_⟩
  · have : k ≠ 55 := fun e => by rw [e] at q; exact absurd q (by decide)
    funext m
    simp [ax_ai, rw_st, this]
  · rw [rw_g, if_pos ⟨by omega, hj⟩]
theorem u_L322 {Kr : AS → Option (Int32 × AS)} (h3 : vc ≤ 6) : ∀ d m p T, ax_fi T 12 0 27 = nI vc → p + d = vc → d < m → ∃ Y, f_X12_text_L322 Kr m (nI p) T = Kr Y ∧ ax_fr [(4, 55, 0)] T Y ∧ ∀ j, ax_ai Y 55 0 j = if 2 * p ≤ j ∧ j < 2 * vc ∧ j % 2 = 0 then ax_ai T 51 0 (7 * (j / 2) + 2) else ax_ai T 55 0 j
  | 0, m + 1, p, T, h, hp, _ => by
    obtain rfl : p = vc := by omega
    rw [f_X12_text_L322, h, if_pos (Int32.le_refl _)]
    exact ⟨T, rfl, ax_fr.rf, fun j => by rw [if_neg (by omega)]⟩
  | d + 1, m + 1, p, T, h, hp, hm => by
    have ix : (7 : Int32) * nI p + 2 = nI (7 * p + 2) := by rw [sn_7, sn_2, pk_mul, nI_add]
    obtain ⟨Y, y1, y2, y3⟩ := u_L322 (Kr := Kr) h3 d m (p + 1) (ax_sai T 55 0 (2 * p) (ax_ai T 51 0 (7 * p + 2))) h (by omega) (by omega)
    refine ⟨Y, ?_, (ax_fr_sai (by decide)).tr y2, fun j => ?_⟩
    · rw [f_X12_text_L322, h, if_neg (fun z => absurd ((nI_leI (by omega) (by omega)).mp z) (by omega)), ix, ix_e, sn_in (by omega) (by omega), sn_gd, sn_in (by omega) (by omega), sn_gd, nI_clamp (n := 2 * p) (by omega), nI_clamp (n := 7 * p + 2) (by omega), sn_let, sn_let, nI_1]
      exact y1
    · rw [y3, sga, sgo (by omega)]
      by_cases q : j = 2 * p
      · rw [if_neg (by omega), if_pos q, if_pos (by omega), (by omega : 7 * (j / 2) + 2 = 7 * p + 2)]
      · by_cases q2 : 2 * (p + 1) ≤ j ∧ j < 2 * vc ∧ j % 2 = 0
        · rw [if_pos q2, if_pos (by omega)]
        · rw [if_neg q2, if_neg q, if_neg (by omega)]
end

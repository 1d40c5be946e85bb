/-! QUERIES: run -/
def dg (x : Nat) : Int32 := if x = 0 then Int32.ofInt (-1) else nI (x - 1)
def jp (S T : AS) (c : Nat) (L E : Nat → Nat) : Prop := c ≤ 4 ∧ ax_fi S 11 0 17 = nI c ∧ ax_fi T 12 0 30 = nI c ∧ ∀ k, k < c → L k ≤ 16 ∧ ax_fi S 0 k 2 = nI (L k) ∧ ax_ai T 54 0 k = nI (L k) ∧ ∀ i, i < L k → E (32 * k + 2 * i) ≤ 4 ∧ ax_ai S 20 k i = nI (E (32 * k + 2 * i)) ∧ ax_ai S 21 k i = dg (E (32 * k + 2 * i + 1)) ∧ ax_ai T 53 0 (32 * k + 2 * i) = nI (E (32 * k + 2 * i)) ∧ ax_ai T 53 0 (32 * k + 2 * i + 1) = dg (E (32 * k + 2 * i + 1))
section
variable {S T S1 T1 : AS} {o : Nat} {H N : Nat → Nat} {W : Option (List la_C)} {M : Nat} {K : Nat → List la_C} {c : Nat} {L E : Nat → Nat}
theorem jp_st (h : jp S T c L E) {i R : Nat} (hR : R = 55 ∨ R = 56) (hs : jc_st S S1 i) (ht : jr_st T T1 R) : jp S1 T1 c L E := by
  obtain ⟨a, b, d, e⟩ := h
  refine ⟨a, ?_, ?_, fun k hk => ?_⟩
  · rw [hs.1 11 0 17 (by omega) (by omega)]; exact b
  · rw [ht.1 12 0 30 (by omega)]; exact d
  · rw [hs.1 0 k 2 (by omega) (by omega), ht.2.2.2.2.1 54 0 (by omega) (by omega) (by omega), hs.2.2.2.2.1 20 k (by omega) (by omega) (by omega), hs.2.2.2.2.1 21 k (by omega) (by omega) (by omega), ht.2.2.2.2.1 53 0 (by omega) (by omega) (by omega)]
    exact e k hk
/-- states 1 and row 56 stand alike -/
def ju (i R : Nat) (o : Nat) (H N : Nat → Nat) (W : Option (List la_C)) (M : Nat) (K : Nat → List la_C) (S T : AS) : Prop := jh_ok H ∧ jn_ok H N ∧ jc_C S o H W ∧ jc_S S i N ∧ jr_C T H M K W ∧ jr_S (ax_ai T R 0) N
theorem pl_kind (h : jp S T c L E) {k i : Nat} (hk : k < c) (hi : i < L k) : f_X0_kindOf k (nI i) S = some (nI (E (32 * k + 2 * i))) ∧ f_X0_digitOf k (nI i) S = some (dg (E (32 * k + 2 * i + 1))) := by
  obtain ⟨l1, l2, l3, l4⟩ := h.2.2.2 k hk
  obtain ⟨e0, e1, e2, e3, e4⟩ := l4 i hi
  unfold f_X0_kindOf f_X0_digitOf
  rw [l2, if_neg (nI_pos (by omega)), if_neg (nI_pos (by omega)), if_neg (fun z => absurd ((nI_leI (by omega) (by omega)).mp z) (by omega)), if_neg (fun z => absurd ((nI_leI (by omega) (by omega)).mp z) (by omega)), sn_in (by omega) (by omega), sn_gd, sn_gd, nI_clamp (by omega), e1, e2]
  exact ⟨rfl, rfl⟩
theorem jc_may_st {i : Nat} (h : ax_fr jc_scr S S1) : jc_st S S1 i := jc_st.fr h
theorem q_runL {k : Nat} (hk : k < c) (h0 : 0 < H 4) {Kc : Int32 → Nat → Int32 → AS → Option (Int32 × AS)} {Kr : Int32 → Int32 → Int32 → AS → Option (Int32 × AS)} {b : Int32} : ∀ d n p g N S T, ju 1 56 o H N W M K S T → jp S T c L E → ax_ai T 56 0 23 = nI g → g ≤ p → p + d = L k → d < n → ∃ q N' Z Y, q ≤ L k ∧ f_X11_run_L49 Kc n b k (nI p) S = Kc b k (nI q) Z ∧ f_X12_run_L47 Kr n (nI k) b (nI p) T = Kr (nI k) b (nI q) Y ∧ jc_st S Z 1 ∧ jr_st T Y 56 ∧ ju 1 56 o H N' W M K Z Y ∧ jp Z Y c L E
  | 0, n + 1, p, g, N, S, T, h, hp, h23, hg, hd, _ => by
    obtain ⟨l1, l2, l3, l4⟩ := hp.2.2.2 k hk
    have hc := hp.1
    rw [f_X11_run_L49, f_X12_run_L47, l2, sn_in (by omega) (by omega), sn_gd, nI_clamp (by omega), l3, if_pos ((nI_leI (by omega) (by omega)).mpr (by omega)), if_pos ((nI_leI (by omega) (by omega)).mpr (by omega))]
    exact ⟨p, N, S, T, by omega, rfl, rfl, jc_st.rf, jr_st.rf, h, hp⟩
  | d + 1, n + 1, p, g, N, S, T, h, hp, h23, hg, hd, hn => by
    obtain ⟨l1, l2, l3, l4⟩ := hp.2.2.2 k hk
    have hc := hp.1
    obtain ⟨ho, hN, hC, hS, hR, hT⟩ := h
    obtain ⟨e0, e1, e2, e3, e4⟩ := l4 p (by omega)
    obtain ⟨r, Z, z1, z2, z3⟩ := jc_may ho hN hC hS h0 (E (32 * k + 2 * p)) (by omega) (dg (E (32 * k + 2 * p + 1)))
    have qZ : jc_st S Z 1 := jc_st.fr z2
    obtain ⟨r', Y, y1, y2, y3, y4⟩ := jr_cst56 ho hN hR hT (r := 32 * k + 2 * p) (by omega) e0 e3 e4
    have qY : jr_st T Y 56 := jr_st.fr y2
    have hp2 : jp Z Y c L E := jp_st hp (.inr rfl) qZ qY
    have ix : (2 : Int32) * ((16 : Int32) * nI k + nI p) = nI (32 * k + 2 * p) := by rw [sn_2, sn_16, pk_mul, nI_add, pk_mul, (by omega : 2 * (16 * k + p) = 32 * k + 2 * p)]
    have f56 : ax_ai Y 56 0 = ax_ai T 56 0 := y2.2.2.2.2.1 56 0 (by decide)
    rw [f_X11_run_L49, f_X12_run_L47, l2, sn_in (by omega) (by omega), sn_gd, nI_clamp (by omega), l3, if_neg (fun z => absurd ((nI_leI (by omega) (by omega)).mp z) (by omega)), if_neg (fun z => absurd ((nI_leI (by omega) (by omega)).mp z) (by omega)), (pl_kind hp hk (i := p) (by omega)).1, sn_bs, (pl_kind hp hk (i := p) (by omega)).2, sn_bs, z1, ax_bu_s, ix, y1, ax_bu_s]
    by_cases hm : cn_may H W N (E (32 * k + 2 * p)) (dg (E (32 * k + 2 * p + 1)))
    · have er : r = 1 := by
        rcases z3 with ⟨_, x⟩ | ⟨x, _⟩
        · exact x
        · exact absurd hm x
      have er' : r' = 1 := by
        rcases y4 with ⟨_, x⟩ | ⟨x, _⟩
        · exact x
        · exact absurd hm x
      have hS2 := jc_S_fr z2 hS
      have hC2 := jc_C_fr z2 hC
      have hT2 : jr_S (ax_ai Y 56 0) N := by rw [f56]; exact hT
      obtain ⟨Z', a1, a2, a3⟩ := jc_do ho hN hC2 hS2 hm
      obtain ⟨u1, u2, u3, u4⟩ := hp2.2.2.2 k hk
      obtain ⟨v0, v1, v2, v3, v4⟩ := u4 p (by omega)
      obtain ⟨Y', b1, b2, b3, b4⟩ := jr_gst56 ho hN y3 hT2 (g := g) (by omega) (by rw [f56]; exact h23) (r := 32 * k + 2 * p) (by omega) e0 v3 v4 hm
      have hp3 : jp Z' Y' c L E := jp_st hp2 (.inr rfl) a3 b3
      have g23 : ∃ g', ax_ai Y' 56 0 23 = nI g' ∧ g' ≤ p + 1 := by
        by_cases q4 : E (32 * k + 2 * p) = 4
        · have w := b2.2.2 q4 g (by omega) (by rw [f56]; exact h23)
          refine ⟨min g 59 + 1, ?_, by omega⟩
          rw [w]
          unfold gd_1
          rw [if_neg (by omega), if_pos rfl]
        · refine ⟨g, ?_, by omega⟩
          rw [b2.2.1 q4 23 (by omega), f56]; exact h23
      obtain ⟨g', g1, g2⟩ := g23
      rw [er, if_neg ne10, er', if_neg ne10, (pl_kind hp2 hk (i := p) (by omega)).1, sn_bs, (pl_kind hp2 hk (i := p) (by omega)).2, sn_bs, a1, sn_bs, sn_let, nI_1, b1, sn_bs, sn_let]
      obtain ⟨q, N', Z2, Y2, w0, w1, w2, w3, w4, w5, w6⟩ := q_runL (Kc := Kc) (Kr := Kr) (b := b) hk h0 d n (p + 1) g' _ Z' Y' ⟨ho, cn_ok ho hN hm, jc_C_st a3 hC2, a2, b4, b2.1⟩ hp3 g1 g2 (by omega) (by omega)
      exact ⟨q, N', Z2, Y2, w0, w1, w2, (qZ.tr a3).tr w3, (qY.tr b3).tr w4, w5, w6⟩
    · have er : r = 0 := by
        rcases z3 with ⟨x, _⟩ | ⟨_, x⟩
        · exact absurd x hm
        · exact x
      have er' : r' = 0 := by
        rcases y4 with ⟨x, _⟩ | ⟨_, x⟩
        · exact absurd x hm
        · exact x
      rw [er, if_pos rfl, er', if_pos rfl]
      exact ⟨p, N, Z, Y, by omega, rfl, rfl, qZ, qY, ⟨ho, hN, jc_C_fr z2 hC, jc_S_fr z2 hS, y3, by rw [f56]; exact hT⟩, hp2⟩
end

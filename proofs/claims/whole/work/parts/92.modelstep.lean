/-! THE REFERENCE: steps -/
theorem ii {x : Int32} {a b : Int64} {S : AS} : f_X12_isIn x.toInt64 a b S = some (if a.toInt ≤ x.toInt ∧ x.toInt ≤ b.toInt then 1 else 0) := by
  unfold f_X12_isIn
  simp only [lg_cmp_lt, lg_cmp_gt, Int64.lt_iff_toInt_lt, Int32.toInt_toInt64]
  by_cases h1 : x.toInt < a.toInt
  · rw [if_pos h1, if_neg (by omega)]
  · rw [if_neg h1]
    by_cases h2 : b.toInt < x.toInt
    · rw [if_pos h2, if_neg (by omega)]
    · rw [if_neg h2, if_pos (by omega)]
theorem ii_n {x : Int32} {a b : Nat} (h1 : (a : Int) ≤ x.toInt) (h2 : x.toInt ≤ b) : ∃ n, a ≤ n ∧ n ≤ b ∧ x = nI n := by
  obtain ⟨j, hj, e⟩ := nI_of (x := x) (fun q => by have := Int32.lt_iff_toInt_lt.mp q; have e : (0 : Int32).toInt = 0 := rfl; omega)
  rw [e, nI_toInt hj] at h1 h2
  exact ⟨j, by omega, by omega, e⟩
theorem ii_m {x : Int32} {a b n : Nat} (hb : b < 2 ^ 31) (h1 : a ≤ n) (h2 : n ≤ b) (e : x = nI n) : (a : Int) ≤ x.toInt ∧ x.toInt ≤ b := by
  rw [e, nI_toInt (by omega)]; omega
section
variable {T Z Y : AS} {R : Nat} {H N : Nat → Nat} {M : Nat} {K : Nat → List la_C} {W : Option (List la_C)} {f : Nat → Int32}
theorem jr_C_rw (hR : R = 55 ∨ R = 56) (hC : jr_C T H M K W) : jr_C (rw_st T R f) H M K W := by
  have e : ∀ k a, k ≠ R → ax_ai (rw_st T R f) k a = ax_ai T k a := fun k a h => by
    funext j
    exact if_neg (fun q => h q.1)
  obtain ⟨⟨h0, h1, h2, h3, h4⟩, ⟨l0, l1⟩, hm, hl, hW⟩ := hC
  refine ⟨⟨h0, h1, ?_, ?_, ?_⟩, ⟨l0, fun k hk => ?_⟩, fun q hq => ?_, fun k hk => ?_, ?_⟩
  · rw [e 47 0 (by omega)]; exact h2
  · rw [e 49 0 (by omega)]; exact h3
  · rw [e 51 0 (by omega)]; exact h4
  · obtain ⟨b, n, a1, a2, a3, a4, a5⟩ := l1 k hk
    refine ⟨b, n, a1, ?_, ?_, a4, a5⟩
    · rw [e 45 0 (by omega)]; exact a2
    · rw [e 44 1 (by omega)]; exact a3
  · rw [e 58 0 (by omega)]; exact hm q hq
  · rw [e 46 0 (by omega)]; exact hl k hk
  · match W, hW with
    | none, hW => exact hW
    | some cs, hW => exact hW
/-- Z's row R is T's behind an act of kind k -/
def jr_nx (T Z : AS) (R : Nat) (H : Nat → Nat) (W : Option (List la_C)) (N : Nat → Nat) (k v : Nat) : Prop := jr_S (ax_ai Z R 0) (cn_do H W N k v) ∧ (k ≠ 4 → ∀ j, 23 ≤ j → ax_ai Z R 0 j = ax_ai T R 0 j) ∧ (k = 4 → ∀ g, g ≤ 60 → ax_ai T R 0 23 = nI g → ax_ai Z R 0 = gd_1 (ax_ai T R 0) N g)
/-! row 55 -/
theorem jr_canT55 (ho : jh_ok H) (hN : jn_ok H N) (hC : jr_C T H M K W) (hS : jr_S (ax_ai T 55 0) N) (x : Int32) : (cn_may H W N 1 x ∧ f_X12_canTitle_55x0 x T = some 1) ∨ (¬ cn_may H W N 1 x ∧ f_X12_canTitle_55x0 x T = some 0) := by
  have h6 : H 4 ≤ 6 := ho.2.2.2.2.1
  have h21 : N 21 ≤ 999 := hN.2.2.2.2.2.2.2.2.2.1
  have inv : cn_may H W N 1 x → ∃ v, v < H 4 ∧ x = nI v ∧ N (2 * v) < 3 ∧ 2 ≤ N 21 := fun q => by
    rcases q with ⟨q, _⟩ | ⟨_, q⟩ | q | ⟨q, _⟩ | ⟨q, _⟩ | ⟨q, _⟩ | ⟨q, _⟩
    · omega
    · exact q
    all_goals omega
  unfold f_X12_canTitle_55x0
  rcases jc_dec (H := H) x with ⟨v, hv, rfl⟩ | hx
  · have h2 := hN.1 v (by omega)
    have c3 : ((3 : Int32) ≤ nI (N (2 * v))) ↔ 3 ≤ N (2 * v) := nI_leI (a := 3) (by omega) (by omega)
    have c2 : (nI (N 21) < (2 : Int32)) ↔ N 21 < 2 := nI_ltI (b := 2) (by omega) (by omega)
    rw [jr_isC hC.1 ho hv, sn_bs, if_neg (by decide), ix_e, sn_in (by omega) (by omega), sn_gd, nI_clamp (by omega), hS _ (by omega), in_21, sn_gd, cl_21, hS 21 (by omega)]
    by_cases hc : N (2 * v) < 3 ∧ 2 ≤ N 21
    · rw [if_neg (fun q => absurd (c3.mp q) (by omega)), if_neg (fun q => absurd (c2.mp q) (by omega))]
      exact .inl ⟨.inr (.inl ⟨rfl, v, hv, rfl, hc⟩), rfl⟩
    · refine .inr ⟨fun q => ?_, ?_⟩
      · obtain ⟨w, hw, e, q⟩ := inv q
        exact hc (cn_inj ho hv hw e ▸ q)
      · by_cases h3 : 3 ≤ N (2 * v)
        · rw [if_pos (c3.mpr h3)]
        · rw [if_neg (fun q => h3 (c3.mp q)), if_pos (c2.mpr (by omega))]
  · rw [jr_isC0 hC.1 ho hx, sn_bs, if_pos rfl]
    exact .inr ⟨fun q => by obtain ⟨w, hw, e, _⟩ := inv q; exact hx w hw e, rfl⟩
theorem jr_canH55 (ho : jh_ok H) (hN : jn_ok H N) (hC : jr_C T H M K W) (hS : jr_S (ax_ai T 55 0) N) (x : Int32) : (cn_may H W N 3 x ∧ f_X12_canHold_55x0 x T = some 1) ∨ (¬ cn_may H W N 3 x ∧ f_X12_canHold_55x0 x T = some 0) := by
  have h16 : N 16 ≤ 99 := hN.2.2.2.2.1
  have h0 : H 0 ≤ 99 := ho.1
  have inv : cn_may H W N 3 x → ∃ n, 1 ≤ n ∧ n ≤ 20 ∧ x = nI n ∧ N 16 + n ≤ H 0 := fun q => by
    rcases q with ⟨q, _⟩ | ⟨q, _⟩ | q | ⟨_, q⟩ | ⟨q, _⟩ | ⟨q, _⟩ | ⟨q, _⟩
    · omega
    · omega
    · omega
    · exact q
    all_goals omega
  have l1 : (1 : Int64).toInt = ((1 : Nat) : Int) := rfl
  have l20 : (20 : Int64).toInt = ((20 : Nat) : Int) := rfl
  unfold f_X12_canHold_55x0
  rw [ii, l1, l20, sn_bs]
  by_cases hc : ((1 : Nat) : Int) ≤ x.toInt ∧ x.toInt ≤ ((20 : Nat) : Int)
  · obtain ⟨n, n1, n2, rfl⟩ := ii_n hc.1 hc.2
    rw [if_pos hc, if_neg (by decide), in_16, sn_gd, in_r0, sn_gd, cl_r0, cl_16, hC.1.2.2.1 0 (by omega), hS 16 (by omega), nI_add]
    by_cases hq : N 16 + n ≤ H 0
    · rw [if_neg (fun q => absurd ((nI_ltI (by omega) (by omega)).mp q) (by omega))]
      exact .inl ⟨.inr (.inr (.inr (.inl ⟨rfl, n, n1, n2, rfl, hq⟩))), rfl⟩
    · rw [if_pos ((nI_ltI (by omega) (by omega)).mpr (by omega))]
      refine .inr ⟨fun q => ?_, rfl⟩
      obtain ⟨m, m1, m2, e, q⟩ := inv q
      have := (nI_eq (by omega) (by omega)).mp e
      omega
  · rw [if_neg hc, if_pos rfl]
    refine .inr ⟨fun q => ?_, rfl⟩
    obtain ⟨m, m1, m2, e, q⟩ := inv q
    exact hc (ii_m (by omega) m1 m2 e)
theorem jr_ttl55 (ho : jh_ok H) (hS : jr_S (ax_ai T 55 0) N) {v : Nat} (hv : v < H 4) (h21 : 2 ≤ N 21) : ∃ Z, f_X12_titles_55x0 (nI v) T = some Z ∧ jr_nx T Z 55 H W N 1 v ∧ jr_st T Z 55 ∧ (jr_C T H M K W → jr_C Z H M K W) := by
  have h6 : H 4 ≤ 6 := ho.2.2.2.2.1
  have d : cn_do H W N 1 v = fun j => if j = 2 * v then N j + 1 else if j = 21 then N 21 - 2 else N j := by unfold cn_do; rw [if_neg (by omega), if_pos rfl]
  have a21 : ax_ai (ax_sai T 55 0 (2 * v) (nI (N (2 * v) + 1))) 55 0 21 = nI (N 21) := by rw [sga, if_neg (by omega)]; exact hS 21 (by omega)
  refine ⟨ax_sai (ax_sai T 55 0 (2 * v) (nI (N (2 * v) + 1))) 55 0 21 (nI (N 21 - 2)), ?_, ⟨?_, ?_, fun q => absurd q (by omega)⟩, jr_st.ai.tr jr_st.ai, fun hC => jr_C_row (by omega) (jr_C_row (by omega) hC)⟩
  · unfold f_X12_titles_55x0
    rw [ix_e, sn_in (by omega) (by omega), sn_gd, sn_gd, sn_let, nI_clamp (by omega), hS _ (by omega), nI_1, in_21, sn_gd, sn_gd, sn_let, cl_21, a21, sn_2, pk_sub h21]
  · intro j hj
    rw [d, sga, sga]
    dsimp only
    by_cases q : j = 21
    · rw [if_pos q, if_neg (by omega), if_pos q]
    · rw [if_neg q]
      by_cases q2 : j = 2 * v
      · rw [if_pos q2, if_pos q2, q2]
      · rw [if_neg q2, if_neg q2, if_neg q]; exact hS j hj
  · intro _ j hj
    rw [sga, sga, if_neg (by omega), if_neg (by omega)]
theorem jr_sng55 (hS : jr_S (ax_ai T 55 0) N) (h18 : N 18 ≤ 1) {v : Nat} : jr_nx T (ax_sai T 55 0 18 (nI (1 - N 18))) 55 H W N 2 v := by
  have d : cn_do H W N 2 v = fun j => if j = 18 then 1 - N 18 else N j := by unfold cn_do; rw [if_neg (by omega), if_neg (by omega), if_pos rfl]
  refine ⟨fun j hj => ?_, fun _ j hj => ?_, fun q => absurd q (by omega)⟩
  · rw [d, sga]
    dsimp only
    by_cases q : j = 18
    · rw [if_pos q, if_pos q]
    · rw [if_neg q, if_neg q]; exact hS j hj
  · rw [sga, if_neg (by omega)]
theorem jr_hld55 (hS : jr_S (ax_ai T 55 0) N) {v : Nat} : jr_nx T (ax_sai T 55 0 16 (nI (N 16 + v))) 55 H W N 3 v := by
  have d : cn_do H W N 3 v = fun j => if j = 16 then N 16 + v else N j := by unfold cn_do; rw [if_neg (by omega), if_neg (by omega), if_neg (by omega), if_pos rfl]
  refine ⟨fun j hj => ?_, fun _ j hj => ?_, fun q => absurd q (by omega)⟩
  · rw [d, sga]
    dsimp only
    by_cases q : j = 16
    · rw [if_pos q, if_pos q]
    · rw [if_neg q, if_neg q]; exact hS j hj
  · rw [sga, if_neg (by omega)]
theorem jr_day55 (hH : jr_H T H) (ho : jh_ok H) (hN : jn_ok H N) {g v : Nat} (hg : g ≤ 60) (hS : jr_S (ax_ai T 55 0) N) (h23 : ax_ai T 55 0 23 = nI g) : ∃ Z, f_X12_goDay_55x0 T = some Z ∧ jr_nx T Z 55 H W N 4 v ∧ jr_st T Z 55 ∧ (jr_C T H M K W → jr_C Z H M K W) := by
  have d : cn_do H W N 4 v = cn_day N := by unfold cn_do; rw [if_neg (by omega), if_neg (by omega), if_neg (by omega), if_neg (by omega), if_pos rfl]
  refine ⟨_, gd_55 hH ho hN hg hS h23, ⟨fun j hj => ?_, fun q => absurd rfl q, fun _ g' hg' e => ?_⟩, rw_st_st, fun hC => jr_C_rw (by omega) hC⟩
  · rw [d, rw_g]
    unfold gd_1
    rw [if_pos hj]
  · rw [h23] at e
    have e' : g = g' := (nI_eq (by omega) (by omega)).mp e
    rw [rw_g, e']
theorem jr_cst55 (ho : jh_ok H) (hN : jn_ok H N) (hC : jr_C T H M K W) (hS : jr_S (ax_ai T 55 0) N) {r k : Nat} {x : Int32} (hr : r + 1 < 160) (hk : k ≤ 4) (p0 : ax_ai T 53 0 r = nI k) (p1 : ax_ai T 53 0 (r + 1) = x) : ∃ q Z, f_X12_canStep_55x0 (nI r) T = some (q, Z) ∧ ax_fr jr_scr T Z ∧ jr_C Z H M K W ∧ ((cn_may H W N k x ∧ q = 1) ∨ (¬ cn_may H W N k x ∧ q = 0)) := by
  have h22 : N 22 ≤ 999 := hN.2.2.2.2.2.2.2.2.2.2
  unfold f_X12_canStep_55x0
  rw [nI_1, sn_in (by omega) (by omega), sn_gd, sn_let, nI_clamp (n := r + 1) (by omega), p1, sn_in (by omega) (by omega), sn_gd, sn_let, nI_clamp (n := r) (by omega), p0]
  rcases (by omega : k = 0 ∨ k = 1 ∨ k = 2 ∨ k = 3 ∨ k = 4) with rfl | rfl | rfl | rfl | rfl
  · rw [if_pos (by decide)]
    obtain ⟨q, Z, z1, z2, z3, z4⟩ := jr_can55 ho hN hC hS x
    rw [z1, ax_bu_s]
    rcases z4 with ⟨c, rfl⟩ | ⟨c, rfl⟩
    · rw [(by decide : ax_bo 1 = true), sn_gd]
      exact ⟨1, Z, rfl, z2, z3, .inl ⟨.inl ⟨rfl, c⟩, rfl⟩⟩
    · rw [(by decide : ax_bo 0 = true), sn_gd]
      refine ⟨0, Z, rfl, z2, z3, .inr ⟨fun q => ?_, rfl⟩⟩
      rcases q with ⟨_, q⟩ | ⟨q, _⟩ | q | ⟨q, _⟩ | ⟨q, _⟩ | ⟨q, _⟩ | ⟨q, _⟩
      · exact c q
      all_goals omega
  · rw [if_neg (by decide), if_pos (by decide)]
    rcases jr_canT55 ho hN hC hS x with ⟨c, e⟩ | ⟨c, e⟩
    · rw [e, sn_bs, (by decide : ax_bo 1 = true), sn_gd]
      exact ⟨1, T, rfl, ax_fr.rf, hC, .inl ⟨c, rfl⟩⟩
    · rw [e, sn_bs, (by decide : ax_bo 0 = true), sn_gd]
      exact ⟨0, T, rfl, ax_fr.rf, hC, .inr ⟨c, rfl⟩⟩
  · rw [if_neg (by decide), if_neg (by decide), if_pos (by decide)]
    exact ⟨1, T, rfl, ax_fr.rf, hC, .inl ⟨.inr (.inr (.inl rfl)), rfl⟩⟩
  · rw [if_neg (by decide), if_neg (by decide), if_neg (by decide), if_pos (by decide)]
    rcases jr_canH55 ho hN hC hS x with ⟨c, e⟩ | ⟨c, e⟩
    · rw [e, sn_bs, (by decide : ax_bo 1 = true), sn_gd]
      exact ⟨1, T, rfl, ax_fr.rf, hC, .inl ⟨c, rfl⟩⟩
    · rw [e, sn_bs, (by decide : ax_bo 0 = true), sn_gd]
      exact ⟨0, T, rfl, ax_fr.rf, hC, .inr ⟨c, rfl⟩⟩
  · have c9 : ((999 : Int32) ≤ nI (N 22)) ↔ 999 ≤ N 22 := nI_leI (a := 999) (by omega) (by omega)
    rw [if_neg (by decide), if_neg (by decide), if_neg (by decide), if_neg (by decide), in_22, sn_gd, cl_22, hS 22 (by omega)]
    by_cases hc : N 22 < 999
    · rw [if_neg (fun q => absurd (c9.mp q) (by omega))]
      exact ⟨1, T, rfl, ax_fr.rf, hC, .inl ⟨.inr (.inr (.inr (.inr (.inl ⟨rfl, hc⟩)))), rfl⟩⟩
    · rw [if_pos (c9.mpr (by omega))]
      refine ⟨0, T, rfl, ax_fr.rf, hC, .inr ⟨fun q => ?_, rfl⟩⟩
      rcases q with ⟨q, _⟩ | ⟨q, _⟩ | q | ⟨q, _⟩ | ⟨_, q⟩ | ⟨q, _⟩ | ⟨q, _⟩
      all_goals omega
theorem jr_gst55 (ho : jh_ok H) (hN : jn_ok H N) (hC : jr_C T H M K W) (hS : jr_S (ax_ai T 55 0) N) {g r k : Nat} {x : Int32} (hg : g ≤ 60) (h23 : ax_ai T 55 0 23 = nI g) (hr : r + 1 < 160) (hk : k ≤ 4) (p0 : ax_ai T 53 0 r = nI k) (p1 : ax_ai T 53 0 (r + 1) = x) (hm : cn_may H W N k x) : ∃ Z, f_X12_goStep_55x0 (nI r) T = some Z ∧ jr_nx T Z 55 H W N k x.toNatClampNeg ∧ jr_st T Z 55 ∧ jr_C Z H M K W := by
  have h6 : H 4 ≤ 6 := ho.2.2.2.2.1
  unfold f_X12_goStep_55x0
  rw [nI_1, sn_in (by omega) (by omega), sn_gd, sn_let, nI_clamp (n := r + 1) (by omega), p1, sn_in (by omega) (by omega), sn_gd, sn_let, nI_clamp (n := r) (by omega), p0]
  rcases hm with ⟨rfl, v, hv, rfl, hc⟩ | ⟨rfl, v, hv, rfl, _, h21⟩ | rfl | ⟨rfl, n, n1, n2, rfl, _⟩ | ⟨rfl, _⟩ | ⟨rfl, _⟩ | ⟨rfl, _, _⟩
  · rw [if_pos (by decide), nI_clamp (by omega)]
    obtain ⟨Z, z1, z2, z3, z4, z5⟩ := jr_calls55 ho hN hC hS hv
    rw [z1, ax_bu_s]
    refine ⟨Z, rfl, ⟨?_, fun _ => z3, fun q => absurd q (by omega)⟩, z4, z5⟩
    unfold cn_do; rw [if_pos rfl]; exact z2
  · rw [if_neg (by decide), if_pos (by decide), nI_clamp (by omega)]
    obtain ⟨Z, z1, z2, z3, z4⟩ := jr_ttl55 (W := W) (M := M) (K := K) ho hS hv h21
    rw [z1, sn_bs]
    exact ⟨Z, rfl, z2, z3, z4 hC⟩
  · rw [if_neg (by decide), if_neg (by decide), if_pos (by decide), in_18, sn_gd, sn_gd, sn_let, cl_18, hS 18 (by omega), sn_1, pk_sub hN.2.2.2.2.2.2.1]
    exact ⟨_, rfl, jr_sng55 hS hN.2.2.2.2.2.2.1, jr_st.ai, jr_C_row (by omega) hC⟩
  · rw [if_neg (by decide), if_neg (by decide), if_neg (by decide), if_pos (by decide), in_16, sn_gd, sn_gd, sn_let, cl_16, hS 16 (by omega), nI_add, nI_clamp (by omega)]
    exact ⟨_, rfl, jr_hld55 hS, jr_st.ai, jr_C_row (by omega) hC⟩
  · obtain ⟨Z, z1, z2, z3, z4⟩ := jr_day55 (W := W) (M := M) (K := K) (v := x.toNatClampNeg) hC.1 ho hN hg hS h23
    rw [if_neg (by decide), if_neg (by decide), if_neg (by decide), if_neg (by decide), z1, sn_bs]
    exact ⟨Z, rfl, z2, z3, z4 hC⟩
  · omega
  · omega
/-! row 56 -/
theorem jr_canT56 (ho : jh_ok H) (hN : jn_ok H N) (hC : jr_C T H M K W) (hS : jr_S (ax_ai T 56 0) N) (x : Int32) : (cn_may H W N 1 x ∧ f_X12_canTitle_56x0 x T = some 1) ∨ (¬ cn_may H W N 1 x ∧ f_X12_canTitle_56x0 x T = some 0) := by
  have h6 : H 4 ≤ 6 := ho.2.2.2.2.1
  have h21 : N 21 ≤ 999 := hN.2.2.2.2.2.2.2.2.2.1
  have inv : cn_may H W N 1 x → ∃ v, v < H 4 ∧ x = nI v ∧ N (2 * v) < 3 ∧ 2 ≤ N 21 := fun q => by
    rcases q with ⟨q, _⟩ | ⟨_, q⟩ | q | ⟨q, _⟩ | ⟨q, _⟩ | ⟨q, _⟩ | ⟨q, _⟩
    · omega
    · exact q
    all_goals omega
  unfold f_X12_canTitle_56x0
  rcases jc_dec (H := H) x with ⟨v, hv, rfl⟩ | hx
  · have h2 := hN.1 v (by omega)
    have c3 : ((3 : Int32) ≤ nI (N (2 * v))) ↔ 3 ≤ N (2 * v) := nI_leI (a := 3) (by omega) (by omega)
    have c2 : (nI (N 21) < (2 : Int32)) ↔ N 21 < 2 := nI_ltI (b := 2) (by omega) (by omega)
    rw [jr_isC hC.1 ho hv, sn_bs, if_neg (by decide), ix_e, sn_in (by omega) (by omega), sn_gd, nI_clamp (by omega), hS _ (by omega), in_21, sn_gd, cl_21, hS 21 (by omega)]
    by_cases hc : N (2 * v) < 3 ∧ 2 ≤ N 21
    · rw [if_neg (fun q => absurd (c3.mp q) (by omega)), if_neg (fun q => absurd (c2.mp q) (by omega))]
      exact .inl ⟨.inr (.inl ⟨rfl, v, hv, rfl, hc⟩), rfl⟩
    · refine .inr ⟨fun q => ?_, ?_⟩
      · obtain ⟨w, hw, e, q⟩ := inv q
        exact hc (cn_inj ho hv hw e ▸ q)
      · by_cases h3 : 3 ≤ N (2 * v)
        · rw [if_pos (c3.mpr h3)]
        · rw [if_neg (fun q => h3 (c3.mp q)), if_pos (c2.mpr (by omega))]
  · rw [jr_isC0 hC.1 ho hx, sn_bs, if_pos rfl]
    exact .inr ⟨fun q => by obtain ⟨w, hw, e, _⟩ := inv q; exact hx w hw e, rfl⟩
theorem jr_canH56 (ho : jh_ok H) (hN : jn_ok H N) (hC : jr_C T H M K W) (hS : jr_S (ax_ai T 56 0) N) (x : Int32) : (cn_may H W N 3 x ∧ f_X12_canHold_56x0 x T = some 1) ∨ (¬ cn_may H W N 3 x ∧ f_X12_canHold_56x0 x T = some 0) := by
  have h16 : N 16 ≤ 99 := hN.2.2.2.2.1
  have h0 : H 0 ≤ 99 := ho.1
  have inv : cn_may H W N 3 x → ∃ n, 1 ≤ n ∧ n ≤ 20 ∧ x = nI n ∧ N 16 + n ≤ H 0 := fun q => by
    rcases q with ⟨q, _⟩ | ⟨q, _⟩ | q | ⟨_, q⟩ | ⟨q, _⟩ | ⟨q, _⟩ | ⟨q, _⟩
    · omega
    · omega
    · omega
    · exact q
    all_goals omega
  have l1 : (1 : Int64).toInt = ((1 : Nat) : Int) := rfl
  have l20 : (20 : Int64).toInt = ((20 : Nat) : Int) := rfl
  unfold f_X12_canHold_56x0
  rw [ii, l1, l20, sn_bs]
  by_cases hc : ((1 : Nat) : Int) ≤ x.toInt ∧ x.toInt ≤ ((20 : Nat) : Int)
  · obtain ⟨n, n1, n2, rfl⟩ := ii_n hc.1 hc.2
    rw [if_pos hc, if_neg (by decide), in_16, sn_gd, in_r0, sn_gd, cl_r0, cl_16, hC.1.2.2.1 0 (by omega), hS 16 (by omega), nI_add]
    by_cases hq : N 16 + n ≤ H 0
    · rw [if_neg (fun q => absurd ((nI_ltI (by omega) (by omega)).mp q) (by omega))]
      exact .inl ⟨.inr (.inr (.inr (.inl ⟨rfl, n, n1, n2, rfl, hq⟩))), rfl⟩
    · rw [if_pos ((nI_ltI (by omega) (by omega)).mpr (by omega))]
      refine .inr ⟨fun q => ?_, rfl⟩
      obtain ⟨m, m1, m2, e, q⟩ := inv q
      have := (nI_eq (by omega) (by omega)).mp e
      omega
  · rw [if_neg hc, if_pos rfl]
    refine .inr ⟨fun q => ?_, rfl⟩
    obtain ⟨m, m1, m2, e, q⟩ := inv q
    exact hc (ii_m (by omega) m1 m2 e)
theorem jr_ttl56 (ho : jh_ok H) (hS : jr_S (ax_ai T 56 0) N) {v : Nat} (hv : v < H 4) (h21 : 2 ≤ N 21) : ∃ Z, f_X12_titles_56x0 (nI v) T = some Z ∧ jr_nx T Z 56 H W N 1 v ∧ jr_st T Z 56 ∧ (jr_C T H M K W → jr_C Z H M K W) := by
  have h6 : H 4 ≤ 6 := ho.2.2.2.2.1
  have d : cn_do H W N 1 v = fun j => if j = 2 * v then N j + 1 else if j = 21 then N 21 - 2 else N j := by unfold cn_do; rw [if_neg (by omega), if_pos rfl]
  have a21 : ax_ai (ax_sai T 56 0 (2 * v) (nI (N (2 * v) + 1))) 56 0 21 = nI (N 21) := by rw [sga, if_neg (by omega)]; exact hS 21 (by omega)
  refine ⟨ax_sai (ax_sai T 56 0 (2 * v) (nI (N (2 * v) + 1))) 56 0 21 (nI (N 21 - 2)), ?_, ⟨?_, ?_, fun q => absurd q (by omega)⟩, jr_st.ai.tr jr_st.ai, fun hC => jr_C_row (by omega) (jr_C_row (by omega) hC)⟩
  · unfold f_X12_titles_56x0
    rw [ix_e, sn_in (by omega) (by omega), sn_gd, sn_gd, sn_let, nI_clamp (by omega), hS _ (by omega), nI_1, in_21, sn_gd, sn_gd, sn_let, cl_21, a21, sn_2, pk_sub h21]
  · intro j hj
    rw [d, sga, sga]
    dsimp only
    by_cases q : j = 21
    · rw [if_pos q, if_neg (by omega), if_pos q]
    · rw [if_neg q]
      by_cases q2 : j = 2 * v
      · rw [if_pos q2, if_pos q2, q2]
      · rw [if_neg q2, if_neg q2, if_neg q]; exact hS j hj
  · intro _ j hj
    rw [sga, sga, if_neg (by omega), if_neg (by omega)]
theorem jr_sng56 (hS : jr_S (ax_ai T 56 0) N) (h18 : N 18 ≤ 1) {v : Nat} : jr_nx T (ax_sai T 56 0 18 (nI (1 - N 18))) 56 H W N 2 v := by
  have d : cn_do H W N 2 v = fun j => if j = 18 then 1 - N 18 else N j := by unfold cn_do; rw [if_neg (by omega), if_neg (by omega), if_pos rfl]
  refine ⟨fun j hj => ?_, fun _ j hj => ?_, fun q => absurd q (by omega)⟩
  · rw [d, sga]
    dsimp only
    by_cases q : j = 18
    · rw [if_pos q, if_pos q]
    · rw [if_neg q, if_neg q]; exact hS j hj
  · rw [sga, if_neg (by omega)]
theorem jr_hld56 (hS : jr_S (ax_ai T 56 0) N) {v : Nat} : jr_nx T (ax_sai T 56 0 16 (nI (N 16 + v))) 56 H W N 3 v := by
  have d : cn_do H W N 3 v = fun j => if j = 16 then N 16 + v else N j := by unfold cn_do; rw [if_neg (by omega), if_neg (by omega), if_neg (by omega), if_pos rfl]
  refine ⟨fun j hj => ?_, fun _ j hj => ?_, fun q => absurd q (by omega)⟩
  · rw [d, sga]
    dsimp only
    by_cases q : j = 16
    · rw [if_pos q, if_pos q]
    · rw [if_neg q, if_neg q]; exact hS j hj
  · rw [sga, if_neg (by omega)]
theorem jr_day56 (hH : jr_H T H) (ho : jh_ok H) (hN : jn_ok H N) {g v : Nat} (hg : g ≤ 60) (hS : jr_S (ax_ai T 56 0) N) (h23 : ax_ai T 56 0 23 = nI g) : ∃ Z, f_X12_goDay_56x0 T = some Z ∧ jr_nx T Z 56 H W N 4 v ∧ jr_st T Z 56 ∧ (jr_C T H M K W → jr_C Z H M K W) := by
  have d : cn_do H W N 4 v = cn_day N := by unfold cn_do; rw [if_neg (by omega), if_neg (by omega), if_neg (by omega), if_neg (by omega), if_pos rfl]
  refine ⟨_, gd_56 hH ho hN hg hS h23, ⟨fun j hj => ?_, fun q => absurd rfl q, fun _ g' hg' e => ?_⟩, rw_st_st, fun hC => jr_C_rw (by omega) hC⟩
  · rw [d, rw_g]
    unfold gd_1
    rw [if_pos hj]
  · rw [h23] at e
    have e' : g = g' := (nI_eq (by omega) (by omega)).mp e
    rw [rw_g, e']
theorem jr_cst56 (ho : jh_ok H) (hN : jn_ok H N) (hC : jr_C T H M K W) (hS : jr_S (ax_ai T 56 0) N) {r k : Nat} {x : Int32} (hr : r + 1 < 160) (hk : k ≤ 4) (p0 : ax_ai T 53 0 r = nI k) (p1 : ax_ai T 53 0 (r + 1) = x) : ∃ q Z, f_X12_canStep_56x0 (nI r) T = some (q, Z) ∧ ax_fr jr_scr T Z ∧ jr_C Z H M K W ∧ ((cn_may H W N k x ∧ q = 1) ∨ (¬ cn_may H W N k x ∧ q = 0)) := by
  have h22 : N 22 ≤ 999 := hN.2.2.2.2.2.2.2.2.2.2
  unfold f_X12_canStep_56x0
  rw [nI_1, sn_in (by omega) (by omega), sn_gd, sn_let, nI_clamp (n := r + 1) (by omega), p1, sn_in (by omega) (by omega), sn_gd, sn_let, nI_clamp (n := r) (by omega), p0]
  rcases (by omega : k = 0 ∨ k = 1 ∨ k = 2 ∨ k = 3 ∨ k = 4) with rfl | rfl | rfl | rfl | rfl
  · rw [if_pos (by decide)]
    obtain ⟨q, Z, z1, z2, z3, z4⟩ := jr_can56 ho hN hC hS x
    rw [z1, ax_bu_s]
    rcases z4 with ⟨c, rfl⟩ | ⟨c, rfl⟩
    · rw [(by decide : ax_bo 1 = true), sn_gd]
      exact ⟨1, Z, rfl, z2, z3, .inl ⟨.inl ⟨rfl, c⟩, rfl⟩⟩
    · rw [(by decide : ax_bo 0 = true), sn_gd]
      refine ⟨0, Z, rfl, z2, z3, .inr ⟨fun q => ?_, rfl⟩⟩
      rcases q with ⟨_, q⟩ | ⟨q, _⟩ | q | ⟨q, _⟩ | ⟨q, _⟩ | ⟨q, _⟩ | ⟨q, _⟩
      · exact c q
      all_goals omega
  · rw [if_neg (by decide), if_pos (by decide)]
    rcases jr_canT56 ho hN hC hS x with ⟨c, e⟩ | ⟨c, e⟩
    · rw [e, sn_bs, (by decide : ax_bo 1 = true), sn_gd]
      exact ⟨1, T, rfl, ax_fr.rf, hC, .inl ⟨c, rfl⟩⟩
    · rw [e, sn_bs, (by decide : ax_bo 0 = true), sn_gd]
      exact ⟨0, T, rfl, ax_fr.rf, hC, .inr ⟨c, rfl⟩⟩
  · rw [if_neg (by decide), if_neg (by decide), if_pos (by decide)]
    exact ⟨1, T, rfl, ax_fr.rf, hC, .inl ⟨.inr (.inr (.inl rfl)), rfl⟩⟩
  · rw [if_neg (by decide), if_neg (by decide), if_neg (by decide), if_pos (by decide)]
    rcases jr_canH56 ho hN hC hS x with ⟨c, e⟩ | ⟨c, e⟩
    · rw [e, sn_bs, (by decide : ax_bo 1 = true), sn_gd]
      exact ⟨1, T, rfl, ax_fr.rf, hC, .inl ⟨c, rfl⟩⟩
    · rw [e, sn_bs, (by decide : ax_bo 0 = true), sn_gd]
      exact ⟨0, T, rfl, ax_fr.rf, hC, .inr ⟨c, rfl⟩⟩
  · have c9 : ((999 : Int32) ≤ nI (N 22)) ↔ 999 ≤ N 22 := nI_leI (a := 999) (by omega) (by omega)
    rw [if_neg (by decide), if_neg (by decide), if_neg (by decide), if_neg (by decide), in_22, sn_gd, cl_22, hS 22 (by omega)]
    by_cases hc : N 22 < 999
    · rw [if_neg (fun q => absurd (c9.mp q) (by omega))]
      exact ⟨1, T, rfl, ax_fr.rf, hC, .inl ⟨.inr (.inr (.inr (.inr (.inl ⟨rfl, hc⟩)))), rfl⟩⟩
    · rw [if_pos (c9.mpr (by omega))]
      refine ⟨0, T, rfl, ax_fr.rf, hC, .inr ⟨fun q => ?_, rfl⟩⟩
      rcases q with ⟨q, _⟩ | ⟨q, _⟩ | q | ⟨q, _⟩ | ⟨_, q⟩ | ⟨q, _⟩ | ⟨q, _⟩
      all_goals omega
theorem jr_gst56 (ho : jh_ok H) (hN : jn_ok H N) (hC : jr_C T H M K W) (hS : jr_S (ax_ai T 56 0) N) {g r k : Nat} {x : Int32} (hg : g ≤ 60) (h23 : ax_ai T 56 0 23 = nI g) (hr : r + 1 < 160) (hk : k ≤ 4) (p0 : ax_ai T 53 0 r = nI k) (p1 : ax_ai T 53 0 (r + 1) = x) (hm : cn_may H W N k x) : ∃ Z, f_X12_goStep_56x0 (nI r) T = some Z ∧ jr_nx T Z 56 H W N k x.toNatClampNeg ∧ jr_st T Z 56 ∧ jr_C Z H M K W := by
  have h6 : H 4 ≤ 6 := ho.2.2.2.2.1
  unfold f_X12_goStep_56x0
  rw [nI_1, sn_in (by omega) (by omega), sn_gd, sn_let, nI_clamp (n := r + 1) (by omega), p1, sn_in (by omega) (by omega), sn_gd, sn_let, nI_clamp (n := r) (by omega), p0]
  rcases hm with ⟨rfl, v, hv, rfl, hc⟩ | ⟨rfl, v, hv, rfl, _, h21⟩ | rfl | ⟨rfl, n, n1, n2, rfl, _⟩ | ⟨rfl, _⟩ | ⟨rfl, _⟩ | ⟨rfl, _, _⟩
  · rw [if_pos (by decide), nI_clamp (by omega)]
    obtain ⟨Z, z1, z2, z3, z4, z5⟩ := jr_calls56 ho hN hC hS hv
    rw [z1, ax_bu_s]
    refine ⟨Z, rfl, ⟨?_, fun _ => z3, fun q => absurd q (by omega)⟩, z4, z5⟩
    unfold cn_do; rw [if_pos rfl]; exact z2
  · rw [if_neg (by decide), if_pos (by decide), nI_clamp (by omega)]
    obtain ⟨Z, z1, z2, z3, z4⟩ := jr_ttl56 (W := W) (M := M) (K := K) ho hS hv h21
    rw [z1, sn_bs]
    exact ⟨Z, rfl, z2, z3, z4 hC⟩
  · rw [if_neg (by decide), if_neg (by decide), if_pos (by decide), in_18, sn_gd, sn_gd, sn_let, cl_18, hS 18 (by omega), sn_1, pk_sub hN.2.2.2.2.2.2.1]
    exact ⟨_, rfl, jr_sng56 hS hN.2.2.2.2.2.2.1, jr_st.ai, jr_C_row (by omega) hC⟩
  · rw [if_neg (by decide), if_neg (by decide), if_neg (by decide), if_pos (by decide), in_16, sn_gd, sn_gd, sn_let, cl_16, hS 16 (by omega), nI_add, nI_clamp (by omega)]
    exact ⟨_, rfl, jr_hld56 hS, jr_st.ai, jr_C_row (by omega) hC⟩
  · obtain ⟨Z, z1, z2, z3, z4⟩ := jr_day56 (W := W) (M := M) (K := K) (v := x.toNatClampNeg) hC.1 ho hN hg hS h23
    rw [if_neg (by decide), if_neg (by decide), if_neg (by decide), if_neg (by decide), z1, sn_bs]
    exact ⟨Z, rfl, z2, z3, z4 hC⟩
  · omega
  · omega
end

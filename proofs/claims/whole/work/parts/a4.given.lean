/-! QUERIES: rule, lodger, caller, step -/
theorem i_7 : (7 : Int64).toInt = ((7 : Nat) : Int) := rfl
theorem rc {hi : Nat} {U : Int64} {u : Int32} (hb : hi < 2 ^ 31) (hU : U.toInt = (hi : Int)) (hu : u.toInt = (hi : Int)) (a : Int32) : (∃ n, n ≤ hi ∧ a = nI n ∧ ¬ (a < 0) ∧ a ≤ u ∧ ∀ S, f_X12_isIn a.toInt64 0 U S = some 1) ∨ ((a < 0 ∨ (¬ (a < 0) ∧ ¬ (a ≤ u))) ∧ ∀ S, f_X12_isIn a.toInt64 0 U S = some 0) := by
  have c0 : (a < 0) ↔ a.toInt < ((0 : Nat) : Int) := lt_i rfl
  have c3 : (a ≤ u) ↔ a.toInt ≤ (hi : Int) := le_i hu
  rcases rg i_0 hU a with ⟨n, n1, n2, rfl, q⟩ | ⟨n1, q⟩
  · rw [nIi (by omega)] at c0 c3
    exact .inl ⟨n, n2, rfl, fun z => absurd (c0.mp z) (by omega), c3.mpr (by omega), q⟩
  · refine .inr ⟨?_, q⟩
    by_cases z : a < 0
    · exact .inl z
    · exact .inr ⟨z, fun z2 => by have := c3.mp z2; have w : ¬ (a.toInt < ((0 : Nat) : Int)) := fun w => z (c0.mpr w); omega⟩
section
variable {S T S1 T1 : AS} {o : Nat} {H N : Nat → Nat} {W : Option (List la_C)} {M : Nat} {K : Nat → List la_C} {c : Nat} {L E : Nat → Nat}
theorem jc_noHo (hH : jc_H S o H) (ho : jh_ok H) : f_X11_noHouse S = some (if H 4 = 0 then 1 else 0) := by
  have h6 : H 4 ≤ 6 := ho.2.2.2.2.1
  have c4 : (nI (H 4) = (0 : Int32)) ↔ H 4 = 0 := nI_eq (b := 0) (by omega) (by omega)
  unfold f_X11_noHouse
  rw [hH.2.1, hH.2.2.2.2.2.1]
  by_cases q : H 4 = 0
  · rw [if_pos (c4.mpr q), if_pos q]
  · rw [if_neg (fun z => q (c4.mp z)), if_neg q]
theorem q_rule (h : jq o H N W M K S T) (a : Int32) : qo H W M K T (f_X11_rule a S) (f_X12_rule a T) := by
  have h1 := jq_thr (v := 0) h
  have h6 : H 4 ≤ 6 := h.1.2.2.2.2.1
  have c4 : (nI (H 4) = (0 : Int32)) ↔ H 4 = 0 := nI_eq (b := 0) (by omega) (by omega)
  have hH := h.2.2.1.1
  unfold f_X11_rule f_X12_rule
  rw [sn_let, jc_noHo hH h.1, sn_bs, h1.2.2.2.2.1.1.2.1]
  refine qo_tr (jr_thr (v := 0)) ?_
  by_cases q : H 4 = 0
  · rw [if_pos q, if_neg ne10, if_pos (c4.mpr q)]
    exact qo_none h1
  · rw [if_neg q, if_pos rfl, if_neg (fun z => q (c4.mp z))]
    rcases rc (u := 2) (by omega) i_2 rfl a with ⟨n, n1, rfl, g1, g2, e⟩ | ⟨g, e⟩
    · have c2 : (nI n = (2 : Int32)) ↔ n = 2 := nI_eq (b := 2) (by omega) (by omega)
      rw [e, sn_bs, if_neg g1, if_pos g2, if_neg ne10]
      by_cases q2 : n = 2
      · rw [if_pos (c2.mpr q2), if_pos (c2.mpr q2), in_21, sn_gd, cl_21, h1.2.2.2.2.2 21 (by omega), h.2.2.2.1.2.2.2.2.2.2.1]
        exact qo_none h1
      · have d3 : (Int32.ofNat 3 ≤ nI n) ↔ 3 ≤ n := nI_leI (a := 3) (by omega) (by omega)
        rw [if_neg (fun z => q2 (c2.mp z)), if_neg (fun z => q2 (c2.mp z)), sn_in (by omega) (by omega), sn_gd, nI_clamp (by omega), h1.2.2.2.2.1.1.2.2.1 n (by omega)]
        unfold f_X4_ruleOf
        rw [if_neg g1, if_neg (fun z => absurd (d3.mp z) (by omega)), sn_in (by omega) (by omega), sn_gd, nI_clamp (by omega), hH.2.1, hH.2.2.2.2.2.2.1 n (by omega), sn_bs]
        exact qo_none h1
    · rw [e, sn_bs, if_pos rfl]
      rcases g with g | ⟨g1, g2⟩
      · rw [if_pos g]; exact qo_none h1
      · rw [if_neg g1, if_neg g2]; exact qo_none h1
theorem jq_lod (h : jq o H N W M K S T) (a : Int32) : (∃ l, l < H 3 ∧ a = nI l ∧ f_X11_noSuchLodger a S = some 0 ∧ f_X12_isLodger a T = some 1) ∨ (f_X11_noSuchLodger a S = some 1 ∧ f_X12_isLodger a T = some 0) := by
  have h6 : H 3 ≤ 4 := h.1.2.2.2.1
  have hH := h.2.2.1.1
  unfold f_X11_noSuchLodger f_X12_isLodger
  rw [hH.2.1, hH.2.2.2.2.1, h.2.2.2.2.1.1.1]
  rcases pk_ix a (n := H 3) (by omega) with q | q | ⟨j, h1, h2⟩
  · rw [if_pos q, if_pos q]
    exact .inr ⟨rfl, rfl⟩
  · have q2 : ¬ (a < nI (H 3)) := fun z => Int32.lt_irrefl (Int32.lt_of_lt_of_le z q)
    rw [if_neg q2, if_pos q]
    refine .inr ⟨?_, ?_⟩ <;> (split <;> rfl)
  · subst h2
    rw [if_neg (nI_pos (by omega)), if_pos ((nI_ltI (by omega) (by omega)).mpr h1), if_neg (nI_pos (by omega)), if_neg (fun z => absurd ((nI_leI (by omega) (by omega)).mp z) (by omega))]
    exact .inl ⟨j, h1, rfl, rfl, rfl⟩
theorem q_lodger (h : jq o H N W M K S T) (a b : Int32) : qo H W M K T (f_X11_lodger a b S) (f_X12_lodger a b T) := by
  have h1 := jq_thr (v := 0) h
  have h6 : H 3 ≤ 4 := h.1.2.2.2.1
  have hH := h.2.2.1.1
  unfold f_X11_lodger f_X12_lodger
  rw [sn_let, hH.2.1]
  refine qo_tr (jr_thr (v := 0)) ?_
  rcases jq_lod h1 a with ⟨l, hl, rfl, e1, e2⟩ | ⟨e1, e2⟩
  · rw [e1, sn_bs, e2, sn_bs, if_pos rfl, if_neg ne10]
    rcases rc (u := 2) (by omega) i_2 rfl b with ⟨n, n1, rfl, g1, g2, e⟩ | ⟨g, e⟩
    · have c2 : (nI n = (2 : Int32)) ↔ n = 2 := nI_eq (b := 2) (by omega) (by omega)
      have c1 : (nI n = (1 : Int32)) ↔ n = 1 := nI_eq (b := 1) (by omega) (by omega)
      have c0 : (nI n = (0 : Int32)) ↔ n = 0 := nI_eq (b := 0) (by omega) (by omega)
      have hL := h1.2.2.2.2.1.1.2.2.2.1 l hl
      rw [e, sn_bs, if_neg g1, if_pos g2, if_neg ne10, jc_want hH h.1 hl, sn_bs, jc_pati hH h.1 hl, sn_bs, sn_bs, jc_recv h.2.2.2.1 (by omega), sn_bs]
      by_cases q2 : n = 2
      · have ix : (2 : Int32) * nI l + 1 = nI (2 * l + 1) := by rw [sn_2, sn_1, pk_mul, nI_add]
        have iy : (12 : Int32) + nI l = nI (12 + l) := by rw [sn_12, nI_add]
        have w1 := hL 1 (by omega)
        rw [(by omega : 8 + 2 * l + 1 = 9 + 2 * l)] at w1
        unfold f_X12_room_55x0
        rw [if_neg (fun z => absurd (c0.mp z) (by omega)), if_neg (fun z => absurd (c1.mp z) (by omega)), if_pos (c2.mpr q2), ix, iy, sn_in (by omega) (by omega), sn_gd, sn_in (by omega) (by omega), sn_gd, nI_clamp (n := 2 * l + 1) (by omega), nI_clamp (n := 12 + l) (by omega), w1, h1.2.2.2.2.2 (12 + l) (by omega), sn_bs]
        exact qo_none h1
      · have ix : (2 : Int32) * nI l + nI n = nI (2 * l + n) := by rw [sn_2, pk_mul, nI_add]
        rw [if_neg (fun z => q2 (c2.mp z)), ix, sn_in (by omega) (by omega), sn_gd, nI_clamp (n := 2 * l + n) (by omega), hL n (by omega)]
        rcases (by omega : n = 0 ∨ n = 1) with rfl | rfl
        · rw [if_pos (c0.mpr rfl)]
          exact qo_none h1
        · rw [if_neg (fun z => absurd (c0.mp z) (by omega)), if_pos (c1.mpr rfl), (by omega : 8 + 2 * l + 1 = 9 + 2 * l)]
          exact qo_none h1
    · rw [e, sn_bs, if_pos rfl]
      rcases g with g | ⟨g1, g2⟩
      · rw [if_pos g]; exact qo_none h1
      · rw [if_neg g1, if_neg g2]; exact qo_none h1
  · rw [e1, sn_bs, e2, sn_bs, if_neg ne10, if_pos rfl]
    exact qo_none h1
theorem jp_ix (hp : jp S T c L E) (a : Int32) : (∃ k, k < c ∧ a = nI k ∧ f_X11_noSuchAfternoon a S = some 0 ∧ f_X12_isPlan a T = some 1) ∨ (f_X11_noSuchAfternoon a S = some 1 ∧ f_X12_isPlan a T = some 0) := by
  have hc := hp.1
  unfold f_X11_noSuchAfternoon f_X12_isPlan
  rw [hp.2.1, hp.2.2.1]
  rcases pk_ix a (n := c) (by omega) with q | q | ⟨j, h1, h2⟩
  · rw [if_pos q, if_pos q]
    exact .inr ⟨rfl, rfl⟩
  · have q2 : ¬ (a < nI c) := fun z => Int32.lt_irrefl (Int32.lt_of_lt_of_le z q)
    rw [if_neg q2, if_pos q]
    refine .inr ⟨?_, ?_⟩ <;> (split <;> rfl)
  · subst h2
    rw [if_neg (nI_pos (by omega)), if_pos ((nI_ltI (by omega) (by omega)).mpr h1), if_neg (nI_pos (by omega)), if_neg (fun z => absurd ((nI_leI (by omega) (by omega)).mp z) (by omega))]
    exact .inl ⟨j, h1, rfl, rfl, rfl⟩
/-- caller: an answer, or both refuse -/
theorem q_caller (h : jq o H N W M K S T) (a b : Int32) : (∃ v r, v < H 4 ∧ a = nI v ∧ f_X11_caller a b S = some r ∧ ¬ (b < 0) ∧ b ≤ 7 ∧ f_X12_caller a b T = some (r, ax_sfi T 12 0 0 0)) ∨ (f_X12_caller a b T = some (0, ax_sfi T 12 0 0 1) ∧ (f_X11_noSuchCaller a S = some 1 ∨ (f_X11_noSuchCaller a S = some 0 ∧ (b < 0 ∨ (¬ (b < 0) ∧ ¬ (b ≤ 7)))))) := by
  have h1 := jq_thr (v := 0) h
  have h6 : H 4 ≤ 6 := h.1.2.2.2.2.1
  have hH := h.2.2.1.1
  have n1 : ax_fi (ax_sfi T 12 0 0 1) 12 0 0 = 1 := by rw [sg, if_pos rfl]
  have n0 : ax_fi (ax_sfi T 12 0 0 0) 12 0 0 = 0 := by rw [sg, if_pos rfl]
  have d1 : ¬ ((1 : Int32) ≤ 0) := by decide
  have d0 : (0 : Int32) ≤ 0 := by decide
  rcases jc_noC hH h.1 a with ⟨v, hv, rfl, e⟩ | ⟨hx, e⟩
  · rcases rc (u := 7) (by omega) i_7 rfl b with ⟨n, n1, rfl, g1, g2, e2⟩ | ⟨g, e2⟩
    · refine .inl ?_
      have c2 : (nI n = (2 : Int32)) ↔ n = 2 := nI_eq (b := 2) (by omega) (by omega)
      have c7 : (nI n = (7 : Int32)) ↔ n = 7 := nI_eq (b := 7) (by omega) (by omega)
      unfold f_X11_caller f_X12_caller
      rw [e, sn_bs, if_pos rfl, if_neg g1, if_pos g2, jr_isC h.2.2.2.2.1.1 h.1 hv, sn_bs, sn_let, if_neg ne10, e2, sn_bs, if_neg ne10]
      dsimp only
      rw [sn_let, n0, if_pos d0]
      by_cases q2 : n = 2
      · have ix : (2 : Int32) * nI v + 0 = nI (2 * v) := by rw [sn_2, sn_0, pk_mul, nI_add, Nat.add_zero]
        rw [if_pos (c2.mpr q2), if_pos (c2.mpr q2), jc_titles h.2.2.2.1 (by omega), sn_bs, ix, sn_in (by omega) (by omega), sn_gd, nI_clamp (by omega), h1.2.2.2.2.2 (2 * v) (by omega)]
        exact ⟨v, _, hv, rfl, rfl, g1, g2, rfl⟩
      · rw [if_neg (fun z => q2 (c2.mp z)), if_neg (fun z => q2 (c2.mp z))]
        by_cases q7 : n = 7
        · have ix : (2 : Int32) * nI v + 1 = nI (2 * v + 1) := by rw [sn_2, sn_1, pk_mul, nI_add]
          have b1 := (h.2.1.1 v (by omega)).2
          rw [if_pos (c7.mpr q7), if_pos (c7.mpr q7), jc_was h.2.1 h.2.2.2.1 (by omega), sn_bs, ix, sn_in (by omega) (by omega), sn_gd, nI_clamp (by omega), h1.2.2.2.2.2 (2 * v + 1) (by omega)]
          rcases (by omega : N (2 * v + 1) = 0 ∨ N (2 * v + 1) = 1) with u | u
          · rw [u, if_pos rfl, if_pos rfl]
            exact ⟨v, _, hv, rfl, rfl, g1, g2, rfl⟩
          · have e01 : (if (1 : Nat) = 0 then (0 : Int32) else 1) = 1 := rfl
            rw [u, e01, if_neg ne10]
            exact ⟨v, _, hv, rfl, rfl, g1, g2, rfl⟩
        · rw [if_neg (fun z => q7 (c7.mp z)), if_neg (fun z => q7 (c7.mp z)), hH.2.1, jc_trait hH h.1 hv (by omega), sn_bs, jr_of h1.2.2.2.2.1.1 h.1 hv (by omega), sn_bs]
          exact ⟨v, _, hv, rfl, rfl, g1, g2, rfl⟩
    · refine .inr ⟨?_, .inr ⟨e, g⟩⟩
      unfold f_X12_caller
      rw [jr_isC h.2.2.2.2.1.1 h.1 hv, sn_bs, sn_let, if_neg ne10, e2, sn_bs, if_pos rfl]
      dsimp only
      rw [sn_let, n1, if_neg d1]
  · refine .inr ⟨?_, .inl e⟩
    unfold f_X12_caller
    rw [jr_isC0 h.2.2.2.2.1.1 h.1 hx, sn_bs, sn_let, if_pos rfl]
    dsimp only
    rw [sn_let, n1, if_neg d1]
theorem q_step (h : jq o H N W M K S T) (hp : jp S T c L E) (a b d : Int32) : qo H W M K T (f_X11_step a b d S) (f_X12_step a b d T) := by
  have h1 := jq_thr (v := 0) h
  have hp1 := jp_thr (v := 0) hp
  have hc := hp.1
  unfold f_X11_step f_X12_step
  rw [sn_let]
  refine qo_tr (jr_thr (v := 0)) ?_
  rcases jp_ix hp1 a with ⟨k, hk, rfl, e1, e2⟩ | ⟨e1, e2⟩
  · obtain ⟨l1, l2, l3, l4⟩ := hp1.2.2.2 k hk
    rw [e1, sn_bs, e2, sn_bs, if_pos rfl, if_neg ne10, sn_in (by omega) (by omega), sn_gd, sn_gd, sn_gd, sn_gd, nI_clamp (by omega), l2, l3]
    rcases pk_ix b (n := L k) (by omega) with q | q | ⟨j, q1, rfl⟩
    · have q3 : b.toInt < ((0 : Nat) : Int) := (lt_i (L := 0) rfl).mp q
      rw [if_pos q, ii, i_0, if_neg (fun z => by omega), sn_bs, if_pos rfl]
      exact qo_none h1
    · have q4 : ((L k : Nat) : Int) ≤ b.toInt := by
        have := Int32.le_iff_toInt_le.mp q
        rw [nIi (by omega)] at this
        exact this
      have q5 : ¬ (b < 0) := fun z => by
        have q3 : b.toInt < ((0 : Nat) : Int) := (lt_i (L := 0) rfl).mp z
        omega
      have q6 : (nI (L k) - 1).toInt64.toInt = ((L k : Nat) : Int) - 1 := by
        rcases Nat.eq_zero_or_pos (L k) with u | u
        · rw [u]; rfl
        · rw [sn_1, pk_sub (by omega), Int32.toInt_toInt64, nIi (by omega)]
          omega
      rw [if_neg q5, if_pos q, ii, q6, if_neg (fun z => by omega), sn_bs, if_pos rfl]
      exact qo_none h1
    · have q6 : (nI (L k) - 1).toInt64.toInt = ((L k : Nat) : Int) - 1 := by
        rw [sn_1, pk_sub (by omega), Int32.toInt_toInt64, nIi (by omega)]
        omega
      have q7 : (nI j).toInt = (j : Int) := nIi (by omega)
      have e5 : f_X12_isIn (nI j).toInt64 0 (nI (L k) - 1).toInt64 (ax_sfi T 12 0 0 0) = some 1 := by rw [ii, q6, i_0, q7, if_pos (by omega)]
      rw [if_neg (nI_pos (by omega)), if_neg (fun z => absurd ((nI_leI (by omega) (by omega)).mp z) (by omega)), e5, sn_bs, if_neg ne10]
      obtain ⟨e0, f1, f2, f3, f4⟩ := l4 j q1
      rcases rc (u := 1) (by omega) i_1 rfl d with ⟨n, n1, rfl, g1, g2, e⟩ | ⟨g, e⟩
      · have ix : (2 : Int32) * ((16 : Int32) * nI k + nI j) + nI n = nI (32 * k + 2 * j + n) := by rw [sn_2, sn_16, pk_mul, nI_add, pk_mul, nI_add, (by omega : 2 * (16 * k + j) + n = 32 * k + 2 * j + n)]
        rw [if_neg g1, if_pos g2, e, sn_bs, if_neg ne10, ix, (pl_kind hp hk q1).1, (pl_kind hp hk q1).2, sn_bs, sn_bs, sn_in (by omega) (by omega), sn_gd, nI_clamp (n := 32 * k + 2 * j + n) (by omega)]
        rcases (by omega : n = 0 ∨ n = 1) with rfl | rfl
        · rw [if_pos (sn_0).symm, Nat.add_zero, f3]
          exact qo_none h1
        · rw [if_neg nen1, f4]
          exact qo_none h1
      · rw [e, sn_bs, if_pos rfl]
        rcases g with g | ⟨g1, g2⟩
        · rw [if_pos g]; exact qo_none h1
        · rw [if_neg g1, if_neg g2]; exact qo_none h1
  · rw [e1, sn_bs, e2, sn_bs, if_neg ne10, if_pos rfl]
    exact qo_none h1
end

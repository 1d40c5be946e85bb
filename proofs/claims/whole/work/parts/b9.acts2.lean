/-! ACTS keep the invariant: call by call -/
section
variable {S T Z Y X S1 T1 T2 T3 : AS} {o M c cn im hI tn wh n ca hi : Nat} {H N L E Q NI LI tb Lg : Nat → Nat} {W : Option (List la_C)} {K : Nat → List la_C} {P : Nat → Nat → Nat}
theorem rem_r (hC : jr_C T2 H M K W) (hca : ca ≤ 40) (e : ax_fi T2 12 0 39 = nI ca) : ∃ T3, f_X12_remember T2 = some T3 ∧ ax_fi T3 12 0 39 = nI (min 40 (ca + 1)) ∧ ax_ai T3 59 0 = rm_f (ax_ai T2 59 0) (ax_ai T2 55 0) ca ∧ ax_ai T3 55 0 = ax_ai T2 55 0 ∧ jr_C T3 H M K W ∧ rg0 T2 T3 := by
  obtain ⟨T3, e1, e2, e3, e4, e5⟩ := jr_rem1 hca e
  refine ⟨T3, e1, e2, e3, e5 55 0 (by omega), jr_C_f (fr_X12_remember e1) (by decide) hC, fun j hj => e4 12 0 j (by omega), e5 44 0 (by omega), fun m _ => by rw [e5 53 0 (by omega)], fun m _ => by rw [e5 54 0 (by omega)], e5 61 0 (by omega), e5 62 0 (by omega)⟩
theorem rg_st55 (h : jr_st T Y 55) : rg0 T Y := by
  obtain ⟨f1, f2, f3, f4, f5, f6⟩ := h
  exact ⟨fun j hj => f1 12 0 j (by omega), f5 44 0 (by omega) (by omega) (by omega), fun m _ => by rw [f5 53 0 (by omega) (by omega) (by omega)], fun m _ => by rw [f5 54 0 (by omega) (by omega) (by omega)], f5 61 0 (by omega) (by omega) (by omega), f5 62 0 (by omega) (by omega) (by omega)⟩
def ac_z (o M c : Nat) (H : Nat → Nat) (W : Option (List la_C)) (N : Nat → Nat) (n ca k : Nat) (x : Int32) (S Z : AS) : Prop := cg0 o M c S Z ∧ jc_S Z 0 (cn_do H W N k x.toNatClampNeg) ∧ ax_fi Z 7 0 1 = nI (ps_n n) ∧ ax_fi Z 7 0 2 = nI (min 40 (ca + 1)) ∧ ax_ai Z 33 0 = sv_f (ax_ai S 33 0) N (n * 18) ∧ ax_ai Z 23 0 = if k = 4 then ax_ai (lg_S S 0 N) 23 0 else ax_ai S 23 0
theorem act_all (hR : jR o H W M K c L E cn Q im NI LI hI tn tb wh S T) (hA : jA H N n ca P Lg hi S T) {k : Nat} {x : Int32} (hm : 0 < H 4 ∧ cn_may H W N k x) (cz : ac_z o M c H W N n ca k x S Z) (q2 : ax_fr jr_q T T2) (t2 : ax_fi T3 12 0 39 = nI (min 40 (ca + 1))) (t3 : ax_ai T3 59 0 = rm_f (ax_ai T2 59 0) (ax_ai T2 55 0) ca) (t4 : ax_ai T3 55 0 = ax_ai T2 55 0) (t6 : rg0 T2 T3) (st : jr_st T3 Y 55) (nx : jr_nx T3 Y 55 H W N k x.toNatClampNeg) (hCY : jr_C Y H M K W) : jR o H W M K c L E cn Q im NI LI hI tn tb wh Z Y ∧ jr_C Y H M K W ∧ ∃ n ca P Lg hi, jA H (cn_do H W N k x.toNatClampNeg) n ca P Lg hi Z Y := by
  have e55 : ax_ai T3 55 0 = ax_ai T 55 0 := t4.trans (jr_q55 q2)
  have e59 : ax_ai T2 59 0 = ax_ai T 59 0 := q2.2.2.2.2.1 59 0 (by decide)
  obtain ⟨z1, z2, z3, z4, z5, z6⟩ := cz
  refine act_fin hR hA hm.1 hm.2 z1 z2 z3 z4 z5 z6 (((rg_q q2).1.tr t6).tr (rg_st55 st)) hCY ?_ ?_ nx.1 (fun k4 j hj => ?_) (fun k4 => ?_)
  · rw [st.1 12 0 39 (by omega)]; exact t2
  · rw [st.2.2.2.2.1 59 0 (by omega) (by omega) (by omega), t3, e59, jr_q55 q2]
  · rw [nx.2.1 k4 j hj, e55]
  · rw [nx.2.2 k4 (min 60 (N 22)) (by omega) (by rw [e55]; exact hA.2.2.2.2.2.1.1), e55]
theorem cm0 {x : Int32} (h : cn_may H W N 0 x) : ∃ v, v < H 4 ∧ x = nI v ∧ cn_can H W N v := by
  rcases h with ⟨_, h⟩ | ⟨q, _⟩ | q | ⟨q, _⟩ | ⟨q, _⟩ | ⟨q, _⟩ | ⟨q, _⟩
  · exact h
  all_goals omega
theorem cm1 {x : Int32} (h : cn_may H W N 1 x) : ∃ v, v < H 4 ∧ x = nI v ∧ N (2 * v) < 3 ∧ 2 ≤ N 21 := by
  rcases h with ⟨q, _⟩ | ⟨_, h⟩ | q | ⟨q, _⟩ | ⟨q, _⟩ | ⟨q, _⟩ | ⟨q, _⟩
  · omega
  · exact h
  all_goals omega
theorem cm3 {x : Int32} (h : cn_may H W N 3 x) : ∃ m, 1 ≤ m ∧ m ≤ 20 ∧ x = nI m ∧ N 16 + m ≤ H 0 := by
  rcases h with ⟨q, _⟩ | ⟨q, _⟩ | q | ⟨_, h⟩ | ⟨q, _⟩ | ⟨q, _⟩ | ⟨q, _⟩
  · omega
  · omega
  · omega
  · exact h
  all_goals omega
theorem cm4 {x : Int32} (h : cn_may H W N 4 x) : N 22 < 999 := by
  rcases h with ⟨q, _⟩ | ⟨q, _⟩ | q | ⟨q, _⟩ | ⟨_, h⟩ | ⟨q, _⟩ | ⟨q, _⟩
  · omega
  · omega
  · omega
  · omega
  · exact h
  all_goals omega
theorem cm5 {x : Int32} (h : cn_may H W N 5 x) : ∃ v, v < H 4 ∧ x = nI v ∧ 0 < N (2 * v) := by
  rcases h with ⟨q, _⟩ | ⟨q, _⟩ | q | ⟨q, _⟩ | ⟨q, _⟩ | ⟨_, h⟩ | ⟨q, _⟩
  · omega
  · omega
  · omega
  · omega
  · omega
  · exact h
  · omega
theorem cm6 {x : Int32} (h : cn_may H W N 6 x) : 0 < N 17 ∧ N 16 + 3 ≤ H 0 := by
  rcases h with ⟨q, _⟩ | ⟨q, _⟩ | q | ⟨q, _⟩ | ⟨q, _⟩ | ⟨q, _⟩ | ⟨_, h⟩
  · omega
  · omega
  · omega
  · omega
  · omega
  · omega
  · exact h
/-- the act is refused on both sides -/
theorem act_no (hR : jR o H W M K c L E cn Q im NI LI hI tn tb wh S T) (hA : jA H N n ca P Lg hi S T) {r : Int32} (z2 : ax_fr jc_scr S Z) (q2 : ax_fr jr_q T Y) (hC : jr_C Y H M K W) : jX (some (r, Z)) (some (r, Y)) := ⟨r, Z, Y, rfl, rfl, jI_g hR hA (cg_scr (jc_sc2_of z2)) (rg_q q2) hC⟩
theorem act_yes {N' : Nat → Nat} {r : Int32} (h : jR o H W M K c L E cn Q im NI LI hI tn tb wh Z Y ∧ jr_C Y H M K W ∧ ∃ n ca P Lg hi, jA H N' n ca P Lg hi Z Y) : jX (some (r, Z)) (some (r, Y)) := by
  obtain ⟨h1, h2, n, ca, P, Lg, hi, h3⟩ := h
  exact ⟨r, Z, Y, rfl, rfl, jI_mk h1 h2 h3⟩
theorem q39 (hA : jA H N n ca P Lg hi S T) (q2 : ax_fr jr_q T Y) : ax_fi Y 12 0 39 = nI ca := by
  rw [q2.1 12 0 39 (by decide)]
  exact hA.2.2.2.1.2.2.2.2.1
theorem nx_call {v : Nat} (h1 : jr_S (ax_ai Y 55 0) (cn_call H W N v)) (h2 : ∀ j, 23 ≤ j → ax_ai Y 55 0 j = ax_ai T 55 0 j) : jr_nx T Y 55 H W N 0 v := by
  refine ⟨?_, fun _ => h2, fun q => absurd q (by omega)⟩
  unfold cn_do
  rw [if_pos rfl]
  exact h1
theorem x_announce (h : jI S T) (a : Int32) : jX (f_X11_announce a S) (f_X12_announce a T) := by
  obtain ⟨o, H, N, W, M, K, c, L, E, cn, Q, im, NI, LI, hI, tn, tb, wh, n, ca, P, Lg, hi, hR, hC, hA⟩ := h
  have hq := jq_thr (v := 0) (jI_q hR hC hA)
  have h6 : H 4 ≤ 6 := hR.1.2.2.2.2.1
  obtain ⟨r, Y, y1, y2, y3, y4⟩ := jr_can55 hR.1 hA.1 hq.2.2.2.2.1 hq.2.2.2.2.2 a
  have q2 : ax_fr jr_q T Y := jr_thr.tr (jr_q_of y2)
  unfold f_X11_announce f_X12_announce
  rw [sn_let, sn_let, y1, ax_bu_s]
  rcases ac_c hR hA (k := 0) (by omega) a with ⟨hm, Z, z1, z2⟩ | ⟨hm, Z, z1, cz⟩
  · rw [← sn_0] at z1
    have er : r = 0 := by
      rcases y4 with ⟨⟨v, hv, e1, e2⟩, _⟩ | ⟨_, e⟩
      · exact absurd ⟨by omega, .inl ⟨rfl, v, hv, e1, e2⟩⟩ hm
      · exact e
    rw [z1, ax_bu_s, if_pos rfl, er, if_pos rfl]
    exact act_no hR hA z2 q2 y3
  · rw [← sn_0] at z1
    obtain ⟨v, hv, rfl, hcan⟩ := cm0 hm.2
    have er : r = 1 := by
      rcases y4 with ⟨_, e⟩ | ⟨e, _⟩
      · exact e
      · exact absurd ⟨v, hv, rfl, hcan⟩ e
    obtain ⟨T3, t1, t2, t3, t4, t5, t6⟩ := rem_r y3 hA.2.2.2.1.2.1 (q39 hA q2)
    have e55 : ax_ai T3 55 0 = ax_ai T 55 0 := t4.trans (jr_q55 q2)
    obtain ⟨X, x1, x2, x3, x4, x5⟩ := jr_calls55 hR.1 hA.1 t5 (by rw [e55]; exact hA.2.2.1) hv
    have nx : jr_nx T3 X 55 H W N 0 (nI v).toNatClampNeg := by
      rw [nI_clamp (by omega)]
      exact nx_call x2 x3
    have fin := act_all hR hA hm cz q2 t2 t3 t4 t6 x4 nx x5
    have d2 : ax_fi Z 9 0 2 = nI (cn_call H W N v 20) := by
      have := cz.2.1.2.2.1
      rw [nI_clamp (by omega)] at this
      unfold cn_do at this
      rw [if_pos rfl] at this
      exact this
    have d0 : ax_fi S 9 0 2 = nI (N 20) := hA.2.1.2.2.1
    rw [z1, ax_bu_s, if_neg ne10, er, if_neg ne10, t1, sn_bs, x1, ax_bu_s, d2, d0, cn_call_20 hR.1 hv]
    by_cases hb : cn_b H W N v < H (19 + 7 * v)
    · rw [if_pos hb, if_pos hb, if_pos rfl, pk_sub (by omega), Nat.sub_self, ← sn_0]
      exact act_yes fin
    · rw [if_neg hb, if_neg hb, if_neg ne10, pk_sub (by omega), Nat.add_sub_cancel_left, ← sn_1]
      exact act_yes fin
theorem x_title (h : jI S T) (a : Int32) : jX (f_X11_title a S) (f_X12_title a T) := by
  obtain ⟨o, H, N, W, M, K, c, L, E, cn, Q, im, NI, LI, hI, tn, tb, wh, n, ca, P, Lg, hi, hR, hC, hA⟩ := h
  have hq := jq_thr (v := 0) (jI_q hR hC hA)
  have h6 : H 4 ≤ 6 := hR.1.2.2.2.2.1
  have q2 : ax_fr jr_q T (ax_sfi T 12 0 0 0) := jr_thr
  have y3 := hq.2.2.2.2.1
  have y4 := jr_canT55 hR.1 hA.1 hq.2.2.2.2.1 hq.2.2.2.2.2 a
  unfold f_X11_title f_X12_title
  rw [sn_let]
  generalize ax_sfi T 12 0 0 0 = Y at *
  rcases ac_c hR hA (k := 1) (by omega) a with ⟨hm, Z, z1, z2⟩ | ⟨hm, Z, z1, cz⟩
  · rw [← sn_1] at z1
    have er : f_X12_canTitle_55x0 a Y = some 0 := by
      rcases y4 with ⟨e, _⟩ | ⟨_, e⟩
      · obtain ⟨v, hv, _⟩ := cm1 e
        exact absurd ⟨by omega, e⟩ hm
      · exact e
    rw [z1, ax_bu_s, if_pos rfl, er, sn_bs, if_pos rfl]
    exact act_no hR hA z2 q2 y3
  · rw [← sn_1] at z1
    have er : f_X12_canTitle_55x0 a Y = some 1 := by
      rcases y4 with ⟨_, e⟩ | ⟨e, _⟩
      · exact e
      · exact absurd hm.2 e
    obtain ⟨v, hv, rfl, hv3, h21⟩ := cm1 hm.2
    obtain ⟨T3, t1, t2, t3, t4, t5, t6⟩ := rem_r y3 hA.2.2.2.1.2.1 (q39 hA q2)
    have e55 : ax_ai T3 55 0 = ax_ai T 55 0 := t4.trans (jr_q55 q2)
    obtain ⟨X, x1, x2, x3, x4⟩ := jr_ttl55 (W := W) (M := M) (K := K) hR.1 (by rw [e55]; exact hA.2.2.1) hv h21
    have nx : jr_nx T3 X 55 H W N 1 (nI v).toNatClampNeg := by
      rw [nI_clamp (by omega)]
      exact x2
    have fin := act_all hR hA hm cz q2 t2 t3 t4 t6 x3 nx (x4 t5)
    have d2 := jc_titles cz.2.1 (v := v) (by omega)
    have d3 := nx.1 (2 * v) (by omega)
    rw [z1, ax_bu_s, if_neg ne10, d2, sn_bs, er, sn_bs, if_neg ne10, t1, sn_bs, x1, sn_bs, ix_e, sn_in (by omega) (by omega), sn_gd, nI_clamp (n := 2 * v) (by omega), d3]
    exact act_yes fin
theorem nx_5 (hS : jr_S (ax_ai T 55 0) N) {v : Nat} : jr_nx T (ax_sai T 55 0 (2 * v) (nI (N (2 * v) - 1))) 55 H W N 5 v ∨ 23 ≤ 2 * v := by
  by_cases q : 23 ≤ 2 * v
  · exact .inr q
  · refine .inl ?_
    have d : cn_do H W N 5 v = fun j => if j = 2 * v then N j - 1 else N j := by unfold cn_do; rw [if_neg (by omega), if_neg (by omega), if_neg (by omega), if_neg (by omega), if_neg (by omega), if_pos rfl]
    refine ⟨fun j hj => ?_, fun _ j hj => ?_, fun q => absurd q (by omega)⟩
    · rw [d, sga]
      dsimp only
      by_cases q : j = 2 * v
      · rw [if_pos q, if_pos q, q]
      · rw [if_neg q, if_neg q]; exact hS j hj
    · rw [sga, if_neg (by omega)]
theorem x_drop (h : jI S T) (a : Int32) : jX (f_X11_drop a S) (f_X12_drop a T) := by
  obtain ⟨o, H, N, W, M, K, c, L, E, cn, Q, im, NI, LI, hI, tn, tb, wh, n, ca, P, Lg, hi, hR, hC, hA⟩ := h
  have hq := jq_thr (v := 0) (jI_q hR hC hA)
  have h6 : H 4 ≤ 6 := hR.1.2.2.2.2.1
  have q2 : ax_fr jr_q T (ax_sfi T 12 0 0 0) := jr_thr
  have y3 := hq.2.2.2.2.1
  have y4 := hq.2.2.2.2.2
  unfold f_X11_drop f_X12_drop
  rw [sn_let]
  generalize ax_sfi T 12 0 0 0 = Y at *
  rcases ac_c hR hA (k := 5) (by omega) a with ⟨hm, Z, z1, z2⟩ | ⟨hm, Z, z1, cz⟩
  · rw [← sn_5] at z1
    rw [z1, ax_bu_s, if_pos rfl]
    rcases jc_dec (H := H) a with ⟨v, hv, rfl⟩ | hx
    · have h2 := hA.1.1 v (by omega)
      have e0 : N (2 * v) = 0 := by
        by_cases q : N (2 * v) = 0
        · exact q
        · exact absurd ⟨by omega, .inr (.inr (.inr (.inr (.inr (.inl ⟨rfl, v, hv, rfl, by omega⟩)))))⟩ hm
      rw [jr_isC y3.1 hR.1 hv, sn_bs, if_neg ne10, ix_e, sn_in (by omega) (by omega), sn_gd, nI_clamp (n := 2 * v) (by omega), y4 (2 * v) (by omega), e0, if_pos (sn_0).symm]
      exact act_no hR hA z2 q2 y3
    · rw [jr_isC0 y3.1 hR.1 hx, sn_bs, if_pos rfl]
      exact act_no hR hA z2 q2 y3
  · rw [← sn_5] at z1
    obtain ⟨v, hv, rfl, hv3⟩ := cm5 hm.2
    have h2 := hA.1.1 v (by omega)
    obtain ⟨T3, t1, t2, t3, t4, t5, t6⟩ := rem_r y3 hA.2.2.2.1.2.1 (q39 hA q2)
    have e55 : ax_ai T3 55 0 = ax_ai T 55 0 := t4.trans (jr_q55 q2)
    have s3 : jr_S (ax_ai T3 55 0) N := by rw [e55]; exact hA.2.2.1
    have nx : jr_nx T3 (ax_sai T3 55 0 (2 * v) (nI (N (2 * v) - 1))) 55 H W N 5 (nI v).toNatClampNeg := by
      rw [nI_clamp (by omega)]
      rcases nx_5 s3 (v := v) with e | e
      · exact e
      · omega
    have fin := act_all hR hA hm cz q2 t2 t3 t4 t6 jr_st.ai nx (jr_C_row (.inl rfl) t5)
    have d2 := jc_titles cz.2.1 (v := v) (by omega)
    have d3 := nx.1 (2 * v) (by omega)
    have nz : ¬ (nI (N (2 * v)) = (0 : Int32)) := fun z => absurd ((nI_eq (b := 0) (by omega) (by omega)).mp z) (by omega)
    rw [z1, ax_bu_s, if_neg ne10, d2, sn_bs, jr_isC y3.1 hR.1 hv, sn_bs, if_neg ne10, ix_e, sn_in (by omega) (by omega), sn_gd, nI_clamp (n := 2 * v) (by omega), y4 (2 * v) (by omega), if_neg nz, t1, sn_bs, sn_gd, sn_gd, s3 (2 * v) (by omega), sn_1, pk_sub (by omega), sn_let, sn_gd, d3]
    exact act_yes fin
theorem cm2 {x : Int32} : cn_may H W N 2 x := .inr (.inr (.inl rfl))
theorem x_sing (h : jI S T) : jX (f_X11_sing S) (f_X12_sing T) := by
  obtain ⟨o, H, N, W, M, K, c, L, E, cn, Q, im, NI, LI, hI, tn, tb, wh, n, ca, P, Lg, hi, hR, hC, hA⟩ := h
  have hq := jq_thr (v := 0) (jI_q hR hC hA)
  have q2 : ax_fr jr_q T (ax_sfi T 12 0 0 0) := jr_thr
  have y3 := hq.2.2.2.2.1
  have y4 := hq.2.2.2.2.2
  have h18 : N 18 ≤ 1 := hA.1.2.2.2.2.2.2.1
  have no := jr_no0 hq
  unfold f_X11_sing f_X12_sing
  rw [sn_let]
  generalize ax_sfi T 12 0 0 0 = Y at *
  rcases ac_c hR hA (k := 2) (by omega) 0 with ⟨hm, Z, z1, z2⟩ | ⟨hm, Z, z1, cz⟩
  · rw [← sn_2] at z1
    have h0 : H 4 = 0 := by
      by_cases q : H 4 = 0
      · exact q
      · exact absurd ⟨by omega, cm2⟩ hm
    rw [z1, ax_bu_s, if_pos rfl, if_pos (no.mpr h0)]
    exact act_no hR hA z2 q2 y3
  · rw [← sn_2] at z1
    obtain ⟨T3, t1, t2, t3, t4, t5, t6⟩ := rem_r y3 hA.2.2.2.1.2.1 (q39 hA q2)
    have e55 : ax_ai T3 55 0 = ax_ai T 55 0 := t4.trans (jr_q55 q2)
    have s3 : jr_S (ax_ai T3 55 0) N := by rw [e55]; exact hA.2.2.1
    have nx := jr_sng55 (H := H) (W := W) s3 h18 (v := (0 : Int32).toNatClampNeg)
    have fin := act_all hR hA hm cz q2 t2 t3 t4 t6 jr_st.ai nx (jr_C_row (.inl rfl) t5)
    have d2 := cz.2.1.2.2.2.2.1
    have d3 := nx.1 18 (by omega)
    rw [z1, ax_bu_s, if_neg ne10, if_neg (fun z => absurd (no.mp z) (by omega)), t1, sn_bs, in_18, sn_gd, sn_gd, cl_18, s3 18 (by omega), sn_1, pk_sub (by omega), sn_let, sn_gd, d2, d3]
    exact act_yes fin
theorem x_hold (h : jI S T) (a : Int32) : jX (f_X11_hold a S) (f_X12_hold a T) := by
  obtain ⟨o, H, N, W, M, K, c, L, E, cn, Q, im, NI, LI, hI, tn, tb, wh, n, ca, P, Lg, hi, hR, hC, hA⟩ := h
  have hq := jq_thr (v := 0) (jI_q hR hC hA)
  have q2 : ax_fr jr_q T (ax_sfi T 12 0 0 0) := jr_thr
  have y3 := hq.2.2.2.2.1
  have y4 := jr_canH55 hR.1 hA.1 hq.2.2.2.2.1 hq.2.2.2.2.2 a
  have no := jr_no0 hq
  unfold f_X11_hold f_X12_hold
  rw [sn_let]
  generalize ax_sfi T 12 0 0 0 = Y at *
  rcases ac_c hR hA (k := 3) (by omega) a with ⟨hm, Z, z1, z2⟩ | ⟨hm, Z, z1, cz⟩
  · rw [← sn_3] at z1
    rw [z1, ax_bu_s, if_pos rfl]
    by_cases h0 : H 4 = 0
    · rw [if_pos (no.mpr h0)]
      exact act_no hR hA z2 q2 y3
    · have er : f_X12_canHold_55x0 a Y = some 0 := by
        rcases y4 with ⟨e, _⟩ | ⟨_, e⟩
        · exact absurd ⟨by omega, e⟩ hm
        · exact e
      rw [if_neg (fun z => h0 (no.mp z)), er, sn_bs, if_pos rfl]
      exact act_no hR hA z2 q2 y3
  · rw [← sn_3] at z1
    have er : f_X12_canHold_55x0 a Y = some 1 := by
      rcases y4 with ⟨_, e⟩ | ⟨e, _⟩
      · exact e
      · exact absurd hm.2 e
    obtain ⟨m, m1, m2, rfl, m3⟩ := cm3 hm.2
    obtain ⟨T3, t1, t2, t3, t4, t5, t6⟩ := rem_r y3 hA.2.2.2.1.2.1 (q39 hA q2)
    have e55 : ax_ai T3 55 0 = ax_ai T 55 0 := t4.trans (jr_q55 q2)
    have s3 : jr_S (ax_ai T3 55 0) N := by rw [e55]; exact hA.2.2.1
    have nx : jr_nx T3 (ax_sai T3 55 0 16 (nI (N 16 + m))) 55 H W N 3 (nI m).toNatClampNeg := by
      rw [nI_clamp (by omega)]
      exact jr_hld55 s3
    have fin := act_all hR hA hm cz q2 t2 t3 t4 t6 jr_st.ai nx (jr_C_row (.inl rfl) t5)
    have d2 := cz.2.1.1
    have d3 := nx.1 16 (by omega)
    rw [z1, ax_bu_s, if_neg ne10, if_neg (fun z => absurd (no.mp z) (by omega)), er, sn_bs, if_neg ne10, t1, sn_bs, in_16, sn_gd, sn_gd, cl_16, s3 16 (by omega), nI_add, sn_let, sn_gd, d2, d3]
    exact act_yes fin
theorem x_day (h : jI S T) : jX (f_X11_day S) (f_X12_day T) := by
  obtain ⟨o, H, N, W, M, K, c, L, E, cn, Q, im, NI, LI, hI, tn, tb, wh, n, ca, P, Lg, hi, hR, hC, hA⟩ := h
  have hq := jq_thr (v := 0) (jI_q hR hC hA)
  have q2 : ax_fr jr_q T (ax_sfi T 12 0 0 0) := jr_thr
  have y3 := hq.2.2.2.2.1
  have y4 := hq.2.2.2.2.2
  have h22 : N 22 ≤ 999 := hA.1.2.2.2.2.2.2.2.2.2.2
  have no := jr_no0 hq
  have c9 : (nI (N 22) = (999 : Int32)) ↔ N 22 = 999 := nI_eq (b := 999) (by omega) (by omega)
  unfold f_X11_day f_X12_day
  rw [sn_let]
  generalize ax_sfi T 12 0 0 0 = Y at *
  rcases ac_c hR hA (k := 4) (by omega) 0 with ⟨hm, Z, z1, z2⟩ | ⟨hm, Z, z1, cz⟩
  · rw [← sn_4] at z1
    rw [z1, ax_bu_s, if_pos rfl]
    by_cases h0 : H 4 = 0
    · rw [if_pos (no.mpr h0)]
      exact act_no hR hA z2 q2 y3
    · have e9 : N 22 = 999 := by
        by_cases q : N 22 = 999
        · exact q
        · exact absurd ⟨by omega, .inr (.inr (.inr (.inr (.inl ⟨rfl, by omega⟩))))⟩ hm
      rw [if_neg (fun z => h0 (no.mp z)), in_22, sn_gd, cl_22, y4 22 (by omega), if_pos (c9.mpr e9)]
      exact act_no hR hA z2 q2 y3
  · rw [← sn_4] at z1
    have h9 := cm4 hm.2
    obtain ⟨T3, t1, t2, t3, t4, t5, t6⟩ := rem_r y3 hA.2.2.2.1.2.1 (q39 hA q2)
    have e55 : ax_ai T3 55 0 = ax_ai T 55 0 := t4.trans (jr_q55 q2)
    have s3 : jr_S (ax_ai T3 55 0) N := by rw [e55]; exact hA.2.2.1
    obtain ⟨X, x1, nx, x3, x4⟩ := jr_day55 (W := W) (M := M) (K := K) (v := (0 : Int32).toNatClampNeg) t5.1 hR.1 hA.1 (g := min 60 (N 22)) (by omega) s3 (by rw [e55]; exact hA.2.2.2.2.2.1.1)
    have fin := act_all hR hA hm cz q2 t2 t3 t4 t6 x3 nx (x4 t5)
    have d2 := cz.2.1.2.2.2.2.2.2.2.1
    have d3 := nx.1 22 (by omega)
    rw [z1, ax_bu_s, if_neg ne10, if_neg (fun z => absurd (no.mp z) (by omega)), in_22, sn_gd, cl_22, y4 22 (by omega), if_neg (fun z => absurd (c9.mp z) (by omega)), t1, sn_bs, x1, sn_bs, sn_gd, d2, d3]
    exact act_yes fin
theorem mx0 {a : Nat} (h : a ≤ 99) {U : AS} : f_J9_max_7cf53 (0 : Int32) (nI a - 2) U = some (nI (a - 2)) := by
  unfold f_J9_max_7cf53
  by_cases q : 2 ≤ a
  · rw [sn_2, pk_sub q]
    by_cases q0 : a - 2 = 0
    · rw [q0, if_neg (by decide)]; rfl
    · rw [if_pos (show (0 : Int32) < nI (a - 2) from (nI_ltI (a := 0) (b := a - 2) (by omega) (by omega)).mpr (by omega))]
  · rcases (by omega : a = 0 ∨ a = 1) with rfl | rfl
    · decide
    · decide
theorem x_breath (h : jI S T) : jX (f_X11_breath S) (f_X12_breath T) := by
  obtain ⟨o, H, N, W, M, K, c, L, E, cn, Q, im, NI, LI, hI, tn, tb, wh, n, ca, P, Lg, hi, hR, hC, hA⟩ := h
  have hq := jq_thr (v := 0) (jI_q hR hC hA)
  have q2 : ax_fr jr_q T (ax_sfi T 12 0 0 0) := jr_thr
  have y3 := hq.2.2.2.2.1
  have y4 := hq.2.2.2.2.2
  have h17 := cn_tired hA.1
  have h16 : N 16 ≤ 99 := hA.1.2.2.2.2.1
  have hr0 : H 0 ≤ 99 := hR.1.1
  have no := jr_no0 hq
  have e47 := y3.1.2.2.1 0 (by omega)
  have c0 : (nI (N 17) = (0 : Int32)) ↔ N 17 = 0 := nI_eq (b := 0) (by omega) (by omega)
  have c3 : (nI (N 16) + (3 : Int32) ≤ nI (H 0)) ↔ N 16 + 3 ≤ H 0 := by
    rw [sn_3, nI_add]
    exact nI_leI (by omega) (by omega)
  unfold f_X11_breath f_X12_breath
  rw [sn_let]
  generalize ax_sfi T 12 0 0 0 = Y at *
  rcases ac_c hR hA (k := 6) (by omega) 0 with ⟨hm, Z, z1, z2⟩ | ⟨hm, Z, z1, cz⟩
  · rw [← sn_6] at z1
    rw [z1, ax_bu_s, if_pos rfl]
    by_cases h0 : H 4 = 0
    · rw [if_pos (no.mpr h0)]
      exact act_no hR hA z2 q2 y3
    · rw [if_neg (fun z => h0 (no.mp z)), in_17, sn_gd, cl_17, y4 17 (by omega)]
      by_cases t0 : N 17 = 0
      · rw [if_pos (c0.mpr t0)]
        exact act_no hR hA z2 q2 y3
      · have e3 : ¬ (N 16 + 3 ≤ H 0) := fun z => hm ⟨by omega, .inr (.inr (.inr (.inr (.inr (.inr ⟨rfl, by omega, z⟩)))))⟩
        rw [if_neg (fun z => t0 (c0.mp z)), in_16, sn_gd, in_r0, sn_gd, cl_16, cl_r0, y4 16 (by omega), e47, if_neg (fun z => e3 (c3.mp z))]
        exact act_no hR hA z2 q2 y3
  · rw [← sn_6] at z1
    obtain ⟨h1, h3⟩ := cm6 hm.2
    obtain ⟨T3, t1, t2, t3, t4, t5, t6⟩ := rem_r y3 hA.2.2.2.1.2.1 (q39 hA q2)
    have e55 : ax_ai T3 55 0 = ax_ai T 55 0 := t4.trans (jr_q55 q2)
    have s3 : jr_S (ax_ai T3 55 0) N := by rw [e55]; exact hA.2.2.1
    have d : cn_do H W N 6 (0 : Int32).toNatClampNeg = fun j => if j = 16 then N 16 + 3 else if j = 17 then N 17 - 2 else N j := by unfold cn_do; rw [if_neg (by omega), if_neg (by omega), if_neg (by omega), if_neg (by omega), if_neg (by omega), if_neg (by omega)]
    have nx : jr_nx T3 (ax_sai (ax_sai T3 55 0 16 (nI (N 16 + 3))) 55 0 17 (nI (N 17 - 2))) 55 H W N 6 (0 : Int32).toNatClampNeg := by
      refine ⟨fun j hj => ?_, fun _ j hj => ?_, fun q => absurd q (by omega)⟩
      · rw [d, sga, sga]
        dsimp only
        by_cases q : j = 17
        · rw [if_pos q, if_neg (by omega), if_pos q]
        · rw [if_neg q]
          by_cases q6 : j = 16
          · rw [if_pos q6, if_pos q6]
          · rw [if_neg q6, if_neg q6, if_neg q]; exact s3 j hj
      · rw [sga, sga, if_neg (by omega), if_neg (by omega)]
    have fin := act_all hR hA hm cz q2 t2 t3 t4 t6 (jr_st.ai.tr jr_st.ai) nx (jr_C_row (.inl rfl) (jr_C_row (.inl rfl) t5))
    have d2 := cz.2.1.2.2.2.1
    have d3 := nx.1 17 (by omega)
    have e17 : ax_ai (ax_sai T3 55 0 16 (nI (N 16 + 3))) 55 0 17 = nI (N 17) := by
      rw [sga, if_neg (by omega)]
      exact s3 17 (by omega)
    have a3 : nI (N 16) + (3 : Int32) = nI (N 16 + 3) := by rw [sn_3, nI_add]
    rw [z1, ax_bu_s, if_neg ne10, if_neg (fun z => absurd (no.mp z) (by omega)), in_17, sn_gd, cl_17, y4 17 (by omega), if_neg (fun z => absurd (c0.mp z) (by omega)), in_16, sn_gd, in_r0, sn_gd, cl_16, cl_r0, y4 16 (by omega), e47, if_pos (c3.mpr h3), t1, sn_bs, sn_gd, sn_gd, s3 16 (by omega), a3, sn_let, sn_gd, e17, mx0 (by omega), sn_bs, sn_gd, sn_let, sn_gd, d2, d3]
    exact act_yes fin
end

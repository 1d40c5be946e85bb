/-! QUERIES: game, span -/
section
variable {S T S1 T1 : AS} {o : Nat} {H N : Nat → Nat} {W : Option (List la_C)} {M : Nat} {K : Nat → List la_C}
theorem jq_pair (h : jq o H N W M K S T) (a b : Int32) : (∃ v w, v < H 4 ∧ w < H 4 ∧ v ≠ w ∧ a = nI v ∧ b = nI w ∧ f_X11_noSuchPair a b S = some 0 ∧ f_X12_isGame a b T = some 1) ∨ (f_X11_noSuchPair a b S = some 1 ∧ f_X12_isGame a b T = some 0) := by
  have h6 : H 4 ≤ 6 := h.1.2.2.2.2.1
  unfold f_X11_noSuchPair f_X12_isGame
  rcases jc_noC h.2.2.1.1 h.1 a with ⟨v, hv, rfl, e⟩ | ⟨hx, e⟩
  · rw [e, sn_bs, if_pos rfl, jr_isC h.2.2.2.2.1.1 h.1 hv, sn_bs, if_neg ne10]
    rcases jc_noC h.2.2.1.1 h.1 b with ⟨w, hw, rfl, e2⟩ | ⟨hx2, e2⟩
    · rw [e2, sn_bs, if_pos rfl, jr_isC h.2.2.2.2.1.1 h.1 hw, sn_bs, if_neg ne10]
      by_cases q : v = w
      · subst q
        rw [if_pos rfl, if_pos rfl]
        exact .inr ⟨rfl, rfl⟩
      · have q2 : ¬ (nI v = nI w) := fun z => q (cn_inj h.1 hv hw z)
        rw [if_neg q2, if_neg q2]
        exact .inl ⟨v, w, hv, hw, q, rfl, rfl, rfl, rfl⟩
    · rw [e2, sn_bs, if_neg ne10, jr_isC0 h.2.2.2.2.1.1 h.1 hx2, sn_bs, if_pos rfl]
      exact .inr ⟨rfl, rfl⟩
  · rw [e, sn_bs, if_neg ne10, jr_isC0 h.2.2.2.2.1.1 h.1 hx, sn_bs, if_pos rfl]
    exact .inr ⟨rfl, rfl⟩
theorem oT (a : Int32) : (∃ n, n ≤ 3 ∧ a = nI n ∧ (∀ S, f_X11_outOfTitles a S = some 0) ∧ ∀ S, f_X12_isIn a.toInt64 0 3 S = some 1) ∨ ((∀ S, f_X11_outOfTitles a S = some 1) ∧ ∀ S, f_X12_isIn a.toInt64 0 3 S = some 0) := by
  have c0 : (a < 0) ↔ a.toInt < ((0 : Nat) : Int) := lt_i rfl
  have c3 : (a ≤ 3) ↔ a.toInt ≤ ((3 : Nat) : Int) := le_i rfl
  rcases rg i_0 i_3 a with ⟨n, n1, n2, rfl, q⟩ | ⟨n1, q⟩
  · rw [nIi (by omega)] at c0 c3
    refine .inl ⟨n, n2, rfl, fun S => ?_, q⟩
    unfold f_X11_outOfTitles
    rw [if_neg (fun z => absurd (c0.mp z) (by omega)), if_pos (c3.mpr (by omega))]
  · refine .inr ⟨fun S => ?_, q⟩
    unfold f_X11_outOfTitles
    by_cases z : a < 0
    · rw [if_pos z]
    · rw [if_neg z, if_neg (fun z2 => by have := c3.mp z2; have w : ¬ (a.toInt < ((0 : Nat) : Int)) := fun w => z (c0.mpr w); omega)]
theorem q_game (h : jq o H N W M K S T) (a b c d e : Int32) : qq H W M K S T (f_X11_game a b c d e S) (f_X12_game a b c d e T) := by
  have h1 := jq_thr (v := 0) h
  unfold f_X11_game f_X12_game
  rw [sn_let]
  refine qq_tr ax_fr.rf (jr_thr (v := 0)) ?_
  have c0 : (e < 0) ↔ e.toInt < ((0 : Nat) : Int) := lt_i rfl
  have c1 : (e ≤ 1) ↔ e.toInt ≤ ((1 : Nat) : Int) := le_i rfl
  rcases jq_pair h1 a b with ⟨v, w, hv, hw, _, rfl, rfl, e1, e2⟩ | ⟨e1, e2⟩
  · rw [e1, sn_bs, if_pos rfl, e2, sn_bs, if_neg ne10]
    rcases oT c with ⟨x, hx, rfl, p1, p2⟩ | ⟨p1, p2⟩
    · rw [p1, sn_bs, if_pos rfl, p2, sn_bs, if_neg ne10]
      rcases oT d with ⟨y, hy, rfl, r1, r2⟩ | ⟨r1, r2⟩
      · rw [r1, sn_bs, if_pos rfl, r2, sn_bs, if_neg ne10]
        rcases rg i_0 i_1 e with ⟨z, n1, n2, rfl, q⟩ | ⟨n1, q⟩
        · rw [nIi (by omega)] at c0 c1
          rw [q, sn_bs, if_neg (fun z => absurd (c0.mp z) (by omega)), if_pos (c1.mpr (by omega)), if_neg ne10]
          obtain ⟨Z, Y, z1, y1, z2, y2, y3, hq⟩ := jq_game h1 hv hw hx hy n2
          rw [y1, ax_bu_s]
          rcases (by omega : z = 0 ∨ z = 1) with rfl | rfl
          · have z1' : f_X11_prize (nI v) (nI x) 0 S = some (nI (pz H W N v x 0), Z) := z1
            rw [if_pos (sn_0).symm, z1', ax_bu_s]
            refine ⟨_, Z, Y, ?_, rfl, z2, y2, y3⟩
            unfold f_X11_share gv
            show (if nI y ≤ nI x then some (nI (pz H W N v x 0) - nI x - 0) else some (nI (pz H W N v x 0) - nI x - 2)).bind _ = some ((if nI y ≤ nI x then nI (pz H W N v x 0) - nI x - 0 else nI (pz H W N v x 0) - nI x - 2), Z)
            by_cases u : nI y ≤ nI x
            · rw [if_pos u, if_pos u, sn_bs]
            · rw [if_neg u, if_neg u, sn_bs]
          · have z1' : f_X11_prize (nI w) (nI y) 1 S = some (nI (pz H W N w y 1), Z) := z1
            rw [if_neg nen1, z1', ax_bu_s]
            refine ⟨_, Z, Y, ?_, rfl, z2, y2, y3⟩
            unfold f_X11_share gv
            show (if nI x ≤ nI y then some (nI (pz H W N w y 1) - nI y - 0) else some (nI (pz H W N w y 1) - nI y - 2)).bind _ = some ((if nI x ≤ nI y then nI (pz H W N w y 1) - nI y - 0 else nI (pz H W N w y 1) - nI y - 2), Z)
            by_cases u : nI x ≤ nI y
            · rw [if_pos u, if_pos u, sn_bs]
            · rw [if_neg u, if_neg u, sn_bs]
        · rw [q, sn_bs, if_pos rfl]
          by_cases z : e < 0
          · rw [if_pos z]; exact qq_none h1
          · rw [if_neg z, if_neg (fun z2 => by have := c1.mp z2; have w : ¬ (e.toInt < ((0 : Nat) : Int)) := fun w => z (c0.mpr w); omega)]
            exact qq_none h1
      · rw [r1, sn_bs, if_neg ne10, r2, sn_bs, if_pos rfl]
        exact qq_none h1
    · rw [p1, sn_bs, if_neg ne10, p2, sn_bs, if_pos rfl]
      exact qq_none h1
  · rw [e1, sn_bs, if_neg ne10, e2, sn_bs, if_pos rfl]
    exact qq_none h1
/-! span -/
def sp_P (H : Nat → Nat) (W : Option (List la_C)) (N : Nat → Nat) (v m : Nat) : Prop := N 16 + bt H W v (H (17 + 7 * v)) m (N 17) (N 18) (N 22) ≤ H 0
theorem jq_ttl (h : jq o H N W M K S T) {v m : Nat} (hv : v < H 4) (hm : m ≤ 3) : ∃ Z Y, f_X6_beatsTitled 0 (nI v) (nI m) S = some (nI (bt H W v (H (17 + 7 * v)) m (N 17) (N 18) (N 22)), Z) ∧ f_X12_takesTitled (nI v) (nI m) (nI (N 17)) T = some (nI (bt H W v (H (17 + 7 * v)) m (N 17) (N 18) (N 22)), Y) ∧ ax_fr jc_scr S Z ∧ ax_fr jr_q T Y ∧ jr_C Y H M K W ∧ jq o H N W M K Z Y := by
  have f := jq_n h hv
  have hS := h.2.2.2.1
  have hR := h.2.2.2.2.2
  obtain ⟨Z, Y, z1, y1, z2, y2, y3, hq⟩ := jq_b h (v := v) (a := H (17 + 7 * v)) (t := m) (g := N 17) (s := N 18) (d := N 22) hv (by omega) (by omega) (by omega) (by omega) (by omega)
  have eh := jc_hards h.2.2.1.1 h.1 hv
  rw [(by omega : 16 + 7 * v + 1 = 17 + 7 * v)] at eh
  refine ⟨Z, Y, ?_, ?_, z2, y2, y3, hq⟩
  · unfold f_X6_beatsTitled
    rw [eh, sn_bs, hS.2.2.2.1, hS.2.2.2.2.1, hS.2.2.2.2.2.2.2.1, z1, ax_bu_s]
  · unfold f_X12_takesTitled
    rw [(jr_ofw h hv).2.1, sn_bs, in_18, sn_gd, in_22, sn_gd, cl_18, cl_22, hR 18 (by omega), hR 22 (by omega), y1, ax_bu_s]
/-- the class goes up -/
theorem sp_up {v t : Nat} (hv : v < H 4) : ∀ d n p b S T, jq o H N W M K S T → p + d = 4 → d < n → ∃ r Z Y, f_X11_span_L52 (fun (x24 : Int32) (x25 : Int32) (S39 : AS) => some ((x25 - x24), S39)) n (nI v) (nI t) (nI b) (nI p) S = some (nI r - nI t, Z) ∧ ax_fr jc_scr S Z ∧ ax_fr jr_q T Y ∧ jr_C Y H M K W ∧ ((r = b ∧ ∀ m, p ≤ m → m ≤ 3 → ¬ sp_P H W N v m) ∨ (p ≤ r ∧ r ≤ 3 ∧ sp_P H W N v r ∧ ∀ m, r < m → m ≤ 3 → ¬ sp_P H W N v m))
  | 0, n + 1, p, b, S, T, h, hp, _ => by
    obtain rfl : p = 4 := by omega
    rw [f_X11_span_L52, if_pos (by decide)]
    exact ⟨b, S, T, rfl, ax_fr.rf, ax_fr.rf, h.2.2.2.2.1, .inl ⟨rfl, fun m h1 h2 => absurd h1 (by omega)⟩⟩
  | d + 1, n + 1, p, b, S, T, h, hp, hn => by
    have h16 : N 16 ≤ 99 := h.2.1.2.2.2.2.1
    have h0 : H 0 ≤ 99 := h.1.1
    have c3 : ((3 : Int32) < nI p) ↔ 3 < p := nI_ltI (a := 3) (by omega) (by omega)
    obtain ⟨Z, Y, z1, y1, z2, y2, y3, hq⟩ := jq_ttl h hv (m := p) (by omega)
    have bb : bt H W v (H (17 + 7 * v)) p (N 17) (N 18) (N 22) ≤ 60 := bt_b.2
    rw [f_X11_span_L52, if_neg (fun z => absurd (c3.mp z) (by omega)), z1, ax_bu_s, jc_left hq.2.2.1.1 (by omega) hq.2.2.2.1, sn_bs]
    by_cases hP : sp_P H W N v p
    · rw [if_neg (fun z => (jc_ltI h0 h16 (by omega)).mp z hP), sn_let, nI_1]
      obtain ⟨r, Z', Y', w1, w2, w3, w4, w5⟩ := sp_up hv d n (p + 1) p Z Y hq (by omega) (by omega)
      refine ⟨r, Z', Y', w1, z2.tr w2, y2.tr w3, w4, .inr ?_⟩
      rcases w5 with ⟨e, q⟩ | ⟨q1, q2, q3, q4⟩
      · subst e
        exact ⟨Nat.le_refl _, by omega, hP, fun m m1 m2 => q m (by omega) m2⟩
      · exact ⟨by omega, q2, q3, q4⟩
    · rw [if_pos ((jc_ltI h0 h16 (by omega)).mpr hP), sn_let, nI_1]
      obtain ⟨r, Z', Y', w1, w2, w3, w4, w5⟩ := sp_up hv d n (p + 1) b Z Y hq (by omega) (by omega)
      refine ⟨r, Z', Y', w1, z2.tr w2, y2.tr w3, w4, ?_⟩
      rcases w5 with ⟨e, q⟩ | ⟨q1, q2, q3, q4⟩
      · refine .inl ⟨e, fun m m1 m2 => ?_⟩
        by_cases u : m = p
        · subst u; exact hP
        · exact q m (by omega) m2
      · exact .inr ⟨by omega, q2, q3, q4⟩
/-- the reference goes down -/
theorem sp_dn {v t : Nat} (hv : v < H 4) (ht : t ≤ 3) : ∀ m n S T, jq o H N W M K S T → m ≤ 3 → m < n → t ≤ m → ∃ r Y, f_X12_span_L63 n (nI v) (nI (H 0) - nI (N 16)) (nI t) (nI m) T = some (nI r - nI t, Y) ∧ ax_fr jr_q T Y ∧ jr_C Y H M K W ∧ ((r = t ∧ ∀ k, t < k → k ≤ m → ¬ sp_P H W N v k) ∨ (t < r ∧ r ≤ m ∧ sp_P H W N v r ∧ ∀ k, r < k → k ≤ m → ¬ sp_P H W N v k))
  | m, n + 1, S, T, h, hm, hn, htm => by
    have h16 : N 16 ≤ 99 := h.2.1.2.2.2.2.1
    have h0 : H 0 ≤ 99 := h.1.1
    have hR := h.2.2.2.2.2
    by_cases q : m ≤ t
    · have e : m = t := by omega
      subst e
      rw [f_X12_span_L63, if_pos ((nI_leI (by omega) (by omega)).mpr (Nat.le_refl _))]
      refine ⟨m, T, ?_, ax_fr.rf, h.2.2.2.2.1, .inl ⟨rfl, fun k a b => absurd a (by omega)⟩⟩
      rw [pk_sub (Nat.le_refl _), Nat.sub_self]; rfl
    · obtain ⟨Z, Y, z1, y1, z2, y2, y3, hq⟩ := jq_ttl h hv (m := m) hm
      have bb : bt H W v (H (17 + 7 * v)) m (N 17) (N 18) (N 22) ≤ 60 := bt_b.2
      rw [f_X12_span_L63, if_neg (fun z => q ((nI_leI (by omega) (by omega)).mp z)), in_17, sn_gd, cl_17, hR 17 (by omega), y1, ax_bu_s]
      by_cases hP : sp_P H W N v m
      · rw [if_neg (fun z => (jc_ltI h0 h16 (by omega)).mp z hP)]
        exact ⟨m, Y, rfl, y2, y3, .inr ⟨by omega, Nat.le_refl _, hP, fun k a b => absurd a (by omega)⟩⟩
      · obtain ⟨j, rfl⟩ : ∃ j, m = j + 1 := ⟨m - 1, by omega⟩
        have em : nI (j + 1) + Int32.ofInt (-1) = nI j := pk_m1 j
        rw [if_pos ((jc_ltI h0 h16 (by omega)).mpr hP), sn_let, em]
        obtain ⟨r, Y', w1, w2, w3, w4⟩ := sp_dn hv ht j n Z Y hq (by omega) (by omega) (by omega)
        refine ⟨r, Y', w1, y2.tr w2, w3, ?_⟩
        rcases w4 with ⟨e, q1⟩ | ⟨q1, q2, q3, q4⟩
        · refine .inl ⟨e, fun k a b => ?_⟩
          by_cases u : k = j + 1
          · subst u; exact hP
          · exact q1 k a (by omega)
        · refine .inr ⟨q1, by omega, q3, fun k a b => ?_⟩
          by_cases u : k = j + 1
          · subst u; exact hP
          · exact q4 k a (by omega)
theorem q_span (h : jq o H N W M K S T) (a : Int32) : qq H W M K S T (f_X11_span a S) (f_X12_span a T) := by
  have h1 := jq_thr (v := 0) h
  unfold f_X11_span f_X12_span
  rw [sn_let]
  refine qq_tr ax_fr.rf (jr_thr (v := 0)) ?_
  rcases jc_noC h1.2.2.1.1 h.1 a with ⟨v, hv, rfl, e⟩ | ⟨hx, e⟩
  · have f := jq_n h1 hv
    have h16 : N 16 ≤ 99 := h.2.1.2.2.2.2.1
    have h0 : H 0 ≤ 99 := h.1.1
    have hR := h1.2.2.2.2.2
    obtain ⟨Z0, z1, z2⟩ := jc_bnow h.1 h.2.1 h1.2.2.1 h1.2.2.2.1 hv
    obtain ⟨_, Y, _, y1, _, y2, y3, _⟩ := jq_ttl h1 hv (m := N (2 * v)) (by omega)
    have hq : jq o H N W M K Z0 Y := jq_fr h1 z2 y2 y3
    have bb : cn_b H W N v ≤ 60 := bt_b.2
    have c : (nI (cn_b H W N v) ≤ nI (H 0) - nI (N 16)) ↔ N 16 + cn_b H W N v ≤ H 0 := by
      rw [Int32.le_iff_toInt_le, pk_sub_toInt (by omega) (by omega), nI_toInt (by omega)]
      omega
    rw [e, sn_bs, if_pos rfl, z1, ax_bu_s, jc_left hq.2.2.1.1 (by omega) hq.2.2.2.1, sn_bs, jr_isC h1.2.2.2.2.1.1 h.1 hv, sn_bs, if_neg ne10, in_r0, sn_gd, in_16, sn_gd, sn_let, cl_r0, cl_16, h1.2.2.2.2.1.1.2.2.1 0 (by omega), hR 16 (by omega), ix_e, sn_in (by omega) (by omega), sn_gd, sn_let, nI_clamp (by omega), hR _ (by omega), in_17, sn_gd, cl_17, hR 17 (by omega), y1, ax_bu_s]
    by_cases u : N 16 + cn_b H W N v ≤ H 0
    · have u2 : nI (bt H W v (H (17 + 7 * v)) (N (2 * v)) (N 17) (N 18) (N 22)) ≤ nI (H 0) - nI (N 16) := c.mpr u
      rw [if_pos (c.mpr u), if_pos u2, jc_titles hq.2.2.2.1 (by omega), sn_bs, sn_let, nI_1]
      obtain ⟨r, Z', Y', w1, w2, w3, w4, w5⟩ := sp_up (t := N (2 * v)) hv (3 - N (2 * v)) ax_F (N (2 * v) + 1) (N (2 * v)) Z0 Y hq (by omega) (by show _ < 1000000; omega)
      obtain ⟨r', Y'', x1, x2, x3, x4⟩ := sp_dn (t := N (2 * v)) hv (by omega) 3 ax_F Z0 Y hq (by omega) (by show _ < 1000000; omega) (by omega)
      rw [← sn_3] at x1
      have er : r = r' := by
        rcases w5 with ⟨a1, a2⟩ | ⟨a1, a2, a3, a4⟩
        · rcases x4 with ⟨b1, b2⟩ | ⟨b1, b2, b3, b4⟩
          · omega
          · exact absurd b3 (a2 r' (by omega) (by omega))
        · rcases x4 with ⟨b1, b2⟩ | ⟨b1, b2, b3, b4⟩
          · exact absurd a3 (b2 r (by omega) (by omega))
          · by_cases l1 : r < r'
            · exact absurd b3 (a4 r' l1 (by omega))
            · by_cases l2 : r' < r
              · exact absurd a3 (b4 r l2 (by omega))
              · omega
      subst er
      exact ⟨_, Z', Y'', w1, x1, z2.tr w2, y2.tr x2, x3⟩
    · have u2 : ¬ (nI (bt H W v (H (17 + 7 * v)) (N (2 * v)) (N 17) (N 18) (N 22)) ≤ nI (H 0) - nI (N 16)) := fun z => u (c.mp z)
      rw [if_neg (fun z => u (c.mp z)), if_neg u2]
      exact ⟨_, Z0, Y, rfl, rfl, z2, y2, y3⟩
  · rw [e, sn_bs, if_neg ne10, jr_isC0 h1.2.2.2.2.1.1 h.1 hx, sn_bs, if_pos rfl]
    exact qq_none h1
end

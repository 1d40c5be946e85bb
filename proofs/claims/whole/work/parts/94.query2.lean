/-! QUERIES: name, timed, sung -/
theorem rg {lo hi : Nat} {L U : Int64} (hL : L.toInt = (lo : Int)) (hU : U.toInt = (hi : Int)) (a : Int32) : (∃ n, lo ≤ n ∧ n ≤ hi ∧ a = nI n ∧ ∀ S, f_X12_isIn a.toInt64 L U S = some 1) ∨ ((a.toInt < (lo : Int) ∨ (hi : Int) < a.toInt) ∧ ∀ S, f_X12_isIn a.toInt64 L U S = some 0) := by
  by_cases h : (lo : Int) ≤ a.toInt ∧ a.toInt ≤ (hi : Int)
  · obtain ⟨n, n1, n2, e⟩ := ii_n h.1 h.2
    refine .inl ⟨n, n1, n2, e, fun S => ?_⟩
    rw [ii, hL, hU, if_pos h]
  · refine .inr ⟨by omega, fun S => ?_⟩
    rw [ii, hL, hU, if_neg h]
theorem i_0 : (0 : Int64).toInt = ((0 : Nat) : Int) := rfl
theorem i_1 : (1 : Int64).toInt = ((1 : Nat) : Int) := rfl
theorem i_2 : (2 : Int64).toInt = ((2 : Nat) : Int) := rfl
theorem i_3 : (3 : Int64).toInt = ((3 : Nat) : Int) := rfl
theorem i_60 : (60 : Int64).toInt = ((60 : Nat) : Int) := rfl
theorem i_100 : (100 : Int64).toInt = ((100 : Nat) : Int) := rfl
theorem lt_i {a : Int32} {k : Nat} {L : Int32} (hL : L.toInt = (k : Int)) : (a < L) ↔ a.toInt < (k : Int) := by rw [Int32.lt_iff_toInt_lt, hL]
theorem le_i {a : Int32} {k : Nat} {L : Int32} (hL : L.toInt = (k : Int)) : (a ≤ L) ↔ a.toInt ≤ (k : Int) := by rw [Int32.le_iff_toInt_le, hL]
theorem ne10 : ¬ ((1 : Int32) = 0) := by decide
theorem nen1 : ¬ (nI 1 = (0 : Int32)) := by decide
theorem ne01 : ¬ ((0 : Int32) = 1) := by decide
theorem nIi {n : Nat} (h : n < 2 ^ 31) : (nI n).toInt = (n : Int) := nI_toInt h
section
variable {S T S1 T1 : AS} {o : Nat} {H N : Nat → Nat} {W : Option (List la_C)} {M : Nat} {K : Nat → List la_C}
theorem q_name (h : jq o H N W M K S T) (a b : Int32) : qq H W M K S T (f_X11_name a b S) (f_X12_name a b T) := by
  unfold f_X11_name f_X12_name
  have h1 := jq_thr (v := 0) h
  rw [sn_let]
  have c0 : (b < 0) ↔ b.toInt < ((0 : Nat) : Int) := lt_i rfl
  have c1 : (b ≤ 1) ↔ b.toInt ≤ ((1 : Nat) : Int) := le_i rfl
  refine qq_tr ax_fr.rf (jr_thr (v := 0)) ?_
  rcases jc_noC h.2.2.1.1 h.1 a with ⟨v, hv, rfl, e⟩ | ⟨hx, e⟩
  · have f := jq_n h hv
    rw [e, sn_bs, if_pos rfl, jr_isC h1.2.2.2.2.1.1 h.1 hv, sn_bs, if_neg ne10]
    rcases rg i_0 i_1 b with ⟨n, n1, n2, rfl, q⟩ | ⟨n1, q⟩
    · rw [nIi (by omega)] at c0 c1
      rw [q, sn_bs, if_neg (fun z => absurd (c0.mp z) (by omega)), if_pos (c1.mpr (by omega)), if_neg ne10]
      obtain ⟨Z, Y, z1, y1, z2, y2, y3, hq⟩ := jq_now h1 hv
      have bb : cn_b H W N v ≤ 60 := bt_b.2
      rcases (by omega : n = 0 ∨ n = 1) with rfl | rfl
      · rw [z1, ax_bu_s, if_pos (sn_0).symm, if_pos (sn_0).symm, y1, ax_bu_s]
        exact ⟨_, Z, Y, rfl, rfl, z2, y2, y3⟩
      · unfold f_X12_would
        rw [z1, ax_bu_s, if_neg nen1, if_neg nen1, y1, ax_bu_s, jc_done hq.2.2.1.1 h.1 hv bb, sn_bs, (jr_ofw hq hv).1, sn_bs]
        by_cases hd : cn_b H W N v < H (19 + 7 * v)
        · rw [if_pos hd, if_pos rfl, if_pos ((nI_ltI (by omega) (by omega)).mpr hd), ax_bu_s, if_pos rfl]
          exact ⟨0, Z, Y, rfl, rfl, z2, y2, y3⟩
        · rw [if_neg hd, if_neg ne10, if_neg (fun z => hd ((nI_ltI (by omega) (by omega)).mp z)), ax_bu_s, if_neg ne10]
          exact ⟨1, Z, Y, rfl, rfl, z2, y2, y3⟩
    · rw [q, sn_bs, if_pos rfl]
      by_cases z : b < 0
      · rw [if_pos z]; exact qq_none h1
      · rw [if_neg z, if_neg (fun z2 => by have := c1.mp z2; have w : ¬ (b.toInt < ((0 : Nat) : Int)) := fun w => z (c0.mpr w); omega)]
        exact qq_none h1
  · rw [e, sn_bs, if_neg ne10, jr_isC0 h1.2.2.2.2.1.1 h.1 hx, sn_bs, if_pos rfl]
    exact qq_none h1
theorem q_sung (h : jq o H N W M K S T) (a b : Int32) : qq H W M K S T (f_X11_sung a b S) (f_X12_sung a b T) := by
  unfold f_X11_sung f_X12_sung
  have h1 := jq_thr (v := 0) h
  rw [sn_let]
  have c0 : (b < 0) ↔ b.toInt < ((0 : Nat) : Int) := lt_i rfl
  have c1 : (b ≤ 1) ↔ b.toInt ≤ ((1 : Nat) : Int) := le_i rfl
  refine qq_tr ax_fr.rf (jr_thr (v := 0)) ?_
  rcases jc_noC h.2.2.1.1 h.1 a with ⟨v, hv, rfl, e⟩ | ⟨hx, e⟩
  · have f := jq_n h hv
    rw [e, sn_bs, if_pos rfl, jr_isC h1.2.2.2.2.1.1 h.1 hv, sn_bs, if_neg ne10]
    rcases rg i_0 i_1 b with ⟨n, n1, n2, rfl, q⟩ | ⟨n1, q⟩
    · rw [nIi (by omega)] at c0 c1
      have hS := h1.2.2.2.1
      have hR := h1.2.2.2.2.2
      have eh := jc_hards h1.2.2.1.1 h.1 hv
      rw [(by omega : 16 + 7 * v + 1 = 17 + 7 * v)] at eh
      obtain ⟨Z, Y, z1, y1, z2, y2, y3, hq⟩ := jq_b h1 (v := v) (a := H (17 + 7 * v)) (t := N (2 * v)) (g := N 17) (s := 1 - n) (d := N 22) hv (by omega) (by omega) (by omega) (by omega) (by omega)
      have eB : f_X6_beatsSung 0 (nI v) (nI (1 - n)) S = some (nI (bt H W v (H (17 + 7 * v)) (N (2 * v)) (N 17) (1 - n) (N 22)), Z) := by
        unfold f_X6_beatsSung
        rw [eh, sn_bs, jc_titles hS (by omega), sn_bs, hS.2.2.2.1, hS.2.2.2.2.2.2.2.1, z1, ax_bu_s]
      rw [q, sn_bs, if_neg (fun z => absurd (c0.mp z) (by omega)), if_pos (c1.mpr (by omega)), if_neg ne10, (jr_ofw h1 hv).2.1, sn_bs, ix_e, sn_in (by omega) (by omega), sn_gd, in_17, sn_gd, in_22, sn_gd, nI_clamp (by omega), cl_17, cl_22, hR _ (by omega), hR 17 (by omega), hR 22 (by omega), sn_1, pk_sub n2, y1, ax_bu_s]
      rcases (by omega : n = 0 ∨ n = 1) with rfl | rfl
      · rw [if_pos (sn_0).symm, eB, ax_bu_s]
        exact ⟨_, Z, Y, rfl, rfl, z2, y2, y3⟩
      · rw [if_neg nen1]
        have eB' : f_X6_beatsSung 0 (nI v) 0 S = some (nI (bt H W v (H (17 + 7 * v)) (N (2 * v)) (N 17) (1 - 1) (N 22)), Z) := eB
        rw [eB', ax_bu_s]
        exact ⟨_, Z, Y, rfl, rfl, z2, y2, y3⟩
    · rw [q, sn_bs, if_pos rfl]
      by_cases z : b < 0
      · rw [if_pos z]; exact qq_none h1
      · rw [if_neg z, if_neg (fun z2 => by have := c1.mp z2; have w : ¬ (b.toInt < ((0 : Nat) : Int)) := fun w => z (c0.mpr w); omega)]
        exact qq_none h1
  · rw [e, sn_bs, if_neg ne10, jr_isC0 h1.2.2.2.2.1.1 h.1 hx, sn_bs, if_pos rfl]
    exact qq_none h1
theorem jc_noH (h : jq o H N W M K S T) : f_X11_noHouse S = some (if H 4 = 0 then 1 else 0) := by
  have h6 : H 4 ≤ 6 := h.1.2.2.2.2.1
  unfold f_X11_noHouse
  rw [h.2.2.1.1.2.1, h.2.2.1.1.2.2.2.2.2.1]
  have c : (nI (H 4) = (0 : Int32)) ↔ H 4 = 0 := nI_eq (b := 0) (by omega) (by omega)
  by_cases q : H 4 = 0
  · rw [if_pos (c.mpr q), if_pos q]
  · rw [if_neg (fun z => q (c.mp z)), if_neg q]
theorem jr_no0 (h : jq o H N W M K S T) : (ax_fi T 12 0 27 = (0 : Int32)) ↔ H 4 = 0 := by
  have h6 : H 4 ≤ 6 := h.1.2.2.2.2.1
  rw [h.2.2.2.2.1.1.2.1]
  exact nI_eq (b := 0) (by omega) (by omega)
theorem or_0 (x : Int32) : x ||| 0 = x := Int32.or_zero
theorem q_timedL {b : Int32} : ∀ d n p (m : Int32) S T, jq o H N W M K S T → p + d = H 4 → d < n → qq H W M K S T (f_X11_timed_L20 (fun (x14 : Int32) (S28 : AS) => some (x14, S28)) n b m (nI p) S) (f_X12_timed_L30 (fun (x11 : Int32) (S23 : AS) => some (x11, S23)) n b m (nI p) T)
  | 0, n + 1, p, m, S, T, h, hp, _ => by
    have h6 : H 4 ≤ 6 := h.1.2.2.2.2.1
    rw [f_X11_timed_L20, f_X12_timed_L30, h.2.2.1.1.2.1, h.2.2.1.1.2.2.2.2.2.1, h.2.2.2.2.1.1.2.1, if_pos ((nI_leI (by omega) (by omega)).mpr (by omega)), if_pos ((nI_leI (by omega) (by omega)).mpr (by omega))]
    exact qq_none h
  | d + 1, n + 1, p, m, S, T, h, hp, hn => by
    have h6 : H 4 ≤ 6 := h.1.2.2.2.2.1
    obtain ⟨Z, Y, z1, y1, z2, y2, y3, hq⟩ := jq_now h (v := p) (by omega)
    rw [f_X11_timed_L20, f_X12_timed_L30, h.2.2.1.1.2.1, h.2.2.1.1.2.2.2.2.2.1, h.2.2.2.2.1.1.2.1, if_neg (fun z => absurd ((nI_leI (by omega) (by omega)).mp z) (by omega)), if_neg (fun z => absurd ((nI_leI (by omega) (by omega)).mp z) (by omega)), z1, ax_bu_s, y1, ax_bu_s]
    by_cases e : nI (cn_b H W N p) = b
    · rw [if_pos e, if_pos e, sn_let, sn_let, sn_let, sn_let, nI_1]
      exact qq_tr z2 y2 (q_timedL d n (p + 1) _ Z Y hq (by omega) (by omega))
    · rw [if_neg e, if_neg e, sn_let, sn_let, sn_let, nI_1, or_0]
      exact qq_tr z2 y2 (q_timedL d n (p + 1) _ Z Y hq (by omega) (by omega))
theorem q_timed (h : jq o H N W M K S T) (b : Int32) : qq H W M K S T (f_X11_timed b S) (f_X12_timed b T) := by
  unfold f_X11_timed f_X12_timed
  have h1 := jq_thr (v := 0) h
  have h6 : H 4 ≤ 6 := h.1.2.2.2.2.1
  rw [sn_let, jc_noH h, sn_bs]
  refine qq_tr ax_fr.rf (jr_thr (v := 0)) ?_
  have c1 : (b < 1) ↔ b.toInt < ((1 : Nat) : Int) := lt_i rfl
  have c60 : (b ≤ 60) ↔ b.toInt ≤ ((60 : Nat) : Int) := le_i rfl
  by_cases h0 : H 4 = 0
  · rw [if_pos h0, if_neg ne10, if_pos ((jr_no0 h1).mpr h0)]
    exact qq_none h1
  · rw [if_neg h0, if_pos rfl, if_neg (fun z => h0 ((jr_no0 h1).mp z))]
    unfold f_X11_outOfBeats
    rcases rg i_1 i_60 b with ⟨n, n1, n2, rfl, q⟩ | ⟨n1, q⟩
    · rw [nIi (by omega)] at c1 c60
      rw [q, sn_bs, if_neg ne10, if_neg (fun z => absurd (c1.mp z) (by omega)), if_pos (c60.mpr (by omega)), sn_bs, if_pos rfl]
      have w := q_timedL (b := nI n) (H 4) ax_F 0 0 S _ h1 (by omega) (by show _ < 1000000; omega)
      rw [← sn_0] at w
      exact w
    · rw [q, sn_bs, if_pos rfl]
      by_cases z : b < 1
      · rw [if_pos z, sn_bs, if_neg ne10]; exact qq_none h1
      · rw [if_neg z, if_neg (fun z2 => by have := c60.mp z2; have w : ¬ (b.toInt < ((1 : Nat) : Int)) := fun w => z (c1.mpr w); omega), sn_bs, if_neg ne10]
        exact qq_none h1
end

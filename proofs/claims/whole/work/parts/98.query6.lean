/-! QUERIES: all, put together -/
section
variable {S T S1 T1 : AS} {o : Nat} {H N : Nat → Nat} {W : Option (List la_C)} {M : Nat} {K : Nat → List la_C}
theorem qq_bu {x y : Option (Int32 × AS)} (h : qq H W M K S T x y) : qq H W M K S T (ax_bu x (fun r Z => some (r, Z))) (ax_bu y (fun r Z => some (r, Z))) := by
  obtain ⟨r, S', T', h1, h2, h3, h4, h5⟩ := h
  rw [h1, h2, ax_bu_s, ax_bu_s]
  exact ⟨r, S', T', rfl, rfl, h3, h4, h5⟩
theorem qq_bl {x y : Option (Int32 × AS)} (h : qq H W M K S T x y) : qq H W M K S T (ax_bu x (fun r Z => some (r, Z))) y := by
  obtain ⟨r, S', T', h1, h2, h3, h4, h5⟩ := h
  rw [h1, ax_bu_s]
  exact ⟨r, S', T', rfl, h2, h3, h4, h5⟩
theorem q_all (h : jq o H N W M K S T) (a : Int32) : qq H W M K S T (f_X11_all a S) (f_X12_all a T) := by
  have h1 := jq_thr (v := 0) h
  have h6 : H 4 ≤ 6 := h.1.2.2.2.2.1
  have h4 : H 3 ≤ 4 := h.1.2.2.2.1
  unfold f_X11_all f_X12_all
  rw [sn_let, jc_noH h, sn_bs]
  refine qq_tr ax_fr.rf (jr_thr (v := 0)) ?_
  by_cases h0 : H 4 = 0
  · rw [if_pos h0, if_neg ne10, if_pos ((jr_no0 h1).mpr h0)]
    exact qq_none h1
  · rw [if_neg h0, if_pos rfl, if_neg (fun z => h0 ((jr_no0 h1).mp z))]
    have hl : 0 < H 3 := by
      have := (h.1.2.2.2.2.2.2 0 (by omega)).2.2.2.2.2.2.2.1
      omega
    by_cases e0 : a = 0
    · subst e0
      rw [if_pos (rfl : (0 : Int32) = 0), if_pos (rfl : (0 : Int32) = 0)]
      rw [jc_left h1.2.2.1.1 (by omega) h1.2.2.2.1, sn_bs, in_r0, sn_gd, in_16, sn_gd, cl_r0, cl_16, h1.2.2.2.2.1.1.2.2.1 0 (by omega), h1.2.2.2.2.2 16 (by omega)]
      exact qq_none h1
    by_cases e1 : a = 1
    · subst e1
      rw [if_neg (by decide : ¬ ((1 : Int32) = 0)), if_neg (by decide : ¬ ((1 : Int32) = 0)), if_pos (rfl : (1 : Int32) = 1), if_pos (rfl : (1 : Int32) = 1)]
      have q := q_fore h1 (by omega) (w := 1) (by omega) (by omega)
      rw [← sn_1] at q
      exact qq_bu q
    by_cases e2 : a = 2
    · subst e2
      rw [if_neg (by decide : ¬ ((2 : Int32) = 0)), if_neg (by decide : ¬ ((2 : Int32) = 0)), if_neg (by decide : ¬ ((2 : Int32) = 1)), if_neg (by decide : ¬ ((2 : Int32) = 1)), if_pos (rfl : (2 : Int32) = 2), if_pos (rfl : (2 : Int32) = 2)]
      have q := q_fore h1 (by omega) (w := 2) (by omega) (by omega)
      rw [← sn_2] at q
      exact qq_bu q
    by_cases e3 : a = 3
    · subst e3
      rw [if_neg (by decide : ¬ ((3 : Int32) = 0)), if_neg (by decide : ¬ ((3 : Int32) = 0)), if_neg (by decide : ¬ ((3 : Int32) = 1)), if_neg (by decide : ¬ ((3 : Int32) = 1)), if_neg (by decide : ¬ ((3 : Int32) = 2)), if_neg (by decide : ¬ ((3 : Int32) = 2)), if_pos (rfl : (3 : Int32) = 3), if_pos (rfl : (3 : Int32) = 3)]
      have q := q_fore h1 (by omega) (w := 3) (by omega) (by omega)
      rw [← sn_3] at q
      exact qq_bu q
    by_cases e4 : a = 4
    · subst e4
      rw [if_neg (by decide : ¬ ((4 : Int32) = 0)), if_neg (by decide : ¬ ((4 : Int32) = 0)), if_neg (by decide : ¬ ((4 : Int32) = 1)), if_neg (by decide : ¬ ((4 : Int32) = 1)), if_neg (by decide : ¬ ((4 : Int32) = 2)), if_neg (by decide : ¬ ((4 : Int32) = 2)), if_neg (by decide : ¬ ((4 : Int32) = 3)), if_neg (by decide : ¬ ((4 : Int32) = 3)), if_pos (rfl : (4 : Int32) = 4), if_pos (rfl : (4 : Int32) = 4)]
      have q := q_fore h1 (by omega) (w := 4) (by omega) (by omega)
      rw [← sn_4] at q
      exact qq_bu q
    by_cases e5 : a = 5
    · subst e5
      rw [if_neg (by decide : ¬ ((5 : Int32) = 0)), if_neg (by decide : ¬ ((5 : Int32) = 0)), if_neg (by decide : ¬ ((5 : Int32) = 1)), if_neg (by decide : ¬ ((5 : Int32) = 1)), if_neg (by decide : ¬ ((5 : Int32) = 2)), if_neg (by decide : ¬ ((5 : Int32) = 2)), if_neg (by decide : ¬ ((5 : Int32) = 3)), if_neg (by decide : ¬ ((5 : Int32) = 3)), if_neg (by decide : ¬ ((5 : Int32) = 4)), if_neg (by decide : ¬ ((5 : Int32) = 4)), if_pos (rfl : (5 : Int32) = 5), if_pos (rfl : (5 : Int32) = 5)]
      have q := q_fore h1 (by omega) (w := 5) (by omega) (by omega)
      rw [← sn_5] at q
      exact qq_bu q
    by_cases e6 : a = 6
    · subst e6
      rw [if_neg (by decide : ¬ ((6 : Int32) = 0)), if_neg (by decide : ¬ ((6 : Int32) = 0)), if_neg (by decide : ¬ ((6 : Int32) = 1)), if_neg (by decide : ¬ ((6 : Int32) = 1)), if_neg (by decide : ¬ ((6 : Int32) = 2)), if_neg (by decide : ¬ ((6 : Int32) = 2)), if_neg (by decide : ¬ ((6 : Int32) = 3)), if_neg (by decide : ¬ ((6 : Int32) = 3)), if_neg (by decide : ¬ ((6 : Int32) = 4)), if_neg (by decide : ¬ ((6 : Int32) = 4)), if_neg (by decide : ¬ ((6 : Int32) = 5)), if_neg (by decide : ¬ ((6 : Int32) = 5)), if_pos (rfl : (6 : Int32) = 6), if_pos (rfl : (6 : Int32) = 6)]
      obtain ⟨r, r1, r2⟩ := q_keenL h1 (H 3 - 1) ax_F 1 0 (by omega) (by show _ < 1000000; omega) (by omega)
      rw [← sn_0, ← sn_1] at r1 r2
      unfold f_X11_keenest f_X12_keenest
      rw [r1, sn_bs, r2, sn_bs]
      exact qq_none h1
    by_cases e7 : a = 7
    · subst e7
      rw [if_neg (by decide : ¬ ((7 : Int32) = 0)), if_neg (by decide : ¬ ((7 : Int32) = 0)), if_neg (by decide : ¬ ((7 : Int32) = 1)), if_neg (by decide : ¬ ((7 : Int32) = 1)), if_neg (by decide : ¬ ((7 : Int32) = 2)), if_neg (by decide : ¬ ((7 : Int32) = 2)), if_neg (by decide : ¬ ((7 : Int32) = 3)), if_neg (by decide : ¬ ((7 : Int32) = 3)), if_neg (by decide : ¬ ((7 : Int32) = 4)), if_neg (by decide : ¬ ((7 : Int32) = 4)), if_neg (by decide : ¬ ((7 : Int32) = 5)), if_neg (by decide : ¬ ((7 : Int32) = 5)), if_neg (by decide : ¬ ((7 : Int32) = 6)), if_neg (by decide : ¬ ((7 : Int32) = 6)), if_pos (rfl : (7 : Int32) = 7), if_pos (rfl : (7 : Int32) = 7)]
      have q := q_dueL (H 4) ax_F 0 0 S _ h1 (by omega) (by show _ < 1000000; omega)
      rw [← sn_0] at q
      unfold f_X11_dueCallers
      exact qq_bl q
    by_cases e8 : a = 8
    · subst e8
      rw [if_neg (by decide : ¬ ((8 : Int32) = 0)), if_neg (by decide : ¬ ((8 : Int32) = 0)), if_neg (by decide : ¬ ((8 : Int32) = 1)), if_neg (by decide : ¬ ((8 : Int32) = 1)), if_neg (by decide : ¬ ((8 : Int32) = 2)), if_neg (by decide : ¬ ((8 : Int32) = 2)), if_neg (by decide : ¬ ((8 : Int32) = 3)), if_neg (by decide : ¬ ((8 : Int32) = 3)), if_neg (by decide : ¬ ((8 : Int32) = 4)), if_neg (by decide : ¬ ((8 : Int32) = 4)), if_neg (by decide : ¬ ((8 : Int32) = 5)), if_neg (by decide : ¬ ((8 : Int32) = 5)), if_neg (by decide : ¬ ((8 : Int32) = 6)), if_neg (by decide : ¬ ((8 : Int32) = 6)), if_neg (by decide : ¬ ((8 : Int32) = 7)), if_neg (by decide : ¬ ((8 : Int32) = 7)), if_pos (rfl : (8 : Int32) = 8), if_pos (rfl : (8 : Int32) = 8)]
      have q := q_readyL (H 4) ax_F 0 0 S _ h1 (by omega) (by show _ < 1000000; omega)
      rw [← sn_0] at q
      unfold f_X11_readyCallers
      exact qq_bl q
    by_cases e9 : a = 9
    · subst e9
      rw [if_neg (by decide : ¬ ((9 : Int32) = 0)), if_neg (by decide : ¬ ((9 : Int32) = 0)), if_neg (by decide : ¬ ((9 : Int32) = 1)), if_neg (by decide : ¬ ((9 : Int32) = 1)), if_neg (by decide : ¬ ((9 : Int32) = 2)), if_neg (by decide : ¬ ((9 : Int32) = 2)), if_neg (by decide : ¬ ((9 : Int32) = 3)), if_neg (by decide : ¬ ((9 : Int32) = 3)), if_neg (by decide : ¬ ((9 : Int32) = 4)), if_neg (by decide : ¬ ((9 : Int32) = 4)), if_neg (by decide : ¬ ((9 : Int32) = 5)), if_neg (by decide : ¬ ((9 : Int32) = 5)), if_neg (by decide : ¬ ((9 : Int32) = 6)), if_neg (by decide : ¬ ((9 : Int32) = 6)), if_neg (by decide : ¬ ((9 : Int32) = 7)), if_neg (by decide : ¬ ((9 : Int32) = 7)), if_neg (by decide : ¬ ((9 : Int32) = 8)), if_neg (by decide : ¬ ((9 : Int32) = 8)), if_pos (rfl : (9 : Int32) = 9), if_pos (rfl : (9 : Int32) = 9)]
      have q := q_ballL (H 4) ax_F 0 0 S _ h1 (by omega) (by show _ < 1000000; omega)
      rw [← sn_0] at q
      unfold f_X11_beatsOfAll
      exact qq_bl q
    rw [if_neg e0, if_neg e0, if_neg e1, if_neg e1, if_neg e2, if_neg e2, if_neg e3, if_neg e3, if_neg e4, if_neg e4, if_neg e5, if_neg e5, if_neg e6, if_neg e6, if_neg e7, if_neg e7, if_neg e8, if_neg e8, if_neg e9, if_neg e9]
    exact qq_none h1
end

/-! QUERIES: rests -/
abbrev jc_sc2 : List (Nat × Nat × Nat) := [(4, 43, 0), (4, 32, 0), (4, 31, 0), (0, 5, 3)]
def qr (H : Nat → Nat) (W : Option (List la_C)) (M : Nat) (K : Nat → List la_C) (S T : AS) (x y : Option (Int32 × AS)) : Prop := ∃ r S' T', x = some (r, S') ∧ y = some (r, T') ∧ ax_fr jc_sc2 S S' ∧ ax_fr jr_q T T' ∧ jr_C T' H M K W
section
variable {S T S1 T1 : AS} {o : Nat} {H N : Nat → Nat} {W : Option (List la_C)} {M : Nat} {K : Nat → List la_C}
theorem jc_sc2_of (h : ax_fr jc_scr S S1) : ax_fr jc_sc2 S S1 := h.mono (by decide)
theorem jc_H_fr2 (h : ax_fr jc_sc2 S S1) (hH : jc_H S o H) : jc_H S1 o H := by
  obtain ⟨h0, h1, h2, h3, h4, h5, h6, h7, h8⟩ := hH
  obtain ⟨f1, f2, f3, f4, f5, f6⟩ := h
  refine ⟨h0, ?_, ?_, ?_, ?_, ?_, ?_, ?_, ?_⟩
  · rw [f3 11 0 14 (by decide)]; exact h1
  · rw [f3 11 0 15 (by decide)]; exact h2
  · rw [f4 6 0 1 (by decide)]; exact h3
  · rw [f1 4 o 4 (by decide)]; exact h4
  · rw [f1 4 o 5 (by decide)]; exact h5
  · rw [f5 27 o (by decide)]; exact h6
  · rw [f5 28 o (by decide)]; exact h7
  · rw [f5 29 o (by decide)]; exact h8
theorem jc_S_fr2 {i : Nat} (h : ax_fr jc_sc2 S S1) (hS : jc_S S i N) : jc_S S1 i N := by
  obtain ⟨h0, h1, h2, h3, h4, h5, h6, h7, h8, h9⟩ := hS
  obtain ⟨f1, f2, f3, f4, f5, f6⟩ := h
  refine ⟨?_, ?_, ?_, ?_, ?_, ?_, ?_, ?_, ?_, ?_⟩
  · rw [f1 9 i 0 (by decide)]; exact h0
  · rw [f1 9 i 1 (by decide)]; exact h1
  · rw [f1 9 i 2 (by decide)]; exact h2
  · rw [f1 9 i 3 (by decide)]; exact h3
  · rw [f1 9 i 4 (by decide)]; exact h4
  · rw [f1 9 i 5 (by decide)]; exact h5
  · rw [f1 9 i 6 (by decide)]; exact h6
  · rw [f1 9 i 7 (by decide)]; exact h7
  · rw [f5 38 i (by decide)]; exact h8
  · rw [f5 39 i (by decide)]; exact h9
theorem jc_W_fr2 (h : ax_fr jc_sc2 S S1) (hW : jc_W S W) : jc_W S1 W := by
  match W, hW with
  | none, hW => exact (h.2.2.2.1 6 0 2 (by decide)).trans hW
  | some cs, ⟨hd, y, h1, ⟨a1, a2, a3, a4⟩⟩ =>
    refine ⟨hd, y, (h.2.2.2.1 6 0 2 (by decide)).trans h1, a1, fun j hj => ?_, ?_, a4⟩
    · rw [h.2.2.2.2.1 30 y (by decide)]; exact a2 j hj
    · rw [h.1 5 y 2 (by decide)]; exact a3
theorem jq_fr2 (h : jq o H N W M K S T) (hs : ax_fr jc_sc2 S S1) (ht : ax_fr jr_q T T1) (hC : jr_C T1 H M K W) : jq o H N W M K S1 T1 := ⟨h.1, h.2.1, ⟨jc_H_fr2 hs h.2.2.1.1, jc_W_fr2 hs h.2.2.1.2⟩, jc_S_fr2 hs h.2.2.2.1, hC, by rw [jr_q55 ht]; exact h.2.2.2.2.2⟩
/-- the prizes' row -/
def pr_ok (S : AS) (H : Nat → Nat) (W : Option (List la_C)) (N : Nat → Nat) (v w p : Nat) : Prop := ∀ t, t < p → ax_ai S 43 0 t = nI (pz H W N v t 0) ∧ ax_ai S 43 0 (4 + t) = nI (pz H W N w t 1)
theorem pr_fr {v w p : Nat} (hs : ax_fr jc_scr S S1) (h : pr_ok S H W N v w p) : pr_ok S1 H W N v w p := fun t ht => by
  rw [hs.2.2.2.2.1 43 0 (by decide)]; exact h t ht
theorem pr_L {v w : Nat} (hv : v < H 4) (hw : w < H 4) {c : Int32} {Kc : Int32 → AS → Option (Int32 × AS)} : ∀ d n p S T, jq o H N W M K S T → pr_ok S H W N v w p → p + d = 4 → d < n → ∃ Z, f_X11_rests_L14 Kc n (nI v) (nI w) c (nI p) S = Kc c Z ∧ ax_fr jc_sc2 S Z ∧ pr_ok Z H W N v w 4
  | 0, n + 1, p, S, T, h, hr, hp, _ => by
    obtain rfl : p = 4 := by omega
    rw [f_X11_rests_L14, if_pos (by decide)]
    exact ⟨S, rfl, ax_fr.rf, hr⟩
  | d + 1, n + 1, p, S, T, h, hr, hp, hn => by
    have c3 : ((3 : Int32) < nI p) ↔ 3 < p := nI_ltI (a := 3) (by omega) (by omega)
    obtain ⟨Z1, _, z1, _, z2, _, _, _⟩ := jq_prize h (t := p) (z := 0) hv (by omega) (by omega)
    rw [← sn_0] at z1
    have f1 : ax_fr jc_sc2 S (ax_sai Z1 43 0 p (nI (pz H W N v p 0))) := (jc_sc2_of z2).tr (ax_fr_sai (by decide))
    have h1 : jq o H N W M K (ax_sai Z1 43 0 p (nI (pz H W N v p 0))) T := jq_fr2 h f1 ax_fr.rf h.2.2.2.2.1
    obtain ⟨Z2, _, y1, _, y2, _, _, _⟩ := jq_prize h1 (t := p) (z := 1) hw (by omega) (by omega)
    rw [← sn_1] at y1
    have f2 : ax_fr jc_sc2 S (ax_sai Z2 43 0 (4 + p) (nI (pz H W N w p 1))) := (f1.tr (jc_sc2_of y2)).tr (ax_fr_sai (by decide))
    have h2 : jq o H N W M K (ax_sai Z2 43 0 (4 + p) (nI (pz H W N w p 1))) T := jq_fr2 h f2 ax_fr.rf h.2.2.2.2.1
    have r2 : pr_ok (ax_sai Z2 43 0 (4 + p) (nI (pz H W N w p 1))) H W N v w (p + 1) := fun t ht => by
      rw [sga, sga, y2.2.2.2.2.1 43 0 (by decide), sga, sga, z2.2.2.2.2.1 43 0 (by decide)]
      by_cases e : t = p
      · subst e
        rw [if_neg (by omega), if_pos rfl, if_pos rfl]
        exact ⟨rfl, rfl⟩
      · rw [if_neg (by omega), if_neg e, if_neg (by omega), if_neg (by omega)]
        exact hr t (by omega)
    have i4 : (4 : Int32) + nI p = nI (4 + p) := by rw [sn_4, nI_add]
    rw [f_X11_rests_L14, if_neg (fun z => absurd (c3.mp z) (by omega)), z1, ax_bu_s, sn_in (by omega) (by omega), sn_gd, sn_let, nI_clamp (by omega), y1, ax_bu_s, i4, sn_in (by omega) (by omega), sn_gd, sn_let, nI_clamp (by omega), sn_let, nI_1]
    obtain ⟨Z, w1, w2, w3⟩ := pr_L hv hw d n (p + 1) _ T h2 r2 (by omega) (by omega)
    exact ⟨Z, w1, f2.tr w2, w3⟩
/-- one's best answer -/
theorem ib_L {v x y z f : Nat} {g : Int32} (hrow : ∀ t, t < 4 → ax_ai S 43 0 (f + t) = nI (pz H W N v t z)) (hf : f ≤ 4) : ∀ d n p, p + d = 4 → d < n → ((∀ t, p ≤ t → t < 4 → gv H W N v t y z ≤ g) ∧ f_X11_isBestAnswer_L18 S n (nI f) (nI y) g (nI p) = some 1) ∨ ((∃ t, p ≤ t ∧ t < 4 ∧ ¬ (gv H W N v t y z ≤ g)) ∧ f_X11_isBestAnswer_L18 S n (nI f) (nI y) g (nI p) = some 0)
  | 0, n + 1, p, hp, _ => by
    obtain rfl : p = 4 := by omega
    rw [f_X11_isBestAnswer_L18, if_pos (by decide)]
    exact .inl ⟨fun t a b => absurd a (by omega), rfl⟩
  | d + 1, n + 1, p, hp, hn => by
    have c3 : ((3 : Int32) < nI p) ↔ 3 < p := nI_ltI (a := 3) (by omega) (by omega)
    have es : f_X11_share (nI (pz H W N v p z)) (nI p) (nI y) S = some (gv H W N v p y z) := by
      unfold f_X11_share gv
      split <;> rfl
    rw [f_X11_isBestAnswer_L18, if_neg (fun q => absurd (c3.mp q) (by omega)), nI_add, sn_in (by omega) (by omega), sn_gd, nI_clamp (by omega), hrow p (by omega), es, sn_bs]
    by_cases e : gv H W N v p y z ≤ g
    · rw [if_pos e, sn_let, nI_1]
      rcases ib_L (x := x) hrow hf d n (p + 1) (by omega) (by omega) with ⟨a, b⟩ | ⟨⟨t, a1, a2, a3⟩, b⟩
      · refine .inl ⟨fun t t1 t2 => ?_, b⟩
        by_cases q : t = p
        · subst q; exact e
        · exact a t (by omega) t2
      · exact .inr ⟨⟨t, by omega, a2, a3⟩, b⟩
    · rw [if_neg e]
      exact .inr ⟨⟨p, Nat.le_refl _, by omega, e⟩, rfl⟩
theorem ib {v x y z f : Nat} (hrow : ∀ t, t < 4 → ax_ai S 43 0 (f + t) = nI (pz H W N v t z)) (hf : f ≤ 4) (hx : x ≤ 3) : ((∀ t, t < 4 → gv H W N v t y z ≤ gv H W N v x y z) ∧ f_X11_isBestAnswer (nI f) (nI x) (nI y) S = some 1) ∨ (¬ (∀ t, t < 4 → gv H W N v t y z ≤ gv H W N v x y z) ∧ f_X11_isBestAnswer (nI f) (nI x) (nI y) S = some 0) := by
  have es : f_X11_share (nI (pz H W N v x z)) (nI x) (nI y) S = some (gv H W N v x y z) := by
    unfold f_X11_share gv
    split <;> rfl
  have q := ib_L (S := S) (x := x) (y := y) (g := gv H W N v x y z) hrow hf 4 ax_F 0 (by omega) (by show _ < 1000000; omega)
  rw [← sn_0] at q
  unfold f_X11_isBestAnswer
  rw [nI_add, sn_in (by omega) (by omega), sn_gd, nI_clamp (by omega), hrow x (by omega), es, sn_bs]
  rcases q with ⟨a, b⟩ | ⟨⟨t, a1, a2, a3⟩, b⟩
  · exact .inl ⟨fun t ht => a t (by omega) ht, b⟩
  · exact .inr ⟨fun q => a3 (q t a2), b⟩
/-- a rest -/
def rst (H : Nat → Nat) (W : Option (List la_C)) (N : Nat → Nat) (v w x y : Nat) : Prop := (∀ t, t < 4 → gv H W N v t y 0 ≤ gv H W N v x y 0) ∧ ∀ t, t < 4 → gv H W N w t x 1 ≤ gv H W N w y x 1
def rsk (H : Nat → Nat) (W : Option (List la_C)) (N : Nat → Nat) (v w x y p : Nat) : Prop := ∀ t, p ≤ t → t < 4 → gv H W N v t y 0 ≤ gv H W N v x y 0 ∧ gv H W N w t x 1 ≤ gv H W N w y x 1
theorem jq_g0 (h : jq o H N W M K S T) {v w x y : Nat} (hv : v < H 4) (hw : w < H 4) (hx : x ≤ 3) (hy : y ≤ 3) : ∃ Y, f_X12_gameOf (nI v) (nI w) (nI x) (nI y) 0 T = some (gv H W N v x y 0, Y) ∧ ax_fr jr_q T Y ∧ jr_C Y H M K W ∧ jq o H N W M K S Y := by
  obtain ⟨_, Y, _, y1, _, y2, y3, _⟩ := jq_game h hv hw hx hy (z := 0) (by omega)
  rw [← sn_0] at y1
  exact ⟨Y, y1, y2, y3, jq_fr h ax_fr.rf y2 y3⟩
theorem jq_g1 (h : jq o H N W M K S T) {v w x y : Nat} (hv : v < H 4) (hw : w < H 4) (hx : x ≤ 3) (hy : y ≤ 3) : ∃ Y, f_X12_gameOf (nI v) (nI w) (nI x) (nI y) 1 T = some (gv H W N w y x 1, Y) ∧ ax_fr jr_q T Y ∧ jr_C Y H M K W ∧ jq o H N W M K S Y := by
  obtain ⟨_, Y, _, y1, _, y2, y3, _⟩ := jq_game h hv hw hx hy (z := 1) (by omega)
  rw [← sn_1] at y1
  exact ⟨Y, y1, y2, y3, jq_fr h ax_fr.rf y2 y3⟩
theorem rk_L {v w x y : Nat} (hv : v < H 4) (hw : w < H 4) (hx : x ≤ 3) (hy : y ≤ 3) {c m : Int32} {Kr : Int32 → Int32 → Int32 → Int32 → Int32 → Int32 → Int32 → AS → Option (Int32 × AS)} : ∀ d n p (b : Int32) S T, jq o H N W M K S T → p + d = 4 → d < n → (b = 0 ∨ b = 1) → ∃ r Y, f_X12_rests_L48 Kr n (nI v) (nI w) c m (nI x) (nI y) b (nI p) T = Kr (nI v) (nI w) c m (nI x) (nI y) r Y ∧ ax_fr jr_q T Y ∧ jr_C Y H M K W ∧ ((b = 1 ∧ rsk H W N v w x y p ∧ r = 1) ∨ (¬ (b = 1 ∧ rsk H W N v w x y p) ∧ r = 0))
  | 0, n + 1, p, b, S, T, h, hp, _, hb => by
    obtain rfl : p = 4 := by omega
    rw [f_X12_rests_L48, if_pos (by decide)]
    refine ⟨b, T, rfl, ax_fr.rf, h.2.2.2.2.1, ?_⟩
    rcases hb with rfl | rfl
    · exact .inr ⟨fun q => absurd q.1 (by decide), rfl⟩
    · exact .inl ⟨rfl, fun t a b => absurd a (by omega), rfl⟩
  | d + 1, n + 1, p, b, S, T, h, hp, hn, hb => by
    have c4 : ((4 : Int32) ≤ nI p) ↔ 4 ≤ p := nI_leI (a := 4) (by omega) (by omega)
    rw [f_X12_rests_L48, if_neg (fun q => absurd (c4.mp q) (by omega))]
    rcases hb with rfl | rfl
    · rw [if_pos rfl, sn_let, nI_1]
      obtain ⟨r, Y, w1, w2, w3, w4⟩ := rk_L hv hw hx hy d n (p + 1) 0 S T h (by omega) (by omega) (.inl rfl)
      refine ⟨r, Y, w1, w2, w3, .inr ⟨fun q => absurd q.1 (by decide), ?_⟩⟩
      rcases w4 with ⟨q, _⟩ | ⟨_, q⟩
      · exact absurd q (by decide)
      · exact q
    · obtain ⟨Y1, a1, a2, a3, a4⟩ := jq_g0 h hv hw (x := p) (y := y) (by omega) hy
      obtain ⟨Y2, b1, b2, b3, b4⟩ := jq_g0 a4 hv hw (x := x) (y := y) hx hy
      rw [if_neg ne10, a1, ax_bu_s, b1, ax_bu_s]
      by_cases e1 : gv H W N v x y 0 < gv H W N v p y 0
      · rw [if_pos e1, sn_let, nI_1]
        obtain ⟨r, Y, w1, w2, w3, w4⟩ := rk_L hv hw hx hy d n (p + 1) 0 S Y2 b4 (by omega) (by omega) (.inl rfl)
        refine ⟨r, Y, w1, (a2.tr b2).tr w2, w3, .inr ⟨fun q => ?_, ?_⟩⟩
        · exact absurd (q.2 p (Nat.le_refl _) (by omega)).1 (Int32.not_le.mpr e1)
        · rcases w4 with ⟨q, _⟩ | ⟨_, q⟩
          · exact absurd q (by decide)
          · exact q
      · obtain ⟨Y3, c1, c2, c3, c5⟩ := jq_g1 b4 hv hw (x := x) (y := p) hx (by omega)
        obtain ⟨Y4, d1, d2, d3, d4⟩ := jq_g1 c5 hv hw (x := x) (y := y) hx hy
        rw [if_neg e1, c1, ax_bu_s, d1, ax_bu_s]
        by_cases e2 : gv H W N w y x 1 < gv H W N w p x 1
        · rw [if_pos e2, sn_let, nI_1]
          obtain ⟨r, Y, w1, w2, w3, w4⟩ := rk_L hv hw hx hy d n (p + 1) 0 S Y4 d4 (by omega) (by omega) (.inl rfl)
          refine ⟨r, Y, w1, (((a2.tr b2).tr c2).tr d2).tr w2, w3, .inr ⟨fun q => ?_, ?_⟩⟩
          · exact absurd (q.2 p (Nat.le_refl _) (by omega)).2 (Int32.not_le.mpr e2)
          · rcases w4 with ⟨q, _⟩ | ⟨_, q⟩
            · exact absurd q (by decide)
            · exact q
        · rw [if_neg e2, sn_let, nI_1]
          obtain ⟨r, Y, w1, w2, w3, w4⟩ := rk_L hv hw hx hy d n (p + 1) 1 S Y4 d4 (by omega) (by omega) (.inr rfl)
          refine ⟨r, Y, w1, (((a2.tr b2).tr c2).tr d2).tr w2, w3, ?_⟩
          rcases w4 with ⟨_, q, rfl⟩ | ⟨q, rfl⟩
          · refine .inl ⟨rfl, fun t t1 t2 => ?_, rfl⟩
            by_cases u : t = p
            · subst u; exact ⟨Int32.not_lt.mp e1, Int32.not_lt.mp e2⟩
            · exact q t (by omega) t2
          · exact .inr ⟨fun z => q ⟨rfl, fun t t1 t2 => z.2 t (by omega) t2⟩, rfl⟩
end

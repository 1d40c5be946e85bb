/-! THE CLASS: how long a name takes -/
abbrev jc_scr : List (Nat × Nat × Nat) := [(4, 32, 0), (4, 31, 0), (0, 5, 3)]
section
variable {S Z : AS} {o : Nat} {H : Nat → Nat} {W : Option (List la_C)}
theorem jc_H_fr (h : ax_fr jc_scr S Z) (hH : jc_H S o H) : jc_H Z o H := by
  obtain ⟨h0, h1, h2, h3, h4, h5, h6, h7, h8⟩ := hH
  obtain ⟨f1, f2, f3, f4, f5, f6⟩ := h
  refine ⟨h0, ?_, ?_, ?_, ?_, ?_, ?_, ?_, ?_⟩
  · rw [f3 11 0 14 (by decide)]; exact h1
  · rw [f3 11 0 15 (by decide)]; exact h2
  · rw [f4 6 0 1 (by decide)]; exact h3
  · rw [f1 4 o 4 (by decide)]; exact h4
  · rw [f1 4 o 5 (by decide)]; exact h5
  · rw [f5 27 o (by decide)]; exact h6
  · rw [f5 28 o (by decide)]; exact h7
  · rw [f5 29 o (by decide)]; exact h8
theorem jc_S_fr {i : Nat} {N : Nat → Nat} (h : ax_fr jc_scr S Z) (hS : jc_S S i N) : jc_S Z i N := by
  obtain ⟨h0, h1, h2, h3, h4, h5, h6, h7, h8, h9⟩ := hS
  obtain ⟨f1, f2, f3, f4, f5, f6⟩ := h
  refine ⟨?_, ?_, ?_, ?_, ?_, ?_, ?_, ?_, ?_, ?_⟩
  · rw [f1 9 i 0 (by decide)]; exact h0
  · rw [f1 9 i 1 (by decide)]; exact h1
  · rw [f1 9 i 2 (by decide)]; exact h2
  · rw [f1 9 i 3 (by decide)]; exact h3
  · rw [f1 9 i 4 (by decide)]; exact h4
  · rw [f1 9 i 5 (by decide)]; exact h5
  · rw [f1 9 i 6 (by decide)]; exact h6
  · rw [f1 9 i 7 (by decide)]; exact h7
  · rw [f5 38 i (by decide)]; exact h8
  · rw [f5 39 i (by decide)]; exact h9
theorem jc_la_fr {y : Nat} {cs : List la_C} (h : ax_fr jc_scr S Z) (hL : la_H S y cs) : la_H Z y cs := by
  obtain ⟨h1, h2, h3, h4⟩ := hL
  obtain ⟨f1, f2, f3, f4, f5, f6⟩ := h
  refine ⟨h1, fun j hj => ?_, ?_, h4⟩
  · rw [f5 30 y (by decide)]; exact h2 j hj
  · rw [f1 5 y 2 (by decide)]; exact h3
theorem jc_W_fr (h : ax_fr jc_scr S Z) (hW : jc_W S W) : jc_W Z W := by
  match W, hW with
  | none, hW => exact (h.2.2.2.1 6 0 2 (by decide)).trans hW
  | some cs, ⟨hd, y, h1, h2⟩ => exact ⟨hd, y, (h.2.2.2.1 6 0 2 (by decide)).trans h1, jc_la_fr h h2⟩
theorem bt_fin {x : Int32} {S : AS} : (f_J9_min_7cf53 60 x S).bind (fun r => (f_J9_max_7cf53 1 r S).bind (fun q => some (q, S))) = some (nI (bt_c x), S) := by
  have hsm := bt_c_s (S := S) (x := x)
  cases hr : f_J9_min_7cf53 60 x S with
  | none => rw [hr] at hsm; cases hsm
  | some r =>
    rw [hr] at hsm
    simp only [Option.bind_some] at hsm ⊢
    cases hq : f_J9_max_7cf53 1 r S with
    | none => rw [hq] at hsm; cases hsm
    | some q =>
      rw [hq] at hsm
      simp only [Option.bind_some, Option.some.injEq] at hsm ⊢
      rw [hsm]
theorem bt_w0 {v h t g d : Nat} : bt_w H none v h t g 0 d = nI (H (16 + 7 * v) + h * H 1 + 2 * t + g / 2) := by
  unfold bt_w
  show nI ((if 0 = 1 then _ else _) + _) = _
  rw [if_neg (by omega)]
theorem bt_w1 {v h t g d : Nat} : bt_w H none v h t g 1 d = nI ((H (16 + 7 * v) + h * H 1 + 2 * t) / 2 + g / 2) := by
  unfold bt_w
  show nI ((if 1 = 1 then _ else _) + _) = _
  rw [if_pos rfl]
theorem sn_n01 : ¬ (nI 0 = 1) := by decide
theorem jc_beats0 (hH : jc_H S o H) (ho : jh_ok H) (e2 : ax_fo S 6 0 2 = none) {v h t g s d : Nat} (hv : v < H 4) (hh : h ≤ 9) (ht : t ≤ 9) (hg : g ≤ 19) (hs : s ≤ 1) : f_X6_beats (nI v) (nI h) (nI t) (nI g) (nI s) (nI d) S = some (nI (bt H none v h t g s d), S) := by
  have e : ax_fo S 6 0 1 = some o := by rw [hH.2.2.2.1, if_neg (by omega)]
  have et := jc_trait hH ho hv (w := 0) (by omega)
  rw [Nat.add_zero, ← sn_0] at et
  have b1 := (ho.2.2.2.2.2.2 v hv)
  have b9 : H 1 ≤ 9 := ho.2.1
  have eh : f_X4_hardBeats o S = some (nI (H 1)) := by
    unfold f_X4_hardBeats
    rw [sn_1]
    simp (disch := omega) only [ax_gd, sn_in, nI_clamp, if_true]
    rw [hH.2.2.2.2.2.2.1 1 (by omega)]
  have hm : h * H 1 ≤ 81 := Nat.mul_le_mul hh b9
  unfold f_X6_beats
  rw [e, e2, sn_ons, et]
  rw [sn_bs, sn_onn, eh, sn_bs]
  simp only [ax_let, sn_2, pk_mul, nI_add]
  unfold bt
  rcases (by omega : s = 0 ∨ s = 1) with rfl | rfl
  · rw [if_neg sn_n01, pk_div (by omega) (by omega) (by omega), nI_add, ← bt_w0 (d := d)]
    exact bt_fin
  · rw [if_pos (sn_1).symm, pk_div (by omega) (by omega) (by omega), pk_div (by omega) (by omega) (by omega), nI_add, ← bt_w1 (d := d)]
    exact bt_fin
def jc_ltr (S : AS) (n h t g s d : Nat) : AS := ax_sai (ax_sai (ax_sai (ax_sai (ax_sai (ax_sai S 32 0 0 (nI n)) 32 0 1 (nI h)) 32 0 2 (nI t)) 32 0 3 (nI g)) 32 0 4 (nI s)) 32 0 5 (nI d)
theorem jc_ltr_fr {n h t g s d : Nat} : ax_fr jc_scr S (jc_ltr S n h t g s d) := (((((ax_fr_sai (by decide)).tr (ax_fr_sai (by decide))).tr (ax_fr_sai (by decide))).tr (ax_fr_sai (by decide))).tr (ax_fr_sai (by decide))).tr (ax_fr_sai (by decide))
theorem jc_ltr_r {n h t g s d k : Nat} (hk : k < 6) : ax_ai (jc_ltr S n h t g s d) 32 0 k = bt_r n h t g s d k := by
  unfold jc_ltr
  rcases (by omega : k = 0 ∨ k = 1 ∨ k = 2 ∨ k = 3 ∨ k = 4 ∨ k = 5) with rfl | rfl | rfl | rfl | rfl | rfl
  · simp [ax_ai, ax_sai, ax_u3, bt_r]
  · simp [ax_ai, ax_sai, ax_u3, bt_r]
  · simp [ax_ai, ax_sai, ax_u3, bt_r]
  · simp [ax_ai, ax_sai, ax_u3, bt_r]
  · simp [ax_ai, ax_sai, ax_u3, bt_r]
  · simp [ax_ai, ax_sai, ax_u3, bt_r]
theorem jc_beats1 {cs : List la_C} {y : Nat} (hH : jc_H S o H) (ho : jh_ok H) (hdc : la_dc cs) (e2 : ax_fo S 6 0 2 = some y) (hL : la_H S y cs) {v h t g s d : Nat} (hv : v < H 4) : ∃ Z, f_X6_beats (nI v) (nI h) (nI t) (nI g) (nI s) (nI d) S = some (nI (bt H (some cs) v h t g s d), Z) ∧ ax_fr jc_scr S Z := by
  have e : ax_fo S 6 0 1 = some o := by rw [hH.2.2.2.1, if_neg (by omega)]
  have et := jc_trait hH ho hv (w := 0) (by omega)
  rw [Nat.add_zero, ← sn_0] at et
  have f1 := jc_ltr_fr (S := S) (n := H (16 + 7 * v)) (h := h) (t := t) (g := g) (s := s) (d := d)
  obtain ⟨Z, z1, z2⟩ := la_worthS (jc_la_fr f1 hL)
  have ec : la_cv (ax_ai (jc_ltr S (H (16 + 7 * v)) h t g s d) 32 0) cs = bt_w H (some cs) v h t g s d := hdc _ _ (fun k hk => jc_ltr_r hk)
  rw [ec] at z2
  have e3 : ax_fo (jc_ltr S (H (16 + 7 * v)) h t g s d) 6 0 2 = some y := e2
  refine ⟨Z, ?_, f1.tr (z1.mono (by decide))⟩
  unfold f_X6_beats
  rw [e, e2, sn_ons, et]
  simp only [Option.bind_some, ax_let, sn_ons]
  have i0 : ax_in (0 : Int32) 6 = true := by decide
  have i1 : ax_in (1 : Int32) 6 = true := by decide
  have i2 : ax_in (2 : Int32) 6 = true := by decide
  have i3 : ax_in (3 : Int32) 6 = true := by decide
  have i4 : ax_in (4 : Int32) 6 = true := by decide
  have i5 : ax_in (5 : Int32) 6 = true := by decide
  have c0 : (0 : Int32).toNatClampNeg = 0 := rfl
  have c1 : (1 : Int32).toNatClampNeg = 1 := rfl
  have c2 : (2 : Int32).toNatClampNeg = 2 := rfl
  have c3 : (3 : Int32).toNatClampNeg = 3 := rfl
  have c4 : (4 : Int32).toNatClampNeg = 4 := rfl
  have c5 : (5 : Int32).toNatClampNeg = 5 := rfl
  simp only [ax_gd, i0, i1, i2, i3, i4, i5, if_true, c0, c1, c2, c3, c4, c5]
  unfold jc_ltr at e3 z2
  rw [e3, sn_ons, z2, ax_bu_s]
  unfold bt
  exact bt_fin
theorem jc_beats (hH : jc_H S o H) (ho : jh_ok H) (hW : jc_W S W) {v h t g s d : Nat} (hv : v < H 4) (hh : h ≤ 9) (ht : t ≤ 9) (hg : g ≤ 19) (hs : s ≤ 1) : ∃ Z, f_X6_beats (nI v) (nI h) (nI t) (nI g) (nI s) (nI d) S = some (nI (bt H W v h t g s d), Z) ∧ ax_fr jc_scr S Z := by
  match W, hW with
  | none, hW => exact ⟨S, jc_beats0 hH ho hW hv hh ht hg hs, ax_fr.rf⟩
  | some cs, ⟨hdc, y, e2, hL⟩ => exact jc_beats1 hH ho hdc e2 hL hv
end

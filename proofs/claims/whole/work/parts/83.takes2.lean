/-! THE REFERENCE: takes -/
abbrev jr_scr : List (Nat × Nat × Nat) := [(0, 12, 8), (0, 12, 9), (0, 12, 10), (0, 12, 11), (0, 12, 12), (0, 12, 13), (0, 12, 14), (0, 12, 17), (2, 12, 5), (4, 46, 0), (4, 58, 0), (5, 57, 0)]
section
variable {T Z : AS} {H : Nat → Nat} {M : Nat} {K : Nat → List la_C} {W : Option (List la_C)}
theorem jr_H_fr (h : ax_fr jr_scr T Z) (hH : jr_H T H) : jr_H Z H := by
  obtain ⟨h0, h1, h2, h3, h4⟩ := hH
  obtain ⟨f1, f2, f3, f4, f5, f6⟩ := h
  refine ⟨?_, ?_, ?_, ?_, ?_⟩
  · rw [f1 12 0 26 (by decide)]; exact h0
  · rw [f1 12 0 27 (by decide)]; exact h1
  · rw [f5 47 0 (by decide)]; exact h2
  · rw [f5 49 0 (by decide)]; exact h3
  · rw [f5 51 0 (by decide)]; exact h4
theorem jr_L_fr (h : ax_fr jr_scr T Z) (hL : jr_L T M K) : jr_L Z M K := by
  obtain ⟨h0, h1⟩ := hL
  obtain ⟨f1, f2, f3, f4, f5, f6⟩ := h
  refine ⟨h0, fun k hk => ?_⟩
  obtain ⟨b, n, a1, a2, a3, a4, a5⟩ := h1 k hk
  refine ⟨b, n, a1, ?_, ?_, a4, a5⟩
  · rw [f5 45 0 (by decide)]; exact a2
  · rw [f5 44 1 (by decide)]; exact a3
theorem jr_W_fr (h : ax_fr jr_scr T Z) (hW : jr_W T M K W) : jr_W Z M K W := by
  match W, hW with
  | none, hW => exact (h.1 12 0 34 (by decide)).trans hW
  | some cs, ⟨k, h1, h2, h3⟩ => exact ⟨k, h1, (h.1 12 0 34 (by decide)).trans h2, h3⟩
/-- all that a name's length needs of the reference -/
def jr_C (T : AS) (H : Nat → Nat) (M : Nat) (K : Nat → List la_C) (W : Option (List la_C)) : Prop := jr_H T H ∧ jr_L T M K ∧ jr_M T M K ∧ jr_lt T ∧ jr_W T M K W
theorem jr_takes (ho : jh_ok H) (hC : jr_C T H M K W) {v h t g s d : Nat} (hv : v < H 4) (hh : h ≤ 9) (ht : t ≤ 9) (hg : g ≤ 19) (hs : s ≤ 1) (hd : d ≤ 1999) : ∃ Z, f_X12_takes_ (nI v) (nI h) (nI t) (nI g) (nI s) (nI d) T = some (nI (bt H W v h t g s d), Z) ∧ ax_fr jr_scr T Z ∧ jr_C Z H M K W := by
  obtain ⟨hH, hL, hm, hlt, hW⟩ := hC
  have et := jr_of hH ho hv (w := 0) (by omega)
  rw [Nat.add_zero, ← sn_0] at et
  have b1 := (ho.2.2.2.2.2.2 v hv)
  have b9 : H 1 ≤ 9 := ho.2.1
  have hm9 : h * H 1 ≤ 81 := Nat.mul_le_mul hh b9
  have i1 : ax_in (1 : Int32) 3 = true := by decide
  have c1 : (1 : Int32).toNatClampNeg = 1 := rfl
  have e47 := hH.2.2.1 1 (by omega)
  unfold f_X12_takes_
  rw [et, sn_bs, i1, c1, e47]
  simp only [ax_gd, if_true, ax_let, sn_2, pk_mul, nI_add]
  match W, hW with
  | none, hW =>
    have e34 : ax_fi T 12 0 34 = Int32.ofInt (-1) := hW
    refine ⟨T, ?_, ax_fr.rf, hH, hL, hm, hlt, hW⟩
    unfold bt
    rcases (by omega : s = 0 ∨ s = 1) with rfl | rfl
    · rw [if_neg sn_n01, if_pos e34, pk_div (by omega) (by omega) (by omega), nI_add, ← bt_w0 (d := d)]
      exact bt_fin
    · rw [if_pos (sn_1).symm, if_pos e34, pk_div (by omega) (by omega) (by omega), pk_div (by omega) (by omega) (by omega), nI_add, ← bt_w1 (d := d)]
      exact bt_fin
  | some cs, ⟨k, hk, e34, ec⟩ =>
    subst ec
    have hM := hL.1
    have a : mk_rg k (H (16 + 7 * v)) h t g s d := ⟨by omega, by omega, hh, ht, hg, hs, hd⟩
    have n34 : ¬ (ax_fi T 12 0 34 = Int32.ofInt (-1)) := by
      rw [e34]
      exact lc_nd (by omega)
    obtain ⟨Z, z1, z2, z3⟩ := jr_worth hL hm hlt hk a e34
    have fz : ax_fr jr_scr T Z := fr_X12_worthOf z1
    refine ⟨Z, ?_, fz, jr_H_fr fz hH, jr_L_fr fz hL, z2, z3, jr_W_fr fz ⟨k, hk, e34, rfl⟩⟩
    have fin : (f_X12_of (nI v) (0 : Int32) T).bind (fun (r24 : Int32) => ax_bu (f_X12_worthOf r24 (nI h) (nI t) (nI g) (nI s) (nI d) T) (fun (r28 : Int32) (S25 : AS) => (f_J9_min_7cf53 (60 : Int32) r28 S25).bind (fun (r32 : Int32) => (f_J9_max_7cf53 (1 : Int32) r32 S25).bind (fun (r36 : Int32) => some (r36, S25))))) = some (nI (bt H (some (K k)) v h t g s d), Z) := by
      rw [et, sn_bs, z1, ax_bu_s]
      unfold bt
      exact bt_fin
    rcases (by omega : s = 0 ∨ s = 1) with rfl | rfl
    · rw [if_neg sn_n01, if_neg n34]
      exact fin
    · rw [if_pos (sn_1).symm, if_neg n34]
      exact fin
theorem jr_C_fr (h : ax_fr jr_scr T Z) (hC : jr_C T H M K W) (h1 : jr_M Z M K) (h2 : jr_lt Z) : jr_C Z H M K W := ⟨jr_H_fr h hC.1, jr_L_fr h hC.2.1, h1, h2, jr_W_fr h hC.2.2.2.2⟩
end

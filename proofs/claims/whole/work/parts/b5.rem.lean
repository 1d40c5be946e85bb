/-! THE PAST: the reference's remember in one form; a day that is written leaves the past's logs -/
section
variable {S T S' T' : AS} {N : Nat → Nat} {n c : Nat} {P : Nat → Nat → Nat} {Lg : Nat → Nat}
theorem jl_r_w {R : Nat → Int32} {day : Nat} (hd : day ≤ N 22) (h : jl_r R day Lg) : jl_r R day (lgw Lg N) := by
  refine ⟨h.1, fun p hp w hw => ?_⟩
  rw [lgw_o (by omega)]
  exact h.2 p hp w hw
theorem jpa_w (h : jpa S T n c P Lg) (hd : ∀ a, a < c → P a 22 ≤ N 22) : jpa S T n c P (lgw Lg N) := by
  obtain ⟨h1, h2, h3, h4, h5, h6⟩ := h
  exact ⟨h1, h2, h3, h4, h5, fun a ha => ⟨(h6 a ha).1, (h6 a ha).2.1, jl_r_w (hd a ha) (h6 a ha).2.2⟩⟩
theorem jr_rem1 {a : Nat} (ha : a ≤ 40) (h39 : ax_fi T 12 0 39 = nI a) : ∃ Z, f_X12_remember T = some Z ∧ ax_fi Z 12 0 39 = nI (min 40 (a + 1)) ∧ ax_ai Z 59 0 = rm_f (ax_ai T 59 0) (ax_ai T 55 0) a ∧ (∀ k i j, j ≠ 39 → ax_fi Z k i j = ax_fi T k i j) ∧ ∀ k i, k ≠ 59 → ax_ai Z k i = ax_ai T k i := by
  have ff : ∀ (U : AS) (v : Int32) k i j, j ≠ 39 → ax_fi (ax_sfi U 12 0 39 v) k i j = ax_fi U k i j := fun U v k i j hj => by
    unfold ax_fi ax_sfi ax_u3
    exact if_neg (fun q => hj q.2.2)
  have fa : ∀ (U : AS) (f : Nat → Int32) k i, k ≠ 59 → ax_ai (rw_st U 59 f) k i = ax_ai U k i := fun U f k i hk => by
    funext m
    simp [ax_ai, rw_st, hk]
  rcases jr_rem ha h39 with e | ⟨hlt, e⟩
  · refine ⟨_, e, ?_, rw_g, fun k i j hj => ?_, fun k i hk => ?_⟩
    · rw [rw_fi, sg, if_pos rfl, (by omega : min a 39 + 1 = min 40 (a + 1))]
    · rw [rw_fi, ff _ _ _ _ _ hj, ff _ _ _ _ _ hj]
    · rw [fa _ _ _ _ hk]
      rfl
  · refine ⟨_, e, ?_, rw_g, fun k i j hj => ?_, fun k i hk => ?_⟩
    · rw [rw_fi, sg, if_pos rfl, (by omega : min 40 (a + 1) = a + 1)]
    · rw [rw_fi, ff _ _ _ _ _ hj]
    · rw [fa _ _ _ _ hk]
      rfl
end

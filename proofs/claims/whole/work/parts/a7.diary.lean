/-! THE DIARY: a day is written -/
def lgw (Lg N : Nat → Nat) : Nat → Nat := fun m => if m = 3 * N 22 then N 20 else if m = 3 * N 22 + 1 then jn_bits N else if m = 3 * N 22 + 2 then N 16 else Lg m
/-- slots of the ring are right for the days before day, as far as the greatest day reached (hi) leaves them -/
def jl_w (S : AS) (i day hi : Nat) (Lg : Nat → Nat) : Prop := ∀ d, d < day → hi ≤ d + 100 → ∀ w, w < 3 → ax_ai S 23 i (d % 100 * 3 + w) = nI (Lg (3 * d + w))
def lg_S (S : AS) (i : Nat) (N : Nat → Nat) : AS := ax_sai (ax_sai (ax_sai S 23 i (N 22 % 100 * 3) (nI (N 20))) 23 i (N 22 % 100 * 3 + 1) (nI (jn_bits N))) 23 i (N 22 % 100 * 3 + 2) (nI (N 16))
section
variable {S T S1 T1 : AS} {o i : Nat} {H N : Nat → Nat} {Lg : Nat → Nat}
theorem lgw_o {m : Nat} (h : m < 3 * N 22) : lgw Lg N m = Lg m := by
  unfold lgw
  rw [if_neg (by omega), if_neg (by omega), if_neg (by omega)]
theorem lgw_0 : lgw Lg N (3 * N 22) = N 20 := if_pos rfl
theorem lgw_1 : lgw Lg N (3 * N 22 + 1) = jn_bits N := by
  unfold lgw
  rw [if_neg (by omega), if_pos rfl]
theorem lgw_2 : lgw Lg N (3 * N 22 + 2) = N 16 := by
  unfold lgw
  rw [if_neg (by omega), if_neg (by omega), if_pos rfl]
theorem jl_cw {day hi : Nat} (h : jl_w S i day hi Lg) (hh : hi ≤ day + 40) : jl_c S i day Lg := fun d h1 h2 w hw => h d h1 (by omega) w hw
theorem lg_write (h22 : N 22 ≤ 999) (hS : jc_S S 0 N) : f_X2_write i 0 S = some (lg_S S i N) := by
  have e7 : ax_fi S 9 0 7 = nI (N 22) := hS.2.2.2.2.2.2.2.1
  have e2 : ax_fi S 9 0 2 = nI (N 20) := hS.2.2.1
  have e1 : ax_fi (ax_sai S 23 i (N 22 % 100 * 3) (nI (N 20))) 9 0 1 = nI (jn_bits N) := hS.2.1
  have e0 : ax_fi (ax_sai (ax_sai S 23 i (N 22 % 100 * 3) (nI (N 20))) 23 i (N 22 % 100 * 3 + 1) (nI (jn_bits N))) 9 0 0 = nI (N 16) := hS.1
  have ix : nI (N 22 % 100) * (3 : Int32) = nI (N 22 % 100 * 3) := by rw [sn_3, pk_mul]
  have i2 : nI (N 22 % 100 * 3) + (2 : Int32) = nI (N 22 % 100 * 3 + 2) := by rw [sn_2, nI_add]
  unfold f_X2_write
  rw [e7, fm (by omega), sn_bs, ix, sn_let, sn_in (by omega) (by omega), sn_gd, nI_clamp (n := N 22 % 100 * 3) (by omega), e2, sn_let, nI_1, sn_in (by omega) (by omega), sn_gd, nI_clamp (n := N 22 % 100 * 3 + 1) (by omega), e1, sn_let, i2, sn_in (by omega) (by omega), sn_gd, nI_clamp (n := N 22 % 100 * 3 + 2) (by omega), e0, sn_let]
  rfl
theorem lg_keep {hi : Nat} (h : jl_w S i (N 22) hi Lg) : jl_w (lg_S S i N) i (N 22 + 1) (max hi (N 22 + 1)) (lgw Lg N) := fun d h1 h2 w hw => by
  unfold lg_S
  rw [sga, sga, sga]
  by_cases q : d = N 22
  · subst q
    rcases (by omega : w = 0 ∨ w = 1 ∨ w = 2) with rfl | rfl | rfl
    · rw [if_neg (by omega), if_neg (by omega), if_pos (by omega), Nat.add_zero, lgw_0]
    · rw [if_neg (by omega), if_pos rfl, lgw_1]
    · rw [if_pos rfl, lgw_2]
  · rw [if_neg (by omega), if_neg (by omega), if_neg (by omega), lgw_o (by omega)]
    exact h d (by omega) (by omega) w hw
theorem gd_keep {f : Nat → Int32} (h : jl_r f (N 22) Lg) : jl_r (gd_1 f N (min 60 (N 22))) (N 22 + 1) (lgw Lg N) := by
  refine ⟨?_, fun p hp w hw => ?_⟩
  · unfold gd_1
    rw [if_neg (by omega), if_pos rfl, (by omega : min (min 60 (N 22)) 59 + 1 = min 60 (N 22 + 1))]
  · unfold gd_1
    rw [if_neg (by omega), if_neg (by omega)]
    by_cases q : p = min (min 60 (N 22)) 59
    · have ed : N 22 + 1 - min 60 (N 22 + 1) + p = N 22 := by omega
      rw [ed]
      rcases (by omega : w = 0 ∨ w = 1 ∨ w = 2) with rfl | rfl | rfl
      · rw [if_pos (by omega), Nat.add_zero, lgw_0]
      · rw [if_neg (by omega), if_pos (by omega), lgw_1]
      · rw [if_neg (by omega), if_neg (by omega), if_pos (by omega), lgw_2]
    · rw [if_neg (by omega), if_neg (by omega), if_neg (by omega), lgw_o (by omega)]
      unfold gd_0
      by_cases q6 : min 60 (N 22) = 60
      · have w2 := h.2 (p + 1) (by omega) w hw
        rw [if_pos q6, if_neg (by omega), if_pos (by omega), (by omega : 24 + 3 * p + w + 3 = 24 + 3 * (p + 1) + w), w2, (by omega : N 22 - min 60 (N 22) + (p + 1) = N 22 + 1 - min 60 (N 22 + 1) + p)]
      · rw [if_neg q6, h.2 p (by omega) w hw, (by omega : N 22 - min 60 (N 22) + p = N 22 + 1 - min 60 (N 22 + 1) + p)]
end

/-! THE PAST, class: a state is saved -/
def sv (N : Nat → Nat) : Nat → Nat := fun m => if m = 0 then N 16 else if m = 1 then jn_bits N else if m = 2 then N 20 else if m = 3 then N 17 else if m = 4 then N 18 else if m = 5 then N 19 else if m = 6 then N 21 else if m = 7 then N 22 else if m < 12 then N (m + 4) else N (2 * (m - 12))
def sv_f (g : Nat → Int32) (N : Nat → Nat) (a : Nat) : Nat → Int32 := fun m => if a ≤ m ∧ m < a + 18 then nI (sv N (m - a)) else g m
section
variable {S T : AS} {N : Nat → Nat}
theorem rw_c {R sp dp n : Nat} {f h : Nat → Int32} : ax_cpy (rw_st T R f) R 0 h sp dp n = rw_st T R (va_cpy h f sp dp n) := by
  unfold ax_cpy rw_st
  refine Prod.ext rfl (Prod.ext rfl (Prod.ext rfl (Prod.ext rfl (Prod.ext (funext fun a => funext fun b => funext fun j => ?_) rfl))))
  dsimp only
  have e : (fun j => if R = R ∧ 0 = 0 then f j else T.2.2.2.2.1 R 0 j) = f := funext fun j => if_pos ⟨rfl, rfl⟩
  by_cases q : a = R ∧ b = 0
  · rw [if_pos q, if_pos q]
    exact congrArg (fun g => va_cpy h g sp dp n j) e
  · rw [if_neg q, if_neg q, if_neg q]
theorem cp_l33 (U : AS) : ax_ln U 33 0 = 720 := rfl
theorem sv_0 : sv N 0 = N 16 := by
  unfold sv
  rw [if_pos rfl]
theorem sv_1 : sv N 1 = jn_bits N := by
  unfold sv
  rw [if_neg (by omega), if_pos rfl]
theorem sv_2 : sv N 2 = N 20 := by
  unfold sv
  rw [if_neg (by omega), if_neg (by omega), if_pos rfl]
theorem sv_3 : sv N 3 = N 17 := by
  unfold sv
  rw [if_neg (by omega), if_neg (by omega), if_neg (by omega), if_pos rfl]
theorem sv_4 : sv N 4 = N 18 := by
  unfold sv
  rw [if_neg (by omega), if_neg (by omega), if_neg (by omega), if_neg (by omega), if_pos rfl]
theorem sv_5 : sv N 5 = N 19 := by
  unfold sv
  rw [if_neg (by omega), if_neg (by omega), if_neg (by omega), if_neg (by omega), if_neg (by omega), if_pos rfl]
theorem sv_6 : sv N 6 = N 21 := by
  unfold sv
  rw [if_neg (by omega), if_neg (by omega), if_neg (by omega), if_neg (by omega), if_neg (by omega), if_neg (by omega), if_pos rfl]
theorem sv_7 : sv N 7 = N 22 := by
  unfold sv
  rw [if_neg (by omega), if_neg (by omega), if_neg (by omega), if_neg (by omega), if_neg (by omega), if_neg (by omega), if_neg (by omega), if_pos rfl]
theorem sv_r {l : Nat} (h : l < 4) : sv N (8 + l) = N (12 + l) := by
  unfold sv
  rw [if_neg (by omega), if_neg (by omega), if_neg (by omega), if_neg (by omega), if_neg (by omega), if_neg (by omega), if_neg (by omega), if_neg (by omega), if_pos (by omega), (by omega : 8 + l + 4 = 12 + l)]
theorem sv_t {v : Nat} : sv N (12 + v) = N (2 * v) := by
  unfold sv
  rw [if_neg (by omega), if_neg (by omega), if_neg (by omega), if_neg (by omega), if_neg (by omega), if_neg (by omega), if_neg (by omega), if_neg (by omega), if_neg (by omega), (by omega : 12 + v - 12 = v)]
theorem sv_pt {a m : Nat} {g f8 f9 : Nat → Int32} (s8 : ∀ l, l < 4 → f8 l = nI (N (12 + l))) (s9 : ∀ v, v < 6 → f9 v = nI (N (2 * v))) : va_cpy f9 (va_cpy f8 (fun i => if i = a + 7 then nI (N 22) else if i = a + 6 then nI (N 21) else if i = a + 5 then nI (N 19) else if i = a + 4 then nI (N 18) else if i = a + 3 then nI (N 17) else if i = a + 2 then nI (N 20) else if i = a + 1 then nI (jn_bits N) else if i = a then nI (N 16) else g i) 0 (a + 8) 4) 0 (a + 12) 6 m = sv_f g N a m := by
  unfold sv_f
  by_cases q : a ≤ m ∧ m < a + 18
  · rw [if_pos q]
    by_cases q12 : a + 12 ≤ m
    · obtain ⟨v, rfl⟩ : ∃ v, m = a + 12 + v := ⟨m - (a + 12), by omega⟩
      rw [pk_cpy_in (by omega) (by omega), (by omega : 0 + (a + 12 + v - (a + 12)) = v), s9 v (by omega), (by omega : a + 12 + v - a = 12 + v), sv_t]
    · rw [pk_cpy_out (.inl (by omega))]
      by_cases q8 : a + 8 ≤ m
      · obtain ⟨v, rfl⟩ : ∃ v, m = a + 8 + v := ⟨m - (a + 8), by omega⟩
        rw [pk_cpy_in (by omega) (by omega), (by omega : 0 + (a + 8 + v - (a + 8)) = v), s8 v (by omega), (by omega : a + 8 + v - a = 8 + v), sv_r (by omega)]
      · rw [pk_cpy_out (.inl (by omega))]
        rcases (by omega : m = a ∨ m = a + 1 ∨ m = a + 2 ∨ m = a + 3 ∨ m = a + 4 ∨ m = a + 5 ∨ m = a + 6 ∨ m = a + 7) with q | q | q | q | q | q | q | q
        · rw [(by omega : m - a = 0), sv_0, if_neg (by omega), if_neg (by omega), if_neg (by omega), if_neg (by omega), if_neg (by omega), if_neg (by omega), if_neg (by omega), if_pos q]
        · rw [(by omega : m - a = 1), sv_1, if_neg (by omega), if_neg (by omega), if_neg (by omega), if_neg (by omega), if_neg (by omega), if_neg (by omega), if_pos q]
        · rw [(by omega : m - a = 2), sv_2, if_neg (by omega), if_neg (by omega), if_neg (by omega), if_neg (by omega), if_neg (by omega), if_pos q]
        · rw [(by omega : m - a = 3), sv_3, if_neg (by omega), if_neg (by omega), if_neg (by omega), if_neg (by omega), if_pos q]
        · rw [(by omega : m - a = 4), sv_4, if_neg (by omega), if_neg (by omega), if_neg (by omega), if_pos q]
        · rw [(by omega : m - a = 5), sv_5, if_neg (by omega), if_neg (by omega), if_pos q]
        · rw [(by omega : m - a = 6), sv_6, if_neg (by omega), if_pos q]
        · rw [(by omega : m - a = 7), sv_7, if_pos q]
  · have o1 : m < a + 12 ∨ a + 12 + 6 ≤ m := by omega
    have o2 : m < a + 8 ∨ a + 8 + 4 ≤ m := by omega
    have o3 : m < a ∨ a + 18 ≤ m := by omega
    rw [if_neg q, pk_cpy_out o1, pk_cpy_out o2, if_neg (by omega), if_neg (by omega), if_neg (by omega), if_neg (by omega), if_neg (by omega), if_neg (by omega), if_neg (by omega), if_neg (by omega)]
theorem jc_save {a : Nat} (ha : a ≤ 702) (hS : jc_S S 0 N) : f_X9_saveTo_33x0 0 (nI a) S = some (rw_st S 33 (sv_f (ax_ai S 33 0) N a)) := by
  obtain ⟨s0, s1, s2, s3, s4, s5, s6, s7, s8, s9⟩ := hS
  have e0 : f_X9_saveTo_33x0 0 (nI a) S = f_X9_saveTo_33x0 0 (nI a) (rw_st S 33 (ax_ai S 33 0)) := by rw [rw_e]
  have x1 : nI a + (1 : Int32) = nI (a + 1) := by rw [sn_1, nI_add]
  have x2 : nI a + (2 : Int32) = nI (a + 2) := by rw [sn_2, nI_add]
  have x3 : nI a + (3 : Int32) = nI (a + 3) := by rw [sn_3, nI_add]
  have x4 : nI a + (4 : Int32) = nI (a + 4) := by rw [sn_4, nI_add]
  have x5 : nI a + (5 : Int32) = nI (a + 5) := by rw [sn_5, nI_add]
  have x6 : nI a + (6 : Int32) = nI (a + 6) := by rw [sn_6, nI_add]
  have x7 : nI a + (7 : Int32) = nI (a + 7) := by rw [sn_7, nI_add]
  have x8 : nI a + (8 : Int32) = nI (a + 8) := by rw [sn_8, nI_add]
  have x12 : nI a + (12 : Int32) = nI (a + 12) := by rw [sn_12, nI_add]
  have x18 : nI a + (18 : Int32) = nI (a + 18) := by rw [sn_18, nI_add]
  have c18 : nI (a + 18) ≤ Int32.ofNat 720 := (nI_leI (b := 720) (by omega) (by omega)).mpr (by omega)
  have g0 : ax_in (nI a) 720 = true := sn_in (by omega) (by omega)
  have g1 : ax_in (nI (a + 1)) 720 = true := sn_in (by omega) (by omega)
  have g2 : ax_in (nI (a + 2)) 720 = true := sn_in (by omega) (by omega)
  have g3 : ax_in (nI (a + 3)) 720 = true := sn_in (by omega) (by omega)
  have g4 : ax_in (nI (a + 4)) 720 = true := sn_in (by omega) (by omega)
  have g5 : ax_in (nI (a + 5)) 720 = true := sn_in (by omega) (by omega)
  have g6 : ax_in (nI (a + 6)) 720 = true := sn_in (by omega) (by omega)
  have g7 : ax_in (nI (a + 7)) 720 = true := sn_in (by omega) (by omega)
  have k0 : (nI a).toNatClampNeg = a := nI_clamp (by omega)
  have k1 : (nI (a + 1)).toNatClampNeg = (a + 1) := nI_clamp (by omega)
  have k2 : (nI (a + 2)).toNatClampNeg = (a + 2) := nI_clamp (by omega)
  have k3 : (nI (a + 3)).toNatClampNeg = (a + 3) := nI_clamp (by omega)
  have k4 : (nI (a + 4)).toNatClampNeg = (a + 4) := nI_clamp (by omega)
  have k5 : (nI (a + 5)).toNatClampNeg = (a + 5) := nI_clamp (by omega)
  have k6 : (nI (a + 6)).toNatClampNeg = (a + 6) := nI_clamp (by omega)
  have k7 : (nI (a + 7)).toNatClampNeg = (a + 7) := nI_clamp (by omega)
  have k8 : (nI (a + 8)).toNatClampNeg = (a + 8) := nI_clamp (by omega)
  have k12 : (nI (a + 12)).toNatClampNeg = (a + 12) := nI_clamp (by omega)
  have c4 : (4 : Int32).toNatClampNeg = 4 := Eq.trans rfl rfl
  have c6 : (6 : Int32).toNatClampNeg = 6 := Eq.trans rfl rfl
  have G8 : (!decide ((0 : Int32) < 0) && !decide (nI (a + 8) < 0) && !decide ((4 : Int32) < 0) && decide (0 + 4 ≤ 4) && decide (a + 8 + 4 ≤ 720)) = true := by
    have z : decide (nI (a + 8) < 0) = false := decide_eq_false (nI_pos (by omega))
    have y : decide (a + 8 + 4 ≤ 720) = true := decide_eq_true (by omega)
    rw [z, y]
    decide
  have G12 : (!decide ((0 : Int32) < 0) && !decide (nI (a + 12) < 0) && !decide ((6 : Int32) < 0) && decide (0 + 6 ≤ 6) && decide (a + 12 + 6 ≤ 720)) = true := by
    have z : decide (nI (a + 12) < 0) = false := decide_eq_false (nI_pos (by omega))
    have y : decide (a + 12 + 6 ≤ 720) = true := decide_eq_true (by omega)
    rw [z, y]
    decide
  rw [e0]
  unfold f_X9_saveTo_33x0
  rw [if_neg (nI_pos (by omega)), x18, if_pos c18, x1, x2, x3, x4, x5, x6, x7, x8, x12]
  rw [g0, sn_gd, k0, rw_fi, s0, rw_s, sn_let]
  rw [g1, sn_gd, k1, rw_fi, s1, rw_s, sn_let]
  rw [g2, sn_gd, k2, rw_fi, s2, rw_s, sn_let]
  rw [g3, sn_gd, k3, rw_fi, s3, rw_s, sn_let]
  rw [g4, sn_gd, k4, rw_fi, s4, rw_s, sn_let]
  rw [g5, sn_gd, k5, rw_fi, s5, rw_s, sn_let]
  rw [g6, sn_gd, k6, rw_fi, s6, rw_s, sn_let]
  rw [g7, sn_gd, k7, rw_fi, s7, rw_s, sn_let]
  rw [cp_l38, cp_l33, k8, c4, cl_r0, G8, sn_gd, cp_r38, rw_o (by omega), rw_c, sn_let]
  rw [cp_l39, cp_l33, k12, c6, G12, sn_gd, cp_r39, rw_o (by omega), rw_c, sn_let]
  exact congrArg (fun f => some (rw_st S 33 f)) (funext fun m => sv_pt s8 s9)
end

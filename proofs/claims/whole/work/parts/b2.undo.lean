/-! THE PAST, reference: undo -/
section
variable {T : AS}
def un_f (f n : Nat → Int32) (a : Nat) : Nat → Int32 := fun m => if m < 204 then f (204 * a + m) else n m
theorem un_L26 {a : Nat} (ha : a < 40) (h39 : ax_fi T 12 0 39 = nI a) (Kr : AS → Option (Int32 × AS)) : ∀ d n p (g : Nat → Int32), p + d = 204 → d < n → f_X12_undo_L26 Kr n (nI p) (rw_st T 55 g) = Kr (rw_st T 55 (fun m => if p ≤ m ∧ m < 204 then ax_ai T 59 0 (204 * a + m) else g m))
  | 0, n + 1, p, g, hp, _ => by
    obtain rfl : p = 204 := by omega
    have e : (fun m => if 204 ≤ m ∧ m < 204 then ax_ai T 59 0 (204 * a + m) else g m) = g := by funext m; rw [if_neg (by omega)]
    rw [f_X12_undo_L26, if_pos (by decide), e]
  | d + 1, n + 1, p, g, hp, hn => by
    have c : ((204 : Int32) ≤ nI p) ↔ 204 ≤ p := nI_leI (a := 204) (by omega) (by omega)
    have ix : (204 : Int32) * nI a + nI p = nI (204 * a + p) := by rw [sn_204, pk_mul, nI_add]
    rw [f_X12_undo_L26, if_neg (fun z => absurd (c.mp z) (by omega)), rw_fi, h39, ix, sn_in (by omega) (by omega), sn_gd, sn_in (by omega) (by omega), sn_gd, sn_let, nI_clamp (n := 204 * a + p) (by omega), nI_clamp (n := p) (by omega), rw_o (by omega), rw_s, sn_let, nI_1, un_L26 ha h39 Kr d n (p + 1) _ (by omega) (by omega)]
    congr 2
    funext m
    by_cases q : m = p
    · rw [if_neg (by omega), if_pos q, if_pos (by omega), q]
    · by_cases q2 : p + 1 ≤ m ∧ m < 204
      · rw [if_pos q2, if_pos (by omega)]
      · rw [if_neg q2, if_neg q, if_neg (by omega)]
theorem jr_undo0 (h39 : ax_fi T 12 0 39 = nI 0) : f_X12_undo T = some (Int32.ofInt (-1), ax_sfi T 12 0 0 0) := by
  have f39 : ax_fi (ax_sfi T 12 0 0 0) 12 0 39 = nI 0 := by
    rw [sg, if_neg (by omega)]
    exact h39
  unfold f_X12_undo
  rw [sn_let, f39, if_pos (sn_0).symm]
theorem jr_undo {a : Nat} (ha : a < 40) (h39 : ax_fi T 12 0 39 = nI (a + 1)) : f_X12_undo T = some (nI a, rw_st (ax_sfi (ax_sfi T 12 0 0 0) 12 0 39 (nI a)) 55 (un_f (ax_ai T 59 0) (ax_ai T 55 0) a)) := by
  have f39 : ax_fi (ax_sfi T 12 0 0 0) 12 0 39 = nI (a + 1) := by
    rw [sg, if_neg (by omega)]
    exact h39
  have c0 : (nI (a + 1) = (0 : Int32)) ↔ a + 1 = 0 := nI_eq (b := 0) (by omega) (by omega)
  have s1 : nI (a + 1) - (1 : Int32) = nI a := by rw [sn_1, pk_sub (by omega), Nat.add_sub_cancel]
  have g39 : ax_fi (ax_sfi (ax_sfi T 12 0 0 0) 12 0 39 (nI a)) 12 0 39 = nI a := by rw [sg, if_pos rfl]
  have w := un_L26 (T := ax_sfi (ax_sfi T 12 0 0 0) 12 0 39 (nI a)) ha g39 (fun (S11 : AS) => some ((ax_fi S11 12 0 39), S11)) 204 ax_F 0 (ax_ai (ax_sfi (ax_sfi T 12 0 0 0) 12 0 39 (nI a)) 55 0) (by omega) (by show _ < 1000000; omega)
  rw [← sn_0, rw_e] at w
  unfold f_X12_undo
  rw [sn_let, f39, if_neg (fun z => absurd (c0.mp z) (by omega)), sn_let, s1, w, rw_fi, g39]
  refine congrArg (fun f => some (nI a, rw_st (ax_sfi (ax_sfi T 12 0 0 0) 12 0 39 (nI a)) 55 f)) (funext fun m => ?_)
  unfold un_f
  by_cases q : m < 204
  · rw [if_pos (by omega), if_pos q]
    rfl
  · rw [if_neg (by omega), if_neg q]
    rfl
end

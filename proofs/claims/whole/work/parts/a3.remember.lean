/-! THE REFERENCE remembers -/
def rm_1 (f n : Nat → Int32) (a : Nat) : Nat → Int32 := fun m => if 204 * a ≤ m ∧ m < 204 * a + 204 then n (m - 204 * a) else f m
def rm_2 (f : Nat → Int32) : Nat → Int32 := fun m => if m < 7956 then f (m + 204) else f m
def rm_f (f n : Nat → Int32) (a : Nat) : Nat → Int32 := if a = 40 then rm_1 (rm_2 f) n 39 else rm_1 f n a
section
variable {T Z : AS} {H N : Nat → Nat} {W : Option (List la_C)} {M : Nat} {K : Nat → List la_C}
theorem rw_sfi {R : Nat} {f : Nat → Int32} {k i j : Nat} {v : Int32} : ax_sfi (rw_st T R f) k i j v = rw_st (ax_sfi T k i j v) R f := rfl
theorem rw_o {R k : Nat} {f : Nat → Int32} (h : k ≠ R) : ax_ai (rw_st T R f) k 0 = ax_ai T k 0 := by
  funext m
  simp [ax_ai, rw_st, h]
theorem rm_L52 {a : Nat} (ha : a < 40) (h39 : ax_fi T 12 0 39 = nI a) (Kr : AS → Option AS) : ∀ d n p (g : Nat → Int32), p + d = 204 → d < n → f_X12_remember_L52 Kr n (nI p) (rw_st T 59 g) = Kr (rw_st T 59 (fun m => if 204 * a + p ≤ m ∧ m < 204 * a + 204 then ax_ai T 55 0 (m - 204 * a) else g m))
  | 0, n + 1, p, g, hp, _ => by
    obtain rfl : p = 204 := by omega
    have e : (fun m => if 204 * a + 204 ≤ m ∧ m < 204 * a + 204 then ax_ai T 55 0 (m - 204 * a) else g m) = g := by funext m; rw [if_neg (by omega)]
    rw [f_X12_remember_L52, if_pos (by decide), e]
  | d + 1, n + 1, p, g, hp, hn => by
    have c : ((204 : Int32) ≤ nI p) ↔ 204 ≤ p := nI_leI (a := 204) (by omega) (by omega)
    have ix : (204 : Int32) * nI a + nI p = nI (204 * a + p) := by rw [sn_204, pk_mul, nI_add]
    rw [f_X12_remember_L52, if_neg (fun z => absurd (c.mp z) (by omega)), rw_fi, h39, ix, sn_in (by omega) (by omega), sn_gd, sn_in (by omega) (by omega), sn_gd, sn_let, nI_clamp (n := 204 * a + p) (by omega), nI_clamp (n := p) (by omega), rw_o (by omega), rw_s, sn_let, nI_1, rm_L52 ha h39 Kr d n (p + 1) _ (by omega) (by omega)]
    congr 2
    funext m
    by_cases q : m = 204 * a + p
    · rw [if_neg (by omega), if_pos q, if_pos (by omega), (by omega : m - 204 * a = p)]
    · by_cases q2 : 204 * a + (p + 1) ≤ m ∧ m < 204 * a + 204
      · rw [if_pos q2, if_pos (by omega)]
      · rw [if_neg q2, if_neg q, if_neg (by omega)]
theorem rm_L11 (Kr : AS → Option AS) : ∀ d n p (g : Nat → Int32), p + d = 7956 → d < n → f_X12_remember_L11 Kr n (nI p) (rw_st T 59 g) = Kr (rw_st T 59 (fun m => if p ≤ m ∧ m < 7956 then g (m + 204) else g m))
  | 0, n + 1, p, g, hp, _ => by
    obtain rfl : p = 7956 := by omega
    have e : (fun m => if 7956 ≤ m ∧ m < 7956 then g (m + 204) else g m) = g := by funext m; rw [if_neg (by omega)]
    rw [f_X12_remember_L11, if_pos (by decide), e]
  | d + 1, n + 1, p, g, hp, hn => by
    have c : ((7956 : Int32) ≤ nI p) ↔ 7956 ≤ p := nI_leI (a := 7956) (by omega) (by omega)
    have ix : nI p + (204 : Int32) = nI (p + 204) := by rw [sn_204, nI_add]
    rw [f_X12_remember_L11, if_neg (fun z => absurd (c.mp z) (by omega)), ix, sn_in (by omega) (by omega), sn_gd, sn_in (by omega) (by omega), sn_gd, sn_let, nI_clamp (n := p + 204) (by omega), nI_clamp (n := p) (by omega), rw_g, rw_s, sn_let, nI_1, rm_L11 Kr d n (p + 1) _ (by omega) (by omega)]
    congr 2
    funext m
    by_cases q : m = p
    · rw [if_neg (by omega), if_pos q, if_pos (by omega), q]
    · by_cases q2 : p + 1 ≤ m ∧ m < 7956
      · rw [if_pos q2, if_neg (by omega), if_pos (by omega)]
      · rw [if_neg q2, if_neg q, if_neg (by omega)]
theorem jr_rem {a : Nat} (ha : a ≤ 40) (h39 : ax_fi T 12 0 39 = nI a) : f_X12_remember T = some (rw_st (ax_sfi (ax_sfi T 12 0 39 (nI (min a 39))) 12 0 39 (nI (min a 39 + 1))) 59 (rm_f (ax_ai T 59 0) (ax_ai T 55 0) a)) ∨ (a < 40 ∧ f_X12_remember T = some (rw_st (ax_sfi T 12 0 39 (nI (a + 1))) 59 (rm_f (ax_ai T 59 0) (ax_ai T 55 0) a))) := by
  have e0 : f_X12_remember T = f_X12_remember (rw_st T 59 (ax_ai T 59 0)) := by rw [rw_e]
  rw [e0]
  unfold f_X12_remember
  rw [rw_fi, h39]
  have c40 : (nI a = (40 : Int32)) ↔ a = 40 := nI_eq (b := 40) (by omega) (by omega)
  by_cases h : a = 40
  · subst h
    refine .inl ?_
    have q := rm_L11 (T := T) (fun (S18 : AS) => ax_let (ax_sfi S18 12 0 39 ((ax_fi S18 12 0 39) - (1 : Int32))) (fun (S19 : AS) => f_X12_remember_L52 (fun (S21 : AS) => ax_let (ax_sfi S21 12 0 39 ((ax_fi S21 12 0 39) + (1 : Int32))) (fun (S22 : AS) => some S22)) ax_F (0 : Int32) S19)) 7956 ax_F 0 (ax_ai T 59 0) (by omega) (by show _ < 1000000; omega)
    rw [← sn_0] at q
    have e2 : (fun m => if 0 ≤ m ∧ m < 7956 then ax_ai T 59 0 (m + 204) else ax_ai T 59 0 m) = rm_2 (ax_ai T 59 0) := by
      funext m
      unfold rm_2
      by_cases u : m < 7956
      · rw [if_pos (by omega), if_pos u]
      · rw [if_neg (by omega), if_neg u]
    have f39 : ax_fi (ax_sfi T 12 0 39 (nI 39)) 12 0 39 = nI 39 := by rw [sg, if_pos rfl]
    have w := rm_L52 (T := ax_sfi T 12 0 39 (nI 39)) (a := 39) (by omega) f39 (fun (S21 : AS) => ax_let (ax_sfi S21 12 0 39 ((ax_fi S21 12 0 39) + (1 : Int32))) (fun (S22 : AS) => some S22)) 204 ax_F 0 (rm_2 (ax_ai T 59 0)) (by omega) (by show _ < 1000000; omega)
    rw [← sn_0] at w
    rw [if_pos (sn_40).symm, q, e2, sn_let, rw_fi, h39, sn_1, pk_sub (by omega), rw_sfi, ← sn_1, w, sn_let, rw_fi, f39, nI_1, rw_sfi]
    rfl
  · refine .inr ⟨by omega, ?_⟩
    have w := rm_L52 (T := T) (a := a) (by omega) h39 (fun (S9 : AS) => ax_let (ax_sfi S9 12 0 39 ((ax_fi S9 12 0 39) + (1 : Int32))) (fun (S10 : AS) => some S10)) 204 ax_F 0 (ax_ai T 59 0) (by omega) (by show _ < 1000000; omega)
    rw [← sn_0] at w
    rw [if_neg (fun z => h (c40.mp z)), w, sn_let, rw_fi, h39, nI_1, rw_sfi]
    unfold rm_f
    rw [if_neg h]
    rfl
end

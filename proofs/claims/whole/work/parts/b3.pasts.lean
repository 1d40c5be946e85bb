/-! THE PAST on both sides: ring of 40 against rows of 204 -/
def jpa (S T : AS) (n c : Nat) (P : Nat → Nat → Nat) (Lg : Nat → Nat) : Prop := n < 40 ∧ c ≤ 40 ∧ ax_fi S 7 0 1 = nI n ∧ ax_fi S 7 0 2 = nI c ∧ ax_fi T 12 0 39 = nI c ∧ ∀ a, a < c → (∀ m, m < 18 → ax_ai S 33 0 ((n + 40 - c + a) % 40 * 18 + m) = nI (sv (P a) m)) ∧ jr_S (fun j => ax_ai T 59 0 (204 * a + j)) (P a) ∧ jl_r (fun j => ax_ai T 59 0 (204 * a + j)) (P a 22) Lg
def ps (P : Nat → Nat → Nat) (N : Nat → Nat) (c : Nat) : Nat → Nat → Nat := fun a => if c = 40 then (if a = 39 then N else P (a + 1)) else (if a = c then N else P a)
def ps_n (n : Nat) : Nat := if n = 39 then 0 else n + 1
section
variable {S T S' T' : AS} {N : Nat → Nat} {n c : Nat} {P : Nat → Nat → Nat} {Lg : Nat → Nat}
theorem jl_r_c {R R' : Nat → Int32} {day : Nat} (h : ∀ j, j < 204 → R' j = R j) (hr : jl_r R day Lg) : jl_r R' day Lg := by
  refine ⟨?_, fun p hp w hw => ?_⟩
  · rw [h 23 (by omega)]; exact hr.1
  · rw [h _ (by omega)]; exact hr.2 p hp w hw
theorem jr_S_c {R R' : Nat → Int32} (h : ∀ j, j < 204 → R' j = R j) (hr : jr_S R N) : jr_S R' N := fun j hj => by
  rw [h j (by omega)]
  exact hr j hj
theorem rm_at {f g : Nat → Int32} (hc : c ≤ 40) {j : Nat} (hj : j < 204) : rm_f f g c (204 * min c 39 + j) = g j := by
  unfold rm_f rm_1
  by_cases q : c = 40
  · rw [if_pos q, if_pos (by omega), (by omega : 204 * min c 39 + j - 204 * 39 = j)]
  · rw [if_neg q, if_pos (by omega), (by omega : 204 * min c 39 + j - 204 * c = j)]
theorem rm_old {f g : Nat → Int32} {a j : Nat} (hj : j < 204) (hc : c < 40) (ha : a < c) : rm_f f g c (204 * a + j) = f (204 * a + j) := by
  unfold rm_f rm_1
  rw [if_neg (by omega), if_neg (by omega)]
theorem rm_old2 {f g : Nat → Int32} {a j : Nat} (hj : j < 204) (ha : a < 39) : rm_f f g 40 (204 * a + j) = f (204 * (a + 1) + j) := by
  unfold rm_f rm_1 rm_2
  rw [if_pos rfl, if_neg (by omega), if_pos (by omega), (by omega : 204 * a + j + 204 = 204 * (a + 1) + j)]
theorem sv_at {g : Nat → Int32} {s m : Nat} (hm : m < 18) (hs : s = n) : sv_f g N (n * 18) (s * 18 + m) = nI (sv N m) := by
  unfold sv_f
  rw [hs, if_pos (by omega), (by omega : n * 18 + m - n * 18 = m)]
theorem sv_oth {g : Nat → Int32} {s m : Nat} (hm : m < 18) (hs : s ≠ n) : sv_f g N (n * 18) (s * 18 + m) = g (s * 18 + m) := by
  unfold sv_f
  rw [if_neg (by omega)]
theorem jpa_push (h : jpa S T n c P Lg) (s1 : ax_fi S' 7 0 1 = nI (ps_n n)) (s2 : ax_fi S' 7 0 2 = nI (min 40 (c + 1))) (s3 : ax_ai S' 33 0 = sv_f (ax_ai S 33 0) N (n * 18)) (t1 : ax_fi T' 12 0 39 = nI (min 40 (c + 1))) (t2 : ax_ai T' 59 0 = rm_f (ax_ai T 59 0) (ax_ai T 55 0) c) (hN : jr_S (ax_ai T 55 0) N) (hL : jl_r (ax_ai T 55 0) (N 22) Lg) : jpa S' T' (ps_n n) (min 40 (c + 1)) (ps P N c) Lg := by
  obtain ⟨h1, h2, h3, h4, h5, h6⟩ := h
  have hn : (n = 39 ∧ ps_n n = 0) ∨ (n < 39 ∧ ps_n n = n + 1) := by
    unfold ps_n
    by_cases q : n = 39
    · exact .inl ⟨q, if_pos q⟩
    · exact .inr ⟨by omega, if_neg q⟩
  refine ⟨by omega, by omega, s1, s2, t1, fun a ha => ?_⟩
  rw [s3, t2]
  by_cases q : c = 40
  · by_cases qa : a = 39
    · have e : ps P N c a = N := by unfold ps; rw [if_pos q, if_pos qa]
      rw [e]
      have g : ∀ j, j < 204 → (fun j => rm_f (ax_ai T 59 0) (ax_ai T 55 0) c (204 * a + j)) j = ax_ai T 55 0 j := fun j hj => by
        have w := rm_at (f := ax_ai T 59 0) (g := ax_ai T 55 0) h2 hj
        rw [(by omega : min c 39 = a)] at w
        exact w
      exact ⟨fun m hm => sv_at hm (by omega), jr_S_c g hN, jl_r_c g hL⟩
    · have e : ps P N c a = P (a + 1) := by unfold ps; rw [if_pos q, if_neg qa]
      rw [e]
      obtain ⟨k1, k2, k3⟩ := h6 (a + 1) (by omega)
      have g : ∀ j, j < 204 → (fun j => rm_f (ax_ai T 59 0) (ax_ai T 55 0) c (204 * a + j)) j = (fun j => ax_ai T 59 0 (204 * (a + 1) + j)) j := fun j hj => by
        rw [q]
        exact rm_old2 hj (by omega)
      refine ⟨fun m hm => ?_, jr_S_c g k2, jl_r_c g k3⟩
      rw [sv_oth hm (by omega), (by omega : (ps_n n + 40 - min 40 (c + 1) + a) % 40 = (n + 40 - c + (a + 1)) % 40)]
      exact k1 m hm
  · by_cases qa : a = c
    · have e : ps P N c a = N := by unfold ps; rw [if_neg q, if_pos qa]
      rw [e]
      have g : ∀ j, j < 204 → (fun j => rm_f (ax_ai T 59 0) (ax_ai T 55 0) c (204 * a + j)) j = ax_ai T 55 0 j := fun j hj => by
        have w := rm_at (f := ax_ai T 59 0) (g := ax_ai T 55 0) h2 hj
        rw [(by omega : min c 39 = a)] at w
        exact w
      exact ⟨fun m hm => sv_at hm (by omega), jr_S_c g hN, jl_r_c g hL⟩
    · have e : ps P N c a = P a := by unfold ps; rw [if_neg q, if_neg qa]
      rw [e]
      obtain ⟨k1, k2, k3⟩ := h6 a (by omega)
      have g : ∀ j, j < 204 → (fun j => rm_f (ax_ai T 59 0) (ax_ai T 55 0) c (204 * a + j)) j = (fun j => ax_ai T 59 0 (204 * a + j)) j := fun j hj => rm_old hj (by omega) (by omega)
      refine ⟨fun m hm => ?_, jr_S_c g k2, jl_r_c g k3⟩
      rw [sv_oth hm (by omega), (by omega : (ps_n n + 40 - min 40 (c + 1) + a) % 40 = (n + 40 - c + a) % 40)]
      exact k1 m hm
end

/-! THE INVARIANT: laws, tape, image, whim; what calls leave alone -/
def jz (S T : AS) (M : Nat) (K : Nat → List la_C) (W : Option (List la_C)) : Prop := M ≤ 4 ∧ ax_fi S 11 0 16 = nI M ∧ ax_fi T 12 0 7 = nI M ∧ (∀ k, k < M → la_dc (K k) ∧ la_H S k (K k)) ∧ ((W = none ∧ ax_fi S 11 0 18 = Int32.ofInt (-1) ∧ ax_fi T 12 0 34 = Int32.ofInt (-1) ∧ ax_fo S 6 0 2 = none) ∨ ∃ k, k < M ∧ W = some (K k) ∧ ax_fi S 11 0 18 = nI k ∧ ax_fi T 12 0 34 = nI k ∧ ax_fo S 6 0 2 = some k)
def jim (S T : AS) (H : Nat → Nat) (im : Nat) (NI LI : Nat → Nat) (hI : Nat) : Prop := im ≤ 1 ∧ ax_fi S 11 0 19 = nI im ∧ ax_fi T 12 0 49 = nI im ∧ (im = 1 → 0 < H 4 ∧ jn_ok H NI ∧ jc_S S 2 NI ∧ jr_S (ax_ai T 62 0) NI ∧ jl_r (ax_ai T 62 0) (NI 22) LI ∧ jl_w S 1 (NI 22) hI LI ∧ NI 22 ≤ hI ∧ hI ≤ NI 22 + 40)
def jt (S T : AS) (tn : Nat) (tb : Nat → Nat) : Prop := tn ≤ 240 ∧ ax_fi S 10 0 1 = nI tn ∧ ax_fi T 12 0 6 = nI tn ∧ ∀ p, p < tn → ax_ai S 40 0 p = nI (tb p) ∧ ax_ai T 44 0 p = lr_by (tb p) ∧ 1 ≤ tb p ∧ tb p ≤ 255
def jwh (S T : AS) (wh : Nat) : Prop := wh ≤ 9 ∧ ax_fi S 1 0 2 = nI wh ∧ ax_fi T 12 0 35 = nI wh
def jR (o : Nat) (H : Nat → Nat) (W : Option (List la_C)) (M : Nat) (K : Nat → List la_C) (c : Nat) (L E : Nat → Nat) (cn : Nat) (Q : Nat → Nat) (im : Nat) (NI LI : Nat → Nat) (hI tn : Nat) (tb : Nat → Nat) (wh : Nat) (S T : AS) : Prop := jh_ok H ∧ jc_H S o H ∧ jz S T M K W ∧ jp S T c L E ∧ jo S T cn Q ∧ jim S T H im NI LI hI ∧ jt S T tn tb ∧ jwh S T wh
def jd (H N : Nat → Nat) (ca : Nat) (P : Nat → Nat → Nat) (hi : Nat) : Prop := N 22 ≤ hi ∧ hi ≤ N 22 + 40 ∧ (∀ a, a < ca → jn_ok H (P a) ∧ P a 22 ≤ N 22 ∧ N 22 ≤ P a 22 + (ca - a) ∧ hi ≤ P a 22 + 40 ∧ ∀ b, a ≤ b → b < ca → P a 22 ≤ P b 22 ∧ P b 22 ≤ P a 22 + (b - a)) ∧ (H 4 = 0 → N 22 = 0 ∧ ca = 0)
def jA (H N : Nat → Nat) (n ca : Nat) (P : Nat → Nat → Nat) (Lg : Nat → Nat) (hi : Nat) (S T : AS) : Prop := jn_ok H N ∧ jc_S S 0 N ∧ jr_S (ax_ai T 55 0) N ∧ jpa S T n ca P Lg ∧ jl_w S 0 (N 22) hi Lg ∧ jl_r (ax_ai T 55 0) (N 22) Lg ∧ jd H N ca P hi
/-- both stand alike -/
def jI (S T : AS) : Prop := ∃ o H N W M K c L E cn Q im NI LI hI tn tb wh n ca P Lg hi, jR o H W M K c L E cn Q im NI LI hI tn tb wh S T ∧ jr_C T H M K W ∧ jA H N n ca P Lg hi S T
/-- the same answer, and both stand alike again -/
def jX (x y : Option (Int32 × AS)) : Prop := ∃ r S' T', x = some (r, S') ∧ y = some (r, T') ∧ jI S' T'
def jXo (S : AS) (x : Option Int32) (y : Option (Int32 × AS)) : Prop := ∃ r T', x = some r ∧ y = some (r, T') ∧ jI S T'
/-- the part of the given code: unchanged but for what is scratch, the state in use, its past and its diary -/
def cg0 (o M c : Nat) (S Z : AS) : Prop := (∀ k i j, k ≤ 11 → ¬ (k = 9 ∧ i ≤ 1) → ¬ (k = 5 ∧ (j = 3 ∨ M ≤ i)) → ¬ (k = 4 ∧ i ≠ o) → ¬ (k = 0 ∧ c ≤ i) → k ≠ 7 → k ≠ 8 → ¬ (k = 10 ∧ 2 ≤ j) → ax_fi Z k i j = ax_fi S k i j) ∧ (∀ j, ax_fx Z 11 0 j = ax_fx S 11 0 j) ∧ (∀ j, ax_fo Z 6 0 j = ax_fo S 6 0 j) ∧ ∀ k i, 20 ≤ k → k < 43 → k ≠ 31 → k ≠ 32 → k ≠ 33 → ¬ (34 ≤ k ∧ k ≤ 37) → ¬ ((k = 38 ∨ k = 39) ∧ i ≤ 1) → ¬ (k = 30 ∧ M ≤ i) → ¬ (27 ≤ k ∧ k ≤ 29 ∧ i ≠ o) → ¬ ((k = 20 ∨ k = 21) ∧ c ≤ i) → ¬ (k = 23 ∧ i = 0) → ax_ai Z k i = ax_ai S k i
/-- besides: the state in use, its past and its diary are unchanged -/
def cg1 (S Z : AS) : Prop := (∀ j, ax_fi Z 9 0 j = ax_fi S 9 0 j) ∧ (∀ j, ax_fi Z 7 0 j = ax_fi S 7 0 j) ∧ ax_ai Z 33 0 = ax_ai S 33 0 ∧ ax_ai Z 38 0 = ax_ai S 38 0 ∧ ax_ai Z 39 0 = ax_ai S 39 0 ∧ ax_ai Z 23 0 = ax_ai S 23 0
def rg0 (T Z : AS) : Prop := (∀ j, j = 6 ∨ j = 7 ∨ j = 26 ∨ j = 27 ∨ j = 30 ∨ j = 34 ∨ j = 35 ∨ j = 47 ∨ j = 49 → ax_fi Z 12 0 j = ax_fi T 12 0 j) ∧ ax_ai Z 44 0 = ax_ai T 44 0 ∧ (∀ m, m < 128 → ax_ai Z 53 0 m = ax_ai T 53 0 m) ∧ (∀ m, m < 4 → ax_ai Z 54 0 m = ax_ai T 54 0 m) ∧ ax_ai Z 61 0 = ax_ai T 61 0 ∧ ax_ai Z 62 0 = ax_ai T 62 0
def rg1 (T Z : AS) : Prop := ax_fi Z 12 0 39 = ax_fi T 12 0 39 ∧ ax_ai Z 55 0 = ax_ai T 55 0 ∧ ax_ai Z 59 0 = ax_ai T 59 0
section
variable {S T Z Y S1 T1 : AS} {o M c cn im hI tn wh n ca hi : Nat} {H N L E Q NI LI tb Lg : Nat → Nat} {W : Option (List la_C)} {K : Nat → List la_C} {P : Nat → Nat → Nat}
theorem cg0.tr (a : cg0 o M c S Z) (b : cg0 o M c Z Y) : cg0 o M c S Y := ⟨fun k i j h1 h2 h3 h4 h5 h6 h7 h8 => (b.1 k i j h1 h2 h3 h4 h5 h6 h7 h8).trans (a.1 k i j h1 h2 h3 h4 h5 h6 h7 h8), fun j => (b.2.1 j).trans (a.2.1 j), fun j => (b.2.2.1 j).trans (a.2.2.1 j), fun k i h1 h2 h3 h4 h5 h6 h7 h8 h9 ha hb => (b.2.2.2 k i h1 h2 h3 h4 h5 h6 h7 h8 h9 ha hb).trans (a.2.2.2 k i h1 h2 h3 h4 h5 h6 h7 h8 h9 ha hb)⟩
theorem cg0.rf : cg0 o M c S S := ⟨fun _ _ _ _ _ _ _ _ _ _ _ => rfl, fun _ => rfl, fun _ => rfl, fun _ _ _ _ _ _ _ _ _ _ _ _ _ => rfl⟩
theorem cg1.tr (a : cg1 S Z) (b : cg1 Z Y) : cg1 S Y := ⟨fun j => (b.1 j).trans (a.1 j), fun j => (b.2.1 j).trans (a.2.1 j), b.2.2.1.trans a.2.2.1, b.2.2.2.1.trans a.2.2.2.1, b.2.2.2.2.1.trans a.2.2.2.2.1, b.2.2.2.2.2.trans a.2.2.2.2.2⟩
theorem cg1.rf : cg1 S S := ⟨fun _ => rfl, fun _ => rfl, rfl, rfl, rfl, rfl⟩
theorem rg0.tr (a : rg0 S Z) (b : rg0 Z Y) : rg0 S Y := ⟨fun j h => (b.1 j h).trans (a.1 j h), b.2.1.trans a.2.1, fun m h => (b.2.2.1 m h).trans (a.2.2.1 m h), fun m h => (b.2.2.2.1 m h).trans (a.2.2.2.1 m h), b.2.2.2.2.1.trans a.2.2.2.2.1, b.2.2.2.2.2.trans a.2.2.2.2.2⟩
theorem rg0.rf : rg0 S S := ⟨fun _ _ => rfl, rfl, fun _ _ => rfl, fun _ _ => rfl, rfl, rfl⟩
theorem rg1.tr (a : rg1 S Z) (b : rg1 Z Y) : rg1 S Y := ⟨b.1.trans a.1, b.2.1.trans a.2.1, b.2.2.trans a.2.2⟩
theorem rg1.rf : rg1 S S := ⟨rfl, rfl, rfl⟩
theorem jv_nc {V D : List (Nat × Nat × Nat)} (h : D.all (fun e => !V.contains e) = true) {e : Nat × Nat × Nat} (he : D.contains e = true) : V.contains e = false := by
  have := List.all_eq_true.mp h e (List.contains_iff_mem.mp he)
  cases hc : V.contains e with
  | false => rfl
  | true => rw [hc] at this; cases this
theorem jc_H_e (c0 : ∀ j, ax_fx Z 11 0 j = ax_fx S 11 0 j) (c1 : ax_fo Z 6 0 1 = ax_fo S 6 0 1) (c2 : ∀ j, ax_fi Z 4 o j = ax_fi S 4 o j) (c3 : ax_ai Z 27 o = ax_ai S 27 o) (c4 : ax_ai Z 28 o = ax_ai S 28 o) (c5 : ax_ai Z 29 o = ax_ai S 29 o) (h : jc_H S o H) : jc_H Z o H := by
  obtain ⟨h0, h1, h2, h3, h4, h5, h6, h7, h8⟩ := h
  refine ⟨h0, ?_, ?_, ?_, ?_, ?_, ?_, ?_, ?_⟩
  · rw [c0 14]; exact h1
  · rw [c0 15]; exact h2
  · rw [c1]; exact h3
  · rw [c2 4]; exact h4
  · rw [c2 5]; exact h5
  · rw [c3]; exact h6
  · rw [c4]; exact h7
  · rw [c5]; exact h8
theorem jc_H_g (g : cg0 o M c S Z) (h : jc_H S o H) : jc_H Z o H := jc_H_e g.2.1 (g.2.2.1 1) (fun j => g.1 4 o j (by omega) (by omega) (by omega) (by omega) (by omega) (by omega) (by omega) (by omega)) (g.2.2.2 27 o (by omega) (by omega) (by omega) (by omega) (by omega) (by omega) (by omega) (by omega) (by omega) (by omega) (by omega)) (g.2.2.2 28 o (by omega) (by omega) (by omega) (by omega) (by omega) (by omega) (by omega) (by omega) (by omega) (by omega) (by omega)) (g.2.2.2 29 o (by omega) (by omega) (by omega) (by omega) (by omega) (by omega) (by omega) (by omega) (by omega) (by omega) (by omega)) h
theorem jz_e (c0 : ax_fi Z 11 0 16 = ax_fi S 11 0 16) (c1 : ax_fi Z 11 0 18 = ax_fi S 11 0 18) (c2 : ∀ k, k < M → ax_ai Z 30 k = ax_ai S 30 k) (c3 : ∀ k, k < M → ax_fi Z 5 k 2 = ax_fi S 5 k 2) (c4 : ax_fo Z 6 0 2 = ax_fo S 6 0 2) (r0 : ax_fi Y 12 0 7 = ax_fi T 12 0 7) (r1 : ax_fi Y 12 0 34 = ax_fi T 12 0 34) (h : jz S T M K W) : jz Z Y M K W := by
  obtain ⟨h0, h1, h2, h3, h4⟩ := h
  refine ⟨h0, ?_, ?_, fun k hk => ⟨(h3 k hk).1, ?_⟩, ?_⟩
  · rw [c0]; exact h1
  · rw [r0]; exact h2
  · obtain ⟨g1, g2, g3, g4⟩ := (h3 k hk).2
    refine ⟨g1, fun j hj => ?_, ?_, g4⟩
    · rw [c2 k hk]; exact g2 j hj
    · rw [c3 k hk]; exact g3
  · rw [c1, r1, c4]; exact h4
theorem jz_g (g : cg0 o M c S Z) (q : rg0 T Y) (h : jz S T M K W) : jz Z Y M K W := jz_e (g.1 11 0 16 (by omega) (by omega) (by omega) (by omega) (by omega) (by omega) (by omega) (by omega)) (g.1 11 0 18 (by omega) (by omega) (by omega) (by omega) (by omega) (by omega) (by omega) (by omega)) (fun k hk => g.2.2.2 30 k (by omega) (by omega) (by omega) (by omega) (by omega) (by omega) (by omega) (by omega) (by omega) (by omega) (by omega)) (fun k hk => g.1 5 k 2 (by omega) (by omega) (by omega) (by omega) (by omega) (by omega) (by omega) (by omega)) (g.2.2.1 2) (q.1 7 (by omega)) (q.1 34 (by omega)) h
theorem jp_e (c0 : ax_fi Z 11 0 17 = ax_fi S 11 0 17) (c1 : ∀ k, k < c → ax_fi Z 0 k 2 = ax_fi S 0 k 2) (c2 : ∀ k, k < c → ax_ai Z 20 k = ax_ai S 20 k) (c3 : ∀ k, k < c → ax_ai Z 21 k = ax_ai S 21 k) (r0 : ax_fi Y 12 0 30 = ax_fi T 12 0 30) (r1 : ∀ m, m < 128 → ax_ai Y 53 0 m = ax_ai T 53 0 m) (r2 : ∀ m, m < 4 → ax_ai Y 54 0 m = ax_ai T 54 0 m) (h : jp S T c L E) : jp Z Y c L E := by
  obtain ⟨a, b, d, e⟩ := h
  refine ⟨a, ?_, ?_, fun k hk => ?_⟩
  · rw [c0]; exact b
  · rw [r0]; exact d
  · obtain ⟨e1, e2, e3, e4⟩ := e k hk
    rw [c1 k hk, r2 k (by omega), c2 k hk, c3 k hk]
    refine ⟨e1, e2, e3, fun i hi => ?_⟩
    rw [r1 _ (by omega), r1 _ (by omega)]
    exact e4 i hi
theorem jp_g (g : cg0 o M c S Z) (q : rg0 T Y) (h : jp S T c L E) : jp Z Y c L E := jp_e (g.1 11 0 17 (by omega) (by omega) (by omega) (by omega) (by omega) (by omega) (by omega) (by omega)) (fun k hk => g.1 0 k 2 (by omega) (by omega) (by omega) (by omega) (by omega) (by omega) (by omega) (by omega)) (fun k hk => g.2.2.2 20 k (by omega) (by omega) (by omega) (by omega) (by omega) (by omega) (by omega) (by omega) (by omega) (by omega) (by omega)) (fun k hk => g.2.2.2 21 k (by omega) (by omega) (by omega) (by omega) (by omega) (by omega) (by omega) (by omega) (by omega) (by omega) (by omega)) (q.1 30 (by omega)) q.2.2.1 q.2.2.2.1 h
theorem jo_e (c0 : ax_fi Z 3 0 3 = ax_fi S 3 0 3) (c1 : ax_ai Z 24 0 = ax_ai S 24 0) (c2 : ax_ai Z 25 0 = ax_ai S 25 0) (c3 : ax_ai Z 26 0 = ax_ai S 26 0) (r0 : ax_fi Y 12 0 47 = ax_fi T 12 0 47) (r1 : ax_ai Y 61 0 = ax_ai T 61 0) (h : jo S T cn Q) : jo Z Y cn Q := by
  obtain ⟨a, b, d, e⟩ := h
  refine ⟨a, ?_, ?_, ?_⟩
  · rw [c0]; exact b
  · rw [r0]; exact d
  · rw [c1, c2, c3, r1]
    exact e
theorem jo_g (g : cg0 o M c S Z) (q : rg0 T Y) (h : jo S T cn Q) : jo Z Y cn Q := jo_e (g.1 3 0 3 (by omega) (by omega) (by omega) (by omega) (by omega) (by omega) (by omega) (by omega)) (g.2.2.2 24 0 (by omega) (by omega) (by omega) (by omega) (by omega) (by omega) (by omega) (by omega) (by omega) (by omega) (by omega)) (g.2.2.2 25 0 (by omega) (by omega) (by omega) (by omega) (by omega) (by omega) (by omega) (by omega) (by omega) (by omega) (by omega)) (g.2.2.2 26 0 (by omega) (by omega) (by omega) (by omega) (by omega) (by omega) (by omega) (by omega) (by omega) (by omega) (by omega)) (q.1 47 (by omega)) q.2.2.2.2.1 h
theorem jim_e (c0 : ax_fi Z 11 0 19 = ax_fi S 11 0 19) (c1 : ∀ j, ax_fi Z 9 2 j = ax_fi S 9 2 j) (c2 : ax_ai Z 38 2 = ax_ai S 38 2) (c3 : ax_ai Z 39 2 = ax_ai S 39 2) (c4 : ax_ai Z 23 1 = ax_ai S 23 1) (r0 : ax_fi Y 12 0 49 = ax_fi T 12 0 49) (r1 : ax_ai Y 62 0 = ax_ai T 62 0) (h : jim S T H im NI LI hI) : jim Z Y H im NI LI hI := by
  obtain ⟨a, b, d, e⟩ := h
  refine ⟨a, ?_, ?_, fun h1 => ?_⟩
  · rw [c0]; exact b
  · rw [r0]; exact d
  · obtain ⟨e0, e1, e2, e3, e4, e5, e6⟩ := e h1
    refine ⟨e0, e1, ?_, ?_, ?_, ?_, e6⟩
    · obtain ⟨g0, g1, g2, g3, g4, g5, g6, g7, g8, g9⟩ := e2
      refine ⟨?_, ?_, ?_, ?_, ?_, ?_, ?_, ?_, ?_, ?_⟩
      · rw [c1]; exact g0
      · rw [c1]; exact g1
      · rw [c1]; exact g2
      · rw [c1]; exact g3
      · rw [c1]; exact g4
      · rw [c1]; exact g5
      · rw [c1]; exact g6
      · rw [c1]; exact g7
      · rw [c2]; exact g8
      · rw [c3]; exact g9
    · rw [r1]; exact e3
    · rw [r1]; exact e4
    · intro d h1 h2 w hw
      rw [c4]
      exact e5 d h1 h2 w hw
theorem jim_g (g : cg0 o M c S Z) (q : rg0 T Y) (h : jim S T H im NI LI hI) : jim Z Y H im NI LI hI := jim_e (g.1 11 0 19 (by omega) (by omega) (by omega) (by omega) (by omega) (by omega) (by omega) (by omega)) (fun j => g.1 9 2 j (by omega) (by omega) (by omega) (by omega) (by omega) (by omega) (by omega) (by omega)) (g.2.2.2 38 2 (by omega) (by omega) (by omega) (by omega) (by omega) (by omega) (by omega) (by omega) (by omega) (by omega) (by omega)) (g.2.2.2 39 2 (by omega) (by omega) (by omega) (by omega) (by omega) (by omega) (by omega) (by omega) (by omega) (by omega) (by omega)) (g.2.2.2 23 1 (by omega) (by omega) (by omega) (by omega) (by omega) (by omega) (by omega) (by omega) (by omega) (by omega) (by omega)) (q.1 49 (by omega)) q.2.2.2.2.2 h
theorem jt_e (c0 : ax_fi Z 10 0 1 = ax_fi S 10 0 1) (c1 : ax_ai Z 40 0 = ax_ai S 40 0) (r0 : ax_fi Y 12 0 6 = ax_fi T 12 0 6) (r1 : ax_ai Y 44 0 = ax_ai T 44 0) (h : jt S T tn tb) : jt Z Y tn tb := by
  obtain ⟨a, b, d, e⟩ := h
  refine ⟨a, ?_, ?_, ?_⟩
  · rw [c0]; exact b
  · rw [r0]; exact d
  · rw [c1, r1]; exact e
theorem jt_g (g : cg0 o M c S Z) (q : rg0 T Y) (h : jt S T tn tb) : jt Z Y tn tb := jt_e (g.1 10 0 1 (by omega) (by omega) (by omega) (by omega) (by omega) (by omega) (by omega) (by omega)) (g.2.2.2 40 0 (by omega) (by omega) (by omega) (by omega) (by omega) (by omega) (by omega) (by omega) (by omega) (by omega) (by omega)) (q.1 6 (by omega)) q.2.1 h
theorem jwh_e (c0 : ax_fi Z 1 0 2 = ax_fi S 1 0 2) (r0 : ax_fi Y 12 0 35 = ax_fi T 12 0 35) (h : jwh S T wh) : jwh Z Y wh := by
  obtain ⟨a, b, d⟩ := h
  refine ⟨a, ?_, ?_⟩
  · rw [c0]; exact b
  · rw [r0]; exact d
theorem jwh_g (g : cg0 o M c S Z) (q : rg0 T Y) (h : jwh S T wh) : jwh Z Y wh := jwh_e (g.1 1 0 2 (by omega) (by omega) (by omega) (by omega) (by omega) (by omega) (by omega) (by omega)) (q.1 35 (by omega)) h
theorem jR_g (g : cg0 o M c S Z) (q : rg0 T Y) (h : jR o H W M K c L E cn Q im NI LI hI tn tb wh S T) : jR o H W M K c L E cn Q im NI LI hI tn tb wh Z Y := ⟨h.1, jc_H_g g h.2.1, jz_g g q h.2.2.1, jp_g g q h.2.2.2.1, jo_g g q h.2.2.2.2.1, jim_g g q h.2.2.2.2.2.1, jt_g g q h.2.2.2.2.2.2.1, jwh_g g q h.2.2.2.2.2.2.2⟩
theorem jc_S_0 (g : cg1 S Z) (h : jc_S S 0 N) : jc_S Z 0 N := by
  obtain ⟨h0, h1, h2, h3, h4, h5, h6, h7, h8, h9⟩ := h
  obtain ⟨f, _, _, g8, g9, _⟩ := g
  refine ⟨?_, ?_, ?_, ?_, ?_, ?_, ?_, ?_, ?_, ?_⟩
  · rw [f]; exact h0
  · rw [f]; exact h1
  · rw [f]; exact h2
  · rw [f]; exact h3
  · rw [f]; exact h4
  · rw [f]; exact h5
  · rw [f]; exact h6
  · rw [f]; exact h7
  · rw [g8]; exact h8
  · rw [g9]; exact h9
theorem jpa_g (g : cg1 S Z) (q : rg1 T Y) (h : jpa S T n ca P Lg) : jpa Z Y n ca P Lg := by
  obtain ⟨h1, h2, h3, h4, h5, h6⟩ := h
  refine ⟨h1, h2, ?_, ?_, ?_, ?_⟩
  · rw [g.2.1]; exact h3
  · rw [g.2.1]; exact h4
  · rw [q.1]; exact h5
  · rw [g.2.2.1, q.2.2]; exact h6
theorem jA_g (g : cg1 S Z) (q : rg1 T Y) (h : jA H N n ca P Lg hi S T) : jA H N n ca P Lg hi Z Y := by
  obtain ⟨h1, h2, h3, h4, h5, h6, h7⟩ := h
  refine ⟨h1, jc_S_0 g h2, ?_, jpa_g g q h4, ?_, ?_, h7⟩
  · rw [q.2.1]; exact h3
  · intro d d1 d2 w hw
    rw [g.2.2.2.2.2]
    exact h5 d d1 d2 w hw
  · rw [q.2.1]; exact h6
theorem jI_mk (h : jR o H W M K c L E cn Q im NI LI hI tn tb wh S T) (hC : jr_C T H M K W) (hA : jA H N n ca P Lg hi S T) : jI S T := ⟨o, H, N, W, M, K, c, L, E, cn, Q, im, NI, LI, hI, tn, tb, wh, n, ca, P, Lg, hi, h, hC, hA⟩
theorem jI_g (h : jR o H W M K c L E cn Q im NI LI hI tn tb wh S T) (hA : jA H N n ca P Lg hi S T) (g : cg0 o M c S Z ∧ cg1 S Z) (q : rg0 T Y ∧ rg1 T Y) (hC : jr_C Y H M K W) : jI Z Y := jI_mk (jR_g g.1 q.1 h) hC (jA_g g.2 q.2 hA)
theorem jz_W (h : jz S T M K W) : jc_W S W := by
  obtain ⟨_, _, _, h3, h4⟩ := h
  rcases h4 with ⟨rfl, _, _, e⟩ | ⟨k, hk, rfl, _, _, e⟩
  · exact e
  · exact ⟨(h3 k hk).1, k, e, (h3 k hk).2⟩
theorem jI_q (h : jR o H W M K c L E cn Q im NI LI hI tn tb wh S T) (hC : jr_C T H M K W) (hA : jA H N n ca P Lg hi S T) : jq o H N W M K S T := ⟨h.1, hA.1, ⟨h.2.1, jz_W h.2.2.1⟩, hA.2.1, hC, hA.2.2.1⟩
/-! the same by lists of what may have changed -/
abbrev djz_c : List (Nat × Nat × Nat) := [(0, 11, 16), (0, 11, 18), (4, 30, 0), (0, 5, 2), (3, 6, 2)]
abbrev djz_r : List (Nat × Nat × Nat) := [(0, 12, 7), (0, 12, 34)]
abbrev djp_c : List (Nat × Nat × Nat) := [(0, 11, 17), (0, 0, 2), (4, 20, 0), (4, 21, 0)]
abbrev djp_r : List (Nat × Nat × Nat) := [(0, 12, 30), (4, 53, 0), (4, 54, 0)]
abbrev djo_c : List (Nat × Nat × Nat) := [(0, 3, 3), (4, 24, 0), (4, 25, 0), (4, 26, 0)]
abbrev djo_r : List (Nat × Nat × Nat) := [(0, 12, 47), (4, 61, 0)]
abbrev djim_c : List (Nat × Nat × Nat) := [(0, 11, 19), (0, 9, 0), (0, 9, 1), (0, 9, 2), (0, 9, 3), (0, 9, 4), (0, 9, 5), (0, 9, 6), (0, 9, 7), (4, 38, 0), (4, 39, 0), (4, 23, 0)]
abbrev djim_r : List (Nat × Nat × Nat) := [(0, 12, 49), (4, 62, 0)]
abbrev djt_c : List (Nat × Nat × Nat) := [(0, 10, 1), (4, 40, 0)]
abbrev djt_r : List (Nat × Nat × Nat) := [(0, 12, 6), (4, 44, 0)]
abbrev djwh_c : List (Nat × Nat × Nat) := [(0, 1, 2)]
abbrev djwh_r : List (Nat × Nat × Nat) := [(0, 12, 35)]
theorem jz_f {V U : List (Nat × Nat × Nat)} (hs : ax_fr V S Z) (ht : ax_fr U T Y) (hd : djz_c.all (fun e => !V.contains e) = true) (he : djz_r.all (fun e => !U.contains e) = true) (h : jz S T M K W) : jz Z Y M K W := jz_e (hs.1 11 0 16 (jv_nc hd (by decide))) (hs.1 11 0 18 (jv_nc hd (by decide))) (fun k _ => hs.2.2.2.2.1 30 k (jv_nc hd (by decide))) (fun k _ => hs.1 5 k 2 (jv_nc hd (by decide))) (hs.2.2.2.1 6 0 2 (jv_nc hd (by decide))) (ht.1 12 0 7 (jv_nc he (by decide))) (ht.1 12 0 34 (jv_nc he (by decide))) h
theorem jp_f {V U : List (Nat × Nat × Nat)} (hs : ax_fr V S Z) (ht : ax_fr U T Y) (hd : djp_c.all (fun e => !V.contains e) = true) (he : djp_r.all (fun e => !U.contains e) = true) (h : jp S T c L E) : jp Z Y c L E := jp_e (hs.1 11 0 17 (jv_nc hd (by decide))) (fun k _ => hs.1 0 k 2 (jv_nc hd (by decide))) (fun k _ => hs.2.2.2.2.1 20 k (jv_nc hd (by decide))) (fun k _ => hs.2.2.2.2.1 21 k (jv_nc hd (by decide))) (ht.1 12 0 30 (jv_nc he (by decide))) (fun m _ => congrFun (ht.2.2.2.2.1 53 0 (jv_nc he (by decide))) m) (fun m _ => congrFun (ht.2.2.2.2.1 54 0 (jv_nc he (by decide))) m) h
theorem jo_f {V U : List (Nat × Nat × Nat)} (hs : ax_fr V S Z) (ht : ax_fr U T Y) (hd : djo_c.all (fun e => !V.contains e) = true) (he : djo_r.all (fun e => !U.contains e) = true) (h : jo S T cn Q) : jo Z Y cn Q := jo_e (hs.1 3 0 3 (jv_nc hd (by decide))) (hs.2.2.2.2.1 24 0 (jv_nc hd (by decide))) (hs.2.2.2.2.1 25 0 (jv_nc hd (by decide))) (hs.2.2.2.2.1 26 0 (jv_nc hd (by decide))) (ht.1 12 0 47 (jv_nc he (by decide))) (ht.2.2.2.2.1 61 0 (jv_nc he (by decide))) h
theorem jt_f {V U : List (Nat × Nat × Nat)} (hs : ax_fr V S Z) (ht : ax_fr U T Y) (hd : djt_c.all (fun e => !V.contains e) = true) (he : djt_r.all (fun e => !U.contains e) = true) (h : jt S T tn tb) : jt Z Y tn tb := jt_e (hs.1 10 0 1 (jv_nc hd (by decide))) (hs.2.2.2.2.1 40 0 (jv_nc hd (by decide))) (ht.1 12 0 6 (jv_nc he (by decide))) (ht.2.2.2.2.1 44 0 (jv_nc he (by decide))) h
theorem jwh_f {V U : List (Nat × Nat × Nat)} (hs : ax_fr V S Z) (ht : ax_fr U T Y) (hd : djwh_c.all (fun e => !V.contains e) = true) (he : djwh_r.all (fun e => !U.contains e) = true) (h : jwh S T wh) : jwh Z Y wh := jwh_e (hs.1 1 0 2 (jv_nc hd (by decide))) (ht.1 12 0 35 (jv_nc he (by decide))) h
theorem jc_H_f {V : List (Nat × Nat × Nat)} (hs : ax_fr V S Z) (h0 : ∀ j, V.contains (2, 11, j) = false) (h1 : V.contains (3, 6, 1) = false) (h2 : ∀ j, V.contains (0, 4, j) = false) (h3 : V.contains (4, 27, 0) = false) (h4 : V.contains (4, 28, 0) = false) (h5 : V.contains (4, 29, 0) = false) (h : jc_H S o H) : jc_H Z o H := jc_H_e (fun j => hs.2.2.1 11 0 j (h0 j)) (hs.2.2.2.1 6 0 1 h1) (fun j => hs.1 4 o j (h2 j)) (hs.2.2.2.2.1 27 o h3) (hs.2.2.2.2.1 28 o h4) (hs.2.2.2.2.1 29 o h5) h
theorem jim_f {V U : List (Nat × Nat × Nat)} (hs : ax_fr V S Z) (ht : ax_fr U T Y) (h0 : V.contains (0, 11, 19) = false) (h1 : ∀ j, V.contains (0, 9, j) = false) (h2 : V.contains (4, 38, 0) = false) (h3 : V.contains (4, 39, 0) = false) (h4 : V.contains (4, 23, 0) = false) (h5 : U.contains (0, 12, 49) = false) (h6 : U.contains (4, 62, 0) = false) (h : jim S T H im NI LI hI) : jim Z Y H im NI LI hI := jim_e (hs.1 11 0 19 h0) (fun j => hs.1 9 2 j (h1 j)) (hs.2.2.2.2.1 38 2 h2) (hs.2.2.2.2.1 39 2 h3) (hs.2.2.2.2.1 23 1 h4) (ht.1 12 0 49 h5) (ht.2.2.2.2.1 62 0 h6) h
theorem cg1_f {V : List (Nat × Nat × Nat)} (hs : ax_fr V S Z) (h1 : ∀ j, V.contains (0, 9, j) = false) (h2 : ∀ j, V.contains (0, 7, j) = false) (h3 : V.contains (4, 33, 0) = false) (h4 : V.contains (4, 38, 0) = false) (h5 : V.contains (4, 39, 0) = false) (h6 : V.contains (4, 23, 0) = false) : cg1 S Z := ⟨fun j => hs.1 9 0 j (h1 j), fun j => hs.1 7 0 j (h2 j), hs.2.2.2.2.1 33 0 h3, hs.2.2.2.2.1 38 0 h4, hs.2.2.2.2.1 39 0 h5, hs.2.2.2.2.1 23 0 h6⟩
theorem rg1_f {U : List (Nat × Nat × Nat)} (ht : ax_fr U T Y) (h1 : U.contains (0, 12, 39) = false) (h2 : U.contains (4, 55, 0) = false) (h3 : U.contains (4, 59, 0) = false) : rg1 T Y := ⟨ht.1 12 0 39 h1, ht.2.2.2.2.1 55 0 h2, ht.2.2.2.2.1 59 0 h3⟩
theorem jr_C_e (a26 : ax_fi Y 12 0 26 = ax_fi T 12 0 26) (a27 : ax_fi Y 12 0 27 = ax_fi T 12 0 27) (a34 : ax_fi Y 12 0 34 = ax_fi T 12 0 34) (b47 : ax_ai Y 47 0 = ax_ai T 47 0) (b49 : ax_ai Y 49 0 = ax_ai T 49 0) (b51 : ax_ai Y 51 0 = ax_ai T 51 0) (b45 : ax_ai Y 45 0 = ax_ai T 45 0) (b44 : ax_ai Y 44 1 = ax_ai T 44 1) (b46 : ax_ai Y 46 0 = ax_ai T 46 0) (b58 : ax_ai Y 58 0 = ax_ai T 58 0) (b57 : ax_al Y 57 0 = ax_al T 57 0) (h : jr_C T H M K W) : jr_C Y H M K W := by
  obtain ⟨⟨h0, h1, h2, h3, h4⟩, ⟨l0, l1⟩, hm, hlt, hW⟩ := h
  refine ⟨⟨?_, ?_, ?_, ?_, ?_⟩, ⟨l0, ?_⟩, ?_, ?_, ?_⟩
  · rw [a26]; exact h0
  · rw [a27]; exact h1
  · rw [b47]; exact h2
  · rw [b49]; exact h3
  · rw [b51]; exact h4
  · rw [b45, b44]; exact l1
  · unfold jr_M
    rw [b57, b58]; exact hm
  · unfold jr_lt
    rw [b46]; exact hlt
  · match W, hW with
    | none, hW => exact a34.trans hW
    | some cs, ⟨k, a, b, c⟩ => exact ⟨k, a, a34.trans b, c⟩
abbrev dC_r : List (Nat × Nat × Nat) := [(0, 12, 26), (0, 12, 27), (0, 12, 34), (4, 47, 0), (4, 49, 0), (4, 51, 0), (4, 45, 0), (4, 44, 0), (4, 46, 0), (4, 58, 0), (5, 57, 0)]
theorem jr_C_f {U : List (Nat × Nat × Nat)} (ht : ax_fr U T Y) (he : dC_r.all (fun e => !U.contains e) = true) (h : jr_C T H M K W) : jr_C Y H M K W := jr_C_e (ht.1 12 0 26 (jv_nc he (by decide))) (ht.1 12 0 27 (jv_nc he (by decide))) (ht.1 12 0 34 (jv_nc he (by decide))) (ht.2.2.2.2.1 47 0 (jv_nc he (by decide))) (ht.2.2.2.2.1 49 0 (jv_nc he (by decide))) (ht.2.2.2.2.1 51 0 (jv_nc he (by decide))) (ht.2.2.2.2.1 45 0 (jv_nc he (by decide))) (ht.2.2.2.2.1 44 1 (jv_nc he (by decide))) (ht.2.2.2.2.1 46 0 (jv_nc he (by decide))) (ht.2.2.2.2.1 58 0 (jv_nc he (by decide))) (ht.2.2.2.2.2 57 0 (jv_nc he (by decide))) h
/-! frames of queries -/
theorem cg_scr (h : ax_fr jc_sc2 S Z) : cg0 o M c S Z ∧ cg1 S Z := by
  have e0 : ∀ k j, ¬ (k = 5 ∧ j = 3) → jc_sc2.contains (0, k, j) = false := fun k j q => by
    by_cases h1 : k = 5
    · by_cases h2 : j = 3
      · exact absurd ⟨h1, h2⟩ q
      · simp [h2]
    · simp [h1]
  have e4 : ∀ k, k ≠ 43 → k ≠ 32 → k ≠ 31 → jc_sc2.contains (4, k, 0) = false := fun k q1 q2 q3 => by
    simp [q1, q2, q3]
  have e2 : ∀ k j, jc_sc2.contains (2, k, j) = false := fun k j => by simp
  have e3 : ∀ k j, jc_sc2.contains (3, k, j) = false := fun k j => by simp
  obtain ⟨f1, f2, f3, f4, f5, f6⟩ := h
  refine ⟨⟨fun k i j _ _ h3 _ _ _ _ _ => f1 k i j (e0 k j (by omega)), fun j => f3 11 0 j (e2 _ _), fun j => f4 6 0 j (e3 _ _), fun k i _ h2 h3 h4 _ _ _ _ _ _ _ => f5 k i (e4 k (by omega) (by omega) (by omega))⟩, fun j => f1 9 0 j (e0 _ _ (by omega)), fun j => f1 7 0 j (e0 _ _ (by omega)), f5 33 0 (e4 _ (by omega) (by omega) (by omega)), f5 38 0 (e4 _ (by omega) (by omega) (by omega)), f5 39 0 (e4 _ (by omega) (by omega) (by omega)), f5 23 0 (e4 _ (by omega) (by omega) (by omega))⟩
theorem rg_q (h : ax_fr jr_q T Y) : rg0 T Y ∧ rg1 T Y := by
  obtain ⟨f1, f2, f3, f4, f5, f6⟩ := h
  refine ⟨⟨fun j hj => ?_, f5 44 0 (by decide), fun m _ => by rw [f5 53 0 (by decide)], fun m _ => by rw [f5 54 0 (by decide)], f5 61 0 (by decide), f5 62 0 (by decide)⟩, f1 12 0 39 (by decide), f5 55 0 (by decide), f5 59 0 (by decide)⟩
  rcases hj with rfl | rfl | rfl | rfl | rfl | rfl | rfl | rfl | rfl
  · exact f1 12 0 6 (by decide)
  · exact f1 12 0 7 (by decide)
  · exact f1 12 0 26 (by decide)
  · exact f1 12 0 27 (by decide)
  · exact f1 12 0 30 (by decide)
  · exact f1 12 0 34 (by decide)
  · exact f1 12 0 35 (by decide)
  · exact f1 12 0 47 (by decide)
  · exact f1 12 0 49 (by decide)
/-- all that jI holds, for a query that leaves scratch alone -/
theorem jX_qr {x y : Option (Int32 × AS)} (h : jR o H W M K c L E cn Q im NI LI hI tn tb wh S T) (hA : jA H N n ca P Lg hi S T) (q : qr H W M K S T x y) : jX x y := by
  obtain ⟨r, S', T', h1, h2, h3, h4, h5⟩ := q
  exact ⟨r, S', T', h1, h2, jI_g h hA (cg_scr h3) (rg_q h4) h5⟩
theorem jX_qq {x y : Option (Int32 × AS)} (h : jR o H W M K c L E cn Q im NI LI hI tn tb wh S T) (hA : jA H N n ca P Lg hi S T) (q : qq H W M K S T x y) : jX x y := by
  obtain ⟨r, S', T', h1, h2, h3, h4, h5⟩ := q
  exact jX_qr h hA ⟨r, S', T', h1, h2, jc_sc2_of h3, h4, h5⟩
theorem jX_qo {x : Option Int32} {y : Option (Int32 × AS)} (h : jR o H W M K c L E cn Q im NI LI hI tn tb wh S T) (hA : jA H N n ca P Lg hi S T) (q : qo H W M K T x y) : jXo S x y := by
  obtain ⟨r, T', h1, h2, h3, h4⟩ := q
  exact ⟨r, T', h1, h2, jI_g h hA ⟨cg0.rf, cg1.rf⟩ (rg_q h3) h4⟩
end
/-! QUERIES keep the invariant -/
section
variable {S T : AS}
theorem x_mean (h : jI S T) (a : Int32) : jX (f_X11_mean a S) (f_X12_mean a T) := by
  obtain ⟨o, H, N, W, M, K, c, L, E, cn, Q, im, NI, LI, hI, tn, tb, wh, n, ca, P, Lg, hi, hR, hC, hA⟩ := h
  exact jX_qq hR hA (q_mean (jI_q hR hC hA) a)
theorem x_needs (h : jI S T) (a : Int32) : jX (f_X11_needs a S) (f_X12_needs a T) := by
  obtain ⟨o, H, N, W, M, K, c, L, E, cn, Q, im, NI, LI, hI, tn, tb, wh, n, ca, P, Lg, hi, hR, hC, hA⟩ := h
  exact jX_qq hR hA (q_needs (jI_q hR hC hA) a)
theorem x_name (h : jI S T) (a b : Int32) : jX (f_X11_name a b S) (f_X12_name a b T) := by
  obtain ⟨o, H, N, W, M, K, c, L, E, cn, Q, im, NI, LI, hI, tn, tb, wh, n, ca, P, Lg, hi, hR, hC, hA⟩ := h
  exact jX_qq hR hA (q_name (jI_q hR hC hA) a b)
theorem x_sung (h : jI S T) (a b : Int32) : jX (f_X11_sung a b S) (f_X12_sung a b T) := by
  obtain ⟨o, H, N, W, M, K, c, L, E, cn, Q, im, NI, LI, hI, tn, tb, wh, n, ca, P, Lg, hi, hR, hC, hA⟩ := h
  exact jX_qq hR hA (q_sung (jI_q hR hC hA) a b)
theorem x_timed (h : jI S T) (a : Int32) : jX (f_X11_timed a S) (f_X12_timed a T) := by
  obtain ⟨o, H, N, W, M, K, c, L, E, cn, Q, im, NI, LI, hI, tn, tb, wh, n, ca, P, Lg, hi, hR, hC, hA⟩ := h
  exact jX_qq hR hA (q_timed (jI_q hR hC hA) a)
theorem x_whose (h : jI S T) (a : Int32) : jXo S (f_X11_whose a S) (f_X12_whose a T) := by
  obtain ⟨o, H, N, W, M, K, c, L, E, cn, Q, im, NI, LI, hI, tn, tb, wh, n, ca, P, Lg, hi, hR, hC, hA⟩ := h
  exact jX_qo hR hA (q_whose (jI_q hR hC hA) a)
theorem x_game (h : jI S T) (a b d e f : Int32) : jX (f_X11_game a b d e f S) (f_X12_game a b d e f T) := by
  obtain ⟨o, H, N, W, M, K, c, L, E, cn, Q, im, NI, LI, hI, tn, tb, wh, n, ca, P, Lg, hi, hR, hC, hA⟩ := h
  exact jX_qq hR hA (q_game (jI_q hR hC hA) a b d e f)
theorem x_span (h : jI S T) (a : Int32) : jX (f_X11_span a S) (f_X12_span a T) := by
  obtain ⟨o, H, N, W, M, K, c, L, E, cn, Q, im, NI, LI, hI, tn, tb, wh, n, ca, P, Lg, hi, hR, hC, hA⟩ := h
  exact jX_qq hR hA (q_span (jI_q hR hC hA) a)
theorem x_all (h : jI S T) (a : Int32) : jX (f_X11_all a S) (f_X12_all a T) := by
  obtain ⟨o, H, N, W, M, K, c, L, E, cn, Q, im, NI, LI, hI, tn, tb, wh, n, ca, P, Lg, hi, hR, hC, hA⟩ := h
  exact jX_qq hR hA (q_all (jI_q hR hC hA) a)
theorem x_apart (h : jI S T) (a : Int32) : jXo S (f_X11_apart a S) (f_X12_apart a T) := by
  obtain ⟨o, H, N, W, M, K, c, L, E, cn, Q, im, NI, LI, hI, tn, tb, wh, n, ca, P, Lg, hi, hR, hC, hA⟩ := h
  exact jX_qo hR hA (q_apart (jI_q hR hC hA) a)
theorem x_rests (h : jI S T) (a b d : Int32) : jX (f_X11_rests a b d S) (f_X12_rests a b d T) := by
  obtain ⟨o, H, N, W, M, K, c, L, E, cn, Q, im, NI, LI, hI, tn, tb, wh, n, ca, P, Lg, hi, hR, hC, hA⟩ := h
  exact jX_qr hR hA (q_rests (jI_q hR hC hA) a b d)
theorem x_hards (h : jI S T) (a : Int32) : jX (f_X11_hards a S) (f_X12_hards a T) := by
  obtain ⟨o, H, N, W, M, K, c, L, E, cn, Q, im, NI, LI, hI, tn, tb, wh, n, ca, P, Lg, hi, hR, hC, hA⟩ := h
  exact jX_qq hR hA (q_hards (jI_q hR hC hA) hR.2.2.2.2.1 a)
theorem x_ask (h : jI S T) (a : Int32) : jX (f_X11_ask a S) (f_X12_ask a T) := by
  obtain ⟨o, H, N, W, M, K, c, L, E, cn, Q, im, NI, LI, hI, tn, tb, wh, n, ca, P, Lg, hi, hR, hC, hA⟩ := h
  exact jX_qq hR hA (q_ask (jI_q hR hC hA) hR.2.2.2.2.1 a)
theorem x_rule (h : jI S T) (a : Int32) : jXo S (f_X11_rule a S) (f_X12_rule a T) := by
  obtain ⟨o, H, N, W, M, K, c, L, E, cn, Q, im, NI, LI, hI, tn, tb, wh, n, ca, P, Lg, hi, hR, hC, hA⟩ := h
  exact jX_qo hR hA (q_rule (jI_q hR hC hA) a)
theorem x_lodger (h : jI S T) (a b : Int32) : jXo S (f_X11_lodger a b S) (f_X12_lodger a b T) := by
  obtain ⟨o, H, N, W, M, K, c, L, E, cn, Q, im, NI, LI, hI, tn, tb, wh, n, ca, P, Lg, hi, hR, hC, hA⟩ := h
  exact jX_qo hR hA (q_lodger (jI_q hR hC hA) a b)
theorem x_step (h : jI S T) (a b d : Int32) : jXo S (f_X11_step a b d S) (f_X12_step a b d T) := by
  obtain ⟨o, H, N, W, M, K, c, L, E, cn, Q, im, NI, LI, hI, tn, tb, wh, n, ca, P, Lg, hi, hR, hC, hA⟩ := h
  exact jX_qo hR hA (q_step (jI_q hR hC hA) hR.2.2.2.1 a b d)
theorem x_log (h : jI S T) (a b : Int32) : jXo S (f_X11_log a b S) (f_X12_log a b T) := by
  obtain ⟨o, H, N, W, M, K, c, L, E, cn, Q, im, NI, LI, hI, tn, tb, wh, n, ca, P, Lg, hi, hR, hC, hA⟩ := h
  exact jX_qo hR hA (q_log (jI_q hR hC hA) (fun z => (hA.2.2.2.2.2.2.2.2.2 z).1) (jl_cw hA.2.2.2.2.1 hA.2.2.2.2.2.2.2.1) hA.2.2.2.2.2.1 a b)
end

/-! CLAUSES of laws, as relations; total -/
abbrev la_OC : Type := Nat ⊕ (la_C × Nat)
def la_B (b : Nat → Nat) (n : Nat) (e : la_T) (p : Nat) (o : la_O) : Prop :=
  (∃ f, o = .inl f ∧ la_R b n 8 e 0 p (.inl f)) ∨
  (∃ e1 s1 f, o = .inl f ∧ la_R b n 8 e 0 p (.inr (e1, s1)) ∧ la_R b n 9 e1 0 s1 (.inl f)) ∨
  (∃ e1 s1 e2 s2, la_R b n 8 e 0 p (.inr (e1, s1)) ∧ la_R b n 9 e1 0 s1 (.inr (e2, s2)) ∧ la_R b n 10 e2 0 s2 o)
def la_V (b : Nat → Nat) (n : Nat) (oc : la_O) (o : la_OC) : Prop :=
  (∃ f, oc = .inl f ∧ o = .inl f) ∨
  (∃ c s, oc = .inr (c, s) ∧ la_by b n s ≠ 63 ∧ o = .inl (la_sk b n s)) ∨
  (∃ c s f, oc = .inr (c, s) ∧ la_by b n s = 63 ∧ la_R b n 2 la_z 0 (la_sk b n s + 1) (.inl f) ∧ o = .inl f) ∨
  (∃ c s v t, oc = .inr (c, s) ∧ la_by b n s = 63 ∧ la_R b n 2 la_z 0 (la_sk b n s + 1) (.inr (v, t)) ∧ o = .inr ((some c, v), t))
def la_K2 (b : Nat → Nat) (n : Nat) (p : Nat) (o : la_OC) : Prop :=
  ((la_by b n p = 33 ∨ la_by b n p = 40) ∧ ∃ oc, la_R b n 5 la_z 0 (la_sk b n p) oc ∧ la_V b n oc o) ∨
  (la_by b n p ≠ 33 ∧ la_by b n p ≠ 40 ∧ ∃ f, la_R b n 2 la_z 0 (la_sk b n p) (.inl f) ∧ o = .inl f) ∨
  (la_by b n p ≠ 33 ∧ la_by b n p ≠ 40 ∧ ∃ e s, la_R b n 2 la_z 0 (la_sk b n p) (.inr (e, s)) ∧ la_rl (la_by b n s) = none ∧ o = .inr ((none, e), la_sk b n s)) ∨
  (la_by b n p ≠ 33 ∧ la_by b n p ≠ 40 ∧ ∃ e s, la_R b n 2 la_z 0 (la_sk b n p) (.inr (e, s)) ∧ (∃ k, la_rl (la_by b n s) = some k) ∧ ∃ oc, la_B b n e (la_sk b n s) oc ∧ la_V b n oc o)
def la_K (b : Nat → Nat) (n : Nat) (p : Nat) (o : la_OC) : Prop :=
  (la_by b n p ≠ 121 ∧ o = .inl (la_sk b n p)) ∨
  (la_by b n p = 121 ∧ la_by b n (la_sk b n p + 1) ≠ 58 ∧ o = .inl (la_sk b n (la_sk b n p + 1))) ∨
  (la_by b n p = 121 ∧ la_by b n (la_sk b n p + 1) = 58 ∧ la_K2 b n (la_sk b n (la_sk b n p + 1) + 1) o)
def la_L (b : Nat → Nat) (n : Nat) : Nat → Nat → (Nat ⊕ List la_C) → Prop
  | 0, _, _ => False
  | m + 1, p, o => (∃ f, la_K b n p (.inl f) ∧ o = .inl f) ∨
    (∃ C s, la_K b n p (.inr (C, s)) ∧ la_by b n s = 256 ∧ o = .inr [C]) ∨
    (∃ C s, la_K b n p (.inr (C, s)) ∧ la_by b n s ≠ 256 ∧ la_by b n s ≠ 59 ∧ o = .inl (la_sk b n s)) ∨
    (∃ C s f, la_K b n p (.inr (C, s)) ∧ la_by b n s = 59 ∧ la_L b n m (la_sk b n s + 1) (.inl f) ∧ o = .inl f) ∨
    (∃ C s cs, la_K b n p (.inr (C, s)) ∧ la_by b n s = 59 ∧ la_L b n m (la_sk b n s + 1) (.inr cs) ∧ o = .inr (C :: cs))
def la_gO (n p : Nat) : la_OC → Prop
  | .inl f => f ≤ n
  | .inr (_, s) => p + 1 ≤ s ∧ s ≤ n
section
variable {b : Nat → Nat} {n : Nat}
theorem la_totk (k : Nat) (a : la_T) (d p : Nat) (hk : k < 6 → a = la_z) (h10 : k ≤ 10) (hp : p ≤ n) (hd : d ≤ 6) : ∃ o, la_R b n k a d p o ∧ la_gd n k p o := la_tot (8 * (n - p) + la_rk k + 1) k a d p hk h10 hp hd (by omega)
theorem la_totV {p : Nat} {oc : la_O} (h : (∃ f, oc = .inl f ∧ f ≤ n) ∨ (∃ c s, oc = .inr (c, s) ∧ p ≤ s ∧ s ≤ n)) : ∃ o, la_V b n oc o ∧ la_gO n p o := by
  rcases h with ⟨f, rfl, hf⟩ | ⟨c, s, rfl, h1, h2⟩
  · exact ⟨.inl f, .inl ⟨f, rfl, rfl⟩, hf⟩
  · have s1 := la_sk_n (b := b) h2
    by_cases g : la_by b n s = 63
    · have q := la_by_n g (by omega)
      obtain ⟨o, r, w⟩ := la_totk (b := b) (n := n) 2 la_z 0 (la_sk b n s + 1) (fun _ => rfl) (by omega) (by omega) (by omega)
      match o, r, w with
      | .inl f, r, w => exact ⟨.inl f, .inr (.inr (.inl ⟨c, s, f, rfl, g, r, rfl⟩)), w.2⟩
      | .inr (v, t), r, w => exact ⟨_, .inr (.inr (.inr ⟨c, s, v, t, rfl, g, r, rfl⟩)), by simp only [la_gd, la_lo, la_gO] at w ⊢; omega⟩
    · exact ⟨_, .inr (.inl ⟨c, s, rfl, g, rfl⟩), s1.2⟩
theorem la_totB {e : la_T} {p : Nat} (hp : p ≤ n) : ∃ o, la_B b n e p o ∧ ((∃ f, o = .inl f ∧ f ≤ n) ∨ (∃ c s, o = .inr (c, s) ∧ p + 1 ≤ s ∧ s ≤ n)) := by
  obtain ⟨o, r, w⟩ := la_totk (b := b) (n := n) 8 e 0 p (fun h => absurd h (by omega)) (by omega) hp (by omega)
  match o, r, w with
  | .inl f, r, w => exact ⟨.inl f, .inl ⟨f, rfl, r⟩, .inl ⟨f, rfl, w.2⟩⟩
  | .inr (e1, s1), r, w =>
    simp only [la_gd, la_lo] at w
    obtain ⟨o2, r2, w2⟩ := la_totk (b := b) (n := n) 9 e1 0 s1 (fun h => absurd h (by omega)) (by omega) w.2 (by omega)
    match o2, r2, w2 with
    | .inl f, r2, w2 => exact ⟨.inl f, .inr (.inl ⟨e1, s1, f, rfl, r, r2⟩), .inl ⟨f, rfl, w2.2⟩⟩
    | .inr (e2, s2), r2, w2 =>
      simp only [la_gd, la_lo] at w2
      obtain ⟨o3, r3, w3⟩ := la_totk (b := b) (n := n) 10 e2 0 s2 (fun h => absurd h (by omega)) (by omega) w2.2 (by omega)
      refine ⟨o3, .inr (.inr ⟨e1, s1, e2, s2, r, r2, r3⟩), ?_⟩
      match o3, w3 with
      | .inl f, w3 => exact .inl ⟨f, rfl, w3.2⟩
      | .inr (e3, s3), w3 => exact .inr ⟨e3, s3, rfl, by simp only [la_gd, la_lo] at w3; omega⟩
theorem la_totK2 {p : Nat} (hp : p ≤ n) : ∃ o, la_K2 b n p o ∧ la_gO n p o := by
  have s1 := la_sk_n (b := b) hp
  by_cases h : la_by b n p = 33 ∨ la_by b n p = 40
  · obtain ⟨oc, r, w⟩ := la_totk (b := b) (n := n) 5 la_z 0 (la_sk b n p) (fun _ => rfl) (by omega) s1.2 (by omega)
    obtain ⟨o, r2, w2⟩ := la_totV (b := b) (n := n) (p := p) (oc := oc) (by
      match oc, w with
      | .inl f, w => exact .inl ⟨f, rfl, w.2⟩
      | .inr (e, s), w => exact .inr ⟨e, s, rfl, by simp only [la_gd, la_lo] at w; omega⟩)
    exact ⟨o, .inl ⟨h, oc, r, r2⟩, w2⟩
  · have h1 : la_by b n p ≠ 33 := fun q => h (.inl q)
    have h2 : la_by b n p ≠ 40 := fun q => h (.inr q)
    obtain ⟨o, r, w⟩ := la_totk (b := b) (n := n) 2 la_z 0 (la_sk b n p) (fun _ => rfl) (by omega) s1.2 (by omega)
    match o, r, w with
    | .inl f, r, w => exact ⟨.inl f, .inr (.inl ⟨h1, h2, f, r, rfl⟩), w.2⟩
    | .inr (e, s), r, w =>
      simp only [la_gd, la_lo] at w
      have s2 := la_sk_n (b := b) w.2
      cases hr : la_rl (la_by b n s) with
      | none => exact ⟨_, .inr (.inr (.inl ⟨h1, h2, e, s, r, hr, rfl⟩)), by simp only [la_gO]; omega⟩
      | some k =>
        obtain ⟨oc, r2, w2⟩ := la_totB (b := b) (n := n) (e := e) s2.2
        obtain ⟨o, r3, w3⟩ := la_totV (b := b) (n := n) (p := p) (oc := oc) (by
          rcases w2 with ⟨f, e1, e2⟩ | ⟨c, t, e1, e2⟩
          · exact .inl ⟨f, e1, e2⟩
          · exact .inr ⟨c, t, e1, by omega⟩)
        exact ⟨o, .inr (.inr (.inr ⟨h1, h2, e, s, r, ⟨k, hr⟩, oc, r2, r3⟩)), w3⟩
theorem la_totK {p : Nat} (hp : p ≤ n) : ∃ o, la_K b n p o ∧ la_gO n p o := by
  have s1 := la_sk_n (b := b) hp
  by_cases h : la_by b n p = 121
  · have q := la_by_n h (by omega)
    have s2 := la_sk_n (b := b) (by omega : la_sk b n p + 1 ≤ n)
    by_cases g : la_by b n (la_sk b n p + 1) = 58
    · have q2 := la_by_n g (by omega)
      obtain ⟨o, r, w⟩ := la_totK2 (b := b) (n := n) (p := la_sk b n (la_sk b n p + 1) + 1) (by omega)
      refine ⟨o, .inr (.inr ⟨h, g, r⟩), ?_⟩
      match o, w with
      | .inl f, w => exact w
      | .inr (C, s), w => simp only [la_gO] at w ⊢; omega
    · exact ⟨_, .inr (.inl ⟨h, g, rfl⟩), s2.2⟩
  · exact ⟨_, .inl ⟨h, rfl⟩, s1.2⟩
theorem la_totL : ∀ (m p : Nat), p ≤ n → n - p < m → ∃ o, la_L b n m p o
  | 0, _, _, h => absurd h (Nat.not_lt_zero _)
  | m + 1, p, hp, hm => by
    obtain ⟨o, r, w⟩ := la_totK (b := b) hp
    match o, r, w with
    | .inl f, r, w => exact ⟨.inl f, .inl ⟨f, r, rfl⟩⟩
    | .inr (C, s), r, w =>
      simp only [la_gO] at w
      by_cases h : la_by b n s = 256
      · exact ⟨_, .inr (.inl ⟨C, s, r, h, rfl⟩)⟩
      · by_cases g : la_by b n s = 59
        · have q := la_by_n g (by omega)
          have s1 := la_sk_n (b := b) w.2
          obtain ⟨o, r2⟩ := la_totL m (la_sk b n s + 1) (by omega) (by omega)
          match o, r2 with
          | .inl f, r2 => exact ⟨.inl f, .inr (.inr (.inr (.inl ⟨C, s, f, r, g, r2, rfl⟩)))⟩
          | .inr cs, r2 => exact ⟨.inr (C :: cs), .inr (.inr (.inr (.inr ⟨C, s, cs, r, g, r2, rfl⟩)))⟩
        · exact ⟨_, .inr (.inr (.inl ⟨C, s, r, h, g, rfl⟩))⟩
/-! they are sound -/
theorem la_ok2 {p s : Nat} {e : la_T} (h : la_R b n 2 la_z 0 p (.inr (e, s))) : la_ok 40 e := la_ok_m ((la_bnd h (by omega)) 0 trivial).1 (by decide)
theorem la_ok5 {p s : Nat} {e : la_T} (h : la_R b n 5 la_z 0 p (.inr (e, s))) : la_ok 18 e := ((la_bnd h (by omega)) 0 trivial).1
theorem la_okB {p s : Nat} {e a : la_T} (ha : la_ok 15 a) (h : la_B b n a p (.inr (e, s))) : la_ok 40 e := by
  rcases h with ⟨f, q, _⟩ | ⟨_, _, f, q, _⟩ | ⟨e1, s1, e2, s2, h1, h2, h3⟩
  · cases q
  · cases q
  · have g1 := ((la_bnd h1 (by omega)) 15 ha).1
    have g2 := ((la_bnd h2 (by omega)) _ g1).1
    exact la_ok_m ((la_bnd h3 (by omega)) _ g2).1 (by decide)
theorem la_okV {oc : la_O} {C : la_C} {s : Nat} (hc : ∀ c t, oc = .inr (c, t) → la_ok 40 c) (h : la_V b n oc (.inr (C, s))) : la_k1 C := by
  rcases h with ⟨_, _, q⟩ | ⟨_, _, _, _, q⟩ | ⟨_, _, _, _, _, _, q⟩ | ⟨c, s, v, t, h1, h2, h3, h4⟩
  · cases q
  · cases q
  · cases q
  · cases h4; exact ⟨hc _ _ h1, la_ok2 h3⟩
theorem la_okK2 {p s : Nat} {C : la_C} (h : la_K2 b n p (.inr (C, s))) : la_k1 C := by
  rcases h with ⟨_, oc, h1, h2⟩ | ⟨_, _, _, _, q⟩ | ⟨_, _, e, t, h1, _, h2⟩ | ⟨_, _, e, t, h1, _, oc, h2, h3⟩
  · exact la_okV (fun c t q => la_ok_m (la_ok5 (q ▸ h1)) (by decide)) h2
  · cases q
  · cases h2; exact la_ok2 h1
  · exact la_okV (fun c t q => la_okB ((la_bnd h1 (by omega)) 0 trivial).1 (q ▸ h2)) h3
theorem la_okK {p s : Nat} {C : la_C} (h : la_K b n p (.inr (C, s))) : la_k1 C := by
  rcases h with ⟨_, q⟩ | ⟨_, _, q⟩ | ⟨_, _, h⟩
  · cases q
  · cases q
  · exact la_okK2 h
theorem la_okL : ∀ (m p : Nat) (cs : List la_C), la_L b n m p (.inr cs) → la_kk cs
  | 0, _, _, h => h.elim
  | m + 1, p, cs, h => by
    rcases h with ⟨_, _, q⟩ | ⟨C, s, h1, _, q⟩ | ⟨_, _, _, _, _, q⟩ | ⟨_, _, _, _, _, _, q⟩ | ⟨C, s, ds, h1, _, h2, q⟩
    · cases q
    · cases q; intro c hc; cases List.mem_singleton.mp hc; exact la_okK h1
    · cases q
    · cases q
    · cases q
      intro c hc
      rcases List.mem_cons.mp hc with rfl | hc
      · exact la_okK h1
      · exact la_okL m _ ds h2 c hc
end

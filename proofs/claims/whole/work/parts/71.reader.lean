/-! THE READER of laws, as a relation: bytes b, n of them; la_sk: behind blanks; la_by: the sign there (256 at the end) -/
def la_sk (b : Nat → Nat) (n p : Nat) : Nat := if h : p < n ∧ b p = 32 then la_sk b n (p + 1) else p
termination_by n - p
def la_by (b : Nat → Nat) (n p : Nat) : Nat := if la_sk b n p < n then b (la_sk b n p) else 256
def la_li (c : Nat) : Option Nat := if c = 110 then some 0 else if c = 112 then some 1 else if c = 116 then some 2 else if c = 103 then some 3 else if c = 115 then some 4 else if c = 100 then some 5 else none
def la_di (b : Nat → Nat) (n p : Nat) : Bool := decide (p < n) && decide (48 ≤ b p) && decide (b p ≤ 57)
/-- at most k digits from p on, behind the number v: the number and the place behind -/
def la_nu (b : Nat → Nat) (n : Nat) : Nat → Nat → Nat → Nat × Nat
  | 0, p, v => (v, p)
  | k + 1, p, v => if la_di b n p = true then la_nu b n k (p + 1) (10 * v + (b p - 48)) else (v, p)
def la_rl (c : Nat) : Option Int32 := if c = 61 then some 6 else if c = 60 then some 7 else if c = 62 then some 8 else none
inductive la_Q : Type
  | atom | term | sum | unit | part | cond
  | termR (a : la_T) | sumR (a : la_T) | cmpR (a : la_T) | partR (a : la_T) | condR (a : la_T)
abbrev la_O : Type := Nat ⊕ (la_T × Nat)
inductive la_R (b : Nat → Nat) (n : Nat) : la_Q → Nat → Nat → la_O → Prop
  | ltr {d p k} (h : la_li (la_by b n p) = some k) : la_R b n .atom d p (.inr (.ltr k, la_sk b n p + 1))
  | num {d p v r} (h : la_di b n (la_sk b n p) = true) (g : la_nu b n 4 (la_sk b n p) 0 = (v, r)) (e : la_di b n r = false) : la_R b n .atom d p (.inr (.num (Int32.ofNat v), r))
  | numF {d p v r} (h : la_di b n (la_sk b n p) = true) (g : la_nu b n 4 (la_sk b n p) 0 = (v, r)) (e : la_di b n r = true) : la_R b n .atom d p (.inl r)
  | boxD {p} (h : la_by b n p = 91) : la_R b n .atom 6 p (.inl (la_sk b n p))
  | boxF {d p f} (h : la_by b n p = 91) (hd : d < 6) (r : la_R b n .sum (d + 1) (la_sk b n p + 1) (.inl f)) : la_R b n .atom d p (.inl f)
  | boxE {d p e s} (h : la_by b n p = 91) (hd : d < 6) (r : la_R b n .sum (d + 1) (la_sk b n p + 1) (.inr (e, s))) (g : la_by b n s ≠ 93) : la_R b n .atom d p (.inl (la_sk b n s))
  | box {d p e s} (h : la_by b n p = 91) (hd : d < 6) (r : la_R b n .sum (d + 1) (la_sk b n p + 1) (.inr (e, s))) (g : la_by b n s = 93) : la_R b n .atom d p (.inr (e, la_sk b n s + 1))
  | noA {d p} (h : la_li (la_by b n p) = none) (g : la_di b n (la_sk b n p) = false) (k : la_by b n p ≠ 91) : la_R b n .atom d p (.inl (la_sk b n p))
  | termF {d p f} (r : la_R b n .atom d p (.inl f)) : la_R b n .term d p (.inl f)
  | term {d p e s o} (r : la_R b n .atom d p (.inr (e, s))) (q : la_R b n (.termR e) d s o) : la_R b n .term d p o
  | terN {d p e} (h : la_by b n p ≠ 42) (g : la_by b n p ≠ 47) : la_R b n (.termR e) d p (.inr (e, la_sk b n p))
  | terF {d p e f} (h : la_by b n p = 42 ∨ la_by b n p = 47) (r : la_R b n .atom d (la_sk b n p + 1) (.inl f)) : la_R b n (.termR e) d p (.inl f)
  | ter {d p e e2 s o} (h : la_by b n p = 42 ∨ la_by b n p = 47) (r : la_R b n .atom d (la_sk b n p + 1) (.inr (e2, s))) (q : la_R b n (.termR (.bin (if la_by b n p = 42 then 4 else 5) e e2)) d s o) : la_R b n (.termR e) d p o
  | sumF {d p f} (r : la_R b n .term d p (.inl f)) : la_R b n .sum d p (.inl f)
  | sum {d p e s o} (r : la_R b n .term d p (.inr (e, s))) (q : la_R b n (.sumR e) d s o) : la_R b n .sum d p o
  | suN {d p e} (h : la_by b n p ≠ 43) (g : la_by b n p ≠ 45) : la_R b n (.sumR e) d p (.inr (e, la_sk b n p))
  | suF {d p e f} (h : la_by b n p = 43 ∨ la_by b n p = 45) (r : la_R b n .term d (la_sk b n p + 1) (.inl f)) : la_R b n (.sumR e) d p (.inl f)
  | su {d p e e2 s o} (h : la_by b n p = 43 ∨ la_by b n p = 45) (r : la_R b n .term d (la_sk b n p + 1) (.inr (e2, s))) (q : la_R b n (.sumR (.bin (if la_by b n p = 43 then 2 else 3) e e2)) d s o) : la_R b n (.sumR e) d p o
  | cmN {d p e} (h : la_rl (la_by b n p) = none) : la_R b n (.cmpR e) d p (.inl (la_sk b n p))
  | cmF {d p e f k} (h : la_rl (la_by b n p) = some k) (r : la_R b n .sum d (la_sk b n p + 1) (.inl f)) : la_R b n (.cmpR e) d p (.inl f)
  | cm {d p e e2 s k} (h : la_rl (la_by b n p) = some k) (r : la_R b n .sum d (la_sk b n p + 1) (.inr (e2, s))) : la_R b n (.cmpR e) d p (.inr (.bin k e e2, s))
  | nestD {p} (h : la_by b n p = 33 ∨ la_by b n p = 40) : la_R b n .unit 6 p (.inl (la_sk b n p))
  | notF {d p f} (h : la_by b n p = 33) (hd : d < 6) (r : la_R b n .unit (d + 1) (la_sk b n p + 1) (.inl f)) : la_R b n .unit d p (.inl f)
  | not {d p e s} (h : la_by b n p = 33) (hd : d < 6) (r : la_R b n .unit (d + 1) (la_sk b n p + 1) (.inr (e, s))) : la_R b n .unit d p (.inr (.neg e, s))
  | parF {d p f} (h : la_by b n p = 40) (hd : d < 6) (r : la_R b n .cond (d + 1) (la_sk b n p + 1) (.inl f)) : la_R b n .unit d p (.inl f)
  | parE {d p e s} (h : la_by b n p = 40) (hd : d < 6) (r : la_R b n .cond (d + 1) (la_sk b n p + 1) (.inr (e, s))) (g : la_by b n s ≠ 41) : la_R b n .unit d p (.inl (la_sk b n s))
  | par {d p e s} (h : la_by b n p = 40) (hd : d < 6) (r : la_R b n .cond (d + 1) (la_sk b n p + 1) (.inr (e, s))) (g : la_by b n s = 41) : la_R b n .unit d p (.inr (e, la_sk b n s + 1))
  | cmpF {d p f} (h : la_by b n p ≠ 33) (g : la_by b n p ≠ 40) (r : la_R b n .sum d p (.inl f)) : la_R b n .unit d p (.inl f)
  | cmp {d p e s o} (h : la_by b n p ≠ 33) (g : la_by b n p ≠ 40) (r : la_R b n .sum d p (.inr (e, s))) (q : la_R b n (.cmpR e) d s o) : la_R b n .unit d p o
  | partF {d p f} (r : la_R b n .unit d p (.inl f)) : la_R b n .part d p (.inl f)
  | part {d p e s o} (r : la_R b n .unit d p (.inr (e, s))) (q : la_R b n (.partR e) d s o) : la_R b n .part d p o
  | paN {d p e} (h : la_by b n p ≠ 38) : la_R b n (.partR e) d p (.inr (e, la_sk b n p))
  | paF {d p e f} (h : la_by b n p = 38) (r : la_R b n .unit d (la_sk b n p + 1) (.inl f)) : la_R b n (.partR e) d p (.inl f)
  | pa {d p e e2 s o} (h : la_by b n p = 38) (r : la_R b n .unit d (la_sk b n p + 1) (.inr (e2, s))) (q : la_R b n (.partR (.bin 9 e e2)) d s o) : la_R b n (.partR e) d p o
  | condF {d p f} (r : la_R b n .part d p (.inl f)) : la_R b n .cond d p (.inl f)
  | cond {d p e s o} (r : la_R b n .part d p (.inr (e, s))) (q : la_R b n (.condR e) d s o) : la_R b n .cond d p o
  | coN {d p e} (h : la_by b n p ≠ 124) : la_R b n (.condR e) d p (.inr (e, la_sk b n p))
  | coF {d p e f} (h : la_by b n p = 124) (r : la_R b n .part d (la_sk b n p + 1) (.inl f)) : la_R b n (.condR e) d p (.inl f)
  | co {d p e e2 s o} (h : la_by b n p = 124) (r : la_R b n .part d (la_sk b n p + 1) (.inr (e2, s))) (q : la_R b n (.condR (.bin 10 e e2)) d s o) : la_R b n (.condR e) d p o
theorem la_sk_n {b : Nat → Nat} {n p : Nat} (h : p ≤ n) : p ≤ la_sk b n p ∧ la_sk b n p ≤ n := by
  unfold la_sk
  split
  · rename_i g
    have := la_sk_n (b := b) (n := n) (p := p + 1) (by omega)
    omega
  · omega
termination_by n - p
theorem la_sk_s {b : Nat → Nat} {n p : Nat} : la_sk b n (la_sk b n p) = la_sk b n p := by
  by_cases h : p < n ∧ b p = 32
  · have e : la_sk b n p = la_sk b n (p + 1) := by conv => lhs; unfold la_sk
                                                   exact dif_pos h
    rw [e]; exact la_sk_s
  · have e : la_sk b n p = p := by unfold la_sk; exact dif_neg h
    rw [e, e]
termination_by n - p
def la_rk : la_Q → Nat
  | .atom => 0 | .term => 1 | .sum => 2 | .unit => 3 | .part => 4 | .cond => 5
  | .termR _ => 0 | .sumR _ => 0 | .cmpR _ => 0 | .partR _ => 0 | .condR _ => 0
def la_lo : la_Q → Nat → Nat
  | .termR _, p => p | .sumR _, p => p | .partR _, p => p | .condR _, p => p
  | _, p => p + 1
def la_gd (n : Nat) (k : la_Q) (p : Nat) : la_O → Prop
  | .inl f => p ≤ f ∧ f ≤ n
  | .inr (_, s) => la_lo k p ≤ s ∧ s ≤ n
theorem la_by_n {b : Nat → Nat} {n p : Nat} {c : Nat} (h : la_by b n p = c) (hc : c < 256) : la_sk b n p < n := by
  unfold la_by at h; split at h <;> omega
theorem la_li_c {c k : Nat} (h : la_li c = some k) : c < 256 := by
  unfold la_li at h; repeat (split at h; omega)
  cases h
theorem la_rl_c {c : Nat} {k : Int32} (h : la_rl c = some k) : c < 256 := by
  unfold la_rl at h; repeat (split at h; omega)
  cases h
theorem la_nu_n {b : Nat → Nat} {n : Nat} : ∀ k p v, p ≤ n → p ≤ (la_nu b n k p v).2 ∧ (la_nu b n k p v).2 ≤ n
  | 0, p, v, h => ⟨Nat.le_refl _, h⟩
  | k + 1, p, v, h => by
    unfold la_nu
    by_cases g : la_di b n p = true
    · rw [if_pos g]
      have : p < n := by unfold la_di at g; simp at g; omega
      have := la_nu_n (b := b) (n := n) k (p + 1) (10 * v + (b p - 48)) (by omega)
      omega
    · rw [if_neg g]; exact ⟨Nat.le_refl _, h⟩
theorem la_nu_1 {b : Nat → Nat} {n k p v : Nat} (h : p ≤ n) (g : la_di b n p = true) : p + 1 ≤ (la_nu b n (k + 1) p v).2 := by
  unfold la_nu; rw [if_pos g]
  have : p < n := by unfold la_di at g; simp at g; omega
  exact (la_nu_n k (p + 1) _ (by omega)).1
theorem la_tot {b : Nat → Nat} {n : Nat} : ∀ (m : Nat) (k : la_Q) (d p : Nat), p ≤ n → d ≤ 6 → 8 * (n - p) + la_rk k < m → ∃ o, la_R b n k d p o ∧ la_gd n k p o
  | 0, _, _, _, _, _, h => absurd h (Nat.not_lt_zero _)
  | m + 1, .atom, d, p, hp, hd, hm => by
    have s1 := la_sk_n (b := b) hp
    cases hl : la_li (la_by b n p) with
    | some k =>
      have := la_by_n (b := b) (p := p) rfl (la_li_c hl)
      exact ⟨_, .ltr hl, by simp only [la_gd, la_lo]; omega⟩
    | none =>
      cases hg : la_di b n (la_sk b n p) with
      | true =>
        have n1 := la_nu_n (b := b) 4 (la_sk b n p) 0 s1.2
        have n2 : la_sk b n p + 1 ≤ (la_nu b n 4 (la_sk b n p) 0).2 := la_nu_1 (k := 3) s1.2 hg
        rcases hq : la_nu b n 4 (la_sk b n p) 0 with ⟨v, r⟩
        rw [hq] at n1 n2
        simp only at n1 n2
        cases he : la_di b n r with
        | false => exact ⟨_, .num hg hq he, by simp only [la_gd, la_lo]; omega⟩
        | true => exact ⟨_, .numF hg hq he, by simp only [la_gd]; omega⟩
      | false =>
        by_cases hb : la_by b n p = 91
        · have h1 := la_by_n hb (by omega)
          by_cases h6 : d = 6
          · subst h6; exact ⟨_, .boxD hb, by simp only [la_gd]; omega⟩
          · obtain ⟨o, r, g⟩ := la_tot (b := b) (n := n) m .sum (d + 1) (la_sk b n p + 1) (by omega) (by omega) (by simp only [la_rk] at hm ⊢; omega)
            match o, r, g with
            | .inl f, r, g => exact ⟨.inl f, .boxF hb (by omega) r, by simp only [la_gd] at g ⊢; omega⟩
            | .inr (e, s), r, g =>
              simp only [la_gd, la_lo] at g
              have s2 := la_sk_n (b := b) g.2
              by_cases h9 : la_by b n s = 93
              · have := la_by_n h9 (by omega)
                exact ⟨_, .box hb (by omega) r h9, by simp only [la_gd, la_lo]; omega⟩
              · exact ⟨_, .boxE hb (by omega) r h9, by simp only [la_gd]; omega⟩
        · exact ⟨_, .noA hl hg hb, by simp only [la_gd]; omega⟩
  | m + 1, .term, d, p, hp, hd, hm => by
    obtain ⟨o, r, g⟩ := la_tot (b := b) (n := n) m .atom d p hp hd (by simp only [la_rk] at hm ⊢; omega)
    match o, r, g with
    | .inl f, r, g => exact ⟨.inl f, .termF r, g⟩
    | .inr (e, s), r, g =>
      simp only [la_gd, la_lo] at g
      obtain ⟨o2, r2, g2⟩ := la_tot (b := b) (n := n) m (.termR e) d s g.2 hd (by simp only [la_rk] at hm ⊢; omega)
      refine ⟨o2, .term r r2, ?_⟩
      match o2, g2 with
      | .inl f, g2 => simp only [la_gd] at g2 ⊢; omega
      | .inr (e3, s3), g2 => simp only [la_gd, la_lo] at g2 ⊢; omega
  | m + 1, .sum, d, p, hp, hd, hm => by
    obtain ⟨o, r, g⟩ := la_tot (b := b) (n := n) m .term d p hp hd (by simp only [la_rk] at hm ⊢; omega)
    match o, r, g with
    | .inl f, r, g => exact ⟨.inl f, .sumF r, g⟩
    | .inr (e, s), r, g =>
      simp only [la_gd, la_lo] at g
      obtain ⟨o2, r2, g2⟩ := la_tot (b := b) (n := n) m (.sumR e) d s g.2 hd (by simp only [la_rk] at hm ⊢; omega)
      refine ⟨o2, .sum r r2, ?_⟩
      match o2, g2 with
      | .inl f, g2 => simp only [la_gd] at g2 ⊢; omega
      | .inr (e3, s3), g2 => simp only [la_gd, la_lo] at g2 ⊢; omega
  | m + 1, .part, d, p, hp, hd, hm => by
    obtain ⟨o, r, g⟩ := la_tot (b := b) (n := n) m .unit d p hp hd (by simp only [la_rk] at hm ⊢; omega)
    match o, r, g with
    | .inl f, r, g => exact ⟨.inl f, .partF r, g⟩
    | .inr (e, s), r, g =>
      simp only [la_gd, la_lo] at g
      obtain ⟨o2, r2, g2⟩ := la_tot (b := b) (n := n) m (.partR e) d s g.2 hd (by simp only [la_rk] at hm ⊢; omega)
      refine ⟨o2, .part r r2, ?_⟩
      match o2, g2 with
      | .inl f, g2 => simp only [la_gd] at g2 ⊢; omega
      | .inr (e3, s3), g2 => simp only [la_gd, la_lo] at g2 ⊢; omega
  | m + 1, .cond, d, p, hp, hd, hm => by
    obtain ⟨o, r, g⟩ := la_tot (b := b) (n := n) m .part d p hp hd (by simp only [la_rk] at hm ⊢; omega)
    match o, r, g with
    | .inl f, r, g => exact ⟨.inl f, .condF r, g⟩
    | .inr (e, s), r, g =>
      simp only [la_gd, la_lo] at g
      obtain ⟨o2, r2, g2⟩ := la_tot (b := b) (n := n) m (.condR e) d s g.2 hd (by simp only [la_rk] at hm ⊢; omega)
      refine ⟨o2, .cond r r2, ?_⟩
      match o2, g2 with
      | .inl f, g2 => simp only [la_gd] at g2 ⊢; omega
      | .inr (e3, s3), g2 => simp only [la_gd, la_lo] at g2 ⊢; omega
  | m + 1, .termR a, d, p, hp, hd, hm => by
    have s1 := la_sk_n (b := b) hp
    by_cases h : la_by b n p = 42 ∨ la_by b n p = 47
    · have h1 : la_sk b n p < n := h.elim (fun h => la_by_n h (by omega)) (fun h => la_by_n h (by omega))
      obtain ⟨o, r, g⟩ := la_tot (b := b) (n := n) m .atom d (la_sk b n p + 1) (by omega) hd (by simp only [la_rk] at hm ⊢; omega)
      match o, r, g with
      | .inl f, r, g => exact ⟨.inl f, .terF h r, by simp only [la_gd] at g ⊢; omega⟩
      | .inr (e, s), r, g =>
        simp only [la_gd, la_lo] at g
        obtain ⟨o2, r2, g2⟩ := la_tot (b := b) (n := n) m (.termR (.bin (if la_by b n p = 42 then 4 else 5) a e)) d s g.2 hd (by simp only [la_rk] at hm ⊢; omega)
        refine ⟨o2, .ter h r r2, ?_⟩
        match o2, g2 with
        | .inl f, g2 => simp only [la_gd] at g2 ⊢; omega
        | .inr (e3, s3), g2 => simp only [la_gd, la_lo] at g2 ⊢; omega
    · exact ⟨_, .terN (fun q => h (.inl q)) (fun q => h (.inr q)), by simp only [la_gd, la_lo]; omega⟩
  | m + 1, .sumR a, d, p, hp, hd, hm => by
    have s1 := la_sk_n (b := b) hp
    by_cases h : la_by b n p = 43 ∨ la_by b n p = 45
    · have h1 : la_sk b n p < n := h.elim (fun h => la_by_n h (by omega)) (fun h => la_by_n h (by omega))
      obtain ⟨o, r, g⟩ := la_tot (b := b) (n := n) m .term d (la_sk b n p + 1) (by omega) hd (by simp only [la_rk] at hm ⊢; omega)
      match o, r, g with
      | .inl f, r, g => exact ⟨.inl f, .suF h r, by simp only [la_gd] at g ⊢; omega⟩
      | .inr (e, s), r, g =>
        simp only [la_gd, la_lo] at g
        obtain ⟨o2, r2, g2⟩ := la_tot (b := b) (n := n) m (.sumR (.bin (if la_by b n p = 43 then 2 else 3) a e)) d s g.2 hd (by simp only [la_rk] at hm ⊢; omega)
        refine ⟨o2, .su h r r2, ?_⟩
        match o2, g2 with
        | .inl f, g2 => simp only [la_gd] at g2 ⊢; omega
        | .inr (e3, s3), g2 => simp only [la_gd, la_lo] at g2 ⊢; omega
    · exact ⟨_, .suN (fun q => h (.inl q)) (fun q => h (.inr q)), by simp only [la_gd, la_lo]; omega⟩
  | m + 1, .partR a, d, p, hp, hd, hm => by
    have s1 := la_sk_n (b := b) hp
    by_cases h : la_by b n p = 38
    · have h1 : la_sk b n p < n := la_by_n h (by omega)
      obtain ⟨o, r, g⟩ := la_tot (b := b) (n := n) m .unit d (la_sk b n p + 1) (by omega) hd (by simp only [la_rk] at hm ⊢; omega)
      match o, r, g with
      | .inl f, r, g => exact ⟨.inl f, .paF h r, by simp only [la_gd] at g ⊢; omega⟩
      | .inr (e, s), r, g =>
        simp only [la_gd, la_lo] at g
        obtain ⟨o2, r2, g2⟩ := la_tot (b := b) (n := n) m (.partR (.bin 9 a e)) d s g.2 hd (by simp only [la_rk] at hm ⊢; omega)
        refine ⟨o2, .pa h r r2, ?_⟩
        match o2, g2 with
        | .inl f, g2 => simp only [la_gd] at g2 ⊢; omega
        | .inr (e3, s3), g2 => simp only [la_gd, la_lo] at g2 ⊢; omega
    · exact ⟨_, .paN h, by simp only [la_gd, la_lo]; omega⟩
  | m + 1, .condR a, d, p, hp, hd, hm => by
    have s1 := la_sk_n (b := b) hp
    by_cases h : la_by b n p = 124
    · have h1 : la_sk b n p < n := la_by_n h (by omega)
      obtain ⟨o, r, g⟩ := la_tot (b := b) (n := n) m .part d (la_sk b n p + 1) (by omega) hd (by simp only [la_rk] at hm ⊢; omega)
      match o, r, g with
      | .inl f, r, g => exact ⟨.inl f, .coF h r, by simp only [la_gd] at g ⊢; omega⟩
      | .inr (e, s), r, g =>
        simp only [la_gd, la_lo] at g
        obtain ⟨o2, r2, g2⟩ := la_tot (b := b) (n := n) m (.condR (.bin 10 a e)) d s g.2 hd (by simp only [la_rk] at hm ⊢; omega)
        refine ⟨o2, .co h r r2, ?_⟩
        match o2, g2 with
        | .inl f, g2 => simp only [la_gd] at g2 ⊢; omega
        | .inr (e3, s3), g2 => simp only [la_gd, la_lo] at g2 ⊢; omega
    · exact ⟨_, .coN h, by simp only [la_gd, la_lo]; omega⟩
  | m + 1, .cmpR a, d, p, hp, hd, hm => by
    have s1 := la_sk_n (b := b) hp
    cases h : la_rl (la_by b n p) with
    | none => exact ⟨_, .cmN h, by simp only [la_gd]; omega⟩
    | some k =>
      have h1 := la_by_n (b := b) (p := p) rfl (la_rl_c h)
      obtain ⟨o, r, g⟩ := la_tot (b := b) (n := n) m .sum d (la_sk b n p + 1) (by omega) hd (by simp only [la_rk] at hm ⊢; omega)
      match o, r, g with
      | .inl f, r, g => exact ⟨.inl f, .cmF h r, by simp only [la_gd] at g ⊢; omega⟩
      | .inr (e, s), r, g => exact ⟨_, .cm h r, by simp only [la_gd, la_lo] at g ⊢; omega⟩
  | m + 1, .unit, d, p, hp, hd, hm => by
    have s1 := la_sk_n (b := b) hp
    by_cases h33 : la_by b n p = 33
    · have h1 := la_by_n h33 (by omega)
      by_cases h6 : d = 6
      · subst h6; exact ⟨_, .nestD (.inl h33), by simp only [la_gd]; omega⟩
      · obtain ⟨o, r, g⟩ := la_tot (b := b) (n := n) m .unit (d + 1) (la_sk b n p + 1) (by omega) (by omega) (by simp only [la_rk] at hm ⊢; omega)
        match o, r, g with
        | .inl f, r, g => exact ⟨.inl f, .notF h33 (by omega) r, by simp only [la_gd] at g ⊢; omega⟩
        | .inr (e, s), r, g => exact ⟨_, .not h33 (by omega) r, by simp only [la_gd, la_lo] at g ⊢; omega⟩
    · by_cases h40 : la_by b n p = 40
      · have h1 := la_by_n h40 (by omega)
        by_cases h6 : d = 6
        · subst h6; exact ⟨_, .nestD (.inr h40), by simp only [la_gd]; omega⟩
        · obtain ⟨o, r, g⟩ := la_tot (b := b) (n := n) m .cond (d + 1) (la_sk b n p + 1) (by omega) (by omega) (by simp only [la_rk] at hm ⊢; omega)
          match o, r, g with
          | .inl f, r, g => exact ⟨.inl f, .parF h40 (by omega) r, by simp only [la_gd] at g ⊢; omega⟩
          | .inr (e, s), r, g =>
            simp only [la_gd, la_lo] at g
            have s2 := la_sk_n (b := b) g.2
            by_cases h9 : la_by b n s = 41
            · have := la_by_n h9 (by omega)
              exact ⟨_, .par h40 (by omega) r h9, by simp only [la_gd, la_lo]; omega⟩
            · exact ⟨_, .parE h40 (by omega) r h9, by simp only [la_gd]; omega⟩
      · obtain ⟨o, r, g⟩ := la_tot (b := b) (n := n) m .sum d p hp hd (by simp only [la_rk] at hm ⊢; omega)
        match o, r, g with
        | .inl f, r, g => exact ⟨.inl f, .cmpF h33 h40 r, by simp only [la_gd] at g ⊢; omega⟩
        | .inr (e, s), r, g =>
          simp only [la_gd, la_lo] at g
          obtain ⟨o2, r2, g2⟩ := la_tot (b := b) (n := n) m (.cmpR e) d s g.2 hd (by simp only [la_rk] at hm ⊢; omega)
          refine ⟨o2, .cmp h33 h40 r r2, ?_⟩
          match o2, g2 with
          | .inl f, g2 => simp only [la_gd] at g2 ⊢; omega
          | .inr (e3, s3), g2 => simp only [la_gd, la_lo] at g2 ⊢; omega
/-- room of the stack for what is read at depth d -/
def la_hb (d : Nat) : la_Q → Nat
  | .atom => 1 + 2 * (6 - d) | .term => 2 + 2 * (6 - d) | .sum => 3 + 2 * (6 - d) | .unit => 4 + 2 * (6 - d) | .part => 5 + 2 * (6 - d) | .cond => 6 + 2 * (6 - d)
  | .termR a => max (la_ht a) (2 + 2 * (6 - d)) | .sumR a => max (la_ht a) (3 + 2 * (6 - d)) | .cmpR a => max (la_ht a) (4 + 2 * (6 - d)) | .partR a => max (la_ht a) (5 + 2 * (6 - d)) | .condR a => max (la_ht a) (6 + 2 * (6 - d))
def la_ac : la_Q → Nat
  | .termR a => (la_cd a).length | .sumR a => (la_cd a).length | .cmpR a => (la_cd a).length | .partR a => (la_cd a).length | .condR a => (la_cd a).length
  | _ => 0
def la_qk : la_Q → Prop
  | .termR a => la_ok a | .sumR a => la_ok a | .cmpR a => la_ok a | .partR a => la_ok a | .condR a => la_ok a
  | _ => True
def la_bd (n : Nat) (k : la_Q) (d p : Nat) : la_O → Prop
  | .inl _ => True
  | .inr (e, s) => la_qk k → la_ok e ∧ la_ht e ≤ la_hb d k ∧ (p ≤ n → (la_cd e).length + p ≤ s + la_ac k ∧ s ≤ n)
theorem la_li_k {c k : Nat} (h : la_li c = some k) : k < 6 := by
  unfold la_li at h; repeat (split at h; (cases h; omega))
  cases h
theorem la_rl_k {c : Nat} {k : Int32} (h : la_rl c = some k) : k = 6 ∨ k = 7 ∨ k = 8 := by
  unfold la_rl at h; repeat (split at h; (cases h; decide))
  cases h
theorem la_bin_l {o : Int32} {a b : la_T} : (la_cd (.bin o a b)).length = (la_cd a).length + (la_cd b).length + 1 := by simp only [la_cd, List.length_append, List.length_cons, List.length_nil]; omega
theorem la_neg_l {a : la_T} : (la_cd (.neg a)).length = (la_cd a).length + 1 := by simp only [la_cd, List.length_append, List.length_cons, List.length_nil]
theorem la_bnd {b : Nat → Nat} {n : Nat} {k : la_Q} {d p : Nat} {o : la_O} (h : la_R b n k d p o) : d ≤ 6 → la_bd n k d p o := by
  induction h with
  | ltr h => intro hd; exact fun _ => ⟨la_li_k h, by simp only [la_ht, la_hb]; omega, fun hp => by
      have := la_sk_n (b := b) hp; have := la_by_n rfl (la_li_c h); simp only [la_cd, la_ac, List.length_cons, List.length_nil]; omega⟩
  | @num d p v r h g e => intro hd; exact fun _ => ⟨trivial, by simp only [la_ht, la_hb]; omega, fun hp => by
      have s1 := la_sk_n (b := b) hp
      have n1 := la_nu_n (b := b) 4 (la_sk b n p) 0 s1.2
      have n2 : la_sk b n p + 1 ≤ (la_nu b n 4 (la_sk b n p) 0).2 := la_nu_1 (k := 3) s1.2 h
      rw [g] at n1 n2; simp only [la_cd, la_ac, List.length_cons, List.length_nil] at n1 n2 ⊢; omega⟩
  | numF h g e => intro hd; trivial
  | boxD h => intro hd; trivial
  | boxF h hd r ih => intro _; trivial
  | boxE h hd r g ih => intro _; trivial
  | @box d p e s h hd r g ih =>
    intro _ _
    obtain ⟨i1, i2, i3⟩ := ih (by omega) trivial
    refine ⟨i1, by simp only [la_hb] at i2 ⊢; omega, fun hp => ?_⟩
    have s1 := la_sk_n (b := b) hp; have h1 := la_by_n h (by omega)
    have i4 := i3 (by omega)
    have s2 := la_sk_n (b := b) i4.2; have h2 := la_by_n g (by omega)
    simp only [la_ac] at i4 ⊢; omega
  | noA h g k => intro _; trivial
  | termF r ih => intro _; trivial
  | sumF r ih => intro _; trivial
  | partF r ih => intro _; trivial
  | condF r ih => intro _; trivial
  | terF h r ih => intro _; trivial
  | suF h r ih => intro _; trivial
  | paF h r ih => intro _; trivial
  | coF h r ih => intro _; trivial
  | cmN h => intro _; trivial
  | cmF h r ih => intro _; trivial
  | nestD h => intro _; trivial
  | notF h hd r ih => intro _; trivial
  | parF h hd r ih => intro _; trivial
  | parE h hd r g ih => intro _; trivial
  | cmpF h g r ih => intro _; trivial
  | @term d p e s o r q ih iq =>
    intro hd
    match o, iq hd with
    | .inl f, _ => trivial
    | .inr (e2, s2), iq =>
      intro _
      obtain ⟨i1, i2, i3⟩ := ih hd trivial
      obtain ⟨j1, j2, j3⟩ := iq i1
      refine ⟨j1, by simp only [la_hb] at i2 j2 ⊢; omega, fun hp => ?_⟩
      have i4 := i3 hp; have j4 := j3 i4.2
      simp only [la_ac] at i4 j4 ⊢; omega
  | @sum d p e s o r q ih iq =>
    intro hd
    match o, iq hd with
    | .inl f, _ => trivial
    | .inr (e2, s2), iq =>
      intro _
      obtain ⟨i1, i2, i3⟩ := ih hd trivial
      obtain ⟨j1, j2, j3⟩ := iq i1
      refine ⟨j1, by simp only [la_hb] at i2 j2 ⊢; omega, fun hp => ?_⟩
      have i4 := i3 hp; have j4 := j3 i4.2
      simp only [la_ac] at i4 j4 ⊢; omega
  | @part d p e s o r q ih iq =>
    intro hd
    match o, iq hd with
    | .inl f, _ => trivial
    | .inr (e2, s2), iq =>
      intro _
      obtain ⟨i1, i2, i3⟩ := ih hd trivial
      obtain ⟨j1, j2, j3⟩ := iq i1
      refine ⟨j1, by simp only [la_hb] at i2 j2 ⊢; omega, fun hp => ?_⟩
      have i4 := i3 hp; have j4 := j3 i4.2
      simp only [la_ac] at i4 j4 ⊢; omega
  | @cond d p e s o r q ih iq =>
    intro hd
    match o, iq hd with
    | .inl f, _ => trivial
    | .inr (e2, s2), iq =>
      intro _
      obtain ⟨i1, i2, i3⟩ := ih hd trivial
      obtain ⟨j1, j2, j3⟩ := iq i1
      refine ⟨j1, by simp only [la_hb] at i2 j2 ⊢; omega, fun hp => ?_⟩
      have i4 := i3 hp; have j4 := j3 i4.2
      simp only [la_ac] at i4 j4 ⊢; omega
  | @cmp d p e s o h g r q ih iq =>
    intro hd
    match o, iq hd with
    | .inl f, _ => trivial
    | .inr (e2, s2), iq =>
      intro _
      obtain ⟨i1, i2, i3⟩ := ih hd trivial
      obtain ⟨j1, j2, j3⟩ := iq i1
      refine ⟨j1, by simp only [la_hb] at i2 j2 ⊢; omega, fun hp => ?_⟩
      have i4 := i3 hp; have j4 := j3 i4.2
      simp only [la_ac] at i4 j4 ⊢; omega
  | terN h g => intro hd hk; exact ⟨hk, by simp only [la_hb]; omega, fun hp => by have := la_sk_n (b := b) hp; simp only [la_ac]; omega⟩
  | suN h g => intro hd hk; exact ⟨hk, by simp only [la_hb]; omega, fun hp => by have := la_sk_n (b := b) hp; simp only [la_ac]; omega⟩
  | paN h => intro hd hk; exact ⟨hk, by simp only [la_hb]; omega, fun hp => by have := la_sk_n (b := b) hp; simp only [la_ac]; omega⟩
  | coN h => intro hd hk; exact ⟨hk, by simp only [la_hb]; omega, fun hp => by have := la_sk_n (b := b) hp; simp only [la_ac]; omega⟩
  | @ter d p e e2 s o h r q ih iq =>
    intro hd
    match o, iq hd with
    | .inl f, _ => trivial
    | .inr (e3, s3), iq =>
      intro hk
      obtain ⟨i1, i2, i3⟩ := ih hd trivial
      obtain ⟨j1, j2, j3⟩ := iq ⟨by split <;> decide, hk, i1⟩
      refine ⟨j1, by simp only [la_hb, la_ht] at i2 j2 ⊢; omega, fun hp => ?_⟩
      have s1 := la_sk_n (b := b) hp
      have h1 : la_sk b n p < n := h.elim (fun h => la_by_n h (by omega)) (fun h => la_by_n h (by omega))
      have i4 := i3 (by omega); have j4 := j3 i4.2
      simp only [la_ac, la_bin_l] at i4 j4 ⊢; omega
  | @su d p e e2 s o h r q ih iq =>
    intro hd
    match o, iq hd with
    | .inl f, _ => trivial
    | .inr (e3, s3), iq =>
      intro hk
      obtain ⟨i1, i2, i3⟩ := ih hd trivial
      obtain ⟨j1, j2, j3⟩ := iq ⟨by split <;> decide, hk, i1⟩
      refine ⟨j1, by simp only [la_hb, la_ht] at i2 j2 ⊢; omega, fun hp => ?_⟩
      have s1 := la_sk_n (b := b) hp
      have h1 : la_sk b n p < n := h.elim (fun h => la_by_n h (by omega)) (fun h => la_by_n h (by omega))
      have i4 := i3 (by omega); have j4 := j3 i4.2
      simp only [la_ac, la_bin_l] at i4 j4 ⊢; omega
  | @pa d p e e2 s o h r q ih iq =>
    intro hd
    match o, iq hd with
    | .inl f, _ => trivial
    | .inr (e3, s3), iq =>
      intro hk
      obtain ⟨i1, i2, i3⟩ := ih hd trivial
      obtain ⟨j1, j2, j3⟩ := iq ⟨by decide, hk, i1⟩
      refine ⟨j1, by simp only [la_hb, la_ht] at i2 j2 ⊢; omega, fun hp => ?_⟩
      have s1 := la_sk_n (b := b) hp
      have h1 : la_sk b n p < n := la_by_n h (by omega)
      have i4 := i3 (by omega); have j4 := j3 i4.2
      simp only [la_ac, la_bin_l] at i4 j4 ⊢; omega
  | @co d p e e2 s o h r q ih iq =>
    intro hd
    match o, iq hd with
    | .inl f, _ => trivial
    | .inr (e3, s3), iq =>
      intro hk
      obtain ⟨i1, i2, i3⟩ := ih hd trivial
      obtain ⟨j1, j2, j3⟩ := iq ⟨by decide, hk, i1⟩
      refine ⟨j1, by simp only [la_hb, la_ht] at i2 j2 ⊢; omega, fun hp => ?_⟩
      have s1 := la_sk_n (b := b) hp
      have h1 : la_sk b n p < n := la_by_n h (by omega)
      have i4 := i3 (by omega); have j4 := j3 i4.2
      simp only [la_ac, la_bin_l] at i4 j4 ⊢; omega
  | @cm d p e e2 s k h r ih =>
    intro hd hk
    obtain ⟨i1, i2, i3⟩ := ih hd trivial
    refine ⟨⟨by rcases la_rl_k h with q | q | q <;> subst q <;> decide, hk, i1⟩, by simp only [la_hb, la_ht] at i2 ⊢; omega, fun hp => ?_⟩
    have s1 := la_sk_n (b := b) hp
    have h1 : la_sk b n p < n := la_by_n rfl (la_rl_c h)
    have i4 := i3 (by omega)
    simp only [la_ac, la_bin_l] at i4 ⊢; omega
  | @not d p e s h hd r ih =>
    intro _ _
    obtain ⟨i1, i2, i3⟩ := ih (by omega) trivial
    refine ⟨i1, by simp only [la_hb, la_ht] at i2 ⊢; omega, fun hp => ?_⟩
    have s1 := la_sk_n (b := b) hp; have h1 := la_by_n h (by omega)
    have i4 := i3 (by omega)
    simp only [la_ac, la_neg_l] at i4 ⊢; omega
  | @par d p e s h hd r g ih =>
    intro _ _
    obtain ⟨i1, i2, i3⟩ := ih (by omega) trivial
    refine ⟨i1, by simp only [la_hb] at i2 ⊢; omega, fun hp => ?_⟩
    have s1 := la_sk_n (b := b) hp; have h1 := la_by_n h (by omega)
    have i4 := i3 (by omega)
    have s2 := la_sk_n (b := b) i4.2; have h2 := la_by_n g (by omega)
    simp only [la_ac] at i4 ⊢; omega

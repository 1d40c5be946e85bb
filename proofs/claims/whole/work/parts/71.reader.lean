/-! THE READER of laws, as a relation: bytes b, n of them; la_sk: behind blanks; la_by: the sign there (256 at the end) -/
def la_sk (b : Nat → Nat) (n p : Nat) : Nat := if h : p < n ∧ b p = 32 then la_sk b n (p + 1) else p
termination_by n - p
def la_by (b : Nat → Nat) (n p : Nat) : Nat := if la_sk b n p < n then b (la_sk b n p) else 256
def la_li (c : Nat) : Option Nat := if c = 110 then some 0 else if c = 112 then some 1 else if c = 116 then some 2 else if c = 103 then some 3 else if c = 115 then some 4 else if c = 100 then some 5 else none
def la_di (b : Nat → Nat) (n p : Nat) : Bool := decide (p < n) && decide (48 ≤ b p) && decide (b p ≤ 57)
/-- at most k digits from p on, behind the number v: the number and the place behind -/
def la_nu (b : Nat → Nat) (n : Nat) : Nat → Nat → Nat → Nat × Nat
  | 0, p, v => (v, p)
  | k + 1, p, v => if la_di b n p = true then la_nu b n k (p + 1) (10 * v + (b p - 48)) else (v, p)
def la_rl (c : Nat) : Option Int32 := if c = 61 then some 6 else if c = 60 then some 7 else if c = 62 then some 8 else none
/-- kinds: 0 atom, 1 term, 2 sum, 3 unit, 4 part, 5 condition; behind a first thing a: 6 term, 7 sum, 8 compare, 9 part, 10 condition -/
abbrev la_O : Type := Nat ⊕ (la_T × Nat)
def la_z : la_T := ([], fun _ => 0)
def la_c_ltr (b : Nat → Nat) (n : Nat) (P : Nat → la_T → Nat → Nat → la_O → Prop) : Prop := ∀ (d : Nat) (p : Nat) (k : Nat), la_li (la_by b n p) = some k → P 0 la_z d p (.inr (la_tl k, la_sk b n p + 1))
def la_c_num (b : Nat → Nat) (n : Nat) (P : Nat → la_T → Nat → Nat → la_O → Prop) : Prop := ∀ (d : Nat) (p : Nat) (v : Nat) (r : Nat), la_di b n (la_sk b n p) = true → la_nu b n 4 (la_sk b n p) 0 = (v, r) → la_di b n r = false → P 0 la_z d p (.inr (la_tn (Int32.ofNat v), r))
def la_c_numF (b : Nat → Nat) (n : Nat) (P : Nat → la_T → Nat → Nat → la_O → Prop) : Prop := ∀ (d : Nat) (p : Nat) (v : Nat) (r : Nat), la_di b n (la_sk b n p) = true → la_nu b n 4 (la_sk b n p) 0 = (v, r) → la_di b n r = true → P 0 la_z d p (.inl r)
def la_c_boxD (b : Nat → Nat) (n : Nat) (P : Nat → la_T → Nat → Nat → la_O → Prop) : Prop := ∀ (p : Nat), la_by b n p = 91 → P 0 la_z 6 p (.inl (la_sk b n p))
def la_c_boxF (b : Nat → Nat) (n : Nat) (P : Nat → la_T → Nat → Nat → la_O → Prop) : Prop := ∀ (d : Nat) (p : Nat) (f : Nat), la_by b n p = 91 → d < 6 → P 2 la_z (d + 1) (la_sk b n p + 1) (.inl f) → P 0 la_z d p (.inl f)
def la_c_boxE (b : Nat → Nat) (n : Nat) (P : Nat → la_T → Nat → Nat → la_O → Prop) : Prop := ∀ (d : Nat) (p : Nat) (e : la_T) (s : Nat), la_by b n p = 91 → d < 6 → P 2 la_z (d + 1) (la_sk b n p + 1) (.inr (e, s)) → la_by b n s ≠ 93 → P 0 la_z d p (.inl (la_sk b n s))
def la_c_box (b : Nat → Nat) (n : Nat) (P : Nat → la_T → Nat → Nat → la_O → Prop) : Prop := ∀ (d : Nat) (p : Nat) (e : la_T) (s : Nat), la_by b n p = 91 → d < 6 → P 2 la_z (d + 1) (la_sk b n p + 1) (.inr (e, s)) → la_by b n s = 93 → P 0 la_z d p (.inr (e, la_sk b n s + 1))
def la_c_noA (b : Nat → Nat) (n : Nat) (P : Nat → la_T → Nat → Nat → la_O → Prop) : Prop := ∀ (d : Nat) (p : Nat), la_li (la_by b n p) = none → la_di b n (la_sk b n p) = false → la_by b n p ≠ 91 → P 0 la_z d p (.inl (la_sk b n p))
def la_c_termF (b : Nat → Nat) (n : Nat) (P : Nat → la_T → Nat → Nat → la_O → Prop) : Prop := ∀ (d : Nat) (p : Nat) (f : Nat), P 0 la_z d p (.inl f) → P 1 la_z d p (.inl f)
def la_c_term (b : Nat → Nat) (n : Nat) (P : Nat → la_T → Nat → Nat → la_O → Prop) : Prop := ∀ (d : Nat) (p : Nat) (e : la_T) (s : Nat) (o : la_O), P 0 la_z d p (.inr (e, s)) → P 6 e d s o → P 1 la_z d p o
def la_c_terN (b : Nat → Nat) (n : Nat) (P : Nat → la_T → Nat → Nat → la_O → Prop) : Prop := ∀ (d : Nat) (p : Nat) (e : la_T), la_by b n p ≠ 42 → la_by b n p ≠ 47 → P 6 e d p (.inr (e, la_sk b n p))
def la_c_terF (b : Nat → Nat) (n : Nat) (P : Nat → la_T → Nat → Nat → la_O → Prop) : Prop := ∀ (d : Nat) (p : Nat) (e : la_T) (f : Nat), la_by b n p = 42 ∨ la_by b n p = 47 → P 0 la_z d (la_sk b n p + 1) (.inl f) → P 6 e d p (.inl f)
def la_c_ter (b : Nat → Nat) (n : Nat) (P : Nat → la_T → Nat → Nat → la_O → Prop) : Prop := ∀ (d : Nat) (p : Nat) (e : la_T) (e2 : la_T) (s : Nat) (o : la_O), la_by b n p = 42 ∨ la_by b n p = 47 → P 0 la_z d (la_sk b n p + 1) (.inr (e2, s)) → P 6 (la_tb (if la_by b n p = 42 then 4 else 5) e e2) d s o → P 6 e d p o
def la_c_sumF (b : Nat → Nat) (n : Nat) (P : Nat → la_T → Nat → Nat → la_O → Prop) : Prop := ∀ (d : Nat) (p : Nat) (f : Nat), P 1 la_z d p (.inl f) → P 2 la_z d p (.inl f)
def la_c_sum (b : Nat → Nat) (n : Nat) (P : Nat → la_T → Nat → Nat → la_O → Prop) : Prop := ∀ (d : Nat) (p : Nat) (e : la_T) (s : Nat) (o : la_O), P 1 la_z d p (.inr (e, s)) → P 7 e d s o → P 2 la_z d p o
def la_c_suN (b : Nat → Nat) (n : Nat) (P : Nat → la_T → Nat → Nat → la_O → Prop) : Prop := ∀ (d : Nat) (p : Nat) (e : la_T), la_by b n p ≠ 43 → la_by b n p ≠ 45 → P 7 e d p (.inr (e, la_sk b n p))
def la_c_suF (b : Nat → Nat) (n : Nat) (P : Nat → la_T → Nat → Nat → la_O → Prop) : Prop := ∀ (d : Nat) (p : Nat) (e : la_T) (f : Nat), la_by b n p = 43 ∨ la_by b n p = 45 → P 1 la_z d (la_sk b n p + 1) (.inl f) → P 7 e d p (.inl f)
def la_c_su (b : Nat → Nat) (n : Nat) (P : Nat → la_T → Nat → Nat → la_O → Prop) : Prop := ∀ (d : Nat) (p : Nat) (e : la_T) (e2 : la_T) (s : Nat) (o : la_O), la_by b n p = 43 ∨ la_by b n p = 45 → P 1 la_z d (la_sk b n p + 1) (.inr (e2, s)) → P 7 (la_tb (if la_by b n p = 43 then 2 else 3) e e2) d s o → P 7 e d p o
def la_c_cmN (b : Nat → Nat) (n : Nat) (P : Nat → la_T → Nat → Nat → la_O → Prop) : Prop := ∀ (d : Nat) (p : Nat) (e : la_T), la_rl (la_by b n p) = none → P 8 e d p (.inl (la_sk b n p))
def la_c_cmF (b : Nat → Nat) (n : Nat) (P : Nat → la_T → Nat → Nat → la_O → Prop) : Prop := ∀ (d : Nat) (p : Nat) (e : la_T) (f : Nat) (k : Int32), la_rl (la_by b n p) = some k → P 2 la_z d (la_sk b n p + 1) (.inl f) → P 8 e d p (.inl f)
def la_c_cm (b : Nat → Nat) (n : Nat) (P : Nat → la_T → Nat → Nat → la_O → Prop) : Prop := ∀ (d : Nat) (p : Nat) (e : la_T) (e2 : la_T) (s : Nat) (k : Int32), la_rl (la_by b n p) = some k → P 2 la_z d (la_sk b n p + 1) (.inr (e2, s)) → P 8 e d p (.inr (la_tb k e e2, s))
def la_c_nestD (b : Nat → Nat) (n : Nat) (P : Nat → la_T → Nat → Nat → la_O → Prop) : Prop := ∀ (p : Nat), la_by b n p = 33 ∨ la_by b n p = 40 → P 3 la_z 6 p (.inl (la_sk b n p))
def la_c_notF (b : Nat → Nat) (n : Nat) (P : Nat → la_T → Nat → Nat → la_O → Prop) : Prop := ∀ (d : Nat) (p : Nat) (f : Nat), la_by b n p = 33 → d < 6 → P 3 la_z (d + 1) (la_sk b n p + 1) (.inl f) → P 3 la_z d p (.inl f)
def la_c_not (b : Nat → Nat) (n : Nat) (P : Nat → la_T → Nat → Nat → la_O → Prop) : Prop := ∀ (d : Nat) (p : Nat) (e : la_T) (s : Nat), la_by b n p = 33 → d < 6 → P 3 la_z (d + 1) (la_sk b n p + 1) (.inr (e, s)) → P 3 la_z d p (.inr (la_tg e, s))
def la_c_parF (b : Nat → Nat) (n : Nat) (P : Nat → la_T → Nat → Nat → la_O → Prop) : Prop := ∀ (d : Nat) (p : Nat) (f : Nat), la_by b n p = 40 → d < 6 → P 5 la_z (d + 1) (la_sk b n p + 1) (.inl f) → P 3 la_z d p (.inl f)
def la_c_parE (b : Nat → Nat) (n : Nat) (P : Nat → la_T → Nat → Nat → la_O → Prop) : Prop := ∀ (d : Nat) (p : Nat) (e : la_T) (s : Nat), la_by b n p = 40 → d < 6 → P 5 la_z (d + 1) (la_sk b n p + 1) (.inr (e, s)) → la_by b n s ≠ 41 → P 3 la_z d p (.inl (la_sk b n s))
def la_c_par (b : Nat → Nat) (n : Nat) (P : Nat → la_T → Nat → Nat → la_O → Prop) : Prop := ∀ (d : Nat) (p : Nat) (e : la_T) (s : Nat), la_by b n p = 40 → d < 6 → P 5 la_z (d + 1) (la_sk b n p + 1) (.inr (e, s)) → la_by b n s = 41 → P 3 la_z d p (.inr (e, la_sk b n s + 1))
def la_c_cmpF (b : Nat → Nat) (n : Nat) (P : Nat → la_T → Nat → Nat → la_O → Prop) : Prop := ∀ (d : Nat) (p : Nat) (f : Nat), la_by b n p ≠ 33 → la_by b n p ≠ 40 → P 2 la_z d (la_sk b n p) (.inl f) → P 3 la_z d p (.inl f)
def la_c_cmp (b : Nat → Nat) (n : Nat) (P : Nat → la_T → Nat → Nat → la_O → Prop) : Prop := ∀ (d : Nat) (p : Nat) (e : la_T) (s : Nat) (o : la_O), la_by b n p ≠ 33 → la_by b n p ≠ 40 → P 2 la_z d (la_sk b n p) (.inr (e, s)) → P 8 e d s o → P 3 la_z d p o
def la_c_partF (b : Nat → Nat) (n : Nat) (P : Nat → la_T → Nat → Nat → la_O → Prop) : Prop := ∀ (d : Nat) (p : Nat) (f : Nat), P 3 la_z d p (.inl f) → P 4 la_z d p (.inl f)
def la_c_part (b : Nat → Nat) (n : Nat) (P : Nat → la_T → Nat → Nat → la_O → Prop) : Prop := ∀ (d : Nat) (p : Nat) (e : la_T) (s : Nat) (o : la_O), P 3 la_z d p (.inr (e, s)) → P 9 e d s o → P 4 la_z d p o
def la_c_paN (b : Nat → Nat) (n : Nat) (P : Nat → la_T → Nat → Nat → la_O → Prop) : Prop := ∀ (d : Nat) (p : Nat) (e : la_T), la_by b n p ≠ 38 → P 9 e d p (.inr (e, la_sk b n p))
def la_c_paF (b : Nat → Nat) (n : Nat) (P : Nat → la_T → Nat → Nat → la_O → Prop) : Prop := ∀ (d : Nat) (p : Nat) (e : la_T) (f : Nat), la_by b n p = 38 → P 3 la_z d (la_sk b n p + 1) (.inl f) → P 9 e d p (.inl f)
def la_c_pa (b : Nat → Nat) (n : Nat) (P : Nat → la_T → Nat → Nat → la_O → Prop) : Prop := ∀ (d : Nat) (p : Nat) (e : la_T) (e2 : la_T) (s : Nat) (o : la_O), la_by b n p = 38 → P 3 la_z d (la_sk b n p + 1) (.inr (e2, s)) → P 9 (la_tb 9 e e2) d s o → P 9 e d p o
def la_c_condF (b : Nat → Nat) (n : Nat) (P : Nat → la_T → Nat → Nat → la_O → Prop) : Prop := ∀ (d : Nat) (p : Nat) (f : Nat), P 4 la_z d p (.inl f) → P 5 la_z d p (.inl f)
def la_c_cond (b : Nat → Nat) (n : Nat) (P : Nat → la_T → Nat → Nat → la_O → Prop) : Prop := ∀ (d : Nat) (p : Nat) (e : la_T) (s : Nat) (o : la_O), P 4 la_z d p (.inr (e, s)) → P 10 e d s o → P 5 la_z d p o
def la_c_coN (b : Nat → Nat) (n : Nat) (P : Nat → la_T → Nat → Nat → la_O → Prop) : Prop := ∀ (d : Nat) (p : Nat) (e : la_T), la_by b n p ≠ 124 → P 10 e d p (.inr (e, la_sk b n p))
def la_c_coF (b : Nat → Nat) (n : Nat) (P : Nat → la_T → Nat → Nat → la_O → Prop) : Prop := ∀ (d : Nat) (p : Nat) (e : la_T) (f : Nat), la_by b n p = 124 → P 4 la_z d (la_sk b n p + 1) (.inl f) → P 10 e d p (.inl f)
def la_c_co (b : Nat → Nat) (n : Nat) (P : Nat → la_T → Nat → Nat → la_O → Prop) : Prop := ∀ (d : Nat) (p : Nat) (e : la_T) (e2 : la_T) (s : Nat) (o : la_O), la_by b n p = 124 → P 4 la_z d (la_sk b n p + 1) (.inr (e2, s)) → P 10 (la_tb 10 e e2) d s o → P 10 e d p o
def la_Cl (b : Nat → Nat) (n : Nat) (P : Nat → la_T → Nat → Nat → la_O → Prop) : Prop := la_c_ltr b n P ∧ la_c_num b n P ∧ la_c_numF b n P ∧ la_c_boxD b n P ∧ la_c_boxF b n P ∧ la_c_boxE b n P ∧ la_c_box b n P ∧ la_c_noA b n P ∧ la_c_termF b n P ∧ la_c_term b n P ∧ la_c_terN b n P ∧ la_c_terF b n P ∧ la_c_ter b n P ∧ la_c_sumF b n P ∧ la_c_sum b n P ∧ la_c_suN b n P ∧ la_c_suF b n P ∧ la_c_su b n P ∧ la_c_cmN b n P ∧ la_c_cmF b n P ∧ la_c_cm b n P ∧ la_c_nestD b n P ∧ la_c_notF b n P ∧ la_c_not b n P ∧ la_c_parF b n P ∧ la_c_parE b n P ∧ la_c_par b n P ∧ la_c_cmpF b n P ∧ la_c_cmp b n P ∧ la_c_partF b n P ∧ la_c_part b n P ∧ la_c_paN b n P ∧ la_c_paF b n P ∧ la_c_pa b n P ∧ la_c_condF b n P ∧ la_c_cond b n P ∧ la_c_coN b n P ∧ la_c_coF b n P ∧ la_c_co b n P
def la_R (b : Nat → Nat) (n : Nat) (k : Nat) (a : la_T) (d p : Nat) (o : la_O) : Prop := ∀ P : Nat → la_T → Nat → Nat → la_O → Prop, la_Cl b n P → P k a d p o
theorem la_R.ltr {b : Nat → Nat} {n : Nat} {d : Nat} {p : Nat} {k : Nat} (h : la_li (la_by b n p) = some k) : la_R b n 0 la_z d p (.inr (la_tl k, la_sk b n p + 1)) := fun P hP => hP.1 d p k h
theorem la_R.num {b : Nat → Nat} {n : Nat} {d : Nat} {p : Nat} {v : Nat} {r : Nat} (h : la_di b n (la_sk b n p) = true) (g : la_nu b n 4 (la_sk b n p) 0 = (v, r)) (e : la_di b n r = false) : la_R b n 0 la_z d p (.inr (la_tn (Int32.ofNat v), r)) := fun P hP => hP.2.1 d p v r h g e
theorem la_R.numF {b : Nat → Nat} {n : Nat} {d : Nat} {p : Nat} {v : Nat} {r : Nat} (h : la_di b n (la_sk b n p) = true) (g : la_nu b n 4 (la_sk b n p) 0 = (v, r)) (e : la_di b n r = true) : la_R b n 0 la_z d p (.inl r) := fun P hP => hP.2.2.1 d p v r h g e
theorem la_R.boxD {b : Nat → Nat} {n : Nat} {p : Nat} (h : la_by b n p = 91) : la_R b n 0 la_z 6 p (.inl (la_sk b n p)) := fun P hP => hP.2.2.2.1 p h
theorem la_R.boxF {b : Nat → Nat} {n : Nat} {d : Nat} {p : Nat} {f : Nat} (h : la_by b n p = 91) (hd : d < 6) (r : la_R b n 2 la_z (d + 1) (la_sk b n p + 1) (.inl f)) : la_R b n 0 la_z d p (.inl f) := fun P hP => hP.2.2.2.2.1 d p f h hd (r P hP)
theorem la_R.boxE {b : Nat → Nat} {n : Nat} {d : Nat} {p : Nat} {e : la_T} {s : Nat} (h : la_by b n p = 91) (hd : d < 6) (r : la_R b n 2 la_z (d + 1) (la_sk b n p + 1) (.inr (e, s))) (g : la_by b n s ≠ 93) : la_R b n 0 la_z d p (.inl (la_sk b n s)) := fun P hP => hP.2.2.2.2.2.1 d p e s h hd (r P hP) g
theorem la_R.box {b : Nat → Nat} {n : Nat} {d : Nat} {p : Nat} {e : la_T} {s : Nat} (h : la_by b n p = 91) (hd : d < 6) (r : la_R b n 2 la_z (d + 1) (la_sk b n p + 1) (.inr (e, s))) (g : la_by b n s = 93) : la_R b n 0 la_z d p (.inr (e, la_sk b n s + 1)) := fun P hP => hP.2.2.2.2.2.2.1 d p e s h hd (r P hP) g
theorem la_R.noA {b : Nat → Nat} {n : Nat} {d : Nat} {p : Nat} (h : la_li (la_by b n p) = none) (g : la_di b n (la_sk b n p) = false) (k : la_by b n p ≠ 91) : la_R b n 0 la_z d p (.inl (la_sk b n p)) := fun P hP => hP.2.2.2.2.2.2.2.1 d p h g k
theorem la_R.termF {b : Nat → Nat} {n : Nat} {d : Nat} {p : Nat} {f : Nat} (r : la_R b n 0 la_z d p (.inl f)) : la_R b n 1 la_z d p (.inl f) := fun P hP => hP.2.2.2.2.2.2.2.2.1 d p f (r P hP)
theorem la_R.term {b : Nat → Nat} {n : Nat} {d : Nat} {p : Nat} {e : la_T} {s : Nat} {o : la_O} (r : la_R b n 0 la_z d p (.inr (e, s))) (q : la_R b n 6 e d s o) : la_R b n 1 la_z d p o := fun P hP => hP.2.2.2.2.2.2.2.2.2.1 d p e s o (r P hP) (q P hP)
theorem la_R.terN {b : Nat → Nat} {n : Nat} {d : Nat} {p : Nat} {e : la_T} (h : la_by b n p ≠ 42) (g : la_by b n p ≠ 47) : la_R b n 6 e d p (.inr (e, la_sk b n p)) := fun P hP => hP.2.2.2.2.2.2.2.2.2.2.1 d p e h g
theorem la_R.terF {b : Nat → Nat} {n : Nat} {d : Nat} {p : Nat} {e : la_T} {f : Nat} (h : la_by b n p = 42 ∨ la_by b n p = 47) (r : la_R b n 0 la_z d (la_sk b n p + 1) (.inl f)) : la_R b n 6 e d p (.inl f) := fun P hP => hP.2.2.2.2.2.2.2.2.2.2.2.1 d p e f h (r P hP)
theorem la_R.ter {b : Nat → Nat} {n : Nat} {d : Nat} {p : Nat} {e : la_T} {e2 : la_T} {s : Nat} {o : la_O} (h : la_by b n p = 42 ∨ la_by b n p = 47) (r : la_R b n 0 la_z d (la_sk b n p + 1) (.inr (e2, s))) (q : la_R b n 6 (la_tb (if la_by b n p = 42 then 4 else 5) e e2) d s o) : la_R b n 6 e d p o := fun P hP => hP.2.2.2.2.2.2.2.2.2.2.2.2.1 d p e e2 s o h (r P hP) (q P hP)
theorem la_R.sumF {b : Nat → Nat} {n : Nat} {d : Nat} {p : Nat} {f : Nat} (r : la_R b n 1 la_z d p (.inl f)) : la_R b n 2 la_z d p (.inl f) := fun P hP => hP.2.2.2.2.2.2.2.2.2.2.2.2.2.1 d p f (r P hP)
theorem la_R.sum {b : Nat → Nat} {n : Nat} {d : Nat} {p : Nat} {e : la_T} {s : Nat} {o : la_O} (r : la_R b n 1 la_z d p (.inr (e, s))) (q : la_R b n 7 e d s o) : la_R b n 2 la_z d p o := fun P hP => hP.2.2.2.2.2.2.2.2.2.2.2.2.2.2.1 d p e s o (r P hP) (q P hP)
theorem la_R.suN {b : Nat → Nat} {n : Nat} {d : Nat} {p : Nat} {e : la_T} (h : la_by b n p ≠ 43) (g : la_by b n p ≠ 45) : la_R b n 7 e d p (.inr (e, la_sk b n p)) := fun P hP => hP.2.2.2.2.2.2.2.2.2.2.2.2.2.2.2.1 d p e h g
theorem la_R.suF {b : Nat → Nat} {n : Nat} {d : Nat} {p : Nat} {e : la_T} {f : Nat} (h : la_by b n p = 43 ∨ la_by b n p = 45) (r : la_R b n 1 la_z d (la_sk b n p + 1) (.inl f)) : la_R b n 7 e d p (.inl f) := fun P hP => hP.2.2.2.2.2.2.2.2.2.2.2.2.2.2.2.2.1 d p e f h (r P hP)
theorem la_R.su {b : Nat → Nat} {n : Nat} {d : Nat} {p : Nat} {e : la_T} {e2 : la_T} {s : Nat} {o : la_O} (h : la_by b n p = 43 ∨ la_by b n p = 45) (r : la_R b n 1 la_z d (la_sk b n p + 1) (.inr (e2, s))) (q : la_R b n 7 (la_tb (if la_by b n p = 43 then 2 else 3) e e2) d s o) : la_R b n 7 e d p o := fun P hP => hP.2.2.2.2.2.2.2.2.2.2.2.2.2.2.2.2.2.1 d p e e2 s o h (r P hP) (q P hP)
theorem la_R.cmN {b : Nat → Nat} {n : Nat} {d : Nat} {p : Nat} {e : la_T} (h : la_rl (la_by b n p) = none) : la_R b n 8 e d p (.inl (la_sk b n p)) := fun P hP => hP.2.2.2.2.2.2.2.2.2.2.2.2.2.2.2.2.2.2.1 d p e h
theorem la_R.cmF {b : Nat → Nat} {n : Nat} {d : Nat} {p : Nat} {e : la_T} {f : Nat} {k : Int32} (h : la_rl (la_by b n p) = some k) (r : la_R b n 2 la_z d (la_sk b n p + 1) (.inl f)) : la_R b n 8 e d p (.inl f) := fun P hP => hP.2.2.2.2.2.2.2.2.2.2.2.2.2.2.2.2.2.2.2.1 d p e f k h (r P hP)
theorem la_R.cm {b : Nat → Nat} {n : Nat} {d : Nat} {p : Nat} {e : la_T} {e2 : la_T} {s : Nat} {k : Int32} (h : la_rl (la_by b n p) = some k) (r : la_R b n 2 la_z d (la_sk b n p + 1) (.inr (e2, s))) : la_R b n 8 e d p (.inr (la_tb k e e2, s)) := fun P hP => hP.2.2.2.2.2.2.2.2.2.2.2.2.2.2.2.2.2.2.2.2.1 d p e e2 s k h (r P hP)
theorem la_R.nestD {b : Nat → Nat} {n : Nat} {p : Nat} (h : la_by b n p = 33 ∨ la_by b n p = 40) : la_R b n 3 la_z 6 p (.inl (la_sk b n p)) := fun P hP => hP.2.2.2.2.2.2.2.2.2.2.2.2.2.2.2.2.2.2.2.2.2.1 p h
theorem la_R.notF {b : Nat → Nat} {n : Nat} {d : Nat} {p : Nat} {f : Nat} (h : la_by b n p = 33) (hd : d < 6) (r : la_R b n 3 la_z (d + 1) (la_sk b n p + 1) (.inl f)) : la_R b n 3 la_z d p (.inl f) := fun P hP => hP.2.2.2.2.2.2.2.2.2.2.2.2.2.2.2.2.2.2.2.2.2.2.1 d p f h hd (r P hP)
theorem la_R.not {b : Nat → Nat} {n : Nat} {d : Nat} {p : Nat} {e : la_T} {s : Nat} (h : la_by b n p = 33) (hd : d < 6) (r : la_R b n 3 la_z (d + 1) (la_sk b n p + 1) (.inr (e, s))) : la_R b n 3 la_z d p (.inr (la_tg e, s)) := fun P hP => hP.2.2.2.2.2.2.2.2.2.2.2.2.2.2.2.2.2.2.2.2.2.2.2.1 d p e s h hd (r P hP)
theorem la_R.parF {b : Nat → Nat} {n : Nat} {d : Nat} {p : Nat} {f : Nat} (h : la_by b n p = 40) (hd : d < 6) (r : la_R b n 5 la_z (d + 1) (la_sk b n p + 1) (.inl f)) : la_R b n 3 la_z d p (.inl f) := fun P hP => hP.2.2.2.2.2.2.2.2.2.2.2.2.2.2.2.2.2.2.2.2.2.2.2.2.1 d p f h hd (r P hP)
theorem la_R.parE {b : Nat → Nat} {n : Nat} {d : Nat} {p : Nat} {e : la_T} {s : Nat} (h : la_by b n p = 40) (hd : d < 6) (r : la_R b n 5 la_z (d + 1) (la_sk b n p + 1) (.inr (e, s))) (g : la_by b n s ≠ 41) : la_R b n 3 la_z d p (.inl (la_sk b n s)) := fun P hP => hP.2.2.2.2.2.2.2.2.2.2.2.2.2.2.2.2.2.2.2.2.2.2.2.2.2.1 d p e s h hd (r P hP) g
theorem la_R.par {b : Nat → Nat} {n : Nat} {d : Nat} {p : Nat} {e : la_T} {s : Nat} (h : la_by b n p = 40) (hd : d < 6) (r : la_R b n 5 la_z (d + 1) (la_sk b n p + 1) (.inr (e, s))) (g : la_by b n s = 41) : la_R b n 3 la_z d p (.inr (e, la_sk b n s + 1)) := fun P hP => hP.2.2.2.2.2.2.2.2.2.2.2.2.2.2.2.2.2.2.2.2.2.2.2.2.2.2.1 d p e s h hd (r P hP) g
theorem la_R.cmpF {b : Nat → Nat} {n : Nat} {d : Nat} {p : Nat} {f : Nat} (h : la_by b n p ≠ 33) (g : la_by b n p ≠ 40) (r : la_R b n 2 la_z d (la_sk b n p) (.inl f)) : la_R b n 3 la_z d p (.inl f) := fun P hP => hP.2.2.2.2.2.2.2.2.2.2.2.2.2.2.2.2.2.2.2.2.2.2.2.2.2.2.2.1 d p f h g (r P hP)
theorem la_R.cmp {b : Nat → Nat} {n : Nat} {d : Nat} {p : Nat} {e : la_T} {s : Nat} {o : la_O} (h : la_by b n p ≠ 33) (g : la_by b n p ≠ 40) (r : la_R b n 2 la_z d (la_sk b n p) (.inr (e, s))) (q : la_R b n 8 e d s o) : la_R b n 3 la_z d p o := fun P hP => hP.2.2.2.2.2.2.2.2.2.2.2.2.2.2.2.2.2.2.2.2.2.2.2.2.2.2.2.2.1 d p e s o h g (r P hP) (q P hP)
theorem la_R.partF {b : Nat → Nat} {n : Nat} {d : Nat} {p : Nat} {f : Nat} (r : la_R b n 3 la_z d p (.inl f)) : la_R b n 4 la_z d p (.inl f) := fun P hP => hP.2.2.2.2.2.2.2.2.2.2.2.2.2.2.2.2.2.2.2.2.2.2.2.2.2.2.2.2.2.1 d p f (r P hP)
theorem la_R.part {b : Nat → Nat} {n : Nat} {d : Nat} {p : Nat} {e : la_T} {s : Nat} {o : la_O} (r : la_R b n 3 la_z d p (.inr (e, s))) (q : la_R b n 9 e d s o) : la_R b n 4 la_z d p o := fun P hP => hP.2.2.2.2.2.2.2.2.2.2.2.2.2.2.2.2.2.2.2.2.2.2.2.2.2.2.2.2.2.2.1 d p e s o (r P hP) (q P hP)
theorem la_R.paN {b : Nat → Nat} {n : Nat} {d : Nat} {p : Nat} {e : la_T} (h : la_by b n p ≠ 38) : la_R b n 9 e d p (.inr (e, la_sk b n p)) := fun P hP => hP.2.2.2.2.2.2.2.2.2.2.2.2.2.2.2.2.2.2.2.2.2.2.2.2.2.2.2.2.2.2.2.1 d p e h
theorem la_R.paF {b : Nat → Nat} {n : Nat} {d : Nat} {p : Nat} {e : la_T} {f : Nat} (h : la_by b n p = 38) (r : la_R b n 3 la_z d (la_sk b n p + 1) (.inl f)) : la_R b n 9 e d p (.inl f) := fun P hP => hP.2.2.2.2.2.2.2.2.2.2.2.2.2.2.2.2.2.2.2.2.2.2.2.2.2.2.2.2.2.2.2.2.1 d p e f h (r P hP)
theorem la_R.pa {b : Nat → Nat} {n : Nat} {d : Nat} {p : Nat} {e : la_T} {e2 : la_T} {s : Nat} {o : la_O} (h : la_by b n p = 38) (r : la_R b n 3 la_z d (la_sk b n p + 1) (.inr (e2, s))) (q : la_R b n 9 (la_tb 9 e e2) d s o) : la_R b n 9 e d p o := fun P hP => hP.2.2.2.2.2.2.2.2.2.2.2.2.2.2.2.2.2.2.2.2.2.2.2.2.2.2.2.2.2.2.2.2.2.1 d p e e2 s o h (r P hP) (q P hP)
theorem la_R.condF {b : Nat → Nat} {n : Nat} {d : Nat} {p : Nat} {f : Nat} (r : la_R b n 4 la_z d p (.inl f)) : la_R b n 5 la_z d p (.inl f) := fun P hP => hP.2.2.2.2.2.2.2.2.2.2.2.2.2.2.2.2.2.2.2.2.2.2.2.2.2.2.2.2.2.2.2.2.2.2.1 d p f (r P hP)
theorem la_R.cond {b : Nat → Nat} {n : Nat} {d : Nat} {p : Nat} {e : la_T} {s : Nat} {o : la_O} (r : la_R b n 4 la_z d p (.inr (e, s))) (q : la_R b n 10 e d s o) : la_R b n 5 la_z d p o := fun P hP => hP.2.2.2.2.2.2.2.2.2.2.2.2.2.2.2.2.2.2.2.2.2.2.2.2.2.2.2.2.2.2.2.2.2.2.2.1 d p e s o (r P hP) (q P hP)
theorem la_R.coN {b : Nat → Nat} {n : Nat} {d : Nat} {p : Nat} {e : la_T} (h : la_by b n p ≠ 124) : la_R b n 10 e d p (.inr (e, la_sk b n p)) := fun P hP => hP.2.2.2.2.2.2.2.2.2.2.2.2.2.2.2.2.2.2.2.2.2.2.2.2.2.2.2.2.2.2.2.2.2.2.2.2.1 d p e h
theorem la_R.coF {b : Nat → Nat} {n : Nat} {d : Nat} {p : Nat} {e : la_T} {f : Nat} (h : la_by b n p = 124) (r : la_R b n 4 la_z d (la_sk b n p + 1) (.inl f)) : la_R b n 10 e d p (.inl f) := fun P hP => hP.2.2.2.2.2.2.2.2.2.2.2.2.2.2.2.2.2.2.2.2.2.2.2.2.2.2.2.2.2.2.2.2.2.2.2.2.2.1 d p e f h (r P hP)
theorem la_R.co {b : Nat → Nat} {n : Nat} {d : Nat} {p : Nat} {e : la_T} {e2 : la_T} {s : Nat} {o : la_O} (h : la_by b n p = 124) (r : la_R b n 4 la_z d (la_sk b n p + 1) (.inr (e2, s))) (q : la_R b n 10 (la_tb 10 e e2) d s o) : la_R b n 10 e d p o := fun P hP => hP.2.2.2.2.2.2.2.2.2.2.2.2.2.2.2.2.2.2.2.2.2.2.2.2.2.2.2.2.2.2.2.2.2.2.2.2.2.2 d p e e2 s o h (r P hP) (q P hP)
theorem la_sk_n {b : Nat → Nat} {n p : Nat} (h : p ≤ n) : p ≤ la_sk b n p ∧ la_sk b n p ≤ n := by
  unfold la_sk
  split
  · rename_i g
    have := la_sk_n (b := b) (n := n) (p := p + 1) (by omega)
    omega
  · omega
termination_by n - p
theorem la_sk_s {b : Nat → Nat} {n p : Nat} : la_sk b n (la_sk b n p) = la_sk b n p := by
  by_cases h : p < n ∧ b p = 32
  · have e : la_sk b n p = la_sk b n (p + 1) := by conv => lhs; unfold la_sk
                                                   exact dif_pos h
    rw [e]; exact la_sk_s
  · have e : la_sk b n p = p := by unfold la_sk; exact dif_neg h
    rw [e, e]
termination_by n - p
def la_rk : Nat → Nat
  | 0 => 0 | 1 => 1 | 2 => 2 | 3 => 3 | 4 => 4 | 5 => 5 | 6 => 0 | 7 => 0 | 8 => 0 | 9 => 0 | 10 => 0 | _ => 0
def la_lo : Nat → Nat → Nat
  | 0, p => p + 1 | 1, p => p + 1 | 2, p => p + 1 | 3, p => p + 1 | 4, p => p + 1 | 5, p => p + 1 | 6, p => p | 7, p => p | 8, p => p + 1 | 9, p => p | 10, p => p | _, p => p + 1
def la_gd (n : Nat) (k : Nat) (p : Nat) : la_O → Prop
  | .inl f => p ≤ f ∧ f ≤ n
  | .inr (_, s) => la_lo k p ≤ s ∧ s ≤ n
theorem la_by_n {b : Nat → Nat} {n p : Nat} {c : Nat} (h : la_by b n p = c) (hc : c < 256) : la_sk b n p < n := by
  unfold la_by at h; split at h <;> omega
theorem la_li_c {c k : Nat} (h : la_li c = some k) : c < 256 := by
  unfold la_li at h; repeat (split at h; omega)
  cases h
theorem la_rl_c {c : Nat} {k : Int32} (h : la_rl c = some k) : c < 256 := by
  unfold la_rl at h; repeat (split at h; omega)
  cases h
theorem la_nu_n {b : Nat → Nat} {n : Nat} : ∀ k p v, p ≤ n → p ≤ (la_nu b n k p v).2 ∧ (la_nu b n k p v).2 ≤ n
  | 0, p, v, h => ⟨Nat.le_refl _, h⟩
  | k + 1, p, v, h => by
    unfold la_nu
    by_cases g : la_di b n p = true
    · rw [if_pos g]
      have : p < n := by unfold la_di at g; simp at g; omega
      have := la_nu_n (b := b) (n := n) k (p + 1) (10 * v + (b p - 48)) (by omega)
      omega
    · rw [if_neg g]; exact ⟨Nat.le_refl _, h⟩
theorem la_nu_1 {b : Nat → Nat} {n k p v : Nat} (h : p ≤ n) (g : la_di b n p = true) : p + 1 ≤ (la_nu b n (k + 1) p v).2 := by
  unfold la_nu; rw [if_pos g]
  have : p < n := by unfold la_di at g; simp at g; omega
  exact (la_nu_n k (p + 1) _ (by omega)).1
theorem la_tot {b : Nat → Nat} {n : Nat} : ∀ (m k : Nat) (a : la_T) (d p : Nat), (k < 6 → a = la_z) → k ≤ 10 → p ≤ n → d ≤ 6 → 8 * (n - p) + la_rk k < m → ∃ o, la_R b n k a d p o ∧ la_gd n k p o
  | 0, _, _, _, _, _, _, _, _, h => absurd h (Nat.not_lt_zero _)
  | m + 1, 0, a, d, p, ha, _, hp, hd, hm => by
    have ha : a = la_z := ha (by omega)
    subst ha
    have s1 := la_sk_n (b := b) hp
    cases hl : la_li (la_by b n p) with
    | some k =>
      have := la_by_n (b := b) (p := p) rfl (la_li_c hl)
      exact ⟨_, la_R.ltr hl, by simp only [la_gd, la_lo]; omega⟩
    | none =>
      cases hg : la_di b n (la_sk b n p) with
      | true =>
        have n1 := la_nu_n (b := b) 4 (la_sk b n p) 0 s1.2
        have n2 : la_sk b n p + 1 ≤ (la_nu b n 4 (la_sk b n p) 0).2 := la_nu_1 (k := 3) s1.2 hg
        rcases hq : la_nu b n 4 (la_sk b n p) 0 with ⟨v, r⟩
        rw [hq] at n1 n2
        simp only at n1 n2
        cases he : la_di b n r with
        | false => exact ⟨_, la_R.num hg hq he, by simp only [la_gd, la_lo]; omega⟩
        | true => exact ⟨_, la_R.numF hg hq he, by simp only [la_gd]; omega⟩
      | false =>
        by_cases hb : la_by b n p = 91
        · have h1 := la_by_n hb (by omega)
          by_cases h6 : d = 6
          · subst h6; exact ⟨_, la_R.boxD hb, by simp only [la_gd]; omega⟩
          · obtain ⟨o, r, g⟩ := la_tot (b := b) (n := n) m 2 la_z (d + 1) (la_sk b n p + 1) (fun _ => rfl) (by omega) (by omega) (by omega) (by simp only [la_rk] at hm ⊢; omega)
            match o, r, g with
            | .inl f, r, g => exact ⟨.inl f, la_R.boxF hb (by omega) r, by simp only [la_gd] at g ⊢; omega⟩
            | .inr (e, s), r, g =>
              simp only [la_gd, la_lo] at g
              have s2 := la_sk_n (b := b) g.2
              by_cases h9 : la_by b n s = 93
              · have := la_by_n h9 (by omega)
                exact ⟨_, la_R.box hb (by omega) r h9, by simp only [la_gd, la_lo]; omega⟩
              · exact ⟨_, la_R.boxE hb (by omega) r h9, by simp only [la_gd]; omega⟩
        · exact ⟨_, la_R.noA hl hg hb, by simp only [la_gd]; omega⟩
  | m + 1, 1, a, d, p, ha, _, hp, hd, hm => by
    have ha : a = la_z := ha (by omega)
    subst ha
    obtain ⟨o, r, g⟩ := la_tot (b := b) (n := n) m 0 la_z d p (fun _ => rfl) (by omega) hp hd (by simp only [la_rk] at hm ⊢; omega)
    match o, r, g with
    | .inl f, r, g => exact ⟨.inl f, la_R.termF r, g⟩
    | .inr (e, s), r, g =>
      simp only [la_gd, la_lo] at g
      obtain ⟨o2, r2, g2⟩ := la_tot (b := b) (n := n) m 6 e d s (fun h => absurd h (by omega)) (by omega) g.2 hd (by simp only [la_rk] at hm ⊢; omega)
      refine ⟨o2, la_R.term r r2, ?_⟩
      match o2, g2 with
      | .inl f, g2 => simp only [la_gd] at g2 ⊢; omega
      | .inr (e3, s3), g2 => simp only [la_gd, la_lo] at g2 ⊢; omega
  | m + 1, 2, a, d, p, ha, _, hp, hd, hm => by
    have ha : a = la_z := ha (by omega)
    subst ha
    obtain ⟨o, r, g⟩ := la_tot (b := b) (n := n) m 1 la_z d p (fun _ => rfl) (by omega) hp hd (by simp only [la_rk] at hm ⊢; omega)
    match o, r, g with
    | .inl f, r, g => exact ⟨.inl f, la_R.sumF r, g⟩
    | .inr (e, s), r, g =>
      simp only [la_gd, la_lo] at g
      obtain ⟨o2, r2, g2⟩ := la_tot (b := b) (n := n) m 7 e d s (fun h => absurd h (by omega)) (by omega) g.2 hd (by simp only [la_rk] at hm ⊢; omega)
      refine ⟨o2, la_R.sum r r2, ?_⟩
      match o2, g2 with
      | .inl f, g2 => simp only [la_gd] at g2 ⊢; omega
      | .inr (e3, s3), g2 => simp only [la_gd, la_lo] at g2 ⊢; omega
  | m + 1, 4, a, d, p, ha, _, hp, hd, hm => by
    have ha : a = la_z := ha (by omega)
    subst ha
    obtain ⟨o, r, g⟩ := la_tot (b := b) (n := n) m 3 la_z d p (fun _ => rfl) (by omega) hp hd (by simp only [la_rk] at hm ⊢; omega)
    match o, r, g with
    | .inl f, r, g => exact ⟨.inl f, la_R.partF r, g⟩
    | .inr (e, s), r, g =>
      simp only [la_gd, la_lo] at g
      obtain ⟨o2, r2, g2⟩ := la_tot (b := b) (n := n) m 9 e d s (fun h => absurd h (by omega)) (by omega) g.2 hd (by simp only [la_rk] at hm ⊢; omega)
      refine ⟨o2, la_R.part r r2, ?_⟩
      match o2, g2 with
      | .inl f, g2 => simp only [la_gd] at g2 ⊢; omega
      | .inr (e3, s3), g2 => simp only [la_gd, la_lo] at g2 ⊢; omega
  | m + 1, 5, a, d, p, ha, _, hp, hd, hm => by
    have ha : a = la_z := ha (by omega)
    subst ha
    obtain ⟨o, r, g⟩ := la_tot (b := b) (n := n) m 4 la_z d p (fun _ => rfl) (by omega) hp hd (by simp only [la_rk] at hm ⊢; omega)
    match o, r, g with
    | .inl f, r, g => exact ⟨.inl f, la_R.condF r, g⟩
    | .inr (e, s), r, g =>
      simp only [la_gd, la_lo] at g
      obtain ⟨o2, r2, g2⟩ := la_tot (b := b) (n := n) m 10 e d s (fun h => absurd h (by omega)) (by omega) g.2 hd (by simp only [la_rk] at hm ⊢; omega)
      refine ⟨o2, la_R.cond r r2, ?_⟩
      match o2, g2 with
      | .inl f, g2 => simp only [la_gd] at g2 ⊢; omega
      | .inr (e3, s3), g2 => simp only [la_gd, la_lo] at g2 ⊢; omega
  | m + 1, 6, a, d, p, _, _, hp, hd, hm => by
    have s1 := la_sk_n (b := b) hp
    by_cases h : la_by b n p = 42 ∨ la_by b n p = 47
    · have h1 : la_sk b n p < n := h.elim (fun h => la_by_n h (by omega)) (fun h => la_by_n h (by omega))
      obtain ⟨o, r, g⟩ := la_tot (b := b) (n := n) m 0 la_z d (la_sk b n p + 1) (fun _ => rfl) (by omega) (by omega) hd (by simp only [la_rk] at hm ⊢; omega)
      match o, r, g with
      | .inl f, r, g => exact ⟨.inl f, la_R.terF h r, by simp only [la_gd] at g ⊢; omega⟩
      | .inr (e, s), r, g =>
        simp only [la_gd, la_lo] at g
        obtain ⟨o2, r2, g2⟩ := la_tot (b := b) (n := n) m 6 (la_tb (if la_by b n p = 42 then 4 else 5) a e) d s (fun h => absurd h (by omega)) (by omega) g.2 hd (by simp only [la_rk] at hm ⊢; omega)
        refine ⟨o2, la_R.ter h r r2, ?_⟩
        match o2, g2 with
        | .inl f, g2 => simp only [la_gd] at g2 ⊢; omega
        | .inr (e3, s3), g2 => simp only [la_gd, la_lo] at g2 ⊢; omega
    · exact ⟨_, la_R.terN (fun q => h (.inl q)) (fun q => h (.inr q)), by simp only [la_gd, la_lo]; omega⟩
  | m + 1, 7, a, d, p, _, _, hp, hd, hm => by
    have s1 := la_sk_n (b := b) hp
    by_cases h : la_by b n p = 43 ∨ la_by b n p = 45
    · have h1 : la_sk b n p < n := h.elim (fun h => la_by_n h (by omega)) (fun h => la_by_n h (by omega))
      obtain ⟨o, r, g⟩ := la_tot (b := b) (n := n) m 1 la_z d (la_sk b n p + 1) (fun _ => rfl) (by omega) (by omega) hd (by simp only [la_rk] at hm ⊢; omega)
      match o, r, g with
      | .inl f, r, g => exact ⟨.inl f, la_R.suF h r, by simp only [la_gd] at g ⊢; omega⟩
      | .inr (e, s), r, g =>
        simp only [la_gd, la_lo] at g
        obtain ⟨o2, r2, g2⟩ := la_tot (b := b) (n := n) m 7 (la_tb (if la_by b n p = 43 then 2 else 3) a e) d s (fun h => absurd h (by omega)) (by omega) g.2 hd (by simp only [la_rk] at hm ⊢; omega)
        refine ⟨o2, la_R.su h r r2, ?_⟩
        match o2, g2 with
        | .inl f, g2 => simp only [la_gd] at g2 ⊢; omega
        | .inr (e3, s3), g2 => simp only [la_gd, la_lo] at g2 ⊢; omega
    · exact ⟨_, la_R.suN (fun q => h (.inl q)) (fun q => h (.inr q)), by simp only [la_gd, la_lo]; omega⟩
  | m + 1, 9, a, d, p, _, _, hp, hd, hm => by
    have s1 := la_sk_n (b := b) hp
    by_cases h : la_by b n p = 38
    · have h1 : la_sk b n p < n := la_by_n h (by omega)
      obtain ⟨o, r, g⟩ := la_tot (b := b) (n := n) m 3 la_z d (la_sk b n p + 1) (fun _ => rfl) (by omega) (by omega) hd (by simp only [la_rk] at hm ⊢; omega)
      match o, r, g with
      | .inl f, r, g => exact ⟨.inl f, la_R.paF h r, by simp only [la_gd] at g ⊢; omega⟩
      | .inr (e, s), r, g =>
        simp only [la_gd, la_lo] at g
        obtain ⟨o2, r2, g2⟩ := la_tot (b := b) (n := n) m 9 (la_tb 9 a e) d s (fun h => absurd h (by omega)) (by omega) g.2 hd (by simp only [la_rk] at hm ⊢; omega)
        refine ⟨o2, la_R.pa h r r2, ?_⟩
        match o2, g2 with
        | .inl f, g2 => simp only [la_gd] at g2 ⊢; omega
        | .inr (e3, s3), g2 => simp only [la_gd, la_lo] at g2 ⊢; omega
    · exact ⟨_, la_R.paN h, by simp only [la_gd, la_lo]; omega⟩
  | m + 1, 10, a, d, p, _, _, hp, hd, hm => by
    have s1 := la_sk_n (b := b) hp
    by_cases h : la_by b n p = 124
    · have h1 : la_sk b n p < n := la_by_n h (by omega)
      obtain ⟨o, r, g⟩ := la_tot (b := b) (n := n) m 4 la_z d (la_sk b n p + 1) (fun _ => rfl) (by omega) (by omega) hd (by simp only [la_rk] at hm ⊢; omega)
      match o, r, g with
      | .inl f, r, g => exact ⟨.inl f, la_R.coF h r, by simp only [la_gd] at g ⊢; omega⟩
      | .inr (e, s), r, g =>
        simp only [la_gd, la_lo] at g
        obtain ⟨o2, r2, g2⟩ := la_tot (b := b) (n := n) m 10 (la_tb 10 a e) d s (fun h => absurd h (by omega)) (by omega) g.2 hd (by simp only [la_rk] at hm ⊢; omega)
        refine ⟨o2, la_R.co h r r2, ?_⟩
        match o2, g2 with
        | .inl f, g2 => simp only [la_gd] at g2 ⊢; omega
        | .inr (e3, s3), g2 => simp only [la_gd, la_lo] at g2 ⊢; omega
    · exact ⟨_, la_R.coN h, by simp only [la_gd, la_lo]; omega⟩
  | m + 1, 8, a, d, p, _, _, hp, hd, hm => by
    have s1 := la_sk_n (b := b) hp
    cases h : la_rl (la_by b n p) with
    | none => exact ⟨_, la_R.cmN h, by simp only [la_gd]; omega⟩
    | some k =>
      have h1 := la_by_n (b := b) (p := p) rfl (la_rl_c h)
      obtain ⟨o, r, g⟩ := la_tot (b := b) (n := n) m 2 la_z d (la_sk b n p + 1) (fun _ => rfl) (by omega) (by omega) hd (by simp only [la_rk] at hm ⊢; omega)
      match o, r, g with
      | .inl f, r, g => exact ⟨.inl f, la_R.cmF h r, by simp only [la_gd] at g ⊢; omega⟩
      | .inr (e, s), r, g => exact ⟨_, la_R.cm h r, by simp only [la_gd, la_lo] at g ⊢; omega⟩
  | m + 1, 3, a, d, p, ha, _, hp, hd, hm => by
    have ha : a = la_z := ha (by omega)
    subst ha
    have s1 := la_sk_n (b := b) hp
    by_cases h33 : la_by b n p = 33
    · have h1 := la_by_n h33 (by omega)
      by_cases h6 : d = 6
      · subst h6; exact ⟨_, la_R.nestD (.inl h33), by simp only [la_gd]; omega⟩
      · obtain ⟨o, r, g⟩ := la_tot (b := b) (n := n) m 3 la_z (d + 1) (la_sk b n p + 1) (fun _ => rfl) (by omega) (by omega) (by omega) (by simp only [la_rk] at hm ⊢; omega)
        match o, r, g with
        | .inl f, r, g => exact ⟨.inl f, la_R.notF h33 (by omega) r, by simp only [la_gd] at g ⊢; omega⟩
        | .inr (e, s), r, g => exact ⟨_, la_R.not h33 (by omega) r, by simp only [la_gd, la_lo] at g ⊢; omega⟩
    · by_cases h40 : la_by b n p = 40
      · have h1 := la_by_n h40 (by omega)
        by_cases h6 : d = 6
        · subst h6; exact ⟨_, la_R.nestD (.inr h40), by simp only [la_gd]; omega⟩
        · obtain ⟨o, r, g⟩ := la_tot (b := b) (n := n) m 5 la_z (d + 1) (la_sk b n p + 1) (fun _ => rfl) (by omega) (by omega) (by omega) (by simp only [la_rk] at hm ⊢; omega)
          match o, r, g with
          | .inl f, r, g => exact ⟨.inl f, la_R.parF h40 (by omega) r, by simp only [la_gd] at g ⊢; omega⟩
          | .inr (e, s), r, g =>
            simp only [la_gd, la_lo] at g
            have s2 := la_sk_n (b := b) g.2
            by_cases h9 : la_by b n s = 41
            · have := la_by_n h9 (by omega)
              exact ⟨_, la_R.par h40 (by omega) r h9, by simp only [la_gd, la_lo]; omega⟩
            · exact ⟨_, la_R.parE h40 (by omega) r h9, by simp only [la_gd]; omega⟩
      · obtain ⟨o, r, g⟩ := la_tot (b := b) (n := n) m 2 la_z d (la_sk b n p) (fun _ => rfl) (by omega) s1.2 hd (by simp only [la_rk] at hm ⊢; omega)
        match o, r, g with
        | .inl f, r, g => exact ⟨.inl f, la_R.cmpF h33 h40 r, by simp only [la_gd] at g ⊢; omega⟩
        | .inr (e, s), r, g =>
          simp only [la_gd, la_lo] at g
          obtain ⟨o2, r2, g2⟩ := la_tot (b := b) (n := n) m 8 e d s (fun h => absurd h (by omega)) (by omega) g.2 hd (by simp only [la_rk] at hm ⊢; omega)
          refine ⟨o2, la_R.cmp h33 h40 r r2, ?_⟩
          match o2, g2 with
          | .inl f, g2 => simp only [la_gd] at g2 ⊢; omega
          | .inr (e3, s3), g2 => simp only [la_gd, la_lo] at g2 ⊢; omega
  | m + 1, k + 11, a, d, p, _, hk, hp, hd, hm => absurd hk (by omega)
/-- room of the stack for what is read at depth d -/
def la_hb (h d : Nat) : Nat → Nat
  | 0 => 1 + 2 * (6 - d) | 1 => 2 + 2 * (6 - d) | 2 => 3 + 2 * (6 - d) | 3 => 4 + 2 * (6 - d) | 4 => 5 + 2 * (6 - d) | 5 => 6 + 2 * (6 - d)
  | 6 => max h (2 + 2 * (6 - d)) | 7 => max h (3 + 2 * (6 - d)) | 8 => max h (4 + 2 * (6 - d)) | 9 => max h (5 + 2 * (6 - d)) | 10 => max h (6 + 2 * (6 - d)) | _ => 0
def la_ac (a : la_T) : Nat → Nat
  | 0 => 0 | 1 => 0 | 2 => 0 | 3 => 0 | 4 => 0 | 5 => 0 | 6 => (la_cd a).length | 7 => (la_cd a).length | 8 => (la_cd a).length | 9 => (la_cd a).length | 10 => (la_cd a).length | _ => 0
def la_qk (h : Nat) (a : la_T) : Nat → Prop
  | 0 => True | 1 => True | 2 => True | 3 => True | 4 => True | 5 => True | 6 => la_ok h a | 7 => la_ok h a | 8 => la_ok h a | 9 => la_ok h a | 10 => la_ok h a | _ => True
def la_bd (n : Nat) (k : Nat) (a : la_T) (d p : Nat) : la_O → Prop
  | .inl _ => True
  | .inr (e, s) => ∀ h, la_qk h a k → la_ok (la_hb h d k) e ∧ (p ≤ n → (la_cd e).length + p ≤ s + la_ac a k ∧ s ≤ n)
theorem la_li_k {c k : Nat} (h : la_li c = some k) : k < 6 := by
  unfold la_li at h; repeat (split at h; (cases h; omega))
  cases h
theorem la_rl_k {c : Nat} {k : Int32} (h : la_rl c = some k) : k = 6 ∨ k = 7 ∨ k = 8 := by
  unfold la_rl at h; repeat (split at h; (cases h; decide))
  cases h
theorem la_bnd {b : Nat → Nat} {n : Nat} {k : Nat} {a : la_T} {d p : Nat} {o : la_O} (h : la_R b n k a d p o) : d ≤ 6 → la_bd n k a d p o := by
  refine h (fun k a d p o => d ≤ 6 → la_bd n k a d p o) ⟨?c_ltr, ?c_num, ?c_numF, ?c_boxD, ?c_boxF, ?c_boxE, ?c_box, ?c_noA, ?c_termF, ?c_term, ?c_terN, ?c_terF, ?c_ter, ?c_sumF, ?c_sum, ?c_suN, ?c_suF, ?c_su, ?c_cmN, ?c_cmF, ?c_cm, ?c_nestD, ?c_notF, ?c_not, ?c_parF, ?c_parE, ?c_par, ?c_cmpF, ?c_cmp, ?c_partF, ?c_part, ?c_paN, ?c_paF, ?c_pa, ?c_condF, ?c_cond, ?c_coN, ?c_coF, ?c_co⟩
  case c_ltr =>
    intro d p k h
    intro hd w _; exact ⟨la_ok_m (la_ok_l (la_li_k h)) (by simp only [la_hb]; omega), fun hp => by
      have := la_sk_n (b := b) hp; have := la_by_n rfl (la_li_c h); simp only [la_cd, la_tl, la_ac, List.length_cons, List.length_nil]; omega⟩
  case c_num =>
    intro d p v r h g e
    intro hd w _; exact ⟨la_ok_m la_ok_n (by simp only [la_hb]; omega), fun hp => by
      have s1 := la_sk_n (b := b) hp
      have n1 := la_nu_n (b := b) 4 (la_sk b n p) 0 s1.2
      have n2 : la_sk b n p + 1 ≤ (la_nu b n 4 (la_sk b n p) 0).2 := la_nu_1 (k := 3) s1.2 h
      rw [g] at n1 n2; simp only [la_cd, la_tn, la_ac, List.length_cons, List.length_nil] at n1 n2 ⊢; omega⟩
  case c_numF =>
    intro d p v r h g e
    intro _; trivial
  case c_boxD =>
    intro p h
    intro _; trivial
  case c_boxF =>
    intro d p f h hd ih
    intro _; trivial
  case c_boxE =>
    intro d p e s h hd ih g
    intro _; trivial
  case c_box =>
    intro d p e s h hd ih g
    intro _ w _
    obtain ⟨i1, i3⟩ := ih (by omega) 0 trivial
    refine ⟨la_ok_m i1 (by simp only [la_hb]; omega), fun hp => ?_⟩
    have s1 := la_sk_n (b := b) hp; have h1 := la_by_n h (by omega)
    have i4 := i3 (by omega)
    have s2 := la_sk_n (b := b) i4.2; have h2 := la_by_n g (by omega)
    simp only [la_ac] at i4 ⊢; omega
  case c_noA =>
    intro d p h g k
    intro _; trivial
  case c_termF =>
    intro d p f ih
    intro _; trivial
  case c_term =>
    intro d p e s o ih iq
    intro hd
    match o, iq hd with
    | .inl f, _ => trivial
    | .inr (e2, s2), iq =>
      intro w _
      obtain ⟨i1, i3⟩ := ih hd 0 trivial
      obtain ⟨j1, j3⟩ := iq _ i1
      refine ⟨la_ok_m j1 (by simp only [la_hb]; omega), fun hp => ?_⟩
      have i4 := i3 hp; have j4 := j3 i4.2
      simp only [la_ac] at i4 j4 ⊢; omega
  case c_terN =>
    intro d p e h g
    intro hd w hk; exact ⟨la_ok_m hk (by simp only [la_hb]; omega), fun hp => by have := la_sk_n (b := b) hp; simp only [la_ac]; omega⟩
  case c_terF =>
    intro d p e f h ih
    intro _; trivial
  case c_ter =>
    intro d p e e2 s o h ih iq
    intro hd
    match o, iq hd with
    | .inl f, _ => trivial
    | .inr (e3, s3), iq =>
      intro w hk
      obtain ⟨i1, i3⟩ := ih hd 0 trivial
      obtain ⟨j1, j3⟩ := iq _ (la_ok_b (by split <;> (unfold la_bo; decide)) hk i1)
      refine ⟨la_ok_m j1 (by simp only [la_hb]; omega), fun hp => ?_⟩
      have s1 := la_sk_n (b := b) hp
      have h1 : la_sk b n p < n := h.elim (fun h => la_by_n h (by omega)) (fun h => la_by_n h (by omega))
      have i4 := i3 (by omega); have j4 := j3 i4.2
      simp only [la_ac, la_bin_l] at i4 j4 ⊢; omega
  case c_sumF =>
    intro d p f ih
    intro _; trivial
  case c_sum =>
    intro d p e s o ih iq
    intro hd
    match o, iq hd with
    | .inl f, _ => trivial
    | .inr (e2, s2), iq =>
      intro w _
      obtain ⟨i1, i3⟩ := ih hd 0 trivial
      obtain ⟨j1, j3⟩ := iq _ i1
      refine ⟨la_ok_m j1 (by simp only [la_hb]; omega), fun hp => ?_⟩
      have i4 := i3 hp; have j4 := j3 i4.2
      simp only [la_ac] at i4 j4 ⊢; omega
  case c_suN =>
    intro d p e h g
    intro hd w hk; exact ⟨la_ok_m hk (by simp only [la_hb]; omega), fun hp => by have := la_sk_n (b := b) hp; simp only [la_ac]; omega⟩
  case c_suF =>
    intro d p e f h ih
    intro _; trivial
  case c_su =>
    intro d p e e2 s o h ih iq
    intro hd
    match o, iq hd with
    | .inl f, _ => trivial
    | .inr (e3, s3), iq =>
      intro w hk
      obtain ⟨i1, i3⟩ := ih hd 0 trivial
      obtain ⟨j1, j3⟩ := iq _ (la_ok_b (by split <;> (unfold la_bo; decide)) hk i1)
      refine ⟨la_ok_m j1 (by simp only [la_hb]; omega), fun hp => ?_⟩
      have s1 := la_sk_n (b := b) hp
      have h1 : la_sk b n p < n := h.elim (fun h => la_by_n h (by omega)) (fun h => la_by_n h (by omega))
      have i4 := i3 (by omega); have j4 := j3 i4.2
      simp only [la_ac, la_bin_l] at i4 j4 ⊢; omega
  case c_cmN =>
    intro d p e h
    intro _; trivial
  case c_cmF =>
    intro d p e f k h ih
    intro _; trivial
  case c_cm =>
    intro d p e e2 s k h ih
    intro hd w hk
    obtain ⟨i1, i3⟩ := ih hd 0 trivial
    refine ⟨la_ok_m (la_ok_b (by rcases la_rl_k h with q | q | q <;> subst q <;> (unfold la_bo; decide)) hk i1) (by simp only [la_hb]; omega), fun hp => ?_⟩
    have s1 := la_sk_n (b := b) hp
    have h1 : la_sk b n p < n := la_by_n rfl (la_rl_c h)
    have i4 := i3 (by omega)
    simp only [la_ac, la_bin_l] at i4 ⊢; omega
  case c_nestD =>
    intro p h
    intro _; trivial
  case c_notF =>
    intro d p f h hd ih
    intro _; trivial
  case c_not =>
    intro d p e s h hd ih
    intro _ w _
    obtain ⟨i1, i3⟩ := ih (by omega) 0 trivial
    refine ⟨la_ok_m (la_ok_g i1) (by simp only [la_hb]; omega), fun hp => ?_⟩
    have s1 := la_sk_n (b := b) hp; have h1 := la_by_n h (by omega)
    have i4 := i3 (by omega)
    simp only [la_ac, la_neg_l] at i4 ⊢; omega
  case c_parF =>
    intro d p f h hd ih
    intro _; trivial
  case c_parE =>
    intro d p e s h hd ih g
    intro _; trivial
  case c_par =>
    intro d p e s h hd ih g
    intro _ w _
    obtain ⟨i1, i3⟩ := ih (by omega) 0 trivial
    refine ⟨la_ok_m i1 (by simp only [la_hb]; omega), fun hp => ?_⟩
    have s1 := la_sk_n (b := b) hp; have h1 := la_by_n h (by omega)
    have i4 := i3 (by omega)
    have s2 := la_sk_n (b := b) i4.2; have h2 := la_by_n g (by omega)
    simp only [la_ac] at i4 ⊢; omega
  case c_cmpF =>
    intro d p f h g ih
    intro _; trivial
  case c_cmp =>
    intro d p e s o h g ih iq
    intro hd
    match o, iq hd with
    | .inl f, _ => trivial
    | .inr (e2, s2), iq =>
      intro w _
      obtain ⟨i1, i3⟩ := ih hd 0 trivial
      obtain ⟨j1, j3⟩ := iq _ i1
      refine ⟨la_ok_m j1 (by simp only [la_hb]; omega), fun hp => ?_⟩
      have s1 := la_sk_n (b := b) hp; have i4 := i3 s1.2; have j4 := j3 i4.2
      simp only [la_ac] at i4 j4 ⊢; omega
  case c_partF =>
    intro d p f ih
    intro _; trivial
  case c_part =>
    intro d p e s o ih iq
    intro hd
    match o, iq hd with
    | .inl f, _ => trivial
    | .inr (e2, s2), iq =>
      intro w _
      obtain ⟨i1, i3⟩ := ih hd 0 trivial
      obtain ⟨j1, j3⟩ := iq _ i1
      refine ⟨la_ok_m j1 (by simp only [la_hb]; omega), fun hp => ?_⟩
      have i4 := i3 hp; have j4 := j3 i4.2
      simp only [la_ac] at i4 j4 ⊢; omega
  case c_paN =>
    intro d p e h
    intro hd w hk; exact ⟨la_ok_m hk (by simp only [la_hb]; omega), fun hp => by have := la_sk_n (b := b) hp; simp only [la_ac]; omega⟩
  case c_paF =>
    intro d p e f h ih
    intro _; trivial
  case c_pa =>
    intro d p e e2 s o h ih iq
    intro hd
    match o, iq hd with
    | .inl f, _ => trivial
    | .inr (e3, s3), iq =>
      intro w hk
      obtain ⟨i1, i3⟩ := ih hd 0 trivial
      obtain ⟨j1, j3⟩ := iq _ (la_ok_b (by unfold la_bo; decide) hk i1)
      refine ⟨la_ok_m j1 (by simp only [la_hb]; omega), fun hp => ?_⟩
      have s1 := la_sk_n (b := b) hp
      have h1 : la_sk b n p < n := la_by_n h (by omega)
      have i4 := i3 (by omega); have j4 := j3 i4.2
      simp only [la_ac, la_bin_l] at i4 j4 ⊢; omega
  case c_condF =>
    intro d p f ih
    intro _; trivial
  case c_cond =>
    intro d p e s o ih iq
    intro hd
    match o, iq hd with
    | .inl f, _ => trivial
    | .inr (e2, s2), iq =>
      intro w _
      obtain ⟨i1, i3⟩ := ih hd 0 trivial
      obtain ⟨j1, j3⟩ := iq _ i1
      refine ⟨la_ok_m j1 (by simp only [la_hb]; omega), fun hp => ?_⟩
      have i4 := i3 hp; have j4 := j3 i4.2
      simp only [la_ac] at i4 j4 ⊢; omega
  case c_coN =>
    intro d p e h
    intro hd w hk; exact ⟨la_ok_m hk (by simp only [la_hb]; omega), fun hp => by have := la_sk_n (b := b) hp; simp only [la_ac]; omega⟩
  case c_coF =>
    intro d p e f h ih
    intro _; trivial
  case c_co =>
    intro d p e e2 s o h ih iq
    intro hd
    match o, iq hd with
    | .inl f, _ => trivial
    | .inr (e3, s3), iq =>
      intro w hk
      obtain ⟨i1, i3⟩ := ih hd 0 trivial
      obtain ⟨j1, j3⟩ := iq _ (la_ok_b (by unfold la_bo; decide) hk i1)
      refine ⟨la_ok_m j1 (by simp only [la_hb]; omega), fun hp => ?_⟩
      have s1 := la_sk_n (b := b) hp
      have h1 : la_sk b n p < n := la_by_n h (by omega)
      have i4 := i3 (by omega); have j4 := j3 i4.2
      simp only [la_ac, la_bin_l] at i4 j4 ⊢; omega

/-! THE REFERENCE reads a law as the relation says -/
def lr_cmp (rec : Nat → Int32 → Int32 → AS → Option (Int32 × AS)) (x1 : Int32) (S2 : AS) : Option (Int32 × AS) := (if (ax_fi S2 12 0 11) = (Int32.ofInt (-1)) then ax_bu (f_X12_look S2) (fun (r8 : Int32) (S5 : AS) => (f_X12_isSign r8 S5).bind (fun (r12 : Int32) => (if r12 = (0 : Int32) then ax_bu (f_X12_fails S5) (fun (r27 : Int32) (S24 : AS) => ax_gd (ax_bo r27) (some (r27, S24))) else ax_let (ax_sfi S5 12 0 10 ((ax_fi S5 12 0 10) + (1 : Int32))) (fun (S14 : AS) => ax_bu (rec 2 (0 : Int32) (0 : Int32) S14) (fun (r18 : Int32) (S15 : AS) => (if r8 = (61 : Int32) then (if x1 = r18 then some ((1 : Int32), S15) else some ((0 : Int32), S15)) else (if r8 = (60 : Int32) then (if r18 ≤ x1 then some ((0 : Int32), S15) else some ((1 : Int32), S15)) else (if x1 ≤ r18 then some ((0 : Int32), S15) else some ((1 : Int32), S15))))))))) else some ((0 : Int32), S2))
theorem lr_cp0 {rec : Nat → Int32 → Int32 → AS → Option (Int32 × AS)} {S : AS} {x : Int32} : b_X12_compares rec 0 x S = ax_bu (rec 2 0 0 S) (lr_cmp rec) := by
  unfold b_X12_compares
  simp only [ax_let, if_true]
  rfl
theorem lr_cp1 {rec : Nat → Int32 → Int32 → AS → Option (Int32 × AS)} {S : AS} {x : Int32} : b_X12_compares rec 1 x S = lr_cmp rec x S := by
  unfold b_X12_compares
  simp only [ax_let, if_false, lc_n10]
  rfl
theorem lr_j2 {a b : Int64} : la_jn 2 a b = a + b := by
  unfold la_jn
  rw [if_pos rfl]
theorem lr_j3 {a b : Int64} : la_jn 3 a b = a - b := by
  unfold la_jn
  rw [if_neg (by decide), if_pos rfl]
theorem lr_j4 {a b : Int64} : la_jn 4 a b = a * b := by
  unfold la_jn
  rw [if_neg (by decide), if_neg (by decide), if_pos rfl]
theorem lr_j5 {a b : Int64} : la_jn 5 a b = (if lg_cmp b 0 = 0 then 0 else a / b) := by
  unfold la_jn
  rw [if_neg (by decide), if_neg (by decide), if_neg (by decide), if_pos rfl]
theorem lr_j6 {a b : Int64} : la_jn 6 a b = (if lg_cmp a b = 0 then 1 else 0) := by
  unfold la_jn
  rw [if_neg (by decide), if_neg (by decide), if_neg (by decide), if_neg (by decide), if_pos rfl]
theorem lr_j7 {a b : Int64} : la_jn 7 a b = (if (0 : Int32) ≤ lg_cmp a b then 0 else 1) := by
  unfold la_jn
  rw [if_neg (by decide), if_neg (by decide), if_neg (by decide), if_neg (by decide), if_neg (by decide), if_pos rfl]
theorem lr_j8 {a b : Int64} : la_jn 8 a b = (if lg_cmp a b ≤ (0 : Int32) then 0 else 1) := by
  unfold la_jn
  rw [if_neg (by decide), if_neg (by decide), if_neg (by decide), if_neg (by decide), if_neg (by decide), if_neg (by decide), if_pos rfl]
theorem lr_j9 {a b : Int64} : la_jn 9 a b = a &&& b := by
  unfold la_jn
  rw [if_neg (by decide), if_neg (by decide), if_neg (by decide), if_neg (by decide), if_neg (by decide), if_neg (by decide), if_neg (by decide), if_pos rfl]
theorem lr_j10 {a b : Int64} : la_jn 10 a b = a ||| b := by
  unfold la_jn
  rw [if_neg (by decide), if_neg (by decide), if_neg (by decide), if_neg (by decide), if_neg (by decide), if_neg (by decide), if_neg (by decide), if_neg (by decide)]
theorem lr_tl {x y : Int32} : (x.toInt64 = y.toInt64) ↔ x = y := ⟨fun h => by
  have h1 := congrArg Int64.toInt h
  rw [Int32.toInt_toInt64, Int32.toInt_toInt64] at h1
  exact Int32.toInt_inj.mp h1, fun h => by rw [h]⟩
theorem lr_tle {x y : Int32} : (x.toInt64 ≤ y.toInt64) ↔ x ≤ y := by
  rw [Int64.le_iff_toInt_le, Int32.le_iff_toInt_le, Int32.toInt_toInt64, Int32.toInt_toInt64]
theorem lr_c6 {x y : Int32} : la_cl (la_jn 6 x.toInt64 y.toInt64) = (if x = y then 1 else 0) := by
  rw [lr_j6]; simp only [lg_cmp_eq, lr_tl]
  split <;> rfl
theorem lr_c7 {x y : Int32} : la_cl (la_jn 7 x.toInt64 y.toInt64) = (if y ≤ x then 0 else 1) := by
  rw [lr_j7]; simp only [lg_cmp_ge, lr_tle]
  split <;> rfl
theorem lr_c8 {x y : Int32} : la_cl (la_jn 8 x.toInt64 y.toInt64) = (if x ≤ y then 0 else 1) := by
  rw [lr_j8]; simp only [lg_cmp_le, lr_tle]
  split <;> rfl
theorem lr_c9 {x y : Int32} (hx : x = 0 ∨ x = 1) (hy : y = 0 ∨ y = 1) : la_cl (la_jn 9 x.toInt64 y.toInt64) = (if x = 0 then 0 else if y = 0 then 0 else 1) := by
  rw [lr_j9]
  rcases hx with rfl | rfl <;> rcases hy with rfl | rfl <;> decide +kernel
theorem lr_c10 {x y : Int32} (hx : x = 0 ∨ x = 1) (hy : y = 0 ∨ y = 1) : la_cl (la_jn 10 x.toInt64 y.toInt64) = (if x = 0 then (if y = 0 then 0 else 1) else 1) := by
  rw [lr_j10]
  rcases hx with rfl | rfl <;> rcases hy with rfl | rfl <;> decide +kernel
theorem lr_c11 {x : Int32} (hx : x = 0 ∨ x = 1) : la_cl ((1 : Int32) - x).toInt64 = (if x = 0 then 1 else 0) := by
  rcases hx with rfl | rfl <;> decide +kernel
theorem lr_bo {x : Int32} (hx : x = 0 ∨ x = 1) : ax_bo x = true := by rcases hx with rfl | rfl <;> decide
section
variable {b : Nat → Nat} {n : Nat} {T : AS} {i A : Nat} {d g w : Int32} {rec : Nat → Int32 → Int32 → AS → Option (Int32 × AS)} {K : Int32 → AS → Option (Int32 × AS)}
theorem lr_tD {p φ x : Int32} {N : Nat} (hφ : φ ≠ Int32.ofInt (-1)) : f_X12_term_L5 rec K (N + 1) x (lr_st T p φ d g w) = K x (lr_st T p φ d g w) := by
  rw [f_X12_term_L5, lr_g11, if_neg hφ]
theorem lr_t0 (hT : lr_Tp b n T i A) {p N : Nat} {x : Int32} (hp : p ≤ n) (h1 : la_by b n p ≠ 42) (h2 : la_by b n p ≠ 47) : f_X12_term_L5 rec K (N + 1) x (lr_st T (Int32.ofNat p) (Int32.ofInt (-1)) d g w) = K x (lr_st T (Int32.ofNat (la_sk b n p)) (Int32.ofInt (-1)) d g w) := by
  have s1 := la_sk_n (b := b) hp
  have e1 : lr_sg (la_by b n p) ≠ 42 := lr_ne 42 (lr_by_le hT) h1 (by omega)
  have e2 : lr_sg (la_by b n p) ≠ 47 := lr_ne 47 (lr_by_le hT) h2 (by omega)
  rw [f_X12_term_L5, lr_g11, if_pos rfl, lr_look hT hp, ax_bu_s, if_neg e1, lr_look hT s1.2, ax_bu_s, lc_by_sk, la_sk_s, if_neg e2]
theorem lr_t1 (hT : lr_Tp b n T i A) {p N : Nat} {x : Int32} (hp : p ≤ n) (h : la_by b n p = 42 ∨ la_by b n p = 47) : f_X12_term_L5 rec K (N + 1) x (lr_st T (Int32.ofNat p) (Int32.ofInt (-1)) d g w) = ax_bu (rec 0 0 0 (lr_st T (Int32.ofNat (la_sk b n p + 1)) (Int32.ofInt (-1)) d g w)) (fun r Z => f_X12_term_L5 rec K N (la_cl (la_jn (if la_by b n p = 42 then 4 else 5) x.toInt64 r.toInt64)) Z) := by
  have s1 := la_sk_n (b := b) hp
  have nac : ((47 : Int32) = 42) = False := eq_false (by decide)
  rw [f_X12_term_L5, lr_g11, if_pos rfl, lr_look hT hp, ax_bu_s]
  rcases h with h | h
  · have e1 : lr_sg (la_by b n p) = 42 := by rw [h]; rfl
    have ea : lr_sg 42 = (42 : Int32) := rfl
    rw [if_pos e1, lr_look hT s1.2, ax_bu_s, lc_by_sk, la_sk_s]
    simp only [ax_let, ea, h, if_true, if_false, lc_n10, lr_g10, lr_s10, la_a1, lr_wi, Option.bind_some, lr_j4]
  · have e1 : lr_sg (la_by b n p) = 47 := by rw [h]; rfl
    have e2 : lr_sg (la_by b n p) ≠ 42 := by rw [e1]; decide
    have e3 : ¬ ((47 : Nat) = 42) := by omega
    rw [if_neg e2, lr_look hT s1.2, ax_bu_s, lc_by_sk, la_sk_s, if_pos e1, lr_look hT s1.2, ax_bu_s, lc_by_sk, la_sk_s]
    have ea : lr_sg 47 = (47 : Int32) := rfl
    simp only [ax_let, ea, h, if_true, if_false, nac, e3, lr_g10, lr_s10, la_a1, lr_wi, Option.bind_some, lr_j5]
    congr 1
    funext r Z
    by_cases hz : lg_cmp r.toInt64 0 = 0
    · simp only [hz, if_true]
    · have nz : ax_nzl r.toInt64 = true := by
        unfold ax_nzl
        have : ¬ (r.toInt64 = 0) := fun q => hz ((lg_cmp_eq _ _).mpr q)
        simp [this]
      simp only [hz, if_false, ax_gd, nz, if_true]
theorem lr_sD {p φ x : Int32} {N : Nat} (hφ : φ ≠ Int32.ofInt (-1)) : f_X12_sum_L5 rec K (N + 1) x (lr_st T p φ d g w) = K x (lr_st T p φ d g w) := by
  rw [f_X12_sum_L5, lr_g11, if_neg hφ]
theorem lr_s0 (hT : lr_Tp b n T i A) {p N : Nat} {x : Int32} (hp : p ≤ n) (h1 : la_by b n p ≠ 43) (h2 : la_by b n p ≠ 45) : f_X12_sum_L5 rec K (N + 1) x (lr_st T (Int32.ofNat p) (Int32.ofInt (-1)) d g w) = K x (lr_st T (Int32.ofNat (la_sk b n p)) (Int32.ofInt (-1)) d g w) := by
  have s1 := la_sk_n (b := b) hp
  have e1 : lr_sg (la_by b n p) ≠ 43 := lr_ne 43 (lr_by_le hT) h1 (by omega)
  have e2 : lr_sg (la_by b n p) ≠ 45 := lr_ne 45 (lr_by_le hT) h2 (by omega)
  rw [f_X12_sum_L5, lr_g11, if_pos rfl, lr_look hT hp, ax_bu_s, if_neg e1, lr_look hT s1.2, ax_bu_s, lc_by_sk, la_sk_s, if_neg e2]
theorem lr_s1 (hT : lr_Tp b n T i A) {p N : Nat} {x : Int32} (hp : p ≤ n) (h : la_by b n p = 43 ∨ la_by b n p = 45) : f_X12_sum_L5 rec K (N + 1) x (lr_st T (Int32.ofNat p) (Int32.ofInt (-1)) d g w) = ax_bu (rec 1 0 0 (lr_st T (Int32.ofNat (la_sk b n p + 1)) (Int32.ofInt (-1)) d g w)) (fun r Z => f_X12_sum_L5 rec K N (la_cl (la_jn (if la_by b n p = 43 then 2 else 3) x.toInt64 r.toInt64)) Z) := by
  have s1 := la_sk_n (b := b) hp
  have nac : ((45 : Int32) = 43) = False := eq_false (by decide)
  rw [f_X12_sum_L5, lr_g11, if_pos rfl, lr_look hT hp, ax_bu_s]
  rcases h with h | h
  · have e1 : lr_sg (la_by b n p) = 43 := by rw [h]; rfl
    have ea : lr_sg 43 = (43 : Int32) := rfl
    rw [if_pos e1, lr_look hT s1.2, ax_bu_s, lc_by_sk, la_sk_s]
    simp only [ax_let, ea, h, if_true, if_false, lc_n10, lr_g10, lr_s10, la_a1, lr_wi, Option.bind_some, lr_j2]
  · have e1 : lr_sg (la_by b n p) = 45 := by rw [h]; rfl
    have e2 : lr_sg (la_by b n p) ≠ 43 := by rw [e1]; decide
    have e3 : ¬ ((45 : Nat) = 43) := by omega
    rw [if_neg e2, lr_look hT s1.2, ax_bu_s, lc_by_sk, la_sk_s, if_pos e1, lr_look hT s1.2, ax_bu_s, lc_by_sk, la_sk_s]
    have ea : lr_sg 45 = (45 : Int32) := rfl
    simp only [ax_let, ea, h, if_true, if_false, nac, e3, lr_g10, lr_s10, la_a1, lr_wi, Option.bind_some, lr_j3]
theorem lr_pD {p φ x : Int32} {N : Nat} (hφ : φ ≠ Int32.ofInt (-1)) : f_X12_part_L18 rec K (N + 1) x (lr_st T p φ d g w) = K x (lr_st T p φ d g w) := by
  rw [f_X12_part_L18, lr_g11, if_neg hφ]
theorem lr_p0 (hT : lr_Tp b n T i A) {p N : Nat} {x : Int32} (hp : p ≤ n) (h1 : la_by b n p ≠ 38) : f_X12_part_L18 rec K (N + 1) x (lr_st T (Int32.ofNat p) (Int32.ofInt (-1)) d g w) = K x (lr_st T (Int32.ofNat (la_sk b n p)) (Int32.ofInt (-1)) d g w) := by
  have e1 : lr_sg (la_by b n p) ≠ 38 := lr_ne 38 (lr_by_le hT) h1 (by omega)
  rw [f_X12_part_L18, lr_g11, if_pos rfl, lr_look hT hp, ax_bu_s, if_neg e1]
theorem lr_p1 (hT : lr_Tp b n T i A) {p N : Nat} {x : Int32} (hp : p ≤ n) (h : la_by b n p = 38) : f_X12_part_L18 rec K (N + 1) x (lr_st T (Int32.ofNat p) (Int32.ofInt (-1)) d g w) = ax_bu (rec 4 0 0 (lr_st T (Int32.ofNat (la_sk b n p + 1)) (Int32.ofInt (-1)) d g w)) (fun r Z => f_X12_part_L18 rec K N (if x = 0 then 0 else if r = 0 then 0 else 1) Z) := by
  have e1 : lr_sg (la_by b n p) = 38 := by rw [h]; rfl
  rw [f_X12_part_L18, lr_g11, if_pos rfl, lr_look hT hp, ax_bu_s, if_pos e1]
  simp only [ax_let, lr_g10, lr_s10, la_a1]
  congr 1
  funext r Z
  repeat' split
  all_goals rfl
theorem lr_cD {p φ x : Int32} {N : Nat} (hφ : φ ≠ Int32.ofInt (-1)) : f_X12_condition_L7 rec K (N + 1) x (lr_st T p φ d g w) = K x (lr_st T p φ d g w) := by
  rw [f_X12_condition_L7, lr_g11, if_neg hφ]
theorem lr_c0 (hT : lr_Tp b n T i A) {p N : Nat} {x : Int32} (hp : p ≤ n) (h1 : la_by b n p ≠ 124) : f_X12_condition_L7 rec K (N + 1) x (lr_st T (Int32.ofNat p) (Int32.ofInt (-1)) d g w) = K x (lr_st T (Int32.ofNat (la_sk b n p)) (Int32.ofInt (-1)) d g w) := by
  have e1 : lr_sg (la_by b n p) ≠ 124 := lr_ne 124 (lr_by_le hT) h1 (by omega)
  rw [f_X12_condition_L7, lr_g11, if_pos rfl, lr_look hT hp, ax_bu_s, if_neg e1]
theorem lr_c1 (hT : lr_Tp b n T i A) {p N : Nat} {x : Int32} (hp : p ≤ n) (h : la_by b n p = 124) : f_X12_condition_L7 rec K (N + 1) x (lr_st T (Int32.ofNat p) (Int32.ofInt (-1)) d g w) = ax_bu (rec 5 0 0 (lr_st T (Int32.ofNat (la_sk b n p + 1)) (Int32.ofInt (-1)) d g w)) (fun r Z => f_X12_condition_L7 rec K N (if x = 0 then (if r = 0 then 0 else 1) else 1) Z) := by
  have e1 : lr_sg (la_by b n p) = 124 := by rw [h]; rfl
  rw [f_X12_condition_L7, lr_g11, if_pos rfl, lr_look hT hp, ax_bu_s, if_pos e1]
  simp only [ax_let, lr_g10, lr_s10, la_a1]
  congr 1
  funext r Z
  repeat' split
  all_goals rfl
theorem lr_in {p φ : Int32} {e q : Nat} (h : e < 6) (hq : p = Int32.ofNat q) : f_X12_goesIn (lr_st T p φ (Int32.ofNat e) g w) = some (1, lr_st T (Int32.ofNat (q + 1)) φ (Int32.ofNat (e + 1)) g w) := by
  have h1 : ¬ (Int32.ofNat e = (6 : Int32)) := fun x => by
    have := la_inj (q := 6) (by omega) (by omega) x
    omega
  unfold f_X12_goesIn
  rw [lr_g12, if_neg h1]
  simp only [ax_let, lr_s12, lr_g10, lr_s10, hq, la_a1]
theorem lr_in6 {p : Int32} : f_X12_goesIn (lr_st T p (Int32.ofInt (-1)) (Int32.ofNat 6) g w) = some (0, lr_st T p p (Int32.ofNat 6) g w) := by
  unfold f_X12_goesIn
  rw [lr_g12, if_pos (by decide), lr_fails, ax_bu_s]; rfl
theorem lr_out {p φ : Int32} {e : Nat} : ax_sfi (lr_st T p φ (Int32.ofNat (e + 1)) g w) 12 0 12 ((ax_fi (lr_st T p φ (Int32.ofNat (e + 1)) g w) 12 0 12) - 1) = lr_st T p φ (Int32.ofNat e) g w := by
  rw [lr_g12, lr_s12, la_s1]
end
def lr_Ok (T : AS) (n : Nat) (ρ : Nat → Int32) (d : Nat) (g w : Int32) (B : Bool) (lo : Nat) (r : Option (Int32 × AS)) : la_O → Prop
  | .inl f => f ≤ n ∧ ∃ v p' d', (B = true → v = 0 ∨ v = 1) ∧ r = some (v, lr_st T p' (Int32.ofNat f) d' g w)
  | .inr (e, s) => r = some (la_ev ρ e, lr_st T (Int32.ofNat s) (Int32.ofInt (-1)) (Int32.ofNat d) g w) ∧ lo ≤ s ∧ s ≤ n ∧ (B = true → la_ev ρ e = 0 ∨ la_ev ρ e = 1)
def lr_P (b : Nat → Nat) (n : Nat) (T : AS) (ρ : Nat → Int32) (g w : Int32) : Nat → la_T → Nat → Nat → la_O → Prop
  | 0, _, d, p, o => ∀ m, 1 + 3 * (6 - d) ≤ m → p ≤ n → d ≤ 6 → lr_Ok T n ρ d g w false (p + 1) (g_Parse m 0 0 0 (lr_st T (Int32.ofNat p) (Int32.ofInt (-1)) (Int32.ofNat d) g w)) o
  | 1, _, d, p, o => ∀ m, 2 + 3 * (6 - d) ≤ m → p ≤ n → d ≤ 6 → lr_Ok T n ρ d g w false (p + 1) (g_Parse m 1 0 0 (lr_st T (Int32.ofNat p) (Int32.ofInt (-1)) (Int32.ofNat d) g w)) o
  | 2, _, d, p, o => ∀ m, 3 + 3 * (6 - d) ≤ m → p ≤ n → d ≤ 6 → lr_Ok T n ρ d g w false (p + 1) (g_Parse m 2 0 0 (lr_st T (Int32.ofNat p) (Int32.ofInt (-1)) (Int32.ofNat d) g w)) o
  | 3, _, d, p, o => ∀ m, 5 + 3 * (6 - d) ≤ m → p ≤ n → d ≤ 6 → lr_Ok T n ρ d g w true (p + 1) (g_Parse m 4 0 0 (lr_st T (Int32.ofNat p) (Int32.ofInt (-1)) (Int32.ofNat d) g w)) o
  | 4, _, d, p, o => ∀ m, 6 + 3 * (6 - d) ≤ m → p ≤ n → d ≤ 6 → lr_Ok T n ρ d g w true (p + 1) (g_Parse m 5 0 0 (lr_st T (Int32.ofNat p) (Int32.ofInt (-1)) (Int32.ofNat d) g w)) o
  | 5, _, d, p, o => ∀ m, 7 + 3 * (6 - d) ≤ m → p ≤ n → d ≤ 6 → lr_Ok T n ρ d g w true (p + 1) (g_Parse m 6 0 0 (lr_st T (Int32.ofNat p) (Int32.ofInt (-1)) (Int32.ofNat d) g w)) o
  | 6, a, d, p, o => ∀ m N, 1 + 3 * (6 - d) ≤ m → p ≤ n → d ≤ 6 → n - p < N → lr_Ok T n ρ d g w false p (f_X12_term_L5 (g_Parse m) (fun x Z => some (x, Z)) N (la_ev ρ a) (lr_st T (Int32.ofNat p) (Int32.ofInt (-1)) (Int32.ofNat d) g w)) o
  | 7, a, d, p, o => ∀ m N, 2 + 3 * (6 - d) ≤ m → p ≤ n → d ≤ 6 → n - p < N → lr_Ok T n ρ d g w false p (f_X12_sum_L5 (g_Parse m) (fun x Z => some (x, Z)) N (la_ev ρ a) (lr_st T (Int32.ofNat p) (Int32.ofInt (-1)) (Int32.ofNat d) g w)) o
  | 8, a, d, p, o => ∀ m, 3 + 3 * (6 - d) ≤ m → p ≤ n → d ≤ 6 → lr_Ok T n ρ d g w true (p + 1) (lr_cmp (g_Parse m) (la_ev ρ a) (lr_st T (Int32.ofNat p) (Int32.ofInt (-1)) (Int32.ofNat d) g w)) o
  | 9, a, d, p, o => ∀ m N, 5 + 3 * (6 - d) ≤ m → p ≤ n → d ≤ 6 → n - p < N → (la_ev ρ a = 0 ∨ la_ev ρ a = 1) → lr_Ok T n ρ d g w true p (f_X12_part_L18 (g_Parse m) (fun x Z => ax_gd (ax_bo x) (some (x, Z))) N (la_ev ρ a) (lr_st T (Int32.ofNat p) (Int32.ofInt (-1)) (Int32.ofNat d) g w)) o
  | 10, a, d, p, o => ∀ m N, 6 + 3 * (6 - d) ≤ m → p ≤ n → d ≤ 6 → n - p < N → (la_ev ρ a = 0 ∨ la_ev ρ a = 1) → lr_Ok T n ρ d g w true p (f_X12_condition_L7 (g_Parse m) (fun x Z => ax_gd (ax_bo x) (some (x, Z))) N (la_ev ρ a) (lr_st T (Int32.ofNat p) (Int32.ofInt (-1)) (Int32.ofNat d) g w)) o
  | _, _, _, _, _ => True
/-- the letters' row -/
def lr_Rh (T : AS) (ρ : Nat → Int32) : Prop := ∀ k, k < 6 → ax_ai T 46 0 (lr_ch k) = ρ k ∧ la_cl (ρ k).toInt64 = ρ k
theorem lr_sig {S : AS} {x : Nat} {k : Int32} (h : la_rl x = some k) : f_X12_isSign (lr_sg x) S = some 1 := by
  have q : ∀ x, x < 257 → (la_rl x).isSome = true → (if lr_sg x = (61 : Int32) then some (1 : Int32) else (if lr_sg x = (60 : Int32) then some (1 : Int32) else (if lr_sg x = (62 : Int32) then some (1 : Int32) else some (0 : Int32)))) = some 1 := by decide +kernel
  exact q x (by have := la_rl_c h; omega) (by rw [h]; rfl)
theorem lr_sig0 {S : AS} {x : Nat} (hx : x ≤ 256) (h : la_rl x = none) : f_X12_isSign (lr_sg x) S = some 0 := by
  have q : ∀ x, x < 257 → la_rl x = none → (if lr_sg x = (61 : Int32) then some (1 : Int32) else (if lr_sg x = (60 : Int32) then some (1 : Int32) else (if lr_sg x = (62 : Int32) then some (1 : Int32) else some (0 : Int32)))) = some 0 := by decide +kernel
  exact q x (by omega) h
theorem lr_cmv {x r k : Int32} {c : Nat} {Z : AS} (h : la_rl c = some k) : (if lr_sg c = (61 : Int32) then (if x = r then some ((1 : Int32), Z) else some ((0 : Int32), Z)) else (if lr_sg c = (60 : Int32) then (if r ≤ x then some ((0 : Int32), Z) else some ((1 : Int32), Z)) else (if x ≤ r then some ((0 : Int32), Z) else some ((1 : Int32), Z)))) = some (la_cl (la_jn k x.toInt64 r.toInt64), Z) := by
  unfold la_rl at h
  by_cases h1 : c = 61
  · subst h1
    rw [if_pos rfl] at h
    cases h
    rw [lr_c6, if_pos (by decide)]; split <;> rfl
  · by_cases h2 : c = 60
    · subst h2
      rw [if_neg (by omega), if_pos rfl] at h
      cases h
      rw [lr_c7, if_neg (by decide), if_pos (by decide)]; split <;> rfl
    · by_cases h3 : c = 62
      · subst h3
        rw [if_neg (by omega), if_neg (by omega), if_pos rfl] at h
        cases h
        rw [lr_c8, if_neg (by decide), if_neg (by decide)]; split <;> rfl
      · rw [if_neg h1, if_neg h2, if_neg h3] at h
        cases h
theorem lr_cmb {x y k : Int32} {c : Nat} (h : la_rl c = some k) : la_cl (la_jn k x.toInt64 y.toInt64) = 0 ∨ la_cl (la_jn k x.toInt64 y.toInt64) = 1 := by
  rcases la_rl_k h with q | q | q <;> subst q
  · rw [lr_c6]; split
    · exact .inr rfl
    · exact .inl rfl
  · rw [lr_c7]; split
    · exact .inl rfl
    · exact .inr rfl
  · rw [lr_c8]; split
    · exact .inl rfl
    · exact .inr rfl
section
variable {b : Nat → Nat} {n : Nat} {T : AS} {i A : Nat} {g w : Int32} {ρ : Nat → Int32}
theorem lr_main (hT : lr_Tp b n T i A) (hR : lr_Rh T ρ) {k : Nat} {a : la_T} {d p : Nat} {o : la_O} (h : la_R b n k a d p o) : lr_P b n T ρ g w k a d p o := by
  refine h (lr_P b n T ρ g w) ⟨?c_ltr, ?c_num, ?c_numF, ?c_boxD, ?c_boxF, ?c_boxE, ?c_box, ?c_noA, ?c_termF, ?c_term, ?c_terN, ?c_terF, ?c_ter, ?c_sumF, ?c_sum, ?c_suN, ?c_suF, ?c_su, ?c_cmN, ?c_cmF, ?c_cm, ?c_nestD, ?c_notF, ?c_not, ?c_parF, ?c_parE, ?c_par, ?c_cmpF, ?c_cmp, ?c_partF, ?c_part, ?c_paN, ?c_paF, ?c_pa, ?c_condF, ?c_cond, ?c_coN, ?c_coF, ?c_co⟩
  case c_ltr =>
    intro d p k h
    intro m hm hp hd6
    obtain ⟨m, rfl⟩ : ∃ q, m = q + 1 := ⟨m - 1, by omega⟩
    have s1 := la_sk_n (b := b) hp
    have hx := lr_by_le hT (p := p)
    have h240 := hT.1
    have q := la_by_n rfl (la_li_c h)
    have hk := la_li_k h
    have hc := lr_li_c h
    have hc2 : lr_ch k < 128 := by unfold lr_ch; repeat' split
                                   all_goals omega
    have ho : (la_li (la_by b n p)).isSome = true := by rw [h]; rfl
    show lr_Ok T n ρ d g w false (p + 1) (b_X12_atom (g_Parse m) _) _
    unfold b_X12_atom
    rw [lr_look hT hp, ax_bu_s, lr_isA hx, if_pos ho]
    simp only [Option.bind_some]
    rw [if_neg (by decide), hc, lr_e (by omega)]
    simp only [ax_let, lr_g10, lr_s10, la_a1, ax_gd, la_in hc2 (by omega : lr_ch k < 1000000), if_true, la_nc (by omega : lr_ch k < 1000000), lr_ga]
    rw [(hR k hk).1]
    refine ⟨?_, by omega, by omega, fun q => (by cases q)⟩
    show _ = some (la_cl (ρ k).toInt64, _)
    rw [(hR k hk).2]
  case c_num =>
    intro d p v r h g0 e
    intro m hm hp hd6
    obtain ⟨m, rfl⟩ : ∃ q, m = q + 1 := ⟨m - 1, by omega⟩
    have s1 := la_sk_n (b := b) hp
    have hx := lr_by_le hT (p := p)
    have h240 := hT.1
    have q := lc_byd h
    have n1 := la_nu_n (b := b) 4 (la_sk b n p) 0 s1.2
    have n2 : la_sk b n p + 1 ≤ (la_nu b n 4 (la_sk b n p) 0).2 := la_nu_1 (k := 3) s1.2 h
    have n3 := lr_nu_b (b := b) (n := n) 4 (la_sk b n p) 0 0 rfl (by decide)
    rw [g0] at n1 n2 n3
    dsimp only at n1 n2 n3
    have n91 : lr_sg (la_by b n p) ≠ 91 := lr_ne 91 hx (by omega) (by omega)
    have ho : ¬ ((la_li (la_by b n p)).isSome = true) := by rw [lc_li_d q.2.2]; decide
    show lr_Ok T n ρ d g w false (p + 1) (b_X12_atom (g_Parse m) _) _
    unfold b_X12_atom
    rw [lr_look hT hp, ax_bu_s, lr_isA hx, if_neg ho]
    simp only [Option.bind_some]
    simp only [if_true]
    rw [if_neg n91, lr_isD hT s1.2, if_pos h]
    simp only [Option.bind_some]
    rw [if_neg (by decide), lr_num0 hT s1.2, g0]
    dsimp only
    rw [if_neg (by rw [e]; decide)]
    refine ⟨?_, by omega, n1.2, fun q => (by cases q)⟩
    show _ = some (la_cl (Int32.ofNat v).toInt64, _)
    rw [lr_cln n3]
  case c_numF =>
    intro d p v r h g0 e
    intro m hm hp hd6
    obtain ⟨m, rfl⟩ : ∃ q, m = q + 1 := ⟨m - 1, by omega⟩
    have s1 := la_sk_n (b := b) hp
    have hx := lr_by_le hT (p := p)
    have h240 := hT.1
    have q := lc_byd h
    have n1 := la_nu_n (b := b) 4 (la_sk b n p) 0 s1.2
    have n2 : la_sk b n p + 1 ≤ (la_nu b n 4 (la_sk b n p) 0).2 := la_nu_1 (k := 3) s1.2 h
    have n3 := lr_nu_b (b := b) (n := n) 4 (la_sk b n p) 0 0 rfl (by decide)
    rw [g0] at n1 n2 n3
    dsimp only at n1 n2 n3
    have n91 : lr_sg (la_by b n p) ≠ 91 := lr_ne 91 hx (by omega) (by omega)
    have ho : ¬ ((la_li (la_by b n p)).isSome = true) := by rw [lc_li_d q.2.2]; decide
    show lr_Ok T n ρ d g w false (p + 1) (b_X12_atom (g_Parse m) _) _
    unfold b_X12_atom
    rw [lr_look hT hp, ax_bu_s, lr_isA hx, if_neg ho]
    simp only [Option.bind_some]
    simp only [if_true]
    rw [if_neg n91, lr_isD hT s1.2, if_pos h]
    simp only [Option.bind_some]
    rw [if_neg (by decide), lr_num0 hT s1.2, g0]
    dsimp only
    rw [if_pos e]
    exact ⟨n1.2, _, _, _, fun q => (by cases q), rfl⟩
  case c_boxD =>
    intro p h
    intro m hm hp hd6
    obtain ⟨m, rfl⟩ : ∃ q, m = q + 1 := ⟨m - 1, by omega⟩
    have s1 := la_sk_n (b := b) hp
    have hx := lr_by_le hT (p := p)
    have h240 := hT.1
    have q := la_by_n h (by omega)
    have h91 : lr_sg (la_by b n p) = 91 := by rw [h]; rfl
    have ho : ¬ ((la_li (la_by b n p)).isSome = true) := by rw [h]; decide
    show lr_Ok T n ρ 6 g w false (p + 1) (b_X12_atom (g_Parse m) _) _
    unfold b_X12_atom
    rw [lr_look hT hp, ax_bu_s, lr_isA hx, if_neg ho]
    simp only [Option.bind_some]
    simp only [if_true]
    rw [if_pos h91]
    rw [lr_in6, ax_bu_s, if_pos rfl]
    exact ⟨s1.2, _, _, _, fun q => (by cases q), rfl⟩
  case c_boxF =>
    intro d p f h hd ih
    intro m hm hp hd6
    obtain ⟨m, rfl⟩ : ∃ q, m = q + 1 := ⟨m - 1, by omega⟩
    have s1 := la_sk_n (b := b) hp
    have hx := lr_by_le hT (p := p)
    have h240 := hT.1
    obtain ⟨hf, v, p', d', _, e1⟩ := ih m (by omega) (by have := la_by_n h (by omega); omega) (by omega)
    have q := la_by_n h (by omega)
    have h91 : lr_sg (la_by b n p) = 91 := by rw [h]; rfl
    have ho : ¬ ((la_li (la_by b n p)).isSome = true) := by rw [h]; decide
    show lr_Ok T n ρ d g w false (p + 1) (b_X12_atom (g_Parse m) _) _
    unfold b_X12_atom
    rw [lr_look hT hp, ax_bu_s, lr_isA hx, if_neg ho]
    simp only [Option.bind_some]
    simp only [if_true]
    rw [if_pos h91]
    rw [lr_in hd rfl, ax_bu_s, if_neg (by decide), e1, ax_bu_s, lr_tkD (lc_nd (by omega)), ax_bu_s, if_pos rfl]
    exact ⟨hf, _, _, _, fun q => (by cases q), rfl⟩
  case c_boxE =>
    intro d p e s h hd ih g0
    intro m hm hp hd6
    obtain ⟨m, rfl⟩ : ∃ q, m = q + 1 := ⟨m - 1, by omega⟩
    have s1 := la_sk_n (b := b) hp
    have hx := lr_by_le hT (p := p)
    have h240 := hT.1
    obtain ⟨e1, l1, n1, _⟩ := ih m (by omega) (by have := la_by_n h (by omega); omega) (by omega)
    have n93 : lr_sg (la_by b n s) ≠ 93 := lr_ne 93 (lr_by_le hT) g0 (by omega)
    have q := la_by_n h (by omega)
    have h91 : lr_sg (la_by b n p) = 91 := by rw [h]; rfl
    have ho : ¬ ((la_li (la_by b n p)).isSome = true) := by rw [h]; decide
    show lr_Ok T n ρ d g w false (p + 1) (b_X12_atom (g_Parse m) _) _
    unfold b_X12_atom
    rw [lr_look hT hp, ax_bu_s, lr_isA hx, if_neg ho]
    simp only [Option.bind_some]
    simp only [if_true]
    rw [if_pos h91]
    rw [lr_in hd rfl, ax_bu_s, if_neg (by decide), e1, ax_bu_s, lr_tkF hT n1 n93, ax_bu_s, if_pos rfl]
    exact ⟨(la_sk_n n1).2, _, _, _, fun q => (by cases q), rfl⟩
  case c_box =>
    intro d p e s h hd ih g0
    intro m hm hp hd6
    obtain ⟨m, rfl⟩ : ∃ q, m = q + 1 := ⟨m - 1, by omega⟩
    have s1 := la_sk_n (b := b) hp
    have hx := lr_by_le hT (p := p)
    have h240 := hT.1
    obtain ⟨e1, l1, n1, _⟩ := ih m (by omega) (by have := la_by_n h (by omega); omega) (by omega)
    have s2 := la_sk_n (b := b) n1
    have q2 := la_by_n g0 (by omega)
    have h93 : lr_sg (la_by b n s) = 93 := by rw [g0]; rfl
    have q := la_by_n h (by omega)
    have h91 : lr_sg (la_by b n p) = 91 := by rw [h]; rfl
    have ho : ¬ ((la_li (la_by b n p)).isSome = true) := by rw [h]; decide
    show lr_Ok T n ρ d g w false (p + 1) (b_X12_atom (g_Parse m) _) _
    unfold b_X12_atom
    rw [lr_look hT hp, ax_bu_s, lr_isA hx, if_neg ho]
    simp only [Option.bind_some]
    simp only [if_true]
    rw [if_pos h91]
    rw [lr_in hd rfl, ax_bu_s, if_neg (by decide), e1, ax_bu_s, lr_tk hT n1 h93, ax_bu_s, if_neg (by decide)]
    simp only [ax_let, lr_out]
    exact ⟨rfl, by omega, by omega, fun q => (by cases q)⟩
  case c_noA =>
    intro d p h g0 k
    intro m hm hp hd6
    obtain ⟨m, rfl⟩ : ∃ q, m = q + 1 := ⟨m - 1, by omega⟩
    have s1 := la_sk_n (b := b) hp
    have hx := lr_by_le hT (p := p)
    have h240 := hT.1
    have n91 : lr_sg (la_by b n p) ≠ 91 := lr_ne 91 hx k (by omega)
    have ho : ¬ ((la_li (la_by b n p)).isSome = true) := by rw [h]; decide
    have nd : ¬ (la_di b n (la_sk b n p) = true) := by rw [g0]; decide
    show lr_Ok T n ρ d g w false (p + 1) (b_X12_atom (g_Parse m) _) _
    unfold b_X12_atom
    rw [lr_look hT hp, ax_bu_s, lr_isA hx, if_neg ho]
    simp only [Option.bind_some]
    simp only [if_true]
    rw [if_neg n91, lr_isD hT s1.2, if_neg nd]
    simp only [Option.bind_some, if_true]
    rw [lr_fails, ax_bu_s, lc_FF, f_X12_atom_L90, lr_isD hT s1.2, if_neg nd]
    simp only [Option.bind_some, if_true]
    exact ⟨s1.2, _, _, _, fun q => (by cases q), rfl⟩
  case c_termF =>
    intro d p f ih
    intro m hm hp hd6
    obtain ⟨m, rfl⟩ : ∃ q, m = q + 1 := ⟨m - 1, by omega⟩
    have s1 := la_sk_n (b := b) hp
    have hx := lr_by_le hT (p := p)
    have h240 := hT.1
    obtain ⟨hf, v, p', d', _, e1⟩ := ih m (by omega) hp hd6
    show lr_Ok T n ρ d g w false (p + 1) (b_X12_term (g_Parse m) _) _
    unfold b_X12_term
    rw [e1, ax_bu_s, lc_FF, lr_tD (lc_nd (by omega))]
    exact ⟨hf, _, _, _, fun q => (by cases q), rfl⟩
  case c_term =>
    intro d p e s o ih iq
    intro m hm hp hd6
    obtain ⟨m, rfl⟩ : ∃ q, m = q + 1 := ⟨m - 1, by omega⟩
    have s1 := la_sk_n (b := b) hp
    have hx := lr_by_le hT (p := p)
    have h240 := hT.1
    obtain ⟨e1, l1, n1, _⟩ := ih m (by omega) hp hd6
    show lr_Ok T n ρ d g w false (p + 1) (b_X12_term (g_Parse m) _) _
    unfold b_X12_term
    rw [e1, ax_bu_s]
    have r := iq m ax_F (by omega) n1 hd6 (by show _ < 1000000; omega)
    match o, r with
    | .inl f, r => exact r
    | .inr (e2, s2), r =>
      obtain ⟨r1, r2, r3, r4⟩ := r
      exact ⟨r1, by omega, r3, r4⟩
  case c_terN =>
    intro d p e h g0
    intro m N hm hp hd6 hN
    obtain ⟨N, rfl⟩ : ∃ q, N = q + 1 := ⟨N - 1, by omega⟩
    have s1 := la_sk_n (b := b) hp
    have hx := lr_by_le hT (p := p)
    have h240 := hT.1
    rw [lr_t0 hT hp h g0]
    exact ⟨rfl, s1.1, s1.2, fun q => (by cases q)⟩
  case c_terF =>
    intro d p e f h ih
    intro m N hm hp hd6 hN
    obtain ⟨N, rfl⟩ : ∃ q, N = q + 1 := ⟨N - 1, by omega⟩
    have s1 := la_sk_n (b := b) hp
    have hx := lr_by_le hT (p := p)
    have h240 := hT.1
    have h1 : la_sk b n p < n := h.elim (fun h => la_by_n h (by omega)) (fun h => la_by_n h (by omega))
    obtain ⟨hf, v, p', d', _, e1⟩ := ih m (by omega) (by omega) hd6
    obtain ⟨N, rfl⟩ : ∃ q, N = q + 1 := ⟨N - 1, by omega⟩
    rw [lr_t1 hT hp h, e1, ax_bu_s, lr_tD (lc_nd (by omega))]
    exact ⟨hf, _, _, _, fun q => (by cases q), rfl⟩
  case c_ter =>
    intro d p e e2 s o h ih iq
    intro m N hm hp hd6 hN
    obtain ⟨N, rfl⟩ : ∃ q, N = q + 1 := ⟨N - 1, by omega⟩
    have s1 := la_sk_n (b := b) hp
    have hx := lr_by_le hT (p := p)
    have h240 := hT.1
    have h1 : la_sk b n p < n := h.elim (fun h => la_by_n h (by omega)) (fun h => la_by_n h (by omega))
    obtain ⟨e1, l1, n1, _⟩ := ih m (by omega) (by omega) hd6
    rw [lr_t1 hT hp h, e1, ax_bu_s]
    have r := iq m N (by omega) n1 hd6 (by omega)
    match o, r with
    | .inl f, r => exact r
    | .inr (e3, s3), r =>
      obtain ⟨r1, r2, r3, r4⟩ := r
      exact ⟨r1, by omega, r3, r4⟩
  case c_sumF =>
    intro d p f ih
    intro m hm hp hd6
    obtain ⟨m, rfl⟩ : ∃ q, m = q + 1 := ⟨m - 1, by omega⟩
    have s1 := la_sk_n (b := b) hp
    have hx := lr_by_le hT (p := p)
    have h240 := hT.1
    obtain ⟨hf, v, p', d', _, e1⟩ := ih m (by omega) hp hd6
    show lr_Ok T n ρ d g w false (p + 1) (b_X12_sum (g_Parse m) _) _
    unfold b_X12_sum
    rw [e1, ax_bu_s, lc_FF, lr_sD (lc_nd (by omega))]
    exact ⟨hf, _, _, _, fun q => (by cases q), rfl⟩
  case c_sum =>
    intro d p e s o ih iq
    intro m hm hp hd6
    obtain ⟨m, rfl⟩ : ∃ q, m = q + 1 := ⟨m - 1, by omega⟩
    have s1 := la_sk_n (b := b) hp
    have hx := lr_by_le hT (p := p)
    have h240 := hT.1
    obtain ⟨e1, l1, n1, _⟩ := ih m (by omega) hp hd6
    show lr_Ok T n ρ d g w false (p + 1) (b_X12_sum (g_Parse m) _) _
    unfold b_X12_sum
    rw [e1, ax_bu_s]
    have r := iq m ax_F (by omega) n1 hd6 (by show _ < 1000000; omega)
    match o, r with
    | .inl f, r => exact r
    | .inr (e2, s2), r =>
      obtain ⟨r1, r2, r3, r4⟩ := r
      exact ⟨r1, by omega, r3, r4⟩
  case c_suN =>
    intro d p e h g0
    intro m N hm hp hd6 hN
    obtain ⟨N, rfl⟩ : ∃ q, N = q + 1 := ⟨N - 1, by omega⟩
    have s1 := la_sk_n (b := b) hp
    have hx := lr_by_le hT (p := p)
    have h240 := hT.1
    rw [lr_s0 hT hp h g0]
    exact ⟨rfl, s1.1, s1.2, fun q => (by cases q)⟩
  case c_suF =>
    intro d p e f h ih
    intro m N hm hp hd6 hN
    obtain ⟨N, rfl⟩ : ∃ q, N = q + 1 := ⟨N - 1, by omega⟩
    have s1 := la_sk_n (b := b) hp
    have hx := lr_by_le hT (p := p)
    have h240 := hT.1
    have h1 : la_sk b n p < n := h.elim (fun h => la_by_n h (by omega)) (fun h => la_by_n h (by omega))
    obtain ⟨hf, v, p', d', _, e1⟩ := ih m (by omega) (by omega) hd6
    obtain ⟨N, rfl⟩ : ∃ q, N = q + 1 := ⟨N - 1, by omega⟩
    rw [lr_s1 hT hp h, e1, ax_bu_s, lr_sD (lc_nd (by omega))]
    exact ⟨hf, _, _, _, fun q => (by cases q), rfl⟩
  case c_su =>
    intro d p e e2 s o h ih iq
    intro m N hm hp hd6 hN
    obtain ⟨N, rfl⟩ : ∃ q, N = q + 1 := ⟨N - 1, by omega⟩
    have s1 := la_sk_n (b := b) hp
    have hx := lr_by_le hT (p := p)
    have h240 := hT.1
    have h1 : la_sk b n p < n := h.elim (fun h => la_by_n h (by omega)) (fun h => la_by_n h (by omega))
    obtain ⟨e1, l1, n1, _⟩ := ih m (by omega) (by omega) hd6
    rw [lr_s1 hT hp h, e1, ax_bu_s]
    have r := iq m N (by omega) n1 hd6 (by omega)
    match o, r with
    | .inl f, r => exact r
    | .inr (e3, s3), r =>
      obtain ⟨r1, r2, r3, r4⟩ := r
      exact ⟨r1, by omega, r3, r4⟩
  case c_cmN =>
    intro d p e h
    intro m hm hp hd6
    have s1 := la_sk_n (b := b) hp
    have h240 := hT.1
    show lr_Ok T n ρ d g w true (p + 1) (lr_cmp _ _ _) _
    unfold lr_cmp
    rw [lr_g11, if_pos rfl, lr_look hT hp, ax_bu_s, lr_sig0 (lr_by_le hT) h]
    simp only [Option.bind_some, if_true]
    rw [lr_fails, ax_bu_s]
    exact ⟨s1.2, _, _, _, fun _ => .inl rfl, rfl⟩
  case c_cmF =>
    intro d p e f k h ih
    intro m hm hp hd6
    have s1 := la_sk_n (b := b) hp
    have h240 := hT.1
    have h1 : la_sk b n p < n := la_by_n rfl (la_rl_c h)
    obtain ⟨hf, v, p', d', _, e1⟩ := ih m (by omega) (by omega) hd6
    show lr_Ok T n ρ d g w true (p + 1) (lr_cmp _ _ _) _
    unfold lr_cmp
    rw [lr_g11, if_pos rfl, lr_look hT hp, ax_bu_s, lr_sig h]
    simp only [Option.bind_some]
    rw [if_neg (by decide)]
    simp only [ax_let, lr_g10, lr_s10, la_a1]
    rw [e1, ax_bu_s, lr_cmv h]
    exact ⟨hf, _, _, _, fun _ => lr_cmb h, rfl⟩
  case c_cm =>
    intro d p e e2 s k h ih
    intro m hm hp hd6
    have s1 := la_sk_n (b := b) hp
    have h240 := hT.1
    have h1 : la_sk b n p < n := la_by_n rfl (la_rl_c h)
    obtain ⟨e1, l1, n1, _⟩ := ih m (by omega) (by omega) hd6
    show lr_Ok T n ρ d g w true (p + 1) (lr_cmp _ _ _) _
    unfold lr_cmp
    rw [lr_g11, if_pos rfl, lr_look hT hp, ax_bu_s, lr_sig h]
    simp only [Option.bind_some]
    rw [if_neg (by decide)]
    simp only [ax_let, lr_g10, lr_s10, la_a1]
    rw [e1, ax_bu_s, lr_cmv h]
    exact ⟨rfl, by omega, n1, fun _ => lr_cmb h⟩
  case c_nestD =>
    intro p h
    intro m hm hp hd6
    obtain ⟨m, rfl⟩ : ∃ q, m = q + 1 := ⟨m - 1, by omega⟩
    have s1 := la_sk_n (b := b) hp
    have hx := lr_by_le hT (p := p)
    have h240 := hT.1
    rcases h with h | h
    · have e1 : lr_sg (la_by b n p) = 33 := by rw [h]; rfl
      show lr_Ok T n ρ 6 g w true (p + 1) (b_X12_unit (g_Parse m) _) _
      unfold b_X12_unit
      rw [lr_look hT hp, ax_bu_s]
      rw [if_pos e1, lr_in6, ax_bu_s, if_pos rfl]
      exact ⟨s1.2, _, _, _, fun _ => .inl rfl, rfl⟩
    · have e1 : lr_sg (la_by b n p) = 40 := by rw [h]; rfl
      have e2 : lr_sg (la_by b n p) ≠ 33 := by rw [e1]; decide
      show lr_Ok T n ρ 6 g w true (p + 1) (b_X12_unit (g_Parse m) _) _
      unfold b_X12_unit
      rw [lr_look hT hp, ax_bu_s]
      rw [if_neg e2, if_pos e1, lr_in6, ax_bu_s, if_pos rfl]
      exact ⟨s1.2, _, _, _, fun _ => .inl rfl, rfl⟩
  case c_notF =>
    intro d p f h hd ih
    intro m hm hp hd6
    obtain ⟨m, rfl⟩ : ∃ q, m = q + 1 := ⟨m - 1, by omega⟩
    have s1 := la_sk_n (b := b) hp
    have hx := lr_by_le hT (p := p)
    have h240 := hT.1
    have q := la_by_n h (by omega)
    have e33 : lr_sg (la_by b n p) = 33 := by rw [h]; rfl
    obtain ⟨hf, v, p', d', hv, e1⟩ := ih m (by omega) (by omega) (by omega)
    show lr_Ok T n ρ d g w true (p + 1) (b_X12_unit (g_Parse m) _) _
    unfold b_X12_unit
    rw [lr_look hT hp, ax_bu_s]
    rw [if_pos e33, lr_in hd rfl, ax_bu_s, if_neg (by decide), e1, ax_bu_s]
    simp only [ax_let, lr_s12]
    by_cases hz : v = 0
    · rw [if_pos hz]
      exact ⟨hf, _, _, _, fun _ => .inr rfl, rfl⟩
    · rw [if_neg hz]
      exact ⟨hf, _, _, _, fun _ => .inl rfl, rfl⟩
  case c_not =>
    intro d p e s h hd ih
    intro m hm hp hd6
    obtain ⟨m, rfl⟩ : ∃ q, m = q + 1 := ⟨m - 1, by omega⟩
    have s1 := la_sk_n (b := b) hp
    have hx := lr_by_le hT (p := p)
    have h240 := hT.1
    have q := la_by_n h (by omega)
    have e33 : lr_sg (la_by b n p) = 33 := by rw [h]; rfl
    obtain ⟨e1, l1, n1, hv⟩ := ih m (by omega) (by omega) (by omega)
    have hv := hv rfl
    show lr_Ok T n ρ d g w true (p + 1) (b_X12_unit (g_Parse m) _) _
    unfold b_X12_unit
    rw [lr_look hT hp, ax_bu_s]
    rw [if_pos e33, lr_in hd rfl, ax_bu_s, if_neg (by decide), e1, ax_bu_s]
    simp only [ax_let, lr_out]
    have eg : la_ev ρ (la_tg e) = (if la_ev ρ e = 0 then 1 else 0) := lr_c11 hv
    by_cases hz : la_ev ρ e = 0
    · rw [if_pos hz]
      rw [if_pos hz] at eg
      refine ⟨by rw [eg], by omega, n1, fun _ => .inr eg⟩
    · rw [if_neg hz]
      rw [if_neg hz] at eg
      refine ⟨by rw [eg], by omega, n1, fun _ => .inl eg⟩
  case c_parF =>
    intro d p f h hd ih
    intro m hm hp hd6
    obtain ⟨m, rfl⟩ : ∃ q, m = q + 1 := ⟨m - 1, by omega⟩
    have s1 := la_sk_n (b := b) hp
    have hx := lr_by_le hT (p := p)
    have h240 := hT.1
    have q := la_by_n h (by omega)
    have e40 : lr_sg (la_by b n p) = 40 := by rw [h]; rfl
    have e33 : lr_sg (la_by b n p) ≠ 33 := by rw [e40]; decide
    obtain ⟨hf, v, p', d', hv, e1⟩ := ih m (by omega) (by omega) (by omega)
    show lr_Ok T n ρ d g w true (p + 1) (b_X12_unit (g_Parse m) _) _
    unfold b_X12_unit
    rw [lr_look hT hp, ax_bu_s]
    rw [if_neg e33, if_pos e40, lr_in hd rfl, ax_bu_s, if_neg (by decide), e1, ax_bu_s, lr_tkD (lc_nd (by omega)), ax_bu_s, if_pos rfl]
    exact ⟨hf, _, _, _, fun _ => .inl rfl, rfl⟩
  case c_parE =>
    intro d p e s h hd ih g0
    intro m hm hp hd6
    obtain ⟨m, rfl⟩ : ∃ q, m = q + 1 := ⟨m - 1, by omega⟩
    have s1 := la_sk_n (b := b) hp
    have hx := lr_by_le hT (p := p)
    have h240 := hT.1
    have q := la_by_n h (by omega)
    have e40 : lr_sg (la_by b n p) = 40 := by rw [h]; rfl
    have e33 : lr_sg (la_by b n p) ≠ 33 := by rw [e40]; decide
    obtain ⟨e1, l1, n1, hv⟩ := ih m (by omega) (by omega) (by omega)
    have n41 : lr_sg (la_by b n s) ≠ 41 := lr_ne 41 (lr_by_le hT) g0 (by omega)
    show lr_Ok T n ρ d g w true (p + 1) (b_X12_unit (g_Parse m) _) _
    unfold b_X12_unit
    rw [lr_look hT hp, ax_bu_s]
    rw [if_neg e33, if_pos e40, lr_in hd rfl, ax_bu_s, if_neg (by decide), e1, ax_bu_s, lr_tkF hT n1 n41, ax_bu_s, if_pos rfl]
    exact ⟨(la_sk_n n1).2, _, _, _, fun _ => .inl rfl, rfl⟩
  case c_par =>
    intro d p e s h hd ih g0
    intro m hm hp hd6
    obtain ⟨m, rfl⟩ : ∃ q, m = q + 1 := ⟨m - 1, by omega⟩
    have s1 := la_sk_n (b := b) hp
    have hx := lr_by_le hT (p := p)
    have h240 := hT.1
    have q := la_by_n h (by omega)
    have e40 : lr_sg (la_by b n p) = 40 := by rw [h]; rfl
    have e33 : lr_sg (la_by b n p) ≠ 33 := by rw [e40]; decide
    obtain ⟨e1, l1, n1, hv⟩ := ih m (by omega) (by omega) (by omega)
    have s2 := la_sk_n (b := b) n1
    have q2 := la_by_n g0 (by omega)
    have h41 : lr_sg (la_by b n s) = 41 := by rw [g0]; rfl
    show lr_Ok T n ρ d g w true (p + 1) (b_X12_unit (g_Parse m) _) _
    unfold b_X12_unit
    rw [lr_look hT hp, ax_bu_s]
    rw [if_neg e33, if_pos e40, lr_in hd rfl, ax_bu_s, if_neg (by decide), e1, ax_bu_s, lr_tk hT n1 h41, ax_bu_s, if_neg (by decide)]
    simp only [ax_let, lr_out, ax_gd, lr_bo (hv rfl), if_true]
    exact ⟨rfl, by omega, by omega, hv⟩
  case c_cmpF =>
    intro d p f h g0 ih
    intro m hm hp hd6
    obtain ⟨m, rfl⟩ : ∃ q, m = q + 1 := ⟨m - 1, by omega⟩
    have s1 := la_sk_n (b := b) hp
    have hx := lr_by_le hT (p := p)
    have h240 := hT.1
    obtain ⟨m, rfl⟩ : ∃ q, m = q + 1 := ⟨m - 1, by omega⟩
    have n33 : lr_sg (la_by b n p) ≠ 33 := lr_ne 33 hx h (by omega)
    have n40 : lr_sg (la_by b n p) ≠ 40 := lr_ne 40 hx g0 (by omega)
    have ec : ∀ Z, g_Parse (m + 1) 3 0 0 Z = b_X12_compares (g_Parse m) 0 0 Z := fun Z => rfl
    obtain ⟨hf, v, p', d', _, e1⟩ := ih m (by omega) s1.2 hd6
    show lr_Ok T n ρ d g w true (p + 1) (b_X12_unit (g_Parse (m + 1)) _) _
    unfold b_X12_unit
    rw [lr_look hT hp, ax_bu_s, if_neg n33, if_neg n40, ec, lr_cp0, e1, ax_bu_s]
    unfold lr_cmp
    rw [lr_g11, if_neg (lc_nd (by omega)), ax_bu_s]
    exact ⟨hf, _, _, _, fun _ => .inl rfl, rfl⟩
  case c_cmp =>
    intro d p e s o h g0 ih iq
    intro m hm hp hd6
    obtain ⟨m, rfl⟩ : ∃ q, m = q + 1 := ⟨m - 1, by omega⟩
    have s1 := la_sk_n (b := b) hp
    have hx := lr_by_le hT (p := p)
    have h240 := hT.1
    obtain ⟨m, rfl⟩ : ∃ q, m = q + 1 := ⟨m - 1, by omega⟩
    have n33 : lr_sg (la_by b n p) ≠ 33 := lr_ne 33 hx h (by omega)
    have n40 : lr_sg (la_by b n p) ≠ 40 := lr_ne 40 hx g0 (by omega)
    have ec : ∀ Z, g_Parse (m + 1) 3 0 0 Z = b_X12_compares (g_Parse m) 0 0 Z := fun Z => rfl
    obtain ⟨e1, l1, n1, _⟩ := ih m (by omega) s1.2 hd6
    show lr_Ok T n ρ d g w true (p + 1) (b_X12_unit (g_Parse (m + 1)) _) _
    unfold b_X12_unit
    rw [lr_look hT hp, ax_bu_s, if_neg n33, if_neg n40, ec, lr_cp0, e1, ax_bu_s]
    have r := iq m (by omega) n1 hd6
    match o, r with
    | .inl f, r =>
      obtain ⟨hf, v, p', d', hv, r1⟩ := r
      rw [r1, ax_bu_s]
      simp only [ax_gd, lr_bo (hv rfl), if_true]
      exact ⟨hf, _, _, _, hv, rfl⟩
    | .inr (e2, s2), r =>
      obtain ⟨r1, r2, r3, r4⟩ := r
      rw [r1, ax_bu_s]
      simp only [ax_gd, lr_bo (r4 rfl), if_true]
      exact ⟨rfl, by omega, r3, r4⟩
  case c_partF =>
    intro d p f ih
    intro m hm hp hd6
    obtain ⟨m, rfl⟩ : ∃ q, m = q + 1 := ⟨m - 1, by omega⟩
    have s1 := la_sk_n (b := b) hp
    have hx := lr_by_le hT (p := p)
    have h240 := hT.1
    obtain ⟨hf, v, p', d', hv, e1⟩ := ih m (by omega) hp hd6
    show lr_Ok T n ρ d g w true (p + 1) (b_X12_part (g_Parse m) 0 0 _) _
    unfold b_X12_part
    rw [if_pos rfl]
    rw [e1, ax_bu_s, lc_FF, lr_pD (lc_nd (by omega))]
    simp only [ax_gd, lr_bo (hv rfl), if_true]
    exact ⟨hf, _, _, _, hv, rfl⟩
  case c_part =>
    intro d p e s o ih iq
    intro m hm hp hd6
    obtain ⟨m, rfl⟩ : ∃ q, m = q + 1 := ⟨m - 1, by omega⟩
    have s1 := la_sk_n (b := b) hp
    have hx := lr_by_le hT (p := p)
    have h240 := hT.1
    obtain ⟨e1, l1, n1, hv⟩ := ih m (by omega) hp hd6
    show lr_Ok T n ρ d g w true (p + 1) (b_X12_part (g_Parse m) 0 0 _) _
    unfold b_X12_part
    rw [if_pos rfl]
    rw [e1, ax_bu_s]
    have r := iq m ax_F (by omega) n1 hd6 (by show _ < 1000000; omega) (hv rfl)
    match o, r with
    | .inl f, r => exact r
    | .inr (e2, s2), r =>
      obtain ⟨r1, r2, r3, r4⟩ := r
      exact ⟨r1, by omega, r3, r4⟩
  case c_paN =>
    intro d p e h
    intro m N hm hp hd6 hN hB
    obtain ⟨N, rfl⟩ : ∃ q, N = q + 1 := ⟨N - 1, by omega⟩
    have s1 := la_sk_n (b := b) hp
    have hx := lr_by_le hT (p := p)
    have h240 := hT.1
    rw [lr_p0 hT hp h]
    simp only [ax_gd, lr_bo hB, if_true]
    exact ⟨rfl, s1.1, s1.2, fun _ => hB⟩
  case c_paF =>
    intro d p e f h ih
    intro m N hm hp hd6 hN hB
    obtain ⟨N, rfl⟩ : ∃ q, N = q + 1 := ⟨N - 1, by omega⟩
    have s1 := la_sk_n (b := b) hp
    have hx := lr_by_le hT (p := p)
    have h240 := hT.1
    have h1 : la_sk b n p < n := la_by_n h (by omega)
    obtain ⟨hf, v, p', d', _, e1⟩ := ih m (by omega) (by omega) hd6
    obtain ⟨N, rfl⟩ : ∃ q, N = q + 1 := ⟨N - 1, by omega⟩
    have hb : (if la_ev ρ e = 0 then (0 : Int32) else if v = 0 then 0 else 1) = 0 ∨ (if la_ev ρ e = 0 then (0 : Int32) else if v = 0 then 0 else 1) = 1 := by
      repeat' split
      all_goals first | exact .inl rfl | exact .inr rfl
    rw [lr_p1 hT hp h, e1, ax_bu_s, lr_pD (lc_nd (by omega))]
    simp only [ax_gd, lr_bo hb, if_true]
    exact ⟨hf, _, _, _, fun _ => hb, rfl⟩
  case c_pa =>
    intro d p e e2 s o h ih iq
    intro m N hm hp hd6 hN hB
    obtain ⟨N, rfl⟩ : ∃ q, N = q + 1 := ⟨N - 1, by omega⟩
    have s1 := la_sk_n (b := b) hp
    have hx := lr_by_le hT (p := p)
    have h240 := hT.1
    have h1 : la_sk b n p < n := la_by_n h (by omega)
    obtain ⟨e1, l1, n1, hv⟩ := ih m (by omega) (by omega) hd6
    have hv := hv rfl
    have eb : la_ev ρ (la_tb 9 e e2) = (if la_ev ρ e = 0 then (0 : Int32) else if la_ev ρ e2 = 0 then 0 else 1) := lr_c9 hB hv
    have hb : la_ev ρ (la_tb 9 e e2) = 0 ∨ la_ev ρ (la_tb 9 e e2) = 1 := by
      rw [eb]
      repeat' split
      all_goals first | exact .inl rfl | exact .inr rfl
    rw [lr_p1 hT hp h, e1, ax_bu_s, ← eb]
    have r := iq m N (by omega) n1 hd6 (by omega) hb
    match o, r with
    | .inl f, r => exact r
    | .inr (e3, s3), r =>
      obtain ⟨r1, r2, r3, r4⟩ := r
      exact ⟨r1, by omega, r3, r4⟩
  case c_condF =>
    intro d p f ih
    intro m hm hp hd6
    obtain ⟨m, rfl⟩ : ∃ q, m = q + 1 := ⟨m - 1, by omega⟩
    have s1 := la_sk_n (b := b) hp
    have hx := lr_by_le hT (p := p)
    have h240 := hT.1
    obtain ⟨hf, v, p', d', hv, e1⟩ := ih m (by omega) hp hd6
    show lr_Ok T n ρ d g w true (p + 1) (b_X12_condition (g_Parse m) 0 0 _) _
    unfold b_X12_condition
    rw [e1, ax_bu_s, lc_FF, lr_cD (lc_nd (by omega))]
    simp only [ax_gd, lr_bo (hv rfl), if_true]
    exact ⟨hf, _, _, _, hv, rfl⟩
  case c_cond =>
    intro d p e s o ih iq
    intro m hm hp hd6
    obtain ⟨m, rfl⟩ : ∃ q, m = q + 1 := ⟨m - 1, by omega⟩
    have s1 := la_sk_n (b := b) hp
    have hx := lr_by_le hT (p := p)
    have h240 := hT.1
    obtain ⟨e1, l1, n1, hv⟩ := ih m (by omega) hp hd6
    show lr_Ok T n ρ d g w true (p + 1) (b_X12_condition (g_Parse m) 0 0 _) _
    unfold b_X12_condition
    rw [e1, ax_bu_s]
    have r := iq m ax_F (by omega) n1 hd6 (by show _ < 1000000; omega) (hv rfl)
    match o, r with
    | .inl f, r => exact r
    | .inr (e2, s2), r =>
      obtain ⟨r1, r2, r3, r4⟩ := r
      exact ⟨r1, by omega, r3, r4⟩
  case c_coN =>
    intro d p e h
    intro m N hm hp hd6 hN hB
    obtain ⟨N, rfl⟩ : ∃ q, N = q + 1 := ⟨N - 1, by omega⟩
    have s1 := la_sk_n (b := b) hp
    have hx := lr_by_le hT (p := p)
    have h240 := hT.1
    rw [lr_c0 hT hp h]
    simp only [ax_gd, lr_bo hB, if_true]
    exact ⟨rfl, s1.1, s1.2, fun _ => hB⟩
  case c_coF =>
    intro d p e f h ih
    intro m N hm hp hd6 hN hB
    obtain ⟨N, rfl⟩ : ∃ q, N = q + 1 := ⟨N - 1, by omega⟩
    have s1 := la_sk_n (b := b) hp
    have hx := lr_by_le hT (p := p)
    have h240 := hT.1
    have h1 : la_sk b n p < n := la_by_n h (by omega)
    obtain ⟨hf, v, p', d', _, e1⟩ := ih m (by omega) (by omega) hd6
    obtain ⟨N, rfl⟩ : ∃ q, N = q + 1 := ⟨N - 1, by omega⟩
    have hb : (if la_ev ρ e = 0 then (if v = 0 then (0 : Int32) else 1) else 1) = 0 ∨ (if la_ev ρ e = 0 then (if v = 0 then (0 : Int32) else 1) else 1) = 1 := by
      repeat' split
      all_goals first | exact .inl rfl | exact .inr rfl
    rw [lr_c1 hT hp h, e1, ax_bu_s, lr_cD (lc_nd (by omega))]
    simp only [ax_gd, lr_bo hb, if_true]
    exact ⟨hf, _, _, _, fun _ => hb, rfl⟩
  case c_co =>
    intro d p e e2 s o h ih iq
    intro m N hm hp hd6 hN hB
    obtain ⟨N, rfl⟩ : ∃ q, N = q + 1 := ⟨N - 1, by omega⟩
    have s1 := la_sk_n (b := b) hp
    have hx := lr_by_le hT (p := p)
    have h240 := hT.1
    have h1 : la_sk b n p < n := la_by_n h (by omega)
    obtain ⟨e1, l1, n1, hv⟩ := ih m (by omega) (by omega) hd6
    have hv := hv rfl
    have eb : la_ev ρ (la_tb 10 e e2) = (if la_ev ρ e = 0 then (if la_ev ρ e2 = 0 then (0 : Int32) else 1) else 1) := lr_c10 hB hv
    have hb : la_ev ρ (la_tb 10 e e2) = 0 ∨ la_ev ρ (la_tb 10 e e2) = 1 := by
      rw [eb]
      repeat' split
      all_goals first | exact .inl rfl | exact .inr rfl
    rw [lr_c1 hT hp h, e1, ax_bu_s, ← eb]
    have r := iq m N (by omega) n1 hd6 (by omega) hb
    match o, r with
    | .inl f, r => exact r
    | .inr (e3, s3), r =>
      obtain ⟨r1, r2, r3, r4⟩ := r
      exact ⟨r1, by omega, r3, r4⟩
end

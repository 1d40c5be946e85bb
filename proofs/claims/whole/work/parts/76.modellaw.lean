/-! THE REFERENCE reads a law: its state in closed form -/
def lr_st (T : AS) (p φ d g w : Int32) : AS := ((fun a b j => if a = 12 ∧ b = 0 ∧ j = 10 then p else if a = 12 ∧ b = 0 ∧ j = 11 then φ else if a = 12 ∧ b = 0 ∧ j = 12 then d else if a = 12 ∧ b = 0 ∧ j = 17 then g else if a = 12 ∧ b = 0 ∧ j = 14 then w else T.1 a b j), T.2)
def lr_by (x : Nat) : Int32 := (Int32.ofNat x).toInt8.toInt32
def lr_Tp (b : Nat → Nat) (n : Nat) (T : AS) (i A : Nat) : Prop := n ≤ 240 ∧ ax_fi T 12 0 9 = Int32.ofNat n ∧ ax_fi T 12 0 8 = Int32.ofNat A ∧ ax_fx T 12 0 5 = i ∧ A + n ≤ ax_ln T 44 i ∧ A ≤ 1000 ∧ (∀ p, p < n → ax_ai T 44 i (A + p) = lr_by (b p)) ∧ (∀ p, p < n → 1 ≤ b p ∧ b p ≤ 255)
def lr_sg (x : Nat) : Int32 := if x = 256 then Int32.ofInt (-1) else Int32.ofNat x
section
variable {b : Nat → Nat} {n : Nat} {T : AS} {i A : Nat} {p φ d g w v : Int32}
theorem lr_g10 : ax_fi (lr_st T p φ d g w) 12 0 10 = p := by simp [ax_fi, lr_st]
theorem lr_g11 : ax_fi (lr_st T p φ d g w) 12 0 11 = φ := by simp [ax_fi, lr_st]
theorem lr_g12 : ax_fi (lr_st T p φ d g w) 12 0 12 = d := by simp [ax_fi, lr_st]
theorem lr_g17 : ax_fi (lr_st T p φ d g w) 12 0 17 = g := by simp [ax_fi, lr_st]
theorem lr_g14 : ax_fi (lr_st T p φ d g w) 12 0 14 = w := by simp [ax_fi, lr_st]
theorem lr_g13 : ax_fi (lr_st T p φ d g w) 12 0 13 = ax_fi T 12 0 13 := by simp [ax_fi, lr_st]
theorem lr_g9 : ax_fi (lr_st T p φ d g w) 12 0 9 = ax_fi T 12 0 9 := by simp [ax_fi, lr_st]
theorem lr_g8 : ax_fi (lr_st T p φ d g w) 12 0 8 = ax_fi T 12 0 8 := by simp [ax_fi, lr_st]
theorem lr_gx : ax_fx (lr_st T p φ d g w) = ax_fx T := rfl
theorem lr_ga : ax_ai (lr_st T p φ d g w) = ax_ai T := rfl
theorem lr_gn {j : Nat} : ax_ln (lr_st T p φ d g w) 44 j = ax_ln T 44 j := rfl
theorem lr_s10 : ax_sfi (lr_st T p φ d g w) 12 0 10 v = lr_st T v φ d g w := by
  unfold ax_sfi lr_st ax_u3
  refine Prod.ext (funext fun a => funext fun b => funext fun j => ?_) rfl
  dsimp only
  repeat' split
  all_goals first | rfl | (exfalso; omega)
theorem lr_s11 : ax_sfi (lr_st T p φ d g w) 12 0 11 v = lr_st T p v d g w := by
  unfold ax_sfi lr_st ax_u3
  refine Prod.ext (funext fun a => funext fun b => funext fun j => ?_) rfl
  dsimp only
  repeat' split
  all_goals first | rfl | (exfalso; omega)
theorem lr_s12 : ax_sfi (lr_st T p φ d g w) 12 0 12 v = lr_st T p φ v g w := by
  unfold ax_sfi lr_st ax_u3
  refine Prod.ext (funext fun a => funext fun b => funext fun j => ?_) rfl
  dsimp only
  repeat' split
  all_goals first | rfl | (exfalso; omega)
theorem lr_s17 : ax_sfi (lr_st T p φ d g w) 12 0 17 v = lr_st T p φ d v w := by
  unfold ax_sfi lr_st ax_u3
  refine Prod.ext (funext fun a => funext fun b => funext fun j => ?_) rfl
  dsimp only
  repeat' split
  all_goals first | rfl | (exfalso; omega)
theorem lr_s14 : ax_sfi (lr_st T p φ d g w) 12 0 14 v = lr_st T p φ d g v := by
  unfold ax_sfi lr_st ax_u3
  refine Prod.ext (funext fun a => funext fun b => funext fun j => ?_) rfl
  dsimp only
  repeat' split
  all_goals first | rfl | (exfalso; omega)
theorem lr_ne {x : Nat} (q : Nat) (hx : x ≤ 256) (h : x ≠ q) (h1 : q < 256) : lr_sg x ≠ Int32.ofNat q := fun e => by
  unfold lr_sg at e
  split at e
  · have h2 : ¬ (Int32.ofInt (-1) < 0) := e ▸ la_n0 (by omega)
    exact h2 (by decide)
  · have := la_inj (by omega) (by omega) e
    omega
theorem lr_e {x : Nat} (h : x < 256) : lr_sg x = Int32.ofNat x := if_neg (by omega)
theorem lr_by_le (hT : lr_Tp b n T i A) {p : Nat} : la_by b n p ≤ 256 := by
  unfold la_by; split
  · rename_i h; have := hT.2.2.2.2.2.2.2 _ h; omega
  · omega
theorem lr_b32 : ∀ x, x < 256 → ((lr_by x = (32 : Int32)) ↔ x = 32) := by decide +kernel
theorem lr_b255 : ∀ x, x < 256 → lr_by x &&& (255 : Int32) = Int32.ofNat x := by decide +kernel
theorem lr_bdg : ∀ x, x < 256 → ((if lr_by x < (48 : Int32) then some (0 : Int32) else (if (57 : Int32) < lr_by x then some (0 : Int32) else some (1 : Int32))) = some (if 48 ≤ x ∧ x ≤ 57 then (1 : Int32) else 0)) := by decide +kernel
theorem lr_bdv : ∀ x, x < 58 → 48 ≤ x → lr_by x = Int32.ofNat x := by decide +kernel
theorem lr_lk (hT : lr_Tp b n T i A) (K : AS → Option (Int32 × AS)) : ∀ N p, p ≤ n → n - p < N → f_X12_look_L0 K N (lr_st T (Int32.ofNat p) φ d g w) = K (lr_st T (Int32.ofNat (la_sk b n p)) φ d g w)
  | 0, p, _, h => absurd h (Nat.not_lt_zero _)
  | N + 1, p, hp, h => by
    obtain ⟨h240, h9, h8, hx, hn, hA, hb, hb1⟩ := hT
    rw [f_X12_look_L0, lr_g9, lr_g10, h9]
    by_cases q : p < n
    · have h1 : ¬ (Int32.ofNat n ≤ Int32.ofNat p) := by rw [la_le (by omega) (by omega)]; omega
      rw [if_neg h1]
      simp only [ax_gd, lr_g8, h8, lr_gx, hx, lr_gn, la_ad, la_in (by omega : A + p < ax_ln T 44 i) (by omega : A + p < 1000000), la_nc (by omega : A + p < 1000000), lr_ga, hb p q, if_true]
      by_cases g2 : b p = 32
      · rw [if_pos ((lr_b32 _ (by have := hb1 p q; omega)).mpr g2)]
        simp only [ax_let, lr_s10, la_a1]
        rw [lr_lk ⟨h240, h9, h8, hx, hn, hA, hb, hb1⟩ K N (p + 1) (by omega) (by omega), lc_skb q g2]
      · rw [if_neg (fun e => g2 ((lr_b32 _ (by have := hb1 p q; omega)).mp e)), lc_sks (fun q => g2 q.2)]
    · rw [if_pos ((la_le (by omega) (by omega)).mpr (by omega)), lc_sks (fun h => q h.1)]
theorem lr_look (hT : lr_Tp b n T i A) {p : Nat} (hp : p ≤ n) : f_X12_look (lr_st T (Int32.ofNat p) φ d g w) = some (lr_sg (la_by b n p), lr_st T (Int32.ofNat (la_sk b n p)) φ d g w) := by
  have s1 := la_sk_n (b := b) hp
  unfold f_X12_look
  have h240 := hT.1
  rw [lr_lk hT _ ax_F p hp (by show _ < 1000000; omega)]
  obtain ⟨h240, h9, h8, hx, hn, hA, hb, hb1⟩ := hT
  simp only [lr_g9, lr_g10, h9]
  unfold la_by
  by_cases q : la_sk b n p < n
  · have h1 : ¬ (Int32.ofNat n ≤ Int32.ofNat (la_sk b n p)) := by rw [la_le (by omega) (by omega)]; omega
    have q1 := hb1 _ q
    rw [if_neg h1, if_pos q]
    simp only [ax_gd, lr_g8, h8, lr_gx, hx, lr_gn, la_ad, la_in (by omega : A + la_sk b n p < ax_ln T 44 i) (by omega : A + la_sk b n p < 1000000), la_nc (by omega : A + la_sk b n p < 1000000), lr_ga, hb _ q, if_true]
    rw [lr_b255 _ (by omega), lr_e (by omega)]
  · rw [if_pos ((la_le (by omega) (by omega)).mpr (by omega)), if_neg q]; rfl
theorem lr_fails : f_X12_fails (lr_st T p (Int32.ofInt (-1)) d g w) = some (0, lr_st T p p d g w) := by
  unfold f_X12_fails; rw [lr_g11, if_pos rfl, lr_g10]
  simp only [ax_let, lr_s11]
theorem lr_failsD (hφ : φ ≠ Int32.ofInt (-1)) : f_X12_fails (lr_st T p φ d g w) = some (0, lr_st T p φ d g w) := by
  unfold f_X12_fails; rw [lr_g11, if_neg hφ]
theorem lr_tk (hT : lr_Tp b n T i A) {p : Nat} {C : Int32} (hp : p ≤ n) (h : lr_sg (la_by b n p) = C) : f_X12_takes C (lr_st T (Int32.ofNat p) (Int32.ofInt (-1)) d g w) = some (1, lr_st T (Int32.ofNat (la_sk b n p + 1)) (Int32.ofInt (-1)) d g w) := by
  unfold f_X12_takes
  rw [lr_g11, if_pos rfl, lr_look hT hp, ax_bu_s, if_pos h]
  simp only [ax_let, lr_g10, lr_s10, la_a1]
theorem lr_tkF (hT : lr_Tp b n T i A) {p : Nat} {C : Int32} (hp : p ≤ n) (h : lr_sg (la_by b n p) ≠ C) : f_X12_takes C (lr_st T (Int32.ofNat p) (Int32.ofInt (-1)) d g w) = some (0, lr_st T (Int32.ofNat (la_sk b n p)) (Int32.ofNat (la_sk b n p)) d g w) := by
  unfold f_X12_takes
  rw [lr_g11, if_pos rfl, lr_look hT hp, ax_bu_s, if_neg h, lr_fails, ax_bu_s]; rfl
theorem lr_tkD {C : Int32} (hφ : φ ≠ Int32.ofInt (-1)) : f_X12_takes C (lr_st T p φ d g w) = some (0, lr_st T p φ d g w) := by
  unfold f_X12_takes
  rw [lr_g11, if_neg hφ, lr_failsD hφ, ax_bu_s]; rfl
theorem lr_isD (hT : lr_Tp b n T i A) {p : Nat} (hp : p ≤ n) : f_X12_isDigit (lr_st T (Int32.ofNat p) φ d g w) = some (if la_di b n p = true then (1 : Int32) else 0) := by
  obtain ⟨h240, h9, h8, hx, hn, hA, hb, hb1⟩ := hT
  unfold f_X12_isDigit
  rw [lr_g9, lr_g10, h9]
  by_cases q : p < n
  · have h1 : ¬ (Int32.ofNat n ≤ Int32.ofNat p) := by rw [la_le (by omega) (by omega)]; omega
    have q1 := hb1 _ q
    rw [if_neg h1]
    simp only [ax_gd, lr_g8, h8, lr_gx, hx, lr_gn, la_ad, la_in (by omega : A + p < ax_ln T 44 i) (by omega : A + p < 1000000), la_nc (by omega : A + p < 1000000), lr_ga, hb _ q, if_true]
    rw [lr_bdg _ (by omega)]
    have e : la_di b n p = true ↔ (48 ≤ b p ∧ b p ≤ 57) := by unfold la_di; simp [q]
    by_cases g2 : 48 ≤ b p ∧ b p ≤ 57
    · rw [if_pos g2, if_pos (e.mpr g2)]
    · rw [if_neg g2, if_neg (fun h => g2 (e.mp h))]
  · have e : ¬ (la_di b n p = true) := by unfold la_di; simp [q]
    rw [if_pos ((la_le (by omega) (by omega)).mpr (by omega)), if_neg e]
/-! letters -/
def lr_ch (k : Nat) : Nat := if k = 0 then 110 else if k = 1 then 112 else if k = 2 then 116 else if k = 3 then 103 else if k = 4 then 115 else 100
def lr_am (v : Int32) : Int32 := if (110 : Int32) = v then 1 else if (112 : Int32) = v then 1 else if (116 : Int32) = v then 1 else if (103 : Int32) = v then 1 else if (115 : Int32) = v then 1 else if (100 : Int32) = v then 1 else 0
theorem lr_ca0 {S : AS} : f_J0_charAt_5068e_64x3 0 S = some 110 := by
  have q1 : ax_ln S 65 3 = 6 := rfl
  have q2 : ax_rd S 65 3 (Int32.toNatClampNeg 0) = 110 := by
    show ax_rd S 65 3 0 = 110
    rfl
  have e : f_J1_charAt_3b067_65 3 0 S = some 110 := by
    unfold f_J1_charAt_3b067_65 f_J0_checkIndex_df160 f_J3_checkIndex_8e157_68x0
    rw [q1, q2]
    decide +kernel
  unfold f_J0_charAt_5068e_64x3
  rw [e]
  show ax_gd (ax_nc 110) (some (110 : Int32)) = some 110
  decide +kernel
theorem lr_ca1 {S : AS} : f_J0_charAt_5068e_64x3 1 S = some 112 := by
  have q1 : ax_ln S 65 3 = 6 := rfl
  have q2 : ax_rd S 65 3 (Int32.toNatClampNeg 1) = 112 := by
    show ax_rd S 65 3 1 = 112
    rfl
  have e : f_J1_charAt_3b067_65 3 1 S = some 112 := by
    unfold f_J1_charAt_3b067_65 f_J0_checkIndex_df160 f_J3_checkIndex_8e157_68x0
    rw [q1, q2]
    decide +kernel
  unfold f_J0_charAt_5068e_64x3
  rw [e]
  show ax_gd (ax_nc 112) (some (112 : Int32)) = some 112
  decide +kernel
theorem lr_ca2 {S : AS} : f_J0_charAt_5068e_64x3 2 S = some 116 := by
  have q1 : ax_ln S 65 3 = 6 := rfl
  have q2 : ax_rd S 65 3 (Int32.toNatClampNeg 2) = 116 := by
    show ax_rd S 65 3 2 = 116
    rfl
  have e : f_J1_charAt_3b067_65 3 2 S = some 116 := by
    unfold f_J1_charAt_3b067_65 f_J0_checkIndex_df160 f_J3_checkIndex_8e157_68x0
    rw [q1, q2]
    decide +kernel
  unfold f_J0_charAt_5068e_64x3
  rw [e]
  show ax_gd (ax_nc 116) (some (116 : Int32)) = some 116
  decide +kernel
theorem lr_ca3 {S : AS} : f_J0_charAt_5068e_64x3 3 S = some 103 := by
  have q1 : ax_ln S 65 3 = 6 := rfl
  have q2 : ax_rd S 65 3 (Int32.toNatClampNeg 3) = 103 := by
    show ax_rd S 65 3 3 = 103
    rfl
  have e : f_J1_charAt_3b067_65 3 3 S = some 103 := by
    unfold f_J1_charAt_3b067_65 f_J0_checkIndex_df160 f_J3_checkIndex_8e157_68x0
    rw [q1, q2]
    decide +kernel
  unfold f_J0_charAt_5068e_64x3
  rw [e]
  show ax_gd (ax_nc 103) (some (103 : Int32)) = some 103
  decide +kernel
theorem lr_ca4 {S : AS} : f_J0_charAt_5068e_64x3 4 S = some 115 := by
  have q1 : ax_ln S 65 3 = 6 := rfl
  have q2 : ax_rd S 65 3 (Int32.toNatClampNeg 4) = 115 := by
    show ax_rd S 65 3 4 = 115
    rfl
  have e : f_J1_charAt_3b067_65 3 4 S = some 115 := by
    unfold f_J1_charAt_3b067_65 f_J0_checkIndex_df160 f_J3_checkIndex_8e157_68x0
    rw [q1, q2]
    decide +kernel
  unfold f_J0_charAt_5068e_64x3
  rw [e]
  show ax_gd (ax_nc 115) (some (115 : Int32)) = some 115
  decide +kernel
theorem lr_ca5 {S : AS} : f_J0_charAt_5068e_64x3 5 S = some 100 := by
  have q1 : ax_ln S 65 3 = 6 := rfl
  have q2 : ax_rd S 65 3 (Int32.toNatClampNeg 5) = 100 := by
    show ax_rd S 65 3 5 = 100
    rfl
  have e : f_J1_charAt_3b067_65 3 5 S = some 100 := by
    unfold f_J1_charAt_3b067_65 f_J0_checkIndex_df160 f_J3_checkIndex_8e157_68x0
    rw [q1, q2]
    decide +kernel
  unfold f_J0_charAt_5068e_64x3
  rw [e]
  show ax_gd (ax_nc 100) (some (100 : Int32)) = some 100
  decide +kernel
theorem lr_as {S : AS} {N : Nat} {v j r k : Int32} (hk : j + 1 = k) (hj : ¬ (((Int32.ofNat 6) >>> ((0 : Int32) &&& 31)) ≤ j)) (h : f_J0_charAt_5068e_64x3 j S = some r) : f_X12_isAmong_64x3_L2 S (N + 1) v j = (if r = v then some (1 : Int32) else f_X12_isAmong_64x3_L2 S N v k) := by
  subst hk
  rw [f_X12_isAmong_64x3_L2, if_neg hj, h]; rfl
theorem lr_am1 {S : AS} {v : Int32} : f_X12_isAmong_64x3 v S = some (lr_am v) := by
  unfold lr_am f_X12_isAmong_64x3
  have e : ax_F = 999993 + 1 + 1 + 1 + 1 + 1 + 1 + 1 := rfl
  have e6 : f_X12_isAmong_64x3_L2 S (999993 + 1) v 6 = some 0 := by
    rw [f_X12_isAmong_64x3_L2, if_pos (by decide)]
  rw [e, lr_as (k := 1) (by decide) (by decide) lr_ca0, lr_as (k := 2) (by decide) (by decide) lr_ca1, lr_as (k := 3) (by decide) (by decide) lr_ca2, lr_as (k := 4) (by decide) (by decide) lr_ca3, lr_as (k := 5) (by decide) (by decide) lr_ca4, lr_as (k := 6) (by decide) (by decide) lr_ca5, e6]
  repeat' split
  all_goals rfl
theorem lr_am2 : ∀ x, x < 257 → lr_am (lr_sg x) = (if (la_li x).isSome = true then (1 : Int32) else 0) := by decide +kernel
theorem lr_isA {S : AS} {x : Nat} (hx : x ≤ 256) : f_X12_isAmong_64x3 (lr_sg x) S = some (if (la_li x).isSome = true then (1 : Int32) else 0) := by rw [lr_am1, lr_am2 x (by omega)]
theorem lr_li_c {x k : Nat} (h : la_li x = some k) : x = lr_ch k := by
  unfold la_li at h
  repeat' split at h
  all_goals first | (rename_i hh; cases h; exact hh) | cases h
/-! numbers -/
theorem lr_nu_b {b : Nat → Nat} {n : Nat} : ∀ k p v j, j + k = 4 → v < 10 ^ j → (la_nu b n k p v).1 < 10000
  | 0, p, v, j, h, hv => by
    obtain rfl : j = 4 := by omega
    exact hv
  | k + 1, p, v, j, h, hv => by
    unfold la_nu
    split
    · rename_i q
      refine lr_nu_b k _ _ (j + 1) (by omega) ?_
      have : b p ≤ 57 := by unfold la_di at q; simp at q; omega
      rw [Nat.pow_succ]; omega
    · have : 10 ^ j ≤ 10 ^ 4 := Nat.pow_le_pow_right (by omega) (by omega)
      show v < 10000
      omega
theorem lr_dv (v x : Nat) (h1 : x < 58) (h2 : 48 ≤ x) : (((10 : Int32) * Int32.ofNat v) + lr_by x) - (48 : Int32) = Int32.ofNat (10 * v + (x - 48)) := by
  rw [lr_bdv x h1 h2]
  show Int32.ofNat 10 * Int32.ofNat v + _ - Int32.ofNat 48 = _
  rw [← Int32.ofNat_mul, la_ad, (by omega : 10 * v + x = (10 * v + (x - 48)) + 48), ← la_ad]
  exact Int32.add_sub_cancel ..
theorem lr_num (hT : lr_Tp b n T i A) {rec : Nat → Int32 → Int32 → AS → Option (Int32 × AS)} : ∀ k N p v j, j + k = 4 → p ≤ n → k < N → f_X12_atom_L90 rec N (Int32.ofNat v) (Int32.ofNat j) (lr_st T (Int32.ofNat p) (Int32.ofInt (-1)) d g w) = (if la_di b n (la_nu b n k p v).2 = true then some (0, lr_st T (Int32.ofNat (la_nu b n k p v).2) (Int32.ofNat (la_nu b n k p v).2) d g w) else some (Int32.ofNat (la_nu b n k p v).1, lr_st T (Int32.ofNat (la_nu b n k p v).2) (Int32.ofInt (-1)) d g w))
  | 0, N + 1, p, v, j, hj, hp, _ => by
    obtain rfl : j = 4 := by omega
    rw [f_X12_atom_L90, lr_isD hT hp]
    simp only [Option.bind_some]
    have e0 : la_nu b n 0 p v = (v, p) := rfl
    rw [e0]
    by_cases q : la_di b n p = true
    · rw [if_pos q, if_pos q, if_neg (by decide), lr_g11, if_pos rfl, if_pos (by decide), lr_fails, ax_bu_s]
    · rw [if_neg q, if_neg q, if_pos rfl]
  | k + 1, N + 1, p, v, j, hj, hp, hN => by
    have h4 : ¬ (Int32.ofNat j = (4 : Int32)) := fun e => by
      have := la_inj (q := 4) (by omega) (by omega) e
      omega
    rw [f_X12_atom_L90, lr_isD hT hp]
    simp only [Option.bind_some]
    by_cases q : la_di b n p = true
    · have q1 : p < n ∧ 48 ≤ b p ∧ b p ≤ 57 := by unfold la_di at q; simp at q; omega
      have hT' := hT
      obtain ⟨h240, h9, h8, hx, hn, hA, hb, hb1⟩ := hT
      rw [if_pos q, if_neg (by decide), lr_g11, if_pos rfl, if_neg h4]
      simp only [ax_gd, lr_g8, lr_g10, h8, lr_gx, hx, lr_gn, la_ad, la_in (by omega : A + p < ax_ln T 44 i) (by omega : A + p < 1000000), la_nc (by omega : A + p < 1000000), lr_ga, hb _ q1.1, if_true, ax_let, lr_s10, la_a1]
      rw [lr_dv v _ (by omega) (by omega), lr_num hT' k N (p + 1) _ (j + 1) (by omega) (by omega) (by omega)]
      have e : la_nu b n (k + 1) p v = la_nu b n k (p + 1) (10 * v + (b p - 48)) := by
        conv => lhs; unfold la_nu
        exact if_pos q
      rw [e]
    · have e : la_nu b n (k + 1) p v = (v, p) := by
        unfold la_nu
        exact if_neg q
      rw [e, if_neg q, if_pos rfl, if_neg q]
theorem lr_num0 (hT : lr_Tp b n T i A) {rec : Nat → Int32 → Int32 → AS → Option (Int32 × AS)} {p : Nat} (hp : p ≤ n) : f_X12_atom_L90 rec ax_F 0 0 (lr_st T (Int32.ofNat p) (Int32.ofInt (-1)) d g w) = (if la_di b n (la_nu b n 4 p 0).2 = true then some (0, lr_st T (Int32.ofNat (la_nu b n 4 p 0).2) (Int32.ofNat (la_nu b n 4 p 0).2) d g w) else some (Int32.ofNat (la_nu b n 4 p 0).1, lr_st T (Int32.ofNat (la_nu b n 4 p 0).2) (Int32.ofInt (-1)) d g w)) := by
  have q := lr_num (d := d) (g := g) (w := w) (rec := rec) hT 4 ax_F p 0 0 rfl hp (by show 4 < 1000000; omega)
  have z0 : Int32.ofNat 0 = (0 : Int32) := rfl
  rw [z0] at q
  exact q
end
/-! clamps -/
theorem lr_wi {x : Int64} {S : AS} : f_X12_within x S = some (la_cl x) := by
  unfold f_X12_within f_J9_min_f86c9 f_J9_max_f86c9 la_cl
  simp only [lg_cmp_le, lg_cmp_ge, lg_cmp_gt, lg_cmp_lt]
  by_cases h1 : x < 1000000
  · have h2 : x ≤ 1000000 := Int64.le_of_lt h1
    rw [if_pos h1, if_pos h2]
    simp only [Option.bind_some]
    by_cases h3 : (-1000000 : Int64) < x
    · rw [if_pos h3, if_pos (Int64.le_of_lt h3)]; rfl
    · rw [if_neg h3]
      by_cases h4 : (-1000000 : Int64) ≤ x
      · have e : x = -1000000 := Int64.le_antisymm (Int64.not_lt.mp h3) h4
        rw [if_pos h4, e]; rfl
      · rw [if_neg h4]; rfl
  · rw [if_neg h1]
    simp only [Option.bind_some]
    rw [if_pos (by decide : (-1000000 : Int64) < 1000000)]
    by_cases h2 : x ≤ 1000000
    · have e : x = 1000000 := Int64.le_antisymm h2 (Int64.not_lt.mp h1)
      rw [e]; rfl
    · rw [if_neg h2]; rfl
theorem lr_cln {v : Nat} (h : v < 10000) : la_cl (Int32.ofNat v).toInt64 = Int32.ofNat v := by
  have q : ∀ v, v < 10000 → la_cl (Int32.ofNat v).toInt64 = Int32.ofNat v := by
    intro v h
    unfold la_cl
    have e : (Int32.ofNat v).toInt64.toInt = v := by rw [Int32.toInt_toInt64, la_ti (by omega)]
    rw [if_pos ((lg_cmp_le _ _).mpr (by rw [Int64.le_iff_toInt_le, e]; show (v : Int) ≤ 1000000; omega)), if_pos ((lg_cmp_ge _ _).mpr (by rw [Int64.le_iff_toInt_le, e]; show (-1000000 : Int) ≤ v; omega))]
    exact Int32.toInt32_toInt64 _
  exact q v h

/-! THE CLASS reads a law: its state in closed form -/
def lc_st (S : AS) (y : Nat) (p φ L : Int32) (c : Nat → Int32) : AS := ((fun a b j => if a = 10 ∧ b = 0 ∧ j = 2 then p else if a = 10 ∧ b = 0 ∧ j = 3 then φ else if a = 5 ∧ b = y ∧ j = 2 then L else S.1 a b j), S.2.1, S.2.2.1, S.2.2.2.1, (fun a b j => if a = 30 ∧ b = y then c j else S.2.2.2.2.1 a b j), S.2.2.2.2.2)
def lc_Tp (b : Nat → Nat) (n : Nat) (S : AS) : Prop := n ≤ 240 ∧ ax_fi S 10 0 1 = Int32.ofNat n ∧ (∀ p, p < n → ax_ai S 40 0 p = Int32.ofNat (b p)) ∧ (∀ p, p < n → 1 ≤ b p ∧ b p ≤ 255)
theorem la_inj {p q : Nat} (h : p < 1000000) (g : q < 1000000) (e : Int32.ofNat p = Int32.ofNat q) : p = q := by
  have := congrArg Int32.toNatClampNeg e
  rwa [la_nc h, la_nc g] at this
section
variable {b : Nat → Nat} {n : Nat} {S : AS} {y : Nat} {p φ L v : Int32} {c : Nat → Int32}
theorem lc_g2 : ax_fi (lc_st S y p φ L c) 10 0 2 = p := by simp [ax_fi, lc_st]
theorem lc_g3 : ax_fi (lc_st S y p φ L c) 10 0 3 = φ := by simp [ax_fi, lc_st]
theorem lc_g1 : ax_fi (lc_st S y p φ L c) 10 0 1 = ax_fi S 10 0 1 := by simp [ax_fi, lc_st]
theorem lc_gl : ax_fi (lc_st S y p φ L c) 5 y 2 = L := by simp [ax_fi, lc_st]
theorem lc_gb : ax_ai (lc_st S y p φ L c) 40 0 = ax_ai S 40 0 := by funext j; simp [ax_ai, lc_st]
theorem lc_gc : ax_ai (lc_st S y p φ L c) 30 y = c := by funext j; simp [ax_ai, lc_st]
theorem lc_s2 : ax_sfi (lc_st S y p φ L c) 10 0 2 v = lc_st S y v φ L c := by
  unfold ax_sfi lc_st ax_u3
  refine Prod.ext (funext fun a => funext fun b => funext fun j => ?_) rfl
  dsimp only
  repeat' split
  all_goals first | rfl | (exfalso; omega)
theorem lc_s3 : ax_sfi (lc_st S y p φ L c) 10 0 3 v = lc_st S y p v L c := by
  unfold ax_sfi lc_st ax_u3
  refine Prod.ext (funext fun a => funext fun b => funext fun j => ?_) rfl
  dsimp only
  repeat' split
  all_goals first | rfl | (exfalso; omega)
theorem lc_sl : ax_sfi (lc_st S y p φ L c) 5 y 2 v = lc_st S y p φ v c := by
  unfold ax_sfi lc_st ax_u3
  refine Prod.ext (funext fun a => funext fun b => funext fun j => ?_) rfl
  dsimp only
  repeat' split
  all_goals first | rfl | (exfalso; omega)
theorem lc_sc {l : Nat} : ax_sai (lc_st S y p φ L c) 30 y l v = lc_st S y p φ L (fun i => if i = l then v else c i) := by
  unfold ax_sai lc_st ax_u3
  refine Prod.ext rfl (Prod.ext rfl (Prod.ext rfl (Prod.ext rfl (Prod.ext (funext fun a => funext fun b => funext fun j => ?_) rfl))))
  dsimp only
  repeat' split
  all_goals first | rfl | (exfalso; omega)
theorem lc_skb {p : Nat} (h : p < n) (hb : b p = 32) : la_sk b n p = la_sk b n (p + 1) := by
  conv => lhs; unfold la_sk
  exact dif_pos ⟨h, hb⟩
theorem lc_sks {p : Nat} (h : ¬ (p < n ∧ b p = 32)) : la_sk b n p = p := by
  unfold la_sk; exact dif_neg h
def lc_sg (x : Nat) : Int32 := Int32.ofNat (x % 256)
theorem lc_ne {x : Nat} (q : Nat) (hx : x ≤ 256) (h : x ≠ q) (h0 : 0 < q) (h1 : q < 256) : lc_sg x ≠ Int32.ofNat q := fun e => by
  have := la_inj (by omega) (by omega) e
  omega
theorem lc_by_le (hT : lc_Tp b n S) {p : Nat} : la_by b n p ≤ 256 := by
  unfold la_by; split
  · rename_i h; have := hT.2.2.2 _ h; omega
  · omega
theorem lc_by_sk {p : Nat} : la_by b n (la_sk b n p) = la_by b n p := by unfold la_by; rw [la_sk_s]
theorem lc_pk (hT : lc_Tp b n S) (K : AS → Option (Int32 × AS)) : ∀ N p, p ≤ n → n - p < N → f_X10_peek_L10 K N (lc_st S y (Int32.ofNat p) φ L c) = K (lc_st S y (Int32.ofNat (la_sk b n p)) φ L c)
  | 0, p, _, h => absurd h (Nat.not_lt_zero _)
  | N + 1, p, hp, h => by
    have h240 := hT.1
    rw [f_X10_peek_L10, lc_g1, lc_g2, hT.2.1]
    by_cases g : p < n
    · have h1 : ¬ (Int32.ofNat n ≤ Int32.ofNat p) := by rw [la_le (by omega) (by omega)]; omega
      rw [if_neg h1]
      simp only [ax_gd, la_in (by omega : p < 240) (by omega : p < 1000000), la_nc (by omega : p < 1000000), lc_gb, hT.2.2.1 p g, if_true]
      by_cases g2 : b p = 32
      · rw [if_pos (by rw [g2]; rfl)]
        simp only [ax_let, lc_s2, la_a1]
        rw [lc_pk hT K N (p + 1) (by omega) (by omega), lc_skb g g2]
      · have h2 : ¬ (Int32.ofNat (b p) = (32 : Int32)) := fun e => g2 (la_inj (q := 32) (by have := (hT.2.2.2 p g).2; omega) (by omega) e)
        rw [if_neg h2, lc_sks (fun q => g2 q.2)]
    · rw [if_pos ((la_le (by omega) (by omega)).mpr (by omega)), lc_sks (fun q => g q.1)]
theorem lc_peek (hT : lc_Tp b n S) {p : Nat} (hp : p ≤ n) : f_X10_peek (lc_st S y (Int32.ofNat p) (Int32.ofInt (-1)) L c) = some (lc_sg (la_by b n p), lc_st S y (Int32.ofNat (la_sk b n p)) (Int32.ofInt (-1)) L c) := by
  have s1 := la_sk_n (b := b) hp
  have h240 := hT.1
  unfold f_X10_peek
  rw [lc_g3, if_pos rfl, lc_pk hT _ ax_F p hp (by show _ < 1000000; omega)]
  simp only [lc_g1, lc_g2, hT.2.1]
  unfold la_by
  by_cases g : la_sk b n p < n
  · have h1 : ¬ (Int32.ofNat n ≤ Int32.ofNat (la_sk b n p)) := by rw [la_le (by omega) (by omega)]; omega
    rw [if_neg h1, if_pos g]
    simp only [ax_gd, la_in (by omega : la_sk b n p < 240) (by omega : la_sk b n p < 1000000), la_nc (by omega : la_sk b n p < 1000000), lc_gb, hT.2.2.1 _ g, if_true, lc_sg]
    rw [Nat.mod_eq_of_lt (by have := hT.2.2.2 _ g; omega)]
  · rw [if_pos ((la_le (by omega) (by omega)).mpr (by omega)), if_neg g]; rfl
theorem lc_peekD (hφ : φ ≠ Int32.ofInt (-1)) : f_X10_peek (lc_st S y p φ L c) = some (0, lc_st S y p φ L c) := by
  unfold f_X10_peek; rw [lc_g3, if_neg hφ]
theorem lc_pass (hT : lc_Tp b n S) {p : Nat} (hp : p < n) : f_X10_pass (lc_st S y (Int32.ofNat p) φ L c) = some (lc_st S y (Int32.ofNat (p + 1)) φ L c) := by
  have h240 := hT.1
  have h1 : ¬ (Int32.ofNat n ≤ Int32.ofNat p) := by rw [la_le (by omega) (by omega)]; omega
  unfold f_X10_pass
  rw [lc_g1, lc_g2, hT.2.1, if_neg h1]
  simp only [ax_let, lc_s2, la_a1]
theorem lc_fail : f_X10_fail (lc_st S y p (Int32.ofInt (-1)) L c) = some (lc_st S y p p L c) := by
  unfold f_X10_fail; rw [lc_g3, if_pos rfl, lc_g2]
  simp only [ax_let, lc_s3]
theorem lc_failD (hφ : φ ≠ Int32.ofInt (-1)) : f_X10_fail (lc_st S y p φ L c) = some (lc_st S y p φ L c) := by
  unfold f_X10_fail; rw [lc_g3, if_neg hφ]
theorem lc_dem (hT : lc_Tp b n S) {p q : Nat} {C : Int32} (hp : p ≤ n) (h : la_by b n p = q) (hq : q < 256) (hC : lc_sg q = C) : f_X10_demand C (lc_st S y (Int32.ofNat p) (Int32.ofInt (-1)) L c) = some (lc_st S y (Int32.ofNat (la_sk b n p + 1)) (Int32.ofInt (-1)) L c) := by
  unfold f_X10_demand
  rw [lc_peek hT hp, ax_bu_s, h, if_pos hC, lc_pass hT (la_by_n h hq)]; rfl
theorem lc_demF (hT : lc_Tp b n S) {p : Nat} {C : Int32} (hp : p ≤ n) (h : lc_sg (la_by b n p) ≠ C) : f_X10_demand C (lc_st S y (Int32.ofNat p) (Int32.ofInt (-1)) L c) = some (lc_st S y (Int32.ofNat (la_sk b n p)) (Int32.ofNat (la_sk b n p)) L c) := by
  unfold f_X10_demand
  rw [lc_peek hT hp, ax_bu_s, if_neg h, lc_fail]; rfl
theorem lc_demD (hφ : φ ≠ Int32.ofInt (-1)) {C : Int32} (hC : (0 : Int32) ≠ C) : f_X10_demand C (lc_st S y p φ L c) = some (lc_st S y p φ L c) := by
  unfold f_X10_demand
  rw [lc_peekD hφ, ax_bu_s, if_neg hC, lc_failD hφ]; rfl
def lc_en (q : Int32 × Int32) : Int32 := q.1 ||| (q.2 <<< ((8 : Int32) &&& 31))
def lc_wr : List (Int32 × Int32) → (Nat → Int32) → Nat → (Nat → Int32)
  | [], c, _ => c
  | q :: r, c, l => lc_wr r (fun i => if i = l then lc_en q else c i) (l + 1)
theorem lc_wr_ap : ∀ (a b : List (Int32 × Int32)) (c : Nat → Int32) (l : Nat), lc_wr (a ++ b) c l = lc_wr b (lc_wr a c l) (l + a.length)
  | [], b, c, l => rfl
  | q :: r, b, c, l => by
    simp only [List.cons_append, lc_wr, List.length_cons]
    rw [lc_wr_ap r b, (by omega : l + (r.length + 1) = l + 1 + r.length)]
theorem lc_emit {l : Nat} {o v : Int32} (hl : l < 241) : f_X5_emit y o v (lc_st S y p φ (Int32.ofNat l) c) = some (lc_st S y p φ (Int32.ofNat (l + 1)) (lc_wr [(o, v)] c l)) := by
  have h1 : ¬ (Int32.ofNat 241 ≤ Int32.ofNat l) := by rw [la_le (by omega) (by omega)]; omega
  unfold f_X5_emit
  rw [lc_gl, if_neg h1]
  simp only [ax_gd, la_in hl (by omega : l < 1000000), la_nc (by omega : l < 1000000), if_true, ax_let, lc_sc, lc_gl, lc_sl, la_a1]
  rfl
theorem lc_emitE {l : Nat} {o v : Int32} (hl : l ≤ 241) : ∃ l' c', l' ≤ 241 ∧ f_X5_emit y o v (lc_st S y p φ (Int32.ofNat l) c) = some (lc_st S y p φ (Int32.ofNat l') c') := by
  by_cases h : l < 241
  · exact ⟨l + 1, _, by omega, lc_emit h⟩
  · have h1 : Int32.ofNat 241 ≤ Int32.ofNat l := by rw [la_le (by omega) (by omega)]; omega
    refine ⟨l, c, hl, ?_⟩
    unfold f_X5_emit
    rw [lc_gl, if_pos h1]
/-! letters and digits -/
theorem lc_cn : ∀ x, x < 257 → ((lc_sg x).toUInt32 % 65536).toInt32 = lc_sg x := by decide +kernel
theorem lc_ce : ∀ x, x < 257 → ¬ (lc_sg x < 0) ∧ ¬ ((255 : Int32) < lc_sg x) := by decide +kernel
def lc_li (x : Nat) : Int32 := match la_li x with
  | some k => Int32.ofNat k
  | none => Int32.ofInt (-1)
def lc_ch (v : Int32) : Int32 := if (110 : Int32) = v then 0 else if (112 : Int32) = v then 1 else if (116 : Int32) = v then 2 else if (103 : Int32) = v then 3 else if (115 : Int32) = v then 4 else if (100 : Int32) = v then 5 else Int32.ofInt (-1)
theorem lc_ch_e : ∀ x, x < 257 → lc_ch (lc_sg x).toInt8.toInt32 = lc_li x := by decide +kernel
theorem lc_ix1 {S : AS} {v : Int32} : f_J1_indexOfChar_4cfef_65_L7 S ax_F 3 6 v 0 = some (lc_ch v) := by
  unfold lc_ch
  show (if (110 : Int32) = v then some (0 : Int32) else if (112 : Int32) = v then some (1 : Int32) else if (116 : Int32) = v then some (2 : Int32) else if (103 : Int32) = v then some (3 : Int32) else if (115 : Int32) = v then some (4 : Int32) else if (100 : Int32) = v then some (5 : Int32) else some (Int32.ofInt (-1))) = _
  repeat' split
  all_goals rfl
theorem lc_ix {S : AS} {x : Nat} (hx : x ≤ 256) : f_J0_indexOf_0f7a4_64x3 ((lc_sg x).toUInt32 % 65536).toInt32 S = some (lc_li x) := by
  rw [lc_cn x (by omega), ← lc_ch_e x (by omega), ← lc_ix1 (S := S)]
  have e1 : f_J9_max_7cf53 0 0 S = some 0 := by unfold f_J9_max_7cf53; split <;> rfl
  have e2 : f_J9_min_7cf53 ((Int32.ofNat 6) >>> ((0 : Int32) &&& 31)) (Int32.ofNat (ax_ln S 65 3)) S = some 6 := by
    have q1 : (Int32.ofNat 6) >>> ((0 : Int32) &&& 31) = 6 := by decide
    have q2 : Int32.ofNat (ax_ln S 65 3) = 6 := rfl
    rw [q1, q2]; unfold f_J9_min_7cf53; split <;> rfl
  have e3 : f_J1_canEncode_9a6ad (lc_sg x) S = some 1 := by
    unfold f_J1_canEncode_9a6ad
    rw [if_neg (lc_ce x (by omega)).1, if_neg (lc_ce x (by omega)).2]
  unfold f_J0_indexOf_0f7a4_64x3 f_J0_indexOf_7cf53_64x3 f_J1_indexOf_4cfef_65
  rw [e3, e1, e2]
  simp only [Option.bind_some]
  rw [if_neg (by decide), if_pos (by decide)]
  unfold f_J1_indexOfChar_4cfef_65
  simp only [ax_let]
  cases f_J1_indexOfChar_4cfef_65_L7 S ax_F 3 6 (lc_sg x).toInt8.toInt32 0 <;> rfl
theorem lc_dg : ∀ x, x < 257 → ((if lc_sg x < (48 : Int32) then some (0 : Int32) else (if (57 : Int32) < lc_sg x then some (0 : Int32) else some (1 : Int32))) = some (if 48 ≤ x ∧ x ≤ 57 then (1 : Int32) else 0)) := by decide +kernel
theorem lc_isD {S : AS} {x : Nat} (hx : x ≤ 256) : f_X10_isDigit (lc_sg x) S = some (if 48 ≤ x ∧ x ≤ 57 then (1 : Int32) else 0) := lc_dg x (by omega)
/-- the sign at p itself -/
def lc_at (b : Nat → Nat) (n p : Nat) : Nat := if p < n then b p else 256
theorem lc_at_le (hT : lc_Tp b n S) {p : Nat} : lc_at b n p ≤ 256 := by
  unfold lc_at; split
  · rename_i h; have := hT.2.2.2 _ h; omega
  · omega
theorem lc_at_d {p : Nat} : (48 ≤ lc_at b n p ∧ lc_at b n p ≤ 57) ↔ la_di b n p = true := by
  unfold lc_at la_di
  by_cases h : p < n
  · simp [h]
  · simp [h]
theorem lc_here (hT : lc_Tp b n S) {p : Nat} (hp : p ≤ n) : f_X10_here (lc_st S y (Int32.ofNat p) φ L c) = some (lc_sg (lc_at b n p)) := by
  have h240 := hT.1
  unfold f_X10_here lc_at
  rw [lc_g1, lc_g2, hT.2.1]
  by_cases g : p < n
  · have h1 : ¬ (Int32.ofNat n ≤ Int32.ofNat p) := by rw [la_le (by omega) (by omega)]; omega
    rw [if_neg h1, if_pos g]
    simp only [ax_gd, la_in (by omega : p < 240) (by omega : p < 1000000), la_nc (by omega : p < 1000000), lc_gb, hT.2.2.1 _ g, if_true, lc_sg]
    rw [Nat.mod_eq_of_lt (by have := hT.2.2.2 _ g; omega)]
  · rw [if_pos ((la_le (by omega) (by omega)).mpr (by omega)), if_neg g]; rfl
theorem lc_hd (hT : lc_Tp b n S) {p : Nat} : f_X10_isDigit (lc_sg (lc_at b n p)) S = some (if la_di b n p = true then (1 : Int32) else 0) := by
  rw [lc_isD (lc_at_le hT)]
  by_cases h : la_di b n p = true
  · rw [if_pos h, if_pos (lc_at_d.mpr h)]
  · rw [if_neg h, if_neg (fun q => h (lc_at_d.mp q))]
theorem lc_dv : ∀ v x, x < 58 → 48 ≤ x → (Int32.ofNat v * (10 : Int32)) + (lc_sg x - (48 : Int32)) = Int32.ofNat (10 * v + (x - 48)) := by
  intro v x h1 h2
  have e : lc_sg x - (48 : Int32) = Int32.ofNat (x - 48) := by
    have : ∀ x, x < 58 → 48 ≤ x → lc_sg x - (48 : Int32) = Int32.ofNat (x - 48) := by decide +kernel
    exact this x h1 h2
  rw [e]
  show Int32.ofNat v * Int32.ofNat 10 + _ = _
  rw [← Int32.ofNat_mul, la_ad, Nat.mul_comm]
theorem lc_num (hT : lc_Tp b n S) (K : Int32 → AS → Option (Int32 × AS)) : ∀ k N p v j, j + k = 4 → p ≤ n → k < N → f_X10_number_L20 K N 4 (Int32.ofNat v) (Int32.ofNat j) (lc_st S y (Int32.ofNat p) φ L c) = K (Int32.ofNat (la_nu b n k p v).1) (lc_st S y (Int32.ofNat (la_nu b n k p v).2) φ L c)
  | 0, N + 1, p, v, j, hj, hp, _ => by
    obtain rfl : j = 4 := by omega
    rw [f_X10_number_L20, if_pos (by decide)]; rfl
  | k + 1, N + 1, p, v, j, hj, hp, hN => by
    have h1 : ¬ ((4 : Int32) ≤ Int32.ofNat j) := by
      show ¬ (Int32.ofNat 4 ≤ Int32.ofNat j)
      rw [la_le (by omega) (by omega)]; omega
    rw [f_X10_number_L20, if_neg h1, lc_here hT hp]
    simp only [Option.bind_some]
    have hd : f_X10_isDigit (lc_sg (lc_at b n p)) (lc_st S y (Int32.ofNat p) φ L c) = some (if la_di b n p = true then (1 : Int32) else 0) := lc_hd hT
    rw [hd]
    simp only [Option.bind_some]
    by_cases g : la_di b n p = true
    · have g1 := lc_at_d.mpr g
      have g2 : p < n := by unfold la_di at g; simp at g; omega
      rw [if_pos g, if_neg (by decide)]
      simp only [ax_let, lc_g2, lc_s2, la_a1]
      rw [lc_dv v _ (by omega) (by omega), lc_num hT K k N (p + 1) _ (j + 1) (by omega) (by omega) (by omega)]
      have e : lc_at b n p = b p := if_pos g2
      conv => rhs; unfold la_nu
      rw [if_pos g, e]
    · rw [if_neg g, if_pos rfl]
      conv => rhs; unfold la_nu
      rw [if_neg g]
end

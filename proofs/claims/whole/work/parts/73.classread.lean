/-! THE CLASS reads a law as the relation says -/
def lc_Ok (S : AS) (n y : Nat) (r : Option AS) (L : Nat) (c : Nat → Int32) : la_O → Prop
  | .inl f => f ≤ n ∧ ∃ p' l' c', l' ≤ 241 ∧ r = some (lc_st S y p' (Int32.ofNat f) (Int32.ofNat l') c')
  | .inr (e, s) => r = some (lc_st S y (Int32.ofNat s) (Int32.ofInt (-1)) (Int32.ofNat (L + (la_cd e).length)) (lc_wr (la_cd e) c L)) ∧ L + (la_cd e).length ≤ s ∧ s ≤ n
theorem lc_nd {f : Nat} (h : f ≤ 240) : Int32.ofNat f ≠ Int32.ofInt (-1) := fun e => by
  have h1 : ¬ (Int32.ofInt (-1) < 0) := e ▸ la_n0 (by omega)
  exact h1 (by decide)
def lc_cmp (rec : Nat → Nat → Int32 → Int32 → AS → Option AS) (y : Nat) (d : Int32) (S11 : AS) : Option AS := ax_bu (f_X10_peek S11) (fun r16 S13 => (f_X5_relationOf r16 S13).bind (fun r20 => if r20 = (Int32.ofInt (-1)) then (f_X10_fail S13).bind (fun S31 => some S31) else (f_X10_pass S13).bind (fun S22 => (rec 3 y d (0 : Int32) S22).bind (fun S25 => (f_X5_emit y r20 (0 : Int32) S25).bind (fun S28 => some S28)))))
section
variable {rec : Nat → Nat → Int32 → Int32 → AS → Option AS} {y : Nat} {d : Int32} {S S1 : AS}
theorem lc_n10 : ((1 : Int32) = 0) = False := eq_false (by decide)
theorem lc_n43 : ((40 : Int32) = 33) = False := eq_false (by decide)
theorem lc_u1 (h : f_X10_peek S = some (33, S1)) (hd : d < 6) : b_X5_readUnit rec y d 0 S = (f_X10_pass S1).bind (fun A => (rec 2 y (d + 1) 0 A).bind (fun B => (f_X5_emit y 11 0 B).bind (fun C => some C))) := by
  unfold b_X5_readUnit
  rw [h, ax_bu_s]
  simp only [ax_let, if_true, if_false, lc_n10, hd]
theorem lc_u2 (h : f_X10_peek S = some (40, S1)) (hd : d < 6) : b_X5_readUnit rec y d 0 S = (f_X10_pass S1).bind (fun A => (rec 0 y (d + 1) 0 A).bind (fun B => (f_X10_demand 41 B).bind (fun C => some C))) := by
  unfold b_X5_readUnit
  rw [h, ax_bu_s]
  simp only [ax_let, if_true, if_false, lc_n10, lc_n43, hd]
theorem lc_u3 {r : Int32} (h : f_X10_peek S = some (r, S1)) (h1 : r ≠ 33) (h2 : r ≠ 40) : b_X5_readUnit rec y d 0 S = (rec 3 y d 0 S1).bind (lc_cmp rec y d) := by
  unfold b_X5_readUnit
  rw [h, ax_bu_s]
  simp only [ax_let, if_true, if_false, lc_n10, h1, h2]
  rfl
theorem lc_u4 {r : Int32} (h : f_X10_peek S = some (r, S1)) (h1 : r = 33 ∨ r = 40) (hd : ¬ d < 6) : b_X5_readUnit rec y d 0 S = (f_X10_fail S1).bind (fun A => some A) := by
  unfold b_X5_readUnit
  rw [h, ax_bu_s]
  rcases h1 with h1 | h1 <;> subst h1 <;> simp only [ax_let, if_true, if_false, lc_n10, lc_n43, hd]
theorem lc_u5 {r : Int32} (h : f_X10_peek S = some (r, S1)) : b_X5_readUnit rec y d 1 S = lc_cmp rec y d S1 := by
  unfold b_X5_readUnit
  rw [h, ax_bu_s]
  simp only [ax_let, if_true, if_false, lc_n10]
  rfl
theorem lc_t0 {K : AS → Option AS} {N : Nat} {x i : Int32} (h1 : x ≠ 42) (h2 : x ≠ 47) : f_X5_readTerm_L14 rec K (N + 1) y d x i S = K S := by
  rw [f_X5_readTerm_L14]
  rw [if_neg h1, if_neg h2]
  split <;> rfl
theorem lc_t1 {K : AS → Option AS} {N : Nat} {x i o : Int32} (hi : ¬ ((240 : Int32) ≤ i)) (hx : (x = 42 ∧ o = 4) ∨ (x = 47 ∧ o = 5)) : f_X5_readTerm_L14 rec K (N + 1) y d x i S = (f_X10_pass S).bind (fun A => (rec 5 y d 0 A).bind (fun B => (f_X5_emit y o 0 B).bind (fun C => ax_bu (f_X10_peek C) (fun r D => f_X5_readTerm_L14 rec K N y d r (i + 1) D)))) := by
  have n1 : ((47 : Int32) = 42) = False := eq_false (by decide)
  rw [f_X5_readTerm_L14, if_neg hi]
  rcases hx with ⟨h1, h2⟩ | ⟨h1, h2⟩ <;> subst h1 <;> subst h2 <;> simp only [ax_let, if_true, if_false, n1]
theorem lc_s0 {K : AS → Option AS} {N : Nat} {x i : Int32} (h1 : x ≠ 43) (h2 : x ≠ 45) : f_X5_readSum_L14 rec K (N + 1) y d x i S = K S := by
  rw [f_X5_readSum_L14]
  rw [if_neg h1, if_neg h2]
  split <;> rfl
theorem lc_s1 {K : AS → Option AS} {N : Nat} {x i o : Int32} (hi : ¬ ((240 : Int32) ≤ i)) (hx : (x = 43 ∧ o = 2) ∨ (x = 45 ∧ o = 3)) : f_X5_readSum_L14 rec K (N + 1) y d x i S = (f_X10_pass S).bind (fun A => (rec 4 y d 0 A).bind (fun B => (f_X5_emit y o 0 B).bind (fun C => ax_bu (f_X10_peek C) (fun r D => f_X5_readSum_L14 rec K N y d r (i + 1) D)))) := by
  have n1 : ((45 : Int32) = 43) = False := eq_false (by decide)
  rw [f_X5_readSum_L14, if_neg hi]
  rcases hx with ⟨h1, h2⟩ | ⟨h1, h2⟩ <;> subst h1 <;> subst h2 <;> simp only [ax_let, if_true, if_false, n1]
theorem lc_p0 {K : AS → Option AS} {N : Nat} {x i : Int32} (hi : ¬ ((240 : Int32) ≤ i)) (h : f_X10_peek S = some (x, S1)) (h1 : x ≠ 38) : f_X5_readTruth_L10 rec K (N + 1) y d i S = K S1 := by
  rw [f_X5_readTruth_L10, if_neg hi, h, ax_bu_s, if_neg h1]
theorem lc_p4 {K : AS → Option AS} {N : Nat} {i : Int32} (hi : (240 : Int32) ≤ i) : f_X5_readTruth_L10 rec K (N + 1) y d i S = K S := by
  rw [f_X5_readTruth_L10, if_pos hi]
theorem lc_p1 {K : AS → Option AS} {N : Nat} {i : Int32} (hi : ¬ ((240 : Int32) ≤ i)) (h : f_X10_peek S = some (38, S1)) : f_X5_readTruth_L10 rec K (N + 1) y d i S = (f_X10_pass S1).bind (fun A => (rec 2 y d 0 A).bind (fun B => (f_X5_emit y 9 0 B).bind (fun C => f_X5_readTruth_L10 rec K N y d (i + 1) C))) := by
  rw [f_X5_readTruth_L10, if_neg hi, h, ax_bu_s, if_pos rfl]
  rfl
theorem lc_c0 {K : AS → Option AS} {N : Nat} {x i : Int32} (hi : ¬ ((240 : Int32) ≤ i)) (h : f_X10_peek S = some (x, S1)) (h1 : x ≠ 124) : f_X5_readCondition_L10 rec K (N + 1) y d i S = K S1 := by
  rw [f_X5_readCondition_L10, if_neg hi, h, ax_bu_s, if_neg h1]
theorem lc_c4 {K : AS → Option AS} {N : Nat} {i : Int32} (hi : (240 : Int32) ≤ i) : f_X5_readCondition_L10 rec K (N + 1) y d i S = K S := by
  rw [f_X5_readCondition_L10, if_pos hi]
theorem lc_c1 {K : AS → Option AS} {N : Nat} {i : Int32} (hi : ¬ ((240 : Int32) ≤ i)) (h : f_X10_peek S = some (124, S1)) : f_X5_readCondition_L10 rec K (N + 1) y d i S = (f_X10_pass S1).bind (fun A => (rec 1 y d 0 A).bind (fun B => (f_X5_emit y 10 0 B).bind (fun C => f_X5_readCondition_L10 rec K N y d (i + 1) C))) := by
  rw [f_X5_readCondition_L10, if_neg hi, h, ax_bu_s, if_pos rfl]
  rfl
end
theorem lc_240 {i : Nat} (h : i < 240) : ¬ ((240 : Int32) ≤ Int32.ofNat i) := by
  show ¬ (Int32.ofNat 240 ≤ Int32.ofNat i)
  rw [la_le (by omega) (by omega)]; omega
theorem lc_FF : ax_F = 999999 + 1 := rfl
section
variable {b : Nat → Nat} {n : Nat} {S : AS} {y : Nat} {p φ L d : Int32} {c : Nat → Int32}
/-! behind a fault -/
theorem lc_dead5 (hφ : φ ≠ Int32.ofInt (-1)) {m : Nat} {w : Int32} : g_Law (m + 1) 5 y d w (lc_st S y p φ L c) = some (lc_st S y p φ L c) := by
  show b_X5_readAtom (g_Law m) y d _ = _
  unfold b_X5_readAtom
  rw [lc_peekD hφ, ax_bu_s]
  have e : f_J0_indexOf_0f7a4_64x3 ((0 : Int32).toUInt32 % 65536).toInt32 (lc_st S y p φ L c) = some (lc_li 256) := lc_ix (x := 256) (by omega)
  have e2 : f_X10_isDigit 0 (lc_st S y p φ L c) = some 0 := by unfold f_X10_isDigit; rw [if_pos (by decide)]
  rw [e]
  simp only [Option.bind_some]
  rw [if_pos (by decide : lc_li 256 < 0), e2]
  simp only [Option.bind_some, if_true]
  rw [if_neg (by decide : ¬ ((0 : Int32) = 91)), lc_failD hφ]
  rfl
theorem lc_dead4 (hφ : φ ≠ Int32.ofInt (-1)) {m : Nat} {w : Int32} : g_Law (m + 2) 4 y d w (lc_st S y p φ L c) = some (lc_st S y p φ L c) := by
  show b_X5_readTerm (g_Law (m + 1)) y d _ = _
  unfold b_X5_readTerm
  rw [lc_dead5 hφ]
  simp only [Option.bind_some]
  rw [lc_peekD hφ, ax_bu_s, lc_FF, lc_t0 (by decide) (by decide)]
theorem lc_dead3 (hφ : φ ≠ Int32.ofInt (-1)) {m : Nat} {w : Int32} : g_Law (m + 3) 3 y d w (lc_st S y p φ L c) = some (lc_st S y p φ L c) := by
  show b_X5_readSum (g_Law (m + 2)) y d _ = _
  unfold b_X5_readSum
  rw [lc_dead4 hφ]
  simp only [Option.bind_some]
  rw [lc_peekD hφ, ax_bu_s, lc_FF, lc_s0 (by decide) (by decide)]
/-! numbers -/
theorem lc_num0 (hT : lc_Tp b n S) (K : Int32 → AS → Option (Int32 × AS)) {p : Nat} (hp : p ≤ n) : f_X10_number_L20 K ax_F 4 0 0 (lc_st S y (Int32.ofNat p) φ L c) = K (Int32.ofNat (la_nu b n 4 p 0).1) (lc_st S y (Int32.ofNat (la_nu b n 4 p 0).2) φ L c) := lc_num hT K 4 ax_F p 0 0 rfl hp (by show 4 < 1000000; omega)
theorem lc_byd {p : Nat} (h : la_di b n (la_sk b n p) = true) : la_sk b n p < n ∧ la_by b n p = b (la_sk b n p) ∧ 48 ≤ la_by b n p ∧ la_by b n p ≤ 57 := by
  unfold la_di at h
  simp at h
  have e : la_by b n p = b (la_sk b n p) := if_pos h.1.1
  omega
theorem lc_bynd {p : Nat} (hb : la_sk b n p ≤ n) (h : la_di b n (la_sk b n p) = false) : ¬ (48 ≤ la_by b n p ∧ la_by b n p ≤ 57) := by
  unfold la_di at h
  unfold la_by
  split
  · simp at h; omega
  · omega
theorem lc_number (hT : lc_Tp b n S) {p v r : Nat} (hp : p ≤ n) (h : la_di b n (la_sk b n p) = true) (g : la_nu b n 4 (la_sk b n p) 0 = (v, r)) : f_X10_number 4 (lc_st S y (Int32.ofNat p) (Int32.ofInt (-1)) L c) = some (Int32.ofNat v, lc_st S y (Int32.ofNat r) (if la_di b n r = true then Int32.ofNat r else Int32.ofInt (-1)) L c) := by
  have s1 := la_sk_n (b := b) hp
  have n1 := la_nu_n (b := b) 4 (la_sk b n p) 0 s1.2
  have q := lc_byd h
  unfold f_X10_number
  rw [lc_peek hT hp, ax_bu_s, lc_isD (lc_by_le hT), if_pos q.2.2]
  simp only [Option.bind_some]
  rw [if_neg (by decide), lc_num0 hT _ s1.2]
  rw [g] at n1 ⊢
  dsimp only at n1 ⊢
  rw [lc_here hT n1.2]
  simp only [Option.bind_some]
  have hd : f_X10_isDigit (lc_sg (lc_at b n r)) (lc_st S y (Int32.ofNat r) (Int32.ofInt (-1)) L c) = some (if la_di b n r = true then (1 : Int32) else 0) := lc_hd hT
  rw [hd]
  simp only [Option.bind_some]
  by_cases e : la_di b n r = true
  · rw [if_pos e, if_pos e, if_neg (by decide), lc_fail]; rfl
  · rw [if_neg e, if_neg e, if_pos rfl]
/-! each kind -/
def lc_P (b : Nat → Nat) (n : Nat) (S : AS) (y : Nat) : Nat → la_T → Nat → Nat → la_O → Prop
  | 0, _, d, p, o => ∀ m L c, 1 + 3 * (6 - d) ≤ m → p ≤ n → d ≤ 6 → L ≤ p → lc_Ok S n y (g_Law m 5 y (Int32.ofNat d) 0 (lc_st S y (Int32.ofNat p) (Int32.ofInt (-1)) (Int32.ofNat L) c)) L c o
  | 1, _, d, p, o => ∀ m L c, 2 + 3 * (6 - d) ≤ m → p ≤ n → d ≤ 6 → L ≤ p → lc_Ok S n y (g_Law m 4 y (Int32.ofNat d) 0 (lc_st S y (Int32.ofNat p) (Int32.ofInt (-1)) (Int32.ofNat L) c)) L c o
  | 2, _, d, p, o => ∀ m L c, 3 + 3 * (6 - d) ≤ m → p ≤ n → d ≤ 6 → L ≤ p → lc_Ok S n y (g_Law m 3 y (Int32.ofNat d) 0 (lc_st S y (Int32.ofNat p) (Int32.ofInt (-1)) (Int32.ofNat L) c)) L c o
  | 3, _, d, p, o => ∀ m L c, 4 + 3 * (6 - d) ≤ m → p ≤ n → d ≤ 6 → L ≤ p → lc_Ok S n y (g_Law m 2 y (Int32.ofNat d) 0 (lc_st S y (Int32.ofNat p) (Int32.ofInt (-1)) (Int32.ofNat L) c)) L c o
  | 4, _, d, p, o => ∀ m L c, 5 + 3 * (6 - d) ≤ m → p ≤ n → d ≤ 6 → L ≤ p → lc_Ok S n y (g_Law m 1 y (Int32.ofNat d) 0 (lc_st S y (Int32.ofNat p) (Int32.ofInt (-1)) (Int32.ofNat L) c)) L c o
  | 5, _, d, p, o => ∀ m L c, 6 + 3 * (6 - d) ≤ m → p ≤ n → d ≤ 6 → L ≤ p → lc_Ok S n y (g_Law m 0 y (Int32.ofNat d) 0 (lc_st S y (Int32.ofNat p) (Int32.ofInt (-1)) (Int32.ofNat L) c)) L c o
  | 6, a, d, p, o => ∀ m N L c i, 1 + 3 * (6 - d) ≤ m → p ≤ n → d ≤ 6 → L + (la_cd a).length ≤ p → i ≤ p → n - p < N → lc_Ok S n y (f_X5_readTerm_L14 (g_Law m) (fun Z => some Z) N y (Int32.ofNat d) (lc_sg (la_by b n p)) (Int32.ofNat i) (lc_st S y (Int32.ofNat (la_sk b n p)) (Int32.ofInt (-1)) (Int32.ofNat (L + (la_cd a).length)) (lc_wr (la_cd a) c L))) L c o
  | 7, a, d, p, o => ∀ m N L c i, 2 + 3 * (6 - d) ≤ m → p ≤ n → d ≤ 6 → L + (la_cd a).length ≤ p → i ≤ p → n - p < N → lc_Ok S n y (f_X5_readSum_L14 (g_Law m) (fun Z => some Z) N y (Int32.ofNat d) (lc_sg (la_by b n p)) (Int32.ofNat i) (lc_st S y (Int32.ofNat (la_sk b n p)) (Int32.ofInt (-1)) (Int32.ofNat (L + (la_cd a).length)) (lc_wr (la_cd a) c L))) L c o
  | 8, a, d, p, o => ∀ m L c, 3 + 3 * (6 - d) ≤ m → p ≤ n → d ≤ 6 → L + (la_cd a).length ≤ p → lc_Ok S n y (lc_cmp (g_Law m) y (Int32.ofNat d) (lc_st S y (Int32.ofNat p) (Int32.ofInt (-1)) (Int32.ofNat (L + (la_cd a).length)) (lc_wr (la_cd a) c L))) L c o
  | 9, a, d, p, o => ∀ m N L c i, 4 + 3 * (6 - d) ≤ m → p ≤ n → d ≤ 6 → L + (la_cd a).length ≤ p → i ≤ p → n - p < N → lc_Ok S n y (f_X5_readTruth_L10 (g_Law m) (fun Z => some Z) N y (Int32.ofNat d) (Int32.ofNat i) (lc_st S y (Int32.ofNat p) (Int32.ofInt (-1)) (Int32.ofNat (L + (la_cd a).length)) (lc_wr (la_cd a) c L))) L c o
  | 10, a, d, p, o => ∀ m N L c i, 5 + 3 * (6 - d) ≤ m → p ≤ n → d ≤ 6 → L + (la_cd a).length ≤ p → i ≤ p → n - p < N → lc_Ok S n y (f_X5_readCondition_L10 (g_Law m) (fun Z => some Z) N y (Int32.ofNat d) (Int32.ofNat i) (lc_st S y (Int32.ofNat p) (Int32.ofInt (-1)) (Int32.ofNat (L + (la_cd a).length)) (lc_wr (la_cd a) c L))) L c o
  | _, _, _, _, _ => True
theorem lc_li_n {x : Nat} (h : la_li x = none) : lc_li x = Int32.ofInt (-1) := by unfold lc_li; rw [h]
theorem lc_li_s {x k : Nat} (h : la_li x = some k) : lc_li x = Int32.ofNat k := by unfold lc_li; rw [h]
theorem lc_li_d {x : Nat} (h : 48 ≤ x ∧ x ≤ 57) : la_li x = none := by
  have : ∀ x, x < 58 → 48 ≤ x → la_li x = none := by decide +kernel
  exact this x (by omega) h.1
theorem lc_tb_l {o : Int32} {a e : la_T} {L : Nat} : L + (la_cd (la_tb o a e)).length = L + (la_cd a).length + (la_cd e).length + 1 := by rw [la_bin_l]; omega
theorem lc_tb_w {o : Int32} {a e : la_T} {L : Nat} : lc_wr (la_cd (la_tb o a e)) c L = lc_wr [(o, 0)] (lc_wr (la_cd e) (lc_wr (la_cd a) c L) (L + (la_cd a).length)) (L + (la_cd a).length + (la_cd e).length) := by
  show lc_wr (la_cd a ++ (la_cd e ++ [(o, 0)])) c L = _
  rw [lc_wr_ap, lc_wr_ap]
theorem lc_tg_l {e : la_T} {L : Nat} : L + (la_cd (la_tg e)).length = L + (la_cd e).length + 1 := by rw [la_neg_l]; omega
theorem lc_tg_w {e : la_T} {L : Nat} : lc_wr (la_cd (la_tg e)) c L = lc_wr [(11, 0)] (lc_wr (la_cd e) c L) (L + (la_cd e).length) := by
  show lc_wr (la_cd e ++ [(11, 0)]) c L = _
  rw [lc_wr_ap]
theorem lc_rl_n {S : AS} {x : Nat} (hx : x ≤ 256) (h : la_rl x = none) : f_X5_relationOf (lc_sg x) S = some (Int32.ofInt (-1)) := by
  have q : ∀ x, x < 257 → la_rl x = none → (if lc_sg x = (61 : Int32) then some (6 : Int32) else (if lc_sg x = (60 : Int32) then some (7 : Int32) else (if lc_sg x = (62 : Int32) then some (8 : Int32) else some (Int32.ofInt (-1))))) = some (Int32.ofInt (-1)) := by decide +kernel
  exact q x (by omega) h
theorem lc_rl_s {S : AS} {x : Nat} {k : Int32} (hx : x ≤ 256) (h : la_rl x = some k) : f_X5_relationOf (lc_sg x) S = some k := by
  have q : ∀ x, x < 257 → (la_rl x).isSome = true → (if lc_sg x = (61 : Int32) then some (6 : Int32) else (if lc_sg x = (60 : Int32) then some (7 : Int32) else (if lc_sg x = (62 : Int32) then some (8 : Int32) else some (Int32.ofInt (-1))))) = la_rl x := by decide +kernel
  exact (q x (by omega) (by rw [h]; rfl)).trans h
theorem lc_main (hT : lc_Tp b n S) {k : Nat} {a : la_T} {d p : Nat} {o : la_O} (h : la_R b n k a d p o) : lc_P b n S y k a d p o := by
  refine h (lc_P b n S y) ⟨?c_ltr, ?c_num, ?c_numF, ?c_boxD, ?c_boxF, ?c_boxE, ?c_box, ?c_noA, ?c_termF, ?c_term, ?c_terN, ?c_terF, ?c_ter, ?c_sumF, ?c_sum, ?c_suN, ?c_suF, ?c_su, ?c_cmN, ?c_cmF, ?c_cm, ?c_nestD, ?c_notF, ?c_not, ?c_parF, ?c_parE, ?c_par, ?c_cmpF, ?c_cmp, ?c_partF, ?c_part, ?c_paN, ?c_paF, ?c_pa, ?c_condF, ?c_cond, ?c_coN, ?c_coF, ?c_co⟩
  case c_ltr =>
    intro d p k h
    intro m L c hm hp hd6 hL
    obtain ⟨m, rfl⟩ : ∃ q, m = q + 1 := ⟨m - 1, by omega⟩
    have s1 := la_sk_n (b := b) hp
    have hx := lc_by_le hT (p := p)
    have h240 := hT.1
    have g := la_by_n rfl (la_li_c h)
    have hk := la_li_k h
    show lc_Ok S n y (b_X5_readAtom (g_Law m) y (Int32.ofNat d) _) L c _
    unfold b_X5_readAtom
    rw [lc_peek hT hp, ax_bu_s, lc_ix hx, lc_li_s h]
    simp only [Option.bind_some]
    rw [if_neg (la_n0 (by omega)), lc_pass hT g]
    simp only [Option.bind_some]
    rw [lc_emit (by omega)]
    exact ⟨rfl, by show L + 1 ≤ _; omega, by omega⟩
  case c_num =>
    intro d p v r h g e
    intro m L c hm hp hd6 hL
    obtain ⟨m, rfl⟩ : ∃ q, m = q + 1 := ⟨m - 1, by omega⟩
    have s1 := la_sk_n (b := b) hp
    have hx := lc_by_le hT (p := p)
    have h240 := hT.1
    have q := lc_byd h
    have n1 := la_nu_n (b := b) 4 (la_sk b n p) 0 s1.2
    have n2 : la_sk b n p + 1 ≤ (la_nu b n 4 (la_sk b n p) 0).2 := la_nu_1 (k := 3) s1.2 h
    rw [g] at n1 n2
    dsimp only at n1 n2
    have gs : la_nu b n 4 (la_sk b n (la_sk b n p)) 0 = (v, r) := by rw [la_sk_s]; exact g
    have hs : la_di b n (la_sk b n (la_sk b n p)) = true := by rw [la_sk_s]; exact h
    show lc_Ok S n y (b_X5_readAtom (g_Law m) y (Int32.ofNat d) _) L c _
    unfold b_X5_readAtom
    rw [lc_peek hT hp, ax_bu_s, lc_ix hx, lc_li_n (lc_li_d q.2.2)]
    simp only [Option.bind_some]
    rw [if_pos (by decide : Int32.ofInt (-1) < 0), lc_isD hx, if_pos q.2.2]
    simp only [Option.bind_some]
    rw [if_neg (by decide : ¬ ((1 : Int32) = 0)), lc_number hT s1.2 hs gs, ax_bu_s, if_neg (by rw [e]; decide), lc_emit (by omega)]
    exact ⟨rfl, by show L + 1 ≤ r; omega, n1.2⟩
  case c_numF =>
    intro d p v r h g e
    intro m L c hm hp hd6 hL
    obtain ⟨m, rfl⟩ : ∃ q, m = q + 1 := ⟨m - 1, by omega⟩
    have s1 := la_sk_n (b := b) hp
    have hx := lc_by_le hT (p := p)
    have h240 := hT.1
    have q := lc_byd h
    have n1 := la_nu_n (b := b) 4 (la_sk b n p) 0 s1.2
    have n2 : la_sk b n p + 1 ≤ (la_nu b n 4 (la_sk b n p) 0).2 := la_nu_1 (k := 3) s1.2 h
    rw [g] at n1 n2
    dsimp only at n1 n2
    have gs : la_nu b n 4 (la_sk b n (la_sk b n p)) 0 = (v, r) := by rw [la_sk_s]; exact g
    have hs : la_di b n (la_sk b n (la_sk b n p)) = true := by rw [la_sk_s]; exact h
    show lc_Ok S n y (b_X5_readAtom (g_Law m) y (Int32.ofNat d) _) L c _
    unfold b_X5_readAtom
    rw [lc_peek hT hp, ax_bu_s, lc_ix hx, lc_li_n (lc_li_d q.2.2)]
    simp only [Option.bind_some]
    rw [if_pos (by decide : Int32.ofInt (-1) < 0), lc_isD hx, if_pos q.2.2]
    simp only [Option.bind_some]
    rw [if_neg (by decide : ¬ ((1 : Int32) = 0)), lc_number hT s1.2 hs gs, ax_bu_s, if_pos e, lc_emit (by omega)]
    exact ⟨n1.2, _, L + 1, _, by omega, rfl⟩
  case c_boxD =>
    intro p h
    intro m L c hm hp hd6 hL
    obtain ⟨m, rfl⟩ : ∃ q, m = q + 1 := ⟨m - 1, by omega⟩
    have s1 := la_sk_n (b := b) hp
    have hx := lc_by_le hT (p := p)
    have h240 := hT.1
    have q := la_by_n h (by omega)
    have h91 : lc_sg (la_by b n p) = 91 := by rw [h]; rfl
    have hl : la_li (la_by b n p) = none := by rw [h]; rfl
    show lc_Ok S n y (b_X5_readAtom (g_Law m) y (Int32.ofNat 6) _) L c _
    unfold b_X5_readAtom
    rw [lc_peek hT hp, ax_bu_s, lc_ix hx, lc_li_n hl]
    simp only [Option.bind_some]
    rw [if_pos (by decide : Int32.ofInt (-1) < 0), lc_isD hx, if_neg (by omega)]
    simp only [Option.bind_some, if_true]
    rw [if_pos h91]
    rw [if_pos (by decide), lc_fail]
    exact ⟨s1.2, _, L, _, by omega, rfl⟩
  case c_boxF =>
    intro d p f h hd ih
    intro m L c hm hp hd6 hL
    obtain ⟨m, rfl⟩ : ∃ q, m = q + 1 := ⟨m - 1, by omega⟩
    have s1 := la_sk_n (b := b) hp
    have hx := lc_by_le hT (p := p)
    have h240 := hT.1
    have nd : ¬ ((6 : Int32) ≤ Int32.ofNat d) := by
      show ¬ (Int32.ofNat 6 ≤ Int32.ofNat d)
      rw [la_le (by omega) (by omega)]; omega
    obtain ⟨hf, p', l', c', hl', e1⟩ := ih m L c (by omega) (by have := la_by_n h (by omega); omega) (by omega) (by omega)
    have q := la_by_n h (by omega)
    have h91 : lc_sg (la_by b n p) = 91 := by rw [h]; rfl
    have hl : la_li (la_by b n p) = none := by rw [h]; rfl
    show lc_Ok S n y (b_X5_readAtom (g_Law m) y (Int32.ofNat d) _) L c _
    unfold b_X5_readAtom
    rw [lc_peek hT hp, ax_bu_s, lc_ix hx, lc_li_n hl]
    simp only [Option.bind_some]
    rw [if_pos (by decide : Int32.ofInt (-1) < 0), lc_isD hx, if_neg (by omega)]
    simp only [Option.bind_some, if_true]
    rw [if_pos h91]
    rw [if_neg nd, lc_pass hT q]
    simp only [Option.bind_some]
    rw [la_a1, e1]
    simp only [Option.bind_some]
    rw [lc_demD (lc_nd (by have := hT.1; omega)) (by decide)]
    exact ⟨hf, p', l', c', hl', rfl⟩
  case c_boxE =>
    intro d p e s h hd ih g
    intro m L c hm hp hd6 hL
    obtain ⟨m, rfl⟩ : ∃ q, m = q + 1 := ⟨m - 1, by omega⟩
    have s1 := la_sk_n (b := b) hp
    have hx := lc_by_le hT (p := p)
    have h240 := hT.1
    have nd : ¬ ((6 : Int32) ≤ Int32.ofNat d) := by
      show ¬ (Int32.ofNat 6 ≤ Int32.ofNat d)
      rw [la_le (by omega) (by omega)]; omega
    obtain ⟨e1, l1, n1⟩ := ih m L c (by omega) (by have := la_by_n h (by omega); omega) (by omega) (by omega)
    have hxs := lc_by_le hT (p := s)
    have q := la_by_n h (by omega)
    have h91 : lc_sg (la_by b n p) = 91 := by rw [h]; rfl
    have hl : la_li (la_by b n p) = none := by rw [h]; rfl
    show lc_Ok S n y (b_X5_readAtom (g_Law m) y (Int32.ofNat d) _) L c _
    unfold b_X5_readAtom
    rw [lc_peek hT hp, ax_bu_s, lc_ix hx, lc_li_n hl]
    simp only [Option.bind_some]
    rw [if_pos (by decide : Int32.ofInt (-1) < 0), lc_isD hx, if_neg (by omega)]
    simp only [Option.bind_some, if_true]
    rw [if_pos h91]
    rw [if_neg nd, lc_pass hT q]
    simp only [Option.bind_some]
    rw [la_a1, e1]
    simp only [Option.bind_some]
    rw [lc_demF (C := 93) hT n1 (lc_ne 93 hxs g (by omega) (by omega))]
    exact ⟨(la_sk_n n1).2, _, _, _, by have := hT.1; omega, rfl⟩
  case c_box =>
    intro d p e s h hd ih g
    intro m L c hm hp hd6 hL
    obtain ⟨m, rfl⟩ : ∃ q, m = q + 1 := ⟨m - 1, by omega⟩
    have s1 := la_sk_n (b := b) hp
    have hx := lc_by_le hT (p := p)
    have h240 := hT.1
    have nd : ¬ ((6 : Int32) ≤ Int32.ofNat d) := by
      show ¬ (Int32.ofNat 6 ≤ Int32.ofNat d)
      rw [la_le (by omega) (by omega)]; omega
    obtain ⟨e1, l1, n1⟩ := ih m L c (by omega) (by have := la_by_n h (by omega); omega) (by omega) (by omega)
    have s2 := la_sk_n (b := b) n1
    have q2 := la_by_n g (by omega)
    have q := la_by_n h (by omega)
    have h91 : lc_sg (la_by b n p) = 91 := by rw [h]; rfl
    have hl : la_li (la_by b n p) = none := by rw [h]; rfl
    show lc_Ok S n y (b_X5_readAtom (g_Law m) y (Int32.ofNat d) _) L c _
    unfold b_X5_readAtom
    rw [lc_peek hT hp, ax_bu_s, lc_ix hx, lc_li_n hl]
    simp only [Option.bind_some]
    rw [if_pos (by decide : Int32.ofInt (-1) < 0), lc_isD hx, if_neg (by omega)]
    simp only [Option.bind_some, if_true]
    rw [if_pos h91]
    rw [if_neg nd, lc_pass hT q]
    simp only [Option.bind_some]
    rw [la_a1, e1]
    simp only [Option.bind_some]
    rw [lc_dem (C := 93) hT n1 g (by omega) rfl]
    exact ⟨rfl, by omega, by omega⟩
  case c_noA =>
    intro d p h g k
    intro m L c hm hp hd6 hL
    obtain ⟨m, rfl⟩ : ∃ q, m = q + 1 := ⟨m - 1, by omega⟩
    have s1 := la_sk_n (b := b) hp
    have hx := lc_by_le hT (p := p)
    have h240 := hT.1
    have nd := lc_bynd s1.2 g
    show lc_Ok S n y (b_X5_readAtom (g_Law m) y (Int32.ofNat d) _) L c _
    unfold b_X5_readAtom
    rw [lc_peek hT hp, ax_bu_s, lc_ix hx, lc_li_n h]
    simp only [Option.bind_some]
    rw [if_pos (by decide : Int32.ofInt (-1) < 0), lc_isD hx, if_neg nd]
    simp only [Option.bind_some, if_true]
    have n91 : lc_sg (la_by b n p) ≠ 91 := lc_ne 91 hx k (by omega) (by omega)
    rw [if_neg n91, lc_fail]
    exact ⟨s1.2, _, L, _, by omega, rfl⟩
  case c_termF =>
    intro d p f ih
    intro m L c hm hp hd6 hL
    obtain ⟨m, rfl⟩ : ∃ q, m = q + 1 := ⟨m - 1, by omega⟩
    have s1 := la_sk_n (b := b) hp
    have hx := lc_by_le hT (p := p)
    have h240 := hT.1
    obtain ⟨hf, p', l', c', hl', e1⟩ := ih m L c (by omega) hp hd6 hL
    refine ⟨hf, p', l', c', hl', ?_⟩
    show b_X5_readTerm (g_Law m) y (Int32.ofNat d) _ = _
    unfold b_X5_readTerm
    rw [e1]
    simp only [Option.bind_some]
    rw [lc_peekD (lc_nd (by have := hT.1; omega)), ax_bu_s, lc_FF, lc_t0 (by decide) (by decide)]
  case c_term =>
    intro d p e s o ih iq
    intro m L c hm hp hd6 hL
    obtain ⟨m, rfl⟩ : ∃ q, m = q + 1 := ⟨m - 1, by omega⟩
    have s1 := la_sk_n (b := b) hp
    have hx := lc_by_le hT (p := p)
    have h240 := hT.1
    obtain ⟨e1, l1, n1⟩ := ih m L c (by omega) hp hd6 hL
    show lc_Ok S n y (b_X5_readTerm (g_Law m) y (Int32.ofNat d) _) L c o
    unfold b_X5_readTerm
    rw [e1]
    simp only [Option.bind_some]
    rw [lc_peek hT n1, ax_bu_s]
    exact iq m ax_F L c 0 (by omega) n1 hd6 l1 (by omega) (by show _ < 1000000; have := hT.1; omega)
  case c_terN =>
    intro d p e h g
    intro m N L c i hm hp hd6 hL hi hN
    obtain ⟨N, rfl⟩ : ∃ q, N = q + 1 := ⟨N - 1, by omega⟩
    have s1 := la_sk_n (b := b) hp
    have hx := lc_by_le hT (p := p)
    have h240 := hT.1
    rw [lc_t0 (lc_ne 42 hx h (by omega) (by omega)) (lc_ne 47 hx g (by omega) (by omega))]
    exact ⟨rfl, by omega, s1.2⟩
  case c_terF =>
    intro d p e f h ih
    intro m N L c i hm hp hd6 hL hi hN
    obtain ⟨N, rfl⟩ : ∃ q, N = q + 1 := ⟨N - 1, by omega⟩
    have s1 := la_sk_n (b := b) hp
    have hx := lc_by_le hT (p := p)
    have h240 := hT.1
    have h1 : la_sk b n p < n := h.elim (fun h => la_by_n h (by omega)) (fun h => la_by_n h (by omega))
    have h240 := hT.1
    have hop : (lc_sg (la_by b n p) = 42 ∧ (if la_by b n p = 42 then (4 : Int32) else 5) = 4) ∨ (lc_sg (la_by b n p) = 47 ∧ (if la_by b n p = 42 then (4 : Int32) else 5) = 5) := by
      rcases h with h | h <;> rw [h]
      · exact .inl ⟨rfl, rfl⟩
      · exact .inr ⟨rfl, rfl⟩
    obtain ⟨hf, p', l', c', hl', e1⟩ := ih m (L + (la_cd e).length) (lc_wr (la_cd e) c L) (by omega) (by omega) hd6 (by omega)
    have ndf := lc_nd (by omega : f ≤ 240)
    obtain ⟨l2, c2, hl2, e2⟩ := lc_emitE (S := S) (y := y) (p := p') (φ := Int32.ofNat f) (c := c') (o := if la_by b n p = 42 then (4 : Int32) else 5) (v := 0) hl'
    obtain ⟨N, rfl⟩ : ∃ q, N = q + 1 := ⟨N - 1, by omega⟩
    refine ⟨hf, p', l2, c2, hl2, ?_⟩
    rw [lc_t1 (lc_240 (by omega)) hop, lc_pass hT h1]
    simp only [Option.bind_some]
    rw [e1]
    simp only [Option.bind_some]
    rw [e2]
    simp only [Option.bind_some]
    rw [lc_peekD ndf, ax_bu_s, lc_t0 (by decide) (by decide)]
  case c_ter =>
    intro d p e e2 s o h ih iq
    intro m N L c i hm hp hd6 hL hi hN
    obtain ⟨N, rfl⟩ : ∃ q, N = q + 1 := ⟨N - 1, by omega⟩
    have s1 := la_sk_n (b := b) hp
    have hx := lc_by_le hT (p := p)
    have h240 := hT.1
    have h1 : la_sk b n p < n := h.elim (fun h => la_by_n h (by omega)) (fun h => la_by_n h (by omega))
    have h240 := hT.1
    have hop : (lc_sg (la_by b n p) = 42 ∧ (if la_by b n p = 42 then (4 : Int32) else 5) = 4) ∨ (lc_sg (la_by b n p) = 47 ∧ (if la_by b n p = 42 then (4 : Int32) else 5) = 5) := by
      rcases h with h | h <;> rw [h]
      · exact .inl ⟨rfl, rfl⟩
      · exact .inr ⟨rfl, rfl⟩
    obtain ⟨e1, l1, n1⟩ := ih m (L + (la_cd e).length) (lc_wr (la_cd e) c L) (by omega) (by omega) hd6 (by omega)
    obtain ⟨_, lX, _⟩ := ih m (la_sk b n p + 1) c (by omega) (by omega) hd6 (by omega)
    rw [lc_t1 (lc_240 (by omega)) hop, lc_pass hT h1]
    simp only [Option.bind_some]
    rw [e1]
    simp only [Option.bind_some]
    rw [lc_emit (by omega)]
    simp only [Option.bind_some]
    rw [lc_peek hT n1, ax_bu_s, la_a1]
    have r := iq m N L c (i + 1) (by omega) n1 hd6 (by rw [lc_tb_l]; omega) (by omega) (by omega)
    rw [lc_tb_l, lc_tb_w] at r
    exact r
  case c_sumF =>
    intro d p f ih
    intro m L c hm hp hd6 hL
    obtain ⟨m, rfl⟩ : ∃ q, m = q + 1 := ⟨m - 1, by omega⟩
    have s1 := la_sk_n (b := b) hp
    have hx := lc_by_le hT (p := p)
    have h240 := hT.1
    obtain ⟨hf, p', l', c', hl', e1⟩ := ih m L c (by omega) hp hd6 hL
    refine ⟨hf, p', l', c', hl', ?_⟩
    show b_X5_readSum (g_Law m) y (Int32.ofNat d) _ = _
    unfold b_X5_readSum
    rw [e1]
    simp only [Option.bind_some]
    rw [lc_peekD (lc_nd (by have := hT.1; omega)), ax_bu_s, lc_FF, lc_s0 (by decide) (by decide)]
  case c_sum =>
    intro d p e s o ih iq
    intro m L c hm hp hd6 hL
    obtain ⟨m, rfl⟩ : ∃ q, m = q + 1 := ⟨m - 1, by omega⟩
    have s1 := la_sk_n (b := b) hp
    have hx := lc_by_le hT (p := p)
    have h240 := hT.1
    obtain ⟨e1, l1, n1⟩ := ih m L c (by omega) hp hd6 hL
    show lc_Ok S n y (b_X5_readSum (g_Law m) y (Int32.ofNat d) _) L c o
    unfold b_X5_readSum
    rw [e1]
    simp only [Option.bind_some]
    rw [lc_peek hT n1, ax_bu_s]
    exact iq m ax_F L c 0 (by omega) n1 hd6 l1 (by omega) (by show _ < 1000000; have := hT.1; omega)
  case c_suN =>
    intro d p e h g
    intro m N L c i hm hp hd6 hL hi hN
    obtain ⟨N, rfl⟩ : ∃ q, N = q + 1 := ⟨N - 1, by omega⟩
    have s1 := la_sk_n (b := b) hp
    have hx := lc_by_le hT (p := p)
    have h240 := hT.1
    rw [lc_s0 (lc_ne 43 hx h (by omega) (by omega)) (lc_ne 45 hx g (by omega) (by omega))]
    exact ⟨rfl, by omega, s1.2⟩
  case c_suF =>
    intro d p e f h ih
    intro m N L c i hm hp hd6 hL hi hN
    obtain ⟨N, rfl⟩ : ∃ q, N = q + 1 := ⟨N - 1, by omega⟩
    have s1 := la_sk_n (b := b) hp
    have hx := lc_by_le hT (p := p)
    have h240 := hT.1
    have h1 : la_sk b n p < n := h.elim (fun h => la_by_n h (by omega)) (fun h => la_by_n h (by omega))
    have h240 := hT.1
    have hop : (lc_sg (la_by b n p) = 43 ∧ (if la_by b n p = 43 then (2 : Int32) else 3) = 2) ∨ (lc_sg (la_by b n p) = 45 ∧ (if la_by b n p = 43 then (2 : Int32) else 3) = 3) := by
      rcases h with h | h <;> rw [h]
      · exact .inl ⟨rfl, rfl⟩
      · exact .inr ⟨rfl, rfl⟩
    obtain ⟨hf, p', l', c', hl', e1⟩ := ih m (L + (la_cd e).length) (lc_wr (la_cd e) c L) (by omega) (by omega) hd6 (by omega)
    have ndf := lc_nd (by omega : f ≤ 240)
    obtain ⟨l2, c2, hl2, e2⟩ := lc_emitE (S := S) (y := y) (p := p') (φ := Int32.ofNat f) (c := c') (o := if la_by b n p = 43 then (2 : Int32) else 3) (v := 0) hl'
    obtain ⟨N, rfl⟩ : ∃ q, N = q + 1 := ⟨N - 1, by omega⟩
    refine ⟨hf, p', l2, c2, hl2, ?_⟩
    rw [lc_s1 (lc_240 (by omega)) hop, lc_pass hT h1]
    simp only [Option.bind_some]
    rw [e1]
    simp only [Option.bind_some]
    rw [e2]
    simp only [Option.bind_some]
    rw [lc_peekD ndf, ax_bu_s, lc_s0 (by decide) (by decide)]
  case c_su =>
    intro d p e e2 s o h ih iq
    intro m N L c i hm hp hd6 hL hi hN
    obtain ⟨N, rfl⟩ : ∃ q, N = q + 1 := ⟨N - 1, by omega⟩
    have s1 := la_sk_n (b := b) hp
    have hx := lc_by_le hT (p := p)
    have h240 := hT.1
    have h1 : la_sk b n p < n := h.elim (fun h => la_by_n h (by omega)) (fun h => la_by_n h (by omega))
    have h240 := hT.1
    have hop : (lc_sg (la_by b n p) = 43 ∧ (if la_by b n p = 43 then (2 : Int32) else 3) = 2) ∨ (lc_sg (la_by b n p) = 45 ∧ (if la_by b n p = 43 then (2 : Int32) else 3) = 3) := by
      rcases h with h | h <;> rw [h]
      · exact .inl ⟨rfl, rfl⟩
      · exact .inr ⟨rfl, rfl⟩
    obtain ⟨e1, l1, n1⟩ := ih m (L + (la_cd e).length) (lc_wr (la_cd e) c L) (by omega) (by omega) hd6 (by omega)
    obtain ⟨_, lX, _⟩ := ih m (la_sk b n p + 1) c (by omega) (by omega) hd6 (by omega)
    rw [lc_s1 (lc_240 (by omega)) hop, lc_pass hT h1]
    simp only [Option.bind_some]
    rw [e1]
    simp only [Option.bind_some]
    rw [lc_emit (by omega)]
    simp only [Option.bind_some]
    rw [lc_peek hT n1, ax_bu_s, la_a1]
    have r := iq m N L c (i + 1) (by omega) n1 hd6 (by rw [lc_tb_l]; omega) (by omega) (by omega)
    rw [lc_tb_l, lc_tb_w] at r
    exact r
  case c_cmN =>
    intro d p e h
    intro m L c hm hp hd6 hL
    have s1 := la_sk_n (b := b) hp
    have h240 := hT.1
    show lc_Ok S n y (lc_cmp _ _ _ _) L c _
    unfold lc_cmp
    rw [lc_peek hT hp, ax_bu_s, lc_rl_n (lc_by_le hT) h]
    simp only [Option.bind_some, if_true]
    rw [lc_fail]
    exact ⟨s1.2, _, _, _, by omega, rfl⟩
  case c_cmF =>
    intro d p e f k h ih
    intro m L c hm hp hd6 hL
    have s1 := la_sk_n (b := b) hp
    have h240 := hT.1
    have h1 : la_sk b n p < n := la_by_n rfl (la_rl_c h)
    have k1 : k ≠ Int32.ofInt (-1) := by rcases la_rl_k h with q | q | q <;> subst q <;> decide
    obtain ⟨hf, p', l', c', hl', e1⟩ := ih m (L + (la_cd e).length) (lc_wr (la_cd e) c L) (by omega) (by omega) hd6 (by omega)
    obtain ⟨l2, c2, hl2, e2⟩ := lc_emitE (S := S) (y := y) (p := p') (φ := Int32.ofNat f) (c := c') (o := k) (v := 0) hl'
    refine ⟨hf, p', l2, c2, hl2, ?_⟩
    unfold lc_cmp
    rw [lc_peek hT hp, ax_bu_s, lc_rl_s (lc_by_le hT) h]
    simp only [Option.bind_some]
    rw [if_neg k1, lc_pass hT h1]
    simp only [Option.bind_some]
    rw [e1]
    simp only [Option.bind_some]
    rw [e2]; rfl
  case c_cm =>
    intro d p e e2 s k h ih
    intro m L c hm hp hd6 hL
    have s1 := la_sk_n (b := b) hp
    have h240 := hT.1
    have h1 : la_sk b n p < n := la_by_n rfl (la_rl_c h)
    have k1 : k ≠ Int32.ofInt (-1) := by rcases la_rl_k h with q | q | q <;> subst q <;> decide
    obtain ⟨e1, l1, n1⟩ := ih m (L + (la_cd e).length) (lc_wr (la_cd e) c L) (by omega) (by omega) hd6 (by omega)
    obtain ⟨_, lX, _⟩ := ih m (la_sk b n p + 1) c (by omega) (by omega) hd6 (by omega)
    show lc_Ok S n y (lc_cmp _ _ _ _) L c _
    unfold lc_cmp
    rw [lc_peek hT hp, ax_bu_s, lc_rl_s (lc_by_le hT) h]
    simp only [Option.bind_some]
    rw [if_neg k1, lc_pass hT h1]
    simp only [Option.bind_some]
    rw [e1]
    simp only [Option.bind_some]
    rw [lc_emit (by omega)]
    refine ⟨?_, ?_, n1⟩
    · rw [lc_tb_l, lc_tb_w]; rfl
    · rw [lc_tb_l]; omega
  case c_nestD =>
    intro p h
    intro m L c hm hp hd6 hL
    obtain ⟨m, rfl⟩ : ∃ q, m = q + 1 := ⟨m - 1, by omega⟩
    have s1 := la_sk_n (b := b) hp
    have hx := lc_by_le hT (p := p)
    have h240 := hT.1
    have hr : lc_sg (la_by b n p) = 33 ∨ lc_sg (la_by b n p) = 40 := by
      rcases h with h | h <;> rw [h]
      · exact .inl rfl
      · exact .inr rfl
    show lc_Ok S n y (b_X5_readUnit (g_Law m) y (Int32.ofNat 6) 0 _) L c _
    rw [lc_u4 (lc_peek hT hp) hr (by decide), lc_fail]
    exact ⟨s1.2, _, L, _, by omega, rfl⟩
  case c_notF =>
    intro d p f h hd ih
    intro m L c hm hp hd6 hL
    obtain ⟨m, rfl⟩ : ∃ q, m = q + 1 := ⟨m - 1, by omega⟩
    have s1 := la_sk_n (b := b) hp
    have hx := lc_by_le hT (p := p)
    have h240 := hT.1
    have h240 := hT.1
    have q := la_by_n h (by omega)
    have nd : Int32.ofNat d < 6 := by
      show Int32.ofNat d < Int32.ofNat 6
      rw [la_lt (by omega) (by omega)]; omega
    have hpk : f_X10_peek (lc_st S y (Int32.ofNat p) (Int32.ofInt (-1)) (Int32.ofNat L) c) = some (33, lc_st S y (Int32.ofNat (la_sk b n p)) (Int32.ofInt (-1)) (Int32.ofNat L) c) := by
      rw [lc_peek hT hp, h]; rfl
    obtain ⟨hf, p', l', c', hl', e1⟩ := ih m L c (by omega) (by omega) (by omega) (by omega)
    obtain ⟨l2, c2, hl2, e2⟩ := lc_emitE (S := S) (y := y) (p := p') (φ := Int32.ofNat f) (c := c') (o := 11) (v := 0) hl'
    refine ⟨hf, p', l2, c2, hl2, ?_⟩
    show b_X5_readUnit (g_Law m) y (Int32.ofNat d) 0 _ = _
    rw [lc_u1 hpk nd, lc_pass hT q]
    simp only [Option.bind_some]
    rw [la_a1, e1]
    simp only [Option.bind_some]
    rw [e2]; rfl
  case c_not =>
    intro d p e s h hd ih
    intro m L c hm hp hd6 hL
    obtain ⟨m, rfl⟩ : ∃ q, m = q + 1 := ⟨m - 1, by omega⟩
    have s1 := la_sk_n (b := b) hp
    have hx := lc_by_le hT (p := p)
    have h240 := hT.1
    have h240 := hT.1
    have q := la_by_n h (by omega)
    have nd : Int32.ofNat d < 6 := by
      show Int32.ofNat d < Int32.ofNat 6
      rw [la_lt (by omega) (by omega)]; omega
    have hpk : f_X10_peek (lc_st S y (Int32.ofNat p) (Int32.ofInt (-1)) (Int32.ofNat L) c) = some (33, lc_st S y (Int32.ofNat (la_sk b n p)) (Int32.ofInt (-1)) (Int32.ofNat L) c) := by
      rw [lc_peek hT hp, h]; rfl
    obtain ⟨e1, l1, n1⟩ := ih m L c (by omega) (by omega) (by omega) (by omega)
    obtain ⟨_, lX, _⟩ := ih m (la_sk b n p + 1) c (by omega) (by omega) (by omega) (by omega)
    show lc_Ok S n y (b_X5_readUnit (g_Law m) y (Int32.ofNat d) 0 _) L c _
    rw [lc_u1 hpk nd, lc_pass hT q]
    simp only [Option.bind_some]
    rw [la_a1, e1]
    simp only [Option.bind_some]
    rw [lc_emit (by omega)]
    refine ⟨?_, ?_, n1⟩
    · rw [lc_tg_l, lc_tg_w]; rfl
    · rw [lc_tg_l]; omega
  case c_parF =>
    intro d p f h hd ih
    intro m L c hm hp hd6 hL
    obtain ⟨m, rfl⟩ : ∃ q, m = q + 1 := ⟨m - 1, by omega⟩
    have s1 := la_sk_n (b := b) hp
    have hx := lc_by_le hT (p := p)
    have h240 := hT.1
    have h240 := hT.1
    have q := la_by_n h (by omega)
    have nd : Int32.ofNat d < 6 := by
      show Int32.ofNat d < Int32.ofNat 6
      rw [la_lt (by omega) (by omega)]; omega
    have hpk : f_X10_peek (lc_st S y (Int32.ofNat p) (Int32.ofInt (-1)) (Int32.ofNat L) c) = some (40, lc_st S y (Int32.ofNat (la_sk b n p)) (Int32.ofInt (-1)) (Int32.ofNat L) c) := by
      rw [lc_peek hT hp, h]; rfl
    obtain ⟨hf, p', l', c', hl', e1⟩ := ih m L c (by omega) (by omega) (by omega) (by omega)
    refine ⟨hf, p', l', c', hl', ?_⟩
    show b_X5_readUnit (g_Law m) y (Int32.ofNat d) 0 _ = _
    rw [lc_u2 hpk nd, lc_pass hT q]
    simp only [Option.bind_some]
    rw [la_a1, e1]
    simp only [Option.bind_some]
    rw [lc_demD (lc_nd (by omega)) (by decide)]; rfl
  case c_parE =>
    intro d p e s h hd ih g
    intro m L c hm hp hd6 hL
    obtain ⟨m, rfl⟩ : ∃ q, m = q + 1 := ⟨m - 1, by omega⟩
    have s1 := la_sk_n (b := b) hp
    have hx := lc_by_le hT (p := p)
    have h240 := hT.1
    have h240 := hT.1
    have q := la_by_n h (by omega)
    have nd : Int32.ofNat d < 6 := by
      show Int32.ofNat d < Int32.ofNat 6
      rw [la_lt (by omega) (by omega)]; omega
    have hpk : f_X10_peek (lc_st S y (Int32.ofNat p) (Int32.ofInt (-1)) (Int32.ofNat L) c) = some (40, lc_st S y (Int32.ofNat (la_sk b n p)) (Int32.ofInt (-1)) (Int32.ofNat L) c) := by
      rw [lc_peek hT hp, h]; rfl
    obtain ⟨e1, l1, n1⟩ := ih m L c (by omega) (by omega) (by omega) (by omega)
    have hxs := lc_by_le hT (p := s)
    show lc_Ok S n y (b_X5_readUnit (g_Law m) y (Int32.ofNat d) 0 _) L c _
    rw [lc_u2 hpk nd, lc_pass hT q]
    simp only [Option.bind_some]
    rw [la_a1, e1]
    simp only [Option.bind_some]
    rw [lc_demF (C := 41) hT n1 (lc_ne 41 hxs g (by omega) (by omega))]
    exact ⟨(la_sk_n n1).2, _, _, _, by omega, rfl⟩
  case c_par =>
    intro d p e s h hd ih g
    intro m L c hm hp hd6 hL
    obtain ⟨m, rfl⟩ : ∃ q, m = q + 1 := ⟨m - 1, by omega⟩
    have s1 := la_sk_n (b := b) hp
    have hx := lc_by_le hT (p := p)
    have h240 := hT.1
    have h240 := hT.1
    have q := la_by_n h (by omega)
    have nd : Int32.ofNat d < 6 := by
      show Int32.ofNat d < Int32.ofNat 6
      rw [la_lt (by omega) (by omega)]; omega
    have hpk : f_X10_peek (lc_st S y (Int32.ofNat p) (Int32.ofInt (-1)) (Int32.ofNat L) c) = some (40, lc_st S y (Int32.ofNat (la_sk b n p)) (Int32.ofInt (-1)) (Int32.ofNat L) c) := by
      rw [lc_peek hT hp, h]; rfl
    obtain ⟨e1, l1, n1⟩ := ih m L c (by omega) (by omega) (by omega) (by omega)
    have s2 := la_sk_n (b := b) n1
    have q2 := la_by_n g (by omega)
    show lc_Ok S n y (b_X5_readUnit (g_Law m) y (Int32.ofNat d) 0 _) L c _
    rw [lc_u2 hpk nd, lc_pass hT q]
    simp only [Option.bind_some]
    rw [la_a1, e1]
    simp only [Option.bind_some]
    rw [lc_dem (C := 41) hT n1 g (by omega) rfl]
    exact ⟨rfl, by omega, by omega⟩
  case c_cmpF =>
    intro d p f h g ih
    intro m L c hm hp hd6 hL
    obtain ⟨m, rfl⟩ : ∃ q, m = q + 1 := ⟨m - 1, by omega⟩
    have s1 := la_sk_n (b := b) hp
    have hx := lc_by_le hT (p := p)
    have h240 := hT.1
    have n33 : lc_sg (la_by b n p) ≠ 33 := lc_ne 33 hx h (by omega) (by omega)
    have n40 : lc_sg (la_by b n p) ≠ 40 := lc_ne 40 hx g (by omega) (by omega)
    obtain ⟨hf, p', l', c', hl', e1⟩ := ih m L c (by omega) s1.2 hd6 (by omega)
    refine ⟨hf, p', l', c', hl', ?_⟩
    show b_X5_readUnit (g_Law m) y (Int32.ofNat d) 0 _ = _
    rw [lc_u3 (lc_peek hT hp) n33 n40, e1]
    simp only [Option.bind_some]
    unfold lc_cmp
    rw [lc_peekD (lc_nd (by have := hT.1; omega)), ax_bu_s]
    have e2 : f_X5_relationOf 0 (lc_st S y p' (Int32.ofNat f) (Int32.ofNat l') c') = some (Int32.ofInt (-1)) := rfl
    rw [e2]
    simp only [Option.bind_some, if_true]
    rw [lc_failD (lc_nd (by have := hT.1; omega))]; rfl
  case c_cmp =>
    intro d p e s o h g ih iq
    intro m L c hm hp hd6 hL
    obtain ⟨m, rfl⟩ : ∃ q, m = q + 1 := ⟨m - 1, by omega⟩
    have s1 := la_sk_n (b := b) hp
    have hx := lc_by_le hT (p := p)
    have h240 := hT.1
    have n33 : lc_sg (la_by b n p) ≠ 33 := lc_ne 33 hx h (by omega) (by omega)
    have n40 : lc_sg (la_by b n p) ≠ 40 := lc_ne 40 hx g (by omega) (by omega)
    obtain ⟨e1, l1, n1⟩ := ih m L c (by omega) s1.2 hd6 (by omega)
    show lc_Ok S n y (b_X5_readUnit (g_Law m) y (Int32.ofNat d) 0 _) L c _
    rw [lc_u3 (lc_peek hT hp) n33 n40, e1]
    simp only [Option.bind_some]
    exact iq m L c (by omega) n1 hd6 l1
  case c_partF =>
    intro d p f ih
    intro m L c hm hp hd6 hL
    obtain ⟨m, rfl⟩ : ∃ q, m = q + 1 := ⟨m - 1, by omega⟩
    have s1 := la_sk_n (b := b) hp
    have hx := lc_by_le hT (p := p)
    have h240 := hT.1
    obtain ⟨hf, p', l', c', hl', e1⟩ := ih m L c (by omega) hp hd6 hL
    refine ⟨hf, p', l', c', hl', ?_⟩
    show b_X5_readTruth (g_Law m) y (Int32.ofNat d) 0 _ = _
    unfold b_X5_readTruth
    rw [e1]
    simp only [Option.bind_some]
    rw [lc_FF, lc_p0 (by decide) (lc_peekD (lc_nd (by have := hT.1; omega))) (by decide)]
  case c_part =>
    intro d p e s o ih iq
    intro m L c hm hp hd6 hL
    obtain ⟨m, rfl⟩ : ∃ q, m = q + 1 := ⟨m - 1, by omega⟩
    have s1 := la_sk_n (b := b) hp
    have hx := lc_by_le hT (p := p)
    have h240 := hT.1
    obtain ⟨e1, l1, n1⟩ := ih m L c (by omega) hp hd6 hL
    show lc_Ok S n y (b_X5_readTruth (g_Law m) y (Int32.ofNat d) 0 _) L c o
    unfold b_X5_readTruth
    rw [e1]
    simp only [Option.bind_some]
    exact iq m ax_F L c 0 (by omega) n1 hd6 l1 (by omega) (by show _ < 1000000; have := hT.1; omega)
  case c_paN =>
    intro d p e h
    intro m N L c i hm hp hd6 hL hi hN
    obtain ⟨N, rfl⟩ : ∃ q, N = q + 1 := ⟨N - 1, by omega⟩
    have s1 := la_sk_n (b := b) hp
    have hx := lc_by_le hT (p := p)
    have h240 := hT.1
    have h240 := hT.1
    by_cases i4 : i < 240
    · rw [lc_p0 (lc_240 i4) (lc_peek hT hp) (lc_ne 38 hx h (by omega) (by omega))]
      exact ⟨rfl, by omega, s1.2⟩
    · have e : la_sk b n p = p := by omega
      rw [lc_p4 (by show Int32.ofNat 240 ≤ Int32.ofNat i; rw [la_le (by omega) (by omega)]; omega), e]
      exact ⟨rfl, by omega, hp⟩
  case c_paF =>
    intro d p e f h ih
    intro m N L c i hm hp hd6 hL hi hN
    obtain ⟨N, rfl⟩ : ∃ q, N = q + 1 := ⟨N - 1, by omega⟩
    have s1 := la_sk_n (b := b) hp
    have hx := lc_by_le hT (p := p)
    have h240 := hT.1
    have h1 : la_sk b n p < n := la_by_n h (by omega)
    have h240 := hT.1
    have hpk : f_X10_peek (lc_st S y (Int32.ofNat p) (Int32.ofInt (-1)) (Int32.ofNat (L + (la_cd e).length)) (lc_wr (la_cd e) c L)) = some (38, lc_st S y (Int32.ofNat (la_sk b n p)) (Int32.ofInt (-1)) (Int32.ofNat (L + (la_cd e).length)) (lc_wr (la_cd e) c L)) := by
      rw [lc_peek hT hp, h]; rfl
    obtain ⟨hf, p', l', c', hl', e1⟩ := ih m (L + (la_cd e).length) (lc_wr (la_cd e) c L) (by omega) (by omega) hd6 (by omega)
    have ndf := lc_nd (by omega : f ≤ 240)
    obtain ⟨l2, c2, hl2, e2⟩ := lc_emitE (S := S) (y := y) (p := p') (φ := Int32.ofNat f) (c := c') (o := 9) (v := 0) hl'
    obtain ⟨N, rfl⟩ : ∃ q, N = q + 1 := ⟨N - 1, by omega⟩
    refine ⟨hf, p', l2, c2, hl2, ?_⟩
    rw [lc_p1 (lc_240 (by omega)) hpk, lc_pass hT h1]
    simp only [Option.bind_some]
    rw [e1]
    simp only [Option.bind_some]
    rw [e2]
    simp only [Option.bind_some]
    rw [la_a1]
    by_cases i4 : i + 1 < 240
    · rw [lc_p0 (lc_240 i4) (lc_peekD ndf) (by decide)]
    · rw [lc_p4 (by show Int32.ofNat 240 ≤ Int32.ofNat (i + 1); rw [la_le (by omega) (by omega)]; omega)]
  case c_pa =>
    intro d p e e2 s o h ih iq
    intro m N L c i hm hp hd6 hL hi hN
    obtain ⟨N, rfl⟩ : ∃ q, N = q + 1 := ⟨N - 1, by omega⟩
    have s1 := la_sk_n (b := b) hp
    have hx := lc_by_le hT (p := p)
    have h240 := hT.1
    have h1 : la_sk b n p < n := la_by_n h (by omega)
    have h240 := hT.1
    have hpk : f_X10_peek (lc_st S y (Int32.ofNat p) (Int32.ofInt (-1)) (Int32.ofNat (L + (la_cd e).length)) (lc_wr (la_cd e) c L)) = some (38, lc_st S y (Int32.ofNat (la_sk b n p)) (Int32.ofInt (-1)) (Int32.ofNat (L + (la_cd e).length)) (lc_wr (la_cd e) c L)) := by
      rw [lc_peek hT hp, h]; rfl
    obtain ⟨e1, l1, n1⟩ := ih m (L + (la_cd e).length) (lc_wr (la_cd e) c L) (by omega) (by omega) hd6 (by omega)
    obtain ⟨_, lX, _⟩ := ih m (la_sk b n p + 1) c (by omega) (by omega) hd6 (by omega)
    rw [lc_p1 (lc_240 (by omega)) hpk, lc_pass hT h1]
    simp only [Option.bind_some]
    rw [e1]
    simp only [Option.bind_some]
    rw [lc_emit (by omega)]
    simp only [Option.bind_some]
    rw [la_a1]
    have r := iq m N L c (i + 1) (by omega) n1 hd6 (by rw [lc_tb_l]; omega) (by omega) (by omega)
    rw [lc_tb_l, lc_tb_w] at r
    exact r
  case c_condF =>
    intro d p f ih
    intro m L c hm hp hd6 hL
    obtain ⟨m, rfl⟩ : ∃ q, m = q + 1 := ⟨m - 1, by omega⟩
    have s1 := la_sk_n (b := b) hp
    have hx := lc_by_le hT (p := p)
    have h240 := hT.1
    obtain ⟨hf, p', l', c', hl', e1⟩ := ih m L c (by omega) hp hd6 hL
    refine ⟨hf, p', l', c', hl', ?_⟩
    show b_X5_readCondition (g_Law m) y (Int32.ofNat d) 0 _ = _
    unfold b_X5_readCondition
    rw [e1]
    simp only [Option.bind_some]
    rw [lc_FF, lc_c0 (by decide) (lc_peekD (lc_nd (by have := hT.1; omega))) (by decide)]
  case c_cond =>
    intro d p e s o ih iq
    intro m L c hm hp hd6 hL
    obtain ⟨m, rfl⟩ : ∃ q, m = q + 1 := ⟨m - 1, by omega⟩
    have s1 := la_sk_n (b := b) hp
    have hx := lc_by_le hT (p := p)
    have h240 := hT.1
    obtain ⟨e1, l1, n1⟩ := ih m L c (by omega) hp hd6 hL
    show lc_Ok S n y (b_X5_readCondition (g_Law m) y (Int32.ofNat d) 0 _) L c o
    unfold b_X5_readCondition
    rw [e1]
    simp only [Option.bind_some]
    exact iq m ax_F L c 0 (by omega) n1 hd6 l1 (by omega) (by show _ < 1000000; have := hT.1; omega)
  case c_coN =>
    intro d p e h
    intro m N L c i hm hp hd6 hL hi hN
    obtain ⟨N, rfl⟩ : ∃ q, N = q + 1 := ⟨N - 1, by omega⟩
    have s1 := la_sk_n (b := b) hp
    have hx := lc_by_le hT (p := p)
    have h240 := hT.1
    have h240 := hT.1
    by_cases i4 : i < 240
    · rw [lc_c0 (lc_240 i4) (lc_peek hT hp) (lc_ne 124 hx h (by omega) (by omega))]
      exact ⟨rfl, by omega, s1.2⟩
    · have e : la_sk b n p = p := by omega
      rw [lc_c4 (by show Int32.ofNat 240 ≤ Int32.ofNat i; rw [la_le (by omega) (by omega)]; omega), e]
      exact ⟨rfl, by omega, hp⟩
  case c_coF =>
    intro d p e f h ih
    intro m N L c i hm hp hd6 hL hi hN
    obtain ⟨N, rfl⟩ : ∃ q, N = q + 1 := ⟨N - 1, by omega⟩
    have s1 := la_sk_n (b := b) hp
    have hx := lc_by_le hT (p := p)
    have h240 := hT.1
    have h1 : la_sk b n p < n := la_by_n h (by omega)
    have h240 := hT.1
    have hpk : f_X10_peek (lc_st S y (Int32.ofNat p) (Int32.ofInt (-1)) (Int32.ofNat (L + (la_cd e).length)) (lc_wr (la_cd e) c L)) = some (124, lc_st S y (Int32.ofNat (la_sk b n p)) (Int32.ofInt (-1)) (Int32.ofNat (L + (la_cd e).length)) (lc_wr (la_cd e) c L)) := by
      rw [lc_peek hT hp, h]; rfl
    obtain ⟨hf, p', l', c', hl', e1⟩ := ih m (L + (la_cd e).length) (lc_wr (la_cd e) c L) (by omega) (by omega) hd6 (by omega)
    have ndf := lc_nd (by omega : f ≤ 240)
    obtain ⟨l2, c2, hl2, e2⟩ := lc_emitE (S := S) (y := y) (p := p') (φ := Int32.ofNat f) (c := c') (o := 10) (v := 0) hl'
    obtain ⟨N, rfl⟩ : ∃ q, N = q + 1 := ⟨N - 1, by omega⟩
    refine ⟨hf, p', l2, c2, hl2, ?_⟩
    rw [lc_c1 (lc_240 (by omega)) hpk, lc_pass hT h1]
    simp only [Option.bind_some]
    rw [e1]
    simp only [Option.bind_some]
    rw [e2]
    simp only [Option.bind_some]
    rw [la_a1]
    by_cases i4 : i + 1 < 240
    · rw [lc_c0 (lc_240 i4) (lc_peekD ndf) (by decide)]
    · rw [lc_c4 (by show Int32.ofNat 240 ≤ Int32.ofNat (i + 1); rw [la_le (by omega) (by omega)]; omega)]
  case c_co =>
    intro d p e e2 s o h ih iq
    intro m N L c i hm hp hd6 hL hi hN
    obtain ⟨N, rfl⟩ : ∃ q, N = q + 1 := ⟨N - 1, by omega⟩
    have s1 := la_sk_n (b := b) hp
    have hx := lc_by_le hT (p := p)
    have h240 := hT.1
    have h1 : la_sk b n p < n := la_by_n h (by omega)
    have h240 := hT.1
    have hpk : f_X10_peek (lc_st S y (Int32.ofNat p) (Int32.ofInt (-1)) (Int32.ofNat (L + (la_cd e).length)) (lc_wr (la_cd e) c L)) = some (124, lc_st S y (Int32.ofNat (la_sk b n p)) (Int32.ofInt (-1)) (Int32.ofNat (L + (la_cd e).length)) (lc_wr (la_cd e) c L)) := by
      rw [lc_peek hT hp, h]; rfl
    obtain ⟨e1, l1, n1⟩ := ih m (L + (la_cd e).length) (lc_wr (la_cd e) c L) (by omega) (by omega) hd6 (by omega)
    obtain ⟨_, lX, _⟩ := ih m (la_sk b n p + 1) c (by omega) (by omega) hd6 (by omega)
    rw [lc_c1 (lc_240 (by omega)) hpk, lc_pass hT h1]
    simp only [Option.bind_some]
    rw [e1]
    simp only [Option.bind_some]
    rw [lc_emit (by omega)]
    simp only [Option.bind_some]
    rw [la_a1]
    have r := iq m N L c (i + 1) (by omega) n1 hd6 (by rw [lc_tb_l]; omega) (by omega) (by omega)
    rw [lc_tb_l, lc_tb_w] at r
    exact r
end

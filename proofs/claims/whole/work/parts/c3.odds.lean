/-! QUERIES: odds. The one side splits 10 to the 9 parts by ways in a row, the other by recursion -/
def sl (q x : Nat) : Nat := x * q / 100
def pt (q : Nat) : Nat → Nat → Nat
  | 0, w => if w = 0 then 1000000000 else 0
  | k + 1, w => if w < 2 ^ k then pt q k w - sl q (pt q k w) else if w < 2 ^ (k + 1) then sl q (pt q k (w - 2 ^ k)) else 0
def pc (w : Nat) : Nat := w % 2 + w / 2 % 2 + w / 4 % 2 + w / 8 % 2 + w / 16 % 2
def od (D : Nat → Prop) [DecidablePred D] (q : Nat) : Nat → Nat → Nat → Nat
  | 0, h, x => if D h then x else 0
  | k + 1, h, x => od D q k h (sl q x) + od D q k (h + 1) (x - sl q x)
def sm (f : Nat → Nat) : Nat → Nat
  | 0 => 0
  | k + 1 => sm f k + f k
theorem sl_le {q x : Nat} (h : q ≤ 100) : sl q x ≤ x := by
  unfold sl
  have : x * q ≤ x * 100 := Nat.mul_le_mul_left x h
  omega
theorem pt_le {q : Nat} (h : q ≤ 100) : ∀ k w, pt q k w ≤ 1000000000
  | 0, w => by
    unfold pt
    split <;> omega
  | k + 1, w => by
    unfold pt
    have h1 := pt_le h k w
    have h2 := pt_le h k (w - 2 ^ k)
    have h3 := sl_le (x := pt q k (w - 2 ^ k)) h
    split
    · omega
    · split <;> omega
theorem pt_0 {q : Nat} : ∀ k w, 2 ^ k ≤ w → pt q k w = 0
  | 0, w, h => by
    unfold pt
    have : (2 : Nat) ^ 0 = 1 := rfl
    rw [if_neg (by omega)]
  | k + 1, w, h => by
    unfold pt
    have : (2 : Nat) ^ (k + 1) = 2 ^ k * 2 := Nat.pow_succ 2 k
    rw [if_neg (by omega), if_neg (by omega)]
theorem sm_c {f g : Nat → Nat} : ∀ k, (∀ w, w < k → f w = g w) → sm f k = sm g k
  | 0, _ => rfl
  | k + 1, h => by
    unfold sm
    rw [sm_c k (fun w hw => h w (by omega)), h k (by omega)]
theorem sm_add {f g : Nat → Nat} : ∀ k, sm (fun w => f w + g w) k = sm f k + sm g k
  | 0 => rfl
  | k + 1 => by
    show sm (fun w => f w + g w) k + (f k + g k) = sm f k + f k + (sm g k + g k)
    rw [sm_add k]
    omega
theorem sm_app {f : Nat → Nat} {a : Nat} : ∀ b, sm f (a + b) = sm f a + sm (fun w => f (a + w)) b
  | 0 => rfl
  | b + 1 => by
    show sm f (a + b) + f (a + b) = sm f a + (sm (fun w => f (a + w)) b + f (a + b))
    rw [sm_app b]
    omega
theorem sm_z {f : Nat → Nat} : ∀ k, (∀ w, w < k → f w = 0) → sm f k = 0
  | 0, _ => rfl
  | k + 1, h => by
    unfold sm
    rw [sm_z k (fun w hw => h w (by omega)), h k (by omega)]
theorem sm_one {g : Nat → Nat} {x : Nat} : ∀ m, sm (fun s => if x = s then g s else 0) m = if x < m then g x else 0
  | 0 => by
    rw [if_neg (by omega)]
    rfl
  | m + 1 => by
    unfold sm
    rw [sm_one m]
    by_cases h : x = m
    · rw [if_pos h, if_neg (by omega), if_pos (by omega), h]
      omega
    · rw [if_neg h]
      by_cases h2 : x < m
      · rw [if_pos h2, if_pos (by omega)]
        omega
      · rw [if_neg h2, if_neg (by omega)]
theorem sm_swap {G : Nat → Prop} [DecidablePred G] {r : Nat → Nat} {m : Nat} : ∀ k, sm (fun s => if G s then sm (fun w => if pc w = s then r w else 0) k else 0) m = sm (fun w => if pc w < m then (if G (pc w) then r w else 0) else 0) k
  | 0 => by
    refine sm_z m (fun w _ => ?_)
    show (if G w then 0 else 0) = 0
    split <;> rfl
  | k + 1 => by
    show _ = sm (fun w => if pc w < m then (if G (pc w) then r w else 0) else 0) k + (if pc k < m then (if G (pc k) then r k else 0) else 0)
    rw [← sm_swap k, ← sm_one (g := fun s => if G s then r k else 0) m, ← sm_add]
    refine sm_c m (fun s _ => ?_)
    show (if G s then sm (fun w => if pc w = s then r w else 0) k + (if pc k = s then r k else 0) else 0) = _
    by_cases h : G s
    · rw [if_pos h, if_pos h]
      by_cases h2 : pc k = s
      · rw [if_pos h2, if_pos h2, if_pos h]
      · rw [if_neg h2, if_neg h2]
    · rw [if_neg h, if_neg h]
      by_cases h2 : pc k = s
      · rw [if_pos h2, if_neg h]
      · rw [if_neg h2]
theorem pc_lt : ∀ k, k < 6 → ∀ w, w < 2 ^ k → pc w ≤ k := by decide +kernel
theorem pc_up : ∀ k, k < 5 → ∀ w, w < 2 ^ k → pc (2 ^ k + w) = pc w + 1 := by decide +kernel
theorem od_lv {D : Nat → Prop} [DecidablePred D] {q n : Nat} : ∀ j, j ≤ n → j < 6 → sm (fun w => od D q (n - j) (j - pc w) (pt q j w)) (2 ^ j) = od D q n 0 1000000000
  | 0, _, _ => by
    show 0 + od D q (n - 0) (0 - pc 0) (pt q 0 0) = _
    have e : pt q 0 0 = 1000000000 := rfl
    rw [e, Nat.zero_add, Nat.sub_zero, Nat.zero_sub]
  | j + 1, h, h6 => by
    rw [← od_lv j (by omega) (by omega)]
    have e2 : (2 : Nat) ^ (j + 1) = 2 ^ j + 2 ^ j := by rw [Nat.pow_succ]; omega
    rw [e2, sm_app, ← sm_add]
    refine sm_c _ (fun w hw => ?_)
    have p1 := pc_lt j (by omega) w hw
    have p2 := pc_up j (by omega) w hw
    have t1 : pt q (j + 1) w = pt q j w - sl q (pt q j w) := by rw [pt, if_pos hw]
    have t2 : pt q (j + 1) (2 ^ j + w) = sl q (pt q j w) := by
      rw [pt, if_neg (by omega), if_pos (by omega), Nat.add_sub_cancel_left]
    rw [t1, t2, p2]
    obtain ⟨m, hm⟩ : ∃ m, n - j = m + 1 := ⟨n - j - 1, by omega⟩
    rw [hm, (by omega : n - (j + 1) = m), (by omega : j + 1 - (pc w + 1) = j - pc w), (by omega : j + 1 - pc w = j - pc w + 1)]
    show _ = od D q m (j - pc w) (sl q (pt q j w)) + od D q m (j - pc w + 1) (pt q j w - sl q (pt q j w))
    omega
theorem od_sum {D : Nat → Prop} [DecidablePred D] {q n : Nat} (hn : n < 6) : sm (fun s => if D (n - s) then sm (fun w => if pc w = s then pt q n w else 0) 32 else 0) (n + 1) = od D q n 0 1000000000 := by
  rw [sm_swap (G := fun s => D (n - s)), ← od_lv n (by omega) hn, Nat.sub_self]
  have h32 : (2 : Nat) ^ n ≤ 32 := Nat.pow_le_pow_right (j := 5) (by omega) (by omega)
  obtain ⟨m, hm⟩ : ∃ m, 32 = 2 ^ n + m := ⟨32 - 2 ^ n, by omega⟩
  rw [hm, sm_app, sm_z (f := fun w => _) m (fun w _ => ?_), Nat.add_zero]
  · refine sm_c _ (fun w hw => ?_)
    have := pc_lt n hn w hw
    rw [if_pos (by omega)]
    rfl
  · have e := pt_0 (q := q) n (2 ^ n + w) (by omega)
    show (if pc (2 ^ n + w) < n + 1 then (if D (n - pc (2 ^ n + w)) then pt q n (2 ^ n + w) else 0) else 0) = 0
    rw [e]
    split
    · split <;> rfl
    · rfl
theorem bc_v : ∀ w, w < 32 → ∀ S : AS, f_J6_bitCount_0f7a4 (nI w) S = some (nI (pc w)) := by
  intro w hw S
  have : ∀ w, w < 32 → f_J6_bitCount_0f7a4 (nI w) (fun _ _ _ => 0, fun _ _ _ => 0, fun _ _ _ => 0, fun _ _ _ => none, fun _ _ _ => 0, fun _ _ _ => 0) = some (nI (pc w)) := by decide +kernel
  exact this w hw
section
variable {S T S1 T1 : AS} {o : Nat} {H N : Nat → Nat} {W : Option (List la_C)} {M : Nat} {K : Nat → List la_C}
theorem sgal {k i j j' : Nat} {v : Int64} : ax_al (ax_sal S k i j v) k i j' = if j' = j then v else ax_al S k i j' := by
  show (if k = k ∧ i = i ∧ j' = j then v else S.2.2.2.2.2 k i j') = if j' = j then v else S.2.2.2.2.2 k i j'
  by_cases h : j' = j
  · rw [if_pos ⟨rfl, rfl, h⟩, if_pos h]
  · rw [if_neg (fun q => h q.2.2), if_neg h]
theorem sp_L2 {Kc : Int32 → Int32 → AS → Option AS} {a b : Int32} : ∀ d m p S, (∀ w, w < p → ax_al S 22 0 w = 0) → p + d = 32 → d < m → ∃ Z, f_X1_split_L2 Kc m a b (nI p) S = Kc a b Z ∧ ∀ w, w < 32 → ax_al Z 22 0 w = 0
  | 0, m + 1, p, S, h, hp, _ => by
    obtain rfl : p = 32 := by omega
    rw [f_X1_split_L2, if_pos (by decide)]
    exact ⟨S, rfl, h⟩
  | d + 1, m + 1, p, S, h, hp, hm => by
    have c : (Int32.ofNat 32 ≤ nI p) ↔ 32 ≤ p := nI_leI (a := 32) (by omega) (by omega)
    rw [f_X1_split_L2, if_neg (fun z => absurd (c.mp z) (by omega)), sn_in (by omega) (by omega), sn_gd, nI_clamp (by omega), sn_let, sn_let, nI_1]
    refine sp_L2 d m (p + 1) _ (fun w hw => ?_) (by omega) (by omega)
    rw [sgal]
    by_cases q : w = p
    · rw [if_pos q]
    · rw [if_neg q]; exact h w (by omega)
def md (q k p w : Nat) : Nat := if w < p then pt q k w - sl q (pt q k w) else if 2 ^ k ≤ w ∧ w < 2 ^ k + p then sl q (pt q k (w - 2 ^ k)) else pt q k w
theorem l_100 : (100 : Int64) = lN 100 := Eq.trans rfl rfl
theorem sl_l {q x : Nat} (hq : q ≤ 100) (hx : x ≤ 1000000000) : lN x * (nI q).toInt64 / (100 : Int64) = lN (sl q x) := by
  have : x * q ≤ 1000000000 * 100 := Nat.mul_le_mul hx hq
  rw [nI_l (by omega), lN_mul, l_100, pk_lDiv (by omega) (by omega) (by omega)]
  rfl
theorem sp_L53 {Kc : Int32 → Int32 → Int32 → AS → Option AS} {a y : Int32} {q k : Nat} (hq : q ≤ 100) (hk : k < 5) : ∀ d m p S, (∀ w, w < 32 → ax_al S 22 0 w = lN (md q k p w)) → p + d = 2 ^ k → d < m → ∃ Z, f_X1_split_L53 Kc m a (nI q) y (nI (2 ^ k)) (nI p) S = Kc a (nI q) y Z ∧ ∀ w, w < 32 → ax_al Z 22 0 w = lN (pt q (k + 1) w)
  | 0, m + 1, p, S, h, hp, _ => by
    have h16 : (2 : Nat) ^ k ≤ 16 := Nat.pow_le_pow_right (j := 4) (by omega) (by omega)
    have e2 : (2 : Nat) ^ (k + 1) = 2 ^ k + 2 ^ k := by rw [Nat.pow_succ]; omega
    rw [f_X1_split_L53, if_pos ((nI_leI (by omega) (by omega)).mpr (by omega))]
    refine ⟨S, rfl, fun w hw => ?_⟩
    rw [h w hw]
    unfold md
    rw [pt]
    by_cases q1 : w < 2 ^ k
    · rw [if_pos (by omega), if_pos q1]
    · rw [if_neg (by omega), if_neg q1]
      by_cases q2 : w < 2 ^ (k + 1)
      · rw [if_pos (by omega), if_pos q2]
      · rw [if_neg (by omega), if_neg q2, pt_0 k w (by omega)]
  | d + 1, m + 1, p, S, h, hp, hm => by
    have h16 : (2 : Nat) ^ k ≤ 16 := Nat.pow_le_pow_right (j := 4) (by omega) (by omega)
    have hx := pt_le hq k p
    have e1 : ax_al S 22 0 p = lN (pt q k p) := by
      rw [h p (by omega)]
      unfold md
      rw [if_neg (by omega), if_neg (by omega)]
    have es : lN (pt q k p) - lN (sl q (pt q k p)) = lN (pt q k p - sl q (pt q k p)) := lN_sub (sl_le hq)
    rw [f_X1_split_L53, if_neg (fun z => absurd ((nI_leI (by omega) (by omega)).mp z) (by omega)), sn_in (by omega) (by omega), sn_gd, nI_clamp (by omega), e1, sl_l hq hx, sn_let, sn_gd, sn_gd, es, sn_let, nI_add, sn_in (by omega) (by omega), sn_gd, nI_clamp (by omega), sn_let, sn_let, nI_1]
    refine sp_L53 hq hk d m (p + 1) _ (fun w hw => ?_) (by omega) (by omega)
    rw [sgal, sgal, h w hw]
    unfold md
    by_cases q1 : w = 2 ^ k + p
    · rw [if_pos q1, if_neg (by omega), if_pos (by omega), (by omega : w - 2 ^ k = p)]
    · rw [if_neg q1]
      by_cases q2 : w = p
      · rw [if_pos q2, if_pos (by omega), q2]
      · rw [if_neg q2]
        by_cases q3 : w < p
        · rw [if_pos q3, if_pos (by omega)]
        · rw [if_neg q3, if_neg (show ¬ (w < p + 1) by omega)]
          by_cases q4 : 2 ^ k ≤ w ∧ w < 2 ^ k + p
          · rw [if_pos q4, if_pos (by omega)]
          · rw [if_neg q4, if_neg (by omega)]
theorem sp_L35 {Kc : AS → Option AS} {q n : Nat} (hq : q ≤ 100) (hn : n ≤ 5) : ∀ d m k S, (∀ w, w < 32 → ax_al S 22 0 w = lN (pt q k w)) → k + d = n → d < m → ∃ Z, f_X1_split_L35 Kc m (nI n) (nI q) (nI k) S = Kc Z ∧ ∀ w, w < 32 → ax_al Z 22 0 w = lN (pt q n w)
  | 0, m + 1, k, S, h, hp, _ => by
    obtain rfl : k = n := by omega
    rw [f_X1_split_L35, if_pos ((nI_leI (by omega) (by omega)).mpr (by omega))]
    exact ⟨S, rfl, h⟩
  | d + 1, m + 1, k, S, h, hp, hm => by
    have c5 : ((5 : Int32) ≤ nI k) ↔ 5 ≤ k := nI_leI (a := 5) (by omega) (by omega)
    have h16 : (2 : Nat) ^ k ≤ 16 := Nat.pow_le_pow_right (j := 4) (by omega) (by omega)
    obtain ⟨Z, z1, z2⟩ := sp_L53 (Kc := (fun (x26 : Int32) (x27 : Int32) (x28 : Int32) (S40 : AS) => ax_let (x28 + (1 : Int32)) (fun (v41 : Int32) => f_X1_split_L35 Kc m x26 x27 v41 S40))) (a := nI n) (y := nI k) (k := k) hq (by omega) (2 ^ k) ax_F 0 S (fun w hw => by
      rw [h w hw]
      unfold md
      rw [if_neg (by omega), if_neg (by omega)]) (by omega) (by show _ < 1000000; omega)
    rw [← sn_0, sn_let, nI_1] at z1
    rw [f_X1_split_L35, if_neg (fun z => absurd ((nI_leI (by omega) (by omega)).mp z) (by omega)), if_neg (fun z => absurd (c5.mp z) (by omega)), sn_let, ap_pw k (by omega), z1]
    exact sp_L35 hq hn d m (k + 1) Z z2 (by omega) (by omega)
theorem sp_all {q n : Nat} (hq : q ≤ 100) (hn : n ≤ 5) : ∃ Z, f_X1_split (nI n) (nI q) S = some Z ∧ ax_fr w_X1_split S Z ∧ ∀ w, w < 32 → ax_al Z 22 0 w = lN (pt q n w) := by
  obtain ⟨U, u1, u2⟩ := sp_L2 (Kc := (fun (x4 : Int32) (x5 : Int32) (S11 : AS) => ax_gd (ax_in (0 : Int32) 32) (ax_let (ax_sal S11 22 0 (0 : Int32).toNatClampNeg (1000000000 : Int64)) (fun (S13 : AS) => f_X1_split_L35 (fun (S42 : AS) => some S42) ax_F x4 x5 (0 : Int32) S13)))) (a := nI n) (b := nI q) 32 ax_F 0 S (fun w hw => absurd hw (by omega)) (by omega) (by show _ < 1000000; omega)
  have e : f_X1_split (nI n) (nI q) S = f_X1_split_L35 (fun (S42 : AS) => some S42) ax_F (nI n) (nI q) (0 : Int32) (ax_sal U 22 0 0 (1000000000 : Int64)) := by
    rw [← sn_0] at u1
    unfold f_X1_split
    rw [u1]
    have i0 : ax_in (0 : Int32) 32 = true := by decide
    rw [i0, sn_gd, cl_r0, sn_let]
  obtain ⟨Z, z1, z2⟩ := sp_L35 (Kc := fun (S42 : AS) => some S42) hq hn n ax_F 0 (ax_sal U 22 0 0 (1000000000 : Int64)) (fun w hw => by
    rw [sgal, pt]
    by_cases h : w = 0
    · rw [if_pos h, if_pos h]; rfl
    · rw [if_neg h, if_neg h]
      exact u2 w hw) (by omega) (by show _ < 1000000; omega)
  rw [← sn_0] at z1
  have ez := e.trans z1
  exact ⟨Z, ez, fr_X1_split ez, z2⟩
theorem po_L {f : Nat → Nat} {s : Nat} (hs : s < 6) (h : ∀ w, w < 32 → ax_al S 22 0 w = lN (f w)) : ∀ d m p, p + d = 32 → d < m → f_X1_partOf_L5 S (fun (x4 : Int64) => some x4) m (nI s) (lN (sm (fun w => if pc w = s then f w else 0) p)) (nI p) = some (lN (sm (fun w => if pc w = s then f w else 0) 32))
  | 0, m + 1, p, hp, _ => by
    obtain rfl : p = 32 := by omega
    rw [f_X1_partOf_L5, if_pos (by decide)]
  | d + 1, m + 1, p, hp, hm => by
    have c : (Int32.ofNat 32 ≤ nI p) ↔ 32 ≤ p := nI_leI (a := 32) (by omega) (by omega)
    have p5 : pc p < 6 := by
      have := pc_lt 5 (by omega) p (by show p < 32; omega)
      omega
    have ce : (nI (pc p) = nI s) ↔ pc p = s := nI_eq (by omega) (by omega)
    have z0 : (0 : Int64) = lN 0 := Eq.trans rfl rfl
    have w := po_L hs h d m (p + 1) (by omega) (by omega)
    rw [show sm (fun w => if pc w = s then f w else 0) (p + 1) = sm (fun w => if pc w = s then f w else 0) p + (if pc p = s then f p else 0) from rfl] at w
    rw [f_X1_partOf_L5, if_neg (fun z => absurd (c.mp z) (by omega)), bc_v p (by omega), sn_bs]
    by_cases q : pc p = s
    · rw [if_pos q] at w
      rw [if_pos (ce.mpr q), sn_in (by omega) (by omega), sn_gd, nI_clamp (by omega), h p (by omega), lN_add, sn_let, sn_let, nI_1]
      exact w
    · rw [if_neg q] at w
      rw [if_neg (fun z => q (ce.mp z)), z0, lN_add, sn_let, sn_let, nI_1]
      exact w
theorem po {f : Nat → Nat} {s : Nat} (hs : s < 6) (h : ∀ w, w < 32 → ax_al S 22 0 w = lN (f w)) : f_X1_partOf (nI s) S = some (lN (sm (fun w => if pc w = s then f w else 0) 32)) := by
  have w := po_L hs h 32 ax_F 0 (by omega) (by show _ < 1000000; omega)
  rw [← sn_0] at w
  exact w
/-- his business is done with so many hard sounds -/
def oD (H : Nat → Nat) (W : Option (List la_C)) (N : Nat → Nat) (v h : Nat) : Prop := ¬ (bt H W v h (N (2 * v)) (N 17) (N 18) (N 22) < H (19 + 7 * v))
theorem oB (h : jq o H N W M K S T) {v p : Nat} (hv : v < H 4) (hp : p ≤ 9) : ∃ Z Y, f_X6_beatsHard 0 (nI v) (nI p) S = some (nI (bt H W v p (N (2 * v)) (N 17) (N 18) (N 22)), Z) ∧ f_X12_takesHard (nI v) (nI p) T = some (nI (bt H W v p (N (2 * v)) (N 17) (N 18) (N 22)), Y) ∧ ax_fr jc_scr S Z ∧ ax_fr jr_q T Y ∧ jr_C Y H M K W ∧ jq o H N W M K Z Y := by
  have f := jq_n h hv
  obtain ⟨Z, Y, z1, y1, z2, y2, y3, hq⟩ := jq_b h (v := v) (a := p) (t := N (2 * v)) (g := N 17) (s := N 18) (d := N 22) hv (by omega) (by omega) (by omega) (by omega) (by omega)
  have hS := h.2.2.2.1
  have hR := h.2.2.2.2.2
  refine ⟨Z, Y, ?_, ?_, z2, y2, y3, hq⟩
  · unfold f_X6_beatsHard
    rw [jc_titles hS (by omega), sn_bs, hS.2.2.2.1, hS.2.2.2.2.1, hS.2.2.2.2.2.2.2.1, z1, ax_bu_s]
  · unfold f_X12_takesHard
    rw [ix_e, sn_in (by omega) (by omega), sn_gd, in_17, sn_gd, in_18, sn_gd, in_22, sn_gd, nI_clamp (by omega), cl_17, cl_18, cl_22, hR _ (by omega), hR 17 (by omega), hR 18 (by omega), hR 22 (by omega), y1, ax_bu_s]
theorem oR {v q : Nat} (hv : v < H 4) (hq : q ≤ 100) [DecidablePred (oD H W N v)] : ∀ n m h x S T, jq o H N W M K S T → n + h ≤ 9 → x ≤ 1000000000 → n < m → ∃ Y, g_Odds m 0 (nI v) (nI n) (nI h) (nI q) (nI x) T = some (nI (od (oD H W N v) q n h x), Y) ∧ ax_fr jr_q T Y ∧ jr_C Y H M K W ∧ jq o H N W M K S Y
  | 0, m + 1, h, x, S, T, hj, hh, hx, _ => by
    have f := jq_n hj hv
    obtain ⟨Z, Y, z1, y1, z2, y2, y3, hj2⟩ := oB hj hv (p := h) (by omega)
    have bb : bt H W v h (N (2 * v)) (N 17) (N 18) (N 22) ≤ 60 := bt_b.2
    have jY : jq o H N W M K S Y := jq_fr hj ax_fr.rf y2 y3
    rw [g_Odds, b_X12_oddsFrom, if_pos (sn_0).symm, y1, ax_bu_s, (jr_ofw jY hv).1, sn_bs]
    by_cases hd : bt H W v h (N (2 * v)) (N 17) (N 18) (N 22) < H (19 + 7 * v)
    · refine ⟨Y, ?_, y2, y3, jY⟩
      rw [if_pos ((nI_ltI (by omega) (by omega)).mpr hd)]
      show some ((0 : Int32), Y) = some (nI (if oD H W N v h then x else 0), Y)
      rw [if_neg (fun z => z hd)]
      rfl
    · refine ⟨Y, ?_, y2, y3, jY⟩
      rw [if_neg (fun z => hd ((nI_ltI (by omega) (by omega)).mp z))]
      show _ = some (nI (if oD H W N v h then x else 0), Y)
      rw [if_pos (show oD H W N v h from hd)]
  | n + 1, m + 1, h, x, S, T, hj, hh, hx, hm => by
    have nz : ¬ (nI (n + 1) = (0 : Int32)) := fun z => absurd ((nI_eq (b := 0) (by omega) (by omega)).mp z) (by omega)
    have sx := sl_le (q := q) (x := x) hq
    have es : ((nI x).toInt64 * (nI q).toInt64 / (100 : Int64)).toInt32 = nI (sl q x) := by
      rw [nI_l (n := x) (by omega), sl_l hq hx, lN_i]
    obtain ⟨Y, y1, y2, y3, y4⟩ := oR hv hq n m h (sl q x) S T hj (by omega) (by omega) (by omega)
    obtain ⟨X, x1, x2, x3, x4⟩ := oR hv hq n m (h + 1) (x - sl q x) S Y y4 (by omega) (by omega) (by omega)
    refine ⟨X, ?_, y2.tr x2, x3, x4⟩
    rw [g_Odds, b_X12_oddsFrom, if_neg nz, es, sn_let, sn_1, pk_sub (by omega), Nat.add_sub_cancel, y1, ax_bu_s, nI_add, pk_sub sx, x1, ax_bu_s, nI_add]
    rfl
theorem oC {v q n : Nat} (hv : v < H 4) (hn : n ≤ 5) [DecidablePred (oD H W N v)] : ∀ d m s S T, jq o H N W M K S T → (∀ w, w < 32 → ax_al S 22 0 w = lN (pt q n w)) → s + d = n + 1 → d < m → ∃ Z, f_X11_odds_L45 (fun (x19 : Int64) (S38 : AS) => some (x19.toInt32, S38)) m (nI v) (nI n) (lN (sm (fun s => if oD H W N v (n - s) then sm (fun w => if pc w = s then pt q n w else 0) 32 else 0) s)) (nI s) S = some (nI (sm (fun s => if oD H W N v (n - s) then sm (fun w => if pc w = s then pt q n w else 0) 32 else 0) (n + 1)), Z)
  | 0, m + 1, s, S, T, hj, h, hp, _ => by
    obtain rfl : s = n + 1 := by omega
    rw [f_X11_odds_L45, if_pos ((nI_ltI (by omega) (by omega)).mpr (by omega)), lN_i]
    exact ⟨S, rfl⟩
  | d + 1, m + 1, s, S, T, hj, h, hp, hm => by
    have f := jq_n hj hv
    obtain ⟨Z, Y, z1, y1, z2, y2, y3, hj2⟩ := oB hj hv (p := n - s) (by omega)
    have bb : bt H W v (n - s) (N (2 * v)) (N 17) (N 18) (N 22) ≤ 60 := bt_b.2
    have hZ : ∀ w, w < 32 → ax_al Z 22 0 w = lN (pt q n w) := fun w hw => by
      rw [z2.2.2.2.2.2 22 0 (by decide)]
      exact h w hw
    obtain ⟨V, w⟩ := oC hv hn d m (s + 1) Z Y hj2 hZ (by omega) (by omega)
    rw [show sm (fun s => if oD H W N v (n - s) then sm (fun w => if pc w = s then pt q n w else 0) 32 else 0) (s + 1) = sm (fun s => if oD H W N v (n - s) then sm (fun w => if pc w = s then pt q n w else 0) 32 else 0) s + (if oD H W N v (n - s) then sm (fun w => if pc w = s then pt q n w else 0) 32 else 0) from rfl] at w
    refine ⟨V, ?_⟩
    rw [f_X11_odds_L45, if_neg (fun z => absurd ((nI_ltI (by omega) (by omega)).mp z) (by omega)), pk_sub (by omega), z1, ax_bu_s, jc_done hj2.2.2.1.1 hj.1 hv bb, sn_bs]
    by_cases hd : bt H W v (n - s) (N (2 * v)) (N 17) (N 18) (N 22) < H (19 + 7 * v)
    · rw [if_neg (show ¬ oD H W N v (n - s) from fun z => z hd), Nat.add_zero] at w
      rw [if_pos hd, if_pos rfl, sn_let, nI_1]
      exact w
    · rw [if_pos (show oD H W N v (n - s) from hd)] at w
      rw [if_neg hd, if_neg ne10, po (by omega) hZ, sn_bs, lN_add, sn_let, sn_let, nI_1]
      exact w
end
section
variable {S T : AS}
theorem x_odds (h : jI S T) (a b : Int32) : jX (f_X11_odds a b S) (f_X12_odds a b T) := by
  obtain ⟨o, H, N, W, M, K, c, L, E, cn, Q, im, NI, LI, hI, tn, tb, wh, n, ca, P, Lg, hi, hR, hC, hA⟩ := h
  have hq0 := jI_q hR hC hA
  have hq := jq_thr (v := 0) hq0
  have q2 : ax_fr jr_q T (ax_sfi T 12 0 0 0) := jr_thr
  have y3 := hq.2.2.2.2.1
  have c0 : (b < 0) ↔ b.toInt < ((0 : Nat) : Int) := lt_i rfl
  have c100 : (b ≤ 100) ↔ b.toInt ≤ ((100 : Nat) : Int) := le_i rfl
  have go : ∀ r S' T', f_X11_odds a b S = some (r, S') → f_X12_odds a b T = some (r, T') → jr_C T' H M K W → jX (f_X11_odds a b S) (f_X12_odds a b T) := fun r S' T' e1 e2 e3 => by
    have f1 := fr_X11_odds e1
    have f2 := fr_X12_odds e2
    refine ⟨r, S', T', e1, e2, jI_g hR hA ⟨cg0_f f1 (by decide), cg1_f f1 (fun j => by simp) (fun j => by simp) (by decide) (by decide) (by decide) (by decide)⟩ (rg_q (f2.mono (by decide))) e3⟩
  unfold f_X11_odds f_X12_odds at go ⊢
  rw [sn_let] at go ⊢
  generalize ax_sfi T 12 0 0 0 = Y at *
  rcases jc_noC hR.2.1 hR.1 a with ⟨v, hv, rfl, e⟩ | ⟨hx, e⟩
  · rw [e, sn_bs, if_pos rfl, jr_isC y3.1 hR.1 hv, sn_bs, if_neg ne10] at go ⊢
    rcases rg i_0 i_100 b with ⟨q, m1, m2, rfl, g⟩ | ⟨m1, g⟩
    · rw [nIi (by omega)] at c0 c100
      have f := jq_n hq hv
      have et := jc_trait hR.2.1 hR.1 hv (w := 1) (by omega)
      rw [← sn_1, (by omega : 16 + 7 * v + 1 = 17 + 7 * v)] at et
      rw [g, sn_bs, if_neg ne10, if_neg (fun z => absurd (c0.mp z) (by omega)), if_pos (c100.mpr (by omega)), hR.2.1.2.1, et, sn_bs, (jr_ofw hq hv).2.1, sn_bs] at go ⊢
      obtain ⟨U, u1, u2, u3⟩ := sp_all (S := S) (q := q) (n := H (17 + 7 * v)) m2 (by omega)
      have hU : jq o H N W M K U Y := by
        have g1 : cg0 o M c S U := cg0_f u2 (by decide)
        have g2 : cg1 S U := cg1_f u2 (fun j => by simp) (fun j => by simp) (by decide) (by decide) (by decide) (by decide)
        have hRU := jR_g g1 (rg_q q2).1 hR
        exact ⟨hR.1, hA.1, ⟨hRU.2.1, jz_W hRU.2.2.1⟩, jc_S_0 g2 hA.2.1, y3, hq.2.2.2.2.2⟩
      have dc : DecidablePred (oD H W N v) := fun h => Classical.propDecidable _
      obtain ⟨Z, z1⟩ := oC (q := q) hv (n := H (17 + 7 * v)) (by omega) (H (17 + 7 * v) + 1) ax_F 0 U Y hU u3 (by omega) (by show _ < 1000000; omega)
      obtain ⟨X, x1, x2, x3, x4⟩ := oR hv m2 (H (17 + 7 * v)) ax_D 0 1000000000 U Y hU (by omega) (by omega) (by show _ < 64; omega)
      rw [od_sum (by omega)] at z1
      have z0 : (0 : Int64) = lN (sm (fun s => if oD H W N v (H (17 + 7 * v) - s) then sm (fun w => if pc w = s then pt q (H (17 + 7 * v)) w else 0) 32 else 0) 0) := Eq.trans rfl rfl
      rw [← z0, ← sn_0] at z1
      rw [← sn_0] at x1
      have b9 : (1000000000 : Int32) = nI 1000000000 := Eq.trans rfl rfl
      rw [← b9] at x1
      rw [u1, sn_bs, z1, x1, ax_bu_s] at go ⊢
      exact go _ Z X rfl rfl x3
    · rw [g, sn_bs, if_pos rfl] at go ⊢
      by_cases z : b < 0
      · rw [if_pos z] at go ⊢
        exact act_no hR hA ax_fr.rf q2 y3
      · rw [if_neg z, if_neg (fun z2 => by have := c100.mp z2; have w : ¬ (b.toInt < ((0 : Nat) : Int)) := fun w => z (c0.mpr w); omega)] at go ⊢
        exact act_no hR hA ax_fr.rf q2 y3
  · rw [e, sn_bs, if_neg ne10, jr_isC0 y3.1 hR.1 hx, sn_bs, if_pos rfl] at go ⊢
    exact act_no hR hA ax_fr.rf q2 y3
end

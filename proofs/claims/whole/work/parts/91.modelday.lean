/-! THE REFERENCE: a day ends -/
def rw_st (T : AS) (R : Nat) (f : Nat → Int32) : AS := (T.1, T.2.1, T.2.2.1, T.2.2.2.1, (fun a b j => if a = R ∧ b = 0 then f j else T.2.2.2.2.1 a b j), T.2.2.2.2.2)
section
variable {T Z : AS} {R : Nat} {H N : Nat → Nat} {f : Nat → Int32}
theorem rw_g : ax_ai (rw_st T R f) R 0 = f := by funext j; simp [ax_ai, rw_st]
theorem rw_fi : ax_fi (rw_st T R f) = ax_fi T := rfl
theorem rw_s {j : Nat} {v : Int32} : ax_sai (rw_st T R f) R 0 j v = rw_st T R (fun i => if i = j then v else f i) := by
  unfold ax_sai rw_st ax_u3
  refine Prod.ext rfl (Prod.ext rfl (Prod.ext rfl (Prod.ext rfl (Prod.ext (funext fun a => funext fun b => funext fun j => ?_) rfl))))
  dsimp only
  repeat' split
  all_goals first | rfl | (exfalso; omega)
theorem rw_e : rw_st T R (ax_ai T R 0) = T := by
  unfold rw_st ax_ai
  refine Prod.ext rfl (Prod.ext rfl (Prod.ext rfl (Prod.ext rfl (Prod.ext (funext fun a => funext fun b => funext fun j => ?_) rfl))))
  dsimp only
  split
  · rename_i h; rw [h.1, h.2]
  · rfl
theorem rw_st_st : jr_st T (rw_st T R f) R := by
  refine ⟨fun _ _ _ _ => rfl, rfl, fun _ _ _ _ => rfl, rfl, fun k a p _ _ => ?_, fun _ _ _ => rfl⟩
  funext j
  exact if_neg (fun q => p q.1)
theorem cb_or : ∀ v, v < 6 → ∀ a, a < 64 → a < 2 ^ v → ∀ b, b < 2 → nI a ||| (nI b <<< (nI v &&& 31)) = nI (a + b * 2 ^ v) := by decide +kernel
def cb_p (N : Nat → Nat) : Nat → Nat
  | 0 => 0
  | v + 1 => cb_p N v + N (2 * v + 1) * 2 ^ v
theorem cb_lt (h : ∀ v, v < 6 → N (2 * v + 1) ≤ 1) : ∀ v, v ≤ 6 → cb_p N v < 2 ^ v
  | 0, _ => Nat.lt_succ_self 0
  | v + 1, hv => by
    have := cb_lt h v (by omega)
    have h1 := h v (by omega)
    show cb_p N v + N (2 * v + 1) * 2 ^ v < 2 ^ (v + 1)
    rw [Nat.pow_succ]
    rcases (by omega : N (2 * v + 1) = 0 ∨ N (2 * v + 1) = 1) with e | e <;> rw [e] <;> omega
theorem cb_bits (hz : ∀ v, v < 6 → H 4 ≤ v → N (2 * v + 1) = 0) (h6 : H 4 ≤ 6) : cb_p N (H 4) = jn_bits N := by
  have e : ∀ d v, v + d = 6 → H 4 ≤ v → cb_p N (H 4) = cb_p N (H 4) → cb_p N 6 = cb_p N v := by
    intro d
    induction d with
    | zero => intro v hv _ _; have : v = 6 := by omega
              rw [this]
    | succ d ih =>
      intro v hv hx q
      rw [ih (v + 1) (by omega) (by omega) q]
      show cb_p N v + N (2 * v + 1) * 2 ^ v = _
      rw [hz v (by omega) hx]; omega
  rw [← e (6 - H 4) (H 4) (by omega) (Nat.le_refl _) rfl]
  unfold jn_bits
  simp only [cb_p, Nat.reduceMul, Nat.reduceAdd, Nat.reducePow]
  omega
/-- the row when a day has ended -/
def gd_0 (f : Nat → Int32) (g : Nat) : Nat → Int32 := if g = 60 then (fun j => if j = 23 then nI 59 else if 24 ≤ j ∧ j ≤ 200 then f (j + 3) else f j) else f
def gd_1 (f : Nat → Int32) (N : Nat → Nat) (g : Nat) : Nat → Int32 := fun j => if j < 23 then nI (cn_day N j) else if j = 23 then nI (min g 59 + 1) else if j = 24 + 3 * min g 59 then nI (N 20) else if j = 25 + 3 * min g 59 then nI (jn_bits N) else if j = 26 + 3 * min g 59 then nI (N 16) else gd_0 f g j
/-! row 55 -/
theorem cb_L55 (h27 : ax_fi T 12 0 27 = nI (H 4)) (h6 : H 4 ≤ 6) (h1 : ∀ v, v < 6 → N (2 * v + 1) ≤ 1) (hf : ∀ v, v < 6 → f (2 * v + 1) = nI (N (2 * v + 1))) : ∀ d n v, v + d = H 4 → d < n → f_X12_calledBits_55x0_L4 (rw_st T 55 f) (fun x => some x) n (nI (cb_p N v)) (nI v) = some (nI (cb_p N (H 4)))
  | 0, n + 1, v, hv, _ => by
    have e : v = H 4 := by omega
    rw [f_X12_calledBits_55x0_L4, rw_fi, h27, if_pos ((nI_leI (by omega) (by omega)).mpr (by omega)), e]
  | d + 1, n + 1, v, hv, hn => by
    have hl := cb_lt h1 v (by omega)
    have h64 : cb_p N v < 64 := Nat.lt_of_lt_of_le hl (Nat.pow_le_pow_right (by omega) (by omega : v ≤ 6))
    rw [f_X12_calledBits_55x0_L4, rw_fi, h27, if_neg (fun q => absurd ((nI_leI (by omega) (by omega)).mp q) (by omega)), ix_o, sn_in (by omega) (by omega), sn_gd, sn_let, sn_let, nI_clamp (by omega), rw_g, hf v (by omega), cb_or v (by omega) _ h64 hl _ (by have := h1 v (by omega); omega), nI_1]
    exact cb_L55 h27 h6 h1 hf d n (v + 1) (by omega) (by omega)
theorem cb_55 (h27 : ax_fi T 12 0 27 = nI (H 4)) (h6 : H 4 ≤ 6) (h1 : ∀ v, v < 6 → N (2 * v + 1) ≤ 1) (hz : ∀ v, v < 6 → H 4 ≤ v → N (2 * v + 1) = 0) (hf : ∀ v, v < 6 → f (2 * v + 1) = nI (N (2 * v + 1))) : f_X12_calledBits_55x0 (rw_st T 55 f) = some (nI (jn_bits N)) := by
  have q := cb_L55 (T := T) h27 h6 h1 hf (H 4) ax_F 0 (by omega) (by show _ < 1000000; omega)
  rw [cb_bits hz h6] at q
  unfold f_X12_calledBits_55x0
  exact q
theorem gd_a55 (h27 : ax_fi T 12 0 27 = nI (H 4)) (h6 : H 4 ≤ 6) (K : AS → Option AS) : ∀ d n v (f : Nat → Int32), v + d = H 4 → d < n → f_X12_goDay_55x0_L126 K n (nI v) (rw_st T 55 f) = K (rw_st T 55 (fun j => if 2 * v < j ∧ j < 2 * H 4 ∧ j % 2 = 1 then 0 else f j))
  | 0, n + 1, v, f, hv, _ => by
    have e : (fun j => if 2 * v < j ∧ j < 2 * H 4 ∧ j % 2 = 1 then 0 else f j) = f := by
      funext j; rw [if_neg (by omega)]
    rw [f_X12_goDay_55x0_L126, rw_fi, h27, if_pos ((nI_leI (by omega) (by omega)).mpr (by omega)), e]
  | d + 1, n + 1, v, f, hv, hn => by
    rw [f_X12_goDay_55x0_L126, rw_fi, h27, if_neg (fun q => absurd ((nI_leI (by omega) (by omega)).mp q) (by omega)), ix_o, sn_in (by omega) (by omega), sn_gd, sn_let, sn_let, nI_clamp (by omega), rw_s, nI_1, gd_a55 h27 h6 K d n (v + 1) _ (by omega) (by omega)]
    congr 2
    funext j
    by_cases q : j = 2 * v + 1
    · rw [if_neg (by omega), if_pos q, if_pos (by omega)]
    · by_cases q2 : 2 * (v + 1) < j ∧ j < 2 * H 4 ∧ j % 2 = 1
      · rw [if_pos q2, if_pos (by omega)]
      · rw [if_neg q2, if_neg q, if_neg (by omega)]
theorem gd_b55 (h26 : ax_fi T 12 0 26 = nI (H 3)) (h4 : H 3 ≤ 4) (K : AS → Option AS) : ∀ d n v (f : Nat → Int32), v + d = H 3 → d < n → f_X12_goDay_55x0_L150 K n (nI v) (rw_st T 55 f) = K (rw_st T 55 (fun j => if 12 + v ≤ j ∧ j < 12 + H 3 then 0 else f j))
  | 0, n + 1, v, f, hv, _ => by
    have e : (fun j => if 12 + v ≤ j ∧ j < 12 + H 3 then 0 else f j) = f := by
      funext j; rw [if_neg (by omega)]
    rw [f_X12_goDay_55x0_L150, rw_fi, h26, if_pos ((nI_leI (by omega) (by omega)).mpr (by omega)), e]
  | d + 1, n + 1, v, f, hv, hn => by
    rw [f_X12_goDay_55x0_L150, rw_fi, h26, if_neg (fun q => absurd ((nI_leI (by omega) (by omega)).mp q) (by omega)), ix_l, sn_in (by omega) (by omega), sn_gd, sn_let, sn_let, nI_clamp (by omega), rw_s, nI_1, gd_b55 h26 h4 K d n (v + 1) _ (by omega) (by omega)]
    congr 2
    funext j
    by_cases q : j = 12 + v
    · rw [if_neg (by omega), if_pos q, if_pos (by omega)]
    · by_cases q2 : 12 + (v + 1) ≤ j ∧ j < 12 + H 3
      · rw [if_pos q2, if_pos (by omega)]
      · rw [if_neg q2, if_neg q, if_neg (by omega)]
theorem gd_c55 (K : AS → Option AS) : ∀ d n x (f : Nat → Int32), x + d = 178 → d < n → f_X12_goDay_55x0_L11 K n (nI x) (rw_st T 55 f) = K (rw_st T 55 (fun j => if 23 + x ≤ j ∧ j ≤ 200 then f (j + 3) else f j))
  | 0, n + 1, x, f, hv, _ => by
    have e : (fun j => if 23 + x ≤ j ∧ j ≤ 200 then f (j + 3) else f j) = f := by
      funext j; rw [if_neg (by omega)]
    rw [f_X12_goDay_55x0_L11, sn_177, if_pos ((nI_ltI (by omega) (by omega)).mpr (by omega)), e]
  | d + 1, n + 1, x, f, hv, hn => by
    rw [f_X12_goDay_55x0_L11, sn_177, if_neg (fun q => absurd ((nI_ltI (by omega) (by omega)).mp q) (by omega)), sn_23, nI_add, sn_3, nI_add, sn_in (by omega) (by omega), sn_in (by omega) (by omega), sn_gd, sn_gd, sn_let, sn_let, nI_clamp (by omega), nI_clamp (by omega), rw_s, rw_g, nI_1, gd_c55 K d n (x + 1) _ (by omega) (by omega)]
    congr 2
    funext j
    by_cases q : j = 23 + x
    · rw [if_neg (by omega), if_pos q, if_pos (by omega), q]
    · by_cases q2 : 23 + (x + 1) ≤ j ∧ j ≤ 200
      · rw [if_pos q2, if_neg (by omega), if_pos (by omega)]
      · rw [if_neg q2, if_neg q, if_neg (by omega)]
def gd_J55 (S2 : AS) : Option AS := ax_gd (ax_in (23 : Int32) 204) (ax_let ((24 : Int32) + ((3 : Int32) * (ax_ai S2 55 0 (23 : Int32).toNatClampNeg))) (fun (v5 : Int32) => ax_gd (ax_in (20 : Int32) 204) (ax_gd (ax_in v5 204) (ax_let (ax_sai S2 55 0 v5.toNatClampNeg (ax_ai S2 55 0 (20 : Int32).toNatClampNeg)) (fun (S8 : AS) => (f_X12_calledBits_55x0 S8).bind (fun (r12 : Int32) => ax_gd (ax_in (v5 + (1 : Int32)) 204) (ax_let (ax_sai S8 55 0 (v5 + (1 : Int32)).toNatClampNeg r12) (fun (S14 : AS) => ax_gd (ax_in (16 : Int32) 204) (ax_gd (ax_in (v5 + (2 : Int32)) 204) (ax_let (ax_sai S14 55 0 (v5 + (2 : Int32)).toNatClampNeg (ax_ai S14 55 0 (16 : Int32).toNatClampNeg)) (fun (S17 : AS) => ax_gd (ax_in (23 : Int32) 204) (ax_gd (ax_in (23 : Int32) 204) (ax_let (ax_sai S17 55 0 (23 : Int32).toNatClampNeg ((ax_ai S17 55 0 (23 : Int32).toNatClampNeg) + (1 : Int32))) (fun (S20 : AS) => ax_gd (ax_in (21 : Int32) 204) (ax_gd (ax_in (20 : Int32) 204) ((f_J9_min_7cf53 (999 : Int32) ((ax_ai S20 55 0 (21 : Int32).toNatClampNeg) + (ax_ai S20 55 0 (20 : Int32).toNatClampNeg)) S20).bind (fun (r26 : Int32) => ax_gd (ax_in (21 : Int32) 204) (ax_let (ax_sai S20 55 0 (21 : Int32).toNatClampNeg r26) (fun (S28 : AS) => ax_gd (ax_in (16 : Int32) 204) (ax_let (ax_sai S28 55 0 (16 : Int32).toNatClampNeg (0 : Int32)) (fun (S30 : AS) => ax_gd (ax_in (20 : Int32) 204) (ax_let (ax_sai S30 55 0 (20 : Int32).toNatClampNeg (0 : Int32)) (fun (S32 : AS) => ax_gd (ax_in (17 : Int32) 204) (ax_let (ax_sai S32 55 0 (17 : Int32).toNatClampNeg (0 : Int32)) (fun (S34 : AS) => f_X12_goDay_55x0_L126 (fun (S41 : AS) => f_X12_goDay_55x0_L150 (fun (S48 : AS) => ax_gd (ax_in (22 : Int32) 204) (ax_gd (ax_in (22 : Int32) 204) (ax_let (ax_sai S48 55 0 (22 : Int32).toNatClampNeg ((ax_ai S48 55 0 (22 : Int32).toNatClampNeg) + (1 : Int32))) (fun (S51 : AS) => some S51)))) ax_F (0 : Int32) S41) ax_F (0 : Int32) S34)))))))))))))))))))))))))
theorem gd_J055 {S : AS} : f_X12_goDay_55x0 S = ax_gd (ax_in (23 : Int32) 204) (if (ax_ai S 55 0 (23 : Int32).toNatClampNeg) = (60 : Int32) then f_X12_goDay_55x0_L11 (fun (S60 : AS) => ax_gd (ax_in (23 : Int32) 204) (ax_gd (ax_in (23 : Int32) 204) (ax_let (ax_sai S60 55 0 (23 : Int32).toNatClampNeg ((ax_ai S60 55 0 (23 : Int32).toNatClampNeg) - (1 : Int32))) (fun (S63 : AS) => gd_J55 S63)))) ax_F (1 : Int32) S else gd_J55 S) := rfl
theorem gd_J155 (hH : jr_H T H) (ho : jh_ok H) (hN : jn_ok H N) {g : Nat} (hg : g ≤ 59) (hS : ∀ j, j < 23 → f j = nI (N j)) (h23 : f 23 = nI g) : gd_J55 (rw_st T 55 f) = some (rw_st T 55 (fun j => if j < 23 then nI (cn_day N j) else if j = 23 then nI (g + 1) else if j = 24 + 3 * g then nI (N 20) else if j = 25 + 3 * g then nI (jn_bits N) else if j = 26 + 3 * g then nI (N 16) else f j)) := by
  have h6 : H 4 ≤ 6 := ho.2.2.2.2.1
  have h4 : H 3 ≤ 4 := ho.2.2.2.1
  have h21 : N 21 ≤ 999 := hN.2.2.2.2.2.2.2.2.2.1
  have h20 := (cn_tired hN).2
  have ix : (24 : Int32) + (3 : Int32) * nI g = nI (24 + 3 * g) := by rw [sn_24, sn_3, pk_mul, nI_add]
  have ix1 : nI (24 + 3 * g) + 1 = nI (25 + 3 * g) := by rw [nI_1, (by omega : 24 + 3 * g + 1 = 25 + 3 * g)]
  have ix2 : nI (24 + 3 * g) + 2 = nI (26 + 3 * g) := by rw [sn_2, nI_add, (by omega : 24 + 3 * g + 2 = 26 + 3 * g)]
  unfold gd_J55
  rw [in_23, sn_gd, sn_let, cl_23, rw_g, h23, ix, in_20, sn_gd, sn_in (by omega) (by omega), sn_gd, sn_let, nI_clamp (by omega), cl_20, hS 20 (by omega), rw_s]
  generalize hF1 : (fun i => if i = 24 + 3 * g then nI (N 20) else f i) = f1
  have v1 : ∀ j, f1 j = if j = 24 + 3 * g then nI (N 20) else f j := fun j => by rw [← hF1]
  rw [cb_55 (N := N) hH.2.1 h6 (fun v hv => (hN.1 v hv).2) (fun v hv q => (hN.2.1 v hv q).2) (fun v hv => by rw [v1, if_neg (by omega)]; exact hS _ (by omega)), sn_bs]
  rw [ix1, ix2, sn_in (by omega) (by omega), sn_gd, sn_let, nI_clamp (by omega), rw_s]
  generalize hF2 : (fun i => if i = 25 + 3 * g then nI (jn_bits N) else f1 i) = f2
  have v2 : ∀ j, f2 j = if j = 25 + 3 * g then nI (jn_bits N) else f1 j := fun j => by rw [← hF2]
  have a16 : f2 16 = nI (N 16) := by rw [v2, if_neg (by omega), v1, if_neg (by omega)]; exact hS 16 (by omega)
  rw [in_16, sn_gd, sn_in (by omega) (by omega), sn_gd, sn_let, nI_clamp (by omega), cl_16, rw_g, a16, rw_s]
  generalize hF3 : (fun i => if i = 26 + 3 * g then nI (N 16) else f2 i) = f3
  have v3 : ∀ j, f3 j = if j = 26 + 3 * g then nI (N 16) else f2 j := fun j => by rw [← hF3]
  have a23 : f3 23 = nI g := by rw [v3, if_neg (by omega), v2, if_neg (by omega), v1, if_neg (by omega)]; exact h23
  rw [sn_gd, sn_gd, sn_let, rw_g, a23, nI_1, rw_s]
  generalize hF4 : (fun i => if i = 23 then nI (g + 1) else f3 i) = f4
  have v4 : ∀ j, f4 j = if j = 23 then nI (g + 1) else f3 j := fun j => by rw [← hF4]
  have a21 : f4 21 = nI (N 21) := by rw [v4, if_neg (by omega), v3, if_neg (by omega), v2, if_neg (by omega), v1, if_neg (by omega)]; exact hS 21 (by omega)
  have a20 : f4 20 = nI (N 20) := by rw [v4, if_neg (by omega), v3, if_neg (by omega), v2, if_neg (by omega), v1, if_neg (by omega)]; exact hS 20 (by omega)
  have em : f_J9_min_7cf53 (999 : Int32) (nI (N 21 + N 20)) (rw_st T 55 f4) = some (nI (min 999 (N 21 + N 20))) := by rw [sn_999]; exact sn_mn (by omega) (by omega)
  rw [in_21, sn_gd, sn_gd, cl_21, rw_g, a21, a20, nI_add, em, sn_bs, sn_gd, sn_let, rw_s]
  generalize hF5 : (fun i => if i = 21 then nI (min 999 (N 21 + N 20)) else f4 i) = f5
  have v5 : ∀ j, f5 j = if j = 21 then nI (min 999 (N 21 + N 20)) else f4 j := fun j => by rw [← hF5]
  rw [sn_gd, sn_let, rw_s]
  generalize hF6 : (fun i => if i = 16 then (0 : Int32) else f5 i) = f6
  have v6 : ∀ j, f6 j = if j = 16 then (0 : Int32) else f5 j := fun j => by rw [← hF6]
  rw [sn_gd, sn_let, rw_s]
  generalize hF7 : (fun i => if i = 20 then (0 : Int32) else f6 i) = f7
  have v7 : ∀ j, f7 j = if j = 20 then (0 : Int32) else f6 j := fun j => by rw [← hF7]
  rw [in_17, sn_gd, sn_let, cl_17, rw_s]
  generalize hF8 : (fun i => if i = 17 then (0 : Int32) else f7 i) = f8
  have v8 : ∀ j, f8 j = if j = 17 then (0 : Int32) else f7 j := fun j => by rw [← hF8]
  have z0 : (0 : Int32) = nI 0 := sn_0
  have ga := gd_a55 hH.2.1 h6 (fun (S41 : AS) => f_X12_goDay_55x0_L150 (fun (S48 : AS) => ax_gd (ax_in (22 : Int32) 204) (ax_gd (ax_in (22 : Int32) 204) (ax_let (ax_sai S48 55 0 (22 : Int32).toNatClampNeg ((ax_ai S48 55 0 (22 : Int32).toNatClampNeg) + (1 : Int32))) (fun (S51 : AS) => some S51)))) ax_F (0 : Int32) S41) (H 4) ax_F 0 f8 (by omega) (by show _ < 1000000; omega)
  rw [← sn_0] at ga
  rw [ga]
  generalize hF9 : (fun j => if 2 * 0 < j ∧ j < 2 * H 4 ∧ j % 2 = 1 then (0 : Int32) else f8 j) = f9
  have v9 : ∀ j, f9 j = if 2 * 0 < j ∧ j < 2 * H 4 ∧ j % 2 = 1 then (0 : Int32) else f8 j := fun j => by rw [← hF9]
  have gb := gd_b55 hH.1 h4 (fun (S48 : AS) => ax_gd (ax_in (22 : Int32) 204) (ax_gd (ax_in (22 : Int32) 204) (ax_let (ax_sai S48 55 0 (22 : Int32).toNatClampNeg ((ax_ai S48 55 0 (22 : Int32).toNatClampNeg) + (1 : Int32))) (fun (S51 : AS) => some S51)))) (H 3) ax_F 0 f9 (by omega) (by show _ < 1000000; omega)
  rw [← sn_0] at gb
  rw [gb]
  generalize hF10 : (fun j => if 12 + 0 ≤ j ∧ j < 12 + H 3 then (0 : Int32) else f9 j) = f10
  have v10 : ∀ j, f10 j = if 12 + 0 ≤ j ∧ j < 12 + H 3 then (0 : Int32) else f9 j := fun j => by rw [← hF10]
  have a22 : f10 22 = nI (N 22) := by rw [v10, if_neg (by omega), v9, if_neg (by omega), v8, if_neg (by omega), v7, if_neg (by omega), v6, if_neg (by omega), v5, if_neg (by omega), v4, if_neg (by omega), v3, if_neg (by omega), v2, if_neg (by omega), v1, if_neg (by omega)]; exact hS 22 (by omega)
  rw [in_22, sn_gd, sn_gd, sn_let, cl_22, rw_g, a22, nI_1, rw_s]
  congr 2
  funext j
  rw [v10, v9, v8, v7, v6, v5, v4, v3, v2, v1]
  by_cases hj : j < 23
  · rw [if_pos hj]
    unfold cn_day
    by_cases q22 : j = 22
    · subst q22; rw [if_pos rfl, if_neg (by omega), if_neg (by omega), if_neg (by omega), if_neg (by omega), if_pos rfl]
    · rw [if_neg q22]
      by_cases q0 : j = 16 ∨ j = 17 ∨ j = 20
      · rw [if_pos q0, if_neg (by omega), if_neg (by omega)]
        rcases q0 with q | q | q <;> subst q
        · rw [if_neg (by omega), if_neg (by omega), if_pos rfl]; exact sn_0
        · rw [if_pos rfl]; exact sn_0
        · rw [if_neg (by omega), if_pos rfl]; exact sn_0
      · rw [if_neg q0]
        by_cases qo : j < 12 ∧ j % 2 = 1
        · rw [if_pos qo, if_neg (by omega)]
          by_cases qn : j < 2 * H 4
          · rw [if_pos (by omega)]; exact sn_0
          · have hz := (hN.2.1 (j / 2) (by omega) (by omega)).2
            rw [(by omega : 2 * (j / 2) + 1 = j)] at hz
            rw [if_neg (by omega), if_neg (by omega), if_neg (by omega), if_neg (by omega), if_neg (by omega), if_neg (by omega), if_neg (by omega), if_neg (by omega), if_neg (by omega), hS j hj, hz]
        · rw [if_neg qo]
          by_cases ql : 12 ≤ j ∧ j < 16
          · rw [if_pos ql]
            by_cases qn : j < 12 + H 3
            · rw [if_pos (by omega)]; exact sn_0
            · have hz := hN.2.2.2.1 (j - 12) (by omega) (by omega)
              rw [(by omega : 12 + (j - 12) = j)] at hz
              rw [if_neg (by omega), if_neg (by omega), if_neg (by omega), if_neg (by omega), if_neg (by omega), if_neg (by omega), if_neg (by omega), if_neg (by omega), if_neg (by omega), if_neg (by omega), hS j hj, hz]
          · rw [if_neg ql, if_neg (by omega), if_neg (by omega), if_neg (by omega), if_neg (by omega), if_neg (by omega)]
            by_cases q21 : j = 21
            · rw [if_pos q21, if_pos q21]
            · rw [if_neg q21, if_neg q21, if_neg (by omega), if_neg (by omega), if_neg (by omega), if_neg (by omega), if_neg q22]; exact hS j hj
  · rw [if_neg hj, if_neg (by omega), if_neg (by omega), if_neg (by omega), if_neg (by omega), if_neg (by omega), if_neg (by omega), if_neg (by omega)]
    by_cases q23 : j = 23
    · rw [if_pos q23, if_pos q23]
    · rw [if_neg q23, if_neg q23]
      repeat' split
      all_goals first | rfl | (exfalso; omega)
theorem gd_55 (hH : jr_H T H) (ho : jh_ok H) (hN : jn_ok H N) {g : Nat} (hg : g ≤ 60) (hS : jr_S (ax_ai T 55 0) N) (h23 : ax_ai T 55 0 23 = nI g) : f_X12_goDay_55x0 T = some (rw_st T 55 (gd_1 (ax_ai T 55 0) N g)) := by
  have e0 : f_X12_goDay_55x0 T = f_X12_goDay_55x0 (rw_st T 55 (ax_ai T 55 0)) := by rw [rw_e]
  rw [e0, gd_J055, in_23, sn_gd, rw_g, cl_23, h23]
  by_cases h : g = 60
  · subst h
    have g0 : gd_0 (ax_ai T 55 0) 60 = (fun j => if j = 23 then nI 59 else if 24 ≤ j ∧ j ≤ 200 then ax_ai T 55 0 (j + 3) else ax_ai T 55 0 j) := by unfold gd_0; rw [if_pos rfl]
    have gc := gd_c55 (T := T) (fun (S60 : AS) => ax_gd true (ax_gd true (ax_let (ax_sai S60 55 0 23 ((ax_ai S60 55 0 23) - (1 : Int32))) (fun (S63 : AS) => gd_J55 S63)))) 177 ax_F 1 (ax_ai T 55 0) (by omega) (by show _ < 1000000; omega)
    rw [← sn_1] at gc
    rw [if_pos (sn_60).symm, gc, sn_gd, sn_gd, sn_let, rw_g, rw_s, if_neg (by omega), h23, sn_1, pk_sub (by omega)]
    have e1 : (fun i => if i = 23 then nI (60 - 1) else if 23 + 1 ≤ i ∧ i ≤ 200 then ax_ai T 55 0 (i + 3) else ax_ai T 55 0 i) = gd_0 (ax_ai T 55 0) 60 := g0.symm
    rw [e1, gd_J155 hH ho hN (g := 59) (by omega) (fun j hj => by rw [g0]; dsimp only; rw [if_neg (by omega), if_neg (by omega)]; exact hS j hj) (by rw [g0]; rfl)]
    congr 2
  · have e60 : ¬ (nI g = (60 : Int32)) := fun q => h ((nI_eq (b := 60) (by omega) (by omega)).mp q)
    have g0 : gd_0 (ax_ai T 55 0) g = ax_ai T 55 0 := by unfold gd_0; rw [if_neg h]
    rw [if_neg e60, gd_J155 hH ho hN (g := g) (by omega) hS h23]
    unfold gd_1
    rw [g0, (by omega : min g 59 = g)]
/-! row 56 -/
theorem cb_L56 (h27 : ax_fi T 12 0 27 = nI (H 4)) (h6 : H 4 ≤ 6) (h1 : ∀ v, v < 6 → N (2 * v + 1) ≤ 1) (hf : ∀ v, v < 6 → f (2 * v + 1) = nI (N (2 * v + 1))) : ∀ d n v, v + d = H 4 → d < n → f_X12_calledBits_56x0_L4 (rw_st T 56 f) (fun x => some x) n (nI (cb_p N v)) (nI v) = some (nI (cb_p N (H 4)))
  | 0, n + 1, v, hv, _ => by
    have e : v = H 4 := by omega
    rw [f_X12_calledBits_56x0_L4, rw_fi, h27, if_pos ((nI_leI (by omega) (by omega)).mpr (by omega)), e]
  | d + 1, n + 1, v, hv, hn => by
    have hl := cb_lt h1 v (by omega)
    have h64 : cb_p N v < 64 := Nat.lt_of_lt_of_le hl (Nat.pow_le_pow_right (by omega) (by omega : v ≤ 6))
    rw [f_X12_calledBits_56x0_L4, rw_fi, h27, if_neg (fun q => absurd ((nI_leI (by omega) (by omega)).mp q) (by omega)), ix_o, sn_in (by omega) (by omega), sn_gd, sn_let, sn_let, nI_clamp (by omega), rw_g, hf v (by omega), cb_or v (by omega) _ h64 hl _ (by have := h1 v (by omega); omega), nI_1]
    exact cb_L56 h27 h6 h1 hf d n (v + 1) (by omega) (by omega)
theorem cb_56 (h27 : ax_fi T 12 0 27 = nI (H 4)) (h6 : H 4 ≤ 6) (h1 : ∀ v, v < 6 → N (2 * v + 1) ≤ 1) (hz : ∀ v, v < 6 → H 4 ≤ v → N (2 * v + 1) = 0) (hf : ∀ v, v < 6 → f (2 * v + 1) = nI (N (2 * v + 1))) : f_X12_calledBits_56x0 (rw_st T 56 f) = some (nI (jn_bits N)) := by
  have q := cb_L56 (T := T) h27 h6 h1 hf (H 4) ax_F 0 (by omega) (by show _ < 1000000; omega)
  rw [cb_bits hz h6] at q
  unfold f_X12_calledBits_56x0
  exact q
theorem gd_a56 (h27 : ax_fi T 12 0 27 = nI (H 4)) (h6 : H 4 ≤ 6) (K : AS → Option AS) : ∀ d n v (f : Nat → Int32), v + d = H 4 → d < n → f_X12_goDay_56x0_L126 K n (nI v) (rw_st T 56 f) = K (rw_st T 56 (fun j => if 2 * v < j ∧ j < 2 * H 4 ∧ j % 2 = 1 then 0 else f j))
  | 0, n + 1, v, f, hv, _ => by
    have e : (fun j => if 2 * v < j ∧ j < 2 * H 4 ∧ j % 2 = 1 then 0 else f j) = f := by
      funext j; rw [if_neg (by omega)]
    rw [f_X12_goDay_56x0_L126, rw_fi, h27, if_pos ((nI_leI (by omega) (by omega)).mpr (by omega)), e]
  | d + 1, n + 1, v, f, hv, hn => by
    rw [f_X12_goDay_56x0_L126, rw_fi, h27, if_neg (fun q => absurd ((nI_leI (by omega) (by omega)).mp q) (by omega)), ix_o, sn_in (by omega) (by omega), sn_gd, sn_let, sn_let, nI_clamp (by omega), rw_s, nI_1, gd_a56 h27 h6 K d n (v + 1) _ (by omega) (by omega)]
    congr 2
    funext j
    by_cases q : j = 2 * v + 1
    · rw [if_neg (by omega), if_pos q, if_pos (by omega)]
    · by_cases q2 : 2 * (v + 1) < j ∧ j < 2 * H 4 ∧ j % 2 = 1
      · rw [if_pos q2, if_pos (by omega)]
      · rw [if_neg q2, if_neg q, if_neg (by omega)]
theorem gd_b56 (h26 : ax_fi T 12 0 26 = nI (H 3)) (h4 : H 3 ≤ 4) (K : AS → Option AS) : ∀ d n v (f : Nat → Int32), v + d = H 3 → d < n → f_X12_goDay_56x0_L150 K n (nI v) (rw_st T 56 f) = K (rw_st T 56 (fun j => if 12 + v ≤ j ∧ j < 12 + H 3 then 0 else f j))
  | 0, n + 1, v, f, hv, _ => by
    have e : (fun j => if 12 + v ≤ j ∧ j < 12 + H 3 then 0 else f j) = f := by
      funext j; rw [if_neg (by omega)]
    rw [f_X12_goDay_56x0_L150, rw_fi, h26, if_pos ((nI_leI (by omega) (by omega)).mpr (by omega)), e]
  | d + 1, n + 1, v, f, hv, hn => by
    rw [f_X12_goDay_56x0_L150, rw_fi, h26, if_neg (fun q => absurd ((nI_leI (by omega) (by omega)).mp q) (by omega)), ix_l, sn_in (by omega) (by omega), sn_gd, sn_let, sn_let, nI_clamp (by omega), rw_s, nI_1, gd_b56 h26 h4 K d n (v + 1) _ (by omega) (by omega)]
    congr 2
    funext j
    by_cases q : j = 12 + v
    · rw [if_neg (by omega), if_pos q, if_pos (by omega)]
    · by_cases q2 : 12 + (v + 1) ≤ j ∧ j < 12 + H 3
      · rw [if_pos q2, if_pos (by omega)]
      · rw [if_neg q2, if_neg q, if_neg (by omega)]
theorem gd_c56 (K : AS → Option AS) : ∀ d n x (f : Nat → Int32), x + d = 178 → d < n → f_X12_goDay_56x0_L11 K n (nI x) (rw_st T 56 f) = K (rw_st T 56 (fun j => if 23 + x ≤ j ∧ j ≤ 200 then f (j + 3) else f j))
  | 0, n + 1, x, f, hv, _ => by
    have e : (fun j => if 23 + x ≤ j ∧ j ≤ 200 then f (j + 3) else f j) = f := by
      funext j; rw [if_neg (by omega)]
    rw [f_X12_goDay_56x0_L11, sn_177, if_pos ((nI_ltI (by omega) (by omega)).mpr (by omega)), e]
  | d + 1, n + 1, x, f, hv, hn => by
    rw [f_X12_goDay_56x0_L11, sn_177, if_neg (fun q => absurd ((nI_ltI (by omega) (by omega)).mp q) (by omega)), sn_23, nI_add, sn_3, nI_add, sn_in (by omega) (by omega), sn_in (by omega) (by omega), sn_gd, sn_gd, sn_let, sn_let, nI_clamp (by omega), nI_clamp (by omega), rw_s, rw_g, nI_1, gd_c56 K d n (x + 1) _ (by omega) (by omega)]
    congr 2
    funext j
    by_cases q : j = 23 + x
    · rw [if_neg (by omega), if_pos q, if_pos (by omega), q]
    · by_cases q2 : 23 + (x + 1) ≤ j ∧ j ≤ 200
      · rw [if_pos q2, if_neg (by omega), if_pos (by omega)]
      · rw [if_neg q2, if_neg q, if_neg (by omega)]
def gd_J56 (S2 : AS) : Option AS := ax_gd (ax_in (23 : Int32) 204) (ax_let ((24 : Int32) + ((3 : Int32) * (ax_ai S2 56 0 (23 : Int32).toNatClampNeg))) (fun (v5 : Int32) => ax_gd (ax_in (20 : Int32) 204) (ax_gd (ax_in v5 204) (ax_let (ax_sai S2 56 0 v5.toNatClampNeg (ax_ai S2 56 0 (20 : Int32).toNatClampNeg)) (fun (S8 : AS) => (f_X12_calledBits_56x0 S8).bind (fun (r12 : Int32) => ax_gd (ax_in (v5 + (1 : Int32)) 204) (ax_let (ax_sai S8 56 0 (v5 + (1 : Int32)).toNatClampNeg r12) (fun (S14 : AS) => ax_gd (ax_in (16 : Int32) 204) (ax_gd (ax_in (v5 + (2 : Int32)) 204) (ax_let (ax_sai S14 56 0 (v5 + (2 : Int32)).toNatClampNeg (ax_ai S14 56 0 (16 : Int32).toNatClampNeg)) (fun (S17 : AS) => ax_gd (ax_in (23 : Int32) 204) (ax_gd (ax_in (23 : Int32) 204) (ax_let (ax_sai S17 56 0 (23 : Int32).toNatClampNeg ((ax_ai S17 56 0 (23 : Int32).toNatClampNeg) + (1 : Int32))) (fun (S20 : AS) => ax_gd (ax_in (21 : Int32) 204) (ax_gd (ax_in (20 : Int32) 204) ((f_J9_min_7cf53 (999 : Int32) ((ax_ai S20 56 0 (21 : Int32).toNatClampNeg) + (ax_ai S20 56 0 (20 : Int32).toNatClampNeg)) S20).bind (fun (r26 : Int32) => ax_gd (ax_in (21 : Int32) 204) (ax_let (ax_sai S20 56 0 (21 : Int32).toNatClampNeg r26) (fun (S28 : AS) => ax_gd (ax_in (16 : Int32) 204) (ax_let (ax_sai S28 56 0 (16 : Int32).toNatClampNeg (0 : Int32)) (fun (S30 : AS) => ax_gd (ax_in (20 : Int32) 204) (ax_let (ax_sai S30 56 0 (20 : Int32).toNatClampNeg (0 : Int32)) (fun (S32 : AS) => ax_gd (ax_in (17 : Int32) 204) (ax_let (ax_sai S32 56 0 (17 : Int32).toNatClampNeg (0 : Int32)) (fun (S34 : AS) => f_X12_goDay_56x0_L126 (fun (S41 : AS) => f_X12_goDay_56x0_L150 (fun (S48 : AS) => ax_gd (ax_in (22 : Int32) 204) (ax_gd (ax_in (22 : Int32) 204) (ax_let (ax_sai S48 56 0 (22 : Int32).toNatClampNeg ((ax_ai S48 56 0 (22 : Int32).toNatClampNeg) + (1 : Int32))) (fun (S51 : AS) => some S51)))) ax_F (0 : Int32) S41) ax_F (0 : Int32) S34)))))))))))))))))))))))))
theorem gd_J056 {S : AS} : f_X12_goDay_56x0 S = ax_gd (ax_in (23 : Int32) 204) (if (ax_ai S 56 0 (23 : Int32).toNatClampNeg) = (60 : Int32) then f_X12_goDay_56x0_L11 (fun (S60 : AS) => ax_gd (ax_in (23 : Int32) 204) (ax_gd (ax_in (23 : Int32) 204) (ax_let (ax_sai S60 56 0 (23 : Int32).toNatClampNeg ((ax_ai S60 56 0 (23 : Int32).toNatClampNeg) - (1 : Int32))) (fun (S63 : AS) => gd_J56 S63)))) ax_F (1 : Int32) S else gd_J56 S) := rfl
theorem gd_J156 (hH : jr_H T H) (ho : jh_ok H) (hN : jn_ok H N) {g : Nat} (hg : g ≤ 59) (hS : ∀ j, j < 23 → f j = nI (N j)) (h23 : f 23 = nI g) : gd_J56 (rw_st T 56 f) = some (rw_st T 56 (fun j => if j < 23 then nI (cn_day N j) else if j = 23 then nI (g + 1) else if j = 24 + 3 * g then nI (N 20) else if j = 25 + 3 * g then nI (jn_bits N) else if j = 26 + 3 * g then nI (N 16) else f j)) := by
  have h6 : H 4 ≤ 6 := ho.2.2.2.2.1
  have h4 : H 3 ≤ 4 := ho.2.2.2.1
  have h21 : N 21 ≤ 999 := hN.2.2.2.2.2.2.2.2.2.1
  have h20 := (cn_tired hN).2
  have ix : (24 : Int32) + (3 : Int32) * nI g = nI (24 + 3 * g) := by rw [sn_24, sn_3, pk_mul, nI_add]
  have ix1 : nI (24 + 3 * g) + 1 = nI (25 + 3 * g) := by rw [nI_1, (by omega : 24 + 3 * g + 1 = 25 + 3 * g)]
  have ix2 : nI (24 + 3 * g) + 2 = nI (26 + 3 * g) := by rw [sn_2, nI_add, (by omega : 24 + 3 * g + 2 = 26 + 3 * g)]
  unfold gd_J56
  rw [in_23, sn_gd, sn_let, cl_23, rw_g, h23, ix, in_20, sn_gd, sn_in (by omega) (by omega), sn_gd, sn_let, nI_clamp (by omega), cl_20, hS 20 (by omega), rw_s]
  generalize hF1 : (fun i => if i = 24 + 3 * g then nI (N 20) else f i) = f1
  have v1 : ∀ j, f1 j = if j = 24 + 3 * g then nI (N 20) else f j := fun j => by rw [← hF1]
  rw [cb_56 (N := N) hH.2.1 h6 (fun v hv => (hN.1 v hv).2) (fun v hv q => (hN.2.1 v hv q).2) (fun v hv => by rw [v1, if_neg (by omega)]; exact hS _ (by omega)), sn_bs]
  rw [ix1, ix2, sn_in (by omega) (by omega), sn_gd, sn_let, nI_clamp (by omega), rw_s]
  generalize hF2 : (fun i => if i = 25 + 3 * g then nI (jn_bits N) else f1 i) = f2
  have v2 : ∀ j, f2 j = if j = 25 + 3 * g then nI (jn_bits N) else f1 j := fun j => by rw [← hF2]
  have a16 : f2 16 = nI (N 16) := by rw [v2, if_neg (by omega), v1, if_neg (by omega)]; exact hS 16 (by omega)
  rw [in_16, sn_gd, sn_in (by omega) (by omega), sn_gd, sn_let, nI_clamp (by omega), cl_16, rw_g, a16, rw_s]
  generalize hF3 : (fun i => if i = 26 + 3 * g then nI (N 16) else f2 i) = f3
  have v3 : ∀ j, f3 j = if j = 26 + 3 * g then nI (N 16) else f2 j := fun j => by rw [← hF3]
  have a23 : f3 23 = nI g := by rw [v3, if_neg (by omega), v2, if_neg (by omega), v1, if_neg (by omega)]; exact h23
  rw [sn_gd, sn_gd, sn_let, rw_g, a23, nI_1, rw_s]
  generalize hF4 : (fun i => if i = 23 then nI (g + 1) else f3 i) = f4
  have v4 : ∀ j, f4 j = if j = 23 then nI (g + 1) else f3 j := fun j => by rw [← hF4]
  have a21 : f4 21 = nI (N 21) := by rw [v4, if_neg (by omega), v3, if_neg (by omega), v2, if_neg (by omega), v1, if_neg (by omega)]; exact hS 21 (by omega)
  have a20 : f4 20 = nI (N 20) := by rw [v4, if_neg (by omega), v3, if_neg (by omega), v2, if_neg (by omega), v1, if_neg (by omega)]; exact hS 20 (by omega)
  have em : f_J9_min_7cf53 (999 : Int32) (nI (N 21 + N 20)) (rw_st T 56 f4) = some (nI (min 999 (N 21 + N 20))) := by rw [sn_999]; exact sn_mn (by omega) (by omega)
  rw [in_21, sn_gd, sn_gd, cl_21, rw_g, a21, a20, nI_add, em, sn_bs, sn_gd, sn_let, rw_s]
  generalize hF5 : (fun i => if i = 21 then nI (min 999 (N 21 + N 20)) else f4 i) = f5
  have v5 : ∀ j, f5 j = if j = 21 then nI (min 999 (N 21 + N 20)) else f4 j := fun j => by rw [← hF5]
  rw [sn_gd, sn_let, rw_s]
  generalize hF6 : (fun i => if i = 16 then (0 : Int32) else f5 i) = f6
  have v6 : ∀ j, f6 j = if j = 16 then (0 : Int32) else f5 j := fun j => by rw [← hF6]
  rw [sn_gd, sn_let, rw_s]
  generalize hF7 : (fun i => if i = 20 then (0 : Int32) else f6 i) = f7
  have v7 : ∀ j, f7 j = if j = 20 then (0 : Int32) else f6 j := fun j => by rw [← hF7]
  rw [in_17, sn_gd, sn_let, cl_17, rw_s]
  generalize hF8 : (fun i => if i = 17 then (0 : Int32) else f7 i) = f8
  have v8 : ∀ j, f8 j = if j = 17 then (0 : Int32) else f7 j := fun j => by rw [← hF8]
  have z0 : (0 : Int32) = nI 0 := sn_0
  have ga := gd_a56 hH.2.1 h6 (fun (S41 : AS) => f_X12_goDay_56x0_L150 (fun (S48 : AS) => ax_gd (ax_in (22 : Int32) 204) (ax_gd (ax_in (22 : Int32) 204) (ax_let (ax_sai S48 56 0 (22 : Int32).toNatClampNeg ((ax_ai S48 56 0 (22 : Int32).toNatClampNeg) + (1 : Int32))) (fun (S51 : AS) => some S51)))) ax_F (0 : Int32) S41) (H 4) ax_F 0 f8 (by omega) (by show _ < 1000000; omega)
  rw [← sn_0] at ga
  rw [ga]
  generalize hF9 : (fun j => if 2 * 0 < j ∧ j < 2 * H 4 ∧ j % 2 = 1 then (0 : Int32) else f8 j) = f9
  have v9 : ∀ j, f9 j = if 2 * 0 < j ∧ j < 2 * H 4 ∧ j % 2 = 1 then (0 : Int32) else f8 j := fun j => by rw [← hF9]
  have gb := gd_b56 hH.1 h4 (fun (S48 : AS) => ax_gd (ax_in (22 : Int32) 204) (ax_gd (ax_in (22 : Int32) 204) (ax_let (ax_sai S48 56 0 (22 : Int32).toNatClampNeg ((ax_ai S48 56 0 (22 : Int32).toNatClampNeg) + (1 : Int32))) (fun (S51 : AS) => some S51)))) (H 3) ax_F 0 f9 (by omega) (by show _ < 1000000; omega)
  rw [← sn_0] at gb
  rw [gb]
  generalize hF10 : (fun j => if 12 + 0 ≤ j ∧ j < 12 + H 3 then (0 : Int32) else f9 j) = f10
  have v10 : ∀ j, f10 j = if 12 + 0 ≤ j ∧ j < 12 + H 3 then (0 : Int32) else f9 j := fun j => by rw [← hF10]
  have a22 : f10 22 = nI (N 22) := by rw [v10, if_neg (by omega), v9, if_neg (by omega), v8, if_neg (by omega), v7, if_neg (by omega), v6, if_neg (by omega), v5, if_neg (by omega), v4, if_neg (by omega), v3, if_neg (by omega), v2, if_neg (by omega), v1, if_neg (by omega)]; exact hS 22 (by omega)
  rw [in_22, sn_gd, sn_gd, sn_let, cl_22, rw_g, a22, nI_1, rw_s]
  congr 2
  funext j
  rw [v10, v9, v8, v7, v6, v5, v4, v3, v2, v1]
  by_cases hj : j < 23
  · rw [if_pos hj]
    unfold cn_day
    by_cases q22 : j = 22
    · subst q22; rw [if_pos rfl, if_neg (by omega), if_neg (by omega), if_neg (by omega), if_neg (by omega), if_pos rfl]
    · rw [if_neg q22]
      by_cases q0 : j = 16 ∨ j = 17 ∨ j = 20
      · rw [if_pos q0, if_neg (by omega), if_neg (by omega)]
        rcases q0 with q | q | q <;> subst q
        · rw [if_neg (by omega), if_neg (by omega), if_pos rfl]; exact sn_0
        · rw [if_pos rfl]; exact sn_0
        · rw [if_neg (by omega), if_pos rfl]; exact sn_0
      · rw [if_neg q0]
        by_cases qo : j < 12 ∧ j % 2 = 1
        · rw [if_pos qo, if_neg (by omega)]
          by_cases qn : j < 2 * H 4
          · rw [if_pos (by omega)]; exact sn_0
          · have hz := (hN.2.1 (j / 2) (by omega) (by omega)).2
            rw [(by omega : 2 * (j / 2) + 1 = j)] at hz
            rw [if_neg (by omega), if_neg (by omega), if_neg (by omega), if_neg (by omega), if_neg (by omega), if_neg (by omega), if_neg (by omega), if_neg (by omega), if_neg (by omega), hS j hj, hz]
        · rw [if_neg qo]
          by_cases ql : 12 ≤ j ∧ j < 16
          · rw [if_pos ql]
            by_cases qn : j < 12 + H 3
            · rw [if_pos (by omega)]; exact sn_0
            · have hz := hN.2.2.2.1 (j - 12) (by omega) (by omega)
              rw [(by omega : 12 + (j - 12) = j)] at hz
              rw [if_neg (by omega), if_neg (by omega), if_neg (by omega), if_neg (by omega), if_neg (by omega), if_neg (by omega), if_neg (by omega), if_neg (by omega), if_neg (by omega), if_neg (by omega), hS j hj, hz]
          · rw [if_neg ql, if_neg (by omega), if_neg (by omega), if_neg (by omega), if_neg (by omega), if_neg (by omega)]
            by_cases q21 : j = 21
            · rw [if_pos q21, if_pos q21]
            · rw [if_neg q21, if_neg q21, if_neg (by omega), if_neg (by omega), if_neg (by omega), if_neg (by omega), if_neg q22]; exact hS j hj
  · rw [if_neg hj, if_neg (by omega), if_neg (by omega), if_neg (by omega), if_neg (by omega), if_neg (by omega), if_neg (by omega), if_neg (by omega)]
    by_cases q23 : j = 23
    · rw [if_pos q23, if_pos q23]
    · rw [if_neg q23, if_neg q23]
      repeat' split
      all_goals first | rfl | (exfalso; omega)
theorem gd_56 (hH : jr_H T H) (ho : jh_ok H) (hN : jn_ok H N) {g : Nat} (hg : g ≤ 60) (hS : jr_S (ax_ai T 56 0) N) (h23 : ax_ai T 56 0 23 = nI g) : f_X12_goDay_56x0 T = some (rw_st T 56 (gd_1 (ax_ai T 56 0) N g)) := by
  have e0 : f_X12_goDay_56x0 T = f_X12_goDay_56x0 (rw_st T 56 (ax_ai T 56 0)) := by rw [rw_e]
  rw [e0, gd_J056, in_23, sn_gd, rw_g, cl_23, h23]
  by_cases h : g = 60
  · subst h
    have g0 : gd_0 (ax_ai T 56 0) 60 = (fun j => if j = 23 then nI 59 else if 24 ≤ j ∧ j ≤ 200 then ax_ai T 56 0 (j + 3) else ax_ai T 56 0 j) := by unfold gd_0; rw [if_pos rfl]
    have gc := gd_c56 (T := T) (fun (S60 : AS) => ax_gd true (ax_gd true (ax_let (ax_sai S60 56 0 23 ((ax_ai S60 56 0 23) - (1 : Int32))) (fun (S63 : AS) => gd_J56 S63)))) 177 ax_F 1 (ax_ai T 56 0) (by omega) (by show _ < 1000000; omega)
    rw [← sn_1] at gc
    rw [if_pos (sn_60).symm, gc, sn_gd, sn_gd, sn_let, rw_g, rw_s, if_neg (by omega), h23, sn_1, pk_sub (by omega)]
    have e1 : (fun i => if i = 23 then nI (60 - 1) else if 23 + 1 ≤ i ∧ i ≤ 200 then ax_ai T 56 0 (i + 3) else ax_ai T 56 0 i) = gd_0 (ax_ai T 56 0) 60 := g0.symm
    rw [e1, gd_J156 hH ho hN (g := 59) (by omega) (fun j hj => by rw [g0]; dsimp only; rw [if_neg (by omega), if_neg (by omega)]; exact hS j hj) (by rw [g0]; rfl)]
    congr 2
  · have e60 : ¬ (nI g = (60 : Int32)) := fun q => h ((nI_eq (b := 60) (by omega) (by omega)).mp q)
    have g0 : gd_0 (ax_ai T 56 0) g = ax_ai T 56 0 := by unfold gd_0; rw [if_neg h]
    rw [if_neg e60, gd_J156 hH ho hN (g := g) (by omega) hS h23]
    unfold gd_1
    rw [g0, (by omega : min g 59 = g)]
end

/-! THE REFERENCE: acts on a row -/
theorem sn_gd {β : Type} {x : Option β} : ax_gd true x = x := Eq.trans rfl rfl
theorem ix_e (v : Nat) : (2 : Int32) * nI v + 0 = nI (2 * v) := by rw [sn_2, pk_mul, sn_0, nI_add, Nat.add_zero]
theorem ix_o (v : Nat) : (2 : Int32) * nI v + 1 = nI (2 * v + 1) := by rw [sn_2, pk_mul, sn_1, nI_add]
theorem ix_2 (v : Nat) : (2 : Int32) * nI v = nI (2 * v) := by rw [sn_2, pk_mul]
theorem ix_l (v : Nat) : (12 : Int32) + nI v = nI (12 + v) := by rw [sn_12, nI_add]
theorem in_16 : ax_in (16 : Int32) 204 = true := by decide
theorem cl_16 : (16 : Int32).toNatClampNeg = 16 := Eq.trans rfl rfl
theorem in_17 : ax_in (17 : Int32) 204 = true := by decide
theorem cl_17 : (17 : Int32).toNatClampNeg = 17 := Eq.trans rfl rfl
theorem in_18 : ax_in (18 : Int32) 204 = true := by decide
theorem cl_18 : (18 : Int32).toNatClampNeg = 18 := Eq.trans rfl rfl
theorem in_19 : ax_in (19 : Int32) 204 = true := by decide
theorem cl_19 : (19 : Int32).toNatClampNeg = 19 := Eq.trans rfl rfl
theorem in_20 : ax_in (20 : Int32) 204 = true := by decide
theorem cl_20 : (20 : Int32).toNatClampNeg = 20 := Eq.trans rfl rfl
theorem in_21 : ax_in (21 : Int32) 204 = true := by decide
theorem cl_21 : (21 : Int32).toNatClampNeg = 21 := Eq.trans rfl rfl
theorem in_22 : ax_in (22 : Int32) 204 = true := by decide
theorem cl_22 : (22 : Int32).toNatClampNeg = 22 := Eq.trans rfl rfl
theorem in_23 : ax_in (23 : Int32) 204 = true := by decide
theorem cl_23 : (23 : Int32).toNatClampNeg = 23 := Eq.trans rfl rfl
theorem in_r0 : ax_in (0 : Int32) 3 = true := by decide
theorem cl_r0 : (0 : Int32).toNatClampNeg = 0 := Eq.trans rfl rfl
/-- Z is T but for scratch and row R -/
def jr_st (T Z : AS) (R : Nat) : Prop := (∀ k a j, ¬ (k = 12 ∧ (j = 8 ∨ j = 9 ∨ j = 10 ∨ j = 11 ∨ j = 12 ∨ j = 13 ∨ j = 14 ∨ j = 17)) → ax_fi Z k a j = ax_fi T k a j) ∧ ax_fl Z = ax_fl T ∧ (∀ k a j, ¬ (k = 12 ∧ j = 5) → ax_fx Z k a j = ax_fx T k a j) ∧ ax_fo Z = ax_fo T ∧ (∀ k a, k ≠ R → k ≠ 46 → k ≠ 58 → ax_ai Z k a = ax_ai T k a) ∧ (∀ k a, k ≠ 57 → ax_al Z k a = ax_al T k a)
theorem jr_scr_c {c k j : Nat} (h : ¬ (c = 0 ∧ k = 12 ∧ (j = 8 ∨ j = 9 ∨ j = 10 ∨ j = 11 ∨ j = 12 ∨ j = 13 ∨ j = 14 ∨ j = 17))) (h2 : ¬ (c = 2 ∧ k = 12 ∧ j = 5)) (h3 : ¬ (c = 4 ∧ k = 46 ∧ j = 0)) (h4 : ¬ (c = 4 ∧ k = 58 ∧ j = 0)) (h5 : ¬ (c = 5 ∧ k = 57 ∧ j = 0)) : jr_scr.contains (c, k, j) = false := by
  cases e : jr_scr.contains (c, k, j) with
  | false => rfl
  | true =>
    exfalso
    have m : (c, k, j) ∈ jr_scr := List.contains_iff_mem.mp e
    simp only [jr_scr, List.mem_cons, List.not_mem_nil, or_false, Prod.mk.injEq] at m
    omega
section
variable {T Z Y : AS} {R : Nat} {H N : Nat → Nat} {M : Nat} {K : Nat → List la_C} {W : Option (List la_C)}
theorem jr_st.rf : jr_st T T R := ⟨fun _ _ _ _ => rfl, rfl, fun _ _ _ _ => rfl, rfl, fun _ _ _ _ _ => rfl, fun _ _ _ => rfl⟩
theorem jr_st.tr (a : jr_st T Z R) (b : jr_st Z Y R) : jr_st T Y R := ⟨fun k x j p => (b.1 k x j p).trans (a.1 k x j p), b.2.1.trans a.2.1, fun k x j p => (b.2.2.1 k x j p).trans (a.2.2.1 k x j p), b.2.2.2.1.trans a.2.2.2.1, fun k x p q r => (b.2.2.2.2.1 k x p q r).trans (a.2.2.2.2.1 k x p q r), fun k x p => (b.2.2.2.2.2 k x p).trans (a.2.2.2.2.2 k x p)⟩
theorem jr_st.fr (h : ax_fr jr_scr T Z) : jr_st T Z R := by
  obtain ⟨f1, f2, f3, f4, f5, f6⟩ := h
  refine ⟨fun k a j p => f1 k a j (jr_scr_c (by omega) (by omega) (by omega) (by omega) (by omega)), ?_, fun k a j p => f3 k a j (jr_scr_c (by omega) (by omega) (by omega) (by omega) (by omega)), ?_, fun k a _ q r => f5 k a (jr_scr_c (by omega) (by omega) (by omega) (by omega) (by omega)), fun k a p => f6 k a (jr_scr_c (by omega) (by omega) (by omega) (by omega) (by omega))⟩
  · funext k a j; exact f2 k a j (jr_scr_c (by omega) (by omega) (by omega) (by omega) (by omega))
  · funext k a j; exact f4 k a j (jr_scr_c (by omega) (by omega) (by omega) (by omega) (by omega))
theorem jr_st.ai {j : Nat} {v : Int32} : jr_st T (ax_sai T R 0 j v) R := ⟨fun _ _ _ _ => rfl, rfl, fun _ _ _ _ => rfl, rfl, fun k a p _ _ => ax_u3_o (fun q => p q.1), fun _ _ _ => rfl⟩
theorem jr_C_row (hR : R = 55 ∨ R = 56) {j : Nat} {v : Int32} (hC : jr_C T H M K W) : jr_C (ax_sai T R 0 j v) H M K W := by
  have e : ∀ k a, k ≠ R → ax_ai (ax_sai T R 0 j v) k a = ax_ai T k a := fun k a h => ax_u3_o (fun q => h q.1)
  obtain ⟨⟨h0, h1, h2, h3, h4⟩, ⟨l0, l1⟩, hm, hl, hW⟩ := hC
  refine ⟨⟨h0, h1, ?_, ?_, ?_⟩, ⟨l0, fun k hk => ?_⟩, fun q hq => ?_, fun k hk => ?_, ?_⟩
  · rw [e 47 0 (by omega)]; exact h2
  · rw [e 49 0 (by omega)]; exact h3
  · rw [e 51 0 (by omega)]; exact h4
  · obtain ⟨b, n, a1, a2, a3, a4, a5⟩ := l1 k hk
    refine ⟨b, n, a1, ?_, ?_, a4, a5⟩
    · rw [e 45 0 (by omega)]; exact a2
    · rw [e 44 1 (by omega)]; exact a3
  · rw [e 58 0 (by omega)]; exact hm q hq
  · rw [e 46 0 (by omega)]; exact hl k hk
  · match W, hW with
    | none, hW => exact hW
    | some cs, hW => exact hW
theorem jr_isC (hH : jr_H T H) (ho : jh_ok H) {v : Nat} (hv : v < H 4) : f_X12_isCaller (nI v) T = some 1 := by
  have h6 : H 4 ≤ 6 := ho.2.2.2.2.1
  unfold f_X12_isCaller
  rw [if_neg (nI_pos (by omega)), hH.2.1, if_neg (fun q => absurd ((nI_leI (by omega) (by omega)).mp q) (by omega))]
theorem jr_isC0 (hH : jr_H T H) (ho : jh_ok H) {x : Int32} (hx : ∀ v, v < H 4 → x ≠ nI v) : f_X12_isCaller x T = some 0 := by
  have h6 : H 4 ≤ 6 := ho.2.2.2.2.1
  unfold f_X12_isCaller
  rcases pk_ix x (n := H 4) (by omega) with h | h | ⟨j, h1, h2⟩
  · rw [if_pos h]
  · rw [hH.2.1, if_pos h]
    split <;> rfl
  · exact absurd h2 (hx j h1)
theorem jr_gain (hH : jr_H T H) (ho : jh_ok H) {v : Nat} (hv : v < H 4) : f_X12_gainOf (nI v) T = some (nI (H (20 + 7 * v) + H (8 + 2 * H (21 + 7 * v)))) := by
  have b1 := (ho.2.2.2.2.2.2 v hv)
  have h3 : H 3 ≤ 4 := ho.2.2.2.1
  have e4 := jr_of hH ho hv (w := 4) (by omega)
  rw [← sn_4, (by omega : 16 + 7 * v + 4 = 20 + 7 * v)] at e4
  have e5 := jr_of hH ho hv (w := 5) (by omega)
  rw [← sn_5, (by omega : 16 + 7 * v + 5 = 21 + 7 * v)] at e5
  have e49 := hH.2.2.2.1 (H (21 + 7 * v)) (by omega) 0 (by omega)
  rw [Nat.add_zero, Nat.add_zero] at e49
  unfold f_X12_gainOf
  rw [e4, sn_bs, e5, sn_bs, ix_2, sn_in (by omega) (by omega), sn_gd, nI_clamp (by omega), e49, nI_add]
/-! row 55 -/
theorem jr_in55 (ho : jh_ok H) (hN : jn_ok H N) (hC : jr_C T H M K W) (hS : jr_S (ax_ai T 55 0) N) {v : Nat} (hv : v < H 4) : ∃ Z, f_X12_takesIn_55x0 (nI v) T = some (nI (cn_b H W N v), Z) ∧ ax_fr jr_scr T Z ∧ jr_C Z H M K W := by
  have b1 := (ho.2.2.2.2.2.2 v hv)
  have h6 : H 4 ≤ 6 := ho.2.2.2.2.1
  have ht := cn_tired hN
  have h2 := hN.1 v (by omega)
  have h18 : N 18 ≤ 1 := hN.2.2.2.2.2.2.1
  have h22 : N 22 ≤ 999 := hN.2.2.2.2.2.2.2.2.2.2
  obtain ⟨Z, z1, z2, z3⟩ := jr_takes (v := v) (h := H (17 + 7 * v)) (t := N (2 * v)) (g := N 17) (s := N 18) (d := N 22) ho hC hv (by omega) (by omega) (by omega) (by omega) (by omega)
  refine ⟨Z, ?_, z2, z3⟩
  have e1 := jr_of hC.1 ho hv (w := 1) (by omega)
  rw [← sn_1, (by omega : 16 + 7 * v + 1 = 17 + 7 * v)] at e1
  unfold f_X12_takesIn_55x0
  rw [e1, sn_bs, ix_e, sn_in (by omega) (by omega), in_17, in_18, in_22, sn_gd, sn_gd, sn_gd, sn_gd, cl_17, cl_18, cl_22, nI_clamp (by omega), hS _ (by omega), hS 17 (by omega), hS 18 (by omega), hS 22 (by omega), z1, ax_bu_s]
  rfl
theorem jr_can55 (ho : jh_ok H) (hN : jn_ok H N) (hC : jr_C T H M K W) (hS : jr_S (ax_ai T 55 0) N) (x : Int32) : ∃ r Z, f_X12_canCall_55x0 x T = some (r, Z) ∧ ax_fr jr_scr T Z ∧ jr_C Z H M K W ∧ (((∃ v, v < H 4 ∧ x = nI v ∧ cn_can H W N v) ∧ r = 1) ∨ (¬ (∃ v, v < H 4 ∧ x = nI v ∧ cn_can H W N v) ∧ r = 0)) := by
  have h6 : H 4 ≤ 6 := ho.2.2.2.2.1
  have h3 : H 3 ≤ 4 := ho.2.2.2.1
  have h16 : N 16 ≤ 99 := hN.2.2.2.2.1
  have h0 : H 0 ≤ 99 := ho.1
  unfold f_X12_canCall_55x0
  rcases jc_dec (H := H) x with ⟨v, hv, rfl⟩ | hx
  · have b1 := (ho.2.2.2.2.2.2 v hv)
    have bl := ho.2.2.2.2.2.1 (H (21 + 7 * v)) (by omega)
    have hr := hN.2.2.1 (H (21 + 7 * v)) (by omega)
    have h2 := hN.1 v (by omega)
    have hb' : 1 ≤ cn_b H W N v ∧ cn_b H W N v ≤ 60 := bt_b
    have e5 := jr_of hC.1 ho hv (w := 5) (by omega)
    rw [← sn_5, (by omega : 16 + 7 * v + 5 = 21 + 7 * v)] at e5
    have e49 := hC.1.2.2.2.1 (H (21 + 7 * v)) (by omega) 1 (by omega)
    rw [(by omega : 8 + 2 * H (21 + 7 * v) + 1 = 9 + 2 * H (21 + 7 * v))] at e49
    have only : (∃ w, w < H 4 ∧ nI v = nI w ∧ cn_can H W N w) → cn_can H W N v := fun ⟨w, hw, e, q⟩ => cn_inj ho hv hw e ▸ q
    rw [jr_isC hC.1 ho hv, sn_bs, if_neg (by decide), ix_o, sn_in (by omega) (by omega), sn_gd, nI_clamp (by omega), hS _ (by omega)]
    have c1 : (nI (N (2 * v + 1)) = (1 : Int32)) ↔ N (2 * v + 1) = 1 := nI_eq (b := 1) (by omega) (by omega)
    by_cases ha : N (2 * v + 1) = 1
    · rw [if_pos (c1.mpr ha)]
      exact ⟨0, T, rfl, ax_fr.rf, hC, .inr ⟨fun q => absurd (only q).1 (by omega), rfl⟩⟩
    · rw [if_neg (fun q => ha (c1.mp q)), e5, sn_bs, ix_l, ix_o, sn_in (by omega) (by omega), sn_in (by omega) (by omega), sn_gd, sn_gd, nI_clamp (by omega), nI_clamp (by omega), e49, hS _ (by omega)]
      by_cases hl : H (9 + 2 * H (21 + 7 * v)) ≤ N (12 + H (21 + 7 * v))
      · rw [if_pos ((nI_leI (by omega) (by omega)).mpr hl)]
        exact ⟨0, T, rfl, ax_fr.rf, hC, .inr ⟨fun q => absurd (only q).2.1 (by omega), rfl⟩⟩
      · obtain ⟨Z, z1, z2, z3⟩ := jr_in55 ho hN hC hS hv
        rw [if_neg (fun q => hl ((nI_leI (by omega) (by omega)).mp q)), in_16, sn_gd, z1, ax_bu_s, in_r0, sn_gd, cl_r0, cl_16, z3.1.2.2.1 0 (by omega), hS 16 (by omega), nI_add]
        by_cases hq : N 16 + cn_b H W N v ≤ H 0
        · rw [if_neg (fun q => absurd ((nI_ltI (by omega) (by omega)).mp q) (by omega))]
          exact ⟨1, Z, rfl, z2, z3, .inl ⟨⟨v, hv, rfl, by omega, by omega, hq⟩, rfl⟩⟩
        · rw [if_pos ((nI_ltI (by omega) (by omega)).mpr (by omega))]
          exact ⟨0, Z, rfl, z2, z3, .inr ⟨fun q => hq (only q).2.2, rfl⟩⟩
  · rw [jr_isC0 hC.1 ho hx, sn_bs, if_pos rfl]
    exact ⟨0, T, rfl, ax_fr.rf, hC, .inr ⟨fun ⟨v, hv, e, _⟩ => hx v hv e, rfl⟩⟩
theorem jr_calls55 (ho : jh_ok H) (hN : jn_ok H N) (hC : jr_C T H M K W) (hS : jr_S (ax_ai T 55 0) N) {v : Nat} (hv : v < H 4) : ∃ Z, f_X12_calls_55x0 (nI v) T = some ((if cn_b H W N v < H (19 + 7 * v) then 0 else 1), Z) ∧ jr_S (ax_ai Z 55 0) (cn_call H W N v) ∧ (∀ j, 23 ≤ j → ax_ai Z 55 0 j = ax_ai T 55 0 j) ∧ jr_st T Z 55 ∧ jr_C Z H M K W := by
  have h6 : H 4 ≤ 6 := ho.2.2.2.2.1
  have h3 : H 3 ≤ 4 := ho.2.2.2.1
  have b1 := (ho.2.2.2.2.2.2 v hv)
  have bl := ho.2.2.2.2.2.1 (H (21 + 7 * v)) (by omega)
  have h19 : N 19 ≤ 9999 := hN.2.2.2.2.2.2.2.1
  have hb' : 1 ≤ cn_b H W N v ∧ cn_b H W N v ≤ 60 := bt_b
  have h2 := hN.1 v (by omega)
  obtain ⟨S1, z1, z2, z3⟩ := jr_in55 ho hN hC hS hv
  have e5 := jr_of z3.1 ho hv (w := 5) (by omega)
  rw [← sn_5, (by omega : 16 + 7 * v + 5 = 21 + 7 * v)] at e5
  have e3 := jr_of z3.1 ho hv (w := 3) (by omega)
  rw [← sn_3, (by omega : 16 + 7 * v + 3 = 19 + 7 * v)] at e3
  have r0 : ∀ j, ax_ai S1 55 0 j = ax_ai T 55 0 j := fun j => congrFun (z2.2.2.2.2.1 55 0 (by decide)) j
  have a16 : ax_ai S1 55 0 16 = nI (N 16) := by rw [r0]; exact hS 16 (by omega)
  generalize hA : ax_sai S1 55 0 16 (nI (N 16 + cn_b H W N v)) = A1
  have rA : ∀ j, ax_ai A1 55 0 j = if j = 16 then nI (N 16 + cn_b H W N v) else ax_ai S1 55 0 j := fun j => by rw [← hA, sga]
  have aL : ax_ai A1 55 0 (12 + H (21 + 7 * v)) = nI (N (12 + H (21 + 7 * v))) := by rw [rA, if_neg (by omega), r0]; exact hS _ (by omega)
  generalize hB : ax_sai A1 55 0 (12 + H (21 + 7 * v)) (nI (N (12 + H (21 + 7 * v)) + 1)) = A2
  have rB : ∀ j, ax_ai A2 55 0 j = if j = 12 + H (21 + 7 * v) then nI (N (12 + H (21 + 7 * v)) + 1) else ax_ai A1 55 0 j := fun j => by rw [← hB, sga]
  generalize hD : ax_sai A2 55 0 (2 * v + 1) (1 : Int32) = A3
  have rD : ∀ j, ax_ai A3 55 0 j = if j = 2 * v + 1 then (1 : Int32) else ax_ai A2 55 0 j := fun j => by rw [← hD, sga]
  have a17 : ax_ai A3 55 0 17 = nI (N 17) := by rw [rD, if_neg (by omega), rB, if_neg (by omega), rA, if_neg (by omega), r0]; exact hS 17 (by omega)
  generalize hE : ax_sai A3 55 0 17 (nI (N 17 + 1)) = A4
  have rE : ∀ j, ax_ai A4 55 0 j = if j = 17 then nI (N 17 + 1) else if j = 2 * v + 1 then (1 : Int32) else if j = 12 + H (21 + 7 * v) then nI (N (12 + H (21 + 7 * v)) + 1) else if j = 16 then nI (N 16 + cn_b H W N v) else ax_ai T 55 0 j := fun j => by rw [← hE, sga, rD, rB, rA, r0]
  have q4 : jr_st T A4 55 := by
    rw [← hE, ← hD, ← hB, ← hA]
    exact ((((jr_st.fr z2).tr jr_st.ai).tr jr_st.ai).tr jr_st.ai).tr jr_st.ai
  have C4 : jr_C A4 H M K W := by
    rw [← hE, ← hD, ← hB, ← hA]
    exact jr_C_row (by omega) (jr_C_row (by omega) (jr_C_row (by omega) (jr_C_row (by omega) z3)))
  have a20 : ax_ai A4 55 0 20 = nI (N 20) := by rw [rE, if_neg (by omega), if_neg (by omega), if_neg (by omega), if_neg (by omega)]; exact hS 20 (by omega)
  have sS : ∀ j, j < 23 → j ≠ 20 → j ≠ 19 → ax_ai A4 55 0 j = nI (cn_call H W N v j) := fun j hj n20 n19 => by
    rw [rE]
    unfold cn_call
    by_cases q16 : j = 16
    · subst q16; rw [if_neg (by omega), if_neg (by omega), if_neg (by omega), if_pos rfl, if_pos rfl]
    · by_cases ql : j = 12 + H (21 + 7 * v)
      · rw [if_neg (by omega), if_neg (by omega), if_pos ql, if_neg q16, if_pos ql, ql]
      · by_cases qo : j = 2 * v + 1
        · rw [if_neg (by omega), if_pos qo, if_neg q16, if_neg ql, if_pos qo]; rfl
        · by_cases q17 : j = 17
          · rw [if_pos q17, if_neg q16, if_neg ql, if_neg qo, if_pos q17]
          · rw [if_neg q17, if_neg qo, if_neg ql, if_neg q16, if_neg q16, if_neg ql, if_neg qo, if_neg q17, if_neg n20, if_neg n19]
            exact hS j hj
  have hi : ∀ j, 23 ≤ j → ax_ai A4 55 0 j = ax_ai T 55 0 j := fun j hj => by rw [rE, if_neg (by omega), if_neg (by omega), if_neg (by omega), if_neg (by omega)]
  unfold f_X12_calls_55x0
  rw [z1, ax_bu_s, e5, sn_bs, e3, sn_bs, sn_let]
  by_cases hd : cn_b H W N v < H (19 + 7 * v)
  · rw [if_pos ((nI_ltI (by omega) (by omega)).mpr hd)]
    dsimp only
    rw [in_16, sn_gd, sn_gd, sn_let, cl_16, a16, nI_add, hA, ix_l, sn_in (by omega) (by omega), sn_gd, sn_gd, sn_let, nI_clamp (by omega), aL, nI_1, hB, ix_o, sn_in (by omega) (by omega), sn_gd, sn_let, nI_clamp (by omega), hD, in_17, sn_gd, sn_gd, sn_let, cl_17, a17, nI_1, hE, if_pos rfl, if_pos hd, (by decide : ax_bo 0 = true), sn_gd]
    refine ⟨A4, rfl, fun j hj => ?_, hi, q4, C4⟩
    by_cases q20 : j = 20
    · subst q20; rw [a20, cn_call_20 ho hv, if_pos hd]
    · by_cases q19 : j = 19
      · subst q19; rw [rE, if_neg (by omega), if_neg (by omega), if_neg (by omega), if_neg (by omega), cn_call_19 ho hv, if_pos hd]; exact hS 19 (by omega)
      · exact sS j hj q20 q19
  · have a19 : ax_ai (ax_sai A4 55 0 20 (nI (N 20 + 1))) 55 0 19 = nI (N 19) := by rw [sga, if_neg (by omega), rE, if_neg (by omega), if_neg (by omega), if_neg (by omega), if_neg (by omega)]; exact hS 19 (by omega)
    have em := sn_mn (S := ax_sai A4 55 0 20 (nI (N 20 + 1))) (a := 9999) (b := N 19 + (H (20 + 7 * v) + H (8 + 2 * H (21 + 7 * v)))) (by omega) (by omega)
    rw [← sn_9999] at em
    have C5 : jr_C (ax_sai A4 55 0 20 (nI (N 20 + 1))) H M K W := jr_C_row (by omega) C4
    rw [if_neg (fun q => hd ((nI_ltI (by omega) (by omega)).mp q))]
    dsimp only
    rw [in_16, sn_gd, sn_gd, sn_let, cl_16, a16, nI_add, hA, ix_l, sn_in (by omega) (by omega), sn_gd, sn_gd, sn_let, nI_clamp (by omega), aL, nI_1, hB, ix_o, sn_in (by omega) (by omega), sn_gd, sn_let, nI_clamp (by omega), hD, in_17, sn_gd, sn_gd, sn_let, cl_17, a17, nI_1, hE, if_neg (by decide), if_neg hd, in_20, sn_gd, sn_gd, sn_let, cl_20, a20, nI_1, in_19, sn_gd, jr_gain C5.1 ho hv, sn_bs, cl_19, a19, nI_add, em, sn_bs, sn_gd, sn_let, (by decide : ax_bo 1 = true), sn_gd]
    refine ⟨_, rfl, fun j hj => ?_, fun j hj => ?_, (q4.tr jr_st.ai).tr jr_st.ai, jr_C_row (by omega) C5⟩
    · rw [sga, sga]
      by_cases q19 : j = 19
      · subst q19; rw [if_pos rfl, cn_call_19 ho hv, if_neg hd]
      · rw [if_neg q19]
        by_cases q20 : j = 20
        · subst q20; rw [if_pos rfl, cn_call_20 ho hv, if_neg hd]
        · rw [if_neg q20]; exact sS j hj q20 q19
    · rw [sga, sga, if_neg (by omega), if_neg (by omega)]; exact hi j hj
/-! row 56 -/
theorem jr_in56 (ho : jh_ok H) (hN : jn_ok H N) (hC : jr_C T H M K W) (hS : jr_S (ax_ai T 56 0) N) {v : Nat} (hv : v < H 4) : ∃ Z, f_X12_takesIn_56x0 (nI v) T = some (nI (cn_b H W N v), Z) ∧ ax_fr jr_scr T Z ∧ jr_C Z H M K W := by
  have b1 := (ho.2.2.2.2.2.2 v hv)
  have h6 : H 4 ≤ 6 := ho.2.2.2.2.1
  have ht := cn_tired hN
  have h2 := hN.1 v (by omega)
  have h18 : N 18 ≤ 1 := hN.2.2.2.2.2.2.1
  have h22 : N 22 ≤ 999 := hN.2.2.2.2.2.2.2.2.2.2
  obtain ⟨Z, z1, z2, z3⟩ := jr_takes (v := v) (h := H (17 + 7 * v)) (t := N (2 * v)) (g := N 17) (s := N 18) (d := N 22) ho hC hv (by omega) (by omega) (by omega) (by omega) (by omega)
  refine ⟨Z, ?_, z2, z3⟩
  have e1 := jr_of hC.1 ho hv (w := 1) (by omega)
  rw [← sn_1, (by omega : 16 + 7 * v + 1 = 17 + 7 * v)] at e1
  unfold f_X12_takesIn_56x0
  rw [e1, sn_bs, ix_e, sn_in (by omega) (by omega), in_17, in_18, in_22, sn_gd, sn_gd, sn_gd, sn_gd, cl_17, cl_18, cl_22, nI_clamp (by omega), hS _ (by omega), hS 17 (by omega), hS 18 (by omega), hS 22 (by omega), z1, ax_bu_s]
  rfl
theorem jr_can56 (ho : jh_ok H) (hN : jn_ok H N) (hC : jr_C T H M K W) (hS : jr_S (ax_ai T 56 0) N) (x : Int32) : ∃ r Z, f_X12_canCall_56x0 x T = some (r, Z) ∧ ax_fr jr_scr T Z ∧ jr_C Z H M K W ∧ (((∃ v, v < H 4 ∧ x = nI v ∧ cn_can H W N v) ∧ r = 1) ∨ (¬ (∃ v, v < H 4 ∧ x = nI v ∧ cn_can H W N v) ∧ r = 0)) := by
  have h6 : H 4 ≤ 6 := ho.2.2.2.2.1
  have h3 : H 3 ≤ 4 := ho.2.2.2.1
  have h16 : N 16 ≤ 99 := hN.2.2.2.2.1
  have h0 : H 0 ≤ 99 := ho.1
  unfold f_X12_canCall_56x0
  rcases jc_dec (H := H) x with ⟨v, hv, rfl⟩ | hx
  · have b1 := (ho.2.2.2.2.2.2 v hv)
    have bl := ho.2.2.2.2.2.1 (H (21 + 7 * v)) (by omega)
    have hr := hN.2.2.1 (H (21 + 7 * v)) (by omega)
    have h2 := hN.1 v (by omega)
    have hb' : 1 ≤ cn_b H W N v ∧ cn_b H W N v ≤ 60 := bt_b
    have e5 := jr_of hC.1 ho hv (w := 5) (by omega)
    rw [← sn_5, (by omega : 16 + 7 * v + 5 = 21 + 7 * v)] at e5
    have e49 := hC.1.2.2.2.1 (H (21 + 7 * v)) (by omega) 1 (by omega)
    rw [(by omega : 8 + 2 * H (21 + 7 * v) + 1 = 9 + 2 * H (21 + 7 * v))] at e49
    have only : (∃ w, w < H 4 ∧ nI v = nI w ∧ cn_can H W N w) → cn_can H W N v := fun ⟨w, hw, e, q⟩ => cn_inj ho hv hw e ▸ q
    rw [jr_isC hC.1 ho hv, sn_bs, if_neg (by decide), ix_o, sn_in (by omega) (by omega), sn_gd, nI_clamp (by omega), hS _ (by omega)]
    have c1 : (nI (N (2 * v + 1)) = (1 : Int32)) ↔ N (2 * v + 1) = 1 := nI_eq (b := 1) (by omega) (by omega)
    by_cases ha : N (2 * v + 1) = 1
    · rw [if_pos (c1.mpr ha)]
      exact ⟨0, T, rfl, ax_fr.rf, hC, .inr ⟨fun q => absurd (only q).1 (by omega), rfl⟩⟩
    · rw [if_neg (fun q => ha (c1.mp q)), e5, sn_bs, ix_l, ix_o, sn_in (by omega) (by omega), sn_in (by omega) (by omega), sn_gd, sn_gd, nI_clamp (by omega), nI_clamp (by omega), e49, hS _ (by omega)]
      by_cases hl : H (9 + 2 * H (21 + 7 * v)) ≤ N (12 + H (21 + 7 * v))
      · rw [if_pos ((nI_leI (by omega) (by omega)).mpr hl)]
        exact ⟨0, T, rfl, ax_fr.rf, hC, .inr ⟨fun q => absurd (only q).2.1 (by omega), rfl⟩⟩
      · obtain ⟨Z, z1, z2, z3⟩ := jr_in56 ho hN hC hS hv
        rw [if_neg (fun q => hl ((nI_leI (by omega) (by omega)).mp q)), in_16, sn_gd, z1, ax_bu_s, in_r0, sn_gd, cl_r0, cl_16, z3.1.2.2.1 0 (by omega), hS 16 (by omega), nI_add]
        by_cases hq : N 16 + cn_b H W N v ≤ H 0
        · rw [if_neg (fun q => absurd ((nI_ltI (by omega) (by omega)).mp q) (by omega))]
          exact ⟨1, Z, rfl, z2, z3, .inl ⟨⟨v, hv, rfl, by omega, by omega, hq⟩, rfl⟩⟩
        · rw [if_pos ((nI_ltI (by omega) (by omega)).mpr (by omega))]
          exact ⟨0, Z, rfl, z2, z3, .inr ⟨fun q => hq (only q).2.2, rfl⟩⟩
  · rw [jr_isC0 hC.1 ho hx, sn_bs, if_pos rfl]
    exact ⟨0, T, rfl, ax_fr.rf, hC, .inr ⟨fun ⟨v, hv, e, _⟩ => hx v hv e, rfl⟩⟩
theorem jr_calls56 (ho : jh_ok H) (hN : jn_ok H N) (hC : jr_C T H M K W) (hS : jr_S (ax_ai T 56 0) N) {v : Nat} (hv : v < H 4) : ∃ Z, f_X12_calls_56x0 (nI v) T = some ((if cn_b H W N v < H (19 + 7 * v) then 0 else 1), Z) ∧ jr_S (ax_ai Z 56 0) (cn_call H W N v) ∧ (∀ j, 23 ≤ j → ax_ai Z 56 0 j = ax_ai T 56 0 j) ∧ jr_st T Z 56 ∧ jr_C Z H M K W := by
  have h6 : H 4 ≤ 6 := ho.2.2.2.2.1
  have h3 : H 3 ≤ 4 := ho.2.2.2.1
  have b1 := (ho.2.2.2.2.2.2 v hv)
  have bl := ho.2.2.2.2.2.1 (H (21 + 7 * v)) (by omega)
  have h19 : N 19 ≤ 9999 := hN.2.2.2.2.2.2.2.1
  have hb' : 1 ≤ cn_b H W N v ∧ cn_b H W N v ≤ 60 := bt_b
  have h2 := hN.1 v (by omega)
  obtain ⟨S1, z1, z2, z3⟩ := jr_in56 ho hN hC hS hv
  have e5 := jr_of z3.1 ho hv (w := 5) (by omega)
  rw [← sn_5, (by omega : 16 + 7 * v + 5 = 21 + 7 * v)] at e5
  have e3 := jr_of z3.1 ho hv (w := 3) (by omega)
  rw [← sn_3, (by omega : 16 + 7 * v + 3 = 19 + 7 * v)] at e3
  have r0 : ∀ j, ax_ai S1 56 0 j = ax_ai T 56 0 j := fun j => congrFun (z2.2.2.2.2.1 56 0 (by decide)) j
  have a16 : ax_ai S1 56 0 16 = nI (N 16) := by rw [r0]; exact hS 16 (by omega)
  generalize hA : ax_sai S1 56 0 16 (nI (N 16 + cn_b H W N v)) = A1
  have rA : ∀ j, ax_ai A1 56 0 j = if j = 16 then nI (N 16 + cn_b H W N v) else ax_ai S1 56 0 j := fun j => by rw [← hA, sga]
  have aL : ax_ai A1 56 0 (12 + H (21 + 7 * v)) = nI (N (12 + H (21 + 7 * v))) := by rw [rA, if_neg (by omega), r0]; exact hS _ (by omega)
  generalize hB : ax_sai A1 56 0 (12 + H (21 + 7 * v)) (nI (N (12 + H (21 + 7 * v)) + 1)) = A2
  have rB : ∀ j, ax_ai A2 56 0 j = if j = 12 + H (21 + 7 * v) then nI (N (12 + H (21 + 7 * v)) + 1) else ax_ai A1 56 0 j := fun j => by rw [← hB, sga]
  generalize hD : ax_sai A2 56 0 (2 * v + 1) (1 : Int32) = A3
  have rD : ∀ j, ax_ai A3 56 0 j = if j = 2 * v + 1 then (1 : Int32) else ax_ai A2 56 0 j := fun j => by rw [← hD, sga]
  have a17 : ax_ai A3 56 0 17 = nI (N 17) := by rw [rD, if_neg (by omega), rB, if_neg (by omega), rA, if_neg (by omega), r0]; exact hS 17 (by omega)
  generalize hE : ax_sai A3 56 0 17 (nI (N 17 + 1)) = A4
  have rE : ∀ j, ax_ai A4 56 0 j = if j = 17 then nI (N 17 + 1) else if j = 2 * v + 1 then (1 : Int32) else if j = 12 + H (21 + 7 * v) then nI (N (12 + H (21 + 7 * v)) + 1) else if j = 16 then nI (N 16 + cn_b H W N v) else ax_ai T 56 0 j := fun j => by rw [← hE, sga, rD, rB, rA, r0]
  have q4 : jr_st T A4 56 := by
    rw [← hE, ← hD, ← hB, ← hA]
    exact ((((jr_st.fr z2).tr jr_st.ai).tr jr_st.ai).tr jr_st.ai).tr jr_st.ai
  have C4 : jr_C A4 H M K W := by
    rw [← hE, ← hD, ← hB, ← hA]
    exact jr_C_row (by omega) (jr_C_row (by omega) (jr_C_row (by omega) (jr_C_row (by omega) z3)))
  have a20 : ax_ai A4 56 0 20 = nI (N 20) := by rw [rE, if_neg (by omega), if_neg (by omega), if_neg (by omega), if_neg (by omega)]; exact hS 20 (by omega)
  have sS : ∀ j, j < 23 → j ≠ 20 → j ≠ 19 → ax_ai A4 56 0 j = nI (cn_call H W N v j) := fun j hj n20 n19 => by
    rw [rE]
    unfold cn_call
    by_cases q16 : j = 16
    · subst q16; rw [if_neg (by omega), if_neg (by omega), if_neg (by omega), if_pos rfl, if_pos rfl]
    · by_cases ql : j = 12 + H (21 + 7 * v)
      · rw [if_neg (by omega), if_neg (by omega), if_pos ql, if_neg q16, if_pos ql, ql]
      · by_cases qo : j = 2 * v + 1
        · rw [if_neg (by omega), if_pos qo, if_neg q16, if_neg ql, if_pos qo]; rfl
        · by_cases q17 : j = 17
          · rw [if_pos q17, if_neg q16, if_neg ql, if_neg qo, if_pos q17]
          · rw [if_neg q17, if_neg qo, if_neg ql, if_neg q16, if_neg q16, if_neg ql, if_neg qo, if_neg q17, if_neg n20, if_neg n19]
            exact hS j hj
  have hi : ∀ j, 23 ≤ j → ax_ai A4 56 0 j = ax_ai T 56 0 j := fun j hj => by rw [rE, if_neg (by omega), if_neg (by omega), if_neg (by omega), if_neg (by omega)]
  unfold f_X12_calls_56x0
  rw [z1, ax_bu_s, e5, sn_bs, e3, sn_bs, sn_let]
  by_cases hd : cn_b H W N v < H (19 + 7 * v)
  · rw [if_pos ((nI_ltI (by omega) (by omega)).mpr hd)]
    dsimp only
    rw [in_16, sn_gd, sn_gd, sn_let, cl_16, a16, nI_add, hA, ix_l, sn_in (by omega) (by omega), sn_gd, sn_gd, sn_let, nI_clamp (by omega), aL, nI_1, hB, ix_o, sn_in (by omega) (by omega), sn_gd, sn_let, nI_clamp (by omega), hD, in_17, sn_gd, sn_gd, sn_let, cl_17, a17, nI_1, hE, if_pos rfl, if_pos hd, (by decide : ax_bo 0 = true), sn_gd]
    refine ⟨A4, rfl, fun j hj => ?_, hi, q4, C4⟩
    by_cases q20 : j = 20
    · subst q20; rw [a20, cn_call_20 ho hv, if_pos hd]
    · by_cases q19 : j = 19
      · subst q19; rw [rE, if_neg (by omega), if_neg (by omega), if_neg (by omega), if_neg (by omega), cn_call_19 ho hv, if_pos hd]; exact hS 19 (by omega)
      · exact sS j hj q20 q19
  · have a19 : ax_ai (ax_sai A4 56 0 20 (nI (N 20 + 1))) 56 0 19 = nI (N 19) := by rw [sga, if_neg (by omega), rE, if_neg (by omega), if_neg (by omega), if_neg (by omega), if_neg (by omega)]; exact hS 19 (by omega)
    have em := sn_mn (S := ax_sai A4 56 0 20 (nI (N 20 + 1))) (a := 9999) (b := N 19 + (H (20 + 7 * v) + H (8 + 2 * H (21 + 7 * v)))) (by omega) (by omega)
    rw [← sn_9999] at em
    have C5 : jr_C (ax_sai A4 56 0 20 (nI (N 20 + 1))) H M K W := jr_C_row (by omega) C4
    rw [if_neg (fun q => hd ((nI_ltI (by omega) (by omega)).mp q))]
    dsimp only
    rw [in_16, sn_gd, sn_gd, sn_let, cl_16, a16, nI_add, hA, ix_l, sn_in (by omega) (by omega), sn_gd, sn_gd, sn_let, nI_clamp (by omega), aL, nI_1, hB, ix_o, sn_in (by omega) (by omega), sn_gd, sn_let, nI_clamp (by omega), hD, in_17, sn_gd, sn_gd, sn_let, cl_17, a17, nI_1, hE, if_neg (by decide), if_neg hd, in_20, sn_gd, sn_gd, sn_let, cl_20, a20, nI_1, in_19, sn_gd, jr_gain C5.1 ho hv, sn_bs, cl_19, a19, nI_add, em, sn_bs, sn_gd, sn_let, (by decide : ax_bo 1 = true), sn_gd]
    refine ⟨_, rfl, fun j hj => ?_, fun j hj => ?_, (q4.tr jr_st.ai).tr jr_st.ai, jr_C_row (by omega) C5⟩
    · rw [sga, sga]
      by_cases q19 : j = 19
      · subst q19; rw [if_pos rfl, cn_call_19 ho hv, if_neg hd]
      · rw [if_neg q19]
        by_cases q20 : j = 20
        · subst q20; rw [if_pos rfl, cn_call_20 ho hv, if_neg hd]
        · rw [if_neg q20]; exact sS j hj q20 q19
    · rw [sga, sga, if_neg (by omega), if_neg (by omega)]; exact hi j hj
end

/-! TEXTS: an afternoon is read -/
def pwc (y : Nat) (S Z : AS) : Prop := (∀ k i j, ¬ (k = 0 ∧ i = y) → ax_fi Z k i j = ax_fi S k i j) ∧ ax_fx Z = ax_fx S ∧ ax_fo Z = ax_fo S ∧ ∀ k i, ¬ ((k = 20 ∨ k = 21) ∧ i = y) → ax_ai Z k i = ax_ai S k i
def pwr (T Z : AS) : Prop := ax_fi Z = ax_fi T ∧ ax_fx Z = ax_fx T ∧ ax_al Z = ax_al T ∧ (∀ k i, k ≠ 53 → k ≠ 54 → ax_ai Z k i = ax_ai T k i) ∧ (∀ m, m < 128 → ax_ai Z 53 0 m = ax_ai T 53 0 m) ∧ ∀ m, m < 4 → ax_ai Z 54 0 m = ax_ai T 54 0 m
def pg (y k : Nat) (E : Nat → Nat) (S T : AS) : Prop := k ≤ 16 ∧ ax_fi S 0 y 2 = nI k ∧ ∀ i, i < k → E (2 * i) ≤ 4 ∧ ax_ai S 20 y i = nI (E (2 * i)) ∧ ax_ai S 21 y i = dg (E (2 * i + 1)) ∧ ax_ai T 53 0 (128 + 2 * i) = nI (E (2 * i)) ∧ ax_ai T 53 0 (128 + 2 * i + 1) = dg (E (2 * i + 1))
theorem ti4_c {x : Nat} : (∃ j, j < 5 ∧ ti4 x = nI j ∧ x < 256) ∨ ti4 x = Int32.ofInt (-1) := by
  unfold ti4
  by_cases h0 : x = 99
  · exact .inl ⟨0, by omega, if_pos h0, by omega⟩
  rw [if_neg h0]
  by_cases h1 : x = 116
  · exact .inl ⟨1, by omega, if_pos h1, by omega⟩
  rw [if_neg h1]
  by_cases h2 : x = 103
  · exact .inl ⟨2, by omega, if_pos h2, by omega⟩
  rw [if_neg h2]
  by_cases h3 : x = 104
  · exact .inl ⟨3, by omega, if_pos h3, by omega⟩
  rw [if_neg h3]
  by_cases h4 : x = 100
  · exact .inl ⟨4, by omega, if_pos h4, by omega⟩
  rw [if_neg h4]
  exact .inr rfl
section
variable {S T Z Y X : AS} {b : Nat → Nat} {n y k q : Nat} {E : Nat → Nat} {p φ : Int32}
theorem pwc.rf : pwc y S S := ⟨fun _ _ _ _ => rfl, rfl, rfl, fun _ _ _ => rfl⟩
theorem pwr.rf : pwr T T := ⟨rfl, rfl, rfl, fun _ _ _ _ => rfl, fun _ _ => rfl, fun _ _ => rfl⟩
theorem pwc.tr (h : pwc y S Z) (g : pwc y Z X) : pwc y S X := ⟨fun k i j q => (g.1 k i j q).trans (h.1 k i j q), g.2.1.trans h.2.1, g.2.2.1.trans h.2.2.1, fun k i q => (g.2.2.2 k i q).trans (h.2.2.2 k i q)⟩
theorem pwr.tr (h : pwr T Y) (g : pwr Y X) : pwr T X := ⟨g.1.trans h.1, g.2.1.trans h.2.1, g.2.2.1.trans h.2.2.1, fun k i a b => (g.2.2.2.1 k i a b).trans (h.2.2.2.1 k i a b), fun m q => (g.2.2.2.2.1 m q).trans (h.2.2.2.2.1 m q), fun m q => (g.2.2.2.2.2 m q).trans (h.2.2.2.2.2 m q)⟩
theorem pwc_fi {j : Nat} {v : Int32} : pwc y S (ax_sfi S 0 y j v) := by
  refine ⟨fun k i m q => ?_, rfl, rfl, fun _ _ _ => rfl⟩
  unfold ax_fi ax_sfi ax_u3
  exact if_neg (fun z => q ⟨z.1, z.2.1⟩)
theorem pwc_ai {R j : Nat} {v : Int32} (hR : R = 20 ∨ R = 21) : pwc y S (ax_sai S R y j v) := ⟨fun _ _ _ _ => rfl, rfl, rfl, fun k i q => ax_u3_o (fun z => q ⟨by omega, z.2⟩)⟩
theorem pwr_53 {j : Nat} {v : Int32} (hj : 128 ≤ j) : pwr T (ax_sai T 53 0 j v) := by
  refine ⟨rfl, rfl, rfl, fun k i a _ => sgo a, fun m q => ?_, fun m _ => by rw [sgo (by omega)]⟩
  rw [sga, if_neg (by omega)]
theorem pwr_54 {v : Int32} : pwr T (ax_sai T 54 0 4 v) := by
  refine ⟨rfl, rfl, rfl, fun k i _ a => sgo a, fun m _ => by rw [sgo (by omega)], fun m q => ?_⟩
  rw [sga, if_neg (by omega)]
theorem pwc_T (h : pwc y S Z) (hT : lc_Tp b n S) : lc_Tp b n Z := by
  obtain ⟨t1, t2, t3, t4⟩ := hT
  refine ⟨t1, by rw [h.1 10 0 1 (by omega)]; exact t2, ?_, t4⟩
  rw [h.2.2.2 40 0 (by omega)]
  exact t3
theorem pwr_T (h : pwr T Y) (hT : lr_Tp b n T 0 0) : lr_Tp b n Y 0 0 := by
  obtain ⟨t1, t2, t3, t4, t5, t6, t7, t8⟩ := hT
  refine ⟨t1, by rw [h.1]; exact t2, by rw [h.1]; exact t3, by rw [h.2.1]; exact t4, t5, t6, ?_, t8⟩
  rw [h.2.2.2.1 44 0 (by omega) (by omega)]
  exact t7
def pcl (y n q k : Nat) (S T : AS) (x z : Option AS) : Prop := ∃ Z Y, pwc y S Z ∧ pwr T Y ∧ ((∃ f p p', f ≤ n ∧ x = some (tpS Z p (nI f)) ∧ z = some (tpT Y p' (nI f))) ∨ (∃ q' E, q ≤ q' ∧ q' ≤ n ∧ x = some (tpS Z (nI q') (Int32.ofInt (-1))) ∧ z = some (tpT Y (nI q') (Int32.ofInt (-1))) ∧ pg y (k + 1) E Z Y))
def psJ (y : Nat) (r8 x17 : Int32) (S18 : AS) : Option AS := ax_gd (ax_in (ax_fi S18 0 y 2) 16) (ax_let (ax_sai S18 20 y (ax_fi S18 0 y 2).toNatClampNeg r8) (fun (S21 : AS) => (if x17 = (0 : Int32) then ax_gd (ax_in (ax_fi S21 0 y 2) 16) (ax_let (ax_sai S21 21 y (ax_fi S21 0 y 2).toNatClampNeg (Int32.ofInt (-1))) (fun (S24 : AS) => ax_let (ax_sfi S24 0 y 2 ((ax_fi S24 0 y 2) + (1 : Int32))) (fun (S25 : AS) => some S25))) else ax_bu (f_X10_digit S21) (fun (r29 : Int32) (S26 : AS) => ax_gd (ax_in (ax_fi S21 0 y 2) 16) (ax_let (ax_sai S26 21 y (ax_fi S21 0 y 2).toNatClampNeg r29) (fun (S31 : AS) => ax_let (ax_sfi S31 0 y 2 ((ax_fi S31 0 y 2) + (1 : Int32))) (fun (S32 : AS) => some S32)))))))
theorem ps_e : f_X0_readStep y S = ax_bu (f_X10_peek S) (fun (r4 : Int32) (S1 : AS) => (f_J0_indexOf_0f7a4_64x4 (r4.toUInt32 % 65536).toInt32 S1).bind (fun (r8 : Int32) => (if r8 < (0 : Int32) then (f_X10_fail S1).bind (fun (S10 : AS) => some S10) else (if (ax_fi S1 0 y 2) < (16 : Int32) then (f_X10_pass S1).bind (fun (S14 : AS) => (if r8 = (0 : Int32) then psJ y r8 1 S14 else (if r8 = (1 : Int32) then psJ y r8 1 S14 else (if r8 = (3 : Int32) then psJ y r8 1 S14 else psJ y r8 0 S14)))) else (f_X10_fail S1).bind (fun (S36 : AS) => some S36))))) := rfl
theorem p_st (hS : lc_Tp b n S) (hT : lr_Tp b n T 0 0) (h : pg y k E S T) (hk : k < 16) (hq : q ≤ n) : pcl y n q k S T (f_X0_readStep y (tpS S (nI q) (Int32.ofInt (-1)))) (f_X12_readStep (nI (128 + 2 * k)) (tpT T (nI q) (Int32.ofInt (-1)))) := by
  obtain ⟨h1, h2, h3⟩ := h
  have hle := lc_by_le hS (p := q)
  have hsk := la_sk_n (b := b) hq
  have h240 := hS.1
  have k2 : ax_fi (tpS S (nI (la_sk b n q)) (Int32.ofInt (-1))) 0 y 2 = nI k := (tp_fi (by omega)).trans h2
  have z16 : (nI k < (16 : Int32)) ↔ k < 16 := nI_ltI (b := 16) (by omega) (by omega)
  have ik : nI (la_sk b n q) + 1 = nI (la_sk b n q + 1) := nI_1 _
  have i1 : nI (128 + 2 * k) + (1 : Int32) = nI (128 + 2 * k + 1) := nI_1 _
  unfold f_X12_readStep
  rw [ps_e, tp_peek hS hq, ax_bu_s, tq_look hT hq, ax_bu_s, ci4 hle, sn_bs, si4 hle, sn_bs]
  rcases ti4_c (x := la_by b n q) with ⟨j, hj, e, hx⟩ | e
  · have hslt : la_sk b n q < n := by
      unfold la_by at hx
      by_cases z : la_sk b n q < n
      · exact z
      · rw [if_neg z] at hx; omega
    have d0 : (nI j = (0 : Int32)) ↔ j = 0 := nI_eq (b := 0) (by omega) (by omega)
    have d1 : (nI j = (1 : Int32)) ↔ j = 1 := nI_eq (b := 1) (by omega) (by omega)
    have d2 : (nI j = (2 : Int32)) ↔ j = 2 := nI_eq (b := 2) (by omega) (by omega)
    have d3 : (nI j = (3 : Int32)) ↔ j = 3 := nI_eq (b := 3) (by omega) (by omega)
    have d4 : (nI j = (4 : Int32)) ↔ j = 4 := nI_eq (b := 4) (by omega) (by omega)
    have k9 : ax_fi (tpS S (nI (la_sk b n q + 1)) (Int32.ofInt (-1))) 0 y 2 = nI k := (tp_fi (by omega)).trans h2
    have k8 : ax_fi (tpS (ax_sai S 20 y k (nI j)) (nI (la_sk b n q + 1)) (Int32.ofInt (-1))) 0 y 2 = nI k := (tp_fi (by omega)).trans h2
    have f1 : pwc y S (ax_sai S 20 y k (nI j)) := pwc_ai (.inl rfl)
    have g1 : pwr T (ax_sai (ax_sai T 53 0 (128 + 2 * k) (nI j)) 53 0 (128 + 2 * k + 1) (Int32.ofInt (-1))) := (pwr_53 (by omega)).tr (pwr_53 (by omega))
    have hS1 := pwc_T f1 hS
    have hT1 := pwr_T g1 hT
    have ic : nI k + 1 = nI (k + 1) := nI_1 _
    rw [e, if_neg (nI_pos (by omega)), if_neg (nm1 (n := j) (by omega)), k2, if_pos (z16.mpr hk), tp_pass hS hslt, sn_bs, tq_10, ik, tq_s10, sn_let, sn_in (by omega) (by omega), sn_gd, nI_clamp (n := 128 + 2 * k) (by omega), tq_sai, sn_let, i1, sn_in (by omega) (by omega), sn_gd, nI_clamp (n := 128 + 2 * k + 1) (by omega), tq_sai, sn_let]
    by_cases hd : j = 2 ∨ j = 4
    · have rr : (if nI j = (2 : Int32) then some (tpT (ax_sai (ax_sai T 53 0 (128 + 2 * k) (nI j)) 53 0 (128 + 2 * k + 1) (Int32.ofInt (-1))) (nI (la_sk b n q + 1)) (Int32.ofInt (-1))) else (if nI j = (4 : Int32) then some (tpT (ax_sai (ax_sai T 53 0 (128 + 2 * k) (nI j)) 53 0 (128 + 2 * k + 1) (Int32.ofInt (-1))) (nI (la_sk b n q + 1)) (Int32.ofInt (-1))) else ax_bu (f_X12_look (tpT (ax_sai (ax_sai T 53 0 (128 + 2 * k) (nI j)) 53 0 (128 + 2 * k + 1) (Int32.ofInt (-1))) (nI (la_sk b n q + 1)) (Int32.ofInt (-1)))) (fun (r20 : Int32) (S17 : AS) => (f_X12_isDigit S17).bind (fun (r24 : Int32) => (if r24 = (0 : Int32) then ax_bu (f_X12_fails S17) (fun (r32 : Int32) (S29 : AS) => some S29) else ax_gd true (ax_let (ax_sai S17 53 0 (128 + 2 * k + 1) (r20 - (48 : Int32))) (fun (S27 : AS) => ax_let (ax_sfi S27 12 0 10 ((ax_fi S27 12 0 10) + (1 : Int32))) (fun (S28 : AS) => some S28)))))))) = some (tpT (ax_sai (ax_sai T 53 0 (128 + 2 * k) (nI j)) 53 0 (128 + 2 * k + 1) (Int32.ofInt (-1))) (nI (la_sk b n q + 1)) (Int32.ofInt (-1))) := by
        rcases hd with z | z
        · rw [if_pos (d2.mpr z)]
        · rw [if_neg (fun w => by have := d2.mp w; omega), if_pos (d4.mpr z)]
      have k7 : ax_fi (tpS (ax_sai (ax_sai S 20 y k (nI j)) 21 y k (Int32.ofInt (-1))) (nI (la_sk b n q + 1)) (Int32.ofInt (-1))) 0 y 2 = nI k := (tp_fi (by omega)).trans h2
      rw [rr, if_neg (fun w => by have := d0.mp w; omega), if_neg (fun w => by have := d1.mp w; omega), if_neg (fun w => by have := d3.mp w; omega)]
      unfold psJ
      rw [k9, sn_in (by omega) (by omega), sn_gd, nI_clamp (n := k) (by omega), tp_sai, sn_let, if_pos rfl, k8, sn_in (by omega) (by omega), sn_gd, nI_clamp (n := k) (by omega), tp_sai, sn_let, k7, ic, tp_c (by omega), sn_let]
      refine ⟨_, _, (f1.tr (pwc_ai (.inr rfl))).tr pwc_fi, g1, .inr ⟨la_sk b n q + 1, (fun m => if m = 2 * k then j else if m = 2 * k + 1 then 0 else E m), by omega, by omega, rfl, rfl, by omega, by rw [sg, if_pos rfl], fun i hi => ?_⟩⟩
      have v20 : ax_ai (ax_sfi (ax_sai (ax_sai S 20 y k (nI j)) 21 y k (Int32.ofInt (-1))) 0 y 2 (nI (k + 1))) 20 y i = if i = k then nI j else ax_ai S 20 y i := by rw [sfa, sgo (by omega), sga]
      have v21 : ax_ai (ax_sfi (ax_sai (ax_sai S 20 y k (nI j)) 21 y k (Int32.ofInt (-1))) 0 y 2 (nI (k + 1))) 21 y i = if i = k then Int32.ofInt (-1) else ax_ai S 21 y i := by rw [sfa, sga, sgo (by omega)]
      have v53 : ∀ m, ax_ai (ax_sai (ax_sai T 53 0 (128 + 2 * k) (nI j)) 53 0 (128 + 2 * k + 1) (Int32.ofInt (-1))) 53 0 m = if m = 128 + 2 * k + 1 then Int32.ofInt (-1) else if m = 128 + 2 * k then nI j else ax_ai T 53 0 m := fun m => by rw [sga, sga]
      rw [v20, v21, v53, v53]
      dsimp only
      by_cases z : i = k
      · subst z
        rw [if_pos rfl, if_pos rfl, if_pos rfl, if_neg (show ¬ (2 * i + 1 = 2 * i) by omega), if_pos rfl, if_neg (show ¬ (128 + 2 * i = 128 + 2 * i + 1) by omega), if_pos rfl, if_pos rfl]
        exact ⟨by omega, rfl, rfl, rfl, rfl⟩
      · obtain ⟨w1, w2, w3, w4, w5⟩ := h3 i (by omega)
        rw [if_neg z, if_neg z, if_neg (show ¬ (2 * i = 2 * k) by omega), if_neg (show ¬ (2 * i = 2 * k + 1) by omega), if_neg (show ¬ (2 * i + 1 = 2 * k) by omega), if_neg (show ¬ (2 * i + 1 = 2 * k + 1) by omega), if_neg (show ¬ (128 + 2 * i = 128 + 2 * k + 1) by omega), if_neg (show ¬ (128 + 2 * i = 128 + 2 * k) by omega), if_neg (show ¬ (128 + 2 * i + 1 = 128 + 2 * k + 1) by omega), if_neg (show ¬ (128 + 2 * i + 1 = 128 + 2 * k) by omega)]
        exact ⟨w1, w2, w3, w4, w5⟩
    · have hsk1 := la_sk_n (b := b) (n := n) (p := la_sk b n q + 1) (by omega)
      have hle1 := lc_by_le hS1 (p := la_sk b n q + 1)
      have cj : (if nI j = (0 : Int32) then psJ y (nI j) 1 (tpS S (nI (la_sk b n q + 1)) (Int32.ofInt (-1))) else (if nI j = (1 : Int32) then psJ y (nI j) 1 (tpS S (nI (la_sk b n q + 1)) (Int32.ofInt (-1))) else (if nI j = (3 : Int32) then psJ y (nI j) 1 (tpS S (nI (la_sk b n q + 1)) (Int32.ofInt (-1))) else psJ y (nI j) 0 (tpS S (nI (la_sk b n q + 1)) (Int32.ofInt (-1)))))) = psJ y (nI j) 1 (tpS S (nI (la_sk b n q + 1)) (Int32.ofInt (-1))) := by
        rcases (by omega : j = 0 ∨ j = 1 ∨ j = 3) with z | z | z
        · rw [if_pos (d0.mpr z)]
        · rw [if_neg (fun w => by have := d0.mp w; omega), if_pos (d1.mpr z)]
        · rw [if_neg (fun w => by have := d0.mp w; omega), if_neg (fun w => by have := d1.mp w; omega), if_pos (d3.mpr z)]
      rw [cj, if_neg (fun w => by have := d2.mp w; omega), if_neg (fun w => by have := d4.mp w; omega)]
      unfold psJ f_X10_digit
      rw [k9, sn_in (by omega) (by omega), sn_gd, nI_clamp (n := k) (by omega), tp_sai, sn_let, if_neg ne10, tp_peek hS1 (by omega), ax_bu_s, lc_isD hle1, sn_bs, k8, sn_in (by omega) (by omega), nI_clamp (n := k) (by omega), tq_look hT1 (by omega), ax_bu_s, tq_isD hT1 hsk1.2, sn_bs]
      by_cases dd : la_di b n (la_sk b n (la_sk b n q + 1)) = true
      · obtain ⟨x1, x2, x3⟩ := di_lt dd
        have eby : la_by b n (la_sk b n q + 1) = b (la_sk b n (la_sk b n q + 1)) := by
          unfold la_by
          rw [if_pos x1]
        have y1 : lc_sg (la_by b n (la_sk b n q + 1)) - 48 = nI (b (la_sk b n (la_sk b n q + 1)) - 48) := by rw [eby]; exact lc_dg1 _ (by omega) x2
        have y2 : lr_sg (la_by b n (la_sk b n q + 1)) - 48 = nI (b (la_sk b n (la_sk b n q + 1)) - 48) := by rw [eby]; exact lr_dg1 _ (by omega) x2
        have ik2 : nI (la_sk b n (la_sk b n q + 1)) + 1 = nI (la_sk b n (la_sk b n q + 1) + 1) := nI_1 _
        have k7 : ax_fi (tpS (ax_sai (ax_sai S 20 y k (nI j)) 21 y k (nI (b (la_sk b n (la_sk b n q + 1)) - 48))) (nI (la_sk b n (la_sk b n q + 1) + 1)) (Int32.ofInt (-1))) 0 y 2 = nI k := (tp_fi (by omega)).trans h2
        rw [if_pos (by_di.mpr dd), if_neg ne10, tp_pass hS1 x1, sn_bs, y1, ax_bu_s, sn_gd, tp_sai, sn_let, k7, ic, tp_c (by omega), sn_let, if_pos dd, if_neg ne10, sn_gd, y2, tq_sai, sn_let, tq_10, ik2, tq_s10, sn_let]
        refine ⟨_, _, (f1.tr (pwc_ai (.inr rfl))).tr pwc_fi, g1.tr (pwr_53 (by omega)), .inr ⟨la_sk b n (la_sk b n q + 1) + 1, (fun m => if m = 2 * k then j else if m = 2 * k + 1 then b (la_sk b n (la_sk b n q + 1)) - 48 + 1 else E m), by omega, by omega, rfl, rfl, by omega, by rw [sg, if_pos rfl], fun i hi => ?_⟩⟩
        have v20 : ax_ai (ax_sfi (ax_sai (ax_sai S 20 y k (nI j)) 21 y k (nI (b (la_sk b n (la_sk b n q + 1)) - 48))) 0 y 2 (nI (k + 1))) 20 y i = if i = k then nI j else ax_ai S 20 y i := by rw [sfa, sgo (by omega), sga]
        have v21 : ax_ai (ax_sfi (ax_sai (ax_sai S 20 y k (nI j)) 21 y k (nI (b (la_sk b n (la_sk b n q + 1)) - 48))) 0 y 2 (nI (k + 1))) 21 y i = if i = k then nI (b (la_sk b n (la_sk b n q + 1)) - 48) else ax_ai S 21 y i := by rw [sfa, sga, sgo (by omega)]
        have v53 : ∀ m, ax_ai (ax_sai (ax_sai (ax_sai T 53 0 (128 + 2 * k) (nI j)) 53 0 (128 + 2 * k + 1) (Int32.ofInt (-1))) 53 0 (128 + 2 * k + 1) (nI (b (la_sk b n (la_sk b n q + 1)) - 48))) 53 0 m = if m = 128 + 2 * k + 1 then nI (b (la_sk b n (la_sk b n q + 1)) - 48) else if m = 128 + 2 * k then nI j else ax_ai T 53 0 m := fun m => by
          rw [sga, sga, sga]
          by_cases z : m = 128 + 2 * k + 1
          · rw [if_pos z, if_pos z]
          · rw [if_neg z, if_neg z, if_neg z]
        rw [v20, v21, v53, v53]
        dsimp only
        by_cases z : i = k
        · subst z
          have ed : dg (b (la_sk b n (la_sk b n q + 1)) - 48 + 1) = nI (b (la_sk b n (la_sk b n q + 1)) - 48) := by
            unfold dg
            rw [if_neg (by omega), Nat.add_sub_cancel]
          rw [if_pos rfl, if_pos rfl, if_pos rfl, if_neg (show ¬ (2 * i + 1 = 2 * i) by omega), if_pos rfl, if_neg (show ¬ (128 + 2 * i = 128 + 2 * i + 1) by omega), if_pos rfl, if_pos rfl, ed]
          exact ⟨by omega, rfl, rfl, rfl, rfl⟩
        · obtain ⟨w1, w2, w3, w4, w5⟩ := h3 i (by omega)
          rw [if_neg z, if_neg z, if_neg (show ¬ (2 * i = 2 * k) by omega), if_neg (show ¬ (2 * i = 2 * k + 1) by omega), if_neg (show ¬ (2 * i + 1 = 2 * k) by omega), if_neg (show ¬ (2 * i + 1 = 2 * k + 1) by omega), if_neg (show ¬ (128 + 2 * i = 128 + 2 * k + 1) by omega), if_neg (show ¬ (128 + 2 * i = 128 + 2 * k) by omega), if_neg (show ¬ (128 + 2 * i + 1 = 128 + 2 * k + 1) by omega), if_neg (show ¬ (128 + 2 * i + 1 = 128 + 2 * k) by omega)]
          exact ⟨w1, w2, w3, w4, w5⟩
      · have k7 : ∀ p φ, ax_fi (tpS (ax_sai (ax_sai S 20 y k (nI j)) 21 y k 0) p φ) 0 y 2 = nI k := fun p φ => (tp_fi (by omega)).trans h2
        rw [if_neg (fun w => dd (by_di.mp w)), if_pos rfl, tp_fail, sn_bs, ax_bu_s, sn_gd, tp_sai, sn_let, k7, ic, tp_c (by omega), sn_let, if_neg dd, if_pos rfl, tq_fails, ax_bu_s]
        exact ⟨_, _, (f1.tr (pwc_ai (.inr rfl))).tr pwc_fi, g1, .inl ⟨la_sk b n (la_sk b n q + 1), _, _, hsk1.2, rfl, rfl⟩⟩
  · have nn : Int32.ofInt (-1) < (0 : Int32) := by decide
    rw [e, if_pos nn, if_pos rfl, tp_fail, sn_bs, tq_fails, ax_bu_s]
    exact ⟨S, T, pwc.rf, pwr.rf, .inl ⟨la_sk b n q, _, _, hsk.2, rfl, rfl⟩⟩
end

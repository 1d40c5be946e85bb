/-! TEXTS: a house, on both sides -/
def hwc (y : Nat) (S Z : AS) : Prop := (∀ k i j, ¬ (k = 4 ∧ i = y) → ax_fi Z k i j = ax_fi S k i j) ∧ ax_fx Z = ax_fx S ∧ ax_fo Z = ax_fo S ∧ ∀ k i, ¬ (27 ≤ k ∧ k ≤ 29 ∧ i = y) → ax_ai Z k i = ax_ai S k i
def hwr (T Z : AS) : Prop := (∀ k i j, ¬ (k = 12 ∧ (j = 28 ∨ j = 29 ∨ j = 31)) → ax_fi Z k i j = ax_fi T k i j) ∧ ax_fx Z = ax_fx T ∧ ax_al Z = ax_al T ∧ ∀ k i, k ≠ 48 → k ≠ 50 → k ≠ 52 → ax_ai Z k i = ax_ai T k i
def hg (y rt lc vc : Nat) (G : Nat → Nat) (S T : AS) : Prop := rt ≤ 1 ∧ lc ≤ 4 ∧ vc ≤ 6 ∧ (ax_fi S 4 y 3 = nI rt ∧ ax_fi S 4 y 4 = nI lc ∧ ax_fi S 4 y 5 = nI vc) ∧ (ax_fi T 12 0 31 = nI rt ∧ ax_fi T 12 0 28 = nI lc ∧ ax_fi T 12 0 29 = nI vc) ∧ (ith 27 y 0 3 S G ∧ ith 48 0 0 3 T G ∧ (∀ w, w < 3 → lo0 w ≤ G w ∧ G w ≤ hi0 w) ∧ (rt = 0 → ∀ w, w < 3 → G w = us0 w)) ∧ (∀ l, l < lc → ith 28 y (2 * l) 2 S (fun w => G (8 + 2 * l + w)) ∧ ith 50 0 (2 * l) 2 T (fun w => G (8 + 2 * l + w)) ∧ ∀ w, w < 2 → lo1 w ≤ G (8 + 2 * l + w) ∧ G (8 + 2 * l + w) ≤ hi1 w) ∧ ∀ v, v < vc → ith 29 y (7 * v) 7 S (fun w => G (16 + 7 * v + w)) ∧ ith 52 0 (7 * v) 7 T (fun w => G (16 + 7 * v + w)) ∧ ∀ w, w < 7 → lo2 w ≤ G (16 + 7 * v + w) ∧ G (16 + 7 * v + w) ≤ hi2 w
section
variable {S T Z Y X : AS} {b : Nat → Nat} {n y R A L rt lc vc q : Nat} {G : Nat → Nat} {p φ : Int32}
theorem hwc.rf : hwc y S S := ⟨fun _ _ _ _ => rfl, rfl, rfl, fun _ _ _ => rfl⟩
theorem hwr.rf : hwr T T := ⟨fun _ _ _ _ => rfl, rfl, rfl, fun _ _ _ _ _ => rfl⟩
theorem hwc.tr (h : hwc y S Z) (g : hwc y Z X) : hwc y S X := ⟨fun k i j q => (g.1 k i j q).trans (h.1 k i j q), g.2.1.trans h.2.1, g.2.2.1.trans h.2.2.1, fun k i q => (g.2.2.2 k i q).trans (h.2.2.2 k i q)⟩
theorem hwr.tr (h : hwr T Y) (g : hwr Y X) : hwr T X := ⟨fun k i j q => (g.1 k i j q).trans (h.1 k i j q), g.2.1.trans h.2.1, g.2.2.1.trans h.2.2.1, fun k i a b c => (g.2.2.2 k i a b c).trans (h.2.2.2 k i a b c)⟩
theorem hwc_it (h : itw R y A L S Z) (hR : 27 ≤ R ∧ R ≤ 29) : hwc y S Z := ⟨fun _ _ _ _ => by rw [h.1], h.2.1, h.2.2.1, fun k i q => h.2.2.2.2.1 k i (fun z => q ⟨by omega, by omega, z.2⟩)⟩
theorem hwr_it (h : itw R 0 A L T Y) (hR : R = 48 ∨ R = 50 ∨ R = 52) : hwr T Y := ⟨fun _ _ _ _ => by rw [h.1], h.2.1, h.2.2.2.1, fun k i a b c => h.2.2.2.2.1 k i (fun z => by omega)⟩
theorem hwc_fi {j : Nat} {v : Int32} : hwc y S (ax_sfi S 4 y j v) := by
  refine ⟨fun k i m q => ?_, rfl, rfl, fun _ _ _ => rfl⟩
  unfold ax_fi ax_sfi ax_u3
  exact if_neg (fun z => q ⟨z.1, z.2.1⟩)
theorem hwr_fi {j : Nat} {v : Int32} (hj : j = 28 ∨ j = 29 ∨ j = 31) : hwr T (ax_sfi T 12 0 j v) := by
  refine ⟨fun k i m q => ?_, rfl, rfl, fun _ _ _ _ _ => rfl⟩
  unfold ax_fi ax_sfi ax_u3
  exact if_neg (fun z => q ⟨z.1, by omega⟩)
theorem hwc_T (h : hwc y S Z) (hT : lc_Tp b n S) : lc_Tp b n Z := by
  obtain ⟨t1, t2, t3, t4⟩ := hT
  refine ⟨t1, by rw [h.1 10 0 1 (by omega)]; exact t2, ?_, t4⟩
  rw [h.2.2.2 40 0 (by omega)]
  exact t3
theorem hwr_T (h : hwr T Y) (hT : lr_Tp b n T 0 0) : lr_Tp b n Y 0 0 := by
  obtain ⟨t1, t2, t3, t4, t5, t6, t7, t8⟩ := hT
  refine ⟨t1, by rw [h.1 12 0 9 (by omega)]; exact t2, by rw [h.1 12 0 8 (by omega)]; exact t3, by rw [h.2.1]; exact t4, t5, t6, ?_, t8⟩
  rw [h.2.2.2 44 0 (by omega) (by omega) (by omega)]
  exact t7
theorem ith_it {a R' a' A' L' : Nat} {g : Nat → Nat} (h : itw R a A L S Z) (hd : ¬ (R' = R ∧ a' = a) ∨ (A' + L' ≤ A ∨ A + L ≤ A')) (hi : ith R' a' A' L' S g) : ith R' a' A' L' Z g := fun w hw => by
  by_cases q : R' = R ∧ a' = a
  · rw [q.1, q.2, h.2.2.2.2.2 _ (by omega), ← q.1, ← q.2]
    exact hi w hw
  · rw [h.2.2.2.2.1 R' a' q]
    exact hi w hw
theorem ith_c {a : Nat} {g g' : Nat → Nat} (h : ith R a A L S g) (e : ∀ w, w < L → g' w = g w) : ith R a A L S g' := fun w hw => by
  rw [e w hw]
  exact h w hw
def hcl (y n q s : Nat) (S T : AS) (x z : Option AS) : Prop := ∃ Z Y, hwc y S Z ∧ hwr T Y ∧ ((∃ f p p', f ≤ n ∧ x = some (tpS Z p (nI f)) ∧ z = some (tpT Y p' (nI f))) ∨ (∃ q' rt lc vc G, q ≤ q' ∧ q' ≤ n ∧ x = some (tpS Z (nI q') (Int32.ofInt (-1))) ∧ z = some (tpT Y (nI q') (Int32.ofInt (-1))) ∧ hg y rt lc vc G Z Y ∧ rt + lc + vc = s + 1))
def rcJ (r4 x5 : Int32) (S6 : AS) : Option AS := (if x5 = (0 : Int32) then ax_bu (f_X12_fails S6) (fun (_ : Int32) (S24 : AS) => some S24) else ax_let (ax_sfi S6 12 0 10 ((ax_fi S6 12 0 10) + (1 : Int32))) (fun (S9 : AS) => (if r4 = (115 : Int32) then ax_let (ax_sfi S9 12 0 31 (1 : Int32)) (fun (S20 : AS) => (f_X12_readItems_48x0_64x0 r4 (0 : Int32) S20).bind (fun (S21 : AS) => some S21)) else (if r4 = (108 : Int32) then ax_let (ax_sfi S9 12 0 28 ((ax_fi S9 12 0 28) + (1 : Int32))) (fun (S16 : AS) => (f_X12_readItems_50x0_64x1 r4 ((2 : Int32) * ((ax_fi S16 12 0 28) - (1 : Int32))) S16).bind (fun (S17 : AS) => some S17)) else ax_let (ax_sfi S9 12 0 29 ((ax_fi S9 12 0 29) + (1 : Int32))) (fun (S12 : AS) => (f_X12_readItems_52x0_64x2 r4 ((7 : Int32) * ((ax_fi S12 12 0 29) - (1 : Int32))) S12).bind (fun (S13 : AS) => some S13))))))
theorem rc_e : f_X12_readClause S = ax_bu (f_X12_look S) (fun (r4 : Int32) (S1 : AS) => (if r4 = (115 : Int32) then (if (ax_fi S1 12 0 31) = (0 : Int32) then rcJ r4 1 S1 else (if r4 = (108 : Int32) then (if (ax_fi S1 12 0 28) < (4 : Int32) then rcJ r4 1 S1 else (if r4 = (118 : Int32) then (if (6 : Int32) ≤ (ax_fi S1 12 0 29) then rcJ r4 0 S1 else rcJ r4 1 S1) else rcJ r4 0 S1)) else (if r4 = (118 : Int32) then (if (6 : Int32) ≤ (ax_fi S1 12 0 29) then rcJ r4 0 S1 else rcJ r4 1 S1) else rcJ r4 0 S1))) else (if r4 = (108 : Int32) then (if (ax_fi S1 12 0 28) < (4 : Int32) then rcJ r4 1 S1 else (if r4 = (118 : Int32) then (if (6 : Int32) ≤ (ax_fi S1 12 0 29) then rcJ r4 0 S1 else rcJ r4 1 S1) else rcJ r4 0 S1)) else (if r4 = (118 : Int32) then (if (6 : Int32) ≤ (ax_fi S1 12 0 29) then rcJ r4 0 S1 else rcJ r4 1 S1) else rcJ r4 0 S1)))) := rfl
theorem rcJ_0 {r4 : Int32} : rcJ r4 0 (tpT T p (Int32.ofInt (-1))) = some (tpT T p p) := by
  unfold rcJ
  rw [if_pos rfl, tq_fails, ax_bu_s]
theorem cpy_it {a dp m : Nat} {f : Nat → Int32} : itw R a dp m S (ax_cpy S R a f 0 dp m) := by
  refine ⟨rfl, rfl, rfl, rfl, fun k i q => ax_cpy_o q, fun j q => ?_⟩
  show (if R = R ∧ a = a then va_cpy f (ax_ai S R a) 0 dp m j else _) = _
  rw [if_pos ⟨rfl, rfl⟩]
  unfold va_cpy
  exact if_neg q
theorem cpy_ith {a dp m : Nat} {f : Nat → Int32} {g : Nat → Nat} (h : ∀ w, w < m → f w = nI (g w)) : ith R a dp m (ax_cpy S R a f 0 dp m) g := fun w hw => by
  show (if R = R ∧ a = a then va_cpy f (ax_ai S R a) 0 dp m (dp + w) else _) = _
  rw [if_pos ⟨rfl, rfl⟩]
  unfold va_cpy
  rw [if_pos (by omega), Nat.zero_add, Nat.add_sub_cancel_left]
  exact h w hw
theorem h_cl (hS : lc_Tp b n S) (hT : lr_Tp b n T 0 0) (h : hg y rt lc vc G S T) (hq : q ≤ n) : hcl y n q (rt + lc + vc) S T (f_X4_readClause y (tpS S (nI q) (Int32.ofInt (-1)))) (f_X12_readClause (tpT T (nI q) (Int32.ofInt (-1)))) := by
  obtain ⟨h1, h2, h3, ⟨c3, c4, c5⟩, ⟨r31, r28, r29⟩, ⟨g1, g2, g3, g4⟩, gl, gv⟩ := h
  have hle := lc_by_le hS (p := q)
  have hsk := la_sk_n (b := b) hq
  have h240 := hS.1
  have t31 : ax_fi (tpT T (nI (la_sk b n q)) (Int32.ofInt (-1))) 12 0 31 = nI rt := (tq_fi (by omega) (by omega)).trans r31
  have t28 : ax_fi (tpT T (nI (la_sk b n q)) (Int32.ofInt (-1))) 12 0 28 = nI lc := (tq_fi (by omega) (by omega)).trans r28
  have t29 : ax_fi (tpT T (nI (la_sk b n q)) (Int32.ofInt (-1))) 12 0 29 = nI vc := (tq_fi (by omega) (by omega)).trans r29
  have k3 : ax_fi (tpS S (nI (la_sk b n q)) (Int32.ofInt (-1))) 4 y 3 = nI rt := (tp_fi (by omega)).trans c3
  have k4 : ax_fi (tpS S (nI (la_sk b n q)) (Int32.ofInt (-1))) 4 y 4 = nI lc := (tp_fi (by omega)).trans c4
  have k5 : ax_fi (tpS S (nI (la_sk b n q)) (Int32.ofInt (-1))) 4 y 5 = nI vc := (tp_fi (by omega)).trans c5
  have z31 : (nI rt = (0 : Int32)) ↔ rt = 0 := nI_eq (b := 0) (by omega) (by omega)
  have z28 : (nI lc < (4 : Int32)) ↔ lc < 4 := nI_ltI (b := 4) (by omega) (by omega)
  have z29 : ((6 : Int32) ≤ nI vc) ↔ 6 ≤ vc := nI_leI (a := 6) (by omega) (by omega)
  have y29 : (nI vc < (6 : Int32)) ↔ vc < 6 := nI_ltI (b := 6) (by omega) (by omega)
  have hlt : la_by b n q < 256 → la_sk b n q < n := fun hx => by
    unfold la_by at hx
    by_cases z : la_sk b n q < n
    · exact z
    · rw [if_neg z] at hx; omega
  have bad : hcl y n q (rt + lc + vc) S T (some (tpS S (nI (la_sk b n q)) (nI (la_sk b n q)))) (some (tpT T (nI (la_sk b n q)) (nI (la_sk b n q)))) := ⟨S, T, hwc.rf, hwr.rf, .inl ⟨la_sk b n q, _, _, hsk.2, rfl, rfl⟩⟩
  have ik : nI (la_sk b n q) + 1 = nI (la_sk b n q + 1) := nI_1 _
  unfold f_X4_readClause
  rw [rc_e, tp_peek hS hq, ax_bu_s, tq_look hT hq, ax_bu_s, t31, t28, t29]
  by_cases x1 : la_by b n q = 115
  · have a1 : ¬ (lc_sg (la_by b n q) = 108) := by rw [x1]; decide
    have a2 : lc_sg (la_by b n q) = 115 := by rw [x1]; decide
    have b1 : lr_sg (la_by b n q) = 115 := by rw [x1]; decide
    have b2 : ¬ (lr_sg (la_by b n q) = 108) := by rw [x1]; decide
    have b3 : ¬ (lr_sg (la_by b n q) = 118) := by rw [x1]; decide
    have hs := hlt (by omega)
    rw [if_neg a1, if_pos a2, if_pos b1, if_neg b2, if_neg b3]
    unfold f_X4_readRules
    rw [k3]
    by_cases w : rt = 0
    · have f1 : hwc y S (ax_sfi S 4 y 3 1) := hwc_fi
      have f2 : hwr T (ax_sfi T 12 0 31 1) := hwr_fi (.inr (.inr rfl))
      have i0 := ia0 (b := b) (y := y) (A := 0) (by omega) (hwc_T f1 hS) (hwr_T f2 hT) (ith_c (S := ax_sfi S 4 y 3 1) g1 (fun u hu => (g4 w u hu).symm)) (q := la_sk b n q + 1) (by omega)
      rw [← sn_0] at i0
      rw [if_pos (z31.mpr w), if_pos (z31.mpr w), tp_c (by omega), sn_let, tp_pass (hwc_T f1 hS) hs, sn_bs]
      unfold rcJ
      rw [if_neg ne10, tq_10, ik, tq_s10, sn_let, if_pos b1, tq_c (by omega) (by omega), sn_let, b1]
      obtain ⟨Z, Y, w1, w2, w3⟩ := i0
      rcases w3 with ⟨f, p, p', e1, e2, e3⟩ | ⟨q', g, e1, e2, e3, e4, e5, e6, e7⟩
      · rw [e2, e3]
        exact ⟨Z, Y, f1.tr (hwc_it w1 (by omega)), f2.tr (hwr_it w2 (by omega)), .inl ⟨f, p, p', e1, rfl, rfl⟩⟩
      · rw [e3, e4]
        refine ⟨Z, Y, f1.tr (hwc_it w1 (by omega)), f2.tr (hwr_it w2 (by omega)), .inr ⟨q', 1, lc, vc, (fun m => if m < 3 then g m else G m), by omega, e2, rfl, rfl, ⟨by omega, h2, h3, ⟨?_, ?_, ?_⟩, ⟨?_, ?_, ?_⟩, ⟨?_, ?_, ?_, fun z => absurd z (by omega)⟩, fun l hl => ⟨?_, ?_, ?_⟩, fun v hv => ⟨?_, ?_, ?_⟩⟩, by omega⟩⟩
        · rw [w1.1, sg, if_pos rfl]; rfl
        · rw [w1.1, sg, if_neg (by omega)]; exact c4
        · rw [w1.1, sg, if_neg (by omega)]; exact c5
        · rw [w2.1, sg, if_pos rfl]; rfl
        · rw [w2.1, sg, if_neg (by omega)]; exact r28
        · rw [w2.1, sg, if_neg (by omega)]; exact r29
        · exact ith_c e5 (fun u hu => if_pos hu)
        · exact ith_c e6 (fun u hu => if_pos hu)
        · intro u hu
          dsimp only
          rw [if_pos hu]
          exact e7 u hu
        · exact ith_c (ith_it w1 (.inl (by omega)) (gl l hl).1) (fun u hu => if_neg (by omega))
        · exact ith_c (ith_it w2 (.inl (by omega)) (gl l hl).2.1) (fun u hu => if_neg (by omega))
        · intro u hu
          dsimp only
          rw [if_neg (by omega)]
          exact (gl l hl).2.2 u hu
        · exact ith_c (ith_it w1 (.inl (by omega)) (gv v hv).1) (fun u hu => if_neg (by omega))
        · exact ith_c (ith_it w2 (.inl (by omega)) (gv v hv).2.1) (fun u hu => if_neg (by omega))
        · intro u hu
          dsimp only
          rw [if_neg (by omega)]
          exact (gv v hv).2.2 u hu
    · rw [if_neg (fun z => w (z31.mp z)), if_neg (fun z => w (z31.mp z)), tp_fail, sn_bs, sn_bs, rcJ_0]
      exact bad
  · have d1 : ¬ (lc_sg (la_by b n q) = 115) := lc_ne 115 hle x1 (by omega) (by omega)
    have d2 : ¬ (lr_sg (la_by b n q) = 115) := lr_ne 115 hle x1 (by omega)
    rw [if_neg d1, if_neg d2]
    by_cases x2 : la_by b n q = 108
    · have a2 : lc_sg (la_by b n q) = 108 := by rw [x2]; decide
      have b1 : lr_sg (la_by b n q) = 108 := by rw [x2]; decide
      have b3 : ¬ (lr_sg (la_by b n q) = 118) := by rw [x2]; decide
      have hs := hlt (by omega)
      rw [if_pos a2, if_pos b1, if_neg b3]
      unfold f_X4_readLodger
      rw [k4]
      by_cases w : lc < 4
      · have f0 : itw 28 y (2 * lc) 2 S (ax_cpy S 28 y (ax_rd S 66 3) 0 (2 * lc) 2) := cpy_it
        have f1 : hwc y S (ax_sfi (ax_cpy S 28 y (ax_rd S 66 3) 0 (2 * lc) 2) 4 y 4 (nI (lc + 1))) := (hwc_it f0 (by omega)).tr hwc_fi
        have f2 : hwr T (ax_sfi T 12 0 28 (nI (lc + 1))) := hwr_fi (by omega)
        have cu : ith 28 y (2 * lc) 2 (ax_sfi (ax_cpy S 28 y (ax_rd S 66 3) 0 (2 * lc) 2) 4 y 4 (nI (lc + 1))) us1 := cpy_ith (fun u hu => by
          rcases (by omega : u = 0 ∨ u = 1) with rfl | rfl
          all_goals rfl)
        have i0 := ia1 (b := b) (y := y) (A := 2 * lc) (by omega) (hwc_T f1 hS) (hwr_T f2 hT) cu (q := la_sk b n q + 1) (by omega)
        have ix : nI lc * (2 : Int32) = nI (2 * lc) := by rw [sn_2, pk_mul, Nat.mul_comm]
        have gd : (!decide ((0 : Int32) < 0) && !decide (nI (2 * lc) < 0) && !decide ((2 : Int32) < 0) && decide ((0 : Int32).toNatClampNeg + (2 : Int32).toNatClampNeg ≤ 2) && decide ((nI (2 * lc)).toNatClampNeg + (2 : Int32).toNatClampNeg ≤ 8)) = true := by
          rcases (by omega : lc = 0 ∨ lc = 1 ∨ lc = 2 ∨ lc = 3) with rfl | rfl | rfl | rfl
          all_goals decide
        have cL : (2 : Int32).toNatClampNeg = 2 := Eq.trans rfl rfl
        have l1 : ax_ln (tpS S (nI (la_sk b n q + 1)) (Int32.ofInt (-1))) 66 3 = 2 := rfl
        have l2 : ax_ln (tpS S (nI (la_sk b n q + 1)) (Int32.ofInt (-1))) 28 y = 8 := rfl
        have l3 : ax_rd (tpS S (nI (la_sk b n q + 1)) (Int32.ofInt (-1))) 66 3 = ax_rd S 66 3 := rfl
        have k9 : ax_fi (tpS S (nI (la_sk b n q + 1)) (Int32.ofInt (-1))) 4 y 4 = nI lc := (tp_fi (by omega)).trans c4
        have k8 : ax_fi (tpS (ax_cpy S 28 y (ax_rd S 66 3) 0 (2 * lc) 2) (nI (la_sk b n q + 1)) (Int32.ofInt (-1))) 4 y 4 = nI lc := (tp_fi (by omega)).trans c4
        have ic : nI lc + 1 = nI (lc + 1) := nI_1 _
        have m9 : ax_fi (tpT T (nI (la_sk b n q + 1)) (Int32.ofInt (-1))) 12 0 28 = nI lc := (tq_fi (by omega) (by omega)).trans r28
        have m8 : ax_fi (tpT (ax_sfi T 12 0 28 (nI (lc + 1))) (nI (la_sk b n q + 1)) (Int32.ofInt (-1))) 12 0 28 = nI (lc + 1) := by rw [tq_fi (by omega) (by omega), sg, if_pos rfl]
        have ir : (2 : Int32) * (nI (lc + 1) - 1) = nI (2 * lc) := by rw [sn_1, pk_sub (by omega), Nat.add_sub_cancel, sn_2, pk_mul]
        rw [if_pos (z28.mpr w), if_pos (z28.mpr w), tp_pass hS hs, sn_bs, k9, ix, sn_let, l1, l2, gd, sn_gd, l3, cl_r0, nI_clamp (n := 2 * lc) (by omega), cL, tp_cpy, sn_let, k8, ic, tp_c (by omega), sn_let]
        unfold rcJ
        rw [if_neg ne10, tq_10, ik, tq_s10, sn_let, if_neg d2, if_pos b1, m9, ic, tq_c (by omega) (by omega), sn_let, m8, ir, b1]
        obtain ⟨Z, Y, w1, w2, w3⟩ := i0
        have o0 : ∀ {R' a' A' L' : Nat} {g : Nat → Nat}, (¬ (R' = 28 ∧ a' = y) ∨ (A' + L' ≤ 2 * lc ∨ 2 * lc + 2 ≤ A')) → ith R' a' A' L' S g → ith R' a' A' L' Z g := fun {R' a' A' L' g} hd hi => by
          have u1 : ith R' a' A' L' (ax_cpy S 28 y (ax_rd S 66 3) 0 (2 * lc) 2) g := ith_it f0 hd hi
          exact ith_it w1 hd u1
        rcases w3 with ⟨f, p, p', e1, e2, e3⟩ | ⟨q', g, e1, e2, e3, e4, e5, e6, e7⟩
        · rw [e2, e3]
          exact ⟨Z, Y, f1.tr (hwc_it w1 (by omega)), f2.tr (hwr_it w2 (by omega)), .inl ⟨f, p, p', e1, rfl, rfl⟩⟩
        · rw [e3, e4]
          refine ⟨Z, Y, f1.tr (hwc_it w1 (by omega)), f2.tr (hwr_it w2 (by omega)), .inr ⟨q', rt, lc + 1, vc, (fun m => if 8 + 2 * lc ≤ m ∧ m < 8 + 2 * lc + 2 then g (m - (8 + 2 * lc)) else G m), by omega, e2, rfl, rfl, ⟨h1, by omega, by omega, ⟨?_, ?_, ?_⟩, ⟨?_, ?_, ?_⟩, ⟨?_, ?_, ?_, ?_⟩, fun l hl => ?_, fun v hv => ?_⟩, by omega⟩⟩
          · rw [w1.1]
            rw [sg, if_neg (by omega)]; exact c3
          · rw [w1.1]
            rw [sg, if_pos rfl]
          · rw [w1.1]
            rw [sg, if_neg (by omega)]; exact c5
          · rw [w2.1, sg, if_neg (by omega)]; exact r31
          · rw [w2.1, sg, if_pos rfl]
          · rw [w2.1, sg, if_neg (by omega)]; exact r29
          · exact ith_c (o0 (.inl (by omega)) g1) (fun u hu => if_neg (by omega))
          · exact ith_c (ith_it w2 (.inl (by omega)) g2) (fun u hu => if_neg (by omega))
          · intro u hu
            dsimp only
            rw [if_neg (by omega)]
            exact g3 u hu
          · intro z u hu
            dsimp only
            rw [if_neg (by omega)]
            exact g4 z u hu
          · by_cases z : l = lc
            · subst z
              exact ⟨ith_c e5 (fun u hu => by dsimp only; rw [if_pos (by omega), (by omega : 8 + 2 * l + u - (8 + 2 * l) = u)]), ith_c e6 (fun u hu => by dsimp only; rw [if_pos (by omega), (by omega : 8 + 2 * l + u - (8 + 2 * l) = u)]), fun u hu => by dsimp only; rw [if_pos (by omega), (by omega : 8 + 2 * l + u - (8 + 2 * l) = u)]; exact e7 u hu⟩
            · exact ⟨ith_c (o0 (.inr (.inl (by omega))) (gl l (by omega)).1) (fun u hu => if_neg (by omega)), ith_c (ith_it w2 (.inr (.inl (by omega))) (gl l (by omega)).2.1) (fun u hu => if_neg (by omega)), fun u hu => by dsimp only; rw [if_neg (by omega)]; exact (gl l (by omega)).2.2 u hu⟩
          · exact ⟨ith_c (o0 (.inl (by omega)) (gv v hv).1) (fun u hu => if_neg (by omega)), ith_c (ith_it w2 (.inl (by omega)) (gv v hv).2.1) (fun u hu => if_neg (by omega)), fun u hu => by dsimp only; rw [if_neg (by omega)]; exact (gv v hv).2.2 u hu⟩
      · rw [if_neg (fun z => w (z28.mp z)), if_neg (fun z => w (z28.mp z)), tp_fail, sn_bs, sn_bs, rcJ_0]
        exact bad
    · have d3 : ¬ (lc_sg (la_by b n q) = 108) := lc_ne 108 hle x2 (by omega) (by omega)
      have d4 : ¬ (lr_sg (la_by b n q) = 108) := lr_ne 108 hle x2 (by omega)
      rw [if_neg d3, if_neg d4]
      by_cases x3 : la_by b n q = 118
      · have a2 : lc_sg (la_by b n q) = 118 := by rw [x3]; decide
        have b1 : lr_sg (la_by b n q) = 118 := by rw [x3]; decide
        have hs := hlt (by omega)
        rw [if_pos a2, if_pos b1]
        unfold f_X4_readCaller
        rw [k5]
        by_cases w : vc < 6
        · have f0 : itw 29 y (7 * vc) 7 S (ax_cpy S 29 y (ax_rd S 66 6) 0 (7 * vc) 7) := cpy_it
          have f1 : hwc y S (ax_sfi (ax_cpy S 29 y (ax_rd S 66 6) 0 (7 * vc) 7) 4 y 5 (nI (vc + 1))) := (hwc_it f0 (by omega)).tr hwc_fi
          have f2 : hwr T (ax_sfi T 12 0 29 (nI (vc + 1))) := hwr_fi (by omega)
          have cu : ith 29 y (7 * vc) 7 (ax_sfi (ax_cpy S 29 y (ax_rd S 66 6) 0 (7 * vc) 7) 4 y 5 (nI (vc + 1))) us2 := cpy_ith (fun u hu => by
            rcases (by omega : u = 0 ∨ u = 1 ∨ u = 2 ∨ u = 3 ∨ u = 4 ∨ u = 5 ∨ u = 6) with rfl | rfl | rfl | rfl | rfl | rfl | rfl
            all_goals rfl)
          have i0 := ia2 (b := b) (y := y) (A := 7 * vc) (by omega) (hwc_T f1 hS) (hwr_T f2 hT) cu (q := la_sk b n q + 1) (by omega)
          have ix : nI vc * (7 : Int32) = nI (7 * vc) := by rw [sn_7, pk_mul, Nat.mul_comm]
          have gd : (!decide ((0 : Int32) < 0) && !decide (nI (7 * vc) < 0) && !decide ((7 : Int32) < 0) && decide ((0 : Int32).toNatClampNeg + (7 : Int32).toNatClampNeg ≤ 7) && decide ((nI (7 * vc)).toNatClampNeg + (7 : Int32).toNatClampNeg ≤ 42)) = true := by
            rcases (by omega : vc = 0 ∨ vc = 1 ∨ vc = 2 ∨ vc = 3 ∨ vc = 4 ∨ vc = 5) with rfl | rfl | rfl | rfl | rfl | rfl
            all_goals decide
          have cL : (7 : Int32).toNatClampNeg = 7 := Eq.trans rfl rfl
          have l1 : ax_ln (tpS S (nI (la_sk b n q + 1)) (Int32.ofInt (-1))) 66 6 = 7 := rfl
          have l2 : ax_ln (tpS S (nI (la_sk b n q + 1)) (Int32.ofInt (-1))) 29 y = 42 := rfl
          have l3 : ax_rd (tpS S (nI (la_sk b n q + 1)) (Int32.ofInt (-1))) 66 6 = ax_rd S 66 6 := rfl
          have k9 : ax_fi (tpS S (nI (la_sk b n q + 1)) (Int32.ofInt (-1))) 4 y 5 = nI vc := (tp_fi (by omega)).trans c5
          have k8 : ax_fi (tpS (ax_cpy S 29 y (ax_rd S 66 6) 0 (7 * vc) 7) (nI (la_sk b n q + 1)) (Int32.ofInt (-1))) 4 y 5 = nI vc := (tp_fi (by omega)).trans c5
          have ic : nI vc + 1 = nI (vc + 1) := nI_1 _
          have m9 : ax_fi (tpT T (nI (la_sk b n q + 1)) (Int32.ofInt (-1))) 12 0 29 = nI vc := (tq_fi (by omega) (by omega)).trans r29
          have m8 : ax_fi (tpT (ax_sfi T 12 0 29 (nI (vc + 1))) (nI (la_sk b n q + 1)) (Int32.ofInt (-1))) 12 0 29 = nI (vc + 1) := by rw [tq_fi (by omega) (by omega), sg, if_pos rfl]
          have ir : (7 : Int32) * (nI (vc + 1) - 1) = nI (7 * vc) := by rw [sn_1, pk_sub (by omega), Nat.add_sub_cancel, sn_7, pk_mul]
          rw [if_pos (y29.mpr w), if_neg (fun z => absurd (z29.mp z) (by omega)), tp_pass hS hs, sn_bs, k9, ix, sn_let, l1, l2, gd, sn_gd, l3, cl_r0, nI_clamp (n := 7 * vc) (by omega), cL, tp_cpy, sn_let, k8, ic, tp_c (by omega), sn_let]
          unfold rcJ
          rw [if_neg ne10, tq_10, ik, tq_s10, sn_let, if_neg d2, if_neg d4, m9, ic, tq_c (by omega) (by omega), sn_let, m8, ir, b1]
          obtain ⟨Z, Y, w1, w2, w3⟩ := i0
          have o0 : ∀ {R' a' A' L' : Nat} {g : Nat → Nat}, (¬ (R' = 29 ∧ a' = y) ∨ (A' + L' ≤ 7 * vc ∨ 7 * vc + 7 ≤ A')) → ith R' a' A' L' S g → ith R' a' A' L' Z g := fun {R' a' A' L' g} hd hi => by
            have u1 : ith R' a' A' L' (ax_cpy S 29 y (ax_rd S 66 6) 0 (7 * vc) 7) g := ith_it f0 hd hi
            exact ith_it w1 hd u1
          rcases w3 with ⟨f, p, p', e1, e2, e3⟩ | ⟨q', g, e1, e2, e3, e4, e5, e6, e7⟩
          · rw [e2, e3]
            exact ⟨Z, Y, f1.tr (hwc_it w1 (by omega)), f2.tr (hwr_it w2 (by omega)), .inl ⟨f, p, p', e1, rfl, rfl⟩⟩
          · rw [e3, e4]
            refine ⟨Z, Y, f1.tr (hwc_it w1 (by omega)), f2.tr (hwr_it w2 (by omega)), .inr ⟨q', rt, lc, vc + 1, (fun m => if 16 + 7 * vc ≤ m ∧ m < 16 + 7 * vc + 7 then g (m - (16 + 7 * vc)) else G m), by omega, e2, rfl, rfl, ⟨h1, by omega, by omega, ⟨?_, ?_, ?_⟩, ⟨?_, ?_, ?_⟩, ⟨?_, ?_, ?_, ?_⟩, fun l hl => ?_, fun v hv => ?_⟩, by omega⟩⟩
            · rw [w1.1]
              rw [sg, if_neg (by omega)]; exact c3
            · rw [w1.1]
              rw [sg, if_neg (by omega)]; exact c4
            · rw [w1.1]
              rw [sg, if_pos rfl]
            · rw [w2.1, sg, if_neg (by omega)]; exact r31
            · rw [w2.1, sg, if_neg (by omega)]; exact r28
            · rw [w2.1, sg, if_pos rfl]
            · exact ith_c (o0 (.inl (by omega)) g1) (fun u hu => if_neg (by omega))
            · exact ith_c (ith_it w2 (.inl (by omega)) g2) (fun u hu => if_neg (by omega))
            · intro u hu
              dsimp only
              rw [if_neg (by omega)]
              exact g3 u hu
            · intro z u hu
              dsimp only
              rw [if_neg (by omega)]
              exact g4 z u hu
            · exact ⟨ith_c (o0 (.inl (by omega)) (gl l hl).1) (fun u hu => if_neg (by omega)), ith_c (ith_it w2 (.inl (by omega)) (gl l hl).2.1) (fun u hu => if_neg (by omega)), fun u hu => by dsimp only; rw [if_neg (by omega)]; exact (gl l hl).2.2 u hu⟩
            · by_cases z : v = vc
              · subst z
                exact ⟨ith_c e5 (fun u hu => by dsimp only; rw [if_pos (by omega), (by omega : 16 + 7 * v + u - (16 + 7 * v) = u)]), ith_c e6 (fun u hu => by dsimp only; rw [if_pos (by omega), (by omega : 16 + 7 * v + u - (16 + 7 * v) = u)]), fun u hu => by dsimp only; rw [if_pos (by omega), (by omega : 16 + 7 * v + u - (16 + 7 * v) = u)]; exact e7 u hu⟩
              · exact ⟨ith_c (o0 (.inr (.inl (by omega))) (gv v (by omega)).1) (fun u hu => if_neg (by omega)), ith_c (ith_it w2 (.inr (.inl (by omega))) (gv v (by omega)).2.1) (fun u hu => if_neg (by omega)), fun u hu => by dsimp only; rw [if_neg (by omega)]; exact (gv v (by omega)).2.2 u hu⟩
        · rw [if_neg (fun z => w (y29.mp z)), if_pos (z29.mpr (by omega)), tp_fail, sn_bs, sn_bs, rcJ_0]
          exact bad
      · have d5 : ¬ (lc_sg (la_by b n q) = 118) := lc_ne 118 hle x3 (by omega) (by omega)
        have d6 : ¬ (lr_sg (la_by b n q) = 118) := lr_ne 118 hle x3 (by omega)
        rw [if_neg d5, if_neg d6, tp_fail, sn_bs, rcJ_0]
        exact bad
end

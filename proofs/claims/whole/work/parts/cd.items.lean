/-! TEXTS: the items of a clause, on both sides -/
def p7 (w : Nat) : Nat := w % 2 + w / 2 % 2 + w / 4 % 2 + w / 8 % 2 + w / 16 % 2 + w / 32 % 2 + w / 64 % 2
theorem p7_2 : ∀ w, w < 2 ^ 2 → ∀ j, j < 2 → w / 2 ^ j % 2 = 0 → p7 w < 2 ∧ p7 (w + 2 ^ j) = p7 w + 1 ∧ w + 2 ^ j < 2 ^ 2 := by decide +kernel
theorem p7_3 : ∀ w, w < 2 ^ 3 → ∀ j, j < 3 → w / 2 ^ j % 2 = 0 → p7 w < 3 ∧ p7 (w + 2 ^ j) = p7 w + 1 ∧ w + 2 ^ j < 2 ^ 3 := by decide +kernel
theorem p7_7 : ∀ w, w < 2 ^ 7 → ∀ j, j < 7 → w / 2 ^ j % 2 = 0 → p7 w < 7 ∧ p7 (w + 2 ^ j) = p7 w + 1 ∧ w + 2 ^ j < 2 ^ 7 := by decide +kernel
theorem sh7 : ∀ w, w < 128 → ∀ v, v < 7 → ((nI w >>> (nI v &&& 31)) &&& (1 : Int32)) = nI (w / 2 ^ v % 2) := by decide +kernel
theorem or7 : ∀ w, w < 128 → ∀ v, v < 7 → w / 2 ^ v % 2 = 0 → nI w ||| ((1 : Int32) <<< (nI v &&& 31)) = nI (w + 2 ^ v) := by decide +kernel
theorem hs7 {T : AS} {s v : Nat} (hs : s < 128) (hv : v < 7) : f_X12_has (nI s) (nI v) T = some (if s / 2 ^ v % 2 = 0 then 0 else 1) := by
  unfold f_X12_has
  rw [sh7 s hs v hv]
  by_cases q : s / 2 ^ v % 2 = 0
  · rw [q, if_pos rfl, if_neg (by decide : ¬ (nI 0 = (1 : Int32)))]
  · have q1 : s / 2 ^ v % 2 = 1 := by omega
    rw [q1, if_pos (by decide : nI 1 = (1 : Int32)), if_neg (by omega : ¬ (1 = 0))]
/-- only a stretch of a row has changed -/
def itw (R a A L : Nat) (S Z : AS) : Prop := ax_fi Z = ax_fi S ∧ ax_fx Z = ax_fx S ∧ ax_fo Z = ax_fo S ∧ ax_al Z = ax_al S ∧ (∀ k i, ¬ (k = R ∧ i = a) → ax_ai Z k i = ax_ai S k i) ∧ ∀ m, ¬ (A ≤ m ∧ m < A + L) → ax_ai Z R a m = ax_ai S R a m
theorem itw.rf {R a A L : Nat} {S : AS} : itw R a A L S S := ⟨rfl, rfl, rfl, rfl, fun _ _ _ => rfl, fun _ _ => rfl⟩
theorem itw.tr {R a A L : Nat} {S Z Y : AS} (h : itw R a A L S Z) (g : itw R a A L Z Y) : itw R a A L S Y := ⟨g.1.trans h.1, g.2.1.trans h.2.1, g.2.2.1.trans h.2.2.1, g.2.2.2.1.trans h.2.2.2.1, fun k i q => (g.2.2.2.2.1 k i q).trans (h.2.2.2.2.1 k i q), fun m q => (g.2.2.2.2.2 m q).trans (h.2.2.2.2.2 m q)⟩
theorem itw.sai {R a A L j : Nat} {S : AS} {v : Int32} (h1 : A ≤ j) (h2 : j < A + L) : itw R a A L S (ax_sai S R a j v) := by
  refine ⟨rfl, rfl, rfl, rfl, fun k i q => ax_u3_o q, fun m q => ?_⟩
  rw [sga, if_neg (fun z => q (by omega))]
theorem itw_c {R a A L : Nat} {S Z : AS} {b : Nat → Nat} {n : Nat} (h : itw R a A L S Z) (hR : R ≠ 40) (hT : lc_Tp b n S) : lc_Tp b n Z := by
  obtain ⟨t1, t2, t3, t4⟩ := hT
  refine ⟨t1, by rw [h.1]; exact t2, ?_, t4⟩
  rw [h.2.2.2.2.1 40 0 (fun z => hR z.1.symm)]
  exact t3
theorem itw_r {R a A L : Nat} {T Y : AS} {b : Nat → Nat} {n i B : Nat} (h : itw R a A L T Y) (hR : R ≠ 44) (hT : lr_Tp b n T i B) : lr_Tp b n Y i B := by
  obtain ⟨t1, t2, t3, t4, t5, t6, t7, t8⟩ := hT
  refine ⟨t1, by rw [h.1]; exact t2, by rw [h.1]; exact t3, by rw [h.2.1]; exact t4, t5, t6, ?_, t8⟩
  rw [h.2.2.2.2.1 44 i (fun z => hR z.1.symm)]
  exact t7
/-- a row holds these numbers from A on -/
def ith (R a A L : Nat) (S : AS) (g : Nat → Nat) : Prop := ∀ w, w < L → ax_ai S R a (A + w) = nI (g w)
theorem ith_s {R a A L j : Nat} {S : AS} {g : Nat → Nat} {v : Nat} (h : ith R a A L S g) : ith R a A L (ax_sai S R a (A + j) (nI v)) (fun w => if w = j then v else g w) := fun w hw => by
  rw [sga]
  dsimp only
  by_cases q : w = j
  · rw [if_pos (by omega), if_pos q]
  · rw [if_neg (by omega), if_neg q]
    exact h w hw
/-- how reading items ends: a fault on both sides, or none and the numbers are within their bounds -/
def ite (R a Rr A L n q : Nat) (lo hi : Nat → Nat) (S T : AS) (x y : Option AS) : Prop := ∃ Z Y, itw R a A L S Z ∧ itw Rr 0 A L T Y ∧ ((∃ f p p', f ≤ n ∧ x = some (tpS Z p (nI f)) ∧ y = some (tpT Y p' (nI f))) ∨ (∃ q' g, q ≤ q' ∧ q' ≤ n ∧ x = some (tpS Z (nI q') (Int32.ofInt (-1))) ∧ y = some (tpT Y (nI q') (Int32.ofInt (-1))) ∧ ith R a A L Z g ∧ ith Rr 0 A L Y g ∧ ∀ w, w < L → lo w ≤ g w ∧ g w ≤ hi w))
theorem ite_tr {R a Rr A L n q q0 : Nat} {lo hi : Nat → Nat} {S T S1 T1 : AS} {x y : Option AS} (h : ite R a Rr A L n q lo hi S1 T1 x y) (hs : itw R a A L S S1) (ht : itw Rr 0 A L T T1) (hq : q0 ≤ q) : ite R a Rr A L n q0 lo hi S T x y := by
  obtain ⟨Z, Y, h1, h2, h3⟩ := h
  refine ⟨Z, Y, hs.tr h1, ht.tr h2, ?_⟩
  rcases h3 with h3 | ⟨q', g, a1, a2, a3⟩
  · exact .inl h3
  · exact .inr ⟨q', g, by omega, a2, a3⟩
theorem nn10 : ¬ ((1 : Nat) = 0) := by omega
theorem ge0 {j : Nat} (h : j < 2 ^ 31) : (0 : Int32) ≤ nI j := (nI_leI (a := 0) (b := j) (by omega) h).mpr (by omega)
theorem z3 : (Int32.ofNat 3) >>> ((0 : Int32) &&& 31) = nI 3 := by decide
theorem z2 : (Int32.ofNat 2) >>> ((0 : Int32) &&& 31) = nI 2 := by decide
theorem z7 : (Int32.ofNat 7) >>> ((0 : Int32) &&& 31) = nI 7 := by decide
def lo0 (w : Nat) : Nat := if w = 0 then 1 else if w = 1 then 0 else 0
def hi0 (w : Nat) : Nat := if w = 0 then 99 else if w = 1 then 9 else 99
def us0 (w : Nat) : Nat := if w = 0 then 60 else if w = 1 then 2 else 20
theorem lo0_b {j : Nat} : lo0 j < 1000 ∧ hi0 j < 1000 ∧ hi0 j ≤ 99 := by
  unfold lo0 hi0
  repeat' split
  all_goals omega
theorem rd0_l {S : AS} {j : Nat} (hj : j < 3) : ax_rd S 66 1 j = nI (lo0 j) := by
  rcases (by omega : j = 0 ∨ j = 1 ∨ j = 2) with rfl | rfl | rfl
  all_goals rfl
theorem rd0_h {S : AS} {j : Nat} (hj : j < 3) : ax_rd S 66 2 j = nI (hi0 j) := by
  rcases (by omega : j = 0 ∨ j = 1 ∨ j = 2) with rfl | rfl | rfl
  all_goals rfl
theorem lof0 {S : AS} {j : Nat} (hj : j < 3) : f_X12_leastOf 115 (nI j) S = some (nI (lo0 j)) := by
  have : ∀ j, j < 3 → f_X12_leastOf 115 (nI j) (fun _ _ _ => 0, fun _ _ _ => 0, fun _ _ _ => 0, fun _ _ _ => none, fun _ _ _ => 0, fun _ _ _ => 0) = some (nI (lo0 j)) := by decide +kernel
  exact this j hj
theorem hif0 {S : AS} {j : Nat} (hj : j < 3) : f_X12_mostOf 115 (nI j) S = some (nI (hi0 j)) := by
  have : ∀ j, j < 3 → f_X12_mostOf 115 (nI j) (fun _ _ _ => 0, fun _ _ _ => 0, fun _ _ _ => 0, fun _ _ _ => none, fun _ _ _ => 0, fun _ _ _ => 0) = some (nI (hi0 j)) := by decide +kernel
  exact this j hj
theorem usf0 {S : AS} {j : Nat} (hj : j < 3) : f_X12_usual 115 (nI j) S = some (nI (us0 j)) := by
  have : ∀ j, j < 3 → f_X12_usual 115 (nI j) (fun _ _ _ => 0, fun _ _ _ => 0, fun _ _ _ => 0, fun _ _ _ => none, fun _ _ _ => 0, fun _ _ _ => 0) = some (nI (us0 j)) := by decide +kernel
  exact this j hj
theorem us0_b {j : Nat} (hj : j < 3) : lo0 j ≤ us0 j ∧ us0 j ≤ hi0 j := by
  rcases (by omega : j = 0 ∨ j = 1 ∨ j = 2) with rfl | rfl | rfl
  all_goals decide
theorem ti0_c {x : Nat} : (∃ j, j < 3 ∧ ti0 x = nI j ∧ x < 256) ∨ ti0 x = Int32.ofInt (-1) := by
  unfold ti0
  by_cases h0 : x = 116
  · exact .inl ⟨0, by omega, if_pos h0, by omega⟩
  rw [if_neg h0]
  by_cases h1 : x = 104
  · exact .inl ⟨1, by omega, if_pos h1, by omega⟩
  rw [if_neg h1]
  by_cases h2 : x = 99
  · exact .inl ⟨2, by omega, if_pos h2, by omega⟩
  rw [if_neg h2]
  exact .inr rfl
section
variable {b : Nat → Nat} {n y A : Nat}
theorem it0 (hA : A + 3 ≤ 3) : ∀ d m i w g q S T, lc_Tp b n S → lr_Tp b n T 0 0 → ith 27 y A 3 S g → ith 48 0 A 3 T g → (∀ w, w < 3 → lo0 w ≤ g w ∧ g w ≤ hi0 w) → p7 w = i → w < 2 ^ 3 → i + d = 3 → d + 1 < m → q ≤ n → ite 27 y 48 A 3 n q lo0 hi0 S T (f_X4_readItems_64x0_66x1_66x2_27_L6 m y (nI A) (nI w) (nI i) (tpS S (nI q) (Int32.ofInt (-1)))) (f_X12_readItems_48x0_64x0_L45 m 115 (nI A) (nI w) (ti0 (la_by b n q)) (tpT T (nI (la_sk b n q)) (Int32.ofInt (-1)))) := by
  intro d
  induction d with
  | zero =>
    intro m i w g q S T hS hT hg hg' hb hw hw2 hd hm hq
    match m, hm with
    | m + 1, hm =>
      have hle := lc_by_le hS (p := q)
      have hsk := la_sk_n (b := b) hq
      have h240 := hS.1
      have w128 : w < 128 := by have : (2 : Nat) ^ 3 ≤ 128 := by decide
                                omega
      rw [f_X4_readItems_64x0_66x1_66x2_27_L6, f_X12_readItems_48x0_64x0_L45, z3, if_neg (fun z => absurd ((nI_ltI (by omega) (by omega)).mp z) (by omega)), tp_peek hS hq, ax_bu_s, ci0 hle, sn_bs]
      rcases ti0_c (x := la_by b n q) with ⟨j, hj, e, hx⟩ | e
      · rw [e, if_pos (ge0 (j := j) (by omega)), if_neg (nm1 (by omega)), sh7 w w128 j (by omega), tq_11, if_pos rfl, hs7 w128 (by omega), sn_bs]
        have hbit : w / 2 ^ j % 2 = 1 := by
          rcases (by omega : w / 2 ^ j % 2 = 0 ∨ w / 2 ^ j % 2 = 1) with z | z
          · have := p7_3 w hw2 j hj z
            omega
          · exact z
        have n0 : ¬ (w / 2 ^ j % 2 = 0) := by omega
        rw [hbit, if_neg nen1, if_neg nn10, if_neg ne10, tp_fail, sn_bs, tq_fails, ax_bu_s]
        exact ⟨S, T, itw.rf, itw.rf, .inl ⟨la_sk b n q, _, _, hsk.2, rfl, rfl⟩⟩
      · have nn : ¬ ((0 : Int32) ≤ Int32.ofInt (-1)) := by decide
        rw [e, if_neg nn, if_pos rfl]
        exact ⟨S, T, itw.rf, itw.rf, .inr ⟨la_sk b n q, g, hsk.1, hsk.2, rfl, rfl, hg, hg', hb⟩⟩
  | succ d ih =>
    intro m i w g q S T hS hT hg hg' hb hw hw2 hd hm hq
    match m, hm with
    | m + 1, hm =>
      have hle := lc_by_le hS (p := q)
      have hsk := la_sk_n (b := b) hq
      have h240 := hS.1
      have w128 : w < 128 := by have : (2 : Nat) ^ 3 ≤ 128 := by decide
                                omega
      rw [f_X4_readItems_64x0_66x1_66x2_27_L6, f_X12_readItems_48x0_64x0_L45, z3, if_neg (fun z => absurd ((nI_ltI (by omega) (by omega)).mp z) (by omega)), tp_peek hS hq, ax_bu_s, ci0 hle, sn_bs]
      rcases ti0_c (x := la_by b n q) with ⟨j, hj, e, hx⟩ | e
      · rw [e, if_pos (ge0 (j := j) (by omega)), if_neg (nm1 (by omega)), sh7 w w128 j (by omega), tq_11, if_pos rfl, hs7 w128 (by omega), sn_bs]
        rcases (by omega : w / 2 ^ j % 2 = 0 ∨ w / 2 ^ j % 2 = 1) with hbit | hbit
        · have hslt : la_sk b n q < n := by
            unfold la_by at hx
            by_cases z : la_sk b n q < n
            · exact z
            · rw [if_neg z] at hx; omega
          obtain ⟨p1, p2, p3⟩ := p7_3 w hw2 j hj hbit
          have lb := lo0_b (j := j)
          have ixc : nI A + nI j = nI (A + j) := nI_add _ _
          have ik : nI (la_sk b n q) + 1 = nI (la_sk b n q + 1) := nI_1 _
          rw [hbit, if_pos (sn_0).symm, if_pos rfl, if_pos rfl, or7 w w128 j (by omega) hbit, sn_let, tp_pass hS hslt, sn_bs, tq_10, ik, tq_s10, sn_let, sn_let, lof0 hj, sn_bs, hif0 hj, sn_bs]
          rcases tp_num hS (q := la_sk b n q + 1) (by omega) with ⟨c1, c2⟩ | ⟨c1, c2, x, c3⟩ | ⟨c1, c2, c3⟩
          · rcases tq_num hT (q := la_sk b n q + 1) (lo := lo0 j) (hi := hi0 j) (by omega) lb.1 lb.2.1 with ⟨r1, r2⟩ | ⟨r1, _⟩ | ⟨r1, _⟩
            · have hs2 := la_sk_n (b := b) (n := n) (p := la_sk b n q + 1) (by omega)
              rw [c2, ax_bu_s, tp_failed1 (m1 (by omega)), sn_bs, if_neg ne10, r2, ax_bu_s, ixc, sn_in (by omega) (by omega), sn_gd, nI_clamp (n := A + j) (by omega), tq_sai, sn_let, tq_11, if_neg (m1 (by omega))]
              match m, hm with
              | m + 1, hm =>
                rw [f_X12_readItems_48x0_64x0_L45, if_neg (nm1 (by omega)), tq_11, if_neg (m1 (by omega))]
                exact ⟨S, _, itw.rf, itw.sai (by omega) (by omega), .inl ⟨_, _, _, hs2.2, rfl, rfl⟩⟩
            · rw [c1] at r1; cases r1
            · rw [c1] at r1; cases r1
          · rcases tq_num hT (q := la_sk b n q + 1) (lo := lo0 j) (hi := hi0 j) (by omega) lb.1 lb.2.1 with ⟨r1, r2⟩ | ⟨r1, r2, r3⟩ | ⟨r1, r2, _⟩
            · rw [c1] at r1; cases r1
            · have hn := nv_b c1
              rw [c3, ax_bu_s, tp_failed1 (m1 (by omega)), sn_bs, if_neg ne10, r3, ax_bu_s, ixc, sn_in (by omega) (by omega), sn_gd, nI_clamp (n := A + j) (by omega), tq_sai, sn_let, tq_11, if_neg (m1 (by omega))]
              match m, hm with
              | m + 1, hm =>
                rw [f_X12_readItems_48x0_64x0_L45, if_neg (nm1 (by omega)), tq_11, if_neg (m1 (by omega))]
                exact ⟨S, _, itw.rf, itw.sai (by omega) (by omega), .inl ⟨_, _, _, hn.2.2, rfl, rfl⟩⟩
            · rw [c2] at r2; cases r2
          · have hn := nv_b c1
            have hs2 := la_sk_n (b := b) (n := n) (p := la_sk b n q + 1) (by omega)
            rcases tq_num hT (q := la_sk b n q + 1) (lo := lo0 j) (hi := hi0 j) (by omega) lb.1 lb.2.1 with ⟨r1, r2⟩ | ⟨r1, r2, r3⟩ | ⟨r1, r2, r3⟩
            · rw [c1] at r1; cases r1
            · rw [c2] at r2; cases r2
            · rw [c3, ax_bu_s, tp_failed0, sn_bs, if_pos rfl, sn_in (by omega) (by omega), sn_gd, nI_clamp (n := j) (by omega), rd0_l hj, rd0_h hj]
              have e1 : (nI (nv b n (la_sk b n (la_sk b n q + 1))).1 < nI (lo0 j)) ↔ (nv b n (la_sk b n (la_sk b n q + 1))).1 < lo0 j := nI_ltI (by omega) (by omega)
              have e2 : (nI (nv b n (la_sk b n (la_sk b n q + 1))).1 ≤ nI (hi0 j)) ↔ (nv b n (la_sk b n (la_sk b n q + 1))).1 ≤ hi0 j := nI_leI (by omega) (by omega)
              rcases r3 with ⟨r4, r5⟩ | ⟨r4, r5⟩
              · have cls : (if nI (nv b n (la_sk b n (la_sk b n q + 1))).1 < nI (lo0 j) then (f_X10_failAtLastDigit (tpS S (nI (nv b n (la_sk b n (la_sk b n q + 1))).2) (Int32.ofInt (-1)))).bind (fun (S35 : AS) => some S35) else ax_gd true ((if nI (nv b n (la_sk b n (la_sk b n q + 1))).1 ≤ nI (hi0 j) then ax_gd (ax_in (nI A + nI j) 3) (ax_let (ax_sai (tpS S (nI (nv b n (la_sk b n (la_sk b n q + 1))).2) (Int32.ofInt (-1))) 27 y (nI A + nI j).toNatClampNeg (nI (nv b n (la_sk b n (la_sk b n q + 1))).1)) (fun (S41 : AS) => ax_let (nI i + (1 : Int32)) (fun (v42 : Int32) => f_X4_readItems_64x0_66x1_66x2_27_L6 m y (nI A) (nI (w + 2 ^ j)) v42 S41))) else (f_X10_failAtLastDigit (tpS S (nI (nv b n (la_sk b n (la_sk b n q + 1))).2) (Int32.ofInt (-1)))).bind (fun (S43 : AS) => some S43)))) = some (tpS S (nI (nv b n (la_sk b n (la_sk b n q + 1))).2) (nI ((nv b n (la_sk b n (la_sk b n q + 1))).2 - 1))) := by
                  by_cases z : (nv b n (la_sk b n (la_sk b n q + 1))).1 < lo0 j
                  · rw [if_pos (e1.mpr z), tp_fld (by omega), sn_bs]
                  · rw [if_neg (fun u => z (e1.mp u)), sn_gd, if_neg (fun u => r4 ⟨by omega, e2.mp u⟩), tp_fld (by omega), sn_bs]
                rw [cls, r5, ax_bu_s, ixc, sn_in (by omega) (by omega), sn_gd, nI_clamp (n := A + j) (by omega), tq_sai, sn_let, tq_11, if_neg (m1 (by omega))]
                match m, hm with
                | m + 1, hm =>
                  rw [f_X12_readItems_48x0_64x0_L45, if_neg (nm1 (by omega)), tq_11, if_neg (m1 (by omega))]
                  exact ⟨S, _, itw.rf, itw.sai (by omega) (by omega), .inl ⟨_, _, _, by omega, rfl, rfl⟩⟩
              · rw [if_neg (fun u => absurd (e1.mp u) (by omega)), sn_gd, if_pos (e2.mpr r4.2), r5, ax_bu_s, ixc, sn_in (by omega) (by omega), sn_gd, sn_gd, nI_clamp (n := A + j) (by omega), tp_sai, tq_sai, sn_let, sn_let, sn_let, nI_1, tq_11, if_pos rfl]
                have hSs := itw_c (itw.sai (R := 27) (a := y) (A := A) (L := 3) (j := A + j) (v := nI (nv b n (la_sk b n (la_sk b n q + 1))).1) (by omega) (by omega)) (by omega) hS
                have hTs := itw_r (itw.sai (R := 48) (a := 0) (A := A) (L := 3) (j := A + j) (v := nI (nv b n (la_sk b n (la_sk b n q + 1))).1) (by omega) (by omega)) (by omega) hT
                rw [tq_look hTs hn.2.2, ax_bu_s, si0 (lr_by_le hTs), sn_bs]
                refine ite_tr (ih m (i + 1) (w + 2 ^ j) (fun u => if u = j then (nv b n (la_sk b n (la_sk b n q + 1))).1 else g u) (nv b n (la_sk b n (la_sk b n q + 1))).2 _ _ hSs hTs (ith_s hg) (ith_s hg') (fun u hu => ?_) (by omega) p3 (by omega) (by omega) hn.2.2) (itw.sai (by omega) (by omega)) (itw.sai (by omega) (by omega)) (by omega)
                by_cases z : u = j
                · rw [if_pos z, z]; exact r4
                · rw [if_neg z]; exact hb u hu
        · rw [hbit, if_neg nen1, if_neg nn10, if_neg ne10, tp_fail, sn_bs, tq_fails, ax_bu_s]
          exact ⟨S, T, itw.rf, itw.rf, .inl ⟨la_sk b n q, _, _, hsk.2, rfl, rfl⟩⟩
      · have nn : ¬ ((0 : Int32) ≤ Int32.ofInt (-1)) := by decide
        rw [e, if_neg nn, if_pos rfl]
        exact ⟨S, T, itw.rf, itw.rf, .inr ⟨la_sk b n q, g, hsk.1, hsk.2, rfl, rfl, hg, hg', hb⟩⟩
theorem iu0 (hA : A + 3 ≤ 3) {Kr : Int32 → Int32 → AS → Option AS} {p φ : Int32} : ∀ d m j T, (∀ w, w < j → ax_ai T 48 0 (A + w) = nI (us0 w)) → j + d = 3 → d < m → ∃ Y, f_X12_readItems_48x0_64x0_L3 Kr m 115 (nI A) (nI j) (tpT T p φ) = Kr 115 (nI A) (tpT Y p φ) ∧ itw 48 0 A 3 T Y ∧ ith 48 0 A 3 Y us0
  | 0, m + 1, j, T, h, hj, _ => by
    obtain rfl : j = 3 := by omega
    rw [f_X12_readItems_48x0_64x0_L3, z3, if_pos (Int32.le_refl _)]
    exact ⟨T, rfl, itw.rf, h⟩
  | d + 1, m + 1, j, T, h, hj, hm => by
    have ixc : nI A + nI j = nI (A + j) := nI_add _ _
    obtain ⟨Y, y1, y2, y3⟩ := iu0 hA (Kr := Kr) (p := p) (φ := φ) d m (j + 1) (ax_sai T 48 0 (A + j) (nI (us0 j))) (fun w hw => by
      rw [sga]
      by_cases q : w = j
      · rw [if_pos (by omega), q]
      · rw [if_neg (by omega)]; exact h w (by omega)) (by omega) (by omega)
    refine ⟨Y, ?_, (itw.sai (by omega) (by omega)).tr y2, y3⟩
    rw [f_X12_readItems_48x0_64x0_L3, z3, if_neg (fun z => absurd ((nI_leI (by omega) (by omega)).mp z) (by omega)), usf0 (by omega), sn_bs, ixc, sn_in (by omega) (by omega), sn_gd, nI_clamp (n := A + j) (by omega), tq_sai, sn_let, sn_let, nI_1]
    exact y1
/-- the items of a clause, begun with what is usual -/
theorem ia0 {S T : AS} (hA : A + 3 ≤ 3) (hS : lc_Tp b n S) (hT : lr_Tp b n T 0 0) (hg : ith 27 y A 3 S us0) {q : Nat} (hq : q ≤ n) : ite 27 y 48 A 3 n q lo0 hi0 S T (f_X4_readItems_64x0_66x1_66x2_27 y (nI A) (tpS S (nI q) (Int32.ofInt (-1)))) (f_X12_readItems_48x0_64x0 115 (nI A) (tpT T (nI q) (Int32.ofInt (-1)))) := by
  obtain ⟨Y, y1, y2, y3⟩ := iu0 (A := A) hA (Kr := (fun (x4 : Int32) (x5 : Int32) (S18 : AS) => ax_bu (f_X12_look S18) (fun (r22 : Int32) (S19 : AS) => (f_X12_spotOf_64x0 r22 S19).bind (fun (r26 : Int32) => f_X12_readItems_48x0_64x0_L45 ax_F x4 x5 (0 : Int32) r26 S19)))) (p := nI q) (φ := Int32.ofInt (-1)) 3 ax_F 0 T (fun w hw => absurd hw (by omega)) (by omega) (by show _ < 1000000; omega)
  have hTY := itw_r y2 (by omega) hT
  unfold f_X4_readItems_64x0_66x1_66x2_27 f_X12_readItems_48x0_64x0
  rw [← sn_0] at y1
  rw [y1, tq_look hTY hq, ax_bu_s, si0 (lr_by_le hTY), sn_bs]
  have w := it0 (y := y) hA 3 ax_F 0 0 us0 q S Y hS hTY hg y3 (fun w hw => us0_b hw) rfl (by decide) (by omega) (by show _ < 1000000; omega) hq
  rw [← sn_0] at w
  exact ite_tr w itw.rf y2 (Nat.le_refl q)
end
def lo1 (w : Nat) : Nat := if w = 0 then 0 else 0
def hi1 (w : Nat) : Nat := if w = 0 then 9 else 9
def us1 (w : Nat) : Nat := if w = 0 then 2 else 3
theorem lo1_b {j : Nat} : lo1 j < 1000 ∧ hi1 j < 1000 ∧ hi1 j ≤ 99 := by
  unfold lo1 hi1
  repeat' split
  all_goals omega
theorem rd1_l {S : AS} {j : Nat} (hj : j < 2) : ax_rd S 66 4 j = nI (lo1 j) := by
  rcases (by omega : j = 0 ∨ j = 1) with rfl | rfl
  all_goals rfl
theorem rd1_h {S : AS} {j : Nat} (hj : j < 2) : ax_rd S 66 5 j = nI (hi1 j) := by
  rcases (by omega : j = 0 ∨ j = 1) with rfl | rfl
  all_goals rfl
theorem lof1 {S : AS} {j : Nat} (hj : j < 2) : f_X12_leastOf 108 (nI j) S = some (nI (lo1 j)) := by
  have : ∀ j, j < 2 → f_X12_leastOf 108 (nI j) (fun _ _ _ => 0, fun _ _ _ => 0, fun _ _ _ => 0, fun _ _ _ => none, fun _ _ _ => 0, fun _ _ _ => 0) = some (nI (lo1 j)) := by decide +kernel
  exact this j hj
theorem hif1 {S : AS} {j : Nat} (hj : j < 2) : f_X12_mostOf 108 (nI j) S = some (nI (hi1 j)) := by
  have : ∀ j, j < 2 → f_X12_mostOf 108 (nI j) (fun _ _ _ => 0, fun _ _ _ => 0, fun _ _ _ => 0, fun _ _ _ => none, fun _ _ _ => 0, fun _ _ _ => 0) = some (nI (hi1 j)) := by decide +kernel
  exact this j hj
theorem usf1 {S : AS} {j : Nat} (hj : j < 2) : f_X12_usual 108 (nI j) S = some (nI (us1 j)) := by
  have : ∀ j, j < 2 → f_X12_usual 108 (nI j) (fun _ _ _ => 0, fun _ _ _ => 0, fun _ _ _ => 0, fun _ _ _ => none, fun _ _ _ => 0, fun _ _ _ => 0) = some (nI (us1 j)) := by decide +kernel
  exact this j hj
theorem us1_b {j : Nat} (hj : j < 2) : lo1 j ≤ us1 j ∧ us1 j ≤ hi1 j := by
  rcases (by omega : j = 0 ∨ j = 1) with rfl | rfl
  all_goals decide
theorem ti1_c {x : Nat} : (∃ j, j < 2 ∧ ti1 x = nI j ∧ x < 256) ∨ ti1 x = Int32.ofInt (-1) := by
  unfold ti1
  by_cases h0 : x = 119
  · exact .inl ⟨0, by omega, if_pos h0, by omega⟩
  rw [if_neg h0]
  by_cases h1 : x = 112
  · exact .inl ⟨1, by omega, if_pos h1, by omega⟩
  rw [if_neg h1]
  exact .inr rfl
section
variable {b : Nat → Nat} {n y A : Nat}
theorem it1 (hA : A + 2 ≤ 8) : ∀ d m i w g q S T, lc_Tp b n S → lr_Tp b n T 0 0 → ith 28 y A 2 S g → ith 50 0 A 2 T g → (∀ w, w < 2 → lo1 w ≤ g w ∧ g w ≤ hi1 w) → p7 w = i → w < 2 ^ 2 → i + d = 2 → d + 1 < m → q ≤ n → ite 28 y 50 A 2 n q lo1 hi1 S T (f_X4_readItems_64x1_66x4_66x5_28_L6 m y (nI A) (nI w) (nI i) (tpS S (nI q) (Int32.ofInt (-1)))) (f_X12_readItems_50x0_64x1_L45 m 108 (nI A) (nI w) (ti1 (la_by b n q)) (tpT T (nI (la_sk b n q)) (Int32.ofInt (-1)))) := by
  intro d
  induction d with
  | zero =>
    intro m i w g q S T hS hT hg hg' hb hw hw2 hd hm hq
    match m, hm with
    | m + 1, hm =>
      have hle := lc_by_le hS (p := q)
      have hsk := la_sk_n (b := b) hq
      have h240 := hS.1
      have w128 : w < 128 := by have : (2 : Nat) ^ 2 ≤ 128 := by decide
                                omega
      rw [f_X4_readItems_64x1_66x4_66x5_28_L6, f_X12_readItems_50x0_64x1_L45, z2, if_neg (fun z => absurd ((nI_ltI (by omega) (by omega)).mp z) (by omega)), tp_peek hS hq, ax_bu_s, ci1 hle, sn_bs]
      rcases ti1_c (x := la_by b n q) with ⟨j, hj, e, hx⟩ | e
      · rw [e, if_pos (ge0 (j := j) (by omega)), if_neg (nm1 (by omega)), sh7 w w128 j (by omega), tq_11, if_pos rfl, hs7 w128 (by omega), sn_bs]
        have hbit : w / 2 ^ j % 2 = 1 := by
          rcases (by omega : w / 2 ^ j % 2 = 0 ∨ w / 2 ^ j % 2 = 1) with z | z
          · have := p7_2 w hw2 j hj z
            omega
          · exact z
        have n0 : ¬ (w / 2 ^ j % 2 = 0) := by omega
        rw [hbit, if_neg nen1, if_neg nn10, if_neg ne10, tp_fail, sn_bs, tq_fails, ax_bu_s]
        exact ⟨S, T, itw.rf, itw.rf, .inl ⟨la_sk b n q, _, _, hsk.2, rfl, rfl⟩⟩
      · have nn : ¬ ((0 : Int32) ≤ Int32.ofInt (-1)) := by decide
        rw [e, if_neg nn, if_pos rfl]
        exact ⟨S, T, itw.rf, itw.rf, .inr ⟨la_sk b n q, g, hsk.1, hsk.2, rfl, rfl, hg, hg', hb⟩⟩
  | succ d ih =>
    intro m i w g q S T hS hT hg hg' hb hw hw2 hd hm hq
    match m, hm with
    | m + 1, hm =>
      have hle := lc_by_le hS (p := q)
      have hsk := la_sk_n (b := b) hq
      have h240 := hS.1
      have w128 : w < 128 := by have : (2 : Nat) ^ 2 ≤ 128 := by decide
                                omega
      rw [f_X4_readItems_64x1_66x4_66x5_28_L6, f_X12_readItems_50x0_64x1_L45, z2, if_neg (fun z => absurd ((nI_ltI (by omega) (by omega)).mp z) (by omega)), tp_peek hS hq, ax_bu_s, ci1 hle, sn_bs]
      rcases ti1_c (x := la_by b n q) with ⟨j, hj, e, hx⟩ | e
      · rw [e, if_pos (ge0 (j := j) (by omega)), if_neg (nm1 (by omega)), sh7 w w128 j (by omega), tq_11, if_pos rfl, hs7 w128 (by omega), sn_bs]
        rcases (by omega : w / 2 ^ j % 2 = 0 ∨ w / 2 ^ j % 2 = 1) with hbit | hbit
        · have hslt : la_sk b n q < n := by
            unfold la_by at hx
            by_cases z : la_sk b n q < n
            · exact z
            · rw [if_neg z] at hx; omega
          obtain ⟨p1, p2, p3⟩ := p7_2 w hw2 j hj hbit
          have lb := lo1_b (j := j)
          have ixc : nI A + nI j = nI (A + j) := nI_add _ _
          have ik : nI (la_sk b n q) + 1 = nI (la_sk b n q + 1) := nI_1 _
          rw [hbit, if_pos (sn_0).symm, if_pos rfl, if_pos rfl, or7 w w128 j (by omega) hbit, sn_let, tp_pass hS hslt, sn_bs, tq_10, ik, tq_s10, sn_let, sn_let, lof1 hj, sn_bs, hif1 hj, sn_bs]
          rcases tp_num hS (q := la_sk b n q + 1) (by omega) with ⟨c1, c2⟩ | ⟨c1, c2, x, c3⟩ | ⟨c1, c2, c3⟩
          · rcases tq_num hT (q := la_sk b n q + 1) (lo := lo1 j) (hi := hi1 j) (by omega) lb.1 lb.2.1 with ⟨r1, r2⟩ | ⟨r1, _⟩ | ⟨r1, _⟩
            · have hs2 := la_sk_n (b := b) (n := n) (p := la_sk b n q + 1) (by omega)
              rw [c2, ax_bu_s, tp_failed1 (m1 (by omega)), sn_bs, if_neg ne10, r2, ax_bu_s, ixc, sn_in (by omega) (by omega), sn_gd, nI_clamp (n := A + j) (by omega), tq_sai, sn_let, tq_11, if_neg (m1 (by omega))]
              match m, hm with
              | m + 1, hm =>
                rw [f_X12_readItems_50x0_64x1_L45, if_neg (nm1 (by omega)), tq_11, if_neg (m1 (by omega))]
                exact ⟨S, _, itw.rf, itw.sai (by omega) (by omega), .inl ⟨_, _, _, hs2.2, rfl, rfl⟩⟩
            · rw [c1] at r1; cases r1
            · rw [c1] at r1; cases r1
          · rcases tq_num hT (q := la_sk b n q + 1) (lo := lo1 j) (hi := hi1 j) (by omega) lb.1 lb.2.1 with ⟨r1, r2⟩ | ⟨r1, r2, r3⟩ | ⟨r1, r2, _⟩
            · rw [c1] at r1; cases r1
            · have hn := nv_b c1
              rw [c3, ax_bu_s, tp_failed1 (m1 (by omega)), sn_bs, if_neg ne10, r3, ax_bu_s, ixc, sn_in (by omega) (by omega), sn_gd, nI_clamp (n := A + j) (by omega), tq_sai, sn_let, tq_11, if_neg (m1 (by omega))]
              match m, hm with
              | m + 1, hm =>
                rw [f_X12_readItems_50x0_64x1_L45, if_neg (nm1 (by omega)), tq_11, if_neg (m1 (by omega))]
                exact ⟨S, _, itw.rf, itw.sai (by omega) (by omega), .inl ⟨_, _, _, hn.2.2, rfl, rfl⟩⟩
            · rw [c2] at r2; cases r2
          · have hn := nv_b c1
            have hs2 := la_sk_n (b := b) (n := n) (p := la_sk b n q + 1) (by omega)
            rcases tq_num hT (q := la_sk b n q + 1) (lo := lo1 j) (hi := hi1 j) (by omega) lb.1 lb.2.1 with ⟨r1, r2⟩ | ⟨r1, r2, r3⟩ | ⟨r1, r2, r3⟩
            · rw [c1] at r1; cases r1
            · rw [c2] at r2; cases r2
            · rw [c3, ax_bu_s, tp_failed0, sn_bs, if_pos rfl, sn_in (by omega) (by omega), sn_gd, nI_clamp (n := j) (by omega), rd1_l hj, rd1_h hj]
              have e1 : (nI (nv b n (la_sk b n (la_sk b n q + 1))).1 < nI (lo1 j)) ↔ (nv b n (la_sk b n (la_sk b n q + 1))).1 < lo1 j := nI_ltI (by omega) (by omega)
              have e2 : (nI (nv b n (la_sk b n (la_sk b n q + 1))).1 ≤ nI (hi1 j)) ↔ (nv b n (la_sk b n (la_sk b n q + 1))).1 ≤ hi1 j := nI_leI (by omega) (by omega)
              rcases r3 with ⟨r4, r5⟩ | ⟨r4, r5⟩
              · have cls : (if nI (nv b n (la_sk b n (la_sk b n q + 1))).1 < nI (lo1 j) then (f_X10_failAtLastDigit (tpS S (nI (nv b n (la_sk b n (la_sk b n q + 1))).2) (Int32.ofInt (-1)))).bind (fun (S35 : AS) => some S35) else ax_gd true ((if nI (nv b n (la_sk b n (la_sk b n q + 1))).1 ≤ nI (hi1 j) then ax_gd (ax_in (nI A + nI j) 8) (ax_let (ax_sai (tpS S (nI (nv b n (la_sk b n (la_sk b n q + 1))).2) (Int32.ofInt (-1))) 28 y (nI A + nI j).toNatClampNeg (nI (nv b n (la_sk b n (la_sk b n q + 1))).1)) (fun (S41 : AS) => ax_let (nI i + (1 : Int32)) (fun (v42 : Int32) => f_X4_readItems_64x1_66x4_66x5_28_L6 m y (nI A) (nI (w + 2 ^ j)) v42 S41))) else (f_X10_failAtLastDigit (tpS S (nI (nv b n (la_sk b n (la_sk b n q + 1))).2) (Int32.ofInt (-1)))).bind (fun (S43 : AS) => some S43)))) = some (tpS S (nI (nv b n (la_sk b n (la_sk b n q + 1))).2) (nI ((nv b n (la_sk b n (la_sk b n q + 1))).2 - 1))) := by
                  by_cases z : (nv b n (la_sk b n (la_sk b n q + 1))).1 < lo1 j
                  · rw [if_pos (e1.mpr z), tp_fld (by omega), sn_bs]
                  · rw [if_neg (fun u => z (e1.mp u)), sn_gd, if_neg (fun u => r4 ⟨by omega, e2.mp u⟩), tp_fld (by omega), sn_bs]
                rw [cls, r5, ax_bu_s, ixc, sn_in (by omega) (by omega), sn_gd, nI_clamp (n := A + j) (by omega), tq_sai, sn_let, tq_11, if_neg (m1 (by omega))]
                match m, hm with
                | m + 1, hm =>
                  rw [f_X12_readItems_50x0_64x1_L45, if_neg (nm1 (by omega)), tq_11, if_neg (m1 (by omega))]
                  exact ⟨S, _, itw.rf, itw.sai (by omega) (by omega), .inl ⟨_, _, _, by omega, rfl, rfl⟩⟩
              · rw [if_neg (fun u => absurd (e1.mp u) (by omega)), sn_gd, if_pos (e2.mpr r4.2), r5, ax_bu_s, ixc, sn_in (by omega) (by omega), sn_gd, sn_gd, nI_clamp (n := A + j) (by omega), tp_sai, tq_sai, sn_let, sn_let, sn_let, nI_1, tq_11, if_pos rfl]
                have hSs := itw_c (itw.sai (R := 28) (a := y) (A := A) (L := 2) (j := A + j) (v := nI (nv b n (la_sk b n (la_sk b n q + 1))).1) (by omega) (by omega)) (by omega) hS
                have hTs := itw_r (itw.sai (R := 50) (a := 0) (A := A) (L := 2) (j := A + j) (v := nI (nv b n (la_sk b n (la_sk b n q + 1))).1) (by omega) (by omega)) (by omega) hT
                rw [tq_look hTs hn.2.2, ax_bu_s, si1 (lr_by_le hTs), sn_bs]
                refine ite_tr (ih m (i + 1) (w + 2 ^ j) (fun u => if u = j then (nv b n (la_sk b n (la_sk b n q + 1))).1 else g u) (nv b n (la_sk b n (la_sk b n q + 1))).2 _ _ hSs hTs (ith_s hg) (ith_s hg') (fun u hu => ?_) (by omega) p3 (by omega) (by omega) hn.2.2) (itw.sai (by omega) (by omega)) (itw.sai (by omega) (by omega)) (by omega)
                by_cases z : u = j
                · rw [if_pos z, z]; exact r4
                · rw [if_neg z]; exact hb u hu
        · rw [hbit, if_neg nen1, if_neg nn10, if_neg ne10, tp_fail, sn_bs, tq_fails, ax_bu_s]
          exact ⟨S, T, itw.rf, itw.rf, .inl ⟨la_sk b n q, _, _, hsk.2, rfl, rfl⟩⟩
      · have nn : ¬ ((0 : Int32) ≤ Int32.ofInt (-1)) := by decide
        rw [e, if_neg nn, if_pos rfl]
        exact ⟨S, T, itw.rf, itw.rf, .inr ⟨la_sk b n q, g, hsk.1, hsk.2, rfl, rfl, hg, hg', hb⟩⟩
theorem iu1 (hA : A + 2 ≤ 8) {Kr : Int32 → Int32 → AS → Option AS} {p φ : Int32} : ∀ d m j T, (∀ w, w < j → ax_ai T 50 0 (A + w) = nI (us1 w)) → j + d = 2 → d < m → ∃ Y, f_X12_readItems_50x0_64x1_L3 Kr m 108 (nI A) (nI j) (tpT T p φ) = Kr 108 (nI A) (tpT Y p φ) ∧ itw 50 0 A 2 T Y ∧ ith 50 0 A 2 Y us1
  | 0, m + 1, j, T, h, hj, _ => by
    obtain rfl : j = 2 := by omega
    rw [f_X12_readItems_50x0_64x1_L3, z2, if_pos (Int32.le_refl _)]
    exact ⟨T, rfl, itw.rf, h⟩
  | d + 1, m + 1, j, T, h, hj, hm => by
    have ixc : nI A + nI j = nI (A + j) := nI_add _ _
    obtain ⟨Y, y1, y2, y3⟩ := iu1 hA (Kr := Kr) (p := p) (φ := φ) d m (j + 1) (ax_sai T 50 0 (A + j) (nI (us1 j))) (fun w hw => by
      rw [sga]
      by_cases q : w = j
      · rw [if_pos (by omega), q]
      · rw [if_neg (by omega)]; exact h w (by omega)) (by omega) (by omega)
    refine ⟨Y, ?_, (itw.sai (by omega) (by omega)).tr y2, y3⟩
    rw [f_X12_readItems_50x0_64x1_L3, z2, if_neg (fun z => absurd ((nI_leI (by omega) (by omega)).mp z) (by omega)), usf1 (by omega), sn_bs, ixc, sn_in (by omega) (by omega), sn_gd, nI_clamp (n := A + j) (by omega), tq_sai, sn_let, sn_let, nI_1]
    exact y1
/-- the items of a clause, begun with what is usual -/
theorem ia1 {S T : AS} (hA : A + 2 ≤ 8) (hS : lc_Tp b n S) (hT : lr_Tp b n T 0 0) (hg : ith 28 y A 2 S us1) {q : Nat} (hq : q ≤ n) : ite 28 y 50 A 2 n q lo1 hi1 S T (f_X4_readItems_64x1_66x4_66x5_28 y (nI A) (tpS S (nI q) (Int32.ofInt (-1)))) (f_X12_readItems_50x0_64x1 108 (nI A) (tpT T (nI q) (Int32.ofInt (-1)))) := by
  obtain ⟨Y, y1, y2, y3⟩ := iu1 (A := A) hA (Kr := (fun (x4 : Int32) (x5 : Int32) (S18 : AS) => ax_bu (f_X12_look S18) (fun (r22 : Int32) (S19 : AS) => (f_X12_spotOf_64x1 r22 S19).bind (fun (r26 : Int32) => f_X12_readItems_50x0_64x1_L45 ax_F x4 x5 (0 : Int32) r26 S19)))) (p := nI q) (φ := Int32.ofInt (-1)) 2 ax_F 0 T (fun w hw => absurd hw (by omega)) (by omega) (by show _ < 1000000; omega)
  have hTY := itw_r y2 (by omega) hT
  unfold f_X4_readItems_64x1_66x4_66x5_28 f_X12_readItems_50x0_64x1
  rw [← sn_0] at y1
  rw [y1, tq_look hTY hq, ax_bu_s, si1 (lr_by_le hTY), sn_bs]
  have w := it1 (y := y) hA 2 ax_F 0 0 us1 q S Y hS hTY hg y3 (fun w hw => us1_b hw) rfl (by decide) (by omega) (by show _ < 1000000; omega) hq
  rw [← sn_0] at w
  exact ite_tr w itw.rf y2 (Nat.le_refl q)
end
def lo2 (w : Nat) : Nat := if w = 0 then 1 else if w = 1 then 0 else if w = 2 then 0 else if w = 3 then 1 else if w = 4 then 0 else if w = 5 then 0 else 0
def hi2 (w : Nat) : Nat := if w = 0 then 9 else if w = 1 then 5 else if w = 2 then 3 else if w = 3 then 30 else if w = 4 then 9 else if w = 5 then 3 else 99
def us2 (w : Nat) : Nat := if w = 0 then 3 else if w = 1 then 1 else if w = 2 then 0 else if w = 3 then 5 else if w = 4 then 3 else if w = 5 then 0 else 0
theorem lo2_b {j : Nat} : lo2 j < 1000 ∧ hi2 j < 1000 ∧ hi2 j ≤ 99 := by
  unfold lo2 hi2
  repeat' split
  all_goals omega
theorem rd2_l {S : AS} {j : Nat} (hj : j < 7) : ax_rd S 66 7 j = nI (lo2 j) := by
  rcases (by omega : j = 0 ∨ j = 1 ∨ j = 2 ∨ j = 3 ∨ j = 4 ∨ j = 5 ∨ j = 6) with rfl | rfl | rfl | rfl | rfl | rfl | rfl
  all_goals rfl
theorem rd2_h {S : AS} {j : Nat} (hj : j < 7) : ax_rd S 66 8 j = nI (hi2 j) := by
  rcases (by omega : j = 0 ∨ j = 1 ∨ j = 2 ∨ j = 3 ∨ j = 4 ∨ j = 5 ∨ j = 6) with rfl | rfl | rfl | rfl | rfl | rfl | rfl
  all_goals rfl
theorem lof2 {S : AS} {j : Nat} (hj : j < 7) : f_X12_leastOf 118 (nI j) S = some (nI (lo2 j)) := by
  have : ∀ j, j < 7 → f_X12_leastOf 118 (nI j) (fun _ _ _ => 0, fun _ _ _ => 0, fun _ _ _ => 0, fun _ _ _ => none, fun _ _ _ => 0, fun _ _ _ => 0) = some (nI (lo2 j)) := by decide +kernel
  exact this j hj
theorem hif2 {S : AS} {j : Nat} (hj : j < 7) : f_X12_mostOf 118 (nI j) S = some (nI (hi2 j)) := by
  have : ∀ j, j < 7 → f_X12_mostOf 118 (nI j) (fun _ _ _ => 0, fun _ _ _ => 0, fun _ _ _ => 0, fun _ _ _ => none, fun _ _ _ => 0, fun _ _ _ => 0) = some (nI (hi2 j)) := by decide +kernel
  exact this j hj
theorem usf2 {S : AS} {j : Nat} (hj : j < 7) : f_X12_usual 118 (nI j) S = some (nI (us2 j)) := by
  have : ∀ j, j < 7 → f_X12_usual 118 (nI j) (fun _ _ _ => 0, fun _ _ _ => 0, fun _ _ _ => 0, fun _ _ _ => none, fun _ _ _ => 0, fun _ _ _ => 0) = some (nI (us2 j)) := by decide +kernel
  exact this j hj
theorem us2_b {j : Nat} (hj : j < 7) : lo2 j ≤ us2 j ∧ us2 j ≤ hi2 j := by
  rcases (by omega : j = 0 ∨ j = 1 ∨ j = 2 ∨ j = 3 ∨ j = 4 ∨ j = 5 ∨ j = 6) with rfl | rfl | rfl | rfl | rfl | rfl | rfl
  all_goals decide
theorem ti2_c {x : Nat} : (∃ j, j < 7 ∧ ti2 x = nI j ∧ x < 256) ∨ ti2 x = Int32.ofInt (-1) := by
  unfold ti2
  by_cases h0 : x = 110
  · exact .inl ⟨0, by omega, if_pos h0, by omega⟩
  rw [if_neg h0]
  by_cases h1 : x = 112
  · exact .inl ⟨1, by omega, if_pos h1, by omega⟩
  rw [if_neg h1]
  by_cases h2 : x = 116
  · exact .inl ⟨2, by omega, if_pos h2, by omega⟩
  rw [if_neg h2]
  by_cases h3 : x = 98
  · exact .inl ⟨3, by omega, if_pos h3, by omega⟩
  rw [if_neg h3]
  by_cases h4 : x = 119
  · exact .inl ⟨4, by omega, if_pos h4, by omega⟩
  rw [if_neg h4]
  by_cases h5 : x = 108
  · exact .inl ⟨5, by omega, if_pos h5, by omega⟩
  rw [if_neg h5]
  by_cases h6 : x = 97
  · exact .inl ⟨6, by omega, if_pos h6, by omega⟩
  rw [if_neg h6]
  exact .inr rfl
section
variable {b : Nat → Nat} {n y A : Nat}
theorem it2 (hA : A + 7 ≤ 42) : ∀ d m i w g q S T, lc_Tp b n S → lr_Tp b n T 0 0 → ith 29 y A 7 S g → ith 52 0 A 7 T g → (∀ w, w < 7 → lo2 w ≤ g w ∧ g w ≤ hi2 w) → p7 w = i → w < 2 ^ 7 → i + d = 7 → d + 1 < m → q ≤ n → ite 29 y 52 A 7 n q lo2 hi2 S T (f_X4_readItems_64x2_66x7_66x8_29_L6 m y (nI A) (nI w) (nI i) (tpS S (nI q) (Int32.ofInt (-1)))) (f_X12_readItems_52x0_64x2_L45 m 118 (nI A) (nI w) (ti2 (la_by b n q)) (tpT T (nI (la_sk b n q)) (Int32.ofInt (-1)))) := by
  intro d
  induction d with
  | zero =>
    intro m i w g q S T hS hT hg hg' hb hw hw2 hd hm hq
    match m, hm with
    | m + 1, hm =>
      have hle := lc_by_le hS (p := q)
      have hsk := la_sk_n (b := b) hq
      have h240 := hS.1
      have w128 : w < 128 := by have : (2 : Nat) ^ 7 ≤ 128 := by decide
                                omega
      rw [f_X4_readItems_64x2_66x7_66x8_29_L6, f_X12_readItems_52x0_64x2_L45, z7, if_neg (fun z => absurd ((nI_ltI (by omega) (by omega)).mp z) (by omega)), tp_peek hS hq, ax_bu_s, ci2 hle, sn_bs]
      rcases ti2_c (x := la_by b n q) with ⟨j, hj, e, hx⟩ | e
      · rw [e, if_pos (ge0 (j := j) (by omega)), if_neg (nm1 (by omega)), sh7 w w128 j (by omega), tq_11, if_pos rfl, hs7 w128 (by omega), sn_bs]
        have hbit : w / 2 ^ j % 2 = 1 := by
          rcases (by omega : w / 2 ^ j % 2 = 0 ∨ w / 2 ^ j % 2 = 1) with z | z
          · have := p7_7 w hw2 j hj z
            omega
          · exact z
        have n0 : ¬ (w / 2 ^ j % 2 = 0) := by omega
        rw [hbit, if_neg nen1, if_neg nn10, if_neg ne10, tp_fail, sn_bs, tq_fails, ax_bu_s]
        exact ⟨S, T, itw.rf, itw.rf, .inl ⟨la_sk b n q, _, _, hsk.2, rfl, rfl⟩⟩
      · have nn : ¬ ((0 : Int32) ≤ Int32.ofInt (-1)) := by decide
        rw [e, if_neg nn, if_pos rfl]
        exact ⟨S, T, itw.rf, itw.rf, .inr ⟨la_sk b n q, g, hsk.1, hsk.2, rfl, rfl, hg, hg', hb⟩⟩
  | succ d ih =>
    intro m i w g q S T hS hT hg hg' hb hw hw2 hd hm hq
    match m, hm with
    | m + 1, hm =>
      have hle := lc_by_le hS (p := q)
      have hsk := la_sk_n (b := b) hq
      have h240 := hS.1
      have w128 : w < 128 := by have : (2 : Nat) ^ 7 ≤ 128 := by decide
                                omega
      rw [f_X4_readItems_64x2_66x7_66x8_29_L6, f_X12_readItems_52x0_64x2_L45, z7, if_neg (fun z => absurd ((nI_ltI (by omega) (by omega)).mp z) (by omega)), tp_peek hS hq, ax_bu_s, ci2 hle, sn_bs]
      rcases ti2_c (x := la_by b n q) with ⟨j, hj, e, hx⟩ | e
      · rw [e, if_pos (ge0 (j := j) (by omega)), if_neg (nm1 (by omega)), sh7 w w128 j (by omega), tq_11, if_pos rfl, hs7 w128 (by omega), sn_bs]
        rcases (by omega : w / 2 ^ j % 2 = 0 ∨ w / 2 ^ j % 2 = 1) with hbit | hbit
        · have hslt : la_sk b n q < n := by
            unfold la_by at hx
            by_cases z : la_sk b n q < n
            · exact z
            · rw [if_neg z] at hx; omega
          obtain ⟨p1, p2, p3⟩ := p7_7 w hw2 j hj hbit
          have lb := lo2_b (j := j)
          have ixc : nI A + nI j = nI (A + j) := nI_add _ _
          have ik : nI (la_sk b n q) + 1 = nI (la_sk b n q + 1) := nI_1 _
          rw [hbit, if_pos (sn_0).symm, if_pos rfl, if_pos rfl, or7 w w128 j (by omega) hbit, sn_let, tp_pass hS hslt, sn_bs, tq_10, ik, tq_s10, sn_let, sn_let, lof2 hj, sn_bs, hif2 hj, sn_bs]
          rcases tp_num hS (q := la_sk b n q + 1) (by omega) with ⟨c1, c2⟩ | ⟨c1, c2, x, c3⟩ | ⟨c1, c2, c3⟩
          · rcases tq_num hT (q := la_sk b n q + 1) (lo := lo2 j) (hi := hi2 j) (by omega) lb.1 lb.2.1 with ⟨r1, r2⟩ | ⟨r1, _⟩ | ⟨r1, _⟩
            · have hs2 := la_sk_n (b := b) (n := n) (p := la_sk b n q + 1) (by omega)
              rw [c2, ax_bu_s, tp_failed1 (m1 (by omega)), sn_bs, if_neg ne10, r2, ax_bu_s, ixc, sn_in (by omega) (by omega), sn_gd, nI_clamp (n := A + j) (by omega), tq_sai, sn_let, tq_11, if_neg (m1 (by omega))]
              match m, hm with
              | m + 1, hm =>
                rw [f_X12_readItems_52x0_64x2_L45, if_neg (nm1 (by omega)), tq_11, if_neg (m1 (by omega))]
                exact ⟨S, _, itw.rf, itw.sai (by omega) (by omega), .inl ⟨_, _, _, hs2.2, rfl, rfl⟩⟩
            · rw [c1] at r1; cases r1
            · rw [c1] at r1; cases r1
          · rcases tq_num hT (q := la_sk b n q + 1) (lo := lo2 j) (hi := hi2 j) (by omega) lb.1 lb.2.1 with ⟨r1, r2⟩ | ⟨r1, r2, r3⟩ | ⟨r1, r2, _⟩
            · rw [c1] at r1; cases r1
            · have hn := nv_b c1
              rw [c3, ax_bu_s, tp_failed1 (m1 (by omega)), sn_bs, if_neg ne10, r3, ax_bu_s, ixc, sn_in (by omega) (by omega), sn_gd, nI_clamp (n := A + j) (by omega), tq_sai, sn_let, tq_11, if_neg (m1 (by omega))]
              match m, hm with
              | m + 1, hm =>
                rw [f_X12_readItems_52x0_64x2_L45, if_neg (nm1 (by omega)), tq_11, if_neg (m1 (by omega))]
                exact ⟨S, _, itw.rf, itw.sai (by omega) (by omega), .inl ⟨_, _, _, hn.2.2, rfl, rfl⟩⟩
            · rw [c2] at r2; cases r2
          · have hn := nv_b c1
            have hs2 := la_sk_n (b := b) (n := n) (p := la_sk b n q + 1) (by omega)
            rcases tq_num hT (q := la_sk b n q + 1) (lo := lo2 j) (hi := hi2 j) (by omega) lb.1 lb.2.1 with ⟨r1, r2⟩ | ⟨r1, r2, r3⟩ | ⟨r1, r2, r3⟩
            · rw [c1] at r1; cases r1
            · rw [c2] at r2; cases r2
            · rw [c3, ax_bu_s, tp_failed0, sn_bs, if_pos rfl, sn_in (by omega) (by omega), sn_gd, nI_clamp (n := j) (by omega), rd2_l hj, rd2_h hj]
              have e1 : (nI (nv b n (la_sk b n (la_sk b n q + 1))).1 < nI (lo2 j)) ↔ (nv b n (la_sk b n (la_sk b n q + 1))).1 < lo2 j := nI_ltI (by omega) (by omega)
              have e2 : (nI (nv b n (la_sk b n (la_sk b n q + 1))).1 ≤ nI (hi2 j)) ↔ (nv b n (la_sk b n (la_sk b n q + 1))).1 ≤ hi2 j := nI_leI (by omega) (by omega)
              rcases r3 with ⟨r4, r5⟩ | ⟨r4, r5⟩
              · have cls : (if nI (nv b n (la_sk b n (la_sk b n q + 1))).1 < nI (lo2 j) then (f_X10_failAtLastDigit (tpS S (nI (nv b n (la_sk b n (la_sk b n q + 1))).2) (Int32.ofInt (-1)))).bind (fun (S35 : AS) => some S35) else ax_gd true ((if nI (nv b n (la_sk b n (la_sk b n q + 1))).1 ≤ nI (hi2 j) then ax_gd (ax_in (nI A + nI j) 42) (ax_let (ax_sai (tpS S (nI (nv b n (la_sk b n (la_sk b n q + 1))).2) (Int32.ofInt (-1))) 29 y (nI A + nI j).toNatClampNeg (nI (nv b n (la_sk b n (la_sk b n q + 1))).1)) (fun (S41 : AS) => ax_let (nI i + (1 : Int32)) (fun (v42 : Int32) => f_X4_readItems_64x2_66x7_66x8_29_L6 m y (nI A) (nI (w + 2 ^ j)) v42 S41))) else (f_X10_failAtLastDigit (tpS S (nI (nv b n (la_sk b n (la_sk b n q + 1))).2) (Int32.ofInt (-1)))).bind (fun (S43 : AS) => some S43)))) = some (tpS S (nI (nv b n (la_sk b n (la_sk b n q + 1))).2) (nI ((nv b n (la_sk b n (la_sk b n q + 1))).2 - 1))) := by
                  by_cases z : (nv b n (la_sk b n (la_sk b n q + 1))).1 < lo2 j
                  · rw [if_pos (e1.mpr z), tp_fld (by omega), sn_bs]
                  · rw [if_neg (fun u => z (e1.mp u)), sn_gd, if_neg (fun u => r4 ⟨by omega, e2.mp u⟩), tp_fld (by omega), sn_bs]
                rw [cls, r5, ax_bu_s, ixc, sn_in (by omega) (by omega), sn_gd, nI_clamp (n := A + j) (by omega), tq_sai, sn_let, tq_11, if_neg (m1 (by omega))]
                match m, hm with
                | m + 1, hm =>
                  rw [f_X12_readItems_52x0_64x2_L45, if_neg (nm1 (by omega)), tq_11, if_neg (m1 (by omega))]
                  exact ⟨S, _, itw.rf, itw.sai (by omega) (by omega), .inl ⟨_, _, _, by omega, rfl, rfl⟩⟩
              · rw [if_neg (fun u => absurd (e1.mp u) (by omega)), sn_gd, if_pos (e2.mpr r4.2), r5, ax_bu_s, ixc, sn_in (by omega) (by omega), sn_gd, sn_gd, nI_clamp (n := A + j) (by omega), tp_sai, tq_sai, sn_let, sn_let, sn_let, nI_1, tq_11, if_pos rfl]
                have hSs := itw_c (itw.sai (R := 29) (a := y) (A := A) (L := 7) (j := A + j) (v := nI (nv b n (la_sk b n (la_sk b n q + 1))).1) (by omega) (by omega)) (by omega) hS
                have hTs := itw_r (itw.sai (R := 52) (a := 0) (A := A) (L := 7) (j := A + j) (v := nI (nv b n (la_sk b n (la_sk b n q + 1))).1) (by omega) (by omega)) (by omega) hT
                rw [tq_look hTs hn.2.2, ax_bu_s, si2 (lr_by_le hTs), sn_bs]
                refine ite_tr (ih m (i + 1) (w + 2 ^ j) (fun u => if u = j then (nv b n (la_sk b n (la_sk b n q + 1))).1 else g u) (nv b n (la_sk b n (la_sk b n q + 1))).2 _ _ hSs hTs (ith_s hg) (ith_s hg') (fun u hu => ?_) (by omega) p3 (by omega) (by omega) hn.2.2) (itw.sai (by omega) (by omega)) (itw.sai (by omega) (by omega)) (by omega)
                by_cases z : u = j
                · rw [if_pos z, z]; exact r4
                · rw [if_neg z]; exact hb u hu
        · rw [hbit, if_neg nen1, if_neg nn10, if_neg ne10, tp_fail, sn_bs, tq_fails, ax_bu_s]
          exact ⟨S, T, itw.rf, itw.rf, .inl ⟨la_sk b n q, _, _, hsk.2, rfl, rfl⟩⟩
      · have nn : ¬ ((0 : Int32) ≤ Int32.ofInt (-1)) := by decide
        rw [e, if_neg nn, if_pos rfl]
        exact ⟨S, T, itw.rf, itw.rf, .inr ⟨la_sk b n q, g, hsk.1, hsk.2, rfl, rfl, hg, hg', hb⟩⟩
theorem iu2 (hA : A + 7 ≤ 42) {Kr : Int32 → Int32 → AS → Option AS} {p φ : Int32} : ∀ d m j T, (∀ w, w < j → ax_ai T 52 0 (A + w) = nI (us2 w)) → j + d = 7 → d < m → ∃ Y, f_X12_readItems_52x0_64x2_L3 Kr m 118 (nI A) (nI j) (tpT T p φ) = Kr 118 (nI A) (tpT Y p φ) ∧ itw 52 0 A 7 T Y ∧ ith 52 0 A 7 Y us2
  | 0, m + 1, j, T, h, hj, _ => by
    obtain rfl : j = 7 := by omega
    rw [f_X12_readItems_52x0_64x2_L3, z7, if_pos (Int32.le_refl _)]
    exact ⟨T, rfl, itw.rf, h⟩
  | d + 1, m + 1, j, T, h, hj, hm => by
    have ixc : nI A + nI j = nI (A + j) := nI_add _ _
    obtain ⟨Y, y1, y2, y3⟩ := iu2 hA (Kr := Kr) (p := p) (φ := φ) d m (j + 1) (ax_sai T 52 0 (A + j) (nI (us2 j))) (fun w hw => by
      rw [sga]
      by_cases q : w = j
      · rw [if_pos (by omega), q]
      · rw [if_neg (by omega)]; exact h w (by omega)) (by omega) (by omega)
    refine ⟨Y, ?_, (itw.sai (by omega) (by omega)).tr y2, y3⟩
    rw [f_X12_readItems_52x0_64x2_L3, z7, if_neg (fun z => absurd ((nI_leI (by omega) (by omega)).mp z) (by omega)), usf2 (by omega), sn_bs, ixc, sn_in (by omega) (by omega), sn_gd, nI_clamp (n := A + j) (by omega), tq_sai, sn_let, sn_let, nI_1]
    exact y1
/-- the items of a clause, begun with what is usual -/
theorem ia2 {S T : AS} (hA : A + 7 ≤ 42) (hS : lc_Tp b n S) (hT : lr_Tp b n T 0 0) (hg : ith 29 y A 7 S us2) {q : Nat} (hq : q ≤ n) : ite 29 y 52 A 7 n q lo2 hi2 S T (f_X4_readItems_64x2_66x7_66x8_29 y (nI A) (tpS S (nI q) (Int32.ofInt (-1)))) (f_X12_readItems_52x0_64x2 118 (nI A) (tpT T (nI q) (Int32.ofInt (-1)))) := by
  obtain ⟨Y, y1, y2, y3⟩ := iu2 (A := A) hA (Kr := (fun (x4 : Int32) (x5 : Int32) (S18 : AS) => ax_bu (f_X12_look S18) (fun (r22 : Int32) (S19 : AS) => (f_X12_spotOf_64x2 r22 S19).bind (fun (r26 : Int32) => f_X12_readItems_52x0_64x2_L45 ax_F x4 x5 (0 : Int32) r26 S19)))) (p := nI q) (φ := Int32.ofInt (-1)) 7 ax_F 0 T (fun w hw => absurd hw (by omega)) (by omega) (by show _ < 1000000; omega)
  have hTY := itw_r y2 (by omega) hT
  unfold f_X4_readItems_64x2_66x7_66x8_29 f_X12_readItems_52x0_64x2
  rw [← sn_0] at y1
  rw [y1, tq_look hTY hq, ax_bu_s, si2 (lr_by_le hTY), sn_bs]
  have w := it2 (y := y) hA 7 ax_F 0 0 us2 q S Y hS hTY hg y3 (fun w hw => us2_b hw) rfl (by decide) (by omega) (by show _ < 1000000; omega) hq
  rw [← sn_0] at w
  exact ite_tr w itw.rf y2 (Nat.le_refl q)
end

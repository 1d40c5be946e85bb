/-! QUERIES: whose, game -/
def qo (H : Nat → Nat) (W : Option (List la_C)) (M : Nat) (K : Nat → List la_C) (T : AS) (x : Option Int32) (y : Option (Int32 × AS)) : Prop := ∃ r T', x = some r ∧ y = some (r, T') ∧ ax_fr jr_q T T' ∧ jr_C T' H M K W
section
variable {S T S1 T1 : AS} {o : Nat} {H N : Nat → Nat} {W : Option (List la_C)} {M : Nat} {K : Nat → List la_C}
theorem qo_tr {x : Option Int32} {y : Option (Int32 × AS)} (ht : ax_fr jr_q T T1) (h : qo H W M K T1 x y) : qo H W M K T x y := by
  obtain ⟨r, T', h1, h2, h3, h4⟩ := h
  exact ⟨r, T', h1, h2, ht.tr h3, h4⟩
theorem qo_none (h : jq o H N W M K S T) {r : Int32} : qo H W M K T (some r) (some (r, T)) := ⟨r, T, rfl, rfl, ax_fr.rf, h.2.2.2.2.1⟩
theorem jq_lodger (h : jq o H N W M K S T) (a : Int32) : (∃ l, l < H 3 ∧ a = nI l ∧ f_X11_noSuchLodger a S = some 0 ∧ f_X12_isLodger a T = some 1) ∨ ((∀ l, l < H 3 → a ≠ nI l) ∧ f_X11_noSuchLodger a S = some 1 ∧ f_X12_isLodger a T = some 0) := by
  have h4 : H 3 ≤ 4 := h.1.2.2.2.1
  unfold f_X11_noSuchLodger f_X12_isLodger
  rw [h.2.2.1.1.2.1, h.2.2.1.1.2.2.2.2.1, h.2.2.2.2.1.1.1]
  rcases pk_ix a (n := H 3) (by omega) with q | q | ⟨j, h1, h2⟩
  · refine .inr ⟨fun v hv e => ?_, if_pos q, if_pos q⟩
    rw [e] at q
    exact nI_pos (by omega) q
  · have q2 : ¬ (a < nI (H 3)) := fun z => Int32.lt_irrefl (Int32.lt_of_lt_of_le z q)
    refine .inr ⟨fun v hv e => ?_, ?_, ?_⟩
    · rw [e] at q
      have := (nI_leI (by omega) (by omega)).mp q
      omega
    · rw [if_neg q2]
      split <;> rfl
    · rw [if_pos q]
      split <;> rfl
  · refine .inl ⟨j, h1, h2, ?_, ?_⟩
    · rw [h2, if_neg (nI_pos (by omega)), if_pos ((nI_ltI (by omega) (by omega)).mpr h1)]
    · rw [h2, if_neg (nI_pos (by omega)), if_neg (fun z => absurd ((nI_leI (by omega) (by omega)).mp z) (by omega))]
theorem q_whoseL (h : jq o H N W M K S T) {b : Int32} : ∀ d n p (m : Int32), p + d = H 4 → d < n → qo H W M K T (f_X11_whose_L14 S (fun (x9 : Int32) => some x9) n b m (nI p)) (f_X12_whose_L19 (fun (x10 : Int32) (S22 : AS) => some (x10, S22)) n b m (nI p) T)
  | 0, n + 1, p, m, hp, _ => by
    have h6 : H 4 ≤ 6 := h.1.2.2.2.2.1
    rw [f_X11_whose_L14, f_X12_whose_L19, h.2.2.1.1.2.1, h.2.2.1.1.2.2.2.2.2.1, h.2.2.2.2.1.1.2.1, if_pos ((nI_leI (by omega) (by omega)).mpr (by omega)), if_pos ((nI_leI (by omega) (by omega)).mpr (by omega))]
    exact qo_none h
  | d + 1, n + 1, p, m, hp, hn => by
    have h6 : H 4 ≤ 6 := h.1.2.2.2.2.1
    have e5 := jc_trait h.2.2.1.1 h.1 (v := p) (by omega) (w := 5) (by omega)
    rw [← sn_5] at e5
    have r5 := jr_of h.2.2.2.2.1.1 h.1 (v := p) (by omega) (w := 5) (by omega)
    rw [← sn_5] at r5
    rw [f_X11_whose_L14, f_X12_whose_L19, h.2.2.1.1.2.1, h.2.2.1.1.2.2.2.2.2.1, h.2.2.2.2.1.1.2.1, if_neg (fun z => absurd ((nI_leI (by omega) (by omega)).mp z) (by omega)), if_neg (fun z => absurd ((nI_leI (by omega) (by omega)).mp z) (by omega)), e5, sn_bs, r5, sn_bs]
    by_cases e : nI (H (16 + 7 * p + 5)) = b
    · rw [if_pos e, if_pos e, sn_let, sn_let, sn_let, sn_let, nI_1]
      exact q_whoseL h d n (p + 1) _ (by omega) (by omega)
    · rw [if_neg e, if_neg e, sn_let, sn_let, sn_let, nI_1, or_0]
      exact q_whoseL h d n (p + 1) _ (by omega) (by omega)
theorem q_whose (h : jq o H N W M K S T) (a : Int32) : qo H W M K T (f_X11_whose a S) (f_X12_whose a T) := by
  have h6 : H 4 ≤ 6 := h.1.2.2.2.2.1
  have h1 := jq_thr (v := 0) h
  unfold f_X11_whose f_X12_whose
  rw [sn_let]
  refine qo_tr (jr_thr (v := 0)) ?_
  rcases jq_lodger h1 a with ⟨l, hl, rfl, e1, e2⟩ | ⟨hx, e1, e2⟩
  · rw [e1, sn_bs, if_pos rfl, e2, sn_bs, if_neg ne10]
    have w := q_whoseL h1 (b := nI l) (H 4) ax_F 0 0 (by omega) (by show _ < 1000000; omega)
    rw [← sn_0] at w
    exact w
  · rw [e1, sn_bs, if_neg ne10, e2, sn_bs, if_pos rfl]
    exact qo_none h1
/-- the prize, with a name's length and one's worth -/
def pz (H : Nat → Nat) (W : Option (List la_C)) (N : Nat → Nat) (v t z : Nat) : Nat := if bt H W v (H (17 + 7 * v)) t (N 17 + z) (N 18) (N 22) < H (19 + 7 * v) then 0 else H (20 + 7 * v)
theorem jq_prize (h : jq o H N W M K S T) {v t z : Nat} (hv : v < H 4) (ht : t ≤ 3) (hz : z ≤ 1) : ∃ Z Y, f_X11_prize (nI v) (nI t) (nI z) S = some (nI (pz H W N v t z), Z) ∧ f_X12_takesTitled (nI v) (nI t) (nI (N 17 + z)) T = some (nI (bt H W v (H (17 + 7 * v)) t (N 17 + z) (N 18) (N 22)), Y) ∧ ax_fr jc_scr S Z ∧ ax_fr jr_q T Y ∧ jr_C Y H M K W ∧ jq o H N W M K Z Y := by
  have f := jq_n h hv
  have hS := h.2.2.2.1
  have hR := h.2.2.2.2.2
  obtain ⟨Z, Y, z1, y1, z2, y2, y3, hq⟩ := jq_b h (v := v) (a := H (17 + 7 * v)) (t := t) (g := N 17 + z) (s := N 18) (d := N 22) hv (by omega) (by omega) (by omega) (by omega) (by omega)
  have eh := jc_hards h.2.2.1.1 h.1 hv
  rw [(by omega : 16 + 7 * v + 1 = 17 + 7 * v)] at eh
  have bb : bt H W v (H (17 + 7 * v)) t (N 17 + z) (N 18) (N 22) ≤ 60 := bt_b.2
  have e4 := jc_trait hq.2.2.1.1 h.1 hv (w := 4) (by omega)
  rw [← sn_4, (by omega : 16 + 7 * v + 4 = 20 + 7 * v)] at e4
  have eB : f_X6_beatsTired 0 (nI v) (nI t) (nI (N 17 + z)) S = some (nI (bt H W v (H (17 + 7 * v)) t (N 17 + z) (N 18) (N 22)), Z) := by
    unfold f_X6_beatsTired
    rw [eh, sn_bs, hS.2.2.2.2.1, hS.2.2.2.2.2.2.2.1, z1, ax_bu_s]
  refine ⟨Z, Y, ?_, ?_, z2, y2, y3, hq⟩
  · unfold f_X11_prize pz
    rw [hS.2.2.2.1, nI_add, eB, ax_bu_s, jc_done hq.2.2.1.1 h.1 hv bb, sn_bs]
    by_cases hd : bt H W v (H (17 + 7 * v)) t (N 17 + z) (N 18) (N 22) < H (19 + 7 * v)
    · rw [if_pos hd, if_pos rfl, if_pos hd]; rfl
    · rw [if_neg hd, if_neg ne10, if_neg hd, hq.2.2.1.1.2.1, e4, sn_bs]
  · unfold f_X12_takesTitled
    rw [(jr_ofw h hv).2.1, sn_bs, in_18, sn_gd, in_22, sn_gd, cl_18, cl_22, hR 18 (by omega), hR 22 (by omega), y1, ax_bu_s]
/-- what one has of a game -/
def gv (H : Nat → Nat) (W : Option (List la_C)) (N : Nat → Nat) (v x y z : Nat) : Int32 := if nI y ≤ nI x then nI (pz H W N v x z) - nI x - 0 else nI (pz H W N v x z) - nI x - 2
theorem jq_game (h : jq o H N W M K S T) {v w x y z : Nat} (hv : v < H 4) (hw : w < H 4) (hx : x ≤ 3) (hy : y ≤ 3) (hz : z ≤ 1) : ∃ Z Y, f_X11_prize (nI (if z = 0 then v else w)) (nI (if z = 0 then x else y)) (nI z) S = some (nI (pz H W N (if z = 0 then v else w) (if z = 0 then x else y) z), Z) ∧ f_X12_gameOf (nI v) (nI w) (nI x) (nI y) (nI z) T = some (gv H W N (if z = 0 then v else w) (if z = 0 then x else y) (if z = 0 then y else x) z, Y) ∧ ax_fr jc_scr S Z ∧ ax_fr jr_q T Y ∧ jr_C Y H M K W ∧ jq o H N W M K Z Y := by
  have hR := h.2.2.2.2.2
  obtain ⟨Z, Y, z1, y1, z2, y2, y3, hq⟩ := jq_prize h (v := if z = 0 then v else w) (t := if z = 0 then x else y) (z := z) (by split <;> assumption) (by split <;> assumption) hz
  refine ⟨Z, Y, z1, ?_, z2, y2, y3, hq⟩
  have fv := jq_n h hv
  have fw := jq_n h hw
  have fin : ∀ (V X U : Nat), V < H 4 → X ≤ 3 → f_X12_takesTitled (nI V) (nI X) (nI (N 17 + z)) T = some (nI (bt H W V (H (17 + 7 * V)) X (N 17 + z) (N 18) (N 22)), Y) → ax_gd (ax_in (17 : Int32) 204) (ax_bu (f_X12_takesTitled (nI V) (nI X) ((ax_ai T 55 0 (17 : Int32).toNatClampNeg) + nI z) T) (fun (r14 : Int32) (S11 : AS) => (f_X12_of (nI V) (3 : Int32) S11).bind (fun (r18 : Int32) => ax_let (fun (x19 : Int32) (S20 : AS) => (if nI U ≤ nI X then some (((x19 - nI X) - (0 : Int32)), S20) else some (((x19 - nI X) - (2 : Int32)), S20))) (fun J21 => (if r14 < r18 then J21 (0 : Int32) S11 else (f_X12_of (nI V) (4 : Int32) S11).bind (fun (r27 : Int32) => J21 r27 S11)))))) = some (gv H W N V X U z, Y) := by
    intro V X U hV hX e
    have f := jq_n h hV
    have bb : bt H W V (H (17 + 7 * V)) X (N 17 + z) (N 18) (N 22) ≤ 60 := bt_b.2
    rw [in_17, sn_gd, cl_17, hR 17 (by omega), nI_add, e, ax_bu_s, (jr_ofw hq hV).1, sn_bs, sn_let]
    unfold gv pz
    by_cases hd : bt H W V (H (17 + 7 * V)) X (N 17 + z) (N 18) (N 22) < H (19 + 7 * V)
    · rw [if_pos ((nI_ltI (by omega) (by omega)).mpr hd), if_pos hd]
      dsimp only
      rw [sn_0]
      split <;> rfl
    · rw [if_neg (fun q => hd ((nI_ltI (by omega) (by omega)).mp q)), if_neg hd, (jr_ofw hq hV).2.2, sn_bs]
      dsimp only
      split <;> rfl
  unfold f_X12_gameOf
  rw [sn_let]
  rcases (by omega : z = 0 ∨ z = 1) with rfl | rfl
  · rw [if_pos (sn_0).symm]
    dsimp only
    rw [sn_let, if_pos (sn_0).symm]
    dsimp only
    rw [sn_let, if_pos (sn_0).symm]
    dsimp only
    exact fin v x y hv hx y1
  · rw [if_neg nen1]
    dsimp only
    rw [sn_let, if_neg nen1]
    dsimp only
    rw [sn_let, if_neg nen1]
    dsimp only
    exact fin w y x hw hy y1
end

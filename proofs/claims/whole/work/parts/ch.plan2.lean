/-! TEXTS: a whole afternoon is read -/
section
variable {S T Z Y X : AS} {b : Nat → Nat} {n y k q : Nat} {E : Nat → Nat} {p φ : Int32}
def pfin (y n : Nat) (S T : AS) (x : Option (Int32 × AS)) (z : Option AS) : Prop := ∃ Z Y, pwc y S Z ∧ pwr T Y ∧ ((∃ f p p', f ≤ n ∧ x = some (nI f, tpS Z p (nI f)) ∧ z = some (tpT Y p' (nI f))) ∨ (∃ p p' k E, x = some (Int32.ofInt (-1), tpS Z p (Int32.ofInt (-1))) ∧ z = some (tpT Y p' (Int32.ofInt (-1))) ∧ pg y k E Z Y ∧ 1 ≤ k ∧ ax_ai Y 54 0 4 = nI k))
theorem pfin_tr {S1 T1 : AS} {x : Option (Int32 × AS)} {z : Option AS} (h : pfin y n S1 T1 x z) (hs : pwc y S S1) (ht : pwr T T1) : pfin y n S T x z := by
  obtain ⟨Z, Y, h1, h2, h3⟩ := h
  exact ⟨Z, Y, hs.tr h1, ht.tr h2, h3⟩
def pKc : AS → Option (Int32 × AS) := fun (S38 : AS) => some ((ax_fi S38 10 0 3), S38)
def pKr : Int32 → AS → Option AS := fun (x6 : Int32) (S32 : AS) => ax_gd (ax_in (4 : Int32) 5) (ax_let (ax_sai S32 54 0 (4 : Int32).toNatClampNeg x6) (fun (S34 : AS) => ax_bu (f_X12_look S34) (fun (r38 : Int32) (S35 : AS) => (if r38 = (Int32.ofInt (-1)) then some S35 else ax_bu (f_X12_fails S35) (fun (_ : Int32) (S40 : AS) => some S40)))))
theorem pg_54 {v : Int32} (h : pg y k E S T) : pg y k E S (ax_sai T 54 0 4 v) := by
  obtain ⟨h1, h2, h3⟩ := h
  refine ⟨h1, h2, fun i hi => ?_⟩
  rw [sgo (by omega)]
  exact h3 i hi
/-- behind a fault the given code comes to its end -/
theorem p_end {m f : Nat} {i : Int32} (hf : f ≤ 240) : (if ax_fi (tpS S p (nI f)) 0 y 2 = (16 : Int32) then ax_bu (f_X10_peek (tpS S p (nI f))) (fun (r23 : Int32) (S20 : AS) => (if r23 = (59 : Int32) then (f_X10_fail S20).bind (fun (S30 : AS) => ax_bu (f_X10_goesOn S30) (fun (r36 : Int32) (S33 : AS) => ax_let i (fun (v37 : Int32) => f_X0_readFrom_L13 pKc (m + 1) y r36 v37 S33))) else ax_bu (f_X10_goesOn S20) (fun (r28 : Int32) (S25 : AS) => ax_let i (fun (v29 : Int32) => f_X0_readFrom_L13 pKc (m + 1) y r28 v29 S25)))) else ax_bu (f_X10_goesOn (tpS S p (nI f))) (fun (r18 : Int32) (S15 : AS) => ax_let i (fun (v19 : Int32) => f_X0_readFrom_L13 pKc (m + 1) y r18 v19 S15))) = some (nI f, tpS S p (nI f)) := by
  have e : f_X0_readFrom_L13 pKc (m + 1) y 0 i (tpS S p (nI f)) = some (nI f, tpS S p (nI f)) := by
    rw [f_X0_readFrom_L13, if_pos rfl]
    unfold pKc
    rw [tp_3]
  have n59 : ¬ ((0 : Int32) = 59) := by decide
  rw [tp_peekD (m1 hf), ax_bu_s, if_neg n59, tp_goD (m1 hf), ax_bu_s, sn_let, e]
  split <;> rfl
theorem p_L : ∀ d m k q E S T, lc_Tp b n S → lr_Tp b n T 0 0 → pg y k E S T → q ≤ n → k + d = 15 → d + 3 < m → pfin y n S T (f_X0_readFrom_L13 pKc m y 1 (nI k) (tpS S (nI q) (Int32.ofInt (-1)))) (f_X12_readPlan_L17 pKr m (nI k) 1 (tpT T (nI q) (Int32.ofInt (-1)))) := by
  intro d
  induction d with
  | zero =>
    intro m k q E S T hS hT h hq hd hm
    match m, hm with
    | m + 2, hm =>
      have h240 := hS.1
      obtain rfl : k = 15 := by omega
      have c16 : ¬ ((16 : Int32) ≤ nI 15) := by decide
      have ix : (2 : Int32) * ((64 : Int32) + nI 15) = nI (128 + 2 * 15) := by decide
      obtain ⟨Z, Y, z1, z2, z3⟩ := p_st hS hT h (by omega) hq
      have hSZ := pwc_T z1 hS
      have hTY := pwr_T z2 hT
      rw [f_X0_readFrom_L13, f_X12_readPlan_L17, if_neg ne10, if_neg c16, if_neg ne10, ix]
      rcases z3 with ⟨f, p, p', e1, e2, e3⟩ | ⟨q', E', e1, e2, e3, e4, e5⟩
      · rw [e2, e3, sn_bs, sn_bs, p_end (by omega), tq_11, if_neg (m1 (by omega))]
        exact ⟨Z, Y, z1, z2, .inl ⟨f, _, _, e1, rfl, rfl⟩⟩
      · have hsk := la_sk_n (b := b) e2
        have hle := lc_by_le hSZ (p := q')
        have k16 : ax_fi (tpS Z (nI q') (Int32.ofInt (-1))) 0 y 2 = (16 : Int32) := (tp_fi (by omega)).trans e5.2.1
        have v16 : nI 15 + (1 : Int32) = 16 := by decide
        rw [e3, e4, sn_bs, sn_bs, k16, if_pos rfl, tp_peek hSZ e2, ax_bu_s, tq_11, if_pos rfl, v16, sn_let, tq_look hTY e2, ax_bu_s, sn_let]
        by_cases g1 : la_by b n q' = 59
        · have a59 : lc_sg (la_by b n q') = 59 := by rw [g1]; decide
          have r59 : lr_sg (la_by b n q') = 59 := by rw [g1]; decide
          rw [if_pos a59, if_pos r59, tp_fail, sn_bs, tp_goD (m1 (by omega)), ax_bu_s, sn_let, f_X0_readFrom_L13, if_pos rfl]
          dsimp only
          unfold pKc
          rw [tp_3, if_neg ne10, if_pos rfl, tq_fails, ax_bu_s]
          exact ⟨Z, Y, z1, z2, .inl ⟨la_sk b n q', _, _, hsk.2, rfl, rfl⟩⟩
        · have a59 : ¬ (lc_sg (la_by b n q') = 59) := lc_ne 59 hle g1 (by omega) (by omega)
          have r59 : ¬ (lr_sg (la_by b n q') = 59) := lr_ne 59 hle g1 (by omega)
          have hby2 : la_by b n (la_sk b n q') = la_by b n q' := lc_by_sk
          have i4 : ax_in (4 : Int32) 5 = true := by decide
          have c4 : (4 : Int32).toNatClampNeg = 4 := Eq.trans rfl rfl
          have hT54 := pwr_T (pwr_54 (T := Y) (v := 16)) hTY
          rw [if_neg a59, if_neg r59]
          dsimp only
          rw [if_pos rfl, if_pos rfl, f_X12_readPlan_L17, if_pos rfl]
          unfold pKr
          rw [i4, sn_gd, c4, tq_sai, sn_let, tq_look hT54 hsk.2, ax_bu_s, la_sk_s]
          rcases tp_go hSZ hsk.2 with ⟨g2, _⟩ | ⟨g2, g3⟩ | ⟨_, g2, g3⟩
          · exact absurd (hby2 ▸ g2) g1
          · have rm1 : lr_sg (la_by b n (la_sk b n q')) = Int32.ofInt (-1) := by rw [g2]; decide
            rw [g3, ax_bu_s, sn_let, f_X0_readFrom_L13, if_pos rfl, if_pos rm1]
            unfold pKc
            rw [tp_3]
            exact ⟨Z, _, z1, z2.tr pwr_54, .inr ⟨_, _, 16, E', rfl, rfl, pg_54 e5, by omega, by rw [sga, if_pos rfl]; rfl⟩⟩
          · have rm1 : ¬ (lr_sg (la_by b n (la_sk b n q')) = Int32.ofInt (-1)) := by
              unfold lr_sg
              rw [if_neg g2]
              exact nm1 (by omega)
            rw [g3, ax_bu_s, sn_let, f_X0_readFrom_L13, if_pos rfl, la_sk_s, if_neg rm1, tq_fails, ax_bu_s]
            unfold pKc
            rw [tp_3]
            exact ⟨Z, _, z1, z2.tr pwr_54, .inl ⟨la_sk b n q', _, _, hsk.2, rfl, rfl⟩⟩
  | succ d ih =>
    intro m k q E S T hS hT h hq hd hm
    match m, hm with
    | m + 2, hm =>
      have h240 := hS.1
      have c16 : ¬ ((16 : Int32) ≤ nI k) := fun z => absurd ((nI_leI (a := 16) (b := k) (by omega) (by omega)).mp z) (by omega)
      have ix : (2 : Int32) * ((64 : Int32) + nI k) = nI (128 + 2 * k) := by
        have e64 : (64 : Int32) = nI 64 := Eq.trans rfl rfl
        rw [sn_2, e64, nI_add, pk_mul, (by omega : 2 * (64 + k) = 128 + 2 * k)]
      obtain ⟨Z, Y, z1, z2, z3⟩ := p_st hS hT h (by omega) hq
      have hSZ := pwc_T z1 hS
      have hTY := pwr_T z2 hT
      rw [f_X0_readFrom_L13, f_X12_readPlan_L17, if_neg ne10, if_neg c16, if_neg ne10, ix]
      rcases z3 with ⟨f, p, p', e1, e2, e3⟩ | ⟨q', E', e1, e2, e3, e4, e5⟩
      · rw [e2, e3, sn_bs, sn_bs, p_end (by omega), tq_11, if_neg (m1 (by omega))]
        exact ⟨Z, Y, z1, z2, .inl ⟨f, _, _, e1, rfl, rfl⟩⟩
      · have hsk := la_sk_n (b := b) e2
        have hle := lc_by_le hSZ (p := q')
        have k16 : ax_fi (tpS Z (nI q') (Int32.ofInt (-1))) 0 y 2 = nI (k + 1) := (tp_fi (by omega)).trans e5.2.1
        have n16 : ¬ (nI (k + 1) = (16 : Int32)) := fun z => absurd ((nI_eq (a := k + 1) (b := 16) (by omega) (by omega)).mp z) (by omega)
        have ic : nI k + 1 = nI (k + 1) := nI_1 _
        have hby2 : la_by b n (la_sk b n q') = la_by b n q' := lc_by_sk
        rw [e3, e4, sn_bs, sn_bs, k16, if_neg n16, tq_11, if_pos rfl, ic, sn_let, tq_look hTY e2, ax_bu_s, sn_let]
        rcases tp_go hSZ e2 with ⟨g1, g2, g3⟩ | ⟨g1, g3⟩ | ⟨g1, g2, g3⟩
        · have r59 : lr_sg (la_by b n q') = 59 := by rw [g1]; decide
          have ik : nI (la_sk b n q') + 1 = nI (la_sk b n q' + 1) := nI_1 _
          rw [g3, ax_bu_s, sn_let, if_pos r59]
          dsimp only
          rw [if_neg ne10, if_neg n16, if_neg ne10, tq_10, ik, tq_s10, sn_let]
          exact pfin_tr (ih (m + 1) (k + 1) (la_sk b n q' + 1) E' Z Y hSZ hTY e5 (by omega) (by omega) (by omega)) z1 z2
        · have r59 : ¬ (lr_sg (la_by b n q') = 59) := by rw [g1]; decide
          have i4 : ax_in (4 : Int32) 5 = true := by decide
          have c4 : (4 : Int32).toNatClampNeg = 4 := Eq.trans rfl rfl
          have hT54 := pwr_T (pwr_54 (T := Y) (v := nI (k + 1))) hTY
          have rm1 : lr_sg (la_by b n (la_sk b n q')) = Int32.ofInt (-1) := by rw [hby2, g1]; decide
          rw [g3, ax_bu_s, sn_let, if_neg r59]
          dsimp only
          rw [if_pos rfl, if_pos rfl, f_X0_readFrom_L13, if_pos rfl, f_X12_readPlan_L17, if_pos rfl]
          unfold pKr pKc
          rw [tp_3, i4, sn_gd, c4, tq_sai, sn_let, tq_look hT54 hsk.2, ax_bu_s, la_sk_s, if_pos rm1]
          exact ⟨Z, _, z1, z2.tr pwr_54, .inr ⟨_, _, k + 1, E', rfl, rfl, pg_54 e5, by omega, by rw [sga, if_pos rfl]⟩⟩
        · have r59 : ¬ (lr_sg (la_by b n q') = 59) := lr_ne 59 hle g1 (by omega)
          have i4 : ax_in (4 : Int32) 5 = true := by decide
          have c4 : (4 : Int32).toNatClampNeg = 4 := Eq.trans rfl rfl
          have hT54 := pwr_T (pwr_54 (T := Y) (v := nI (k + 1))) hTY
          have rm1 : ¬ (lr_sg (la_by b n (la_sk b n q')) = Int32.ofInt (-1)) := by
            rw [hby2]
            unfold lr_sg
            rw [if_neg g2]
            exact nm1 (by omega)
          rw [g3, ax_bu_s, sn_let, if_neg r59]
          dsimp only
          rw [if_pos rfl, if_pos rfl, f_X0_readFrom_L13, if_pos rfl, f_X12_readPlan_L17, if_pos rfl]
          unfold pKr pKc
          rw [tp_3, i4, sn_gd, c4, tq_sai, sn_let, tq_look hT54 hsk.2, ax_bu_s, la_sk_s, if_neg rm1, tq_fails, ax_bu_s]
          exact ⟨Z, _, z1, z2.tr pwr_54, .inl ⟨la_sk b n q', _, _, hsk.2, rfl, rfl⟩⟩
/-- reading an afternoon from the tape -/
theorem p_all (hS : lc_Tp b n S) (h44 : ∀ p, p < n → ax_ai T 44 0 p = lr_by (b p)) (h6 : ax_fi T 12 0 6 = nI n) : pfin y n S (rT0 T n) (f_X0_readFrom y S) (f_X12_readPlan T) := by
  have h240 := hS.1
  have f1 : pwc y S (ax_sfi S 0 y 2 0) := pwc_fi
  have hT0 : lr_Tp b n (rT0 T n) 0 0 := rT_T h240 h44 hS.2.2.2
  have eT : f_X12_readPlan T = f_X12_readPlan_L17 pKr ax_F (0 : Int32) (1 : Int32) (tpT (rT0 T n) 0 (Int32.ofInt (-1))) := by
    unfold f_X12_readPlan
    rw [h6, rT_e, sn_bs]
    rfl
  have eS : f_X0_readFrom y S = f_X0_readFrom_L13 pKc ax_F y (1 : Int32) (0 : Int32) (tpS (ax_sfi S 0 y 2 0) 0 (Int32.ofInt (-1))) := by
    unfold f_X0_readFrom f_X10_rewind
    rw [sn_let, sn_let, sn_let, sn_bs]
    rfl
  rw [eT, eS]
  have w := p_L (y := y) (b := b) (n := n) 15 ax_F 0 0 (fun _ => 0) (ax_sfi S 0 y 2 0) (rT0 T n) (pwc_T f1 hS) hT0 ⟨by omega, by rw [sg, if_pos rfl]; rfl, fun i hi => absurd hi (by omega)⟩ (by omega) (by omega) (by show _ < 1000000; omega)
  rw [← sn_0] at w
  exact pfin_tr w f1 pwr.rf
end

/-! QUERIES: order, put together -/
def go6 (rec : Nat → Int32 → Int32 → Int32 → AS → Option (AS)) (a1 a2 a3 x4 : Int32) (S5 : AS) : Option AS := (if x4 = (0 : Int32) then f_X12_goOrder_L116 rec (fun (x12 : Int32) (x13 : Int32) (x14 : Int32) (S21 : AS) => f_X12_goOrder_L151 rec (fun (S77 : AS) => some S77) ax_F x12 x13 x14 (0 : Int32) S21) ax_F a1 a2 a3 (0 : Int32) S5 else ax_let (ax_sfi S5 12 0 42 a2) (fun (S78 : AS) => ax_gd (ax_in (16 : Int32) 204) (ax_let (ax_sfi S78 12 0 43 (ax_ai S78 56 0 (16 : Int32).toNatClampNeg)) (fun (S80 : AS) => ax_let (ax_sfi S80 12 0 44 a1) (fun (S81 : AS) => ax_let (ax_sfi S81 12 0 41 a3) (fun (S82 : AS) => f_X12_goOrder_L116 rec (fun (x12 : Int32) (x13 : Int32) (x14 : Int32) (S87 : AS) => f_X12_goOrder_L151 rec (fun (S92 : AS) => some S92) ax_F x12 x13 x14 (0 : Int32) S87) ax_F a1 a2 a3 (0 : Int32) S82))))))
def go3 (rec : Nat → Int32 → Int32 → Int32 → AS → Option (AS)) (a1 a2 a3 x1 : Int32) (S2 : AS) : Option AS := (if a2 = (ax_fi S2 12 0 42) then ax_gd (ax_in (16 : Int32) 204) ((if (ax_ai S2 56 0 (16 : Int32).toNatClampNeg) < (ax_fi S2 12 0 43) then go6 rec a1 a2 a3 (1 : Int32) S2 else ax_gd (ax_in (16 : Int32) 204) ((if (ax_ai S2 56 0 (16 : Int32).toNatClampNeg) = (ax_fi S2 12 0 43) then (if a1 < (ax_fi S2 12 0 44) then go6 rec a1 a2 a3 (1 : Int32) S2 else (if a1 = (ax_fi S2 12 0 44) then (if (ax_fi S2 12 0 41) ≤ a3 then go6 rec a1 a2 a3 (0 : Int32) S2 else go6 rec a1 a2 a3 (1 : Int32) S2) else go6 rec a1 a2 a3 (0 : Int32) S2)) else go6 rec a1 a2 a3 (0 : Int32) S2)))) else go6 rec a1 a2 a3 x1 S2)
theorem go_e {rec : Nat → Int32 → Int32 → Int32 → AS → Option (AS)} {a1 a2 a3 : Int32} {S : AS} : b_X12_goOrder rec a1 a2 a3 S = (if a2 ≤ (ax_fi S 12 0 42) then go3 rec a1 a2 a3 0 S else go3 rec a1 a2 a3 1 S) := rfl
def goU (T : AS) (p g k : Nat) (a3 : Int32) : AS := ax_sfi (ax_sfi (ax_sfi (ax_sfi T 12 0 42 (nI g)) 12 0 43 (nI k)) 12 0 44 (nI p)) 12 0 41 a3
def goV (S : AS) (p g k r : Nat) : AS := ax_sfi (ax_sfi (ax_sfi (ax_sfi S 8 0 6 (nI r)) 8 0 7 (nI p)) 8 0 9 (nI k)) 8 0 8 (nI g)
def goL (rec : Nat → Int32 → Int32 → Int32 → AS → Option (AS)) (a1 a2 a3 : Int32) (S5 : AS) : Option AS := f_X12_goOrder_L116 rec (fun (x12 : Int32) (x13 : Int32) (x14 : Int32) (S21 : AS) => f_X12_goOrder_L151 rec (fun (S77 : AS) => some S77) ax_F x12 x13 x14 (0 : Int32) S21) ax_F a1 a2 a3 (0 : Int32) S5
def exL (rec : Nat → Int32 → Int32 → Int32 → Int32 → Int32 → AS → Option (AS)) (a1 a2 a3 a4 a5 : Int32) (S : AS) : Option AS := (if a3 < (6 : Int32) then f_X8_extend_L45 rec (fun (S45 : AS) => some S45) ax_F a1 a2 a3 a4 a5 (0 : Int32) S else some S)
section
variable {S T Z Y : AS} {H N N' : Nat → Nat} {W : Option (List la_C)} {M : Nat} {K : Nat → List la_C}
theorem go6_0 {rec : Nat → Int32 → Int32 → Int32 → AS → Option (AS)} {a1 a2 a3 : Int32} : go6 rec a1 a2 a3 0 T = goL rec a1 a2 a3 T := by
  unfold go6
  rw [if_pos rfl]
  rfl
theorem go6_1 {rec : Nat → Int32 → Int32 → Int32 → AS → Option (AS)} {p g k : Nat} {a3 : Int32} (h : ax_ai T 56 0 16 = nI k) : go6 rec (nI p) (nI g) a3 1 T = goL rec (nI p) (nI g) a3 (goU T p g k a3) := by
  have h' : ax_ai (ax_sfi T 12 0 42 (nI g)) 56 0 16 = nI k := h
  unfold go6
  rw [if_neg ne10, sn_let, in_16, sn_gd, cl_16, h', sn_let, sn_let, sn_let]
  rfl
/-- both find it better, or neither does -/
theorem go_bt {bl br bg bc p g k r : Nat} (hb : ob bl br bg bc S T) (hk : ax_ai T 56 0 16 = nI k) (k9 : k ≤ 99) (p6 : p ≤ 6) (g2 : g ≤ 200) (r6 : r < 1000000) (hr : p = 0 → r = 0) : (f_X8_isBetter (nI r) (nI p) (nI k) (nI g) S = some 1 ∧ ∀ rec, b_X12_goOrder rec (nI p) (nI g) (rwv p r) T = goL rec (nI p) (nI g) (rwv p r) (goU T p g k (rwv p r))) ∨ (f_X8_isBetter (nI r) (nI p) (nI k) (nI g) S = some 0 ∧ ∀ rec, b_X12_goOrder rec (nI p) (nI g) (rwv p r) T = goL rec (nI p) (nI g) (rwv p r) T) := by
  obtain ⟨a1, a2, a3, a4, a5, b1, b2, b3, b4, c1, c2, c3, c4⟩ := hb
  have e0 : ∀ rec, go6 rec (nI p) (nI g) (rwv p r) 0 T = goL rec (nI p) (nI g) (rwv p r) T := fun rec => go6_0
  have e1 : ∀ rec, go6 rec (nI p) (nI g) (rwv p r) 1 T = goL rec (nI p) (nI g) (rwv p r) (goU T p g k (rwv p r)) := fun rec => go6_1 hk
  have d1 : (nI g = nI bg) ↔ g = bg := nI_eq (by omega) (by omega)
  have d2 : (nI g ≤ nI bg) ↔ g ≤ bg := nI_leI (by omega) (by omega)
  have d3 : (nI k = nI bc) ↔ k = bc := nI_eq (by omega) (by omega)
  have d4 : (nI bc ≤ nI k) ↔ bc ≤ k := nI_leI (by omega) (by omega)
  have d5 : (nI k < nI bc) ↔ k < bc := nI_ltI (by omega) (by omega)
  have d6 : (nI p = nI bl) ↔ p = bl := nI_eq (by omega) (by omega)
  have d7 : (nI bl ≤ nI p) ↔ bl ≤ p := nI_leI (by omega) (by omega)
  have d8 : (nI p < nI bl) ↔ p < bl := nI_ltI (by omega) (by omega)
  have d9 : (nI br ≤ nI r) ↔ br ≤ r := nI_leI (by omega) (by omega)
  have x0 : ∀ rec, b_X12_goOrder rec (nI p) (nI g) (rwv p r) T = (if nI g ≤ nI bg then go3 rec (nI p) (nI g) (rwv p r) 0 T else go3 rec (nI p) (nI g) (rwv p r) 1 T) := fun rec => by rw [go_e, c2]
  have x3 : ∀ rec x, go3 rec (nI p) (nI g) (rwv p r) x T = (if nI g = nI bg then (if nI k < nI bc then go6 rec (nI p) (nI g) (rwv p r) 1 T else (if nI k = nI bc then (if nI p < nI bl then go6 rec (nI p) (nI g) (rwv p r) 1 T else (if nI p = nI bl then (if rwv bl br ≤ rwv p r then go6 rec (nI p) (nI g) (rwv p r) 0 T else go6 rec (nI p) (nI g) (rwv p r) 1 T) else go6 rec (nI p) (nI g) (rwv p r) 0 T)) else go6 rec (nI p) (nI g) (rwv p r) 0 T)) else go6 rec (nI p) (nI g) (rwv p r) x T) := fun rec x => by
    unfold go3
    rw [c1, c2, c3, c4, in_16, sn_gd, sn_gd, cl_16, hk]
  have xc : f_X8_isBetter (nI r) (nI p) (nI k) (nI g) S = (if nI g = nI bg then (if nI k = nI bc then (if nI p = nI bl then (if nI br ≤ nI r then some (0 : Int32) else some (1 : Int32)) else (if nI bl ≤ nI p then some (0 : Int32) else some (1 : Int32))) else (if nI bc ≤ nI k then some (0 : Int32) else some (1 : Int32))) else (if nI g ≤ nI bg then some (0 : Int32) else some (1 : Int32))) := by
    unfold f_X8_isBetter
    rw [b1, b2, b3, b4]
  rw [xc]
  by_cases q1 : g = bg
  · rw [if_pos (d1.mpr q1)]
    have y : ∀ rec, b_X12_goOrder rec (nI p) (nI g) (rwv p r) T = (if nI k < nI bc then go6 rec (nI p) (nI g) (rwv p r) 1 T else (if nI k = nI bc then (if nI p < nI bl then go6 rec (nI p) (nI g) (rwv p r) 1 T else (if nI p = nI bl then (if rwv bl br ≤ rwv p r then go6 rec (nI p) (nI g) (rwv p r) 0 T else go6 rec (nI p) (nI g) (rwv p r) 1 T) else go6 rec (nI p) (nI g) (rwv p r) 0 T)) else go6 rec (nI p) (nI g) (rwv p r) 0 T)) := fun rec => by
      rw [x0, if_pos (d2.mpr (by omega)), x3, if_pos (d1.mpr q1)]
    by_cases q2 : k = bc
    · rw [if_pos (d3.mpr q2)]
      by_cases q3 : p = bl
      · rw [if_pos (d6.mpr q3)]
        by_cases q4 : br ≤ r
        · refine .inr ⟨if_pos (d9.mpr q4), fun rec => ?_⟩
          have : rwv bl br ≤ rwv p r := by
            unfold rwv
            rw [q3]
            by_cases z : bl = 0
            · rw [if_pos z, if_pos z]; exact Int32.le_refl _
            · rw [if_neg z, if_neg z]; exact d9.mpr q4
          rw [y, if_neg (fun z => absurd (d5.mp z) (by omega)), if_pos (d3.mpr q2), if_neg (fun z => absurd (d8.mp z) (by omega)), if_pos (d6.mpr q3), if_pos this, e0]
        · refine .inl ⟨if_neg (fun z => q4 (d9.mp z)), fun rec => ?_⟩
          have : ¬ (rwv bl br ≤ rwv p r) := by
            unfold rwv
            rw [q3]
            by_cases z : bl = 0
            · have := a5 z; omega
            · rw [if_neg z, if_neg z]; exact fun w => q4 (d9.mp w)
          rw [y, if_neg (fun z => absurd (d5.mp z) (by omega)), if_pos (d3.mpr q2), if_neg (fun z => absurd (d8.mp z) (by omega)), if_pos (d6.mpr q3), if_neg this, e1]
      · rw [if_neg (fun z => q3 (d6.mp z))]
        by_cases q4 : bl ≤ p
        · refine .inr ⟨if_pos (d7.mpr q4), fun rec => ?_⟩
          rw [y, if_neg (fun z => absurd (d5.mp z) (by omega)), if_pos (d3.mpr q2), if_neg (fun z => absurd (d8.mp z) (by omega)), if_neg (fun z => q3 (d6.mp z)), e0]
        · refine .inl ⟨if_neg (fun z => q4 (d7.mp z)), fun rec => ?_⟩
          rw [y, if_neg (fun z => absurd (d5.mp z) (by omega)), if_pos (d3.mpr q2), if_pos (d8.mpr (by omega)), e1]
    · rw [if_neg (fun z => q2 (d3.mp z))]
      by_cases q3 : bc ≤ k
      · refine .inr ⟨if_pos (d4.mpr q3), fun rec => ?_⟩
        rw [y, if_neg (fun z => absurd (d5.mp z) (by omega)), if_neg (fun z => q2 (d3.mp z)), e0]
      · refine .inl ⟨if_neg (fun z => q3 (d4.mp z)), fun rec => ?_⟩
        rw [y, if_pos (d5.mpr (by omega)), e1]
  · rw [if_neg (fun z => q1 (d1.mp z))]
    by_cases q2 : g ≤ bg
    · refine .inr ⟨if_pos (d2.mpr q2), fun rec => ?_⟩
      rw [x0, if_pos (d2.mpr q2), x3, if_neg (fun z => q1 (d1.mp z)), e0]
    · refine .inl ⟨if_neg (fun z => q2 (d2.mp z)), fun rec => ?_⟩
      rw [x0, if_neg (fun z => q2 (d2.mp z)), x3, if_neg (fun z => q1 (d1.mp z)), e1]
theorem goV_ob {p g k r : Nat} (k9 : k ≤ 99) (p6 : p ≤ 6) (g2 : g ≤ 200) (r6 : r < 1000000) (hr : p = 0 → r = 0) : ob p r g k (goV S p g k r) (goU T p g k (rwv p r)) := by
  unfold goV goU
  refine ⟨p6, r6, g2, k9, hr, ?_, ?_, ?_, ?_, ?_, ?_, ?_, ?_⟩
  · rw [sg, if_neg (by omega), sg, if_neg (by omega), sg, if_neg (by omega), sg, if_pos rfl]
  · rw [sg, if_neg (by omega), sg, if_neg (by omega), sg, if_pos rfl]
  · rw [sg, if_pos rfl]
  · rw [sg, if_neg (by omega), sg, if_pos rfl]
  · rw [sg, if_neg (by omega), sg, if_pos rfl]
  · rw [sg, if_neg (by omega), sg, if_neg (by omega), sg, if_neg (by omega), sg, if_pos rfl]
  · rw [sg, if_neg (by omega), sg, if_neg (by omega), sg, if_pos rfl]
  · rw [sg, if_pos rfl]
theorem goU_C {p g k : Nat} {a3 : Int32} (h : jr_C T H M K W) : jr_C (goU T p g k a3) H M K W := by
  have f : ax_fr [(0, 12, 41), (0, 12, 42), (0, 12, 43), (0, 12, 44)] T (goU T p g k a3) := (((ax_fr_sfi (by decide)).tr (ax_fr_sfi (by decide))).tr (ax_fr_sfi (by decide))).tr (ax_fr_sfi (by decide))
  exact jr_C_f f (by decide) h
theorem goV_c {p g k r : Nat} (h : og_c H W N S) : og_c H W N (goV S p g k r) := by
  refine og_c_e h ?_ ?_ rfl rfl rfl
  · unfold goV
    rw [sg, if_neg (by omega), sg, if_neg (by omega), sg, if_neg (by omega), sg, if_neg (by omega)]
  · unfold goV
    rw [sg, if_neg (by omega), sg, if_neg (by omega), sg, if_neg (by omega), sg, if_neg (by omega)]
theorem og_no (ho : jh_ok H) (hN : jn_ok H N') {rec : Nat → Int32 → Int32 → Int32 → AS → Option AS} (hno : ∀ v, v < H 4 → ¬ cn_can H W N' v) {x y z : Int32} : ∀ e n v T, jr_C T H M K W → jr_S (ax_ai T 56 0) N' → v + e = H 4 → e < n → ∃ Y, f_X12_goOrder_L151 rec (fun (S77 : AS) => some S77) n x y z (nI v) T = some Y ∧ jr_C Y H M K W ∧ (∀ j, 41 ≤ j → j ≤ 44 → ax_fi Y 12 0 j = ax_fi T 12 0 j) ∧ ax_ai Y 60 0 = ax_ai T 60 0
  | 0, n + 1, v, T, hC, hS, hv, _ => by
    have e6 : H 4 ≤ 6 := ho.2.2.2.2.1
    rw [f_X12_goOrder_L151, hC.1.2.1, if_pos ((nI_leI (by omega) (by omega)).mpr (by omega))]
    exact ⟨T, rfl, hC, fun _ _ _ => rfl, rfl⟩
  | e + 1, n + 1, v, T, hC, hS, hv, hn => by
    have e6 : H 4 ≤ 6 := ho.2.2.2.2.1
    obtain ⟨q, T1, t1, t2, t3, t4⟩ := jr_can56 ho hN hC hS (nI v)
    have f56 : ax_ai T1 56 0 = ax_ai T 56 0 := t2.2.2.2.2.1 56 0 (by decide)
    have f60 : ax_ai T1 60 0 = ax_ai T 60 0 := t2.2.2.2.2.1 60 0 (by decide)
    have ff : ∀ j, 41 ≤ j → j ≤ 44 → ax_fi T1 12 0 j = ax_fi T 12 0 j := fun j j1 j2 => by
      rcases (by omega : j = 41 ∨ j = 42 ∨ j = 43 ∨ j = 44) with rfl | rfl | rfl | rfl
      all_goals exact t2.1 12 0 _ (by decide)
    have eq : q = 0 := by
      rcases t4 with ⟨⟨w, hw, ew, x⟩, _⟩ | ⟨_, x⟩
      · exact absurd x (hno w hw)
      · exact x
    obtain ⟨Y, y1, y2, y3, y4⟩ := og_no ho hN hno (rec := rec) (x := x) (y := y) (z := z) e n (v + 1) T1 t3 (by rw [f56]; exact hS) (by omega) (by omega)
    refine ⟨Y, ?_, y2, fun j j1 j2 => (y3 j j1 j2).trans (ff j j1 j2), y4.trans f60⟩
    rw [f_X12_goOrder_L151, hC.1.2.1, if_neg (fun z => absurd ((nI_leI (by omega) (by omega)).mp z) (by omega)), t1, ax_bu_s, eq, if_pos rfl, sn_let, nI_1]
    exact y1
theorem og_body (ho : jh_ok H) (hN : jn_ok H N) {m p r g : Nat} (hr0 : p = 0 → r = 0) (IH : p < 6 → ∀ N'' r g S T, og H W M K N (p + 1) N'' r g S T → ∃ Z Y, g_Extend m 0 (nI (jn_bits N'')) (nI r) (nI (p + 1)) (nI (N'' 16)) (nI g) S = some Z ∧ g_Order m 0 (nI (p + 1)) (nI g) (nI r) T = some Y ∧ op H W M K N (p + 1) N'' T Z Y) (h : og H W M K N p N' r g S T) : ∃ Z Y, exL (g_Extend m) (nI (jn_bits N')) (nI r) (nI p) (nI (N' 16)) (nI g) S = some Z ∧ goL (g_Order m) (nI p) (nI g) (rwv p r) T = some Y ∧ op H W M K N p N' T Z Y := by
  obtain ⟨h1, h2, h3, h4, h5, h6, h7, h8, h9⟩ := h
  have e6 : H 4 ≤ 6 := ho.2.2.2.2.1
  have c6 : (nI p < (6 : Int32)) ↔ p < 6 := nI_ltI (b := 6) (by omega) (by omega)
  have w := or_116 (T := T) (rec := g_Order m) (Kr := fun (x12 : Int32) (x13 : Int32) (x14 : Int32) (S21 : AS) => f_X12_goOrder_L151 (g_Order m) (fun (S77 : AS) => some S77) ax_F x12 x13 x14 (0 : Int32) S21) h9 (x := nI g) (y := rwv p r) 24 ax_F 0 (ax_ai T 60 0) (by omega) (by show _ < 1000000; omega)
  rw [← sn_0, rw_e] at w
  unfold exL goL
  rw [w]
  have r60 : ∀ j, ax_ai (rw_st T 60 (fun j => if 24 * p + 0 ≤ j ∧ j < 24 * p + 24 then ax_ai T 56 0 (j - 24 * p) else ax_ai T 60 0 j)) 60 0 j = if 24 * p + 0 ≤ j ∧ j < 24 * p + 24 then ax_ai T 56 0 (j - 24 * p) else ax_ai T 60 0 j := fun j => by rw [rw_g]
  have r56 : ax_ai (rw_st T 60 (fun j => if 24 * p + 0 ≤ j ∧ j < 24 * p + 24 then ax_ai T 56 0 (j - 24 * p) else ax_ai T 60 0 j)) 56 0 = ax_ai T 56 0 := rw_o (by omega)
  have rF : ∀ j, ax_fi (rw_st T 60 (fun j => if 24 * p + 0 ≤ j ∧ j < 24 * p + 24 then ax_ai T 56 0 (j - 24 * p) else ax_ai T 60 0 j)) 12 0 j = ax_fi T 12 0 j := fun j => rfl
  have rC : jr_C (rw_st T 60 (fun j => if 24 * p + 0 ≤ j ∧ j < 24 * p + 24 then ax_ai T 56 0 (j - 24 * p) else ax_ai T 60 0 j)) H M K W := jr_C_f fr_60 (by decide) h4
  generalize rw_st T 60 (fun j => if 24 * p + 0 ≤ j ∧ j < 24 * p + 24 then ax_ai T 56 0 (j - 24 * p) else ax_ai T 60 0 j) = T1 at *
  have lo : ∀ j, j < 24 * p → ax_ai T1 60 0 j = ax_ai T 60 0 j := fun j hj => by rw [r60, if_neg (by omega)]
  by_cases hp : p < 6
  · rw [if_pos (c6.mpr hp)]
    obtain ⟨Z, Y, z1, z2, z3, z4, z5, z6, z7⟩ := og_L ho hN hp hr0 (IH hp) (H 4) ax_F 0 S T1 ⟨h1, h2, h3, rC, by rw [r56]; exact h5, obe_e h6 (fun _ => rfl) (fun j _ _ => rF j), h7, h8, h9⟩ (fun k hk => by
      rw [r60, if_pos (by omega), r56, Nat.add_sub_cancel_left]) (by omega) (by show _ < 1000000; omega)
    rw [← sn_0] at z1 z2
    exact ⟨Z, Y, z1, z2, z3, z4, z5, z6, fun j hj => (z7 j hj).trans (lo j hj)⟩
  · rw [if_neg (fun z => hp (c6.mp z))]
    have hno : ∀ v, v < H 4 → ¬ cn_can H W N' v := fun v hv hc => by
      have h0 := hc.1
      have a0 := (h3.1.1 0 (by omega)).2
      have a1 := (h3.1.1 1 (by omega)).2
      have a2 := (h3.1.1 2 (by omega)).2
      have a3 := (h3.1.1 3 (by omega)).2
      have a4 := (h3.1.1 4 (by omega)).2
      have a5 := (h3.1.1 5 (by omega)).2
      have a6 := h3.2.2.2.2.2
      simp only [Nat.mul_zero, Nat.zero_add, Nat.mul_one] at a0 a1
      have : v = 0 ∨ v = 1 ∨ v = 2 ∨ v = 3 ∨ v = 4 ∨ v = 5 := by omega
      rcases this with rfl | rfl | rfl | rfl | rfl | rfl
      all_goals simp at *
      all_goals omega
    obtain ⟨Y, y1, y2, y3, y4⟩ := og_no (W := W) (M := M) (K := K) ho h3.1 hno (rec := g_Order m) (x := nI p) (y := nI g) (z := rwv p r) (H 4) ax_F 0 T1 rC (by rw [r56]; exact h5) (by omega) (by show _ < 1000000; omega)
    rw [← sn_0] at y1
    exact ⟨S, Y, rfl, y1, h1, h2, y2, obe_e h6 (fun _ => rfl) (fun j j1 j2 => (y3 j j1 j2).trans (rF j)), fun j hj => by rw [y4]; exact lo j hj⟩
theorem og_rec (ho : jh_ok H) (hN : jn_ok H N) : ∀ d m p N' r g S T, p + d = 6 → d < m → og H W M K N p N' r g S T → (p = 0 → r = 0) → ∃ Z Y, g_Extend m 0 (nI (jn_bits N')) (nI r) (nI p) (nI (N' 16)) (nI g) S = some Z ∧ g_Order m 0 (nI p) (nI g) (rwv p r) T = some Y ∧ op H W M K N p N' T Z Y := by
  intro d
  induction d with
  | zero =>
    intro m p N' r g S T hp hm h hr0
    match m, hm with
    | m + 1, _ =>
      obtain ⟨h1, h2, h3, h4, h5, h6, h7, h8, h9⟩ := h
      have h16 : N' 16 ≤ 99 := h3.1.2.2.2.2.1
      have r6 : (10 : Nat) ^ p ≤ 10 ^ 6 := Nat.pow_le_pow_right (by omega) h9
      have e106 : (10 : Nat) ^ 6 = 1000000 := rfl
      obtain ⟨bl, br, bg, bc, hb⟩ := h6
      rw [g_Extend, g_Order, b_X8_extend]
      rcases go_bt (g := g) (r := r) hb (h5 16 (by omega)) h16 h9 (by omega) (by omega) hr0 with ⟨q1, q2⟩ | ⟨q1, q2⟩
      · obtain ⟨Z, Y, z1, z2, z3⟩ := og_body ho hN (m := m) hr0 (fun z => absurd z (by omega)) (S := goV S p g (N' 16) r) (T := goU T p g (N' 16) (rwv p r)) ⟨goV_c h1, h2, h3, goU_C h4, h5, ⟨_, _, _, _, goV_ob h16 h9 (by omega) (by omega) hr0⟩, h7, h8, h9⟩
        rw [q1, sn_bs, if_neg ne10, sn_let, sn_let, sn_let, sn_let, q2]
        exact ⟨Z, Y, z1, z2, z3⟩
      · obtain ⟨Z, Y, z1, z2, z3⟩ := og_body ho hN (m := m) hr0 (fun z => absurd z (by omega)) (S := S) (T := T) ⟨h1, h2, h3, h4, h5, ⟨_, _, _, _, hb⟩, h7, h8, h9⟩
        rw [q1, sn_bs, if_pos rfl, q2]
        exact ⟨Z, Y, z1, z2, z3⟩
  | succ d ih =>
    intro m p N' r g S T hp hm h hr0
    match m, hm with
    | m + 1, hm =>
      have IH : p < 6 → ∀ N'' r g S T, og H W M K N (p + 1) N'' r g S T → ∃ Z Y, g_Extend m 0 (nI (jn_bits N'')) (nI r) (nI (p + 1)) (nI (N'' 16)) (nI g) S = some Z ∧ g_Order m 0 (nI (p + 1)) (nI g) (nI r) T = some Y ∧ op H W M K N (p + 1) N'' T Z Y := fun _ N'' r g S T hh => by
        have := ih m (p + 1) N'' r g S T (by omega) (by omega) hh (fun z => absurd z (by omega))
        have e : rwv (p + 1) r = nI r := if_neg (by omega)
        rw [e] at this
        exact this
      obtain ⟨h1, h2, h3, h4, h5, h6, h7, h8, h9⟩ := h
      have h16 : N' 16 ≤ 99 := h3.1.2.2.2.2.1
      have r6 : (10 : Nat) ^ p ≤ 10 ^ 6 := Nat.pow_le_pow_right (by omega) h9
      have e106 : (10 : Nat) ^ 6 = 1000000 := rfl
      obtain ⟨bl, br, bg, bc, hb⟩ := h6
      rw [g_Extend, g_Order, b_X8_extend]
      rcases go_bt (g := g) (r := r) hb (h5 16 (by omega)) h16 h9 (by omega) (by omega) hr0 with ⟨q1, q2⟩ | ⟨q1, q2⟩
      · obtain ⟨Z, Y, z1, z2, z3⟩ := og_body ho hN (m := m) hr0 IH (S := goV S p g (N' 16) r) (T := goU T p g (N' 16) (rwv p r)) ⟨goV_c h1, h2, h3, goU_C h4, h5, ⟨_, _, _, _, goV_ob h16 h9 (by omega) (by omega) hr0⟩, h7, h8, h9⟩
        rw [q1, sn_bs, if_neg ne10, sn_let, sn_let, sn_let, sn_let, q2]
        exact ⟨Z, Y, z1, z2, z3⟩
      · obtain ⟨Z, Y, z1, z2, z3⟩ := og_body ho hN (m := m) hr0 IH (S := S) (T := T) ⟨h1, h2, h3, h4, h5, ⟨_, _, _, _, hb⟩, h7, h8, h9⟩
        rw [q1, sn_bs, if_pos rfl, q2]
        exact ⟨Z, Y, z1, z2, z3⟩
/-- at the root: the one side has no best yet -/
theorem og_root (ho : jh_ok H) (hN : jn_ok H N) {m : Nat} (hm : 6 ≤ m) (h1 : og_c H W N S) (h2 : osr H N 4 S) (h4 : jr_C T H M K W) (h5 : jr_S (ax_ai T 56 0) N) (e42 : ax_fi T 12 0 42 = Int32.ofInt (-1)) : ∃ Z Y, g_Extend (m + 1) 0 (nI (jn_bits N)) (nI 0) (nI 0) (nI (N 16)) (nI 0) (goV S 0 0 (N 16) 0) = some Z ∧ g_Order (m + 1) 0 (nI 0) (nI 0) (Int32.ofInt (-1)) T = some Y ∧ obe Z Y ∧ jr_C Y H M K W := by
  have h16 : N 16 ≤ 99 := hN.2.2.2.2.1
  have n1 : ¬ (nI 0 ≤ Int32.ofInt (-1)) := by decide
  have n2 : ¬ (nI 0 = Int32.ofInt (-1)) := by decide
  have ob0 : ob 0 0 0 (N 16) (goV S 0 0 (N 16) 0) (goU T 0 0 (N 16) (rwv 0 0)) := goV_ob h16 (by omega) (by omega) (by omega) (fun _ => rfl)
  obtain ⟨Z, Y, z1, z2, z3, z4, z5, z6, z7⟩ := og_body (W := W) (M := M) (K := K) (N := N) (N' := N) ho hN (m := m) (p := 0) (r := 0) (g := 0) (fun _ => rfl) (fun _ N'' r g S T hh => by
    have := og_rec ho hN 5 m 1 N'' r g S T (by omega) (by omega) hh (fun z => absurd z (by omega))
    have e : rwv 1 r = nI r := if_neg (by omega)
    rw [e] at this
    exact this) (S := goV S 0 0 (N 16) 0) (T := goU T 0 0 (N 16) (rwv 0 0)) ⟨goV_c h1, h2, ⟨hN, by omega, rfl, rfl, fun _ _ => rfl, by omega⟩, goU_C h4, h5, ⟨_, _, _, _, ob0⟩, by show 0 < 10 ^ 0; decide, by omega, by omega⟩
  refine ⟨Z, Y, ?_, ?_, z6, z5⟩
  · have bt : f_X8_isBetter (nI 0) (nI 0) (nI (N 16)) (nI 0) (goV S 0 0 (N 16) 0) = some 0 := by
      unfold f_X8_isBetter
      rw [ob0.2.2.2.2.2.1, ob0.2.2.2.2.2.2.1, ob0.2.2.2.2.2.2.2.1, ob0.2.2.2.2.2.2.2.2.1, if_pos rfl, if_pos rfl, if_pos rfl, if_pos (Int32.le_refl _)]
    rw [g_Extend, b_X8_extend, bt, sn_bs, if_pos rfl]
    exact z1
  · rw [g_Order, go_e, e42, if_neg n1]
    unfold go3
    rw [e42, if_neg n2, go6_1 (h5 16 (by omega))]
    exact z2
end

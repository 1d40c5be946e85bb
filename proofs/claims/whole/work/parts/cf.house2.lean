/-! TEXTS: a whole house is read -/
def hwh (lc vc : Nat) (G : Nat → Nat) : Prop := 0 < lc ∧ 0 < vc ∧ ∀ v, v < vc → G (21 + 7 * v) < lc
section
variable {S T Z Y X : AS} {b : Nat → Nat} {n y rt lc vc q : Nat} {G : Nat → Nat} {p φ p' φ' : Int32}
theorem hw_tr (h : hg y rt lc vc G S T) {v : Nat} (hv : v < vc) : f_X4_traitOf y (nI v) 5 (tpS S p φ) = some (nI (G (21 + 7 * v))) := by
  obtain ⟨h1, h2, h3, ⟨c3, c4, c5⟩, _, _, _, gv⟩ := h
  have k5 : ax_fi (tpS S p φ) 4 y 5 = nI vc := (tp_fi (by omega)).trans c5
  have g5 : ax_ai S 29 y (7 * v + 5) = nI (G (16 + 7 * v + 5)) := (gv v hv).1 5 (by omega)
  unfold f_X4_traitOf
  rw [sn_let, if_neg (nI_pos (by omega)), k5, if_neg (fun z => absurd ((nI_leI (by omega) (by omega)).mp z) (by omega)), if_neg (by decide), if_neg (by decide)]
  dsimp only
  have ix : nI v * (7 : Int32) + 5 = nI (7 * v + 5) := by rw [sn_7, sn_5, pk_mul, nI_add, Nat.mul_comm]
  rw [if_neg ne10, ix, sn_in (by omega) (by omega), sn_gd, nI_clamp (n := 7 * v + 5) (by omega), tp_ai, g5, (by omega : 16 + 7 * v + 5 = 21 + 7 * v)]
theorem hw_L (h : hg y rt lc vc G S T) {Kc : Nat → Option Int32} {Kr : Option Int32} : ∀ d m v, v + d = vc → d < m → ((∀ u, v ≤ u → u < vc → G (21 + 7 * u) < lc) ∧ f_X4_isWhole_L2 (tpS S p φ) Kc m y (nI v) = Kc y ∧ f_X12_isWhole_L2 (tpT T p' φ') Kr m (nI v) = Kr) ∨ (¬ (∀ u, v ≤ u → u < vc → G (21 + 7 * u) < lc) ∧ f_X4_isWhole_L2 (tpS S p φ) Kc m y (nI v) = some 0 ∧ f_X12_isWhole_L2 (tpT T p' φ') Kr m (nI v) = some 0)
  | 0, m + 1, v, hd, _ => by
    obtain ⟨h1, h2, h3, ⟨c3, c4, c5⟩, ⟨r31, r28, r29⟩, _, _, gv⟩ := h
    have k5 : ax_fi (tpS S p φ) 4 y 5 = nI vc := (tp_fi (by omega)).trans c5
    have t29 : ax_fi (tpT T p' φ') 12 0 29 = nI vc := (tq_fi (by omega) (by omega)).trans r29
    rw [f_X4_isWhole_L2, f_X12_isWhole_L2, k5, t29, if_pos ((nI_leI (by omega) (by omega)).mpr (by omega)), if_pos ((nI_leI (by omega) (by omega)).mpr (by omega))]
    exact .inl ⟨fun u u1 u2 => absurd u2 (by omega), rfl, rfl⟩
  | d + 1, m + 1, v, hd, hm => by
    have hh := h
    obtain ⟨h1, h2, h3, ⟨c3, c4, c5⟩, ⟨r31, r28, r29⟩, _, _, gv⟩ := h
    have k5 : ax_fi (tpS S p φ) 4 y 5 = nI vc := (tp_fi (by omega)).trans c5
    have k4 : ax_fi (tpS S p φ) 4 y 4 = nI lc := (tp_fi (by omega)).trans c4
    have t29 : ax_fi (tpT T p' φ') 12 0 29 = nI vc := (tq_fi (by omega) (by omega)).trans r29
    have t28 : ax_fi (tpT T p' φ') 12 0 28 = nI lc := (tq_fi (by omega) (by omega)).trans r28
    have g5 : ax_ai T 52 0 (7 * v + 5) = nI (G (16 + 7 * v + 5)) := (gv v (by omega)).2.1 5 (by omega)
    have gb := (gv v (by omega)).2.2 5 (by omega)
    have h25 : hi2 5 = 3 := rfl
    rw [h25, (by omega : 16 + 7 * v + 5 = 21 + 7 * v)] at gb
    have ix : (7 : Int32) * nI v + 5 = nI (7 * v + 5) := by rw [sn_7, sn_5, pk_mul, nI_add]
    have cl : (nI (G (21 + 7 * v)) < nI lc) ↔ G (21 + 7 * v) < lc := nI_ltI (by omega) (by omega)
    rw [f_X4_isWhole_L2, f_X12_isWhole_L2, k5, t29, if_neg (fun z => absurd ((nI_leI (by omega) (by omega)).mp z) (by omega)), if_neg (fun z => absurd ((nI_leI (by omega) (by omega)).mp z) (by omega)), hw_tr hh (by omega), sn_bs, k4, t28, ix, sn_in (by omega) (by omega), sn_gd, nI_clamp (n := 7 * v + 5) (by omega), tq_ai, g5, (by omega : 16 + 7 * v + 5 = 21 + 7 * v)]
    by_cases z : G (21 + 7 * v) < lc
    · rw [if_pos (cl.mpr z), if_pos (cl.mpr z), sn_let, sn_let, nI_1]
      rcases hw_L hh (Kc := Kc) (Kr := Kr) d m (v + 1) (by omega) (by omega) with ⟨w1, w2, w3⟩ | ⟨w1, w2, w3⟩
      · refine .inl ⟨fun u u1 u2 => ?_, w2, w3⟩
        by_cases e : u = v
        · rw [e]; exact z
        · exact w1 u (by omega) u2
      · exact .inr ⟨fun q => w1 (fun u u1 u2 => q u (by omega) u2), w2, w3⟩
    · rw [if_neg (fun q => z (cl.mp q)), if_neg (fun q => z (cl.mp q))]
      exact .inr ⟨fun q => z (q v (Nat.le_refl v) (by omega)), rfl, rfl⟩
theorem hw_w (h : hg y rt lc vc G S T) : (hwh lc vc G ∧ f_X4_isWhole y (tpS S p φ) = some 1 ∧ f_X12_isWhole (tpT T p' φ') = some 1) ∨ (¬ hwh lc vc G ∧ f_X4_isWhole y (tpS S p φ) = some 0 ∧ f_X12_isWhole (tpT T p' φ') = some 0) := by
  have hh := h
  obtain ⟨h1, h2, h3, ⟨c3, c4, c5⟩, ⟨r31, r28, r29⟩, _, _, gv⟩ := h
  have k5 : ax_fi (tpS S p φ) 4 y 5 = nI vc := (tp_fi (by omega)).trans c5
  have k4 : ax_fi (tpS S p φ) 4 y 4 = nI lc := (tp_fi (by omega)).trans c4
  have t29 : ax_fi (tpT T p' φ') 12 0 29 = nI vc := (tq_fi (by omega) (by omega)).trans r29
  have t28 : ax_fi (tpT T p' φ') 12 0 28 = nI lc := (tq_fi (by omega) (by omega)).trans r28
  have z1 : (nI lc ≤ (0 : Int32)) ↔ lc ≤ 0 := nI_leI (b := 0) (by omega) (by omega)
  have z2 : (nI vc ≤ (0 : Int32)) ↔ vc ≤ 0 := nI_leI (b := 0) (by omega) (by omega)
  have w0 := hw_L hh (p := p) (φ := φ) (p' := p') (φ' := φ') (Kc := (fun (x3 : Nat)  => (if (ax_fi (tpS S p φ) 4 x3 4) ≤ (0 : Int32) then some (0 : Int32) else (if (ax_fi (tpS S p φ) 4 x3 5) ≤ (0 : Int32) then some (0 : Int32) else some (1 : Int32))))) (Kr := ((if (ax_fi (tpT T p' φ') 12 0 28) ≤ (0 : Int32) then some (0 : Int32) else (if (ax_fi (tpT T p' φ') 12 0 29) ≤ (0 : Int32) then some (0 : Int32) else some (1 : Int32))))) vc ax_F 0 (by omega) (by show _ < 1000000; omega)
  rw [← sn_0] at w0
  unfold f_X4_isWhole f_X12_isWhole
  rcases w0 with ⟨w1, w2, w3⟩ | ⟨w1, w2, w3⟩
  · rw [w2, w3, k4, k5, t28, t29]
    by_cases a : lc ≤ 0
    · rw [if_pos (z1.mpr a)]
      exact .inr ⟨fun q => absurd q.1 (by omega), rfl, rfl⟩
    · rw [if_neg (fun q => a (z1.mp q))]
      by_cases a2 : vc ≤ 0
      · rw [if_pos (z2.mpr a2)]
        exact .inr ⟨fun q => absurd q.2.1 (by omega), rfl, rfl⟩
      · rw [if_neg (fun q => a2 (z2.mp q))]
        exact .inl ⟨⟨by omega, by omega, fun v hv => w1 v (by omega) hv⟩, rfl, rfl⟩
  · exact .inr ⟨fun q => w1 (fun u _ u2 => q.2.2 u u2), w2, w3⟩
/-- how a house ends: a fault on both sides, or a whole house on both -/
def hfin (y n : Nat) (S T : AS) (x : Option (Int32 × AS)) (z : Option AS) : Prop := ∃ Z Y, hwc y S Z ∧ hwr T Y ∧ ((∃ f p p', f ≤ n ∧ x = some (nI f, tpS Z p (nI f)) ∧ z = some (tpT Y p' (nI f))) ∨ (∃ p p' rt lc vc G, x = some (Int32.ofInt (-1), tpS Z p (Int32.ofInt (-1))) ∧ z = some (tpT Y p' (Int32.ofInt (-1))) ∧ hg y rt lc vc G Z Y ∧ hwh lc vc G))
theorem hfin_tr {S1 T1 : AS} {x : Option (Int32 × AS)} {z : Option AS} (h : hfin y n S1 T1 x z) (hs : hwc y S S1) (ht : hwr T T1) : hfin y n S T x z := by
  obtain ⟨Z, Y, h1, h2, h3⟩ := h
  exact ⟨Z, Y, hs.tr h1, ht.tr h2, h3⟩
def hKc : Nat → AS → Option (Int32 × AS) := fun (x12 : Nat) (S24 : AS) => (f_X10_failed S24).bind (fun (r28 : Int32) => (if r28 = (0 : Int32) then (f_X4_isWhole x12 S24).bind (fun (r36 : Int32) => (if r36 = (0 : Int32) then (f_X10_fail S24).bind (fun (S41 : AS) => some ((ax_fi S41 10 0 3), S41)) else some ((ax_fi S24 10 0 3), S24))) else some ((ax_fi S24 10 0 3), S24)))
def hKr : AS → Option AS := fun (S36 : AS) => (if (ax_fi S36 12 0 11) = (Int32.ofInt (-1)) then ax_bu (f_X12_look S36) (fun (r41 : Int32) (S38 : AS) => (if r41 = (Int32.ofInt (-1)) then (f_X12_isWhole S38).bind (fun (r50 : Int32) => (if r50 = (0 : Int32) then ax_bu (f_X12_fails S38) (fun (_ : Int32) (S52 : AS) => some S52) else some S38)) else ax_bu (f_X12_fails S38) (fun (_ : Int32) (S43 : AS) => some S43))) else some S36)
theorem hKc_f {f : Nat} (hf : f ≤ 240) : hKc y (tpS S p (nI f)) = some (nI f, tpS S p (nI f)) := by
  unfold hKc
  rw [tp_failed1 (m1 hf), sn_bs, if_neg ne10, tp_3]
theorem hKr_f {f : Nat} (hf : f ≤ 240) : hKr (tpT T p (nI f)) = some (tpT T p (nI f)) := by
  unfold hKr
  rw [tq_11, if_neg (m1 hf)]
theorem h_L : ∀ d m q rt lc vc G S T, lc_Tp b n S → lr_Tp b n T 0 0 → hg y rt lc vc G S T → q ≤ n → rt + lc + vc + d = 11 → d + 3 < m → hfin y n S T (f_X4_readFrom_L36 hKc m y 1 (nI (rt + lc + vc)) (tpS S (nI q) (Int32.ofInt (-1)))) (f_X12_readHouse_L55 hKr m 1 (tpT T (nI q) (Int32.ofInt (-1)))) := by
  intro d
  induction d with
  | zero =>
    intro m q rt lc vc G S T hS hT h hq hd hm
    match m, hm with
    | m + 1, hm =>
      have h240 := hS.1
      have c11 : ¬ ((11 : Int32) < nI (rt + lc + vc)) := fun z => absurd ((nI_ltI (a := 11) (b := rt + lc + vc) (by omega) (by omega)).mp z) (by omega)
      obtain ⟨Z, Y, z1, z2, z3⟩ := h_cl hS hT h hq
      rw [f_X4_readFrom_L36, f_X12_readHouse_L55, if_neg ne10, if_neg c11, if_neg ne10, tq_11, if_pos rfl]
      rcases z3 with ⟨f, p, p', e1, e2, e3⟩ | ⟨q', rt', lc', vc', G', e1, e2, e3, e4, e5, e6⟩
      · rw [e2, e3, sn_bs, sn_bs, tp_goD (m1 (by omega)), ax_bu_s, sn_let, sn_let, tq_11, if_neg (m1 (by omega))]
        dsimp only
        match m, hm with
        | m + 1, hm =>
          rw [f_X4_readFrom_L36, if_pos rfl, if_pos rfl, f_X12_readHouse_L55, if_pos rfl, hKc_f (by omega), hKr_f (by omega)]
          exact ⟨Z, Y, z1, z2, .inl ⟨f, _, _, e1, rfl, rfl⟩⟩
      · have := e5.1
        have := e5.2.1
        have := e5.2.2.1
        omega
  | succ d ih =>
    intro m q rt lc vc G S T hS hT h hq hd hm
    match m, hm with
    | m + 1, hm =>
      have h240 := hS.1
      have c11 : ¬ ((11 : Int32) < nI (rt + lc + vc)) := fun z => absurd ((nI_ltI (a := 11) (b := rt + lc + vc) (by omega) (by omega)).mp z) (by omega)
      have ic : nI (rt + lc + vc) + 1 = nI (rt + lc + vc + 1) := nI_1 _
      obtain ⟨Z, Y, z1, z2, z3⟩ := h_cl hS hT h hq
      have hSZ := hwc_T z1 hS
      have hTY := hwr_T z2 hT
      rw [f_X4_readFrom_L36, f_X12_readHouse_L55, if_neg ne10, if_neg c11, if_neg ne10, tq_11, if_pos rfl]
      rcases z3 with ⟨f, p, p', e1, e2, e3⟩ | ⟨q', rt', lc', vc', G', e1, e2, e3, e4, e5, e6⟩
      · rw [e2, e3, sn_bs, sn_bs, tp_goD (m1 (by omega)), ax_bu_s, sn_let, sn_let, tq_11, if_neg (m1 (by omega))]
        dsimp only
        match m, hm with
        | m + 1, hm =>
          rw [f_X4_readFrom_L36, if_pos rfl, if_pos rfl, f_X12_readHouse_L55, if_pos rfl, hKc_f (by omega), hKr_f (by omega)]
          exact ⟨Z, Y, z1, z2, .inl ⟨f, _, _, e1, rfl, rfl⟩⟩
      · rw [e3, e4, sn_bs, sn_bs, sn_let, tq_11, if_pos rfl, tq_look hTY e2, ax_bu_s, ic]
        have hsk := la_sk_n (b := b) e2
        have hle := lc_by_le hSZ (p := q')
        rcases tp_go hSZ e2 with ⟨g1, g2, g3⟩ | ⟨g1, g3⟩ | ⟨g1, g2, g3⟩
        · have r59 : lr_sg (la_by b n q') = 59 := by rw [g1]; decide
          have ik : nI (la_sk b n q') + 1 = nI (la_sk b n q' + 1) := nI_1 _
          rw [g3, ax_bu_s, sn_let, if_pos r59]
          dsimp only
          rw [if_neg ne10, tq_10, ik, tq_s10, sn_let, ← e6]
          exact hfin_tr (ih m (la_sk b n q' + 1) rt' lc' vc' G' Z Y hSZ hTY e5 (by omega) (by omega) (by omega)) z1 z2
        · have r59 : ¬ (lr_sg (la_by b n q') = 59) := by rw [g1]; decide
          rw [g3, ax_bu_s, sn_let, if_neg r59]
          dsimp only
          match m, hm with
          | m + 1, hm =>
            have hby2 : la_by b n (la_sk b n q') = 256 := lc_by_sk.trans g1
            have rm1 : lr_sg (la_by b n (la_sk b n q')) = Int32.ofInt (-1) := by rw [hby2]; decide
            rw [if_pos rfl, f_X4_readFrom_L36, if_pos rfl, f_X12_readHouse_L55, if_pos rfl]
            unfold hKc hKr
            rw [tp_failed0, sn_bs, if_pos rfl, tq_11, if_pos rfl, tq_look hTY hsk.2, ax_bu_s, la_sk_s, if_pos rm1]
            rcases hw_w e5 (p := nI (la_sk b n q')) (φ := Int32.ofInt (-1)) (p' := nI (la_sk b n q')) (φ' := Int32.ofInt (-1)) with ⟨w1, w2, w3⟩ | ⟨w1, w2, w3⟩
            · rw [w2, w3, sn_bs, sn_bs, if_neg ne10, if_neg ne10, tp_3]
              exact ⟨Z, Y, z1, z2, .inr ⟨_, _, rt', lc', vc', G', rfl, rfl, e5, w1⟩⟩
            · rw [w2, w3, sn_bs, sn_bs, if_pos rfl, if_pos rfl, tp_fail, sn_bs, tp_3, tq_fails, ax_bu_s]
              exact ⟨Z, Y, z1, z2, .inl ⟨la_sk b n q', _, _, hsk.2, rfl, rfl⟩⟩
        · have r59 : ¬ (lr_sg (la_by b n q') = 59) := lr_ne 59 hle g1 (by omega)
          rw [g3, ax_bu_s, sn_let, if_neg r59]
          dsimp only
          match m, hm with
          | m + 1, hm =>
            have hby2 : la_by b n (la_sk b n q') = la_by b n q' := lc_by_sk
            have rm1 : ¬ (lr_sg (la_by b n (la_sk b n q')) = Int32.ofInt (-1)) := by
              rw [hby2]
              unfold lr_sg
              rw [if_neg g2]
              exact nm1 (by omega)
            rw [if_pos rfl, f_X4_readFrom_L36, if_pos rfl, f_X12_readHouse_L55, if_pos rfl, hKc_f (by omega)]
            unfold hKr
            rw [tq_11, if_pos rfl, tq_look hTY hsk.2, ax_bu_s, la_sk_s, if_neg rm1, tq_fails, ax_bu_s]
            exact ⟨Z, Y, z1, z2, .inl ⟨la_sk b n q', _, _, hsk.2, rfl, rfl⟩⟩
theorem rh_L30 {Kr : AS → Option AS} : ∀ d m j T, (∀ w, w < j → ax_ai T 48 0 w = nI (us0 w)) → j + d = 3 → d < m → ∃ Y, f_X12_readHouse_L30 Kr m (nI j) (tpT T p φ) = Kr (tpT Y p φ) ∧ itw 48 0 0 3 T Y ∧ ith 48 0 0 3 Y us0
  | 0, m + 1, j, T, h, hj, _ => by
    obtain rfl : j = 3 := by omega
    rw [f_X12_readHouse_L30, if_pos (by decide)]
    exact ⟨T, rfl, itw.rf, fun w hw => by rw [Nat.zero_add]; exact h w hw⟩
  | d + 1, m + 1, j, T, h, hj, hm => by
    have c3 : ((3 : Int32) ≤ nI j) ↔ 3 ≤ j := nI_leI (a := 3) (by omega) (by omega)
    obtain ⟨Y, y1, y2, y3⟩ := rh_L30 (Kr := Kr) d m (j + 1) (ax_sai T 48 0 j (nI (us0 j))) (fun w hw => by
      rw [sga]
      by_cases q : w = j
      · rw [if_pos q, q]
      · rw [if_neg q]; exact h w (by omega)) (by omega) (by omega)
    refine ⟨Y, ?_, (itw.sai (by omega) (by omega)).tr y2, y3⟩
    rw [f_X12_readHouse_L30, if_neg (fun z => absurd (c3.mp z) (by omega)), usf0 (by omega), sn_bs, sn_in (by omega) (by omega), sn_gd, nI_clamp (n := j) (by omega), tq_sai, sn_let, sn_let, nI_1]
    exact y1
def rT0 (T : AS) (n : Nat) : AS := ax_sfi (ax_sfi (ax_sfx T 12 0 5 0) 12 0 8 0) 12 0 9 (nI n)
theorem rT_e : f_X12_starts_44 0 0 (nI n) T = some (tpT (rT0 T n) 0 (Int32.ofInt (-1))) := by
  unfold f_X12_starts_44
  rw [sn_let, sn_let, sn_let, sn_let, sn_let]
  rfl
theorem rT_T (h240 : n ≤ 240) (h44 : ∀ p, p < n → ax_ai T 44 0 p = lr_by (b p)) (hb : ∀ p, p < n → 1 ≤ b p ∧ b p ≤ 255) : lr_Tp b n (rT0 T n) 0 0 := by
  refine ⟨h240, ?_, ?_, ?_, ?_, by omega, fun p hp => ?_, hb⟩
  · unfold rT0
    rw [sg, if_pos rfl]; rfl
  · unfold rT0
    rw [sg, if_neg (by omega), sg, if_pos rfl]; rfl
  · show ax_u3 T.2.2.1 12 0 5 0 12 0 5 = 0
    unfold ax_u3
    exact if_pos ⟨rfl, rfl, rfl⟩
  · show 0 + n ≤ 240
    omega
  · rw [Nat.zero_add]
    exact h44 p hp
/-- reading a house from the tape -/
theorem h_all (hS : lc_Tp b n S) (h44 : ∀ p, p < n → ax_ai T 44 0 p = lr_by (b p)) (h6 : ax_fi T 12 0 6 = nI n) : hfin y n S (rT0 T n) (f_X4_readFrom y S) (f_X12_readHouse T) := by
  have h240 := hS.1
  have f0 : itw 27 y 0 3 (ax_sfi (ax_sfi (ax_sfi S 4 y 3 0) 4 y 4 0) 4 y 5 0) (ax_cpy (ax_sfi (ax_sfi (ax_sfi S 4 y 3 0) 4 y 4 0) 4 y 5 0) 27 y (ax_rd S 66 0) 0 0 3) := cpy_it
  have f1 : hwc y S (ax_cpy (ax_sfi (ax_sfi (ax_sfi S 4 y 3 0) 4 y 4 0) 4 y 5 0) 27 y (ax_rd S 66 0) 0 0 3) := ((hwc_fi.tr hwc_fi).tr hwc_fi).tr (hwc_it f0 (by omega))
  have hT0 : lr_Tp b n (rT0 T n) 0 0 := rT_T h240 h44 hS.2.2.2
  have f2 : hwr (rT0 T n) (ax_sfi (ax_sfi (ax_sfi (rT0 T n) 12 0 28 0) 12 0 29 0) 12 0 31 0) := ((hwr_fi (by omega)).tr (hwr_fi (by omega))).tr (hwr_fi (by omega))
  have hT1 := hwr_T f2 hT0
  have hS1 := hwc_T f1 hS
  have g0 : (!decide ((0 : Int32) < 0) && !decide ((0 : Int32) < 0) && !decide ((3 : Int32) < 0) && decide ((0 : Int32).toNatClampNeg + (3 : Int32).toNatClampNeg ≤ 3) && decide ((0 : Int32).toNatClampNeg + (3 : Int32).toNatClampNeg ≤ 3)) = true := by decide
  have c3 : (3 : Int32).toNatClampNeg = 3 := Eq.trans rfl rfl
  have l1 : ax_ln (ax_sfi (ax_sfi (ax_sfi S 4 y 3 0) 4 y 4 0) 4 y 5 0) 66 0 = 3 := rfl
  have l2 : ax_ln (ax_sfi (ax_sfi (ax_sfi S 4 y 3 0) 4 y 4 0) 4 y 5 0) 27 y = 3 := rfl
  have l3 : ax_rd (ax_sfi (ax_sfi (ax_sfi S 4 y 3 0) 4 y 4 0) 4 y 5 0) 66 0 = ax_rd S 66 0 := rfl
  obtain ⟨Y, y1, y2, y3⟩ := rh_L30 (Kr := fun (S17 : AS) => f_X12_readHouse_L55 hKr ax_F (1 : Int32) S17) (p := 0) (φ := Int32.ofInt (-1)) 3 ax_F 0 (ax_sfi (ax_sfi (ax_sfi (rT0 T n) 12 0 28 0) 12 0 29 0) 12 0 31 0) (fun w hw => absurd hw (by omega)) (by omega) (by show _ < 1000000; omega)
  rw [← sn_0] at y1
  have eT : f_X12_readHouse T = f_X12_readHouse_L55 hKr ax_F 1 (tpT Y 0 (Int32.ofInt (-1))) := by
    rw [← y1]
    unfold f_X12_readHouse
    rw [h6, rT_e, sn_bs, tq_c (by omega) (by omega), sn_let, tq_c (by omega) (by omega), sn_let, tq_c (by omega) (by omega), sn_let]
    rfl
  have eS : f_X4_readFrom y S = f_X4_readFrom_L36 hKc ax_F y 1 0 (tpS (ax_cpy (ax_sfi (ax_sfi (ax_sfi S 4 y 3 0) 4 y 4 0) 4 y 5 0) 27 y (ax_rd S 66 0) 0 0 3) 0 (Int32.ofInt (-1))) := by
    unfold f_X4_readFrom
    rw [sn_let, sn_let, sn_let, l1, l2, g0, sn_gd, l3, cl_r0, c3, sn_let]
    unfold f_X10_rewind
    rw [sn_let, sn_let, sn_bs]
    rfl
  have hY := hwr_it y2 (by omega)
  rw [eT, eS]
  have w := h_L (y := y) (b := b) (n := n) 11 ax_F 0 0 0 0 us0 _ Y hS1 (hwr_T hY hT1) ⟨by omega, by omega, by omega, ⟨?_, ?_, ?_⟩, ⟨?_, ?_, ?_⟩, ⟨?_, y3, fun w hw => us0_b hw, fun _ w hw => rfl⟩, fun l hl => absurd hl (by omega), fun v hv => absurd hv (by omega)⟩ (by omega) (by omega) (by show _ < 1000000; omega)
  · rw [show (0 : Nat) + 0 + 0 = 0 from rfl, ← sn_0] at w
    exact hfin_tr w f1 (f2.tr hY)
  · show ax_fi (ax_sfi (ax_sfi (ax_sfi S 4 y 3 0) 4 y 4 0) 4 y 5 0) 4 y 3 = nI 0
    rw [sg, if_neg (by omega), sg, if_neg (by omega), sg, if_pos rfl]; rfl
  · show ax_fi (ax_sfi (ax_sfi (ax_sfi S 4 y 3 0) 4 y 4 0) 4 y 5 0) 4 y 4 = nI 0
    rw [sg, if_neg (by omega), sg, if_pos rfl]; rfl
  · show ax_fi (ax_sfi (ax_sfi (ax_sfi S 4 y 3 0) 4 y 4 0) 4 y 5 0) 4 y 5 = nI 0
    rw [sg, if_pos rfl]; rfl
  · rw [y2.1, sg, if_pos rfl]; rfl
  · rw [y2.1, sg, if_neg (by omega), sg, if_neg (by omega), sg, if_pos rfl]; rfl
  · rw [y2.1, sg, if_neg (by omega), sg, if_pos rfl]; rfl
  · exact cpy_ith (fun u hu => by
      rcases (by omega : u = 0 ∨ u = 1 ∨ u = 2) with rfl | rfl | rfl
      all_goals rfl)
end

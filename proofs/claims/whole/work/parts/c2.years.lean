/-! years keep the invariant -/
theorem dr_v (x : Int64) : ∃ z, z < 2 ^ 31 ∧ (x.toUInt64 >>> ((33 : Int32).toInt64.toUInt64 &&& Int64.toUInt64 63)).toInt64 = lN z := by
  have e : ((33 : Int32).toInt64.toUInt64 &&& Int64.toUInt64 63) = 33 := by decide
  rw [e]
  refine ⟨(x.toUInt64 >>> 33).toNat, ?_, ?_⟩
  · rw [UInt64.toNat_shiftRight]
    have h := UInt64.toNat_lt x.toUInt64
    have e3 : (33 : UInt64).toNat % 64 = 33 := rfl
    rw [e3, Nat.shiftRight_eq_div_pow]
    omega
  · show _ = Int64.ofNat _
    have : Int64.ofNat (x.toUInt64 >>> 33).toNat = (UInt64.ofNat (x.toUInt64 >>> 33).toNat).toInt64 := rfl
    rw [this, UInt64.ofNat_toNat]
section
variable {S T Z Y X S0 T0 S1 T1 T2 T3 : AS} {o M c cn im hI tn wh n ca hi : Nat} {H N N1 L E Q NI LI tb Lg : Nat → Nat} {W : Option (List la_C)} {K : Nat → List la_C} {P : Nat → Nat → Nat}
theorem dr_c {m : Nat} (h0 : 0 < m) (hm : m < 2 ^ 31) : ∃ v x, v < m ∧ f_X1_draw (nI m) S = some (nI v, ax_sfl S 1 0 1 x) ∧ ∀ T, ax_fl T 12 0 40 = ax_fl S 1 0 1 → f_X12_draw (nI m) T = some (nI v, ax_sfl T 12 0 40 x) := by
  obtain ⟨z, z1, z2⟩ := dr_v (((ax_fl S 1 0 1) * (6364136223846793005 : Int64)) + (1442695040888963407 : Int64))
  have gs : ∀ (U : AS) k j v, ax_fl (ax_sfl U k 0 j v) k 0 j = v := fun U k j v => by
    unfold ax_fl ax_sfl ax_u3
    exact if_pos ⟨rfl, rfl, rfl⟩
  have nz : ax_nzl (nI m).toInt64 = true := by
    unfold ax_nzl
    rw [nI_l hm, decide_eq_false (show ¬ (lN m = 0) from fun q => absurd ((lN_eq (b := 0) hm (by omega)).mp q) (by omega))]
    rfl
  have en : ¬ (nI m ≤ (0 : Int32)) := fun q => absurd ((nI_leI (b := 0) hm (by omega)).mp q) (by omega)
  have er : (lN z - lN z / (nI m).toInt64 * (nI m).toInt64).toInt32 = nI (z % m) := by
    rw [nI_l hm, pk_lRem (by omega) h0 (by omega), lN_i]
  refine ⟨z % m, ((ax_fl S 1 0 1) * (6364136223846793005 : Int64)) + (1442695040888963407 : Int64), Nat.mod_lt _ h0, ?_, fun T hT => ?_⟩
  · unfold f_X1_draw
    rw [sn_let, if_neg en, nz, sn_gd, gs, z2, er]
  · unfold f_X12_draw
    rw [sn_let, nz, sn_gd, gs, hT, z2, er]
def yd (o M c : Nat) (H : Nat → Nat) (W : Option (List la_C)) (K : Nat → List la_C) (N : Nat → Nat) (n ca : Nat) (S0 T0 : AS) (N1 : Nat → Nat) (S T : AS) : Prop := cg0 o M c S0 S ∧ rg0 T0 T ∧ jr_C T H M K W ∧ jn_ok H N1 ∧ jc_S S 0 N1 ∧ jr_S (ax_ai T 55 0) N1 ∧ N1 22 = N 22 ∧ ax_fi S 7 0 1 = nI (ps_n n) ∧ ax_fi S 7 0 2 = nI (min 40 (ca + 1)) ∧ ax_ai S 33 0 = sv_f (ax_ai S0 33 0) N (n * 18) ∧ ax_ai S 23 0 = ax_ai S0 23 0 ∧ ax_fi T 12 0 39 = nI (min 40 (ca + 1)) ∧ ax_ai T 59 0 = rm_f (ax_ai T0 59 0) (ax_ai T0 55 0) ca ∧ (∀ j, 23 ≤ j → ax_ai T 55 0 j = ax_ai T0 55 0 j) ∧ ax_fl S 1 0 1 = ax_fl T 12 0 40
theorem yd_dr {x : Int64} (h : yd o M c H W K N n ca S0 T0 N1 S T) : yd o M c H W K N n ca S0 T0 N1 (ax_sfl S 1 0 1 x) (ax_sfl T 12 0 40 x) := by
  obtain ⟨h1, h2, h3, h4, h5, h6, h7, h8, h9, h10, h11, h12, h13, h14, h15⟩ := h
  have gs : ∀ (U : AS) k j v, ax_fl (ax_sfl U k 0 j v) k 0 j = v := fun U k j v => by
    unfold ax_fl ax_sfl ax_u3
    exact if_pos ⟨rfl, rfl, rfl⟩
  refine ⟨h1, h2, h3, h4, h5, h6, h7, h8, h9, h10, h11, h12, h13, h14, ?_⟩
  rw [gs, gs]
theorem yd_call (hR : jR o H W M K c L E cn Q im NI LI hI tn tb wh S0 T0) (h0 : 0 < H 4) (h : yd o M c H W K N n ca S0 T0 N1 S T) {v : Nat} (hv : v < H 4) : ∃ N2 Z Y, (∀ (Kc : AS → Option AS), ax_bu (f_X6_may 0 (0 : Int32) (nI v) S) (fun (r17 : Int32) (S14 : AS) => (if r17 = (0 : Int32) then Kc S14 else (f_X6_carryOut 0 (0 : Int32) (nI v) S14).bind (fun (S20 : AS) => Kc S20))) = Kc Z) ∧ (∀ (Kr : AS → Option (Int32 × AS)), ax_bu (f_X12_canCall_55x0 (nI v) T) (fun (r32 : Int32) (S29 : AS) => (if r32 = (0 : Int32) then Kr S29 else ax_bu (f_X12_calls_55x0 (nI v) S29) (fun (_ : Int32) (S35 : AS) => Kr S35))) = Kr Y) ∧ yd o M c H W K N n ca S0 T0 N2 Z Y := by
  obtain ⟨h1, h2, h3, h4, h5, h6, h7, h8, h9, h10, h11, h12, h13, h14, h15⟩ := h
  have ho := hR.1
  have h6' : H 4 ≤ 6 := ho.2.2.2.2.1
  have hRS := jR_g h1 h2 hR
  obtain ⟨r, Z, z1, z2, z3⟩ := jc_may ho h4 ⟨hRS.2.1, jz_W hRS.2.2.1⟩ h5 h0 0 (by omega) (nI v)
  obtain ⟨r', Y, y1, y2, y3, y4⟩ := jr_can55 ho h4 h3 h6 (nI v)
  rw [← sn_0] at z1
  have gZ := cg_scr (o := o) (M := M) (c := c) (jc_sc2_of z2)
  have gY := rg_q (jr_q_of y2)
  have fZ : ax_fl Z 1 0 1 = ax_fl S 1 0 1 := z2.2.1 1 0 1 (by decide)
  have fY : ax_fl Y 12 0 40 = ax_fl T 12 0 40 := y2.2.1 12 0 40 (by decide)
  have yZ : yd o M c H W K N n ca S0 T0 N1 Z Y := ⟨h1.tr gZ.1, h2.tr gY.1, y3, h4, jc_S_0 gZ.2 h5, by rw [gY.2.2.1]; exact h6, h7, by rw [gZ.2.2.1]; exact h8, by rw [gZ.2.2.1]; exact h9, by rw [gZ.2.2.2.1]; exact h10, by rw [gZ.2.2.2.2.2.2]; exact h11, by rw [gY.2.1]; exact h12, by rw [gY.2.2.2]; exact h13, by rw [gY.2.2.1]; exact h14, by rw [fZ, fY]; exact h15⟩
  by_cases hm : cn_may H W N1 0 (nI v)
  · have er : r = 1 := by
      rcases z3 with ⟨_, e⟩ | ⟨e, _⟩
      · exact e
      · exact absurd hm e
    have er' : r' = 1 := by
      rcases y4 with ⟨_, e⟩ | ⟨e, _⟩
      · exact e
      · exact absurd (cm0 hm) e
    obtain ⟨k1, k2, k3, k4, k5, k6, k7, k8, k9, k10, k11, k12, k13, k14, k15⟩ := yZ
    have hRZ := jR_g k1 k2 hR
    obtain ⟨Z', a1, a2, a3⟩ := jc_do ho k4 ⟨hRZ.2.1, jz_W hRZ.2.2.1⟩ k5 hm
    obtain ⟨Y', b1, b2, b3, b4, b5⟩ := jr_calls55 ho k4 k3 k6 hv
    rw [← sn_0] at a1
    have g4 := cg_st0 (o := o) (M := M) (c := c) a3
    have g5 := rg_st55 b4
    have ed : cn_do H W N1 0 (nI v).toNatClampNeg = cn_call H W N1 v := by
      rw [nI_clamp (by omega)]
      unfold cn_do
      rw [if_pos rfl]
    rw [ed] at a2
    refine ⟨cn_call H W N1 v, Z', Y', ?_, ?_, k1.tr g4, k2.tr g5, b5, ?_, a2, b2, ?_, ?_, ?_, ?_, ?_, ?_, ?_, ?_, ?_⟩
    · intro Kc
      rw [z1, ax_bu_s, er, if_neg ne10, a1, sn_bs]
    · intro Kr
      rw [y1, ax_bu_s, er', if_neg ne10, b1, ax_bu_s]
    · have := cn_ok ho k4 hm
      rw [ed] at this
      exact this
    · rw [cn_call_k ho hv (.inr (.inr rfl))]; exact k7
    · rw [a3.1 7 0 1 (by omega) (by omega)]; exact k8
    · rw [a3.1 7 0 2 (by omega) (by omega)]; exact k9
    · rw [a3.2.2.2.2.1 33 0 (by omega) (by omega) (by omega)]; exact k10
    · rw [a3.2.2.2.2.1 23 0 (by omega) (by omega) (by omega)]; exact k11
    · rw [b4.1 12 0 39 (by omega)]; exact k12
    · rw [b4.2.2.2.2.1 59 0 (by omega) (by omega) (by omega)]; exact k13
    · intro j hj
      rw [b3 j hj]
      exact k14 j hj
    · rw [a3.2.1, b4.2.1]; exact k15
  · have er : r = 0 := by
      rcases z3 with ⟨e, _⟩ | ⟨_, e⟩
      · exact absurd e hm
      · exact e
    have er' : r' = 0 := by
      rcases y4 with ⟨e, _⟩ | ⟨_, e⟩
      · exact absurd (.inl ⟨rfl, e⟩) hm
      · exact e
    refine ⟨N1, Z, Y, ?_, ?_, yZ⟩
    · intro Kc
      rw [z1, ax_bu_s, er, if_pos rfl]
    · intro Kr
      rw [y1, ax_bu_s, er', if_pos rfl]
theorem yd_H (hR : jR o H W M K c L E cn Q im NI LI hI tn tb wh S0 T0) (h : yd o M c H W K N n ca S0 T0 N1 S T) : ax_fi S 4 (ax_fx S 11 0 14) 5 = nI (H 4) ∧ ax_fi T 12 0 27 = nI (H 4) ∧ ax_fi S 1 0 2 = nI wh ∧ ax_fi T 12 0 35 = nI wh := by
  have hRS := jR_g h.1 h.2.1 hR
  refine ⟨?_, h.2.2.1.1.2.1, hRS.2.2.2.2.2.2.2.2.1, hRS.2.2.2.2.2.2.2.2.2⟩
  rw [hRS.2.1.2.1]
  exact hRS.2.1.2.2.2.2.2.1
theorem y_L3 (hR : jR o H W M K c L E cn Q im NI LI hI tn tb wh S0 T0) (h0 : 0 < H 4) : ∀ d m p N1 S T, yd o M c H W K N n ca S0 T0 N1 S T → p + d = 3 → d < m → ∃ N2 Z Y, (∀ (Kc : AS → Option AS), f_X11_liveOneDay_L13 Kc m (nI p) S = Kc Z) ∧ (∀ (Kr : Int32 → Int32 → AS → Option (Int32 × AS)) x y, f_X12_years_L62 Kr m x y (nI p) T = Kr x y Y) ∧ yd o M c H W K N n ca S0 T0 N2 Z Y
  | 0, m + 1, p, N1, S, T, h, hp, _ => by
    obtain rfl : p = 3 := by omega
    refine ⟨N1, S, T, fun Kc => ?_, fun Kr x y => ?_, h⟩
    · rw [f_X11_liveOneDay_L13, if_pos (by decide)]
    · rw [f_X12_years_L62, if_pos (by decide)]
  | d + 1, m + 1, p, N1, S, T, h, hp, hm => by
    have h6 : H 4 ≤ 6 := hR.1.2.2.2.2.1
    have c3 : ((3 : Int32) ≤ nI p) ↔ 3 ≤ p := nI_leI (a := 3) (by omega) (by omega)
    obtain ⟨v, u, v1, v2, v3⟩ := dr_c (S := S) h0 (by omega)
    have hH := yd_H hR h
    have v4 := v3 T h.2.2.2.2.2.2.2.2.2.2.2.2.2.2.symm
    have hd := yd_dr (x := u) h
    obtain ⟨N2, Z, Y, e1, e2, e3⟩ := yd_call hR h0 hd v1
    obtain ⟨N3, Z', Y', g1, g2, g3⟩ := y_L3 hR h0 d m (p + 1) N2 Z Y e3 (by omega) (by omega)
    refine ⟨N3, Z', Y', fun Kc => ?_, fun Kr x y => ?_, g3⟩
    · rw [f_X11_liveOneDay_L13, if_neg (fun z => absurd (c3.mp z) (by omega)), hH.1, v2, ax_bu_s]
      refine (e1 (fun S14 => ax_let (nI p + (1 : Int32)) (fun (v19 : Int32) => f_X11_liveOneDay_L13 Kc m v19 S14))).trans ?_
      rw [sn_let, nI_1, g1]
    · rw [f_X12_years_L62, if_neg (fun z => absurd (c3.mp z) (by omega)), hH.2.1, v4, ax_bu_s]
      refine (e2 (fun S29 => ax_let (nI p + (1 : Int32)) (fun (v34 : Int32) => f_X12_years_L62 Kr m x y v34 S29))).trans ?_
      rw [sn_let, nI_1, g2]
theorem yd_ttl (ho : jh_ok H) (h : yd o M c H W K N n ca S0 T0 N1 S T) {v t : Nat} (hv : v < H 4) (ht : t ≤ 3) : yd o M c H W K N n ca S0 T0 (fun j => if j = 2 * v then t else N1 j) (ax_sai S 39 0 v (nI t)) (ax_sai T 55 0 (2 * v) (nI t)) := by
  obtain ⟨h1, h2, h3, h4, h5, h6, h7, h8, h9, h10, h11, h12, h13, h14, h15⟩ := h
  have h6' : H 4 ≤ 6 := ho.2.2.2.2.1
  have st : jc_st S (ax_sai S 39 0 v (nI t)) 0 := jc_st.ai (.inr rfl)
  have eo : ∀ w, w < 6 → (fun j => if j = 2 * v then t else N1 j) (2 * w + 1) = N1 (2 * w + 1) := fun w _ => if_neg (by omega)
  refine ⟨h1.tr (cg_st0 st), h2.tr (rg_st55 jr_st.ai), jr_C_row (.inl rfl) h3, ?_, ?_, ?_, ?_, h8, h9, ?_, ?_, h12, ?_, ?_, h15⟩
  · obtain ⟨j1, j2, j3, j4, j5, j6, j7, j8, j9, j10, j11⟩ := h4
    have e : ∀ j, j ≠ 2 * v → (fun j => if j = 2 * v then t else N1 j) j = N1 j := fun j hj => if_neg hj
    refine ⟨fun w hw => ⟨?_, ?_⟩, fun w hw hw2 => ⟨?_, ?_⟩, fun l hl => ?_, fun l hl hl2 => ?_, ?_, ?_, ?_, ?_, ?_, ?_, ?_⟩
    · show (if 2 * w = 2 * v then t else N1 (2 * w)) ≤ 3
      by_cases q : 2 * w = 2 * v
      · rw [if_pos q]; exact ht
      · rw [if_neg q]; exact (j1 w hw).1
    · rw [e _ (by omega)]; exact (j1 w hw).2
    · rw [e _ (by omega)]; exact (j2 w hw hw2).1
    · rw [e _ (by omega)]; exact (j2 w hw hw2).2
    · rw [e _ (by omega)]; exact j3 l hl
    · rw [e _ (by omega)]; exact j4 l hl hl2
    · rw [e _ (by omega)]; exact j5
    · rw [e _ (by omega), e _ (by omega), e _ (by omega), e _ (by omega), e _ (by omega), e _ (by omega), e _ (by omega)]; exact j6
    · rw [e _ (by omega)]; exact j7
    · rw [e _ (by omega)]; exact j8
    · rw [e _ (by omega), e _ (by omega), e _ (by omega), e _ (by omega), e _ (by omega), e _ (by omega), e _ (by omega)]; exact j9
    · rw [e _ (by omega)]; exact j10
    · rw [e _ (by omega)]; exact j11
  · obtain ⟨g0, g1, g2, g3, g4, g5, g6, g7, g8, g9⟩ := h5
    have e : ∀ j, j ≠ 2 * v → (fun j => if j = 2 * v then t else N1 j) j = N1 j := fun j hj => if_neg hj
    refine ⟨?_, ?_, ?_, ?_, ?_, ?_, ?_, ?_, fun l hl => ?_, fun w hw => ?_⟩
    · rw [e _ (by omega)]; exact g0
    · rw [jn_bits_c (M := fun j => if j = 2 * v then t else N1 j) eo]; exact g1
    · rw [e _ (by omega)]; exact g2
    · rw [e _ (by omega)]; exact g3
    · rw [e _ (by omega)]; exact g4
    · rw [e _ (by omega)]; exact g5
    · rw [e _ (by omega)]; exact g6
    · rw [e _ (by omega)]; exact g7
    · rw [sgo (by omega), e _ (by omega)]; exact g8 l hl
    · rw [sga]
      show _ = nI (if 2 * w = 2 * v then t else N1 (2 * w))
      by_cases q : w = v
      · rw [if_pos q, if_pos (by omega)]
      · rw [if_neg q, if_neg (by omega)]; exact g9 w hw
  · intro j hj
    rw [sga]
    show _ = nI (if j = 2 * v then t else N1 j)
    by_cases q : j = 2 * v
    · rw [if_pos q, if_pos q]
    · rw [if_neg q, if_neg q]; exact h6 j hj
  · show (if 22 = 2 * v then t else N1 22) = N 22
    rw [if_neg (by omega)]; exact h7
  · rw [sgo (by omega)]; exact h10
  · rw [sgo (by omega)]; exact h11
  · rw [sgo (by omega)]; exact h13
  · intro j hj
    rw [sga, if_neg (by omega)]
    exact h14 j hj
/-- the day's end -/
theorem yd_fin (hR : jR o H W M K c L E cn Q im NI LI hI tn tb wh S0 T0) (hA : jA H N n ca P Lg hi S0 T0) (h0 : 0 < H 4) (h9' : N 22 < 999) (h : yd o M c H W K N n ca S0 T0 N1 S T) : ∃ Z Y n' ca' P' Lg' hi', (f_X2_write 0 0 S).bind (fun (S31 : AS) => (f_X6_carryOut 0 (4 : Int32) (0 : Int32) S31).bind (fun (S34 : AS) => some S34)) = some Z ∧ f_X12_goDay_55x0 T = some Y ∧ jR o H W M K c L E cn Q im NI LI hI tn tb wh Z Y ∧ jr_C Y H M K W ∧ jA H (cn_day N1) n' ca' P' Lg' hi' Z Y ∧ cn_day N1 22 = N 22 + 1 ∧ ax_fl Z 1 0 1 = ax_fl Y 12 0 40 := by
  obtain ⟨h1, h2, h3, h4, h5, h6, h7, h8, h9, h10, h11, h12, h13, h14, h15⟩ := h
  obtain ⟨a1, a2, a3, a4, a5, a6, a7⟩ := hA
  have ho := hR.1
  have hlr : jl_r (ax_ai T 55 0) (N1 22) Lg := by rw [h7]; exact jl_r_23 h14 a6
  have s3 : jc_S (lg_S S 0 N1) 0 N1 := by
    obtain ⟨y0, y1, y2, y3, y4, y5, y6, y7, y8, y9⟩ := h5
    exact ⟨y0, y1, y2, y3, y4, y5, y6, y7, y8, y9⟩
  have ed : cn_do H W N1 4 0 = cn_day N1 := by
    unfold cn_do
    rw [if_neg (by omega), if_neg (by omega), if_neg (by omega), if_neg (by omega), if_pos rfl]
  have e22 : cn_day N1 22 = N 22 + 1 := by
    unfold cn_day
    rw [if_neg (by omega), if_neg (by omega), if_neg (by omega), if_neg (by omega), if_pos rfl, h7]
  obtain ⟨V, v1, v2, v3⟩ := jc_do4 (H := H) (W := W) (x := 0) (v := 0) s3 h4
  obtain ⟨Y, x1, nx, x3, x4⟩ := jr_day55 (W := W) (M := M) (K := K) (v := 0) h3.1 ho h4 (g := min 60 (N1 22)) (by omega) h6 hlr.1
  rw [← sn_4] at v1
  rw [ed] at v2
  have gV : cg0 o M c S0 V := (h1.tr cg_lg).tr (cg_st0 v3)
  have gY : rg0 T0 Y := h2.tr (rg_st55 x3)
  have l23 : ax_ai V 23 0 = ax_ai (lg_S S 0 N1) 23 0 := v3.2.2.2.2.1 23 0 (by omega) (by omega) (by omega)
  have l33 : ax_ai V 33 0 = ax_ai S 33 0 := (v3.2.2.2.2.1 33 0 (by omega) (by omega) (by omega)).trans (lg_S_o (by omega))
  have l7 : ∀ j, ax_fi V 7 0 j = ax_fi S 7 0 j := fun j => v3.1 7 0 j (by omega) (by omega)
  have jp1 := jpa_push (S' := V) (T' := Y) (N := N) a4 ((l7 1).trans h8) ((l7 2).trans h9) (l33.trans h10) ((x3.1 12 0 39 (by omega)).trans h12) ((x3.2.2.2.2.1 59 0 (by omega) (by omega) (by omega)).trans h13) a3 a6
  have jd0 := jd_push (N' := N) a7 a1 h0 a4.2.1 (.inl ⟨rfl, rfl⟩)
  have jd1 := jd_push (N' := cn_day N1) a7 a1 h0 a4.2.1 (.inr ⟨e22, rfl⟩)
  have w0 : jl_w S 0 (N1 22) hi Lg := fun d d1 d2 w hw => by
    rw [h11]
    exact a5 d (by omega) d2 w hw
  have nx1 := nx.1
  rw [ed] at nx1
  refine ⟨V, Y, _, _, _, lgw Lg N1, max hi (N 22 + 1), ?_, x1, jR_g gV gY hR, x4 h3, ⟨cn_ok4 h4 (by omega), v2, nx1, jpa_w (N := N1) jp1 (fun a ha => by rw [h7]; exact (jd0.2.2.1 a ha).2.1), ?_, ?_, jd1⟩, e22, ?_⟩
  · rw [lg_write h4.2.2.2.2.2.2.2.2.2.2 h5, sn_bs, v1, sn_bs]
  · rw [e22, ← h7]
    intro d d1 d2 w hw
    rw [l23]
    exact lg_keep w0 d d1 d2 w hw
  · rw [e22, ← h7, nx.2.2 rfl (min 60 (N1 22)) (by omega) hlr.1]
    exact gd_keep hlr
  · rw [v3.2.1, x3.2.1]
    exact h15
theorem y_day (hR : jR o H W M K c L E cn Q im NI LI hI tn tb wh S T) (hC : jr_C T H M K W) (hA : jA H N n ca P Lg hi S T) (h0 : 0 < H 4) (h9 : N 22 < 999) (hx : ax_fl S 1 0 1 = ax_fl T 12 0 40) : ∃ Z Y N' n' ca' P' Lg' hi', f_X11_liveOneDay S = some Z ∧ (∀ Kr m (x : Int32) p, ¬ (x ≤ nI p) → f_X12_years_L49 Kr (m + 1) x (nI p) T = f_X12_years_L49 Kr m x (nI (p + 1)) Y) ∧ jR o H W M K c L E cn Q im NI LI hI tn tb wh Z Y ∧ jr_C Y H M K W ∧ jA H N' n' ca' P' Lg' hi' Z Y ∧ N' 22 = N 22 + 1 ∧ ax_fl Z 1 0 1 = ax_fl Y 12 0 40 := by
  have h6 : H 4 ≤ 6 := hR.1.2.2.2.2.1
  have er := jc_rem hA.2.2.2.1.1 hA.2.2.2.1.2.1 hA.2.2.2.1.2.2.1 hA.2.2.2.1.2.2.2.1 hA.2.1
  obtain ⟨T3, t1, t2, t3, t4, t5, t6⟩ := rem_r hC hA.2.2.2.1.2.1 hA.2.2.2.1.2.2.2.2.1
  have f3 := fr_X12_remember t1
  have y0 : yd o M c H W K N n ca S T N (rm_S S N n ca) T3 := by
    refine ⟨cg_rm, t6, t5, hA.1, ?_, by rw [t4]; exact hA.2.2.1, rfl, ?_, ?_, rw_g, rfl, t2, t3, fun j _ => by rw [t4], ?_⟩
    · obtain ⟨y0, y1, y2, y3, y4, y5, y6, y7, y8, y9⟩ := hA.2.1
      exact ⟨y0, y1, y2, y3, y4, y5, y6, y7, y8, y9⟩
    · unfold rm_S
      rw [sg, if_neg (by omega), sg, if_pos rfl]
      rfl
    · unfold rm_S
      rw [sg, if_pos rfl]
    · rw [f3.2.1 12 0 40 (by decide)]
      exact hx
  unfold f_X11_liveOneDay
  rw [er, sn_bs]
  generalize rm_S S N n ca = U at *
  obtain ⟨N1, S1, T1, b1, b2, b3⟩ := y_L3 hR h0 3 ax_F 0 N U T3 y0 (by omega) (by show _ < 1000000; omega)
  rw [← sn_0] at b1 b2
  obtain ⟨v, u, v1, v2, v3⟩ := dr_c (S := S1) (m := 10) (by omega) (by omega)
  rw [← sn_10] at v2 v3
  have v4 := v3 T1 b3.2.2.2.2.2.2.2.2.2.2.2.2.2.2.symm
  have c1 := yd_dr (x := u) b3
  have hH := yd_H hR c1
  rw [b1, v2, ax_bu_s, sn_let, hH.2.2.1]
  by_cases q : nI wh ≤ nI v
  · obtain ⟨Z, Y, n', ca', P', Lg', hi', z1, z2, z3, z4, z5, z6, z7⟩ := yd_fin hR hA h0 h9 c1
    refine ⟨Z, Y, _, n', ca', P', Lg', hi', ?_, fun Kr m x p hxp => ?_, z3, z4, z5, z6, z7⟩
    · rw [if_pos q]
      exact z1
    · rw [f_X12_years_L49, if_neg hxp, t1, sn_bs, b2, v4, ax_bu_s, hH.2.2.2, if_pos q, z2, sn_bs, sn_let, nI_1]
  · obtain ⟨v', u', w1, w2, w3⟩ := dr_c (S := ax_sfl S1 1 0 1 u) h0 (by omega)
    have w4 := w3 _ c1.2.2.2.2.2.2.2.2.2.2.2.2.2.2.symm
    have c2 := yd_dr (x := u') c1
    obtain ⟨t', u2, k1, k2, k3⟩ := dr_c (S := ax_sfl (ax_sfl S1 1 0 1 u) 1 0 1 u') (m := 4) (by omega) (by omega)
    rw [← sn_4] at k2 k3
    have k4 := k3 _ c2.2.2.2.2.2.2.2.2.2.2.2.2.2.2.symm
    have c3 := yd_dr (x := u2) c2
    have c4 := yd_ttl hR.1 c3 w1 (t := t') (by omega)
    obtain ⟨Z, Y, n', ca', P', Lg', hi', z1, z2, z3, z4, z5, z6, z7⟩ := yd_fin hR hA h0 h9 c4
    refine ⟨Z, Y, _, n', ca', P', Lg', hi', ?_, fun Kr m x p hxp => ?_, z3, z4, z5, z6, z7⟩
    · rw [if_neg q, hH.1, w2, ax_bu_s, k2, ax_bu_s, jc_setT (by omega), sn_bs]
      exact z1
    · rw [f_X12_years_L49, if_neg hxp, t1, sn_bs, b2, v4, ax_bu_s, hH.2.2.2, if_neg q, hH.2.1, w4, ax_bu_s, k4, ax_bu_s, ix_e, sn_in (by omega) (by omega), sn_gd, nI_clamp (n := 2 * v') (by omega), sn_let, z2, sn_bs, sn_let, nI_1]
theorem y_L (h0 : 0 < H 4) : ∀ d m p a N n ca P Lg hi S T, jR o H W M K c L E cn Q im NI LI hI tn tb wh S T → jr_C T H M K W → jA H N n ca P Lg hi S T → ax_fl S 1 0 1 = ax_fl T 12 0 40 → p + d = a → d < m → a ≤ 30 → N 22 + d ≤ 999 → jX (f_X11_years_L46 (fun (S20 : AS) => some ((ax_fi S20 9 0 7), S20)) m (nI a) (nI p) S) (f_X12_years_L49 (fun (S64 : AS) => ax_gd (ax_in (22 : Int32) 204) (some ((ax_ai S64 55 0 (22 : Int32).toNatClampNeg), S64))) m (nI a) (nI p) T)
  | 0, m + 1, p, a, N, n, ca, P, Lg, hi, S, T, hR, hC, hA, hx, hp, _, _, _ => by
    have l : nI a ≤ nI p := (nI_leI (by omega) (by omega)).mpr (by omega)
    rw [f_X11_years_L46, f_X12_years_L49, if_pos l, if_pos l, hA.2.1.2.2.2.2.2.2.2.1, in_22, sn_gd, cl_22, hA.2.2.1 22 (by omega)]
    exact ⟨_, S, T, rfl, rfl, jI_mk hR hC hA⟩
  | d + 1, m + 1, p, a, N, n, ca, P, Lg, hi, S, T, hR, hC, hA, hx, hp, hm, ha, hd => by
    have l : ¬ (nI a ≤ nI p) := fun z => absurd ((nI_leI (by omega) (by omega)).mp z) (by omega)
    obtain ⟨Z, Y, N', n', ca', P', Lg', hi', z1, z2, z3, z4, z5, z6, z7⟩ := y_day hR hC hA h0 (by omega) hx
    rw [f_X11_years_L46, if_neg l, z1, sn_bs, sn_let, nI_1, z2 _ m _ _ l]
    exact y_L h0 d m (p + 1) a N' n' ca' P' Lg' hi' Z Y z3 z4 z5 z7 (by omega) (by omega) ha (by omega)
theorem i_30 : (30 : Int64).toInt = ((30 : Nat) : Int) := rfl
theorem x_years (h : jI S T) (a : Int32) (b : Int64) : jX (f_X11_years a b S) (f_X12_years a b T) := by
  obtain ⟨o, H, N, W, M, K, c, L, E, cn, Q, im, NI, LI, hI, tn, tb, wh, n, ca, P, Lg, hi, hR, hC, hA⟩ := h
  have hq0 := jI_q hR hC hA
  have hq := jq_thr (v := 0) hq0
  have no := jr_no0 hq
  have q2 : ax_fr jr_q T (ax_sfi T 12 0 0 0) := jr_thr
  have hR1 := jR_g cg0.rf (rg_q q2).1 hR
  have hA1 := jA_g cg1.rf (rg_q q2).2 hA
  have y3 := hq.2.2.2.2.1
  have h22 : N 22 ≤ 999 := hA.1.2.2.2.2.2.2.2.2.2.2
  have c1 : (a < 1) ↔ a.toInt < ((1 : Nat) : Int) := lt_i rfl
  have c30 : ((30 : Int32) < a) ↔ ((30 : Nat) : Int) < a.toInt := by rw [Int32.lt_iff_toInt_lt]; rfl
  unfold f_X11_years f_X12_years
  rw [sn_let, jc_noH hq0, sn_bs]
  generalize ax_sfi T 12 0 0 0 = Y at *
  by_cases h0 : H 4 = 0
  · rw [if_pos h0, if_neg ne10, if_pos (no.mpr h0)]
    exact act_no hR hA ax_fr.rf q2 y3
  · rw [if_neg h0, if_pos rfl, if_neg (fun z => h0 (no.mp z))]
    rcases rg i_1 i_30 a with ⟨m, m1, m2, rfl, q⟩ | ⟨m1, q⟩
    · rw [nIi (by omega)] at c1 c30
      have c9 : (nI (N 22 + m) ≤ (999 : Int32)) ↔ N 22 + m ≤ 999 := nI_leI (b := 999) (by omega) (by omega)
      rw [q, sn_bs, if_neg ne10, if_neg (fun z => absurd (c1.mp z) (by omega)), if_neg (fun z => absurd (c30.mp z) (by omega)), in_22, sn_gd, cl_22, hA.2.1.2.2.2.2.2.2.2.1, hA1.2.2.1 22 (by omega), nI_add]
      by_cases q9 : N 22 + m ≤ 999
      · rw [if_pos (c9.mpr q9), if_pos (c9.mpr q9), sn_let]
        unfold f_X1_startFrom
        rw [sn_let, sn_bs]
        have gs : ∀ (U : AS) k j v, ax_fl (ax_sfl U k 0 j v) k 0 j = v := fun U k j v => by
          unfold ax_fl ax_sfl ax_u3
          exact if_pos ⟨rfl, rfl, rfl⟩
        have w := y_L (by omega) m ax_F 0 m N n ca P Lg hi (ax_sfl S 1 0 1 b) (ax_sfl Y 12 0 40 b) hR1 y3 hA1 (by rw [gs, gs]) (by omega) (by show _ < 1000000; omega) m2 q9
        rw [← sn_0] at w
        exact w
      · rw [if_neg (fun z => q9 (c9.mp z)), if_neg (fun z => q9 (c9.mp z))]
        exact act_no hR hA ax_fr.rf q2 y3
    · rw [q, sn_bs, if_pos rfl]
      by_cases z : a < 1
      · rw [if_pos z]
        exact act_no hR hA ax_fr.rf q2 y3
      · rw [if_neg z, if_pos (c30.mpr (by have w : ¬ (a.toInt < ((1 : Nat) : Int)) := fun w => z (c1.mpr w); omega))]
        exact act_no hR hA ax_fr.rf q2 y3
end

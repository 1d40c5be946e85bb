/-! TEXTS: feed, end -/
def wb (x : Int32) (s : Nat) : Nat := x.toUInt32.toNat / 2 ^ s % 256
def wt (x : Int32) (s : Nat) : Nat := if wb x s = 0 then 0 else 1
def s4 (s : Nat) : Prop := s = 24 ∨ s = 16 ∨ s = 8 ∨ s = 0
theorem wb_lt {x : Int32} {s : Nat} : wb x s < 256 := Nat.mod_lt _ (by omega)
theorem wb_u (u : UInt32) (k : UInt32) (hk : k.toNat < 32) : (u >>> k).toInt32 &&& 255 = nI (u.toNat / 2 ^ k.toNat % 256) := by
  apply Int32.toBitVec_inj.mp
  apply BitVec.eq_of_toNat_eq
  show ((u >>> k).toBitVec &&& 255#32).toNat = (BitVec.ofNat 32 (u.toNat / 2 ^ k.toNat % 256)).toNat
  rw [BitVec.toNat_and]
  have e : (u >>> k).toBitVec.toNat = u.toNat / 2 ^ k.toNat := by
    show (u >>> k).toNat = _
    rw [UInt32.toNat_shiftRight, Nat.mod_eq_of_lt hk, Nat.shiftRight_eq_div_pow]
  have e2 : (255#32).toNat = 2 ^ 8 - 1 := rfl
  rw [e, e2, Nat.and_two_pow_sub_one_eq_mod, BitVec.toNat_ofNat]
  omega
theorem wb_c {x : Int32} {s : Nat} (h : s4 s) : (x.toUInt32 >>> ((nI s).toUInt32 &&& Int32.toUInt32 31)).toInt32 &&& (255 : Int32) = nI (wb x s) := by
  rcases h with rfl | rfl | rfl | rfl
  · have e : (nI 24).toUInt32 &&& Int32.toUInt32 31 = 24 := by decide
    rw [e]; exact wb_u x.toUInt32 24 (by decide)
  · have e : (nI 16).toUInt32 &&& Int32.toUInt32 31 = 16 := by decide
    rw [e]; exact wb_u x.toUInt32 16 (by decide)
  · have e : (nI 8).toUInt32 &&& Int32.toUInt32 31 = 8 := by decide
    rw [e]; exact wb_u x.toUInt32 8 (by decide)
  · have e : (nI 0).toUInt32 &&& Int32.toUInt32 31 = 0 := by decide
    rw [e]; exact wb_u x.toUInt32 0 (by decide)
theorem t255 (i : Nat) : (255#32).getLsbD i = decide (i < 8) := by
  have e : (255#32) = BitVec.ofNat 32 (2 ^ 8 - 1) := rfl
  rw [e, BitVec.getLsbD_ofNat, Nat.testBit_two_pow_sub_one]
  by_cases h : i < 8
  · simp [h]; omega
  · simp [h]
theorem wb_s (v : BitVec 32) (k : Nat) (hk : k ≤ 24) : v.sshiftRight k &&& 255#32 = v >>> k &&& 255#32 := by
  apply BitVec.eq_of_getLsbD_eq
  intro i hi
  rw [BitVec.getLsbD_and, BitVec.getLsbD_and, t255]
  by_cases h : i < 8
  · rw [BitVec.getLsbD_sshiftRight, BitVec.getLsbD_ushiftRight]
    have h2 : k + i < 32 := by omega
    have h3 : ¬ (32 ≤ i) := by omega
    simp [h2, h3]
  · simp [h]
theorem wb_r {x : Int32} {s : Nat} (h : s4 s) : (x >>> (nI s &&& 31)) &&& (255 : Int32) = nI (wb x s) := by
  have k : s ≤ 24 := by rcases h with rfl | rfl | rfl | rfl <;> omega
  have e : (x >>> (nI s &&& 31)).toBitVec = x.toBitVec.sshiftRight s := by
    rcases h with rfl | rfl | rfl | rfl <;> rfl
  apply Int32.toBitVec_inj.mp
  show (x >>> (nI s &&& 31)).toBitVec &&& 255#32 = BitVec.ofNat 32 (wb x s)
  rw [e, wb_s _ _ k]
  apply BitVec.eq_of_toNat_eq
  rw [BitVec.toNat_and, BitVec.toNat_ushiftRight, Nat.shiftRight_eq_div_pow]
  have e2 : (255#32).toNat = 2 ^ 8 - 1 := rfl
  have e3 : x.toBitVec.toNat = x.toUInt32.toNat := rfl
  rw [e2, e3, Nat.and_two_pow_sub_one_eq_mod, BitVec.toNat_ofNat]
  unfold wb
  omega
theorem lo8 (y : Int32) : (y &&& 255).toInt8 = y.toInt8 := by
  apply Int8.toBitVec_inj.mp
  show BitVec.signExtend 8 (y.toBitVec &&& 255#32) = BitVec.signExtend 8 y.toBitVec
  rw [BitVec.signExtend_eq_setWidth_of_le _ (by omega), BitVec.signExtend_eq_setWidth_of_le _ (by omega)]
  apply BitVec.eq_of_getLsbD_eq
  intro i hi
  rw [BitVec.getLsbD_setWidth, BitVec.getLsbD_setWidth, BitVec.getLsbD_and, t255]
  simp [hi]
theorem nar_by : ∀ k, k < 256 → vp_nar .byte (lr_by k) = lr_by k := by decide +kernel
theorem wb_n {x : Int32} {s : Nat} (h : s4 s) : vp_nar .byte (x >>> (nI s &&& 31)).toInt8.toInt32 = lr_by (wb x s) := by
  have e : (x >>> (nI s &&& 31)).toInt8.toInt32 = lr_by (wb x s) := by
    unfold lr_by
    rw [← lo8, wb_r h]
    rfl
  rw [e, nar_by _ wb_lt]
abbrev fd_c : List (Nat × Nat × Nat) := [(0, 10, 1), (4, 40, 0)]
abbrev fd_r : List (Nat × Nat × Nat) := [(0, 12, 6), (4, 44, 0), (0, 12, 0)]
section
variable {S T Z Y : AS} {o M c cn im hI tn wh n ca hi : Nat} {H N L E Q NI LI tb Lg : Nat → Nat} {W : Option (List la_C)} {K : Nat → List la_C} {P : Nat → Nat → Nat} {x : Int32}
theorem so_s {Kc : Int32 → Option Int32} {m c s : Nat} (h : s4 s) : f_X10_signsOf_L5 S Kc (m + 1) x (nI c) (nI s) = f_X10_signsOf_L5 S Kc m x (nI (c + wt x s)) (nI s + Int32.ofInt (-8)) := by
  have h31 : s < 2 ^ 31 := by rcases h with rfl | rfl | rfl | rfl <;> omega
  have hw := wb_lt (x := x) (s := s)
  have cz : (nI (wb x s) = (0 : Int32)) ↔ wb x s = 0 := nI_eq (b := 0) (by omega) (by omega)
  have e0 : nI c + (0 : Int32) = nI c := by rw [sn_0, nI_add, Nat.add_zero]
  rw [f_X10_signsOf_L5, if_neg (nI_pos h31), wb_c h]
  unfold wt
  by_cases q : wb x s = 0
  · rw [if_pos (cz.mpr q), if_pos q, e0, Nat.add_zero, sn_let, sn_let]
  · rw [if_neg (fun z => q (cz.mp z)), if_neg q, nI_1, sn_let, sn_let]
theorem bi_s {Kc : Int32 → Option Int32} {m c s : Nat} (h : s4 s) : f_X12_bytesIn_L5 S Kc (m + 1) x (nI c) (nI s) = f_X12_bytesIn_L5 S Kc m x (nI (c + wt x s)) (nI s + Int32.ofInt (-8)) := by
  have h31 : s < 2 ^ 31 := by rcases h with rfl | rfl | rfl | rfl <;> omega
  have hw := wb_lt (x := x) (s := s)
  have cz : (nI (wb x s) = (0 : Int32)) ↔ wb x s = 0 := nI_eq (b := 0) (by omega) (by omega)
  have e0 : nI c + (0 : Int32) = nI c := by rw [sn_0, nI_add, Nat.add_zero]
  rw [f_X12_bytesIn_L5, if_neg (nI_pos h31), wb_r h]
  unfold wt
  by_cases q : wb x s = 0
  · rw [if_pos (cz.mpr q), if_pos q, e0, Nat.add_zero, sn_let, sn_let]
  · rw [if_neg (fun z => q (cz.mp z)), if_neg q, nI_1, sn_let, sn_let]
def w4 (x : Int32) : Nat := wt x 24 + wt x 16 + wt x 8 + wt x 0
theorem w4_le : w4 x ≤ 4 := by
  unfold w4 wt
  repeat' split
  all_goals omega
theorem sh_1 : nI 24 + Int32.ofInt (-8) = nI 16 := by decide
theorem sh_2 : nI 16 + Int32.ofInt (-8) = nI 8 := by decide
theorem sh_3 : nI 8 + Int32.ofInt (-8) = nI 0 := by decide
theorem sh_4 : nI 0 + Int32.ofInt (-8) < 0 := by decide
theorem fF : ax_F = 999995 + 1 + 1 + 1 + 1 + 1 := rfl
theorem so_all : f_X10_signsOf x S = some (nI (w4 x)) := by
  unfold f_X10_signsOf
  rw [fF, sn_24, sn_0, so_s (.inl rfl), sh_1, so_s (.inr (.inl rfl)), sh_2, so_s (.inr (.inr (.inl rfl))), sh_3, so_s (.inr (.inr (.inr rfl))), f_X10_signsOf_L5, if_pos sh_4, Nat.zero_add]
  rfl
theorem bi_all : f_X12_bytesIn x S = some (nI (w4 x)) := by
  unfold f_X12_bytesIn
  rw [fF, sn_24, sn_0, bi_s (.inl rfl), sh_1, bi_s (.inr (.inl rfl)), sh_2, bi_s (.inr (.inr (.inl rfl))), sh_3, bi_s (.inr (.inr (.inr rfl))), f_X12_bytesIn_L5, if_pos sh_4, Nat.zero_add]
  rfl
def fdg (S T Z Y : AS) : Prop := ax_fr fd_c S Z ∧ ax_fr fd_r T Y ∧ ax_ai Y 44 1 = ax_ai T 44 1
theorem fdg.tr {Z2 Y2 : AS} (a : fdg S T Z Y) (b : fdg Z Y Z2 Y2) : fdg S T Z2 Y2 := ⟨a.1.tr b.1, a.2.1.tr b.2.1, b.2.2.trans a.2.2⟩
theorem fdg.rf : fdg S T S T := ⟨ax_fr.rf, ax_fr.rf, rfl⟩
theorem pu_s {s : Nat} (h : s4 s) (ht : jt S T tn tb) (hr : tn + wt x s ≤ 240) : ∃ Z Y tb', (∀ (Kc : AS → Option AS) m, f_X10_put_L3 Kc (m + 1) x (nI s) S = f_X10_put_L3 Kc m x (nI s + Int32.ofInt (-8)) Z) ∧ (∀ (Kr : AS → Option AS) m, f_X12_put_L3 Kr (m + 1) x (nI s) T = f_X12_put_L3 Kr m x (nI s + Int32.ofInt (-8)) Y) ∧ jt Z Y (tn + wt x s) tb' ∧ fdg S T Z Y := by
  have h31 : s < 2 ^ 31 := by rcases h with rfl | rfl | rfl | rfl <;> omega
  have hw := wb_lt (x := x) (s := s)
  have cz : (nI (wb x s) = (0 : Int32)) ↔ wb x s = 0 := nI_eq (b := 0) (by omega) (by omega)
  unfold wt at hr ⊢
  by_cases q : wb x s = 0
  · rw [if_pos q, Nat.add_zero]
    refine ⟨S, T, tb, fun Kc m => ?_, fun Kr m => ?_, ht, fdg.rf⟩
    · rw [f_X10_put_L3, if_neg (nI_pos h31), wb_c h, sn_let, if_pos (cz.mpr q), sn_let]
    · rw [f_X12_put_L3, if_neg (nI_pos h31), wb_r h, if_pos (cz.mpr q), sn_let]
  · rw [if_neg q] at hr ⊢
    obtain ⟨t1, t2, t3, t4⟩ := ht
    have c240 : ((240 : Int32) ≤ nI tn) ↔ 240 ≤ tn := nI_leI (a := 240) (by omega) (by omega)
    have a1 : ax_fi (ax_sai S 40 0 tn (nI (wb x s))) 10 0 1 = nI tn := t2
    have a2 : ax_fi (ax_sai T 44 0 tn (lr_by (wb x s))) 12 0 6 = nI tn := t3
    refine ⟨ax_sfi (ax_sai S 40 0 tn (nI (wb x s))) 10 0 1 (nI (tn + 1)), ax_sfi (ax_sai T 44 0 tn (lr_by (wb x s))) 12 0 6 (nI (tn + 1)), fun p => if p = tn then wb x s else tb p, fun Kc m => ?_, fun Kr m => ?_, ⟨hr, ?_, ?_, fun p hp => ?_⟩, (ax_fr_sai (by decide)).tr (ax_fr_sfi (by decide)), (ax_fr_sai (by decide)).tr (ax_fr_sfi (by decide)), ?_⟩
    · rw [f_X10_put_L3, if_neg (nI_pos h31), wb_c h, sn_let, if_neg (fun z => q (cz.mp z)), t2, if_neg (fun z => absurd (c240.mp z) (by omega)), sn_in (by omega) (by omega), sn_gd, nI_clamp (n := tn) (by omega), sn_let, a1, nI_1, sn_let, sn_let]
    · rw [f_X12_put_L3, if_neg (nI_pos h31), wb_r h, if_neg (fun z => q (cz.mp z)), t3, sn_in (by omega) (by omega), sn_gd, nI_clamp (n := tn) (by omega), wb_n h, sn_let, a2, nI_1, sn_let, sn_let]
    · rw [sg, if_pos rfl]
    · rw [sg, if_pos rfl]
    · rw [sfa, sfa, sga, sga]
      by_cases e : p = tn
      · simp only [e, if_true]
        exact ⟨trivial, trivial, by omega, by omega⟩
      · simp only [e, if_false]
        exact t4 p (by omega)
    · rw [sfa]
      funext p
      show ax_u3 T.2.2.2.2.1 44 0 tn (lr_by (wb x s)) 44 1 p = _
      unfold ax_u3
      exact if_neg (fun z => absurd z.2.1 (by decide))
theorem pu_all (ht : jt S T tn tb) (hr : tn + w4 x ≤ 240) : ∃ Z Y tb', f_X10_put x S = some Z ∧ f_X12_put x T = some Y ∧ jt Z Y (tn + w4 x) tb' ∧ fdg S T Z Y := by
  unfold w4 at hr ⊢
  obtain ⟨Z1, Y1, b1, z1, y1, j1, g1⟩ := pu_s (x := x) (s := 24) (.inl rfl) ht (by omega)
  obtain ⟨Z2, Y2, b2, z2, y2, j2, g2⟩ := pu_s (x := x) (s := 16) (.inr (.inl rfl)) j1 (by omega)
  obtain ⟨Z3, Y3, b3, z3, y3, j3, g3⟩ := pu_s (x := x) (s := 8) (.inr (.inr (.inl rfl))) j2 (by omega)
  obtain ⟨Z4, Y4, b4, z4, y4, j4, g4⟩ := pu_s (x := x) (s := 0) (.inr (.inr (.inr rfl))) j3 (by omega)
  refine ⟨Z4, Y4, b4, ?_, ?_, ?_, ((g1.tr g2).tr g3).tr g4⟩
  · unfold f_X10_put
    rw [fF, sn_24, z1, sh_1, z2, sh_2, z3, sh_3, z4, f_X10_put_L3, if_pos sh_4]
  · unfold f_X12_put
    rw [fF, sn_24, y1, sh_1, y2, sh_2, y3, sh_3, y4, f_X12_put_L3, if_pos sh_4]
  · rw [(by omega : tn + (wt x 24 + wt x 16 + wt x 8 + wt x 0) = tn + wt x 24 + wt x 16 + wt x 8 + wt x 0)]
    exact j4
theorem fd_keep (h : jR o H W M K c L E cn Q im NI LI hI tn tb wh S T) (hC : jr_C T H M K W) (hA : jA H N n ca P Lg hi S T) {tn' : Nat} {tb' : Nat → Nat} (g : fdg S T Z Y) (ht : jt Z Y tn' tb') : jI Z Y := by
  obtain ⟨r1, r2, r3, r4, r5, r6, r7, r8⟩ := h
  obtain ⟨f1, f2, f3⟩ := g
  refine jI_mk ⟨r1, jc_H_f f1 (fun j => by simp) (by decide) (fun j => by simp) (by decide) (by decide) (by decide) r2, jz_f f1 f2 (by decide) (by decide) r3, jp_f f1 f2 (by decide) (by decide) r4, jo_f f1 f2 (by decide) (by decide) r5, jim_f f1 f2 (by decide) (fun j => by simp) (by decide) (by decide) (by decide) (by decide) (by decide) r6, ht, jwh_f f1 f2 (by decide) (by decide) r8⟩ ?_ (jA_g (cg1_f f1 (fun j => by simp) (fun j => by simp) (by decide) (by decide) (by decide) (by decide)) (rg1_f f2 (by decide) (by decide) (by decide)) hA)
  exact jr_C_e (f2.1 12 0 26 (by decide)) (f2.1 12 0 27 (by decide)) (f2.1 12 0 34 (by decide)) (f2.2.2.2.2.1 47 0 (by decide)) (f2.2.2.2.2.1 49 0 (by decide)) (f2.2.2.2.2.1 51 0 (by decide)) (f2.2.2.2.2.1 45 0 (by decide)) f3 (f2.2.2.2.2.1 46 0 (by decide)) (f2.2.2.2.2.1 58 0 (by decide)) (f2.2.2.2.2.2 57 0 (by decide)) hC
theorem jt_thr {v : Int32} (h : jt S T tn tb) : jt S (ax_sfi T 12 0 0 v) tn tb := by
  obtain ⟨a, b, d, e⟩ := h
  refine ⟨a, b, ?_, e⟩
  rw [sg, if_neg (by omega)]
  exact d
theorem fdg_thr {v : Int32} : fdg S T S (ax_sfi T 12 0 0 v) := ⟨ax_fr.rf, ax_fr_sfi (by decide), rfl⟩
theorem x_feed (h : jI S T) (x1 x2 x3 x4 x5 : Int32) : jX (f_X11_feed x1 x2 x3 x4 x5 S) (f_X12_feed x1 x2 x3 x4 x5 T) := by
  obtain ⟨o, H, N, W, M, K, c, L, E, cn, Q, im, NI, LI, hI, tn, tb, wh, n, ca, P, Lg, hi, hR, hC, hA⟩ := h
  have ht := hR.2.2.2.2.2.2.1
  have ht1 := jt_thr (v := 0) ht
  have g0 : fdg S T S (ax_sfi T 12 0 0 0) := fdg_thr
  have l1 := w4_le (x := x1)
  have l2 := w4_le (x := x2)
  have l3 := w4_le (x := x3)
  have l4 := w4_le (x := x4)
  have l5 := w4_le (x := x5)
  have t1 := ht.1
  unfold f_X11_feed f_X12_feed
  rw [so_all, sn_bs, so_all, sn_bs, so_all, sn_bs, so_all, sn_bs, so_all, sn_bs]
  rw [sn_let, sn_let, nI_add, nI_add, nI_add, nI_add, bi_all, sn_bs, bi_all, sn_bs, bi_all, sn_bs, bi_all, sn_bs, bi_all, sn_bs]
  unfold f_X10_hasRoomFor
  rw [ht.2.1, nI_add, ht1.2.2.1, nI_add, nI_add, nI_add, nI_add, nI_add]
  generalize ax_sfi T 12 0 0 0 = Y at *
  have c1 : ((240 : Int32) < nI (tn + (w4 x1 + w4 x2 + w4 x3 + w4 x4 + w4 x5))) ↔ 240 < tn + (w4 x1 + w4 x2 + w4 x3 + w4 x4 + w4 x5) := nI_ltI (a := 240) (by omega) (by omega)
  have c2 : (nI (tn + w4 x1 + w4 x2 + w4 x3 + w4 x4 + w4 x5) ≤ (240 : Int32)) ↔ tn + w4 x1 + w4 x2 + w4 x3 + w4 x4 + w4 x5 ≤ 240 := nI_leI (b := 240) (by omega) (by omega)
  by_cases q : 240 < tn + (w4 x1 + w4 x2 + w4 x3 + w4 x4 + w4 x5)
  · rw [if_pos (c1.mpr q), sn_bs, if_pos rfl, if_neg (fun z => absurd (c2.mp z) (by omega))]
    exact ⟨_, S, Y, rfl, rfl, fd_keep hR hC hA g0 ht1⟩
  · obtain ⟨Z1, Y1, b1, z1, y1, j1, g1⟩ := pu_all (x := x1) ht1 (by omega)
    obtain ⟨Z2, Y2, b2, z2, y2, j2, g2⟩ := pu_all (x := x2) j1 (by omega)
    obtain ⟨Z3, Y3, b3, z3, y3, j3, g3⟩ := pu_all (x := x3) j2 (by omega)
    obtain ⟨Z4, Y4, b4, z4, y4, j4, g4⟩ := pu_all (x := x4) j3 (by omega)
    obtain ⟨Z5, Y5, b5, z5, y5, j5, g5⟩ := pu_all (x := x5) j4 (by omega)
    rw [if_neg (fun z => q (c1.mp z)), sn_bs, if_neg ne10, if_pos (c2.mpr (by omega)), z1, sn_bs, z2, sn_bs, z3, sn_bs, z4, sn_bs, z5, sn_bs, y1, sn_bs, y2, sn_bs, y3, sn_bs, y4, sn_bs, y5, sn_bs, j5.2.1, j5.2.2.1]
    exact ⟨_, Z5, Y5, rfl, rfl, fd_keep hR hC hA (((((g0.tr g1).tr g2).tr g3).tr g4).tr g5) j5⟩
theorem x_end (h : jI S T) (a : Int32) : jX (f_X11_end a S) (f_X12_end a T) := by
  obtain ⟨o, H, N, W, M, K, c, L, E, cn, Q, im, NI, LI, hI, tn, tb, wh, n, ca, P, Lg, hi, hR, hC, hA⟩ := h
  have ht := hR.2.2.2.2.2.2.1
  have ht1 := jt_thr (v := 0) ht
  have g0 : fdg S T S (ax_sfi T 12 0 0 0) := fdg_thr
  have t1 := ht.1
  have b0 : ax_bo (0 : Int32) = true := by decide
  have b1 : ax_bo (1 : Int32) = true := by decide
  unfold f_X11_end f_X12_end f_X10_cut
  rw [sn_let, sn_let]
  generalize ax_sfi T 12 0 0 0 = Y at *
  rw [ht.2.1, ht1.2.2.1]
  rcases pk_ix a (n := tn + 1) (by omega) with q | q | ⟨j, q1, rfl⟩
  · rw [if_pos q, if_pos q, ax_bu_s, b0, sn_gd]
    exact ⟨_, S, Y, rfl, rfl, fd_keep hR hC hA g0 ht1⟩
  · have q2 : ¬ (a ≤ nI tn) := fun z => by
      have := (nI_leI (a := tn + 1) (b := tn) (by omega) (by omega)).mp (Int32.le_trans q z)
      omega
    rw [if_neg q2, if_neg q2]
    by_cases z : a < 0
    · rw [if_pos z, if_pos z, ax_bu_s, b0, sn_gd]
      exact ⟨_, S, Y, rfl, rfl, fd_keep hR hC hA g0 ht1⟩
    · rw [if_neg z, if_neg z, ax_bu_s, b0, sn_gd]
      exact ⟨_, S, Y, rfl, rfl, fd_keep hR hC hA g0 ht1⟩
  · have q2 : nI j ≤ nI tn := (nI_leI (by omega) (by omega)).mpr (by omega)
    rw [if_neg (nI_pos (by omega)), if_neg (nI_pos (by omega)), if_pos q2, if_pos q2, ax_bu_s, b1, sn_gd, sn_let]
    refine ⟨_, _, _, rfl, rfl, fd_keep hR hC hA (g0.tr ⟨ax_fr_sfi (by decide), ax_fr_sfi (by decide), rfl⟩) (tn' := j) (tb' := tb) ⟨by omega, by rw [sg, if_pos rfl], by rw [sg, if_pos rfl], fun p hp => ?_⟩⟩
    rw [sfa, sfa]
    exact ht1.2.2.2 p (by omega)
end

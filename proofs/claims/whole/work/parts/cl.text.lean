/-! text keeps the invariant -/
abbrev t0_c : List (Nat × Nat × Nat) := [(0, 10, 1), (2, 11, 14), (2, 11, 15), (3, 6, 1), (0, 9, 0), (0, 9, 1), (0, 9, 2), (0, 9, 3), (0, 9, 4), (0, 9, 5), (0, 9, 6), (0, 9, 7), (4, 38, 0), (4, 39, 0), (0, 7, 1), (0, 7, 2), (0, 3, 3), (0, 11, 19)]
abbrev t0_r : List (Nat × Nat × Nat) := [(0, 12, 6), (0, 12, 26), (0, 12, 27), (4, 47, 0), (4, 49, 0), (4, 51, 0), (4, 55, 0), (0, 12, 47), (0, 12, 39), (0, 12, 49)]
section
variable {S T Z Y X : AS} {o M c cn im hI tn wh n ca hi y rt lc vc : Nat} {H N L E Q NI LI tb Lg G : Nat → Nat} {W : Option (List la_C)} {K : Nat → List la_C} {P : Nat → Nat → Nat} {p φ p' φ' : Int32}
theorem sgx {k i j j' v : Nat} : ax_fx (ax_sfx S k i j v) k i j' = if j' = j then v else ax_fx S k i j' := by
  show (if k = k ∧ i = i ∧ j' = j then v else S.2.2.1 k i j') = if j' = j then v else S.2.2.1 k i j'
  by_cases h : j' = j
  · rw [if_pos ⟨rfl, rfl, h⟩, if_pos h]
  · rw [if_neg (fun q => h q.2.2), if_neg h]
/-- the given code moves in -/
theorem mv_c (hR : jR o H W M K c L E cn Q im NI LI hI tn tb wh S T) (h : hg (1 - o) rt lc vc G S T) (hw : hwh lc vc G) : ∃ Z, ax_bu (f_X10_cut (0 : Int32) S) (fun (_ : Int32) (S8 : AS) => (f_X11_moveIn S8).bind (fun (S13 : AS) => some ((ax_fi S13 4 (ax_fx S13 11 0 14) 5), S13))) = some (nI vc, Z) ∧ ax_fr t0_c S Z ∧ jc_H Z (1 - o) (h0' G lc vc) ∧ jc_S Z 0 (n0 G vc) ∧ ax_fi Z 7 0 1 = nI 0 ∧ ax_fi Z 7 0 2 = nI 0 ∧ ax_fi Z 3 0 3 = nI 0 ∧ ax_fi Z 11 0 19 = nI 0 ∧ ax_fi Z 10 0 1 = nI 0 := by
  obtain ⟨h1, h2, h3, ⟨c3, c4, c5⟩, _, ⟨g1, _, _, _⟩, gl, gv⟩ := h
  have o2 := hR.2.1.1
  have e14 : ax_fx S 11 0 14 = o := hR.2.1.2.1
  have e15 : ax_fx S 11 0 15 = 1 - o := hR.2.1.2.2.1
  have ht := hR.2.2.2.2.2.2.1
  rw [cut0 ht.1 ht.2.1, ax_bu_s]
  unfold f_X11_moveIn f_X6_useHouse
  have a14 : ax_fx (ax_sfi S 10 0 1 0) 11 0 14 = o := e14
  have a15 : ax_fx (ax_sfi S 10 0 1 0) 11 0 15 = 1 - o := e15
  rw [a14, a15, sn_let, sn_let, sgx, if_pos rfl, sn_let, sn_bs]
  generalize hA : ax_sfo (ax_sfx (ax_sfx (ax_sfi S 10 0 1 0) 11 0 15 o) 11 0 14 (1 - o)) 6 0 1 (some (1 - o)) = A
  have fA : ax_fr t0_c S A := by
    rw [← hA]
    exact (((ax_fr_sfi (by decide)).tr (ax_fr_sfx (by decide))).tr (ax_fr_sfx (by decide))).tr (ax_fr_sfo (by decide))
  have A14 : ax_fx A 11 0 14 = 1 - o := by
    rw [← hA]
    show ax_fx (ax_sfx (ax_sfx (ax_sfi S 10 0 1 0) 11 0 15 o) 11 0 14 (1 - o)) 11 0 14 = _
    rw [sgx, if_pos rfl]
  have A15 : ax_fx A 11 0 15 = o := by
    rw [← hA]
    show ax_fx (ax_sfx (ax_sfx (ax_sfi S 10 0 1 0) 11 0 15 o) 11 0 14 (1 - o)) 11 0 15 = _
    rw [sgx, if_neg (by omega), sgx, if_pos rfl]
  have Ao : ax_fo A 6 0 1 = some (1 - o) := by
    rw [← hA]
    exact sgof
  have A1 : ax_fi A 10 0 1 = nI 0 := by
    rw [← hA]
    show ax_fi (ax_sfi S 10 0 1 0) 10 0 1 = _
    rw [sg, if_pos rfl]
    exact sn_0
  have A5 : ax_fi A 4 (1 - o) 5 = nI vc := (fA.1 4 (1 - o) 5 (by decide)).trans c5
  have A29 : ∀ v, v < vc → ith 29 (1 - o) (7 * v) 7 A (fun w => G (16 + 7 * v + w)) := fun v hv w hw => by
    rw [fA.2.2.2.2.1 29 (1 - o) (by decide)]
    exact (gv v hv).1 w hw
  have A27 : ax_ai A 27 (1 - o) 2 = nI (G 2) := by
    rw [fA.2.2.2.2.1 27 (1 - o) (by decide)]
    have := g1 2 (by omega)
    rw [Nat.zero_add] at this
    exact this
  obtain ⟨B, b1, b2, b3⟩ := si_all A5 h3 A29 A27
  rw [A14, b1, sn_bs]
  unfold f_X7_forget f_X3_forget
  rw [sn_let, sn_let, sn_bs, sn_let, sn_bs, sn_let, sn_bs]
  generalize hD : ax_sfi (ax_sfi (ax_sfi (ax_sfi B 7 0 1 0) 7 0 2 0) 3 0 3 0) 11 0 19 0 = D
  have fB : ax_fr w_X9_startIn A B := fr_X9_startIn b1
  have fD : ax_fr t0_c S D := by
    rw [← hD]
    exact ((((fA.tr (fB.mono (by decide))).tr (ax_fr_sfi (by decide))).tr (ax_fr_sfi (by decide))).tr (ax_fr_sfi (by decide))).tr (ax_fr_sfi (by decide))
  have D14 : ax_fx D 11 0 14 = 1 - o := by
    rw [← hD]
    exact (fB.2.2.1 11 0 14 (by decide)).trans A14
  have D15 : ax_fx D 11 0 15 = o := by
    rw [← hD]
    exact (fB.2.2.1 11 0 15 (by decide)).trans A15
  have Do : ax_fo D 6 0 1 = some (1 - o) := by
    rw [← hD]
    exact (fB.2.2.2.1 6 0 1 (by decide)).trans Ao
  have D5 : ax_fi D 4 (1 - o) 5 = nI vc := (fD.1 4 (1 - o) 5 (by decide)).trans c5
  have Df : ∀ j, ax_fi D 9 0 j = ax_fi B 9 0 j := fun j => by
    rw [← hD, sg_o (by omega), sg_o (by omega), sg_o (by omega), sg_o (by omega)]
  have Da : ax_ai D = ax_ai B := by
    rw [← hD]
    rfl
  obtain ⟨s0, s1, s2, s3, s4, s5, s6, s7, s8, s9⟩ := b2
  have hvc := hw.2.1
  rw [D14, D5]
  refine ⟨D, rfl, fD, ⟨by omega, D14, by rw [D15]; omega, by rw [Do, h0_4, if_neg (by omega)], by rw [h0_3]; exact (fD.1 4 (1 - o) 4 (by decide)).trans c4, by rw [h0_4]; exact D5, fun j hj => ?_, fun l hl w hw' => ?_, fun v hv w hw' => ?_⟩, ⟨(Df 0).trans s0, (Df 1).trans s1, (Df 2).trans s2, (Df 3).trans s3, (Df 4).trans s4, (Df 5).trans s5, (Df 6).trans s6, (Df 7).trans s7, fun l hl => by rw [Da]; exact s8 l hl, fun v hv => by rw [Da]; exact s9 v hv⟩, ?_, ?_, ?_, ?_, ?_⟩
  · have := g1 j hj
    rw [Nat.zero_add] at this
    rw [fD.2.2.2.2.1 27 (1 - o) (by decide), h0_o (by omega) (by omega)]
    exact this
  · rw [h0_3] at hl
    rw [fD.2.2.2.2.1 28 (1 - o) (by decide), h0_o (by omega) (by omega), Nat.mul_comm l 2]
    exact (gl l hl).1 w hw'
  · rw [h0_4] at hv
    rw [fD.2.2.2.2.1 29 (1 - o) (by decide), h0_o (by omega) (by omega), Nat.mul_comm v 7]
    exact (gv v hv).1 w hw'
  · rw [← hD, sg_o (by omega), sg_o (by omega), sg, if_neg (by omega), sg, if_pos rfl]
    exact sn_0
  · rw [← hD, sg_o (by omega), sg_o (by omega), sg, if_pos rfl]
    exact sn_0
  · rw [← hD, sg_o (by omega), sg, if_pos rfl]
    exact sn_0
  · rw [← hD, sg, if_pos rfl]
    exact sn_0
  · rw [← hD, sg_o (by omega), sg_o (by omega), sg_o (by omega), sg_o (by omega)]
    exact (fB.1 10 0 1 (by decide)).trans A1
/-! the reference moves in -/
abbrev tk5 : AS → Option (Int32 × AS) := fun (S58 : AS) => ax_gd (ax_in (2 : Int32) 3) (ax_gd (ax_in (21 : Int32) 204) (ax_let (ax_sai S58 55 0 (21 : Int32).toNatClampNeg (ax_ai S58 47 0 (2 : Int32).toNatClampNeg)) (fun (S61 : AS) => ax_let (ax_sfi S61 12 0 47 (0 : Int32)) (fun (S62 : AS) => ax_let (ax_sfi S62 12 0 39 (0 : Int32)) (fun (S63 : AS) => ax_let (ax_sfi S63 12 0 49 (0 : Int32)) (fun (S64 : AS) => some ((ax_fi S64 12 0 27), S64)))))))
abbrev tk4 : AS → Option (Int32 × AS) := fun (S50 : AS) => f_X12_text_L322 tk5 ax_F (0 : Int32) S50
abbrev tk3 : AS → Option (Int32 × AS) := fun (S43 : AS) => f_X12_text_L300 tk4 ax_F (0 : Int32) S43
abbrev tk2 : AS → Option (Int32 × AS) := fun (S35 : AS) => f_X12_text_L274 tk3 ax_F (0 : Int32) S35
abbrev tk1 : AS → Option (Int32 × AS) := fun (S27 : AS) => f_X12_text_L248 tk2 ax_F (0 : Int32) S27
abbrev tk0 : AS → Option (Int32 × AS) := fun (S15 : AS) => ax_let (ax_sfi S15 12 0 26 (ax_fi S15 12 0 28)) (fun (S18 : AS) => ax_let (ax_sfi S18 12 0 27 (ax_fi S18 12 0 29)) (fun (S19 : AS) => f_X12_text_L223 tk1 ax_F (0 : Int32) S19))
theorem mv_r (h : hg y rt lc vc G S T) : ∃ V, tk0 (ax_sfi T 12 0 6 (0 : Int32)) = some (nI vc, V) ∧ ax_fr t0_r T V ∧ jr_H V (h0' G lc vc) ∧ jr_S (ax_ai V 55 0) (n0 G vc) ∧ ax_ai V 55 0 23 = nI 0 ∧ ax_fi V 12 0 6 = nI 0 ∧ ax_fi V 12 0 47 = nI 0 ∧ ax_fi V 12 0 39 = nI 0 ∧ ax_fi V 12 0 49 = nI 0 := by
  obtain ⟨h1, h2, h3, _, ⟨r31, r28, r29⟩, ⟨_, g2, _, _⟩, gl, gv⟩ := h
  have e28 : ax_fi (ax_sfi T 12 0 6 0) 12 0 28 = nI lc := by
    rw [sg, if_neg (by omega)]
    exact r28
  have e29 : ax_fi (ax_sfi (ax_sfi T 12 0 6 0) 12 0 26 (nI lc)) 12 0 29 = nI vc := by
    rw [sg, if_neg (by omega), sg, if_neg (by omega)]
    exact r29
  show ∃ V, ax_let (ax_sfi (ax_sfi T 12 0 6 (0 : Int32)) 12 0 26 (ax_fi (ax_sfi T 12 0 6 (0 : Int32)) 12 0 28)) (fun (S18 : AS) => ax_let (ax_sfi S18 12 0 27 (ax_fi S18 12 0 29)) (fun (S19 : AS) => f_X12_text_L223 tk1 ax_F (0 : Int32) S19)) = some (nI vc, V) ∧ _
  rw [e28, sn_let, e29, sn_let]
  generalize hA : ax_sfi (ax_sfi (ax_sfi T 12 0 6 0) 12 0 26 (nI lc)) 12 0 27 (nI vc) = A
  have fA : ax_fr t0_r T A := by
    rw [← hA]
    exact ((ax_fr_sfi (by decide)).tr (ax_fr_sfi (by decide))).tr (ax_fr_sfi (by decide))
  have vA : ∀ j, ax_fi A 12 0 j = if j = 27 then nI vc else if j = 26 then nI lc else if j = 6 then 0 else ax_fi T 12 0 j := fun j => by
    rw [← hA, sg, sg, sg]
  obtain ⟨B, b1, b2, b3⟩ := u_L223 (T := A) (Kr := tk1)
  obtain ⟨C, c1, c2, c3⟩ := u_L248 (T := B) (Kr := tk2)
  obtain ⟨D, d1, d2, d3⟩ := u_L274 (T := C) (Kr := tk3)
  obtain ⟨E', e1, e2, e3⟩ := u_L300 (T := D) (Kr := tk4)
  have fE : ax_fr [(4, 47, 0), (4, 49, 0), (4, 51, 0), (4, 55, 0)] A E' := (((b2.mono (by decide)).tr (c2.mono (by decide))).tr (d2.mono (by decide))).tr (e2.mono (by decide))
  have E27 : ax_fi E' 12 0 27 = nI vc := by
    rw [fE.1 12 0 27 (by decide), vA, if_pos rfl]
  obtain ⟨F, f1, f2, f3⟩ := u_L322 (Kr := tk5) h3 vc ax_F 0 E' E27 (by omega) (by show _ < 1000000; omega)
  rw [← sn_0] at f1
  have fF : ax_fr [(4, 47, 0), (4, 49, 0), (4, 51, 0), (4, 55, 0)] A F := fE.tr (f2.mono (by decide))
  have i2 : ax_in (2 : Int32) 3 = true := by decide
  have k2 : (2 : Int32).toNatClampNeg = 2 := Eq.trans rfl rfl
  have i21 : ax_in (21 : Int32) 204 = true := by decide
  have k21 : (21 : Int32).toNatClampNeg = 21 := Eq.trans rfl rfl
  have E : f_X12_text_L223 tk1 ax_F 0 A = tk5 F := b1.trans (c1.trans (d1.trans (e1.trans f1)))
  have E2 : tk5 F = ax_gd (ax_in (2 : Int32) 3) (ax_gd (ax_in (21 : Int32) 204) (ax_let (ax_sai F 55 0 (21 : Int32).toNatClampNeg (ax_ai F 47 0 (2 : Int32).toNatClampNeg)) (fun (S61 : AS) => ax_let (ax_sfi S61 12 0 47 (0 : Int32)) (fun (S62 : AS) => ax_let (ax_sfi S62 12 0 39 (0 : Int32)) (fun (S63 : AS) => ax_let (ax_sfi S63 12 0 49 (0 : Int32)) (fun (S64 : AS) => some ((ax_fi S64 12 0 27), S64))))))) := rfl
  rw [E, E2, i2, sn_gd, i21, sn_gd, k2, k21, sn_let, sn_let, sn_let, sn_let]
  generalize hV : ax_sfi (ax_sfi (ax_sfi (ax_sai F 55 0 21 (ax_ai F 47 0 2)) 12 0 47 0) 12 0 39 0) 12 0 49 0 = V
  have fV : ax_fr t0_r T V := by
    rw [← hV]
    exact ((((fA.tr (fF.mono (by decide))).tr (ax_fr_sai (by decide))).tr (ax_fr_sfi (by decide))).tr (ax_fr_sfi (by decide))).tr (ax_fr_sfi (by decide))
  have vV : ∀ j, ax_fi V 12 0 j = if j = 49 then 0 else if j = 39 then 0 else if j = 47 then 0 else ax_fi A 12 0 j := fun j => by
    rw [← hV, sg, sg, sg, ← fF.1 12 0 j (by simp)]
    rfl
  have aV : ∀ k, k ≠ 55 → ax_ai V k 0 = ax_ai F k 0 := fun k hk => by
    rw [← hV, sfa, sfa, sfa, sgo hk]
  have V55 : ∀ j, ax_ai V 55 0 j = if j = 21 then ax_ai F 47 0 2 else ax_ai F 55 0 j := fun j => by
    rw [← hV, sfa, sfa, sfa, sga]
  have F47 : ∀ j, j < 3 → ax_ai F 47 0 j = nI (G j) := fun j hj => by
    have := g2 j hj
    rw [Nat.zero_add] at this
    rw [f2.2.2.2.2.1 47 0 (by decide), e2.2.2.2.2.1 47 0 (by decide), d2.2.2.2.2.1 47 0 (by decide), c2.2.2.2.2.1 47 0 (by decide), b3 j hj, fA.2.2.2.2.1 48 0 (by decide)]
    exact this
  have F49 : ∀ j, j < 8 → ax_ai F 49 0 j = ax_ai T 50 0 j := fun j hj => by
    rw [f2.2.2.2.2.1 49 0 (by decide), e2.2.2.2.2.1 49 0 (by decide), d2.2.2.2.2.1 49 0 (by decide), c3 j hj, b2.2.2.2.2.1 50 0 (by decide), fA.2.2.2.2.1 50 0 (by decide)]
  have E51 : ∀ j, j < 42 → ax_ai E' 51 0 j = ax_ai T 52 0 j := fun j hj => by
    rw [e2.2.2.2.2.1 51 0 (by decide), d3 j hj, c2.2.2.2.2.1 52 0 (by decide), b2.2.2.2.2.1 52 0 (by decide), fA.2.2.2.2.1 52 0 (by decide)]
  have v27 : ax_fi V 12 0 27 = nI vc := by
    rw [vV, if_neg (by omega), if_neg (by omega), if_neg (by omega), vA, if_pos rfl]
  rw [v27]
  refine ⟨V, rfl, fV, ⟨?_, ?_, fun j hj => ?_, fun l hl w hw' => ?_, fun v hv w hw' => ?_⟩, fun j hj => ?_, ?_, ?_, ?_, ?_, ?_⟩
  · rw [vV, if_neg (by omega), if_neg (by omega), if_neg (by omega), vA, if_neg (by omega), if_pos rfl, h0_3]
  · rw [v27, h0_4]
  · rw [aV 47 (by omega), F47 j hj, h0_o (by omega) (by omega)]
  · rw [h0_3] at hl
    rw [aV 49 (by omega), F49 _ (by omega), h0_o (by omega) (by omega)]
    exact (gl l hl).2.1 w hw'
  · rw [h0_4] at hv
    rw [aV 51 (by omega), f2.2.2.2.2.1 51 0 (by decide), E51 _ (by omega), h0_o (by omega) (by omega)]
    exact (gv v hv).2.1 w hw'
  · rw [V55]
    by_cases q1 : j = 21
    · rw [if_pos q1, F47 2 (by omega), q1, n0_21]
    · rw [if_neg q1, f3]
      by_cases q : j / 2 < vc ∧ j % 2 = 0
      · have t2 := (gv (j / 2) q.1).2.1 2 (by omega)
        have en : n0 G vc j = G (18 + 7 * (j / 2)) := by
          unfold n0
          rw [if_pos (by omega), if_pos q.1]
        rw [if_pos (by omega), E51 _ (by omega), en, (by omega : 18 + 7 * (j / 2) = 16 + 7 * (j / 2) + 2)]
        exact t2
      · have en : n0 G vc j = 0 := by
          unfold n0
          by_cases q2 : j < 12 ∧ j % 2 = 0
          · rw [if_pos q2, if_neg (by omega)]
          · rw [if_neg q2, if_neg q1]
        rw [if_neg (by omega), e3 j (by omega), en]
        exact sn_0
  · rw [V55, if_neg (by omega), f3, if_neg (by omega), e3 23 (by omega)]
    exact sn_0
  · rw [vV, if_neg (by omega), if_neg (by omega), if_neg (by omega), vA, if_neg (by omega), if_neg (by omega), if_pos rfl]
    exact sn_0
  · rw [vV, if_neg (by omega), if_neg (by omega), if_pos rfl]
    exact sn_0
  · rw [vV, if_neg (by omega), if_pos rfl]
    exact sn_0
  · rw [vV, if_pos rfl]
    exact sn_0
/-- both move in -/
theorem tx0 (hR : jR o H W M K c L E cn Q im NI LI hI tn tb wh S T) (hC : jr_C T H M K W) (h : hg (1 - o) rt lc vc G S T) (hw : hwh lc vc G) : jX (ax_bu (f_X10_cut (0 : Int32) S) (fun (_ : Int32) (S8 : AS) => (f_X11_moveIn S8).bind (fun (S13 : AS) => some ((ax_fi S13 4 (ax_fx S13 11 0 14) 5), S13)))) (tk0 (ax_sfi T 12 0 6 (0 : Int32))) := by
  obtain ⟨Z, z1, fz, zH, zS, z71, z72, z33, z19, z10⟩ := mv_c hR h hw
  obtain ⟨V, v1, fv, vH, vS, v23, v6, v47, v39, v49⟩ := mv_r h
  have e22 : n0 G vc 22 = 0 := n0_z (by omega) (by omega)
  obtain ⟨_, ⟨l0, l1⟩, hm, hlt, hW⟩ := hC
  refine ⟨nI vc, Z, V, z1, v1, jI_mk (o := 1 - o) (H := h0' G lc vc) (N := n0 G vc) (W := W) (M := M) (K := K) (c := c) (L := L) (E := E) (cn := 0) (Q := Q) (im := 0) (NI := NI) (LI := LI) (hI := hI) (tn := 0) (tb := tb) (wh := wh) (n := 0) (ca := 0) (P := fun _ _ => 0) (Lg := fun _ => 0) (hi := 0) ⟨h0_ok h hw, zH, jz_f fz fv (by decide) (by decide) hR.2.2.1, jp_f fz fv (by decide) (by decide) hR.2.2.2.1, ⟨by omega, z33, v47, fun j hj => absurd hj (by omega)⟩, ⟨by omega, z19, v49, fun e => absurd e (by omega)⟩, ⟨by omega, z10, v6, fun p hp => absurd hp (by omega)⟩, jwh_f fz fv (by decide) (by decide) hR.2.2.2.2.2.2.2⟩ ⟨vH, ⟨l0, fun k hk => ?_⟩, fun q hq => ?_, ?_, ?_⟩ ⟨n0_ok h, zS, vS, ⟨by omega, by omega, z71, z72, v39, fun a ha => absurd ha (by omega)⟩, fun d hd => ?_, ?_, ?_⟩⟩
  · rw [fv.2.2.2.2.1 45 0 (by decide), fv.2.2.2.2.1 44 1 (by decide)]
    exact l1 k hk
  · rw [fv.2.2.2.2.2 57 0 (by decide), fv.2.2.2.2.1 58 0 (by decide)]
    exact hm q hq
  · unfold jr_lt
    rw [fv.2.2.2.2.1 46 0 (by decide)]
    exact hlt
  · have f34 : ax_fi V 12 0 34 = ax_fi T 12 0 34 := fv.1 12 0 34 (by decide)
    match W, hW with
    | none, hW => exact f34.trans hW
    | some cs', ⟨k, a, b, c⟩ => exact ⟨k, a, f34.trans b, c⟩
  · rw [e22] at hd
    exact absurd hd (by omega)
  · unfold jl_r
    rw [e22, (by omega : min 60 0 = 0)]
    exact ⟨v23, fun p hp => absurd hp (by omega)⟩
  · unfold jd
    rw [e22]
    exact ⟨by omega, by omega, fun a ha => absurd ha (by omega), fun _ => ⟨rfl, rfl⟩⟩
theorem x_text (h : jI S T) (a : Int32) : jX (f_X11_text a S) (f_X12_text a T) := by
  obtain ⟨o, H, N, W, M, K, c, L, E, cn, Q, im, NI, LI, hI, tn, tb, wh, n, ca, P, Lg, hi, hR, hC, hA⟩ := h
  have gt : rgC T (ax_sfi T 12 0 0 0) H M K W := rg_th
  have hR1 := jR_g (cg0.rf (o := o) (M := M) (c := c) (S := S)) gt.1 hR
  have hC1 := gt.2.2 hC
  have hA1 := jA_g (cg1.rf (S := S)) gt.2.1 hA
  have n01 : ¬ ((0 : Int32) = 1) := by decide
  have n02 : ¬ ((0 : Int32) = 2) := by decide
  have n12 : ¬ ((1 : Int32) = 2) := by decide
  have n20 : ¬ ((2 : Int32) = 0) := by decide
  have n21 : ¬ ((2 : Int32) = 1) := by decide
  have r4 : ∀ {m : Nat}, m ≤ 4 → ((nI m = (4 : Int32)) ↔ m = 4) := fun h => nI_eq (b := 4) (by omega) (by omega)
  unfold f_X11_text f_X12_text
  rcases fsort a with rfl | rfl | rfl | ⟨h0, h1, h2, q⟩
  · obtain ⟨r, Z, Y, e1, e2, g, q, d⟩ := flt0 hR1
    have hR2 := jR_g g.1 q.1 hR1
    have hC2 := q.2.2 hC1
    have hA2 := jA_g g.2 q.2.1 hA1
    have i1 : f_X12_isIn ((0 : Int32).toInt64) 0 2 (ax_sfi T 12 0 0 0) = some 1 := by rw [ii]; rfl
    rw [if_neg n01, if_neg n02, e1, ax_bu_s, sn_let, i1, sn_bs, if_neg ne10, if_neg n01, if_neg n02, e2, ax_bu_s]
    rcases d with d | ⟨d, rt, lc, vc, G, d1, d2⟩
    · rw [if_neg d, if_neg d]
      exact ⟨_, Z, Y, rfl, rfl, jI_mk hR2 hC2 hA2⟩
    · obtain ⟨r', S', T', t1, t2, t3⟩ := tx0 hR2 hC2 d1 d2
      have ht := hR2.2.2.2.2.2.2.1
      rw [cut0 ht.1 ht.2.1, ax_bu_s] at t1
      refine ⟨r', S', T', ?_, ?_, t3⟩
      · rw [if_pos d, cut0 ht.1 ht.2.1, ax_bu_s, if_pos rfl]
        exact t1
      · rw [if_pos d, sn_let, sn_let, if_neg n01, if_neg n02]
        exact t2
  · have hz := hR1.2.2.1
    have hM := hz.1
    have i1 : f_X12_isIn ((1 : Int32).toInt64) 0 2 (ax_sfi T 12 0 0 0) = some 1 := by rw [ii]; rfl
    have c4 : ((4 : Int32) ≤ nI M) ↔ 4 ≤ M := nI_leI (a := 4) (by omega) (by omega)
    rw [if_pos rfl, hz.2.1, sn_let, i1, sn_bs, if_neg ne10]
    by_cases q4 : M = 4
    · rw [if_pos (c4.mpr (by omega)), if_pos rfl, hz.2.2.1, if_pos ((r4 hM).mpr q4)]
      exact ⟨_, S, _, rfl, rfl, jI_mk hR1 hC1 hA1⟩
    · obtain ⟨r, Z, Y, e1, e2, g, q, d⟩ := flt1 hR1 hC1
      have hR2 := jR_g g.1 q.1 hR1
      have hC2 := q.2.2 hC1
      have hA2 := jA_g g.2 q.2.1 hA1
      rw [if_neg (fun z => absurd (c4.mp z) (by omega)), if_neg n12, e1, ax_bu_s, if_pos rfl, hz.2.2.1, if_neg (fun z => q4 ((r4 hM).mp z)), if_neg n12, e2, ax_bu_s]
      rcases d with d | ⟨d, cs, d1, d2⟩
      · rw [if_neg d, if_neg d]
        exact ⟨_, Z, Y, rfl, rfl, jI_mk hR2 hC2 hA2⟩
      · obtain ⟨r', S', T', t1, t2, t3⟩ := tx1 hR2 hC2 hA2 (by omega) d1 d2
        have ht := hR2.2.2.2.2.2.2.1
        rw [cut0 ht.1 ht.2.1, ax_bu_s] at t1
        rw [sn_let, sn_let] at t2
        refine ⟨r', S', T', ?_, ?_, t3⟩
        · rw [if_pos d, cut0 ht.1 ht.2.1, ax_bu_s, if_neg ne10, if_pos rfl]
          exact t1
        · rw [if_pos d, sn_let, sn_let, if_pos rfl]
          exact t2
  · have hp := hR1.2.2.2.1
    have hc := hp.1
    have i1 : f_X12_isIn ((2 : Int32).toInt64) 0 2 (ax_sfi T 12 0 0 0) = some 1 := by rw [ii]; rfl
    have c4 : (nI c < (4 : Int32)) ↔ c < 4 := nI_ltI (b := 4) (by omega) (by omega)
    rw [if_neg n21, if_pos rfl, hp.2.1, sn_let, i1, sn_bs, if_neg ne10, if_neg n21]
    by_cases q4 : c = 4
    · rw [if_neg (fun z => absurd (c4.mp z) (by omega)), if_pos rfl, hp.2.2.1, if_pos ((r4 hc).mpr q4)]
      exact ⟨_, S, _, rfl, rfl, jI_mk hR1 hC1 hA1⟩
    · obtain ⟨r, Z, Y, e1, e2, g, q, d⟩ := flt2 hR1
      have hR2 := jR_g g.1 q.1 hR1
      have hC2 := q.2.2 hC1
      have hA2 := jA_g g.2 q.2.1 hA1
      rw [if_pos (c4.mpr (by omega)), e1, ax_bu_s, if_pos rfl, hp.2.2.1, if_neg (fun z => q4 ((r4 hc).mp z)), e2, ax_bu_s]
      rcases d with d | ⟨d, k, E2, d1, d2⟩
      · rw [if_neg d, if_neg d]
        exact ⟨_, Z, Y, rfl, rfl, jI_mk hR2 hC2 hA2⟩
      · obtain ⟨r', S', T', t1, t2, t3⟩ := tx2 hR2 hC2 hA2 (by omega) d1 d2
        have ht := hR2.2.2.2.2.2.2.1
        rw [cut0 ht.1 ht.2.1, ax_bu_s] at t1
        rw [sn_let, sn_let] at t2
        refine ⟨r', S', T', ?_, ?_, t3⟩
        · rw [if_pos d, cut0 ht.1 ht.2.1, ax_bu_s, if_neg n20, if_neg n21]
          exact t1
        · rw [if_pos d, sn_let, sn_let, if_neg n21, if_pos rfl]
          exact t2
  · have m2 : ¬ ((Int8.ofInt (-2)).toInt32 = Int32.ofInt (-1)) := by decide
    unfold f_X11_fault
    rw [if_neg h1, if_neg h2, if_neg h0, if_neg h1, if_neg h2, ax_bu_s, if_neg m2, sn_let, q, sn_bs, if_pos rfl]
    exact ⟨_, S, _, rfl, rfl, jI_mk hR1 hC1 hA1⟩
end

/-! QUERIES: ask -/
def af (k : Nat) : Int32 := Int32.ofInt ((k : Int) - 6)
theorem af_p : ∀ k, k < 12 → af k + 1 = af (k + 1) := by decide +kernel
theorem af_m : ∀ k, k < 13 → 0 < k → af k + Int32.ofInt (-1) = af (k - 1) := by decide +kernel
theorem af_a : ∀ k, k < 13 → (if (0 : Int32) ≤ af k then some (af k) else some (-(af k))) = some (nI (if k < 6 then 6 - k else k - 6)) := by decide +kernel
theorem af_0 : (0 : Int32) = af 6 := by decide +kernel
theorem an1 (x : Int32) : x &&& 1 = 0 ∨ x &&& 1 = 1 := by
  obtain ⟨j, hj, e⟩ := pk_andE x (m := 1) 1 rfl
  rcases (by omega : j = 0 ∨ j = 1) with rfl | rfl
  · exact .inl e
  · exact .inr e
section
variable {S T S1 T1 : AS} {o : Nat} {H N : Nat → Nat} {W : Option (List la_C)} {M : Nat} {K : Nat → List la_C} {c : Nat} {Q : Nat → Nat}
theorem q_leanL {v b : Nat} (hv : v < H 4) (hb : b ≤ 60) {g y z : Int32} {Kc : Int32 → AS → Option (Int32 × AS)} {Kr : Int32 → Int32 → Int32 → Int32 → Int32 → Int32 → AS → Option (Int32 × AS)} : ∀ d n p k S T, jq o H N W M K S T → p + d = 6 → d < n → 6 ≤ k + p → k ≤ 6 + p → ∃ k' Z Y, k' < 13 ∧ f_X11_howFarApart_L6 Kc n (nI v) g (nI b) (af k) (nI p) S = Kc (af k') Z ∧ f_X12_ask_L56 Kr n (nI b) y z (nI v) g (af k) (nI p) T = Kr (nI b) y z (nI v) g (af k') Y ∧ ax_fr jc_scr S Z ∧ ax_fr jr_q T Y ∧ jr_C Y H M K W ∧ jq o H N W M K Z Y
  | 0, n + 1, p, k, S, T, h, hp, _, k1, k2 => by
    obtain rfl : p = 6 := by omega
    rw [f_X11_howFarApart_L6, f_X12_ask_L56, if_pos (by decide : (5 : Int32) < nI 6), if_pos (by decide : (6 : Int32) ≤ nI 6)]
    exact ⟨k, S, T, by omega, rfl, rfl, ax_fr.rf, ax_fr.rf, h.2.2.2.2.1, h⟩
  | d + 1, n + 1, p, k, S, T, h, hp, hn, k1, k2 => by
    have c5 : ((5 : Int32) < nI p) ↔ 5 < p := nI_ltI (a := 5) (by omega) (by omega)
    have c6 : ((6 : Int32) ≤ nI p) ↔ 6 ≤ p := nI_leI (a := 6) (by omega) (by omega)
    have bb : bh H W v p ≤ 60 := bt_b.2
    unfold f_X12_ask_L56
    rw [f_X11_howFarApart_L6, if_neg (fun z => absurd (c5.mp z) (by omega)), if_neg (fun z => absurd (c6.mp z) (by omega))]
    unfold f_X12_has
    rcases an1 (g >>> (nI p &&& 31)) with e | e
    · rw [e, if_pos rfl, if_neg ne01, sn_bs, if_pos rfl, sn_let, sn_let, nI_1]
      exact q_leanL hv hb d n (p + 1) k S T h (by omega) (by omega) (by omega) (by omega)
    · obtain ⟨Z, Y, z1, y1, z2, y2, y3, hq⟩ := jq_heard h hv (a := p) (by omega)
      unfold f_X12_isLonger
      rw [e, if_neg ne10, if_pos rfl, sn_bs, if_neg ne10, z1, ax_bu_s, y1, ax_bu_s]
      by_cases hl : bh H W v p < b
      · rw [if_pos ((nI_ltI (by omega) (by omega)).mpr hl), if_pos ((nI_ltI (by omega) (by omega)).mpr hl), ax_bu_s, if_pos rfl, sn_let, sn_let, sn_let, sn_let, nI_1, af_m k (by omega) (by omega)]
        obtain ⟨k', Z', Y', a0, a1, a2, a3, a4, a5, a6⟩ := q_leanL (Kc := Kc) (Kr := Kr) (g := g) (y := y) (z := z) hv hb d n (p + 1) (k - 1) Z Y hq (by omega) (by omega) (by omega) (by omega)
        exact ⟨k', Z', Y', a0, a1, a2, z2.tr a3, y2.tr a4, a5, a6⟩
      · rw [if_neg (fun z => hl ((nI_ltI (by omega) (by omega)).mp z)), if_neg (fun z => hl ((nI_ltI (by omega) (by omega)).mp z)), ax_bu_s, if_neg ne10, sn_let, sn_let, sn_let, sn_let, nI_1, af_p k (by omega)]
        obtain ⟨k', Z', Y', a0, a1, a2, a3, a4, a5, a6⟩ := q_leanL (Kc := Kc) (Kr := Kr) (g := g) (y := y) (z := z) hv hb d n (p + 1) (k + 1) Z Y hq (by omega) (by omega) (by omega) (by omega)
        exact ⟨k', Z', Y', a0, a1, a2, z2.tr a3, y2.tr a4, a5, a6⟩
theorem q_askL {b : Nat} (hb : b ≤ 60) : ∀ d n p (m x y : Int32) S T, jq o H N W M K S T → jo S T c Q → p + d = H 4 → d < n → ((m = Int32.ofInt (-1) ∧ x = 7) ∨ (m ≠ Int32.ofInt (-1) ∧ x = y)) → qq H W M K S T (f_X11_ask_L24 (fun (x15 : Int32) (S34 : AS) => some (x15, S34)) n (nI b) m x (nI p) S) (f_X12_ask_L33 (fun (x12 : Int32) (S61 : AS) => some (x12, S61)) n (nI b) m y (nI p) T)
  | 0, n + 1, p, m, x, y, S, T, h, hj, hp, _, _ => by
    have h6 : H 4 ≤ 6 := h.1.2.2.2.2.1
    rw [f_X11_ask_L24, f_X12_ask_L33, h.2.2.1.1.2.1, h.2.2.1.1.2.2.2.2.2.1, h.2.2.2.2.1.1.2.1, if_pos ((nI_leI (by omega) (by omega)).mpr (by omega)), if_pos ((nI_leI (by omega) (by omega)).mpr (by omega))]
    exact qq_none h
  | d + 1, n + 1, p, m, x, y, S, T, h, hj, hp, hn, hm => by
    have h6 : H 4 ≤ 6 := h.1.2.2.2.2.1
    have hv : p < H 4 := by omega
    obtain ⟨g, S2, T2, f1, f2, f3, f4, f5⟩ := q_fit h hj hv
    have h2 := jq_fr h f3 f4 f5
    have hj2 := jo_fr hj f3 f4
    have np : nI p ≠ Int32.ofInt (-1) := lc_nd (by omega)
    obtain ⟨k, Z, Y, k1, z1, y1, z2, y2, y3, hq⟩ := q_leanL (g := g) (y := m) (z := y) (Kc := (fun (x6 : Int32) (S20 : AS) => (f_J9_abs_0f7a4 x6 S20).bind (fun (r24 : Int32) => some (r24, S20)))) (Kr := (fun (x26 : Int32) (x27 : Int32) (x28 : Int32) (x29 : Int32) (x30 : Int32) (x31 : Int32) (S49 : AS) => (f_J9_abs_0f7a4 x31 S49).bind (fun (r53 : Int32) => (if x30 = (0 : Int32) then ax_let (x29 + (1 : Int32)) (fun (v55 : Int32) => f_X12_ask_L33 (fun (x12 : Int32) (S61 : AS) => some (x12, S61)) n x26 x27 x28 v55 S49) else (if x27 = (Int32.ofInt (-1)) then ax_let (x29 + (1 : Int32)) (fun (v57 : Int32) => f_X12_ask_L33 (fun (x12 : Int32) (S61 : AS) => some (x12, S61)) n x26 x29 r53 v57 S49) else (if r53 < x28 then ax_let (x29 + (1 : Int32)) (fun (v59 : Int32) => f_X12_ask_L33 (fun (x12 : Int32) (S61 : AS) => some (x12, S61)) n x26 x29 r53 v59 S49) else ax_let (x29 + (1 : Int32)) (fun (v60 : Int32) => f_X12_ask_L33 (fun (x12 : Int32) (S61 : AS) => some (x12, S61)) n x26 x27 x28 v60 S49))))))) hv hb 6 ax_F 0 6 S2 T2 h2 (by omega) (by show _ < 1000000; omega) (by omega) (by omega)
    rw [← af_0, ← sn_0] at z1 y1
    have eA : ∀ U : AS, f_J9_abs_0f7a4 (af k) U = some (nI (if k < 6 then 6 - k else k - 6)) := fun U => af_a k k1
    have hjq := jo_fr hj2 z2 y2
    have fr1 := f3.tr z2
    have fr2 := f4.tr y2
    unfold f_X11_ask_L24 f_X12_ask_L33
    rw [h.2.2.1.1.2.1, h.2.2.1.1.2.2.2.2.2.1, h.2.2.2.2.1.1.2.1, if_neg (fun z => absurd ((nI_leI (by omega) (by omega)).mp z) (by omega)), if_neg (fun z => absurd ((nI_leI (by omega) (by omega)).mp z) (by omega)), f1, ax_bu_s, f2, ax_bu_s, y1, eA, sn_bs]
    unfold f_X11_howFarApart
    rw [z1, eA, sn_bs, ax_bu_s]
    generalize hR : (if k < 6 then 6 - k else k - 6) = R
    have R6 : R ≤ 6 := by rw [← hR]; split <;> omega
    by_cases eg : g = 0
    · rw [if_pos eg, if_pos eg, sn_let, sn_let, nI_1]
      exact qq_tr fr1 fr2 (q_askL hb d n (p + 1) m x y Z Y hq hjq (by omega) (by omega) hm)
    · rw [if_neg eg, if_neg eg]
      rcases hm with ⟨em, ex⟩ | ⟨em, ex⟩
      · have c7 : ¬ (x ≤ nI R) := by
          rw [ex, sn_7, nI_leI (by omega) (by omega)]; omega
        rw [if_neg c7, if_pos em, sn_let, sn_let, nI_1]
        exact qq_tr fr1 fr2 (q_askL hb d n (p + 1) (nI p) (nI R) (nI R) Z Y hq hjq (by omega) (by omega) (.inr ⟨np, rfl⟩))
      · subst ex
        rw [if_neg em]
        by_cases l : x ≤ nI R
        · rw [if_pos l, if_neg (Int32.not_lt.mpr l), sn_let, sn_let, nI_1]
          exact qq_tr fr1 fr2 (q_askL hb d n (p + 1) m x x Z Y hq hjq (by omega) (by omega) (.inr ⟨em, rfl⟩))
        · rw [if_neg l, if_pos (Int32.not_le.mp l), sn_let, sn_let, nI_1]
          exact qq_tr fr1 fr2 (q_askL hb d n (p + 1) (nI p) (nI R) (nI R) Z Y hq hjq (by omega) (by omega) (.inr ⟨np, rfl⟩))
theorem q_ask (h : jq o H N W M K S T) (hj : jo S T c Q) (b : Int32) : qq H W M K S T (f_X11_ask b S) (f_X12_ask b T) := by
  unfold f_X11_ask f_X12_ask
  have h1 := jq_thr (v := 0) h
  have hj1 : jo S (ax_sfi T 12 0 0 0) c Q := jo_fr hj ax_fr.rf jr_thr
  have h6 : H 4 ≤ 6 := h.1.2.2.2.2.1
  rw [sn_let, jc_noH h, sn_bs]
  refine qq_tr ax_fr.rf (jr_thr (v := 0)) ?_
  have c1 : (b < 1) ↔ b.toInt < ((1 : Nat) : Int) := lt_i rfl
  have c60 : (b ≤ 60) ↔ b.toInt ≤ ((60 : Nat) : Int) := le_i rfl
  by_cases h0 : H 4 = 0
  · rw [if_pos h0, if_neg ne10, if_pos ((jr_no0 h1).mpr h0)]
    exact qq_none h1
  · rw [if_neg h0, if_pos rfl, if_neg (fun z => h0 ((jr_no0 h1).mp z))]
    unfold f_X11_outOfBeats
    rcases rg i_1 i_60 b with ⟨n, n1, n2, rfl, q⟩ | ⟨n1, q⟩
    · rw [nIi (by omega)] at c1 c60
      rw [q, sn_bs, if_neg ne10, if_neg (fun z => absurd (c1.mp z) (by omega)), if_pos (c60.mpr (by omega)), sn_bs, if_pos rfl]
      have w := q_askL (b := n) n2 (H 4) ax_F 0 (Int32.ofInt (-1)) 7 0 S _ h1 hj1 (by omega) (by show _ < 1000000; omega) (.inl ⟨rfl, rfl⟩)
      rw [← sn_0] at w
      exact w
    · rw [q, sn_bs, if_pos rfl]
      by_cases z : b < 1
      · rw [if_pos z, sn_bs, if_neg ne10]; exact qq_none h1
      · rw [if_neg z, if_neg (fun z2 => by have := c60.mp z2; have w : ¬ (b.toInt < ((1 : Nat) : Int)) := fun w => z (c1.mpr w); omega), sn_bs, if_neg ne10]
        exact qq_none h1
end

/-! QUERIES: class and reference side by side -/
abbrev jr_q : List (Nat × Nat × Nat) := (0, 12, 0) :: jr_scr
def jq (o : Nat) (H N : Nat → Nat) (W : Option (List la_C)) (M : Nat) (K : Nat → List la_C) (S T : AS) : Prop := jh_ok H ∧ jn_ok H N ∧ jc_C S o H W ∧ jc_S S 0 N ∧ jr_C T H M K W ∧ jr_S (ax_ai T 55 0) N
/-- the same answer; nothing but scratch has changed -/
def qq (H : Nat → Nat) (W : Option (List la_C)) (M : Nat) (K : Nat → List la_C) (S T : AS) (x y : Option (Int32 × AS)) : Prop := ∃ r S' T', x = some (r, S') ∧ y = some (r, T') ∧ ax_fr jc_scr S S' ∧ ax_fr jr_q T T' ∧ jr_C T' H M K W
section
variable {S T S1 T1 : AS} {o : Nat} {H N : Nat → Nat} {W : Option (List la_C)} {M : Nat} {K : Nat → List la_C} {x y : Option (Int32 × AS)}
theorem jr_q_of (h : ax_fr jr_scr T T1) : ax_fr jr_q T T1 := h.mono (by decide)
theorem jr_q55 (h : ax_fr jr_q T T1) : ax_ai T1 55 0 = ax_ai T 55 0 := h.2.2.2.2.1 55 0 (by decide)
theorem jq_fr (h : jq o H N W M K S T) (hs : ax_fr jc_scr S S1) (ht : ax_fr jr_q T T1) (hC : jr_C T1 H M K W) : jq o H N W M K S1 T1 := ⟨h.1, h.2.1, jc_C_fr hs h.2.2.1, jc_S_fr hs h.2.2.2.1, hC, by rw [jr_q55 ht]; exact h.2.2.2.2.2⟩
theorem qq_tr (hs : ax_fr jc_scr S S1) (ht : ax_fr jr_q T T1) (h : qq H W M K S1 T1 x y) : qq H W M K S T x y := by
  obtain ⟨r, S', T', h1, h2, h3, h4, h5⟩ := h
  exact ⟨r, S', T', h1, h2, hs.tr h3, ht.tr h4, h5⟩
theorem jr_C_thr {v : Int32} (hC : jr_C T H M K W) : jr_C (ax_sfi T 12 0 0 v) H M K W := by
  obtain ⟨⟨h0, h1, h2, h3, h4⟩, hl, hm, hlt, hW⟩ := hC
  refine ⟨⟨?_, ?_, h2, h3, h4⟩, hl, hm, hlt, ?_⟩
  · rw [sg, if_neg (by omega)]; exact h0
  · rw [sg, if_neg (by omega)]; exact h1
  · match W, hW with
    | none, hW =>
      show ax_fi (ax_sfi T 12 0 0 v) 12 0 34 = _
      rw [sg, if_neg (by omega)]; exact hW
    | some cs, ⟨k, a, b, c⟩ =>
      refine ⟨k, a, ?_, c⟩
      rw [sg, if_neg (by omega)]; exact b
theorem jr_thr {v : Int32} : ax_fr jr_q T (ax_sfi T 12 0 0 v) := ax_fr_sfi (by decide)
theorem jq_thr {v : Int32} (h : jq o H N W M K S T) : jq o H N W M K S (ax_sfi T 12 0 0 v) := jq_fr h ax_fr.rf jr_thr (jr_C_thr h.2.2.2.2.1)
/-- both name's lengths -/
theorem jq_b (h : jq o H N W M K S T) {v a t g s d : Nat} (hv : v < H 4) (ha : a ≤ 9) (ht : t ≤ 9) (hg : g ≤ 19) (hs : s ≤ 1) (hd : d ≤ 1999) : ∃ Z Y, f_X6_beats (nI v) (nI a) (nI t) (nI g) (nI s) (nI d) S = some (nI (bt H W v a t g s d), Z) ∧ f_X12_takes_ (nI v) (nI a) (nI t) (nI g) (nI s) (nI d) T = some (nI (bt H W v a t g s d), Y) ∧ ax_fr jc_scr S Z ∧ ax_fr jr_q T Y ∧ jr_C Y H M K W ∧ jq o H N W M K Z Y := by
  obtain ⟨Z, z1, z2⟩ := jc_beats h.2.2.1.1 h.1 h.2.2.1.2 hv ha ht hg hs (d := d)
  obtain ⟨Y, y1, y2, y3⟩ := jr_takes h.1 h.2.2.2.2.1 hv ha ht hg hs hd
  exact ⟨Z, Y, z1, y1, z2, jr_q_of y2, y3, jq_fr h z2 (jr_q_of y2) y3⟩
theorem jq_now (h : jq o H N W M K S T) {v : Nat} (hv : v < H 4) : ∃ Z Y, f_X6_beatsNow 0 (nI v) S = some (nI (cn_b H W N v), Z) ∧ f_X12_takesIn_55x0 (nI v) T = some (nI (cn_b H W N v), Y) ∧ ax_fr jc_scr S Z ∧ ax_fr jr_q T Y ∧ jr_C Y H M K W ∧ jq o H N W M K Z Y := by
  obtain ⟨Z, z1, z2⟩ := jc_bnow h.1 h.2.1 h.2.2.1 h.2.2.2.1 hv
  obtain ⟨Y, y1, y2, y3⟩ := jr_in55 h.1 h.2.1 h.2.2.2.2.1 h.2.2.2.2.2 hv
  exact ⟨Z, Y, z1, y1, z2, jr_q_of y2, y3, jq_fr h z2 (jr_q_of y2) y3⟩
/-- facts of numbers -/
theorem jq_n (h : jq o H N W M K S T) {v : Nat} (hv : v < H 4) : v < 6 ∧ H (17 + 7 * v) ≤ 5 ∧ N (2 * v) ≤ 3 ∧ N 17 ≤ 6 ∧ N 18 ≤ 1 ∧ N 22 ≤ 999 ∧ 1 ≤ H (19 + 7 * v) ∧ H (19 + 7 * v) ≤ 30 ∧ H (20 + 7 * v) ≤ 9 := by
  have h6 : H 4 ≤ 6 := h.1.2.2.2.2.1
  have b1 := h.1.2.2.2.2.2.2 v hv
  have h2 := h.2.1.1 v (by omega)
  have ht := cn_tired h.2.1
  have h18 : N 18 ≤ 1 := h.2.1.2.2.2.2.2.2.1
  have h22 : N 22 ≤ 999 := h.2.1.2.2.2.2.2.2.2.2.2.2
  omega
theorem jc_noC (hH : jc_H S o H) (ho : jh_ok H) (a : Int32) : (∃ v, v < H 4 ∧ a = nI v ∧ f_X11_noSuchCaller a S = some 0) ∨ ((∀ v, v < H 4 → a ≠ nI v) ∧ f_X11_noSuchCaller a S = some 1) := by
  have h6 : H 4 ≤ 6 := ho.2.2.2.2.1
  unfold f_X11_noSuchCaller
  rw [hH.2.1, hH.2.2.2.2.2.1]
  rcases pk_ix a (n := H 4) (by omega) with q | q | ⟨j, h1, h2⟩
  · refine .inr ⟨fun v hv e => ?_, if_pos q⟩
    rw [e] at q
    exact nI_pos (by omega) q
  · refine .inr ⟨fun v hv e => ?_, ?_⟩
    · rw [e] at q
      have := (nI_leI (by omega) (by omega)).mp q
      omega
    · have q2 : ¬ (a < nI (H 4)) := fun z => Int32.lt_irrefl (Int32.lt_of_lt_of_le z q)
      rw [if_neg q2]
      split <;> rfl
  · refine .inl ⟨j, h1, h2, ?_⟩
    rw [h2, if_neg (nI_pos (by omega)), if_pos ((nI_ltI (by omega) (by omega)).mpr h1)]
theorem jr_ofw (h : jq o H N W M K S T) {v : Nat} (hv : v < H 4) : f_X12_of (nI v) 3 T = some (nI (H (19 + 7 * v))) ∧ f_X12_of (nI v) 1 T = some (nI (H (17 + 7 * v))) ∧ f_X12_of (nI v) 4 T = some (nI (H (20 + 7 * v))) := by
  have e3 := jr_of h.2.2.2.2.1.1 h.1 hv (w := 3) (by omega)
  rw [← sn_3, (by omega : 16 + 7 * v + 3 = 19 + 7 * v)] at e3
  have e1 := jr_of h.2.2.2.2.1.1 h.1 hv (w := 1) (by omega)
  rw [← sn_1, (by omega : 16 + 7 * v + 1 = 17 + 7 * v)] at e1
  have e4 := jr_of h.2.2.2.2.1.1 h.1 hv (w := 4) (by omega)
  rw [← sn_4, (by omega : 16 + 7 * v + 4 = 20 + 7 * v)] at e4
  exact ⟨e3, e1, e4⟩
theorem qq_none (h : jq o H N W M K S T) {r : Int32} : qq H W M K S T (some (r, S)) (some (r, T)) := ⟨r, S, T, rfl, rfl, ax_fr.rf, ax_fr.rf, h.2.2.2.2.1⟩
/-! mean -/
theorem q_meanL {v : Nat} (hv : v < H 4) : ∀ d n p b S T, jq o H N W M K S T → p + d = 6 → d < n → b ≤ 60 * p → qq H W M K S T (f_X11_mean_L14 (fun (x9 : Int32) (S18 : AS) => some ((((100 : Int32) * x9) / (6 : Int32)), S18)) n (nI v) (nI b) (nI p) S) (f_X12_mean_L19 (fun (x10 : Int32) (S19 : AS) => some ((((100 : Int32) * x10) / (6 : Int32)), S19)) n (nI v) (nI b) (nI p) T)
  | 0, n + 1, p, b, S, T, h, hp, _, _ => by
    obtain rfl : p = 6 := by omega
    rw [f_X11_mean_L14, f_X12_mean_L19, if_pos (by decide), if_pos (by decide)]
    exact qq_none h
  | d + 1, n + 1, p, b, S, T, h, hp, hn, hb => by
    have f := jq_n h hv
    have c5 : ((5 : Int32) < nI p) ↔ 5 < p := nI_ltI (a := 5) (by omega) (by omega)
    have c6 : ((6 : Int32) ≤ nI p) ↔ 6 ≤ p := nI_leI (a := 6) (by omega) (by omega)
    obtain ⟨Z, Y, z1, y1, z2, y2, y3, hq⟩ := jq_b h (v := v) (a := p) (t := N (2 * v)) (g := N 17) (s := N 18) (d := N 22) hv (by omega) (by omega) (by omega) (by omega) (by omega)
    have hS := h.2.2.2.1
    have hR := h.2.2.2.2.2
    have eB : f_X6_beatsHard 0 (nI v) (nI p) S = some (nI (bt H W v p (N (2 * v)) (N 17) (N 18) (N 22)), Z) := by
      unfold f_X6_beatsHard
      rw [jc_titles hS (by omega), sn_bs, hS.2.2.2.1, hS.2.2.2.2.1, hS.2.2.2.2.2.2.2.1, z1, ax_bu_s]
    have eT : f_X12_takesHard (nI v) (nI p) T = some (nI (bt H W v p (N (2 * v)) (N 17) (N 18) (N 22)), Y) := by
      unfold f_X12_takesHard
      rw [ix_e, sn_in (by omega) (by omega), sn_gd, in_17, sn_gd, in_18, sn_gd, in_22, sn_gd, nI_clamp (by omega), cl_17, cl_18, cl_22, hR _ (by omega), hR 17 (by omega), hR 18 (by omega), hR 22 (by omega), y1, ax_bu_s]
    have bb : bt H W v p (N (2 * v)) (N 17) (N 18) (N 22) ≤ 60 := bt_b.2
    rw [f_X11_mean_L14, f_X12_mean_L19, if_neg (fun q => absurd (c5.mp q) (by omega)), if_neg (fun q => absurd (c6.mp q) (by omega)), eB, ax_bu_s, eT, ax_bu_s, sn_let, sn_let, sn_let, sn_let, nI_add, nI_1]
    exact qq_tr z2 y2 (q_meanL hv d n (p + 1) _ Z Y hq (by omega) (by omega) (by omega))
theorem q_mean (h : jq o H N W M K S T) (a : Int32) : qq H W M K S T (f_X11_mean a S) (f_X12_mean a T) := by
  unfold f_X11_mean f_X12_mean
  have h1 := jq_thr (v := 0) h
  rw [sn_let]
  rcases jc_noC h.2.2.1.1 h.1 a with ⟨v, hv, rfl, e⟩ | ⟨hx, e⟩
  · rw [e, sn_bs, if_pos rfl, jr_isC h1.2.2.2.2.1.1 h.1 hv, sn_bs, if_neg (by decide)]
    have q := q_meanL hv 6 ax_F 0 0 S _ h1 (by omega) (by show _ < 1000000; omega) (by omega)
    rw [← sn_0] at q
    exact qq_tr ax_fr.rf jr_thr q
  · rw [e, sn_bs, if_neg (by decide), jr_isC0 h1.2.2.2.2.1.1 h.1 hx, sn_bs, if_pos rfl]
    exact qq_tr ax_fr.rf jr_thr (qq_none h1)
/-! needs -/
theorem q_needsL {v : Nat} (hv : v < H 4) : ∀ d n p S T, jq o H N W M K S T → p + d = 4 → d < n → qq H W M K S T (f_X11_needs_L12 n (nI v) (nI p) S) (f_X12_needs_L17 n (nI v) (nI p) T)
  | 0, n + 1, p, S, T, h, hp, _ => by
    obtain rfl : p = 4 := by omega
    rw [f_X11_needs_L12, f_X12_needs_L17, if_pos (by decide), if_pos (by decide)]
    exact qq_none h
  | d + 1, n + 1, p, S, T, h, hp, hn => by
    have f := jq_n h hv
    have c3 : ((3 : Int32) < nI p) ↔ 3 < p := nI_ltI (a := 3) (by omega) (by omega)
    have c4 : ((4 : Int32) ≤ nI p) ↔ 4 ≤ p := nI_leI (a := 4) (by omega) (by omega)
    obtain ⟨Z, Y, z1, y1, z2, y2, y3, hq⟩ := jq_b h (v := v) (a := H (17 + 7 * v)) (t := p) (g := N 17) (s := N 18) (d := N 22) hv (by omega) (by omega) (by omega) (by omega) (by omega)
    have hS := h.2.2.2.1
    have hR := h.2.2.2.2.2
    have eh := jc_hards h.2.2.1.1 h.1 hv
    rw [(by omega : 16 + 7 * v + 1 = 17 + 7 * v)] at eh
    have eB : f_X6_beatsTitled 0 (nI v) (nI p) S = some (nI (bt H W v (H (17 + 7 * v)) p (N 17) (N 18) (N 22)), Z) := by
      unfold f_X6_beatsTitled
      rw [eh, sn_bs, hS.2.2.2.1, hS.2.2.2.2.1, hS.2.2.2.2.2.2.2.1, z1, ax_bu_s]
    have eT : f_X12_takesTitled (nI v) (nI p) (nI (N 17)) T = some (nI (bt H W v (H (17 + 7 * v)) p (N 17) (N 18) (N 22)), Y) := by
      unfold f_X12_takesTitled
      rw [(jr_ofw h hv).2.1, sn_bs, in_18, sn_gd, in_22, sn_gd, cl_18, cl_22, hR 18 (by omega), hR 22 (by omega), y1, ax_bu_s]
    have bb : bt H W v (H (17 + 7 * v)) p (N 17) (N 18) (N 22) ≤ 60 := bt_b.2
    rw [f_X11_needs_L12, f_X12_needs_L17, if_neg (fun q => absurd (c3.mp q) (by omega)), if_neg (fun q => absurd (c4.mp q) (by omega)), eB, ax_bu_s, jc_done hq.2.2.1.1 h.1 hv bb, sn_bs, in_17, sn_gd, cl_17, hR 17 (by omega), eT, ax_bu_s, (jr_ofw hq hv).1, sn_bs]
    by_cases hd : bt H W v (H (17 + 7 * v)) p (N 17) (N 18) (N 22) < H (19 + 7 * v)
    · rw [if_pos hd, if_pos rfl, if_pos ((nI_ltI (by omega) (by omega)).mpr hd), sn_let, sn_let, nI_1]
      exact qq_tr z2 y2 (q_needsL hv d n (p + 1) Z Y hq (by omega) (by omega))
    · rw [if_neg hd, if_neg (by decide), if_neg (fun q => hd ((nI_ltI (by omega) (by omega)).mp q))]
      exact qq_tr z2 y2 (qq_none hq)
theorem q_needs (h : jq o H N W M K S T) (a : Int32) : qq H W M K S T (f_X11_needs a S) (f_X12_needs a T) := by
  unfold f_X11_needs f_X12_needs
  have h1 := jq_thr (v := 0) h
  rw [sn_let]
  rcases jc_noC h.2.2.1.1 h.1 a with ⟨v, hv, rfl, e⟩ | ⟨hx, e⟩
  · rw [e, sn_bs, if_pos rfl, jr_isC h1.2.2.2.2.1.1 h.1 hv, sn_bs, if_neg (by decide)]
    have q := q_needsL hv 4 ax_F 0 S _ h1 (by omega) (by show _ < 1000000; omega)
    rw [← sn_0] at q
    exact qq_tr ax_fr.rf jr_thr q
  · rw [e, sn_bs, if_neg (by decide), jr_isC0 h1.2.2.2.2.1.1 h.1 hx, sn_bs, if_pos rfl]
    exact qq_tr ax_fr.rf jr_thr (qq_none h1)
end

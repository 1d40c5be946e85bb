/-! QUERIES: heard (it writes a note) -/
def hd (Q : Nat → Nat) (c v b s : Nat) : Nat → Nat := fun m => if m = 3 * c then v else if m = 3 * c + 1 then b else if m = 3 * c + 2 then s else Q m
abbrev hd_c : List (Nat × Nat × Nat) := [(4, 24, 0), (4, 25, 0), (4, 26, 0), (0, 3, 3)]
abbrev hd_r : List (Nat × Nat × Nat) := [(4, 61, 0), (0, 12, 47), (0, 12, 0)]
theorem hd_0 {Q : Nat → Nat} {c v b s : Nat} : hd Q c v b s (3 * c) = v := if_pos rfl
theorem hd_1 {Q : Nat → Nat} {c v b s : Nat} : hd Q c v b s (3 * c + 1) = b := by
  unfold hd
  rw [if_neg (by omega), if_pos rfl]
theorem hd_2 {Q : Nat → Nat} {c v b s : Nat} : hd Q c v b s (3 * c + 2) = s := by
  unfold hd
  rw [if_neg (by omega), if_neg (by omega), if_pos rfl]
theorem hd_o {Q : Nat → Nat} {c v b s m : Nat} (h : m < 3 * c) : hd Q c v b s m = Q m := by
  unfold hd
  rw [if_neg (by omega), if_neg (by omega), if_neg (by omega)]
theorem nar_b {s : Nat} (h : s ≤ 1) : vp_nar .boolean (nI s) = nI s := by
  rcases (by omega : s = 0 ∨ s = 1) with rfl | rfl
  · decide
  · decide
def hd_S (S : AS) (c : Nat) (a b x : Int32) : AS := ax_sfi (ax_sai (ax_sai (ax_sai S 24 0 c a) 25 0 c b) 26 0 c x) 3 0 3 (nI (c + 1))
def hd_T (T : AS) (c : Nat) (a b x : Int32) : AS := ax_sfi (ax_sai (ax_sai (ax_sai T 61 0 (3 * c) a) 61 0 (3 * c + 1) b) 61 0 (3 * c + 2) x) 12 0 47 (nI (c + 1))
section
variable {S T S1 T1 : AS} {o : Nat} {H N : Nat → Nat} {W : Option (List la_C)} {M : Nat} {K : Nat → List la_C} {c : Nat} {Q : Nat → Nat}
theorem nt_add (hc : c < 10) (e : ax_fi S 3 0 3 = nI c) (a b : Int32) {s : Nat} (hs : s ≤ 1) : f_X3_add a b (nI s) S = some (1, hd_S S c a b (nI s)) := by
  have c10 : (nI c < (10 : Int32)) ↔ c < 10 := nI_ltI (b := 10) (by omega) (by omega)
  have e1 : ax_fi (ax_sai S 24 0 c a) 3 0 3 = nI c := e
  have e2 : ax_fi (ax_sai (ax_sai S 24 0 c a) 25 0 c b) 3 0 3 = nI c := e
  have e3 : ax_fi (ax_sai (ax_sai (ax_sai S 24 0 c a) 25 0 c b) 26 0 c (nI s)) 3 0 3 = nI c := e
  unfold f_X3_add
  rw [e, if_pos (c10.mpr hc), sn_in (by omega) (by omega), sn_gd, nI_clamp (by omega), sn_let, e1, sn_in (by omega) (by omega), sn_gd, nI_clamp (by omega), sn_let, e2, sn_in (by omega) (by omega), sn_gd, nI_clamp (by omega), nar_b hs, sn_let, e3, nI_1, sn_let]
  rfl
theorem nt_full (e : ax_fi S 3 0 3 = nI 10) (a b x : Int32) : f_X3_add a b x S = some (0, S) := by
  have c10 : ¬ (nI 10 < (10 : Int32)) := by decide
  unfold f_X3_add
  rw [e, if_neg c10]
theorem jo_add (hj : jo S T c Q) (hc : c < 10) {v b s : Nat} (hv : v ≤ 5) (hb : b ≤ 60) (hs : s ≤ 1) : jo (hd_S S c (nI v) (nI b) (nI s)) (hd_T T c (nI v) (nI b) (nI s)) (c + 1) (hd Q c v b s) := by
  obtain ⟨j1, j2, j3, j4⟩ := hj
  have a1 : ∀ j, ax_ai (hd_S S c (nI v) (nI b) (nI s)) 24 0 j = if j = c then nI v else ax_ai S 24 0 j := fun j => by
    show ax_ai (ax_sai (ax_sai (ax_sai S 24 0 c (nI v)) 25 0 c (nI b)) 26 0 c (nI s)) 24 0 j = _
    rw [sgo (by omega), sgo (by omega), sga]
  have a2 : ∀ j, ax_ai (hd_S S c (nI v) (nI b) (nI s)) 25 0 j = if j = c then nI b else ax_ai S 25 0 j := fun j => by
    show ax_ai (ax_sai (ax_sai (ax_sai S 24 0 c (nI v)) 25 0 c (nI b)) 26 0 c (nI s)) 25 0 j = _
    rw [sgo (by omega), sga, sgo (by omega)]
  have a3 : ∀ j, ax_ai (hd_S S c (nI v) (nI b) (nI s)) 26 0 j = if j = c then nI s else ax_ai S 26 0 j := fun j => by
    show ax_ai (ax_sai (ax_sai (ax_sai S 24 0 c (nI v)) 25 0 c (nI b)) 26 0 c (nI s)) 26 0 j = _
    rw [sga, sgo (by omega), sgo (by omega)]
  have a4 : ∀ m, ax_ai (hd_T T c (nI v) (nI b) (nI s)) 61 0 m = if m = 3 * c + 2 then nI s else if m = 3 * c + 1 then nI b else if m = 3 * c then nI v else ax_ai T 61 0 m := fun m => by
    show ax_ai (ax_sai (ax_sai (ax_sai T 61 0 (3 * c) (nI v)) 61 0 (3 * c + 1) (nI b)) 61 0 (3 * c + 2) (nI s)) 61 0 m = _
    rw [sga, sga, sga]
  refine ⟨by omega, ?_, ?_, fun j hjc => ?_⟩
  · unfold hd_S
    rw [sg, if_pos rfl]
  · unfold hd_T
    rw [sg, if_pos rfl]
  · rw [a1, a2, a3, a4, a4, a4]
    by_cases q : j = c
    · subst q
      rw [hd_0, hd_1, hd_2, if_pos rfl, if_pos rfl, if_pos rfl, if_neg (by omega), if_neg (by omega), if_pos rfl, if_neg (by omega), if_pos rfl, if_pos rfl]
      exact ⟨⟨hv, hb, hs⟩, rfl, rfl, rfl, rfl, rfl, rfl⟩
    · rw [hd_o (by omega), hd_o (by omega), hd_o (by omega), if_neg q, if_neg q, if_neg q, if_neg (by omega), if_neg (by omega), if_neg (by omega), if_neg (by omega), if_neg (by omega), if_neg (by omega), if_neg (by omega), if_neg (by omega), if_neg (by omega)]
      exact j4 j (by omega)
theorem hd_Sf {a b x : Int32} : ax_fr hd_c S (hd_S S c a b x) := (((ax_fr_sai (by decide)).tr (ax_fr_sai (by decide))).tr (ax_fr_sai (by decide))).tr (ax_fr_sfi (by decide))
theorem hd_Tf {a b x : Int32} : ax_fr hd_r T (hd_T T c a b x) := (((ax_fr_sai (by decide)).tr (ax_fr_sai (by decide))).tr (ax_fr_sai (by decide))).tr (ax_fr_sfi (by decide))
theorem jo_thr {v : Int32} (hj : jo S T c Q) : jo S (ax_sfi T 12 0 0 v) c Q := by
  obtain ⟨a, b, d, e⟩ := hj
  refine ⟨a, b, ?_, e⟩
  rw [sg, if_neg (by omega)]
  exact d
def qn (S T : AS) (x y : Option (Int32 × AS)) : Prop := ∃ r S' T' c Q, x = some (r, S') ∧ y = some (r, T') ∧ ax_fr hd_c S S' ∧ ax_fr hd_r T T' ∧ jo S' T' c Q
theorem q_heard (h : jq o H N W M K S T) (hj : jo S T c Q) (a b : Int32) {s : Nat} (hs : s ≤ 1) : qn S T (f_X11_heard a b (nI s) S) (f_X12_heard a b (nI s) T) := by
  have h1 := jq_thr (v := 0) h
  have hj1 := jo_thr (v := 0) hj
  have ft : ax_fr hd_r T (ax_sfi T 12 0 0 0) := ax_fr_sfi (by decide)
  have h6 : H 4 ≤ 6 := h.1.2.2.2.2.1
  have no : qn S T (some (Int32.ofInt (-1), S)) (some (Int32.ofInt (-1), ax_sfi T 12 0 0 0)) := ⟨_, S, _, c, Q, rfl, rfl, ax_fr.rf, ft, hj1⟩
  unfold f_X11_heard f_X12_heard
  rw [sn_let]
  have c1 : (b < 1) ↔ b.toInt < ((1 : Nat) : Int) := lt_i rfl
  have c60 : (b ≤ 60) ↔ b.toInt ≤ ((60 : Nat) : Int) := le_i rfl
  rcases jc_noC h.2.2.1.1 h.1 a with ⟨v, hv, rfl, e⟩ | ⟨hx, e⟩
  · rw [e, sn_bs, if_pos rfl, jr_isC h1.2.2.2.2.1.1 h.1 hv, sn_bs, if_neg ne10]
    unfold f_X11_outOfBeats
    rcases rg i_1 i_60 b with ⟨n, n1, n2, rfl, q⟩ | ⟨n1, q⟩
    · rw [nIi (by omega)] at c1 c60
      rw [q, sn_bs, if_neg (fun z => absurd (c1.mp z) (by omega)), if_pos (c60.mpr (by omega)), sn_bs, if_neg ne10, if_pos rfl, hj1.2.2.1]
      have hc := hj.1
      have d10 : (nI c = (10 : Int32)) ↔ c = 10 := nI_eq (b := 10) (by omega) (by omega)
      by_cases q10 : c = 10
      · have e10 := hj.2.1
        rw [q10] at e10
        rw [nt_full e10, ax_bu_s, if_pos rfl, if_pos (d10.mpr q10)]
        exact no
      · have jj := jo_add hj1 (by omega) (v := v) (b := n) (s := s) (by omega) n2 hs
        have hf : ax_fr hd_r T (hd_T (ax_sfi T 12 0 0 0) c (nI v) (nI n) (nI s)) := ft.tr hd_Tf
        have k3 := hj1.2.2.1
        generalize ax_sfi T 12 0 0 0 = U at *
        have x0 : (3 : Int32) * nI c = nI (3 * c) := by rw [sn_3, pk_mul]
        have x1 : nI (3 * c) + (1 : Int32) = nI (3 * c + 1) := nI_1 _
        have x2 : nI (3 * c) + (2 : Int32) = nI (3 * c + 2) := by rw [sn_2, nI_add]
        have k4 : ax_fi (ax_sai U 61 0 (3 * c) (nI v)) 12 0 47 = nI c := k3
        have k5 : ax_fi (ax_sai (ax_sai U 61 0 (3 * c) (nI v)) 61 0 (3 * c + 1) (nI n)) 12 0 47 = nI c := k3
        have k6 : ax_fi (ax_sai (ax_sai (ax_sai U 61 0 (3 * c) (nI v)) 61 0 (3 * c + 1) (nI n)) 61 0 (3 * c + 2) (nI s)) 12 0 47 = nI c := k3
        have k7 : ax_fi (hd_T U c (nI v) (nI n) (nI s)) 12 0 47 = nI (c + 1) := jj.2.2.1
        have k8 : ax_fi (hd_S S c (nI v) (nI n) (nI s)) 3 0 3 = nI (c + 1) := jj.2.1
        rw [nt_add (by omega) hj.2.1 _ _ hs, ax_bu_s, if_neg ne10, k8, if_neg (fun z => q10 (d10.mp z)), x0, sn_in (by omega) (by omega), sn_gd, nI_clamp (n := 3 * c) (by omega), sn_let, k4, x0, x1, sn_in (by omega) (by omega), sn_gd, nI_clamp (n := 3 * c + 1) (by omega), sn_let, sn_let, k5, x0, x2, sn_in (by omega) (by omega)]
        rcases (by omega : s = 0 ∨ s = 1) with rfl | rfl
        · have k9 : ax_fi (ax_sai (ax_sai (ax_sai U 61 0 (3 * c) (nI v)) 61 0 (3 * c + 1) (nI n)) 61 0 (3 * c + 2) 0) 12 0 47 = nI c := k3
          rw [if_pos (sn_0).symm]
          dsimp only
          rw [sn_gd, nI_clamp (n := 3 * c + 2) (by omega), sn_let, sn_let, k9, nI_1, sg, if_pos rfl]
          exact ⟨_, _, _, _, _, rfl, rfl, hd_Sf, hf, jj⟩
        · have k9 : ax_fi (ax_sai (ax_sai (ax_sai U 61 0 (3 * c) (nI v)) 61 0 (3 * c + 1) (nI n)) 61 0 (3 * c + 2) 1) 12 0 47 = nI c := k3
          rw [if_neg nen1]
          dsimp only
          rw [sn_gd, nI_clamp (n := 3 * c + 2) (by omega), sn_let, sn_let, k9, nI_1, sg, if_pos rfl]
          exact ⟨_, _, _, _, _, rfl, rfl, hd_Sf, hf, jj⟩
    · rw [q, sn_bs, if_pos rfl]
      by_cases z : b < 1
      · rw [if_pos z, sn_bs, if_neg ne10]; exact no
      · rw [if_neg z, if_neg (fun z2 => by have := c60.mp z2; have w : ¬ (b.toInt < ((1 : Nat) : Int)) := fun w => z (c1.mpr w); omega), sn_bs, if_neg ne10]
        exact no
  · rw [e, sn_bs, if_neg ne10, jr_isC0 h1.2.2.2.2.1.1 h.1 hx, sn_bs, if_pos rfl]
    exact no
end

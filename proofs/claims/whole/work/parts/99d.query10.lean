/-! QUERIES: hards -/
def jo (S T : AS) (c : Nat) (Q : Nat → Nat) : Prop := c ≤ 10 ∧ ax_fi S 3 0 3 = nI c ∧ ax_fi T 12 0 47 = nI c ∧ ∀ j, j < c → (Q (3 * j) ≤ 5 ∧ Q (3 * j + 1) ≤ 60 ∧ Q (3 * j + 2) ≤ 1) ∧ ax_ai S 24 0 j = nI (Q (3 * j)) ∧ ax_ai S 25 0 j = nI (Q (3 * j + 1)) ∧ ax_ai S 26 0 j = nI (Q (3 * j + 2)) ∧ ax_ai T 61 0 (3 * j) = nI (Q (3 * j)) ∧ ax_ai T 61 0 (3 * j + 1) = nI (Q (3 * j + 1)) ∧ ax_ai T 61 0 (3 * j + 2) = nI (Q (3 * j + 2))
def ft (Q : Nat → Nat) (c v b p : Nat) : Prop := ∀ j, p ≤ j → j < c → Q (3 * j) = v → ((b < Q (3 * j + 1)) ↔ Q (3 * j + 2) = 0)
section
variable {S T S1 T1 : AS} {o : Nat} {H N : Nat → Nat} {W : Option (List la_C)} {M : Nat} {K : Nat → List la_C} {c : Nat} {Q : Nat → Nat}
theorem jo_fr (h : jo S T c Q) (hs : ax_fr jc_scr S S1) (ht : ax_fr jr_q T T1) : jo S1 T1 c Q := by
  obtain ⟨a, b, d, e⟩ := h
  refine ⟨a, ?_, ?_, fun j hj => ?_⟩
  · rw [hs.1 3 0 3 (by decide)]; exact b
  · rw [ht.1 12 0 47 (by decide)]; exact d
  · rw [hs.2.2.2.2.1 24 0 (by decide), hs.2.2.2.2.1 25 0 (by decide), hs.2.2.2.2.1 26 0 (by decide), ht.2.2.2.2.1 61 0 (by decide)]
    exact e j hj
theorem ft_C (h : jo S T c Q) {v b : Nat} (hv : v ≤ 5) (hb : b ≤ 60) : ∀ d n p, p + d = c → d < n → (ft Q c v b p ∧ f_X3_fits_L2 S n (nI v) (nI b) (nI p) = some 1) ∨ (¬ ft Q c v b p ∧ f_X3_fits_L2 S n (nI v) (nI b) (nI p) = some 0)
  | 0, n + 1, p, hp, _ => by
    have hc := h.1
    rw [f_X3_fits_L2, h.2.1, if_pos ((nI_leI (by omega) (by omega)).mpr (by omega))]
    exact .inl ⟨fun j a b => absurd a (by omega), rfl⟩
  | d + 1, n + 1, p, hp, hn => by
    have hc := h.1
    obtain ⟨⟨q1, q2, q3⟩, e1, e2, e3, _⟩ := h.2.2.2 p (by omega)
    have ih := ft_C h hv hb d n (p + 1) (by omega) (by omega)
    rw [f_X3_fits_L2, h.2.1, if_neg (fun z => absurd ((nI_leI (by omega) (by omega)).mp z) (by omega)), sn_in (by omega) (by omega), sn_gd, nI_clamp (by omega), e1]
    by_cases hv' : Q (3 * p) = v
    · rw [if_pos (by rw [hv']), sn_gd, sn_let, e2]
      by_cases hl : b < Q (3 * p + 1)
      · rw [if_pos ((nI_ltI (by omega) (by omega)).mpr hl)]
        dsimp only
        rw [sn_gd, e3]
        by_cases hz : Q (3 * p + 2) = 0
        · rw [hz, if_pos sn_0, sn_let, nI_1]
          rcases ih with ⟨a, e⟩ | ⟨a, e⟩
          · refine .inl ⟨fun j j1 j2 j3 => ?_, e⟩
            by_cases u : j = p
            · subst u; exact ⟨fun _ => hz, fun _ => hl⟩
            · exact a j (by omega) j2 j3
          · exact .inr ⟨fun z => a (fun j j1 j2 j3 => z j (by omega) j2 j3), e⟩
        · have n0 : ¬ ((0 : Int32) = nI (Q (3 * p + 2))) := fun z => hz ((nI_eq (a := 0) (by omega) (by omega)).mp z).symm
          rw [if_neg n0]
          exact .inr ⟨fun z => hz ((z p (Nat.le_refl _) (by omega) hv').mp hl), rfl⟩
      · rw [if_neg (fun z => hl ((nI_ltI (by omega) (by omega)).mp z))]
        dsimp only
        rw [sn_gd, e3]
        by_cases hz : Q (3 * p + 2) = 0
        · rw [hz, if_neg (by decide : ¬ ((1 : Int32) = nI 0))]
          exact .inr ⟨fun z => hl ((z p (Nat.le_refl _) (by omega) hv').mpr hz), rfl⟩
        · have h1 : Q (3 * p + 2) = 1 := by omega
          rw [h1, if_pos sn_1, sn_let, nI_1]
          rcases ih with ⟨a, e⟩ | ⟨a, e⟩
          · refine .inl ⟨fun j j1 j2 j3 => ?_, e⟩
            by_cases u : j = p
            · subst u; exact ⟨fun z => absurd z hl, fun z => absurd z hz⟩
            · exact a j (by omega) j2 j3
          · exact .inr ⟨fun z => a (fun j j1 j2 j3 => z j (by omega) j2 j3), e⟩
    · rw [if_neg (fun z => hv' ((nI_eq (by omega) (by omega)).mp z)), sn_let, nI_1]
      rcases ih with ⟨a, e⟩ | ⟨a, e⟩
      · refine .inl ⟨fun j j1 j2 j3 => ?_, e⟩
        by_cases u : j = p
        · subst u; exact absurd j3 hv'
        · exact a j (by omega) j2 j3
      · exact .inr ⟨fun z => a (fun j j1 j2 j3 => z j (by omega) j2 j3), e⟩
def bh (H : Nat → Nat) (W : Option (List la_C)) (v a : Nat) : Nat := bt H W v a 0 0 0 0
theorem jq_heard (h : jq o H N W M K S T) {v a : Nat} (hv : v < H 4) (ha : a ≤ 9) : ∃ Z Y, f_X6_beatsHeard (nI v) (nI a) S = some (nI (bh H W v a), Z) ∧ f_X12_takes_ (nI v) (nI a) 0 0 0 0 T = some (nI (bh H W v a), Y) ∧ ax_fr jc_scr S Z ∧ ax_fr jr_q T Y ∧ jr_C Y H M K W ∧ jq o H N W M K Z Y := by
  obtain ⟨Z, Y, z1, y1, z2, y2, y3, hq⟩ := jq_b h (v := v) (a := a) (t := 0) (g := 0) (s := 0) (d := 0) hv ha (by omega) (by omega) (by omega) (by omega)
  rw [← sn_0] at z1 y1
  refine ⟨Z, Y, ?_, y1, z2, y2, y3, hq⟩
  unfold f_X6_beatsHeard
  rw [z1, ax_bu_s]; rfl
theorem ft_R {v a : Nat} (hv : v < H 4) (ha : a ≤ 9) {m : Int32} {Kr : Int32 → Int32 → Int32 → Int32 → AS → Option (Int32 × AS)} : ∀ d n p S T, jq o H N W M K S T → jo S T c Q → p + d = c → d < n → ∃ r Y, f_X12_hardBits_L16 Kr n (nI v) m (nI a) 1 (nI p) T = Kr (nI v) m (nI a) r Y ∧ ax_fr jr_q T Y ∧ jr_C Y H M K W ∧ ((ft Q c v (bh H W v a) p ∧ r = 1) ∨ (¬ ft Q c v (bh H W v a) p ∧ r = 0))
  | 0, n + 1, p, S, T, hq, h, hp, _ => by
    have hc := h.1
    rw [f_X12_hardBits_L16, h.2.2.1, if_pos ((nI_leI (by omega) (by omega)).mpr (by omega))]
    exact ⟨1, T, rfl, ax_fr.rf, hq.2.2.2.2.1, .inl ⟨fun j a b => absurd a (by omega), rfl⟩⟩
  | d + 1, n + 1, p, S, T, hq, h, hp, hn => by
    have hc := h.1
    have h6 : H 4 ≤ 6 := hq.1.2.2.2.2.1
    obtain ⟨⟨q1, q2, q3⟩, _, _, _, e1, e2, e3⟩ := h.2.2.2 p (by omega)
    have i0 : (3 : Int32) * nI p = nI (3 * p) := by rw [sn_3, pk_mul]
    have bb : bh H W v a ≤ 60 := bt_b.2
    rw [f_X12_hardBits_L16, h.2.2.1, if_neg (fun z => absurd ((nI_leI (by omega) (by omega)).mp z) (by omega)), if_neg ne10, i0, sn_in (by omega) (by omega), sn_gd, nI_clamp (by omega), e1]
    by_cases hv' : Q (3 * p) = v
    · obtain ⟨_, Y, _, y1, _, y2, y3, _⟩ := jq_heard hq hv ha
      have hq2 := jq_fr hq ax_fr.rf y2 y3
      have h2 := jo_fr h ax_fr.rf y2
      have i1 : nI (3 * p) + 1 = nI (3 * p + 1) := nI_1 _
      have i2 : nI (3 * p) + 2 = nI (3 * p + 2) := by rw [sn_2, nI_add]
      have f3 : ax_ai Y 61 0 (3 * p + 2) = nI (Q (3 * p + 2)) := (h2.2.2.2 p (by omega)).2.2.2.2.2.2
      have c1 : (nI (Q (3 * p + 2)) = (1 : Int32)) ↔ Q (3 * p + 2) = 1 := nI_eq (b := 1) (by omega) (by omega)
      obtain ⟨r, Y', w1, w2, w3, w4⟩ := ft_R (m := m) (Kr := Kr) hv ha d n (p + 1) S Y hq2 h2 (by omega) (by omega)
      have zero : ∀ n', 0 < n' → f_X12_hardBits_L16 Kr n' (nI v) m (nI a) 0 (nI (p + 1)) Y = Kr (nI v) m (nI a) 0 Y := fun n' hn' => by
        obtain ⟨k, rfl⟩ : ∃ k, n' = k + 1 := ⟨n' - 1, by omega⟩
        rw [f_X12_hardBits_L16]
        split
        · rfl
        · rw [if_pos rfl]
      unfold f_X12_isLonger
      rw [if_pos (by rw [hv']), i1, sn_in (by omega) (by omega), sn_gd, nI_clamp (by omega), e2, y1, ax_bu_s, i2]
      by_cases hl : bh H W v a < Q (3 * p + 1)
      · rw [if_pos ((nI_ltI (by omega) (by omega)).mpr hl), ax_bu_s, sn_in (by omega) (by omega), sn_gd, nI_clamp (by omega), f3]
        by_cases hz : Q (3 * p + 2) = 0
        · rw [if_neg (fun z => by have := c1.mp z; omega), if_pos rfl, sn_let, nI_1]
          refine ⟨r, Y', w1, y2.tr w2, w3, ?_⟩
          rcases w4 with ⟨x, e⟩ | ⟨x, e⟩
          · refine .inl ⟨fun j j1 j2 j3 => ?_, e⟩
            by_cases u : j = p
            · subst u; exact ⟨fun _ => hz, fun _ => hl⟩
            · exact x j (by omega) j2 j3
          · exact .inr ⟨fun z => x (fun j j1 j2 j3 => z j (by omega) j2 j3), e⟩
        · rw [if_pos (c1.mpr (by omega)), if_neg ne01, sn_let, nI_1, zero n (by omega)]
          exact ⟨0, Y, rfl, y2, y3, .inr ⟨fun z => hz ((z p (Nat.le_refl _) (by omega) hv').mp hl), rfl⟩⟩
      · rw [if_neg (fun z => hl ((nI_ltI (by omega) (by omega)).mp z)), ax_bu_s, sn_in (by omega) (by omega), sn_gd, nI_clamp (by omega), f3]
        by_cases hz : Q (3 * p + 2) = 0
        · rw [if_neg (fun z => by have := c1.mp z; omega), if_neg ne10, sn_let, nI_1, zero n (by omega)]
          exact ⟨0, Y, rfl, y2, y3, .inr ⟨fun z => hl ((z p (Nat.le_refl _) (by omega) hv').mpr hz), rfl⟩⟩
        · rw [if_pos (c1.mpr (by omega)), if_pos rfl, sn_let, nI_1]
          refine ⟨r, Y', w1, y2.tr w2, w3, ?_⟩
          rcases w4 with ⟨x, e⟩ | ⟨x, e⟩
          · refine .inl ⟨fun j j1 j2 j3 => ?_, e⟩
            by_cases u : j = p
            · subst u; exact ⟨fun z => absurd z hl, fun z => absurd z hz⟩
            · exact x j (by omega) j2 j3
          · exact .inr ⟨fun z => x (fun j j1 j2 j3 => z j (by omega) j2 j3), e⟩
    · rw [if_neg (fun z => hv' ((nI_eq (by omega) (by omega)).mp z)), sn_let, nI_1]
      obtain ⟨r, Y', w1, w2, w3, w4⟩ := ft_R (m := m) (Kr := Kr) hv ha d n (p + 1) S T hq h (by omega) (by omega)
      refine ⟨r, Y', w1, w2, w3, ?_⟩
      rcases w4 with ⟨x, e⟩ | ⟨x, e⟩
      · refine .inl ⟨fun j j1 j2 j3 => ?_, e⟩
        by_cases u : j = p
        · subst u; exact absurd j3 hv'
        · exact x j (by omega) j2 j3
      · exact .inr ⟨fun z => x (fun j j1 j2 j3 => z j (by omega) j2 j3), e⟩
/-- the set of hards that fit, on both sides -/
theorem q_fitL {v : Nat} (hv : v < H 4) : ∀ d n p (m : Int32) S T, jq o H N W M K S T → jo S T c Q → p + d = 6 → d < n → qq H W M K S T (f_X11_fittingHards_L4 (fun (x4 : Int32) (S19 : AS) => some (x4, S19)) n (nI v) m (nI p) S) (f_X12_hardBits_L4 (fun (x4 : Int32) (S41 : AS) => some (x4, S41)) n (nI v) m (nI p) T)
  | 0, n + 1, p, m, S, T, h, hj, hp, _ => by
    obtain rfl : p = 6 := by omega
    rw [f_X11_fittingHards_L4, f_X12_hardBits_L4, if_pos (by decide : (5 : Int32) < nI 6), if_pos (by decide : (6 : Int32) ≤ nI 6)]
    exact qq_none h
  | d + 1, n + 1, p, m, S, T, h, hj, hp, hn => by
    have h6 : H 4 ≤ 6 := h.1.2.2.2.2.1
    have hc := hj.1
    have c5 : ((5 : Int32) < nI p) ↔ 5 < p := nI_ltI (a := 5) (by omega) (by omega)
    have c6 : ((6 : Int32) ≤ nI p) ↔ 6 ≤ p := nI_leI (a := 6) (by omega) (by omega)
    obtain ⟨Z, _, z1, _, z2, _, _, _⟩ := jq_heard h hv (a := p) (by omega)
    have hjZ := jo_fr hj z2 (ax_fr.rf (S := T))
    have bb : bh H W v p ≤ 60 := bt_b.2
    have eC := ft_C hjZ (v := v) (b := bh H W v p) (by omega) bb c ax_F 0 (by omega) (by show _ < 1000000; omega)
    rw [← sn_0] at eC
    obtain ⟨r, Y, w1, w2, w3, w4⟩ := ft_R hv (a := p) (by omega) (m := m) (Kr := (fun (x12 : Int32) (x13 : Int32) (x14 : Int32) (x15 : Int32) (S35 : AS) => (if x15 = (0 : Int32) then ax_let (x13 ||| (0 : Int32)) (fun (v37 : Int32) => ax_let (x14 + (1 : Int32)) (fun (v38 : Int32) => f_X12_hardBits_L4 (fun (x4 : Int32) (S41 : AS) => some (x4, S41)) n x12 v37 v38 S35)) else ax_let (x13 ||| ((1 : Int32) <<< (x14 &&& 31))) (fun (v39 : Int32) => ax_let (x14 + (1 : Int32)) (fun (v40 : Int32) => f_X12_hardBits_L4 (fun (x4 : Int32) (S41 : AS) => some (x4, S41)) n x12 v39 v40 S35))))) c ax_F 0 S T h hj (by omega) (by show _ < 1000000; omega)
    rw [← sn_0] at w1
    have hq := jq_fr h z2 w2 w3
    have hjq := jo_fr hj z2 w2
    rw [f_X11_fittingHards_L4, f_X12_hardBits_L4, if_neg (fun z => absurd (c5.mp z) (by omega)), if_neg (fun z => absurd (c6.mp z) (by omega)), z1, ax_bu_s, w1]
    unfold f_X3_fits
    rcases eC with ⟨a, e⟩ | ⟨a, e⟩
    · have er : r = 1 := by
        rcases w4 with ⟨_, x⟩ | ⟨x, _⟩
        · exact x
        · exact absurd a x
      rw [e, sn_bs, if_neg ne10, er, if_neg ne10, sn_let, sn_let, sn_let, sn_let, nI_1]
      exact qq_tr z2 w2 (q_fitL hv d n (p + 1) _ Z Y hq hjq (by omega) (by omega))
    · have er : r = 0 := by
        rcases w4 with ⟨x, _⟩ | ⟨_, x⟩
        · exact absurd x a
        · exact x
      rw [e, sn_bs, if_pos rfl, er, if_pos rfl, sn_let, sn_let, sn_let, nI_1, or_0]
      exact qq_tr z2 w2 (q_fitL hv d n (p + 1) _ Z Y hq hjq (by omega) (by omega))
theorem q_fit (h : jq o H N W M K S T) (hj : jo S T c Q) {v : Nat} (hv : v < H 4) : qq H W M K S T (f_X11_fittingHards (nI v) S) (f_X12_hardBits (nI v) T) := by
  have q := q_fitL hv 6 ax_F 0 0 S T h hj (by omega) (by show _ < 1000000; omega)
  rw [← sn_0] at q
  exact q
theorem q_hards (h : jq o H N W M K S T) (hj : jo S T c Q) (a : Int32) : qq H W M K S T (f_X11_hards a S) (f_X12_hards a T) := by
  have h1 := jq_thr (v := 0) h
  have hj1 : jo S (ax_sfi T 12 0 0 0) c Q := jo_fr hj ax_fr.rf jr_thr
  unfold f_X11_hards f_X12_hards
  rw [sn_let]
  refine qq_tr ax_fr.rf (jr_thr (v := 0)) ?_
  rcases jc_noC h.2.2.1.1 h.1 a with ⟨v, hv, rfl, e⟩ | ⟨hx, e⟩
  · rw [e, sn_bs, if_pos rfl, jr_isC h1.2.2.2.2.1.1 h.1 hv, sn_bs, if_neg ne10]
    exact qq_bu (q_fit h1 hj1 hv)
  · rw [e, sn_bs, if_neg ne10, jr_isC0 h1.2.2.2.2.1.1 h.1 hx, sn_bs, if_pos rfl]
    exact qq_none h1
end

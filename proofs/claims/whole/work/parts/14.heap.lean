/-! STEPS: fields, rows, constants -/
theorem ax_in_vp {j : Int32} {n : Nat} (h : ax_in j n = true) : vp_in j n := by
  unfold ax_in at h
  simp only [Bool.and_eq_true, Bool.not_eq_true', decide_eq_false_iff_not, decide_eq_true_eq] at h
  rintro (q | q)
  · exact h.1 q
  · omega
theorem ax_cv_k {ad : Nat → Nat → Nat} {ov : Value} {k i : Nat} (h : ¬ (ax_kd k).1 = 9) : ax_cv ad ov (.inr (k, i)) = .ref (ad k i) := by
  unfold ax_cv
  dsimp only
  rw [if_neg]
  rintro rfl
  exact h rfl
theorem ax_vs_r {k i : Nat} {st : List AV} (h : ax_vs (.inr (k, i) :: st)) : i < ax_cn k := (ax_vs_h h).1 k i rfl
theorem ax_ct_small : ∀ k, k < 69 → (ax_kd k).1 = 1 → ax_CT.getD k [] = [] := by decide +kernel
theorem ax_ct_1 {k : Nat} (h : (ax_kd k).1 = 1) : ax_CT.getD k [] = [] := ax_ct_small k (by have := ax_kd_lt (k := k) (by omega); omega) h
theorem ax_rd_1 {S : AS} {k i j : Nat} (h : (ax_kd k).1 = 1) : ax_rd S k i j = ax_ai S k i j := by
  unfold ax_rd
  rw [ax_ct_1 h]
theorem ax_ce_i {ad : Nat → Nat → Nat} {ov : Value} {cy : Nat → ClassId} {S : AS} {k i : Nat} (h : (ax_kd k).1 = 1) (h3 : (ax_kd k).2.1 < 3) : ax_ce ad ov cy S k i = .inl (cy (ax_kd k).2.1, ax_ln S k i, .inl (ax_ai S k i)) := by
  unfold ax_ce
  rw [if_neg (by omega), if_neg (by omega), if_neg (by omega), if_neg (by omega)]
theorem ax_ce_l {ad : Nat → Nat → Nat} {ov : Value} {cy : Nat → ClassId} {S : AS} {k i : Nat} (h : (ax_kd k).1 = 1) (h3 : (ax_kd k).2.1 = 3) : ax_ce ad ov cy S k i = .inl (cy 3, ax_ln S k i, .inr (.inl (ax_al S k i))) := by
  unfold ax_ce
  rw [if_neg (by omega), if_pos h3]
theorem ax_ce_a4 {ad : Nat → Nat → Nat} {ov : Value} {cy : Nat → ClassId} {S : AS} {k i : Nat} (h : (ax_kd k).1 = 1) (h3 : (ax_kd k).2.1 = 4) : ax_ce ad ov cy S k i = .inl (cy 4, ax_ln S k i, .inr (.inr (.inr (.inr (fun j => some (ad 0 j)))))) := by
  unfold ax_ce
  rw [if_neg (by omega), if_neg (by omega), if_pos h3]
theorem ax_ce_a5 {ad : Nat → Nat → Nat} {ov : Value} {cy : Nat → ClassId} {S : AS} {k i : Nat} (h : (ax_kd k).1 = 1) (h3 : (ax_kd k).2.1 = 5) : ax_ce ad ov cy S k i = .inl (cy 5, ax_ln S k i, .inr (.inr (.inr (.inr (fun j => some (ad 5 j)))))) := by
  unfold ax_ce
  rw [if_neg (by omega), if_neg (by omega), if_neg (by omega), if_pos h3]
theorem ax_tag2_small : ∀ k, k < 69 → (ax_kd k).1 = 2 → k = 65 ∨ k = 66 ∨ k = 67 := by decide +kernel
theorem ax_tag2 {k : Nat} (h : (ax_kd k).1 = 2) : k = 65 ∨ k = 66 ∨ k = 67 := by
  by_cases hk : k < 69
  · exact ax_tag2_small k hk h
  · rw [ax_kd_big (by omega)] at h
    exact absurd h (by decide)
/-- a row of ints that nobody writes -/
theorem ax_ti {ad : Nat → Nat → Nat} {ov : Value} {A : Nat → Prop} {s : State} {S : AS} {k i Ln : Nat} {xs : Nat → Int32} (hc : ax_Ct ad ov Ln xs A s s.heap) (hsc : ax_Sc Ln xs S) (h : (ax_kd k).1 = 2) (h0 : (ax_kd k).2.1 = 0) (hi : i < ax_cn k) : va_T .int (ad k i) (ax_ln S k i) (fun j => .int (ax_rd S k i j)) A s s.heap := by
  rcases ax_tag2 h with rfl | rfl | rfl
  · exact absurd h0 (by decide)
  · exact hc.2.1 i hi
  · have : i = 0 := by
      have : ax_cn 67 = 1 := rfl
      omega
    subst this
    show va_T .int (ad 67 0) (ax_fx S 67 0 0) (fun j => .int (ax_ai S 67 0 j)) A s s.heap
    rw [hsc.1, hsc.2]
    exact hc.2.2.2.2
theorem ax_tb1 {ad : Nat → Nat → Nat} {ov : Value} {A : Nat → Prop} {s : State} {S : AS} {k i Ln : Nat} {xs : Nat → Int32} (hc : ax_Ct ad ov Ln xs A s s.heap) (h : (ax_kd k).1 = 2) (h0 : ¬ (ax_kd k).2.1 = 0) (hi : i < ax_cn k) : va_T .byte (ad k i) (ax_ln S k i) (fun j => .int (ax_rd S k i j)) A s s.heap := by
  rcases ax_tag2 h with rfl | rfl | rfl
  · exact (hc.1.1 i hi).2.2.2
  · exact absurd rfl h0
  · exact absurd rfl h0
section AXH
variable {l : Launch} {d : Nat} {k : AM} {pc : Nat} {L L' : AL} {st st' : List AV} {S S' : AS}
theorem ax_s_iaload (hd : decode k.2.2.1 pc = .ok (.iaload, 1)) (h : ax_ali L st S = some (L', st', S')) : ax_R l d k (pc, L, st, S) (pc + 1, L', st', S') := by
  unfold ax_ali at h
  split at h
  · next j ka i r =>
    split at h
    · next hc =>
      obtain ⟨h1, h2, h3⟩ := hc
      cases h
      intro p e R s m args below meth c cells slots Q A ad ov dC dI cy Ln xs hx _ _ hk H locs ls hi
      obtain ⟨⟨v1, v2, v3⟩, ⟨w1, w2, w3⟩, ⟨l1, l2⟩, sc⟩ := hi
      have hi0 : i < ax_cn ka := ax_vs_r (ax_vs_t v2)
      have kk := hk H locs ls ⟨⟨v1, ax_vs_c (ax_vv_i _) (ax_vs_t (ax_vs_t v2)), v3⟩, ⟨w1, w2, w3⟩, ⟨l1, l2⟩, sc⟩
      show W p l e R s m args below meth c H locs cells slots Q (F0 m pc ls (.int j :: ax_cv ad ov (.inr (ka, i)) :: r.map (ax_cv ad ov)))
      rw [ax_cv_k (by omega)]
      rcases h1 with h1 | h1
      · obtain ⟨q, -, hq⟩ := ax_gw_at (ad := ad) (ov := ov) (cy := cy) S (show (ax_kd ka).1 ≤ 1 by omega) hi0
        rw [ax_ce_i h1 (by omega), h2] at hq
        rw [ax_rd_1 h1] at kk
        exact va_iald hx.1 hx.2.1 hx.2.2.2.2.2.2.2.2.1 w1 q 0 hq rfl (ax_in_vp h3) hd kk
      · exact va_ti hx.1 hx.2.1 (ax_ti hx.2.2.2.2.2.2.2.2.2.1 sc h1 h2 hi0) w3 (ax_in_vp h3) rfl hd kk
    · cases h
  · cases h
theorem ax_s_baload (hd : decode k.2.2.1 pc = .ok (.baload, 1)) (h : ax_alb L st S = some (L', st', S')) : ax_R l d k (pc, L, st, S) (pc + 1, L', st', S') := by
  unfold ax_alb at h
  split at h
  · next j ka i r =>
    split at h
    · next hc =>
      obtain ⟨h1, h2, h3⟩ := hc
      cases h
      intro p e R s m args below meth c cells slots Q A ad ov dC dI cy Ln xs hx _ _ hk H locs ls hi
      obtain ⟨⟨v1, v2, v3⟩, ⟨w1, w2, w3⟩, ⟨l1, l2⟩, sc⟩ := hi
      have hi0 : i < ax_cn ka := ax_vs_r (ax_vs_t v2)
      have kk := hk H locs ls ⟨⟨v1, ax_vs_c (ax_vv_i _) (ax_vs_t (ax_vs_t v2)), v3⟩, ⟨w1, w2, w3⟩, ⟨l1, l2⟩, sc⟩
      show W p l e R s m args below meth c H locs cells slots Q (F0 m pc ls (.int j :: ax_cv ad ov (.inr (ka, i)) :: r.map (ax_cv ad ov)))
      rw [ax_cv_k (by omega)]
      rcases h1 with h1 | h1
      · obtain ⟨q, -, hq⟩ := ax_gw_at (ad := ad) (ov := ov) (cy := cy) S (show (ax_kd ka).1 ≤ 1 by omega) hi0
        rw [ax_ce_i h1 (by omega)] at hq
        rw [ax_rd_1 h1] at kk
        rcases h2 with h2 | h2
        · rw [h2] at hq
          exact va_zald hx.1 hx.2.1 hx.2.2.2.2.2.2.2.2.1 w1 q 1 hq rfl (ax_in_vp h3) hd kk
        · rw [h2] at hq
          exact va_bald hx.1 hx.2.1 hx.2.2.2.2.2.2.2.2.1 w1 q 2 hq rfl (ax_in_vp h3) hd kk
      · exact va_tb hx.1 hx.2.1 (ax_tb1 hx.2.2.2.2.2.2.2.2.2.1 h1 (by omega) hi0) w3 (ax_in_vp h3) rfl hd kk
    · cases h
  · cases h
theorem ax_s_laload (hd : decode k.2.2.1 pc = .ok (.laload, 1)) (h : ax_all L st S = some (L', st', S')) : ax_R l d k (pc, L, st, S) (pc + 1, L', st', S') := by
  unfold ax_all at h
  split at h
  · next j ka i r =>
    split at h
    · next hc =>
      obtain ⟨h1, h2, h3⟩ := hc
      cases h
      intro p e R s m args below meth c cells slots Q A ad ov dC dI cy Ln xs hx _ _ hk H locs ls hi
      obtain ⟨⟨v1, v2, v3⟩, ⟨w1, w2, w3⟩, ⟨l1, l2⟩, sc⟩ := hi
      have hi0 : i < ax_cn ka := ax_vs_r (ax_vs_t v2)
      have kk := hk H locs ls ⟨⟨v1, ax_vs_c (ax_vv_j _) (ax_vs_t (ax_vs_t v2)), v3⟩, ⟨w1, w2, w3⟩, ⟨l1, l2⟩, sc⟩
      show W p l e R s m args below meth c H locs cells slots Q (F0 m pc ls (.int j :: ax_cv ad ov (.inr (ka, i)) :: r.map (ax_cv ad ov)))
      rw [ax_cv_k (by omega)]
      obtain ⟨q, -, hq⟩ := ax_gw_at (ad := ad) (ov := ov) (cy := cy) S (show (ax_kd ka).1 ≤ 1 by omega) hi0
      rw [ax_ce_l h1 h2] at hq
      exact va_lald hx.1 hx.2.1 hx.2.2.2.2.2.2.2.2.1 w1 q 3 hq rfl (ax_in_vp h3) hd kk
    · cases h
  · cases h
theorem ax_ln_small : ∀ k, k < 64 → (ax_kd k).1 = 1 → ((ax_kd k).2.1 = 4 → ax_LN.getD k [] = [5]) ∧ ((ax_kd k).2.1 = 5 → ax_LN.getD k [] = [5]) := by decide +kernel
theorem ax_in_lt {j : Int32} {n : Nat} (h : ax_in j n = true) : j.toNatClampNeg < n := by
  unfold ax_in at h
  simp only [Bool.and_eq_true, Bool.not_eq_true', decide_eq_false_iff_not, decide_eq_true_eq] at h
  exact h.2
theorem ax_ln_5 {S : AS} {k i : Nat} (h : ax_LN.getD k [] = [5]) : ax_ln S k i ≤ 5 := by
  unfold ax_ln
  rw [h]
  exact Nat.le_refl 5
theorem ax_s_aaload (hd : decode k.2.2.1 pc = .ok (.aaload, 1)) (h : ax_ala L st S = some (L', st', S')) : ax_R l d k (pc, L, st, S) (pc + 1, L', st', S') := by
  unfold ax_ala at h
  split at h
  · next j ka i r =>
    split at h
    · next hc =>
      obtain ⟨h1, h2, h3⟩ := hc
      cases h
      intro p e R s m args below meth c cells slots Q A ad ov dC dI cy Ln xs hx _ _ hk H locs ls hi
      obtain ⟨⟨v1, v2, v3⟩, ⟨w1, w2, w3⟩, ⟨l1, l2⟩, sc⟩ := hi
      have hi0 : i < ax_cn ka := ax_vs_r (ax_vs_t v2)
      have h5 : j.toNatClampNeg < ax_cn 0 := Nat.lt_of_lt_of_le (ax_in_lt h3) (ax_ln_5 ((ax_ln_small ka (ax_kd_lt (by omega)) h1).1 h2))
      have kk := hk H locs ls ⟨⟨v1, ax_vs_c (ax_vv_r h5) (ax_vs_t (ax_vs_t v2)), v3⟩, ⟨w1, w2, w3⟩, ⟨l1, l2⟩, sc⟩
      show W p l e R s m args below meth c H locs cells slots Q (F0 m pc ls (.int j :: ax_cv ad ov (.inr (ka, i)) :: r.map (ax_cv ad ov)))
      rw [ax_cv_k (by omega)]
      obtain ⟨q, -, hq⟩ := ax_gw_at (ad := ad) (ov := ov) (cy := cy) S (show (ax_kd ka).1 ≤ 1 by omega) hi0
      rw [ax_ce_a4 h1 h2] at hq
      exact va_aldq hx.1 hx.2.1 hx.2.2.2.2.2.2.2.2.1 w1 q 4 hq rfl (ax_in_vp h3) hd kk
    · split at h
      · next hc =>
        obtain ⟨h1, h2, h3⟩ := hc
        cases h
        intro p e R s m args below meth c cells slots Q A ad ov dC dI cy Ln xs hx _ _ hk H locs ls hi
        obtain ⟨⟨v1, v2, v3⟩, ⟨w1, w2, w3⟩, ⟨l1, l2⟩, sc⟩ := hi
        have hi0 : i < ax_cn ka := ax_vs_r (ax_vs_t v2)
        have h5 : j.toNatClampNeg < ax_cn 5 := Nat.lt_of_lt_of_le (ax_in_lt h3) (ax_ln_5 ((ax_ln_small ka (ax_kd_lt (by omega)) h1).2 h2))
        have kk := hk H locs ls ⟨⟨v1, ax_vs_c (ax_vv_r h5) (ax_vs_t (ax_vs_t v2)), v3⟩, ⟨w1, w2, w3⟩, ⟨l1, l2⟩, sc⟩
        show W p l e R s m args below meth c H locs cells slots Q (F0 m pc ls (.int j :: ax_cv ad ov (.inr (ka, i)) :: r.map (ax_cv ad ov)))
        rw [ax_cv_k (by omega)]
        obtain ⟨q, -, hq⟩ := ax_gw_at (ad := ad) (ov := ov) (cy := cy) S (show (ax_kd ka).1 ≤ 1 by omega) hi0
        rw [ax_ce_a5 h1 h2] at hq
        exact va_aldq hx.1 hx.2.1 hx.2.2.2.2.2.2.2.2.1 w1 q 5 hq rfl (ax_in_vp h3) hd kk
      · cases h
  · cases h
theorem ax_tag1_ty : ∀ k, k < 64 → (ax_kd k).1 = 1 → (ax_kd k).2.1 < 6 := by decide +kernel
theorem ax_s_len (hd : decode k.2.2.1 pc = .ok (.arraylength, 1)) (h : ax_len L st S = some (L', st', S')) : ax_R l d k (pc, L, st, S) (pc + 1, L', st', S') := by
  unfold ax_len at h
  split at h
  · next ka i r =>
    split at h
    · next h1 =>
      cases h
      intro p e R s m args below meth c cells slots Q A ad ov dC dI cy Ln xs hx _ _ hk H locs ls hi
      obtain ⟨⟨v1, v2, v3⟩, ⟨w1, w2, w3⟩, ⟨l1, l2⟩, sc⟩ := hi
      have hi0 : i < ax_cn ka := ax_vs_r v2
      have kk := hk H locs ls ⟨⟨v1, ax_vs_c (ax_vv_i _) (ax_vs_t v2), v3⟩, ⟨w1, w2, w3⟩, ⟨l1, l2⟩, sc⟩
      show W p l e R s m args below meth c H locs cells slots Q (F0 m pc ls (ax_cv ad ov (.inr (ka, i)) :: r.map (ax_cv ad ov)))
      rw [ax_cv_k (by omega)]
      rcases h1 with h1 | h1
      · obtain ⟨q, -, hq⟩ := ax_gw_at (ad := ad) (ov := ov) (cy := cy) S (show (ax_kd ka).1 ≤ 1 by omega) hi0
        have ht := ax_tag1_ty ka (ax_kd_lt (by omega)) h1
        have hcase : (ax_kd ka).2.1 = 0 ∨ (ax_kd ka).2.1 = 1 ∨ (ax_kd ka).2.1 = 2 ∨ (ax_kd ka).2.1 = 3 ∨ (ax_kd ka).2.1 = 4 ∨ (ax_kd ka).2.1 = 5 := by omega
        rcases hcase with h2 | h2 | h2 | h2 | h2 | h2
        · rw [ax_ce_i h1 (by omega), h2] at hq
          exact va_alen hx.1 hx.2.1 hx.2.2.2.2.2.2.2.2.1 w1 q 0 hq (ty := .int) rfl rfl hd kk
        · rw [ax_ce_i h1 (by omega), h2] at hq
          exact va_alen hx.1 hx.2.1 hx.2.2.2.2.2.2.2.2.1 w1 q 1 hq (ty := .boolean) rfl rfl hd kk
        · rw [ax_ce_i h1 (by omega), h2] at hq
          exact va_alen hx.1 hx.2.1 hx.2.2.2.2.2.2.2.2.1 w1 q 2 hq (ty := .byte) rfl rfl hd kk
        · rw [ax_ce_l h1 h2] at hq
          exact va_alen hx.1 hx.2.1 hx.2.2.2.2.2.2.2.2.1 w1 q 3 hq (ty := .long) rfl rfl hd kk
        · rw [ax_ce_a4 h1 h2] at hq
          exact va_alen hx.1 hx.2.1 hx.2.2.2.2.2.2.2.2.1 w1 q 4 hq (ty := .object RX0) rfl rfl hd kk
        · rw [ax_ce_a5 h1 h2] at hq
          exact va_alen hx.1 hx.2.1 hx.2.2.2.2.2.2.2.2.1 w1 q 5 hq (ty := .object RX5) rfl rfl hd kk
      · by_cases h0 : (ax_kd ka).2.1 = 0
        · exact va_tlen hx.1 hx.2.1 (ax_ti hx.2.2.2.2.2.2.2.2.2.1 sc h1 h0 hi0) w3 rfl hd kk
        · exact va_tlen hx.1 hx.2.1 (ax_tb1 (S := S) hx.2.2.2.2.2.2.2.2.2.1 h1 h0 hi0) w3 rfl hd kk
    · cases h
  · cases h
end AXH

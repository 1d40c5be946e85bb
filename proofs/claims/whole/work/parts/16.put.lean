/-! STEPS: rows written, fields read and written, constants -/
theorem ax_k67 {k : Nat} (h : (ax_kd k).1 ≤ 1) : ¬ (67 = k ∧ 0 = (0 : Nat)) := fun q => by
  have := ax_kd_lt h
  omega
theorem ax_Sc_of {Ln : Nat} {xs : Nat → Int32} {S S' : AS} (h : ax_Sc Ln xs S) (h1 : ax_fx S' 67 0 = ax_fx S 67 0) (h2 : ax_ai S' 67 0 = ax_ai S 67 0) : ax_Sc Ln xs S' := by
  unfold ax_Sc at h ⊢
  rw [h1, h2]
  exact h
theorem ax_no {k i : Nat} (h : (ax_kd k).1 ≤ 1) : ¬ (67 = k ∧ 0 = i) := fun q => by
  have := ax_kd_lt h
  omega
section AXP
variable {l : Launch} {d : Nat} {k : AM} {pc : Nat} {L L' : AL} {st st' : List AV} {S S' : AS}
theorem ax_ce_sai {ad : Nat → Nat → Nat} {ov : Value} {cy : Nat → ClassId} {S : AS} {k i p : Nat} {x : Int32} (h : (ax_kd k).1 = 1) (h3 : (ax_kd k).2.1 < 3) : ax_ce ad ov cy (ax_sai S k i p x) k i = .inl (cy (ax_kd k).2.1, ax_ln S k i, .inl (upd (ax_ai S k i) p x)) := by
  rw [ax_ce_i h h3]
  have e1 : ax_ln (ax_sai S k i p x) k i = ax_ln S k i := rfl
  have e2 : ax_ai (ax_sai S k i p x) k i = upd (ax_ai S k i) p x := by
    funext j
    show ax_u3 _ k i p x k i j = _
    unfold ax_u3 upd
    by_cases hj : j = p
    · rw [if_pos ⟨rfl, rfl, hj⟩, if_pos hj]
    · rw [if_neg (fun q => hj q.2.2), if_neg hj]
      rfl
  rw [e1, e2]
theorem ax_ce_sal {ad : Nat → Nat → Nat} {ov : Value} {cy : Nat → ClassId} {S : AS} {k i p : Nat} {x : Int64} (h : (ax_kd k).1 = 1) (h3 : (ax_kd k).2.1 = 3) : ax_ce ad ov cy (ax_sal S k i p x) k i = .inl (cy 3, ax_ln S k i, .inr (.inl (vp_updL (ax_al S k i) p x))) := by
  rw [ax_ce_l h h3]
  have e1 : ax_ln (ax_sal S k i p x) k i = ax_ln S k i := rfl
  have e2 : ax_al (ax_sal S k i p x) k i = vp_updL (ax_al S k i) p x := by
    funext j
    show ax_u3 _ k i p x k i j = _
    unfold ax_u3 vp_updL
    by_cases hj : j = p
    · rw [if_pos ⟨rfl, rfl, hj⟩, if_pos hj]
    · rw [if_neg (fun q => hj q.2.2), if_neg hj]
      rfl
  rw [e1, e2]
theorem ax_ce_sai_o {ad : Nat → Nat → Nat} {ov : Value} {cy : Nat → ClassId} {S : AS} {k i p a b : Nat} {x : Int32} (h : ¬ (a = k ∧ b = i)) : ax_ce ad ov cy (ax_sai S k i p x) a b = ax_ce ad ov cy S a b := ax_ce_congr rfl rfl rfl rfl (ax_u3_o h) rfl
theorem ax_ce_sal_o {ad : Nat → Nat → Nat} {ov : Value} {cy : Nat → ClassId} {S : AS} {k i p a b : Nat} {x : Int64} (h : ¬ (a = k ∧ b = i)) : ax_ce ad ov cy (ax_sal S k i p x) a b = ax_ce ad ov cy S a b := ax_ce_congr rfl rfl rfl rfl rfl (ax_u3_o h)
theorem ax_s_iastore (hd : decode k.2.2.1 pc = .ok (.iastore, 1)) (h : ax_asi L st S = some (L', st', S')) : ax_R l d k (pc, L, st, S) (pc + 1, L', st', S') := by
  unfold ax_asi at h
  split at h
  · next x j ka i r =>
    split at h
    · next hc =>
      obtain ⟨h1, h2, h3⟩ := hc
      cases h
      intro p e R s m args below meth c cells slots Q A ad ov dC dI cy Ln xs hx _ _ hk H locs ls hi
      obtain ⟨⟨v1, v2, v3⟩, ⟨w1, w2, w3⟩, ⟨l1, l2⟩, sc⟩ := hi
      have hi0 : i < ax_cn ka := ax_vs_r (ax_vs_t (ax_vs_t v2))
      show W p l e R s m args below meth c H locs cells slots Q (F0 m pc ls (.int x :: .int j :: ax_cv ad ov (.inr (ka, i)) :: st'.map (ax_cv ad ov)))
      rw [ax_cv_k (by omega)]
      obtain ⟨q, ho, hq⟩ := ax_gw_at (ad := ad) (ov := ov) (cy := cy) S (show (ax_kd ka).1 ≤ 1 by omega) hi0
      rw [ax_ce_i h1 (by omega), h2] at hq
      have hg := ax_gw_set (ad := ad) (ov := ov) (cy := cy) ho (ax_ce_sai (S := S) (p := j.toNatClampNeg) (x := x) h1 (by omega)) (fun a b h => ax_ce_sai_o h)
      rw [h2] at hg
      refine va_iast hx.1 hx.2.1 hx.2.2.2.2.2.2.2.2.1 w1 w2 w3 q 0 hq rfl (ax_in_vp h3) hd (fun H1 locs1 p1 p2 p3 => ?_)
      rw [hg] at p1 p2
      exact hk H1 locs1 ls ⟨⟨v1, ax_vs_t (ax_vs_t (ax_vs_t v2)), v3⟩, ⟨p1, p2, p3⟩, ⟨l1, l2⟩, ax_Sc_of sc rfl (ax_u3_o (ax_no (by omega)))⟩
    · cases h
  · cases h
theorem ax_s_bastore (hd : decode k.2.2.1 pc = .ok (.bastore, 1)) (h : ax_asb L st S = some (L', st', S')) : ax_R l d k (pc, L, st, S) (pc + 1, L', st', S') := by
  unfold ax_asb at h
  split at h
  · next x j ka i r =>
    split at h
    · next hc =>
      obtain ⟨h1, h2, h3⟩ := hc
      cases h
      intro p e R s m args below meth c cells slots Q A ad ov dC dI cy Ln xs hx _ _ hk H locs ls hi
      obtain ⟨⟨v1, v2, v3⟩, ⟨w1, w2, w3⟩, ⟨l1, l2⟩, sc⟩ := hi
      have hi0 : i < ax_cn ka := ax_vs_r (ax_vs_t (ax_vs_t v2))
      show W p l e R s m args below meth c H locs cells slots Q (F0 m pc ls (.int x :: .int j :: ax_cv ad ov (.inr (ka, i)) :: st'.map (ax_cv ad ov)))
      rw [ax_cv_k (by omega)]
      obtain ⟨q, ho, hq⟩ := ax_gw_at (ad := ad) (ov := ov) (cy := cy) S (show (ax_kd ka).1 ≤ 1 by omega) hi0
      rw [ax_ce_i h1 (by omega), h2] at hq
      have hg := ax_gw_set (ad := ad) (ov := ov) (cy := cy) ho (ax_ce_sai (S := S) (p := j.toNatClampNeg) (x := vp_nar .byte x) h1 (by omega)) (fun a b h => ax_ce_sai_o h)
      rw [h2] at hg
      refine va_bast hx.1 hx.2.1 hx.2.2.2.2.2.2.2.2.1 w1 w2 w3 q 2 hq rfl (ax_in_vp h3) hd (fun H1 locs1 p1 p2 p3 => ?_)
      rw [hg] at p1 p2
      exact hk H1 locs1 ls ⟨⟨v1, ax_vs_t (ax_vs_t (ax_vs_t v2)), v3⟩, ⟨p1, p2, p3⟩, ⟨l1, l2⟩, ax_Sc_of sc rfl (ax_u3_o (ax_no (by omega)))⟩
    · split at h
      · next hc =>
        obtain ⟨h1, h2, h3⟩ := hc
        cases h
        intro p e R s m args below meth c cells slots Q A ad ov dC dI cy Ln xs hx _ _ hk H locs ls hi
        obtain ⟨⟨v1, v2, v3⟩, ⟨w1, w2, w3⟩, ⟨l1, l2⟩, sc⟩ := hi
        have hi0 : i < ax_cn ka := ax_vs_r (ax_vs_t (ax_vs_t v2))
        show W p l e R s m args below meth c H locs cells slots Q (F0 m pc ls (.int x :: .int j :: ax_cv ad ov (.inr (ka, i)) :: st'.map (ax_cv ad ov)))
        rw [ax_cv_k (by omega)]
        obtain ⟨q, ho, hq⟩ := ax_gw_at (ad := ad) (ov := ov) (cy := cy) S (show (ax_kd ka).1 ≤ 1 by omega) hi0
        rw [ax_ce_i h1 (by omega), h2] at hq
        have hg := ax_gw_set (ad := ad) (ov := ov) (cy := cy) ho (ax_ce_sai (S := S) (p := j.toNatClampNeg) (x := vp_nar .boolean x) h1 (by omega)) (fun a b h => ax_ce_sai_o h)
        rw [h2] at hg
        refine va_zast hx.1 hx.2.1 hx.2.2.2.2.2.2.2.2.1 w1 w2 w3 q 1 hq rfl (ax_in_vp h3) hd (fun H1 locs1 p1 p2 p3 => ?_)
        rw [hg] at p1 p2
        exact hk H1 locs1 ls ⟨⟨v1, ax_vs_t (ax_vs_t (ax_vs_t v2)), v3⟩, ⟨p1, p2, p3⟩, ⟨l1, l2⟩, ax_Sc_of sc rfl (ax_u3_o (ax_no (by omega)))⟩
      · cases h
  · cases h
theorem ax_s_lastore (hd : decode k.2.2.1 pc = .ok (.lastore, 1)) (h : ax_asl L st S = some (L', st', S')) : ax_R l d k (pc, L, st, S) (pc + 1, L', st', S') := by
  unfold ax_asl at h
  split at h
  · next x j ka i r =>
    split at h
    · next hc =>
      obtain ⟨h1, h2, h3⟩ := hc
      cases h
      intro p e R s m args below meth c cells slots Q A ad ov dC dI cy Ln xs hx _ _ hk H locs ls hi
      obtain ⟨⟨v1, v2, v3⟩, ⟨w1, w2, w3⟩, ⟨l1, l2⟩, sc⟩ := hi
      have hi0 : i < ax_cn ka := ax_vs_r (ax_vs_t (ax_vs_t v2))
      show W p l e R s m args below meth c H locs cells slots Q (F0 m pc ls (.long x :: .int j :: ax_cv ad ov (.inr (ka, i)) :: st'.map (ax_cv ad ov)))
      rw [ax_cv_k (by omega)]
      obtain ⟨q, ho, hq⟩ := ax_gw_at (ad := ad) (ov := ov) (cy := cy) S (show (ax_kd ka).1 ≤ 1 by omega) hi0
      rw [ax_ce_l h1 h2] at hq
      have hg := ax_gw_set (ad := ad) (ov := ov) (cy := cy) ho (ax_ce_sal (S := S) (p := j.toNatClampNeg) (x := x) h1 h2) (fun a b h => ax_ce_sal_o h)
      refine va_last hx.1 hx.2.1 hx.2.2.2.2.2.2.2.2.1 w1 w2 w3 q 3 hq rfl (ax_in_vp h3) hd (fun H1 locs1 p1 p2 p3 => ?_)
      rw [hg] at p1 p2
      exact hk H1 locs1 ls ⟨⟨v1, ax_vs_t (ax_vs_t (ax_vs_t v2)), v3⟩, ⟨p1, p2, p3⟩, ⟨l1, l2⟩, ax_Sc_of sc rfl rfl⟩
    · cases h
  · cases h
/-! fields -/
theorem ax_lf_mem {xs : List (Nat × Nat × Nat)} {n : Nat} {v : Nat × Nat} (h : ax_lf xs n = some v) : (n, v) ∈ xs := by
  induction xs with
  | nil => cases h
  | cons x r ih =>
    obtain ⟨a, w⟩ := x
    unfold ax_lf at h
    split at h
    · next e =>
      cases h
      subst e
      exact List.mem_cons_self
    · exact List.mem_cons_of_mem _ (ih h)
theorem ax_lk_mem {xs : List (Nat × AV)} {n : Nat} {v : AV} (h : ax_lk xs n = some v) : (n, v) ∈ xs := by
  induction xs with
  | nil => cases h
  | cons x r ih =>
    obtain ⟨a, w⟩ := x
    unfold ax_lk at h
    split at h
    · next e =>
      cases h
      subst e
      exact List.mem_cons_self
    · exact List.mem_cons_of_mem _ (ih h)
theorem ax_kd0_small : ∀ k, k < 64 → (ax_kd k).1 = 0 → (ax_kd k).2.1 < 13 := by decide +kernel
theorem ax_kd3_small : ∀ k, k < 69 → (ax_kd k).1 = 3 → k = 64 := by decide +kernel
theorem ax_kd3 {k : Nat} (h : (ax_kd k).1 = 3) : k = 64 := by
  by_cases hk : k < 69
  · exact ax_kd3_small k hk h
  · rw [ax_kd_big (by omega)] at h
    exact absurd h (by decide)
theorem ax_s_getfield {n : Nat} (hd : decode k.2.2.1 pc = .ok (.getfield n, 3)) (h : ax_get k.1 n L st S = some (L', st', S')) : ax_R l d k (pc, L, st, S) (pc + 3, L', st', S') := by
  unfold ax_get at h
  split at h
  · next cc sl ka i r hf =>
    have hm := ax_lf_mem hf
    split at h
    · next hc =>
      obtain ⟨h1, h2, h3⟩ := hc
      subst h2
      cases h
      intro p e R s m args below meth c cells slots Q A ad ov dC dI cy Ln xs hx _ _ hk H locs ls hi
      obtain ⟨⟨v1, v2, v3⟩, ⟨w1, w2, w3⟩, ⟨l1, l2⟩, sc⟩ := hi
      have hi0 : i < ax_cn ka := ax_vs_r v2
      have kk := hk H locs ls ⟨⟨v1, ax_vs_c (v3 ka i sl h1 hi0 h3) (ax_vs_t v2), v3⟩, ⟨w1, w2, w3⟩, ⟨l1, l2⟩, sc⟩
      show W p l e R s m args below meth c H locs cells slots Q (F0 m pc ls (ax_cv ad ov (.inr (ka, i)) :: r.map (ax_cv ad ov)))
      rw [ax_cv_k (by omega)]
      obtain ⟨q, -, hq⟩ := ax_gw_at (ad := ad) (ov := ov) (cy := cy) S (show (ax_kd ka).1 ≤ 1 by omega) hi0
      have he : ax_ce ad ov cy S ka i = .inr ((ax_kd ka).2.1, (List.range (ax_nf (ax_kd ka).2.1)).map (fun j => ax_cv ad ov (ax_fv S ka i (ax_kd ka).2.1 j))) := if_pos h1
      rw [he] at hq
      obtain ⟨⟨C, T, N⟩, ty0, hr, c1, c2, c3, c4, c5⟩ := ax_T2 _ (ax_kd0_small ka (ax_kd_lt (by omega)) h1)
      have hw := ax_T1 k.1 hx.2.2.2.2.2.1.1 _ hm
      unfold ax_fw ax_TN at hw
      dsimp only at hw
      rw [hr] at hw
      dsimp only at hw c1 c2
      exact va_get (D := (dC, dI)) (cl := vwCl) (ws := ax_gw ad ov cy S) (ref := (T sl).1) hx.1 hx.2.1 hx.2.2.2.2.1 c1 hx.2.2.2.1 hx.2.2.2.2.2.2.2.2.1 w1 q hq hr sl (by rw [c2]; exact h3) (hx.2.2.2.2.1 _ hw) (fun _ h9 => h9) (ax_fv_at h3) hd kk
    · split at h
      · next hc =>
        obtain ⟨h1, h2, h3⟩ := hc
        have e64 := ax_kd3 h1
        subst e64
        subst h2
        cases h
        intro p e R s m args below meth c cells slots Q A ad ov dC dI cy Ln xs hx _ _ hk H locs ls hi
        obtain ⟨⟨v1, v2, v3⟩, ⟨w1, w2, w3⟩, ⟨l1, l2⟩, sc⟩ := hi
        have hi0 : i < ax_cn 64 := ax_vs_r v2
        show W p l e R s m args below meth c H locs cells slots Q (F0 m pc ls (ax_cv ad ov (.inr (64, i)) :: r.map (ax_cv ad ov)))
        rw [ax_cv_k (by decide)]
        have hw := ax_T1 k.1 hx.2.2.2.2.2.1.1 _ hm
        have hC := hx.2.2.2.2.2.2.2.2.2.1.1.1 i hi0
        have hsl : sl = 0 ∨ sl = 1 := by
          have : ax_nf (ax_kd 64).2.1 = 2 := rfl
          omega
        rcases hsl with rfl | rfl
        · have kk := hk H locs ls ⟨⟨v1, ax_vs_c (ax_vv_r (k := 65) hi0) (ax_vs_t v2), v3⟩, ⟨w1, w2, w3⟩, ⟨l1, l2⟩, sc⟩
          exact vk_getf hx.1 hx.2.1 hC.2.2.1 w3 hx.2.2.2.1 (hx.2.2.2.2.1 _ hw) (fun _ h9 => h9) hd kk
        · have kk := hk H locs ls ⟨⟨v1, ax_vs_c (ax_vv_i 0) (ax_vs_t v2), v3⟩, ⟨w1, w2, w3⟩, ⟨l1, l2⟩, sc⟩
          exact vk_getf hx.1 hx.2.1 hC.2.1 w3 hx.2.2.2.1 (hx.2.2.2.2.1 _ hw) (fun _ h9 => h9) hd kk
      · cases h
  · cases h
end AXP

/-! ACTS keep the invariant: frames by lists -/
def ok0 (e : Nat × Nat × Nat) : Bool := (e.1 == 0 && ((e.2.1 == 5 && e.2.2 == 3) || e.2.1 == 7 || e.2.1 == 8 || (e.2.1 == 10 && decide (2 ≤ e.2.2)) || decide (12 ≤ e.2.1))) || e.1 == 1 || e.1 == 5 || (e.1 == 2 && e.2.1 != 11) || (e.1 == 3 && e.2.1 != 6) || (e.1 == 4 && (e.2.1 == 31 || e.2.1 == 32 || e.2.1 == 33 || (decide (34 ≤ e.2.1) && decide (e.2.1 ≤ 37)) || decide (43 ≤ e.2.1)))
def okC (e : Nat × Nat × Nat) : Bool := e.2.1 == 12 || decide (44 ≤ e.2.1)
def okR (e : Nat × Nat × Nat) : Bool := decide (e.2.1 < 12) || (decide (20 ≤ e.2.1) && decide (e.2.1 < 44))
theorem ok_n {V : List (Nat × Nat × Nat)} {f : Nat × Nat × Nat → Bool} (h : V.all f = true) {e : Nat × Nat × Nat} (he : f e = false) : V.contains e = false := by
  cases hc : V.contains e with
  | false => rfl
  | true =>
    have := List.all_eq_true.mp h e (List.contains_iff_mem.mp hc)
    rw [he] at this
    cases this
section
variable {S T Z Y S1 T1 T2 T3 : AS} {o M c cn im hI tn wh n ca hi : Nat} {H N L E Q NI LI tb Lg : Nat → Nat} {W : Option (List la_C)} {K : Nat → List la_C} {P : Nat → Nat → Nat}
theorem cg0_f {V : List (Nat × Nat × Nat)} (hs : ax_fr V S Z) (hV : V.all ok0 = true) : cg0 o M c S Z := by
  refine ⟨fun k i j h1 h2 h3 h4 h5 h6 h7 h8 => hs.1 k i j (ok_n hV ?_), fun j => hs.2.2.1 11 0 j (ok_n hV ?_), fun j => hs.2.2.2.1 6 0 j (ok_n hV ?_), fun k i h1 h2 h3 h4 h5 h6 h7 h8 h9 ha hb => hs.2.2.2.2.1 k i (ok_n hV ?_)⟩
  · have a1 : ¬ (k = 5 ∧ j = 3) := by omega
    have a2 : ¬ (12 ≤ k) := by omega
    simp [ok0, h6, h7, a2]
    omega
  · simp [ok0]
  · simp [ok0]
  · have a1 : ¬ (43 ≤ k) := by omega
    simp [ok0, h3, h4, h5, a1]
    omega
theorem cgall {V : List (Nat × Nat × Nat)} (hs : ax_fr V S Z) (hV : V.all okC = true) : cg0 o M c S Z ∧ cg1 S Z := by
  have f : ∀ a k j, k ≠ 12 → k < 44 → V.contains (a, k, j) = false := fun a k j h1 h2 => ok_n hV (by
    have : ¬ (44 ≤ k) := by omega
    simp [okC, h1, this])
  refine ⟨⟨fun k i j h1 _ _ _ _ _ _ _ => hs.1 k i j (f _ _ _ (by omega) (by omega)), fun j => hs.2.2.1 11 0 j (f _ _ _ (by omega) (by omega)), fun j => hs.2.2.2.1 6 0 j (f _ _ _ (by omega) (by omega)), fun k i h1 h2 _ _ _ _ _ _ _ _ _ => hs.2.2.2.2.1 k i (f _ _ _ (by omega) (by omega))⟩, fun j => hs.1 9 0 j (f _ _ _ (by omega) (by omega)), fun j => hs.1 7 0 j (f _ _ _ (by omega) (by omega)), hs.2.2.2.2.1 33 0 (f _ _ _ (by omega) (by omega)), hs.2.2.2.2.1 38 0 (f _ _ _ (by omega) (by omega)), hs.2.2.2.2.1 39 0 (f _ _ _ (by omega) (by omega)), hs.2.2.2.2.1 23 0 (f _ _ _ (by omega) (by omega))⟩
theorem rgall {V : List (Nat × Nat × Nat)} (hs : ax_fr V T Y) (hV : V.all okR = true) : rg0 T Y ∧ rg1 T Y ∧ (jr_C T H M K W → jr_C Y H M K W) := by
  have f : ∀ a k j, k = 12 ∨ 44 ≤ k → V.contains (a, k, j) = false := fun a k j h1 => ok_n hV (by
    have a1 : ¬ (k < 12) := by omega
    have a2 : ¬ (20 ≤ k ∧ k < 44) := by omega
    simp [okR, a1]
    omega)
  refine ⟨⟨fun j hj => hs.1 12 0 j (f _ _ _ (by omega)), hs.2.2.2.2.1 44 0 (f _ _ _ (by omega)), fun m _ => by rw [hs.2.2.2.2.1 53 0 (f _ _ _ (by omega))], fun m _ => by rw [hs.2.2.2.2.1 54 0 (f _ _ _ (by omega))], hs.2.2.2.2.1 61 0 (f _ _ _ (by omega)), hs.2.2.2.2.1 62 0 (f _ _ _ (by omega))⟩, ⟨hs.1 12 0 39 (f _ _ _ (by omega)), hs.2.2.2.2.1 55 0 (f _ _ _ (by omega)), hs.2.2.2.2.1 59 0 (f _ _ _ (by omega))⟩, fun h => jr_C_e (hs.1 12 0 26 (f _ _ _ (by omega))) (hs.1 12 0 27 (f _ _ _ (by omega))) (hs.1 12 0 34 (f _ _ _ (by omega))) (hs.2.2.2.2.1 47 0 (f _ _ _ (by omega))) (hs.2.2.2.2.1 49 0 (f _ _ _ (by omega))) (hs.2.2.2.2.1 51 0 (f _ _ _ (by omega))) (hs.2.2.2.2.1 45 0 (f _ _ _ (by omega))) (hs.2.2.2.2.1 44 1 (f _ _ _ (by omega))) (hs.2.2.2.2.1 46 0 (f _ _ _ (by omega))) (hs.2.2.2.2.1 58 0 (f _ _ _ (by omega))) (hs.2.2.2.2.2 57 0 (f _ _ _ (by omega))) h⟩
/-- what only the one side changes leaves the other -/
theorem jI_T {V : List (Nat × Nat × Nat)} (h : jI S T) (hs : ax_fr V T Y) (hV : V.all okR = true) : jI S Y := by
  obtain ⟨o, H, N, W, M, K, c, L, E, cn, Q, im, NI, LI, hI, tn, tb, wh, n, ca, P, Lg, hi, hR, hC, hA⟩ := h
  have g := rgall (H := H) (M := M) (K := K) (W := W) hs hV
  exact jI_g hR hA ⟨cg0.rf, cg1.rf⟩ ⟨g.1, g.2.1⟩ (g.2.2 hC)
theorem jI_S {V : List (Nat × Nat × Nat)} (h : jI S T) (hs : ax_fr V S Z) (hV : V.all okC = true) : jI Z T := by
  obtain ⟨o, H, N, W, M, K, c, L, E, cn, Q, im, NI, LI, hI, tn, tb, wh, n, ca, P, Lg, hi, hR, hC, hA⟩ := h
  exact jI_g hR hA (cgall hs hV) ⟨rg0.rf, rg1.rf⟩ hC
theorem cg_st0 (h : jc_st S Z 0) : cg0 o M c S Z := by
  obtain ⟨f1, f2, f3, f4, f5, f6⟩ := h
  exact ⟨fun k i j _ h2 h3 _ _ _ _ _ => f1 k i j (by omega) (by omega), fun j => by rw [f3], fun j => by rw [f4], fun k i _ _ h3 h4 _ _ h7 _ _ _ _ => f5 k i (by omega) h3 h4⟩
theorem lg_S_o {k i : Nat} (h : ¬ (k = 23 ∧ i = 0)) : ax_ai (lg_S S 0 N) k i = ax_ai S k i := by
  unfold lg_S
  rw [show ax_ai (ax_sai (ax_sai (ax_sai S 23 0 (N 22 % 100 * 3) (nI (N 20))) 23 0 (N 22 % 100 * 3 + 1) (nI (jn_bits N))) 23 0 (N 22 % 100 * 3 + 2) (nI (N 16))) k i = ax_ai (ax_sai (ax_sai S 23 0 (N 22 % 100 * 3) (nI (N 20))) 23 0 (N 22 % 100 * 3 + 1) (nI (jn_bits N))) k i from ax_u3_o h, show ax_ai (ax_sai (ax_sai S 23 0 (N 22 % 100 * 3) (nI (N 20))) 23 0 (N 22 % 100 * 3 + 1) (nI (jn_bits N))) k i = ax_ai (ax_sai S 23 0 (N 22 % 100 * 3) (nI (N 20))) k i from ax_u3_o h]
  exact ax_u3_o h
theorem cg_lg : cg0 o M c S (lg_S S 0 N) := ⟨fun _ _ _ _ _ _ _ _ _ _ _ => rfl, fun _ => rfl, fun _ => rfl, fun k i _ _ _ _ _ _ _ _ _ _ h => lg_S_o h⟩
theorem cg_rm : cg0 o M c S (rm_S S N n ca) := by
  refine ⟨fun k i j _ _ _ _ _ h6 _ _ => ?_, fun _ => rfl, fun _ => rfl, fun k i _ _ _ _ h5 _ _ _ _ _ _ => ?_⟩
  · unfold rm_S
    have f : ∀ (U : AS) (a : Nat) (v : Int32), ax_fi (ax_sfi U 7 0 a v) k i j = ax_fi U k i j := fun U a v => by
      unfold ax_fi ax_sfi ax_u3
      exact if_neg (fun q => h6 q.1)
    rw [f, f]; rfl
  · unfold rm_S
    show ax_ai (rw_st S 33 _) k i = _
    funext m
    simp [ax_ai, rw_st, h5]
theorem jd_push {N' : Nat → Nat} {hi' : Nat} (h : jd H N ca P hi) (hN : jn_ok H N) (h4 : 0 < H 4) (hc : ca ≤ 40) (hd : (N' 22 = N 22 ∧ hi' = hi) ∨ (N' 22 = N 22 + 1 ∧ hi' = max hi (N 22 + 1))) : jd H N' (min 40 (ca + 1)) (ps P N ca) hi' := by
  obtain ⟨h1, h2, h3, _⟩ := h
  refine ⟨by omega, by omega, fun a ha => ?_, fun z => absurd z (by omega)⟩
  by_cases q : ca = 40
  · have e : ∀ a, a < 39 → ps P N ca a = P (a + 1) := fun a ha => by unfold ps; rw [if_pos q, if_neg (by omega)]
    have e9 : ps P N ca 39 = N := by unfold ps; rw [if_pos q, if_pos rfl]
    by_cases qa : a = 39
    · subst qa
      rw [e9]
      refine ⟨hN, by omega, by omega, by omega, fun b b1 b2 => ?_⟩
      obtain rfl : b = 39 := by omega
      rw [e9]; omega
    · obtain ⟨k1, k2, k3, k4, k5⟩ := h3 (a + 1) (by omega)
      rw [e a (by omega)]
      refine ⟨k1, by omega, by omega, by omega, fun b b1 b2 => ?_⟩
      by_cases qb : b = 39
      · subst qb
        rw [e9]; omega
      · have := k5 (b + 1) (by omega) (by omega)
        rw [e b (by omega)]; omega
  · have e : ∀ a, a < ca → ps P N ca a = P a := fun a ha => by unfold ps; rw [if_neg q, if_neg (by omega)]
    have e9 : ps P N ca ca = N := by unfold ps; rw [if_neg q, if_pos rfl]
    by_cases qa : a = ca
    · subst qa
      rw [e9]
      refine ⟨hN, by omega, by omega, by omega, fun b b1 b2 => ?_⟩
      obtain rfl : b = a := by omega
      rw [e9]; omega
    · obtain ⟨k1, k2, k3, k4, k5⟩ := h3 a (by omega)
      rw [e a (by omega)]
      refine ⟨k1, by omega, by omega, by omega, fun b b1 b2 => ?_⟩
      by_cases qb : b = ca
      · subst qb
        rw [e9]; omega
      · have := k5 b (by omega) (by omega)
        rw [e b (by omega)]; omega
theorem jl_r_23 {R R' : Nat → Int32} {day : Nat} (h : ∀ j, 23 ≤ j → R' j = R j) (hr : jl_r R day Lg) : jl_r R' day Lg := by
  refine ⟨?_, fun p hp w hw => ?_⟩
  · rw [h 23 (by omega)]; exact hr.1
  · rw [h _ (by omega)]; exact hr.2 p hp w hw
theorem cn_do_22 {k v : Nat} (hk : k ≠ 4) : cn_do H W N k v 22 = N 22 ∨ (k = 0 ∧ cn_do H W N k v 22 = cn_call H W N v 22) ∨ 2 * v = 22 := by
  unfold cn_do
  by_cases h0 : k = 0
  · rw [if_pos h0]; exact .inr (.inl ⟨h0, rfl⟩)
  · rw [if_neg h0]
    by_cases h1 : k = 1
    · rw [if_pos h1]
      by_cases q : 22 = 2 * v
      · exact .inr (.inr q.symm)
      · rw [if_neg q, if_neg (by omega)]; exact .inl rfl
    · rw [if_neg h1]
      by_cases h2 : k = 2
      · rw [if_pos h2]; exact .inl (if_neg (by omega))
      · rw [if_neg h2]
        by_cases h3 : k = 3
        · rw [if_pos h3]; exact .inl (if_neg (by omega))
        · rw [if_neg h3, if_neg hk]
          by_cases h5 : k = 5
          · rw [if_pos h5]
            by_cases q : 22 = 2 * v
            · exact .inr (.inr q.symm)
            · rw [if_neg q]; exact .inl rfl
          · rw [if_neg h5]
            rw [if_neg (by omega), if_neg (by omega)]; exact .inl rfl
theorem cn_do_day {k : Nat} {x : Int32} (ho : jh_ok H) (hm : cn_may H W N k x) : (k ≠ 4 ∧ cn_do H W N k x.toNatClampNeg 22 = N 22) ∨ (k = 4 ∧ cn_do H W N k x.toNatClampNeg 22 = N 22 + 1) := by
  have h6 : H 4 ≤ 6 := ho.2.2.2.2.1
  by_cases q : k = 4
  · refine .inr ⟨q, ?_⟩
    subst q
    unfold cn_do
    rw [if_neg (by omega), if_neg (by omega), if_neg (by omega), if_neg (by omega), if_pos rfl]
    unfold cn_day
    rw [if_neg (by omega), if_neg (by omega), if_neg (by omega), if_neg (by omega), if_pos rfl]
  · refine .inl ⟨q, ?_⟩
    rcases cn_do_22 (H := H) (W := W) (N := N) (v := x.toNatClampNeg) q with e | ⟨h0, e⟩ | e
    · exact e
    · subst h0
      rcases hm with ⟨_, v, hv, rfl, _⟩ | ⟨z, _⟩ | z | ⟨z, _⟩ | ⟨z, _⟩ | ⟨z, _⟩ | ⟨z, _⟩
      · rw [e, nI_clamp (by omega), cn_call_k ho hv (.inr (.inr rfl))]
      all_goals omega
    · rcases hm with ⟨_, v, hv, rfl, _⟩ | ⟨_, v, hv, rfl, _⟩ | z | ⟨z, m, m1, m2, rfl, _⟩ | ⟨z, _⟩ | ⟨_, v, hv, rfl, _⟩ | ⟨z, _⟩
      · rw [nI_clamp (by omega)] at e; omega
      · rw [nI_clamp (by omega)] at e; omega
      · subst z
        unfold cn_do
        rw [if_neg (by omega), if_neg (by omega), if_pos rfl]
        exact if_neg (by omega)
      · subst z
        unfold cn_do
        rw [if_neg (by omega), if_neg (by omega), if_neg (by omega), if_pos rfl]
        exact if_neg (by omega)
      · omega
      · rw [nI_clamp (by omega)] at e; omega
      · subst z
        unfold cn_do
        rw [if_neg (by omega), if_neg (by omega), if_neg (by omega), if_neg (by omega), if_neg (by omega), if_neg (by omega)]
        rw [if_neg (by omega), if_neg (by omega)]
/-- an act is done on both sides -/
theorem act_fin (hR : jR o H W M K c L E cn Q im NI LI hI tn tb wh S T) (hA : jA H N n ca P Lg hi S T) {k : Nat} {x : Int32} (h0 : 0 < H 4) (hm : cn_may H W N k x) (g : cg0 o M c S Z) (cS : jc_S Z 0 (cn_do H W N k x.toNatClampNeg)) (c1 : ax_fi Z 7 0 1 = nI (ps_n n)) (c2 : ax_fi Z 7 0 2 = nI (min 40 (ca + 1))) (c3 : ax_ai Z 33 0 = sv_f (ax_ai S 33 0) N (n * 18)) (c4 : ax_ai Z 23 0 = if k = 4 then ax_ai (lg_S S 0 N) 23 0 else ax_ai S 23 0) (q : rg0 T Y) (qC : jr_C Y H M K W) (r1 : ax_fi Y 12 0 39 = nI (min 40 (ca + 1))) (r2 : ax_ai Y 59 0 = rm_f (ax_ai T 59 0) (ax_ai T 55 0) ca) (r3 : jr_S (ax_ai Y 55 0) (cn_do H W N k x.toNatClampNeg)) (r4 : k ≠ 4 → ∀ j, 23 ≤ j → ax_ai Y 55 0 j = ax_ai T 55 0 j) (r5 : k = 4 → ax_ai Y 55 0 = gd_1 (ax_ai T 55 0) N (min 60 (N 22))) : jR o H W M K c L E cn Q im NI LI hI tn tb wh Z Y ∧ jr_C Y H M K W ∧ ∃ n ca P Lg hi, jA H (cn_do H W N k x.toNatClampNeg) n ca P Lg hi Z Y := by
  obtain ⟨a1, a2, a3, a4, a5, a6, a7⟩ := hA
  have ho := hR.1
  have hca : ca ≤ 40 := a4.2.1
  refine ⟨jR_g g q hR, qC, ?_⟩
  have jp1 := jpa_push (N := N) a4 c1 c2 c3 r1 r2 a3 a6
  rcases cn_do_day ho hm with ⟨k4, e⟩ | ⟨k4, e⟩
  · have jd1 := jd_push (N' := cn_do H W N k x.toNatClampNeg) a7 a1 h0 hca (.inl ⟨e, rfl⟩)
    rw [if_neg k4] at c4
    refine ⟨_, _, _, Lg, hi, cn_ok ho a1 hm, cS, r3, jp1, ?_, ?_, jd1⟩
    · rw [e]
      intro d d1 d2 w hw
      rw [c4]
      exact a5 d d1 d2 w hw
    · rw [e]
      exact jl_r_23 (r4 k4) a6
  · have jd1 := jd_push (N' := cn_do H W N k x.toNatClampNeg) a7 a1 h0 hca (.inr ⟨e, rfl⟩)
    rw [if_pos k4] at c4
    refine ⟨_, _, _, lgw Lg N, max hi (N 22 + 1), cn_ok ho a1 hm, cS, r3, jpa_w jp1 (fun a ha => ?_), ?_, ?_, jd1⟩
    · have jd0 := jd_push (N' := N) a7 a1 h0 hca (.inl ⟨rfl, rfl⟩)
      exact (jd0.2.2.1 a ha).2.1
    · rw [e]
      intro d d1 d2 w hw
      rw [c4]
      exact lg_keep a5 d d1 d2 w hw
    · rw [e, r5 k4]
      exact gd_keep a6
/-- the act of the given code -/
theorem ac_c (hR : jR o H W M K c L E cn Q im NI LI hI tn tb wh S T) (hA : jA H N n ca P Lg hi S T) {k : Nat} (hk : k < 7) (x : Int32) : (¬ (0 < H 4 ∧ cn_may H W N k x) ∧ ∃ Z, f_X11_act (nI k) x S = some (0, Z) ∧ ax_fr jc_scr S Z) ∨ ((0 < H 4 ∧ cn_may H W N k x) ∧ ∃ Z, f_X11_act (nI k) x S = some (1, Z) ∧ cg0 o M c S Z ∧ jc_S Z 0 (cn_do H W N k x.toNatClampNeg) ∧ ax_fi Z 7 0 1 = nI (ps_n n) ∧ ax_fi Z 7 0 2 = nI (min 40 (ca + 1)) ∧ ax_ai Z 33 0 = sv_f (ax_ai S 33 0) N (n * 18) ∧ ax_ai Z 23 0 = if k = 4 then ax_ai (lg_S S 0 N) 23 0 else ax_ai S 23 0) := by
  obtain ⟨a1, a2, a3, a4, a5, a6, a7⟩ := hA
  have ho := hR.1
  have c4i : (nI k = (4 : Int32)) ↔ k = 4 := nI_eq (b := 4) (by omega) (by omega)
  unfold f_X11_act
  by_cases h0 : H 4 = 0
  · refine .inl ⟨fun z => absurd z.1 (by omega), S, ?_, ax_fr.rf⟩
    have e : f_X6_may 0 (nI k) x S = some (0, S) := by
      unfold f_X6_may
      rw [hR.2.1.2.2.2.1, if_pos h0, sn_onn]
    rw [e, ax_bu_s, if_pos rfl]
  · obtain ⟨r, Z, z1, z2, z3⟩ := jc_may ho a1 ⟨hR.2.1, jz_W hR.2.2.1⟩ a2 (by omega) k hk x
    rw [z1, ax_bu_s]
    rcases z3 with ⟨hm, rfl⟩ | ⟨hm, rfl⟩
    · refine .inr ⟨⟨by omega, hm⟩, ?_⟩
      have g1 : cg0 o M c S Z := (cg_scr (jc_sc2_of z2)).1
      have s1 : jc_S Z 0 N := jc_S_fr z2 a2
      have e7 : ∀ j, ax_fi Z 7 0 j = ax_fi S 7 0 j := (cg_scr (o := o) (M := M) (c := c) (jc_sc2_of z2)).2.2.1
      have e33 : ax_ai Z 33 0 = ax_ai S 33 0 := z2.2.2.2.2.1 33 0 (by decide)
      have e23 : ax_ai Z 23 0 = ax_ai S 23 0 := z2.2.2.2.2.1 23 0 (by decide)
      have er := jc_rem a4.1 a4.2.1 ((e7 1).trans a4.2.2.1) ((e7 2).trans a4.2.2.2.1) s1
      have g2 : cg0 o M c S (rm_S Z N n ca) := g1.tr cg_rm
      have s2 : jc_S (rm_S Z N n ca) 0 N := by
        have f : ∀ j, ax_fi (rm_S Z N n ca) 9 0 j = ax_fi Z 9 0 j := fun j => rfl
        have f8 : ax_ai (rm_S Z N n ca) 38 0 = ax_ai Z 38 0 := rfl
        have f9 : ax_ai (rm_S Z N n ca) 39 0 = ax_ai Z 39 0 := rfl
        obtain ⟨y0, y1, y2, y3, y4, y5, y6, y7, y8, y9⟩ := s1
        exact ⟨y0, y1, y2, y3, y4, y5, y6, y7, y8, y9⟩
      have p1 : ax_fi (rm_S Z N n ca) 7 0 1 = nI (ps_n n) := by
        unfold rm_S
        rw [sg, if_neg (by omega), sg, if_pos rfl]
        rfl
      have p2 : ax_fi (rm_S Z N n ca) 7 0 2 = nI (min 40 (ca + 1)) := by
        unfold rm_S
        rw [sg, if_pos rfl]
      have p3 : ax_ai (rm_S Z N n ca) 33 0 = sv_f (ax_ai S 33 0) N (n * 18) := by
        rw [← e33]
        exact rw_g
      have p4 : ax_ai (rm_S Z N n ca) 23 0 = ax_ai S 23 0 := e23
      rw [if_neg ne10, er, sn_bs, sn_let]
      generalize rm_S Z N n ca = U at *
      have hRU := jR_g g2 rg0.rf hR
      by_cases q4 : k = 4
      · rw [if_pos (c4i.mpr q4), lg_write a1.2.2.2.2.2.2.2.2.2.2 s2, sn_bs]
        have g3 : cg0 o M c S (lg_S U 0 N) := g2.tr cg_lg
        have s3 : jc_S (lg_S U 0 N) 0 N := by
          obtain ⟨y0, y1, y2, y3, y4, y5, y6, y7, y8, y9⟩ := s2
          exact ⟨y0, y1, y2, y3, y4, y5, y6, y7, y8, y9⟩
        have hRV := jR_g g3 rg0.rf hR
        have l4 : ax_ai (lg_S U 0 N) 23 0 = ax_ai (lg_S S 0 N) 23 0 := by
          unfold lg_S
          funext m
          rw [sga, sga, sga, sga, sga, sga, p4]
        have l33 : ax_ai (lg_S U 0 N) 33 0 = ax_ai U 33 0 := lg_S_o (by omega)
        have l7 : ∀ j, ax_fi (lg_S U 0 N) 7 0 j = ax_fi U 7 0 j := fun j => rfl
        obtain ⟨V, v1, v2, v3⟩ := jc_do ho a1 ⟨hRV.2.1, jz_W hRV.2.2.1⟩ s3 hm
        dsimp only
        rw [v1, sn_bs]
        refine ⟨V, rfl, g3.tr (cg_st0 v3), v2, ?_, ?_, ?_, ?_⟩
        · rw [v3.1 7 0 1 (by omega) (by omega), l7, p1]
        · rw [v3.1 7 0 2 (by omega) (by omega), l7, p2]
        · rw [v3.2.2.2.2.1 33 0 (by omega) (by omega) (by omega), l33, p3]
        · rw [v3.2.2.2.2.1 23 0 (by omega) (by omega) (by omega), if_pos q4, l4]
      · rw [if_neg (fun z => q4 (c4i.mp z))]
        obtain ⟨V, v1, v2, v3⟩ := jc_do ho a1 ⟨hRU.2.1, jz_W hRU.2.2.1⟩ s2 hm
        dsimp only
        rw [v1, sn_bs]
        refine ⟨V, rfl, g2.tr (cg_st0 v3), v2, ?_, ?_, ?_, ?_⟩
        · rw [v3.1 7 0 1 (by omega) (by omega), p1]
        · rw [v3.1 7 0 2 (by omega) (by omega), p2]
        · rw [v3.2.2.2.2.1 33 0 (by omega) (by omega) (by omega), p3]
        · rw [v3.2.2.2.2.1 23 0 (by omega) (by omega) (by omega), if_neg q4, p4]
    · refine .inl ⟨fun z => hm z.2, Z, ?_, z2⟩
      rw [if_pos rfl]
end

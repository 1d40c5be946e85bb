/-! THE REFERENCE: how long a name takes -/
def jr_L (T : AS) (M : Nat) (K : Nat → List la_C) : Prop := M ≤ 4 ∧ ∀ k, k < M → ∃ (b : Nat → Nat) (n : Nat), n ≤ 240 ∧ ax_ai T 45 0 k = nI n ∧ (∀ p, p < n → ax_ai T 44 1 (240 * k + p) = lr_by (b p)) ∧ (∀ p, p < n → 1 ≤ b p ∧ b p ≤ 255) ∧ la_L b n (n + 1) 0 (.inr (K k))
def mk_key (k n h t g s d : Nat) : Nat := 2000 * (2 * (20 * (10 * (10 * (10 * (1 + k) + n) + h) + t) + g) + s) + d
def mk_rg (k n h t g s d : Nat) : Prop := k ≤ 3 ∧ n ≤ 9 ∧ h ≤ 9 ∧ t ≤ 9 ∧ g ≤ 19 ∧ s ≤ 1 ∧ d ≤ 1999
theorem mk_inj {k n h t g s d k' n' h' t' g' s' d' : Nat} (a : mk_rg k n h t g s d) (b : mk_rg k' n' h' t' g' s' d') (e : mk_key k n h t g s d = mk_key k' n' h' t' g' s' d') : k = k' ∧ n = n' ∧ h = h' ∧ t = t' ∧ g = g' ∧ s = s' ∧ d = d' := by
  unfold mk_rg at a b
  unfold mk_key at e
  omega
theorem mk_le {k n h t g s d : Nat} (a : mk_rg k n h t g s d) : 4000 ≤ mk_key k n h t g s d ∧ mk_key k n h t g s d < 500000000 := by
  unfold mk_rg at a
  unfold mk_key
  omega
def jr_M (T : AS) (M : Nat) (K : Nat → List la_C) : Prop := ∀ q, q < 8191 → ax_al T 57 0 q = 0 ∨ ∃ k n h t g s d, k < M ∧ mk_rg k n h t g s d ∧ ax_al T 57 0 q = lN (mk_key k n h t g s d) ∧ ax_ai T 58 0 q = la_cv (bt_r n h t g s d) (K k)
/-- the letters' row stays in its bounds -/
def jr_lt (T : AS) : Prop := ∀ k, k < 6 → la_cl (ax_ai T 46 0 (lr_ch k)).toInt64 = ax_ai T 46 0 (lr_ch k)
def jr_W (T : AS) (M : Nat) (K : Nat → List la_C) (W : Option (List la_C)) : Prop := match W with
  | none => ax_fi T 12 0 34 = Int32.ofInt (-1)
  | some cs => ∃ k, k < M ∧ ax_fi T 12 0 34 = nI k ∧ cs = K k
section
variable {T Z : AS} {H : Nat → Nat} {M : Nat} {K : Nat → List la_C} {W : Option (List la_C)}
theorem jr_of (hH : jr_H T H) (ho : jh_ok H) {v w : Nat} (hv : v < H 4) (hw : w < 7) : f_X12_of (nI v) (nI w) T = some (nI (H (16 + 7 * v + w))) := by
  have h6 : H 4 ≤ 6 := ho.2.2.2.2.1
  unfold f_X12_of
  simp (disch := omega) only [sn_7, pk_mul, nI_add, ax_gd, sn_in, nI_clamp, if_true]
  rw [hH.2.2.2.2 v hv w hw]
def jr_ltr (T : AS) (n h t g s d : Nat) : AS := ax_sai (ax_sai (ax_sai (ax_sai (ax_sai (ax_sai T 46 0 110 (nI n)) 46 0 112 (nI h)) 46 0 116 (nI t)) 46 0 103 (nI g)) 46 0 115 (nI s)) 46 0 100 (nI d)
theorem jr_ltr_r {n h t g s d k : Nat} (hk : k < 6) : ax_ai (jr_ltr T n h t g s d) 46 0 (lr_ch k) = bt_r n h t g s d k := by
  unfold jr_ltr
  rcases (by omega : k = 0 ∨ k = 1 ∨ k = 2 ∨ k = 3 ∨ k = 4 ∨ k = 5) with rfl | rfl | rfl | rfl | rfl | rfl
  · simp [ax_ai, ax_sai, ax_u3, bt_r, lr_ch]
  · simp [ax_ai, ax_sai, ax_u3, bt_r, lr_ch]
  · simp [ax_ai, ax_sai, ax_u3, bt_r, lr_ch]
  · simp [ax_ai, ax_sai, ax_u3, bt_r, lr_ch]
  · simp [ax_ai, ax_sai, ax_u3, bt_r, lr_ch]
  · simp [ax_ai, ax_sai, ax_u3, bt_r, lr_ch]
theorem jr_rgl {k n h t g s d : Nat} (a : mk_rg k n h t g s d) {j : Nat} : la_cl (bt_r n h t g s d j).toInt64 = bt_r n h t g s d j := by
  unfold mk_rg at a
  have e : ∃ x, x < 10000 ∧ bt_r n h t g s d j = Int32.ofNat x := by
    unfold bt_r
    repeat' split
    · exact ⟨n, by omega, rfl⟩
    · exact ⟨h, by omega, rfl⟩
    · exact ⟨t, by omega, rfl⟩
    · exact ⟨g, by omega, rfl⟩
    · exact ⟨s, by omega, rfl⟩
    · exact ⟨d, by omega, rfl⟩
  obtain ⟨x, hx, e⟩ := e
  rw [e, lr_cln hx]
theorem jr_l1 : (1 : Int64) = lN 1 := Eq.trans rfl rfl
theorem jr_l2 : (2 : Int64) = lN 2 := Eq.trans rfl rfl
theorem jr_l10 : (10 : Int64) = lN 10 := Eq.trans rfl rfl
theorem jr_l20 : (20 : Int64) = lN 20 := Eq.trans rfl rfl
theorem jr_l2000 : (2000 : Int64) = lN 2000 := Eq.trans rfl rfl
theorem jr_l8191 : (8191 : Int64) = lN 8191 := Eq.trans rfl rfl
theorem jr_kv {k n h t g s d : Nat} (a : mk_rg k n h t g s d) : (2000 : Int64) * ((2 : Int64) * ((20 : Int64) * ((10 : Int64) * ((10 : Int64) * ((10 : Int64) * ((1 : Int64) + (nI k).toInt64) + (nI n).toInt64) + (nI h).toInt64) + (nI t).toInt64) + (nI g).toInt64) + (nI s).toInt64) + (nI d).toInt64 = lN (mk_key k n h t g s d) := by
  unfold mk_rg at a
  rw [nI_l (by omega), nI_l (by omega), nI_l (by omega), nI_l (by omega), nI_l (by omega), nI_l (by omega), nI_l (by omega), jr_l1, jr_l2, jr_l10, jr_l20, jr_l2000]
  simp only [lN_add, lN_mul]
  rfl
theorem jr_sp {x : Nat} (h : x < 500000000) : (lN x - lN x / (8191 : Int64) * (8191 : Int64)).toInt32 = nI (x % 8191) := by
  rw [jr_l8191, pk_lRem (by omega) (by omega) (by omega), lN_i]
theorem lr_T0_ai {i A n : Nat} : ax_ai (lr_T0 T i A n) = ax_ai T := rfl
theorem jr_miss {k n h t g s d q : Nat} (hL : jr_L T M K) (hk : k < M) (hq : q < 8191) (a : mk_rg k n h t g s d) (e34 : ax_fi T 12 0 34 = nI k) (hm : jr_M T M K) :
    ∃ Z, ((f_X12_goThrough_44 1 ((240 : Int32) * (ax_fi (jr_ltr T n h t g s d) 12 0 34)) (ax_ai (jr_ltr T n h t g s d) 45 0 (ax_fi (jr_ltr T n h t g s d) 12 0 34).toNatClampNeg) (jr_ltr T n h t g s d)).bind (fun (S25 : AS) => ax_gd (ax_in (nI q) 8191) (ax_let (ax_sal S25 57 0 (nI q).toNatClampNeg (lN (mk_key k n h t g s d))) (fun (S29 : AS) => ax_gd (ax_in (nI q) 8191) (ax_let (ax_sai S29 58 0 (nI q).toNatClampNeg (ax_fi S29 12 0 14)) (fun (S31 : AS) => some ((ax_fi S31 12 0 14), S31))))))) = some (la_cv (bt_r n h t g s d) (K k), Z) ∧ jr_M Z M K ∧ jr_lt Z := by
  obtain ⟨hM, hL⟩ := hL
  obtain ⟨b, m, h240, h45, hb, hb1, hl⟩ := hL k hk
  have f34 : ax_fi (jr_ltr T n h t g s d) 12 0 34 = nI k := e34
  have f45 : ax_ai (jr_ltr T n h t g s d) 45 0 k = nI m := by
    have : ax_ai (jr_ltr T n h t g s d) 45 0 k = ax_ai T 45 0 k := by simp [jr_ltr, ax_ai, ax_sai, ax_u3]
    rw [this, h45]
  have f44 : ∀ p, p < m → ax_ai (jr_ltr T n h t g s d) 44 1 (240 * k + p) = lr_by (b p) := fun p hp => by
    have : ax_ai (jr_ltr T n h t g s d) 44 1 (240 * k + p) = ax_ai T 44 1 (240 * k + p) := by simp [jr_ltr, ax_ai, ax_sai, ax_u3]
    rw [this, hb p hp]
  have hR : lr_Rh (jr_ltr T n h t g s d) (bt_r n h t g s d) := fun j hj => ⟨jr_ltr_r hj, jr_rgl a⟩
  have hA : 240 * k + m ≤ ax_ln (jr_ltr T n h t g s d) 44 1 := by
    show _ ≤ 960
    omega
  obtain ⟨_, w2⟩ := lr_go (T := jr_ltr T n h t g s d) (i := 1) (A := 240 * k) h240 hA (by omega) f44 hb1 hR hl
  obtain ⟨p', g', e⟩ := w2 (K k) rfl
  have e' : f_X12_goThrough_44 1 ((240 : Int32) * (ax_fi (jr_ltr T n h t g s d) 12 0 34)) (ax_ai (jr_ltr T n h t g s d) 45 0 (ax_fi (jr_ltr T n h t g s d) 12 0 34).toNatClampNeg) (jr_ltr T n h t g s d) = some (lr_st (lr_T0 (jr_ltr T n h t g s d) 1 (240 * k) m) p' (Int32.ofInt (-1)) 0 g' (la_cv (bt_r n h t g s d) (K k))) := by
    rw [f34, nI_clamp (by omega), f45, sn_240, pk_mul]
    exact e
  rw [e', sn_bs]
  have iq : ax_in (nI q) 8191 = true := sn_in hq (by omega)
  have cq : (nI q).toNatClampNeg = q := nI_clamp (by omega)
  rw [iq, cq]
  simp only [ax_gd, if_true, ax_let]
  generalize hU : lr_st (lr_T0 (jr_ltr T n h t g s d) 1 (240 * k) m) p' (Int32.ofInt (-1)) 0 g' (la_cv (bt_r n h t g s d) (K k)) = U
  have u14 : ax_fi U 12 0 14 = la_cv (bt_r n h t g s d) (K k) := by rw [← hU]; exact lr_g14
  have ual : ∀ j, ax_al U 57 0 j = ax_al T 57 0 j := fun j => by rw [← hU]; rfl
  have u58 : ∀ j, ax_ai U 58 0 j = ax_ai T 58 0 j := fun j => by
    rw [← hU, lr_ga, lr_T0_ai]
    simp [jr_ltr, ax_ai, ax_sai, ax_u3]
  have u46 : ∀ j, j < 6 → ax_ai U 46 0 (lr_ch j) = bt_r n h t g s d j := fun j hj => by
    rw [← hU, lr_ga, lr_T0_ai]
    exact jr_ltr_r hj
  have v14 : ax_fi (ax_sai (ax_sal U 57 0 q (lN (mk_key k n h t g s d))) 58 0 q (ax_fi (ax_sal U 57 0 q (lN (mk_key k n h t g s d))) 12 0 14)) 12 0 14 = la_cv (bt_r n h t g s d) (K k) := u14
  have w14 : ax_fi (ax_sal U 57 0 q (lN (mk_key k n h t g s d))) 12 0 14 = la_cv (bt_r n h t g s d) (K k) := u14
  rw [v14, w14]
  refine ⟨_, rfl, fun j hj => ?_, fun j hj => ?_⟩
  · by_cases hjq : j = q
    · subst hjq
      refine .inr ⟨k, n, h, t, g, s, d, hk, a, ?_, ?_⟩
      · simp [ax_al, ax_sai, ax_sal, ax_u3]
      · simp [ax_ai, ax_sai, ax_sal, ax_u3]
    · have e1 : ax_al (ax_sai (ax_sal U 57 0 q (lN (mk_key k n h t g s d))) 58 0 q (la_cv (bt_r n h t g s d) (K k))) 57 0 j = ax_al T 57 0 j := by
        rw [← ual]; simp [ax_al, ax_sai, ax_sal, ax_u3, hjq]
      have e2 : ax_ai (ax_sai (ax_sal U 57 0 q (lN (mk_key k n h t g s d))) 58 0 q (la_cv (bt_r n h t g s d) (K k))) 58 0 j = ax_ai T 58 0 j := by
        rw [← u58]; simp [ax_ai, ax_sai, ax_sal, ax_u3, hjq]
      rw [e1, e2]
      exact hm j hj
  · have e1 : ax_ai (ax_sai (ax_sal U 57 0 q (lN (mk_key k n h t g s d))) 58 0 q (la_cv (bt_r n h t g s d) (K k))) 46 0 (lr_ch j) = bt_r n h t g s d j := by
      rw [← u46 j hj]; simp [ax_ai, ax_sai, ax_sal, ax_u3]
    rw [e1, jr_rgl a]
theorem jr_worth {k n h t g s d : Nat} (hL : jr_L T M K) (hm : jr_M T M K) (hlt : jr_lt T) (hk : k < M) (a : mk_rg k n h t g s d) (e34 : ax_fi T 12 0 34 = nI k) : ∃ Z, f_X12_worthOf (nI n) (nI h) (nI t) (nI g) (nI s) (nI d) T = some (la_cv (bt_r n h t g s d) (K k), Z) ∧ jr_M Z M K ∧ jr_lt Z := by
  have hl := mk_le a
  have hq : mk_key k n h t g s d % 8191 < 8191 := Nat.mod_lt _ (by omega)
  have kv := jr_kv a
  unfold f_X12_worthOf
  simp only [ax_let]
  rw [e34, kv, jr_sp hl.2]
  have iq : ax_in (nI (mk_key k n h t g s d % 8191)) 8191 = true := sn_in hq (by omega)
  have cq : (nI (mk_key k n h t g s d % 8191)).toNatClampNeg = mk_key k n h t g s d % 8191 := nI_clamp (by omega)
  by_cases hh : ax_al T 57 0 (mk_key k n h t g s d % 8191) = lN (mk_key k n h t g s d)
  · have hv : ax_ai T 58 0 (mk_key k n h t g s d % 8191) = la_cv (bt_r n h t g s d) (K k) := by
      rcases hm _ hq with h0 | ⟨k', n', h', t', g', s', d', hk', a', e1, e2⟩
      · rw [h0] at hh
        have z : lN 0 = lN (mk_key k n h t g s d) := hh
        have := (pk_lEQ (by omega) (by omega)).mp z
        omega
      · rw [e1] at hh
        have hl' := mk_le a'
        have z := (pk_lEQ (by omega) (by omega)).mp hh
        obtain ⟨rfl, rfl, rfl, rfl, rfl, rfl, rfl⟩ := mk_inj a' a z
        exact e2
    have hc : lg_cmp (ax_al T 57 0 (mk_key k n h t g s d % 8191)) (lN (mk_key k n h t g s d)) = 0 := (lg_cmp_eq _ _).mpr hh
    refine ⟨T, ?_, hm, hlt⟩
    rw [iq, cq]
    unfold ax_gd
    rw [if_pos rfl, if_pos hc, if_pos rfl, hv]
  · have hc : ¬ (lg_cmp (ax_al T 57 0 (mk_key k n h t g s d % 8191)) (lN (mk_key k n h t g s d)) = 0) := fun z => hh ((lg_cmp_eq _ _).mp z)
    obtain ⟨Z, z1, z2, z3⟩ := jr_miss hL hk hq a e34 hm
    refine ⟨Z, ?_, z2, z3⟩
    rw [← z1]
    have i1 : ax_in (110 : Int32) 128 = true := by decide
    have i2 : ax_in (112 : Int32) 128 = true := by decide
    have i3 : ax_in (116 : Int32) 128 = true := by decide
    have i4 : ax_in (103 : Int32) 128 = true := by decide
    have i5 : ax_in (115 : Int32) 128 = true := by decide
    have i6 : ax_in (100 : Int32) 128 = true := by decide
    have c1 : (110 : Int32).toNatClampNeg = 110 := rfl
    have c2 : (112 : Int32).toNatClampNeg = 112 := rfl
    have c3 : (116 : Int32).toNatClampNeg = 116 := rfl
    have c4 : (103 : Int32).toNatClampNeg = 103 := rfl
    have c5 : (115 : Int32).toNatClampNeg = 115 := rfl
    have c6 : (100 : Int32).toNatClampNeg = 100 := rfl
    have i34 : ax_in (ax_fi (jr_ltr T n h t g s d) 12 0 34) 4 = true := by
      show ax_in (ax_fi T 12 0 34) 4 = true
      have hM := hL.1
      rw [e34]; exact sn_in (by omega) (by omega)
    unfold jr_ltr at i34
    rw [iq, cq]
    unfold ax_gd
    rw [if_pos rfl, if_neg hc]
    simp only [i1, i2, i3, i4, i5, i6, if_true, c1, c2, c3, c4, c5, c6, i34]
    rfl
end

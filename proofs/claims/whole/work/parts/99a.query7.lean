/-! QUERIES: apart -/
section
variable {S T S1 T1 : AS} {o : Nat} {H N : Nat → Nat} {W : Option (List la_C)} {M : Nat} {K : Nat → List la_C}
theorem ap_pw : ∀ n, n < 7 → (1 : Int32) <<< (nI n &&& 31) = nI (2 ^ n) := by decide +kernel
def ap_v (H : Nat → Nat) (u v : Nat) : Int32 := if u = 10 then nI (H (22 + 7 * v) / 10) else nI (H (22 + 7 * v))
theorem ap_c (h : jq o H N W M K S T) {u v : Nat} (hu : u = 10 ∨ u = 1) (hv : v < H 4) : f_X11_soundsOf (nI v) (nI u) S = some (ap_v H u v) := by
  have b1 := h.1.2.2.2.2.2.2 v hv
  have e6 := jc_trait h.2.2.1.1 h.1 hv (w := 6) (by omega)
  rw [← sn_6, (by omega : 16 + 7 * v + 6 = 22 + 7 * v)] at e6
  unfold f_X11_soundsOf ap_v
  rw [h.2.2.1.1.2.1, e6, sn_bs]
  rcases hu with rfl | rfl
  · rw [if_pos (by decide : nI 10 = (10 : Int32)), if_pos rfl, sn_10, pk_div (by omega) (by omega) (by omega)]
  · rw [if_neg (by decide : ¬ (nI 1 = (10 : Int32))), if_neg (by omega)]
theorem ap_r (h : jq o H N W M K S T) {v : Nat} (hv : v < H 4) : f_X12_of (nI v) 6 T = some (nI (H (22 + 7 * v))) ∧ nI (H (22 + 7 * v)) / 10 = nI (H (22 + 7 * v) / 10) := by
  have b1 := h.1.2.2.2.2.2.2 v hv
  have e6 := jr_of h.2.2.2.2.1.1 h.1 hv (w := 6) (by omega)
  rw [← sn_6, (by omega : 16 + 7 * v + 6 = 22 + 7 * v)] at e6
  exact ⟨e6, by rw [sn_10, pk_div (by omega) (by omega) (by omega)]⟩
theorem ap_has {s v : Nat} (hs : s < 64) (hv : v < 6) : f_X12_has (nI s) (nI v) T = some (if s / 2 ^ v % 2 = 0 then 0 else 1) := by
  unfold f_X12_has
  rw [cn_shr s hs v hv]
  by_cases q : s / 2 ^ v % 2 = 0
  · rw [q, if_pos rfl, if_neg (by decide : ¬ (nI 0 = (1 : Int32)))]
  · have q1 : s / 2 ^ v % 2 = 1 := by omega
    rw [q1, if_pos (by decide : nI 1 = (1 : Int32)), if_neg (by omega : ¬ (1 = 0))]
theorem ap_in (h : jq o H N W M K S T) {s u w p : Nat} (hs : s < 64) (hu : (u = 10 ∧ w = 1) ∨ (u = 1 ∧ w = 2)) (hp : p < H 4) {Kc Kr : Int32 → Int32 → Int32 → Option Int32} (hK : ∃ r, Kc (nI s) (nI u) (nI p) = some r ∧ Kr (nI s) (nI w) (nI p) = some r) : ∀ d n q, q + d = p → d < n → ∃ r, f_X11_allUnlike_L16 S Kc n (nI s) (nI u) (nI p) (nI q) = some r ∧ f_X12_areUnlike_L13 T Kr n (nI s) (nI w) (nI p) (nI q) = some r
  | 0, n + 1, q, hq, _ => by
    have h6 : H 4 ≤ 6 := h.1.2.2.2.2.1
    rw [f_X11_allUnlike_L16, f_X12_areUnlike_L13, if_pos ((nI_leI (by omega) (by omega)).mpr (by omega)), if_pos ((nI_leI (by omega) (by omega)).mpr (by omega))]
    exact hK
  | d + 1, n + 1, q, hq, hn => by
    have h6 : H 4 ≤ 6 := h.1.2.2.2.2.1
    have hu' : u = 10 ∨ u = 1 := by omega
    obtain ⟨r, r1, r2⟩ := ap_in h hs hu hp hK d n (q + 1) (by omega) (by omega)
    have z0 : ∀ x : Nat, (nI (x % 2) = (0 : Int32)) ↔ x % 2 = 0 := fun x => nI_eq (b := 0) (by omega) (by omega)
    rw [f_X11_allUnlike_L16, f_X12_areUnlike_L13, if_neg (fun z => absurd ((nI_leI (by omega) (by omega)).mp z) (by omega)), if_neg (fun z => absurd ((nI_leI (by omega) (by omega)).mp z) (by omega)), sn_let, cn_shr s hs p (by omega), cn_shr s hs q (by omega), ap_has hs (by omega), sn_bs]
    by_cases b1 : s / 2 ^ p % 2 = 0
    · rw [if_pos ((z0 _).mpr b1), if_pos b1, if_pos rfl]
      dsimp only
      rw [if_pos rfl, sn_let, sn_let, nI_1]
      exact ⟨r, r1, r2⟩
    · rw [if_neg (fun z => b1 ((z0 _).mp z)), if_neg b1, if_neg ne10, ap_has hs (by omega), sn_bs]
      by_cases b2 : s / 2 ^ q % 2 = 0
      · rw [if_pos ((z0 _).mpr b2), if_pos b2, if_pos rfl]
        dsimp only
        rw [if_pos rfl, sn_let, sn_let, nI_1]
        exact ⟨r, r1, r2⟩
      · rw [if_neg (fun z => b2 ((z0 _).mp z)), if_neg b2, if_neg ne10, sn_let]
        dsimp only
        rw [if_neg ne10, ap_c h hu' hp, sn_bs, ap_c h hu' (by omega), sn_bs, sn_let, nI_1]
        have fin : ∀ x y : Int32, x = ap_v H u p → y = ap_v H u q → ∃ r, (if ap_v H u p = ap_v H u q then some 0 else f_X11_allUnlike_L16 S Kc n (nI s) (nI u) (nI p) (nI (q + 1))) = some r ∧ (if x = y then some 0 else f_X12_areUnlike_L13 T Kr n (nI s) (nI w) (nI p) (nI (q + 1))) = some r := fun x y ex ey => by
          subst ex ey
          by_cases e : ap_v H u p = ap_v H u q
          · rw [if_pos e, if_pos e]; exact ⟨0, rfl, rfl⟩
          · rw [if_neg e, if_neg e]; exact ⟨r, r1, r2⟩
        rcases hu with ⟨rfl, rfl⟩ | ⟨rfl, rfl⟩
        · rw [if_pos (by decide : nI 1 = (1 : Int32)), (ap_r h hp).1, sn_bs]
          dsimp only
          rw [if_pos (by decide : nI 1 = (1 : Int32)), (ap_r h (v := q) (by omega)).1, sn_bs, sn_let, sn_let, (ap_r h hp).2, (ap_r h (v := q) (by omega)).2]
          exact fin _ _ (by unfold ap_v; rw [if_pos rfl]) (by unfold ap_v; rw [if_pos rfl])
        · rw [if_neg (by decide : ¬ (nI 2 = (1 : Int32))), (ap_r h hp).1, sn_bs]
          dsimp only
          rw [if_neg (by decide : ¬ (nI 2 = (1 : Int32))), (ap_r h (v := q) (by omega)).1, sn_bs, sn_let]
          exact fin _ _ (by unfold ap_v; rw [if_neg (by omega)]) (by unfold ap_v; rw [if_neg (by omega)])
theorem ap_out (h : jq o H N W M K S T) {s u w : Nat} (hs : s < 64) (hu : (u = 10 ∧ w = 1) ∨ (u = 1 ∧ w = 2)) : ∀ d n p, p + d = H 4 → d < n → ∃ r, f_X11_allUnlike_L2 S n (nI s) (nI u) (nI p) = some r ∧ f_X12_areUnlike_L2 T n (nI s) (nI w) (nI p) = some r
  | 0, n + 1, p, hp, _ => by
    have h6 : H 4 ≤ 6 := h.1.2.2.2.2.1
    rw [f_X11_allUnlike_L2, f_X12_areUnlike_L2, h.2.2.1.1.2.1, h.2.2.1.1.2.2.2.2.2.1, h.2.2.2.2.1.1.2.1, if_pos ((nI_leI (by omega) (by omega)).mpr (by omega)), if_pos ((nI_leI (by omega) (by omega)).mpr (by omega))]
    exact ⟨1, rfl, rfl⟩
  | d + 1, n + 1, p, hp, hn => by
    have h6 : H 4 ≤ 6 := h.1.2.2.2.2.1
    obtain ⟨r, r1, r2⟩ := ap_out h hs hu d n (p + 1) (by omega) (by omega)
    rw [f_X11_allUnlike_L2, f_X12_areUnlike_L2, h.2.2.1.1.2.1, h.2.2.1.1.2.2.2.2.2.1, h.2.2.2.2.1.1.2.1, if_neg (fun z => absurd ((nI_leI (by omega) (by omega)).mp z) (by omega)), if_neg (fun z => absurd ((nI_leI (by omega) (by omega)).mp z) (by omega)), sn_0]
    exact ap_in h hs hu (by omega) ⟨r, by rw [sn_let, nI_1]; exact r1, by rw [sn_let, nI_1]; exact r2⟩ p ax_F 0 (by omega) (by show _ < 1000000; omega)
theorem ap_all (h : jq o H N W M K S T) {s u w : Nat} (hs : s < 64) (hu : (u = 10 ∧ w = 1) ∨ (u = 1 ∧ w = 2)) : ∃ r, f_X11_allUnlike (nI s) (nI u) S = some r ∧ f_X12_areUnlike (nI s) (nI w) T = some r := by
  have h6 : H 4 ≤ 6 := h.1.2.2.2.2.1
  have q := ap_out h hs hu (H 4) ax_F 0 (by omega) (by show _ < 1000000; omega)
  rw [← sn_0] at q
  exact q
theorem q_apart (h : jq o H N W M K S T) (a : Int32) : qo H W M K T (f_X11_apart a S) (f_X12_apart a T) := by
  have h1 := jq_thr (v := 0) h
  have h6 : H 4 ≤ 6 := h.1.2.2.2.2.1
  unfold f_X11_apart f_X12_apart
  rw [sn_let, jc_noH h1, sn_bs]
  refine qo_tr (jr_thr (v := 0)) ?_
  by_cases h0 : H 4 = 0
  · rw [if_pos h0, if_neg ne10, if_pos ((jr_no0 h1).mpr h0)]
    exact qo_none h1
  · have hp : 1 ≤ 2 ^ H 4 ∧ 2 ^ H 4 ≤ 64 := ⟨Nat.one_le_two_pow, Nat.pow_le_pow_right (by omega) (by omega : H 4 ≤ 6)⟩
    rw [if_neg h0, if_pos rfl, if_neg (fun z => h0 ((jr_no0 h1).mp z)), h1.2.2.1.1.2.1, h1.2.2.1.1.2.2.2.2.2.1, h1.2.2.2.2.1.1.2.1, ap_pw _ (by omega), sn_1, pk_sub hp.1, nI_l (by omega)]
    have il : (lN (2 ^ H 4 - 1)).toInt = ((2 ^ H 4 - 1 : Nat) : Int) := lN_toInt (by omega)
    have c0 : (a < 0) ↔ a.toInt < ((0 : Nat) : Int) := lt_i rfl
    have cp : (nI (2 ^ H 4) ≤ a) ↔ ((2 ^ H 4 : Nat) : Int) ≤ a.toInt := by rw [Int32.le_iff_toInt_le, nI_toInt (by omega)]
    rcases rg i_0 il a with ⟨s, _, s2, rfl, q⟩ | ⟨n1, q⟩
    · rw [nIi (by omega)] at c0 cp
      have hs : s < 64 := by omega
      rw [q, sn_bs, if_neg (fun z => absurd (c0.mp z) (by omega)), if_neg (fun z => absurd (cp.mp z) (by omega)), ← sn_1, if_neg ne10]
      have eb : f_J6_bitCount_0f7a4 (nI s) (ax_sfi T 12 0 0 0) = f_J6_bitCount_0f7a4 (nI s) S := rfl
      rw [eb]
      obtain ⟨c, hc⟩ : ∃ c, f_J6_bitCount_0f7a4 (nI s) S = some c := ⟨_, rfl⟩
      rw [hc, sn_bs, sn_bs]
      by_cases c2 : (2 : Int32) ≤ c
      · obtain ⟨r, r1, r2⟩ := ap_all h1 hs (u := 10) (w := 1) (.inl ⟨rfl, rfl⟩)
        obtain ⟨t, t1, t2⟩ := ap_all h1 hs (u := 1) (w := 2) (.inr ⟨rfl, rfl⟩)
        rw [← sn_10] at r1
        rw [← sn_1] at r2 t1
        rw [← sn_2] at t2
        rw [if_pos c2, if_pos c2, r1, sn_bs, r2, sn_bs]
        by_cases e1 : r = 0
        · rw [if_pos e1, if_pos e1, t1, sn_bs, t2, sn_bs]
          by_cases e2 : t = 0
          · rw [if_pos e2, if_pos e2]; exact qo_none h1
          · rw [if_neg e2, if_neg e2]; exact qo_none h1
        · rw [if_neg e1, if_neg e1]; exact qo_none h1
      · rw [if_neg c2, if_neg c2]; exact qo_none h1
    · rw [q, sn_bs, if_pos rfl]
      by_cases z : a < 0
      · rw [if_pos z]; exact qo_none h1
      · have w : ¬ (a.toInt < ((0 : Nat) : Int)) := fun w => z (c0.mpr w)
        rw [if_neg z, if_pos (cp.mpr (by omega))]
        exact qo_none h1
end

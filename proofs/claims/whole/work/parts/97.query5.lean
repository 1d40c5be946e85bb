/-! QUERIES: all -/
def rkv (H : Nat → Nat) (W : Option (List la_C)) (N : Nat → Nat) (w v : Nat) : Int32 := if w = 1 then nI (cn_b H W N v) else if w = 2 then -nI (cn_b H W N v) else if w = 3 then nI (H (20 + 7 * v)) else if w = 4 then nI (H (19 + 7 * v)) else nI (N (2 * v))
section
variable {S T S1 T1 : AS} {o : Nat} {H N : Nat → Nat} {W : Option (List la_C)} {M : Nat} {K : Nat → List la_C}
theorem jq_rank (h : jq o H N W M K S T) {w v : Nat} (hv : v < H 4) (h1 : 1 ≤ w) (h5 : w ≤ 5) : ∃ Z Y, f_X11_rank (nI w) (nI v) S = some (rkv H W N w v, Z) ∧ f_X12_valueOf (nI w) (nI v) T = some (rkv H W N w v, Y) ∧ ax_fr jc_scr S Z ∧ ax_fr jr_q T Y ∧ jr_C Y H M K W ∧ jq o H N W M K Z Y := by
  have f := jq_n h hv
  obtain ⟨Z, Y, z1, y1, z2, y2, y3, hq⟩ := jq_now h hv
  have e4 := jc_trait h.2.2.1.1 h.1 hv (w := 4) (by omega)
  rw [← sn_4, (by omega : 16 + 7 * v + 4 = 20 + 7 * v)] at e4
  have e3 := jc_trait h.2.2.1.1 h.1 hv (w := 3) (by omega)
  rw [← sn_3, (by omega : 16 + 7 * v + 3 = 19 + 7 * v)] at e3
  unfold f_X11_rank f_X12_valueOf rkv
  rcases (by omega : w = 1 ∨ w = 2 ∨ w = 3 ∨ w = 4 ∨ w = 5) with rfl | rfl | rfl | rfl | rfl
  · refine ⟨Z, Y, ?_, ?_, z2, y2, y3, hq⟩
    · rw [if_pos (by decide : nI 1 = (1 : Int32)), z1, ax_bu_s, if_pos rfl]
    · rw [if_pos (by decide : nI 1 = (1 : Int32)), y1, ax_bu_s, if_pos rfl]
  · refine ⟨Z, Y, ?_, ?_, z2, y2, y3, hq⟩
    · rw [if_neg (by decide : ¬ (nI 2 = (1 : Int32))), if_pos (by decide : nI 2 = (2 : Int32)), z1, ax_bu_s, if_neg (by omega), if_pos rfl]
    · rw [if_neg (by decide : ¬ (nI 2 = (1 : Int32))), if_pos (by decide : nI 2 = (2 : Int32)), y1, ax_bu_s, if_neg (by omega), if_pos rfl]
  · refine ⟨S, T, ?_, ?_, ax_fr.rf, ax_fr.rf, h.2.2.2.2.1, h⟩
    · rw [if_neg (by decide : ¬ (nI 3 = (1 : Int32))), if_neg (by decide : ¬ (nI 3 = (2 : Int32))), if_pos (by decide : nI 3 = (3 : Int32)), h.2.2.1.1.2.1, e4, sn_bs, if_neg (by omega), if_neg (by omega), if_pos rfl]
    · rw [if_neg (by decide : ¬ (nI 3 = (1 : Int32))), if_neg (by decide : ¬ (nI 3 = (2 : Int32))), if_pos (by decide : nI 3 = (3 : Int32)), (jr_ofw h hv).2.2, sn_bs, if_neg (by omega), if_neg (by omega), if_pos rfl]
  · refine ⟨S, T, ?_, ?_, ax_fr.rf, ax_fr.rf, h.2.2.2.2.1, h⟩
    · rw [if_neg (by decide : ¬ (nI 4 = (1 : Int32))), if_neg (by decide : ¬ (nI 4 = (2 : Int32))), if_neg (by decide : ¬ (nI 4 = (3 : Int32))), if_pos (by decide : nI 4 = (4 : Int32)), h.2.2.1.1.2.1, e3, sn_bs, if_neg (by omega), if_neg (by omega), if_neg (by omega), if_pos rfl]
    · rw [if_neg (by decide : ¬ (nI 4 = (1 : Int32))), if_neg (by decide : ¬ (nI 4 = (2 : Int32))), if_neg (by decide : ¬ (nI 4 = (3 : Int32))), if_pos (by decide : nI 4 = (4 : Int32)), (jr_ofw h hv).1, sn_bs, if_neg (by omega), if_neg (by omega), if_neg (by omega), if_pos rfl]
  · refine ⟨S, T, ?_, ?_, ax_fr.rf, ax_fr.rf, h.2.2.2.2.1, h⟩
    · rw [if_neg (by decide : ¬ (nI 5 = (1 : Int32))), if_neg (by decide : ¬ (nI 5 = (2 : Int32))), if_neg (by decide : ¬ (nI 5 = (3 : Int32))), if_neg (by decide : ¬ (nI 5 = (4 : Int32))), jc_titles h.2.2.2.1 (by omega), sn_bs, if_neg (by omega), if_neg (by omega), if_neg (by omega), if_neg (by omega)]
    · rw [if_neg (by decide : ¬ (nI 5 = (1 : Int32))), if_neg (by decide : ¬ (nI 5 = (2 : Int32))), if_neg (by decide : ¬ (nI 5 = (3 : Int32))), if_neg (by decide : ¬ (nI 5 = (4 : Int32))), ix_e, sn_in (by omega) (by omega), sn_gd, nI_clamp (by omega), h.2.2.2.2.2 _ (by omega), if_neg (by omega), if_neg (by omega), if_neg (by omega), if_neg (by omega)]
theorem q_foreL {w : Nat} (h1 : 1 ≤ w) (h5 : w ≤ 5) : ∀ d n p b S T, jq o H N W M K S T → p + d = H 4 → d < n → b < H 4 → qq H W M K S T (f_X11_foremost_L4 (fun (x4 : Int32) (S21 : AS) => some (x4, S21)) n (nI w) (nI b) (nI p) S) (f_X12_greatest_L4 (fun (x4 : Int32) (S21 : AS) => some (x4, S21)) n (nI w) (nI b) (nI p) T)
  | 0, n + 1, p, b, S, T, h, hp, _, _ => by
    have h6 : H 4 ≤ 6 := h.1.2.2.2.2.1
    rw [f_X11_foremost_L4, f_X12_greatest_L4, h.2.2.1.1.2.1, h.2.2.1.1.2.2.2.2.2.1, h.2.2.2.2.1.1.2.1, if_pos ((nI_leI (by omega) (by omega)).mpr (by omega)), if_pos ((nI_leI (by omega) (by omega)).mpr (by omega))]
    exact qq_none h
  | d + 1, n + 1, p, b, S, T, h, hp, hn, hb => by
    have h6 : H 4 ≤ 6 := h.1.2.2.2.2.1
    obtain ⟨Z, Y, z1, y1, z2, y2, y3, hq⟩ := jq_rank h (v := p) (by omega) h1 h5
    obtain ⟨Z', Y', z1', y1', z2', y2', y3', hq'⟩ := jq_rank hq (v := b) hb h1 h5
    rw [f_X11_foremost_L4, f_X12_greatest_L4, h.2.2.1.1.2.1, h.2.2.1.1.2.2.2.2.2.1, h.2.2.2.2.1.1.2.1, if_neg (fun z => absurd ((nI_leI (by omega) (by omega)).mp z) (by omega)), if_neg (fun z => absurd ((nI_leI (by omega) (by omega)).mp z) (by omega)), z1, ax_bu_s, z1', ax_bu_s, y1, ax_bu_s, y1', ax_bu_s]
    by_cases e : rkv H W N w p ≤ rkv H W N w b
    · rw [if_pos e, if_pos e, sn_let, sn_let, nI_1]
      exact qq_tr (z2.tr z2') (y2.tr y2') (q_foreL h1 h5 d n (p + 1) b Z' Y' hq' (by omega) (by omega) hb)
    · rw [if_neg e, if_neg e, sn_let, sn_let, nI_1]
      exact qq_tr (z2.tr z2') (y2.tr y2') (q_foreL h1 h5 d n (p + 1) p Z' Y' hq' (by omega) (by omega) (by omega))
theorem q_fore (h : jq o H N W M K S T) (h0 : 0 < H 4) {w : Nat} (h1 : 1 ≤ w) (h5 : w ≤ 5) : qq H W M K S T (f_X11_foremost (nI w) S) (f_X12_greatest (nI w) T) := by
  have h6 : H 4 ≤ 6 := h.1.2.2.2.2.1
  have q := q_foreL h1 h5 (H 4 - 1) ax_F 1 0 S T h (by omega) (by show _ < 1000000; omega) h0
  rw [← sn_0, ← sn_1] at q
  unfold f_X11_foremost f_X12_greatest
  exact q
theorem q_keenL (h : jq o H N W M K S T) : ∀ d n p b, p + d = H 3 → d < n → b < H 3 → ∃ r, f_X11_keenest_L4 S (fun (x3 : Int32) => some x3) n (nI b) (nI p) = some r ∧ f_X12_keenest_L4 T (fun (x3 : Int32) => some x3) n (nI b) (nI p) = some r
  | 0, n + 1, p, b, hp, _, _ => by
    have h4 : H 3 ≤ 4 := h.1.2.2.2.1
    rw [f_X11_keenest_L4, f_X12_keenest_L4, h.2.2.1.1.2.1, h.2.2.1.1.2.2.2.2.1, h.2.2.2.2.1.1.1, if_pos ((nI_leI (by omega) (by omega)).mpr (by omega)), if_pos ((nI_leI (by omega) (by omega)).mpr (by omega))]
    exact ⟨_, rfl, rfl⟩
  | d + 1, n + 1, p, b, hp, hn, hb => by
    have h4 : H 3 ≤ 4 := h.1.2.2.2.1
    have ep := h.2.2.2.2.1.1.2.2.2.1 p (by omega) 0 (by omega)
    have eb := h.2.2.2.2.1.1.2.2.2.1 b hb 0 (by omega)
    rw [Nat.add_zero, Nat.add_zero] at ep eb
    rw [f_X11_keenest_L4, f_X12_keenest_L4, h.2.2.1.1.2.1, h.2.2.1.1.2.2.2.2.1, h.2.2.2.2.1.1.1, if_neg (fun z => absurd ((nI_leI (by omega) (by omega)).mp z) (by omega)), if_neg (fun z => absurd ((nI_leI (by omega) (by omega)).mp z) (by omega)), jc_want h.2.2.1.1 h.1 (l := p) (by omega), sn_bs, jc_want h.2.2.1.1 h.1 hb, sn_bs, ix_2, ix_2, sn_in (by omega) (by omega), sn_in (by omega) (by omega), sn_gd, sn_gd, nI_clamp (n := 2 * p) (by omega), nI_clamp (n := 2 * b) (by omega), ep, eb]
    by_cases e : nI (H (8 + 2 * p)) ≤ nI (H (8 + 2 * b))
    · rw [if_pos e, if_pos e, sn_let, sn_let, nI_1]
      exact q_keenL h d n (p + 1) b (by omega) (by omega) hb
    · rw [if_neg e, if_neg e, sn_let, sn_let, nI_1]
      exact q_keenL h d n (p + 1) p (by omega) (by omega) (by omega)
theorem q_dueL : ∀ d n p (m : Int32) S T, jq o H N W M K S T → p + d = H 4 → d < n → qq H W M K S T (f_X11_dueCallers_L4 (fun (x3 : Int32) (S17 : AS) => some (x3, S17)) n m (nI p) S) (f_X12_all_L100 (fun (x39 : Int32) (S51 : AS) => some (x39, S51)) n m (nI p) T)
  | 0, n + 1, p, m, S, T, h, hp, _ => by
    have h6 : H 4 ≤ 6 := h.1.2.2.2.2.1
    rw [f_X11_dueCallers_L4, f_X12_all_L100, h.2.2.1.1.2.1, h.2.2.1.1.2.2.2.2.2.1, h.2.2.2.2.1.1.2.1, if_pos ((nI_leI (by omega) (by omega)).mpr (by omega)), if_pos ((nI_leI (by omega) (by omega)).mpr (by omega))]
    exact qq_none h
  | d + 1, n + 1, p, m, S, T, h, hp, hn => by
    have h6 : H 4 ≤ 6 := h.1.2.2.2.2.1
    obtain ⟨r, Z, z1, z2, z3⟩ := jc_may h.1 h.2.1 h.2.2.1 h.2.2.2.1 (by omega) 0 (by omega) (nI p)
    rw [← sn_0] at z1
    obtain ⟨r', Y, y1, y2, y3, y4⟩ := jr_can55 h.1 h.2.1 h.2.2.2.2.1 h.2.2.2.2.2 (nI p)
    have y2 := jr_q_of y2
    have hq := jq_fr h z2 y2 y3
    rw [f_X11_dueCallers_L4, f_X12_all_L100, h.2.2.1.1.2.1, h.2.2.1.1.2.2.2.2.2.1, h.2.2.2.2.1.1.2.1, if_neg (fun z => absurd ((nI_leI (by omega) (by omega)).mp z) (by omega)), if_neg (fun z => absurd ((nI_leI (by omega) (by omega)).mp z) (by omega)), z1, ax_bu_s, y1, ax_bu_s]
    rcases y4 with ⟨c, rfl⟩ | ⟨c, rfl⟩
    · rcases z3 with ⟨_, rfl⟩ | ⟨c2, _⟩
      · rw [if_neg ne10, if_neg ne10, sn_let, sn_let, sn_let, sn_let, nI_1]
        exact qq_tr z2 y2 (q_dueL d n (p + 1) _ Z Y hq (by omega) (by omega))
      · exact absurd (.inl ⟨rfl, c⟩) c2
    · rcases z3 with ⟨c2, _⟩ | ⟨_, rfl⟩
      · exfalso
        rcases c2 with ⟨_, q⟩ | ⟨q, _⟩ | q | ⟨q, _⟩ | ⟨q, _⟩ | ⟨q, _⟩ | ⟨q, _⟩
        · exact c q
        all_goals omega
      · rw [if_pos rfl, if_pos rfl, sn_let, sn_let, sn_let, nI_1, or_0]
        exact qq_tr z2 y2 (q_dueL d n (p + 1) _ Z Y hq (by omega) (by omega))
theorem q_readyL : ∀ d n p (m : Int32) S T, jq o H N W M K S T → p + d = H 4 → d < n → qq H W M K S T (f_X11_readyCallers_L4 (fun (x3 : Int32) (S21 : AS) => some (x3, S21)) n m (nI p) S) (f_X12_all_L140 (fun (x55 : Int32) (S67 : AS) => some (x55, S67)) n m (nI p) T)
  | 0, n + 1, p, m, S, T, h, hp, _ => by
    have h6 : H 4 ≤ 6 := h.1.2.2.2.2.1
    rw [f_X11_readyCallers_L4, f_X12_all_L140, h.2.2.1.1.2.1, h.2.2.1.1.2.2.2.2.2.1, h.2.2.2.2.1.1.2.1, if_pos ((nI_leI (by omega) (by omega)).mpr (by omega)), if_pos ((nI_leI (by omega) (by omega)).mpr (by omega))]
    exact qq_none h
  | d + 1, n + 1, p, m, S, T, h, hp, hn => by
    have h6 : H 4 ≤ 6 := h.1.2.2.2.2.1
    have f := jq_n h (v := p) (by omega)
    obtain ⟨Z, Y, z1, y1, z2, y2, y3, hq⟩ := jq_now h (v := p) (by omega)
    have bb : cn_b H W N p ≤ 60 := bt_b.2
    rw [f_X11_readyCallers_L4, f_X12_all_L140, h.2.2.1.1.2.1, h.2.2.1.1.2.2.2.2.2.1, h.2.2.2.2.1.1.2.1, if_neg (fun z => absurd ((nI_leI (by omega) (by omega)).mp z) (by omega)), if_neg (fun z => absurd ((nI_leI (by omega) (by omega)).mp z) (by omega)), z1, ax_bu_s, jc_done hq.2.2.1.1 h.1 (by omega) bb, sn_bs]
    unfold f_X12_would
    rw [y1, ax_bu_s, (jr_ofw hq (v := p) (by omega)).1, sn_bs]
    by_cases hd : cn_b H W N p < H (19 + 7 * p)
    · rw [if_pos hd, if_pos rfl, if_pos ((nI_ltI (by omega) (by omega)).mpr hd), ax_bu_s, if_pos rfl, sn_let, sn_let, sn_let, nI_1, or_0]
      exact qq_tr z2 y2 (q_readyL d n (p + 1) _ Z Y hq (by omega) (by omega))
    · rw [if_neg hd, if_neg ne10, if_neg (fun z => hd ((nI_ltI (by omega) (by omega)).mp z)), ax_bu_s, if_neg ne10, sn_let, sn_let, sn_let, sn_let, nI_1]
      exact qq_tr z2 y2 (q_readyL d n (p + 1) _ Z Y hq (by omega) (by omega))
theorem q_ballL : ∀ d n p (m : Int32) S T, jq o H N W M K S T → p + d = H 4 → d < n → qq H W M K S T (f_X11_beatsOfAll_L4 (fun (x3 : Int32) (S19 : AS) => some (x3, S19)) n m (nI p) S) (f_X12_all_L176 (fun (x71 : Int32) (S82 : AS) => some (x71, S82)) n m (nI p) T)
  | 0, n + 1, p, m, S, T, h, hp, _ => by
    have h6 : H 4 ≤ 6 := h.1.2.2.2.2.1
    rw [f_X11_beatsOfAll_L4, f_X12_all_L176, h.2.2.1.1.2.1, h.2.2.1.1.2.2.2.2.2.1, h.2.2.2.2.1.1.2.1, if_pos ((nI_leI (by omega) (by omega)).mpr (by omega)), if_pos ((nI_leI (by omega) (by omega)).mpr (by omega))]
    exact qq_none h
  | d + 1, n + 1, p, m, S, T, h, hp, hn => by
    have h6 : H 4 ≤ 6 := h.1.2.2.2.2.1
    have hv : p < H 4 := by omega
    have f := jq_n h hv
    have hS := h.2.2.2.1
    have hR := h.2.2.2.2.2
    obtain ⟨Z, Y, z1, y1, z2, y2, y3, hq⟩ := jq_b h (v := p) (a := H (17 + 7 * p)) (t := N (2 * p)) (g := N 17 + p) (s := N 18) (d := N 22) hv (by omega) (by omega) (by omega) (by omega) (by omega)
    have eh := jc_hards h.2.2.1.1 h.1 hv
    rw [(by omega : 16 + 7 * p + 1 = 17 + 7 * p)] at eh
    have eB : f_X6_beatsTired 0 (nI p) (nI (N (2 * p))) (nI (N 17 + p)) S = some (nI (bt H W p (H (17 + 7 * p)) (N (2 * p)) (N 17 + p) (N 18) (N 22)), Z) := by
      unfold f_X6_beatsTired
      rw [eh, sn_bs, hS.2.2.2.2.1, hS.2.2.2.2.2.2.2.1, z1, ax_bu_s]
    have eT : f_X12_takesTitled (nI p) (nI (N (2 * p))) (nI (N 17 + p)) T = some (nI (bt H W p (H (17 + 7 * p)) (N (2 * p)) (N 17 + p) (N 18) (N 22)), Y) := by
      unfold f_X12_takesTitled
      rw [(jr_ofw h hv).2.1, sn_bs, in_18, sn_gd, in_22, sn_gd, cl_18, cl_22, hR 18 (by omega), hR 22 (by omega), y1, ax_bu_s]
    rw [f_X11_beatsOfAll_L4, f_X12_all_L176, h.2.2.1.1.2.1, h.2.2.1.1.2.2.2.2.2.1, h.2.2.2.2.1.1.2.1, if_neg (fun z => absurd ((nI_leI (by omega) (by omega)).mp z) (by omega)), if_neg (fun z => absurd ((nI_leI (by omega) (by omega)).mp z) (by omega)), jc_titles hS (by omega), sn_bs, hS.2.2.2.1, nI_add, eB, ax_bu_s, ix_e, sn_in (by omega) (by omega), sn_gd, in_17, sn_gd, nI_clamp (by omega), cl_17, hR _ (by omega), hR 17 (by omega), nI_add, eT, ax_bu_s, sn_let, sn_let, sn_let, sn_let, nI_1]
    exact qq_tr z2 y2 (q_ballL d n (p + 1) _ Z Y hq (by omega) (by omega))
end

/-! fault keeps the invariant -/
section
variable {S T Z Y X : AS} {o M c cn im hI tn wh n ca hi : Nat} {H N L E Q NI LI tb Lg : Nat → Nat} {W : Option (List la_C)} {K : Nat → List la_C} {P : Nat → Nat → Nat} {p φ p' φ' : Int32}
theorem jt_c (h : jt S T tn tb) : lc_Tp tb tn S := ⟨h.1, h.2.1, fun p hp => (h.2.2.2 p hp).1, fun p hp => (h.2.2.2 p hp).2.2⟩
theorem tp_f10 {i j : Nat} (h : j < 2) : ax_fi (tpS S p φ) 10 i j = ax_fi S 10 i j := by
  unfold tpS ax_fi ax_sfi ax_u3
  rw [show ((fun a b c => if a = 10 ∧ b = 0 ∧ c = 3 then φ else (fun a b c => if a = 10 ∧ b = 0 ∧ c = 2 then p else S.1 a b c) a b c, S.2) : AS).1 10 i j = if 10 = 10 ∧ i = 0 ∧ j = 3 then φ else if 10 = 10 ∧ i = 0 ∧ j = 2 then p else S.1 10 i j from rfl, if_neg (by omega), if_neg (by omega)]
theorem cg_tp : cg0 o M c S (tpS S p φ) ∧ cg1 S (tpS S p φ) := by
  refine ⟨⟨fun k i j h1 h2 h3 h4 h5 h6 h7 h8 => ?_, fun _ => rfl, fun _ => rfl, fun _ _ _ _ _ _ _ _ _ _ _ _ _ => rfl⟩, fun j => tp_fi (by omega), fun j => tp_fi (by omega), rfl, rfl, rfl, rfl⟩
  by_cases q : k = 10
  · subst q
    exact tp_f10 (by omega)
  · exact tp_fi q
theorem cg_hw {y : Nat} (h : hwc y S Z) (hy : y ≠ o) : cg0 o M c S Z ∧ cg1 S Z := by
  obtain ⟨f1, f2, f3, f4⟩ := h
  refine ⟨⟨fun k i j _ _ _ h4 _ _ _ _ => f1 k i j (by omega), fun j => by rw [f2], fun j => by rw [f3], fun k i _ _ _ _ _ _ _ _ h9 _ _ => f4 k i (by omega)⟩, fun j => f1 9 0 j (by omega), fun j => f1 7 0 j (by omega), f4 33 0 (by omega), f4 38 0 (by omega), f4 39 0 (by omega), f4 23 0 (by omega)⟩
theorem cg_pw {y : Nat} (h : pwc y S Z) (hy : c ≤ y) : cg0 o M c S Z ∧ cg1 S Z := by
  obtain ⟨f1, f2, f3, f4⟩ := h
  refine ⟨⟨fun k i j _ _ _ _ h5 _ _ _ => f1 k i j (by omega), fun j => by rw [f2], fun j => by rw [f3], fun k i _ _ _ _ _ _ _ _ _ h10 _ => f4 k i (by omega)⟩, fun j => f1 9 0 j (by omega), fun j => f1 7 0 j (by omega), f4 33 0 (by omega), f4 38 0 (by omega), f4 39 0 (by omega), f4 23 0 (by omega)⟩
/-- the reference's tape is begun, and read -/
def rgC (T Y : AS) (H : Nat → Nat) (M : Nat) (K : Nat → List la_C) (W : Option (List la_C)) : Prop := rg0 T Y ∧ rg1 T Y ∧ (jr_C T H M K W → jr_C Y H M K W)
theorem rgC.tr (a : rgC T Y H M K W) (b : rgC Y X H M K W) : rgC T X H M K W := ⟨a.1.tr b.1, a.2.1.tr b.2.1, fun h => b.2.2 (a.2.2 h)⟩
theorem rgC_e (hf : ∀ j, j = 6 ∨ j = 7 ∨ j = 26 ∨ j = 27 ∨ j = 30 ∨ j = 34 ∨ j = 35 ∨ j = 47 ∨ j = 49 ∨ j = 39 → ax_fi Y 12 0 j = ax_fi T 12 0 j) (ha : ∀ k i, k ≠ 48 → k ≠ 50 → k ≠ 52 → k ≠ 53 → k ≠ 54 → ax_ai Y k i = ax_ai T k i) (h53 : ∀ m, m < 128 → ax_ai Y 53 0 m = ax_ai T 53 0 m) (h54 : ∀ m, m < 4 → ax_ai Y 54 0 m = ax_ai T 54 0 m) (hl : ax_al Y = ax_al T) : rgC T Y H M K W := by
  refine ⟨⟨fun j hj => hf j (by omega), ha 44 0 (by omega) (by omega) (by omega) (by omega) (by omega), h53, h54, ha 61 0 (by omega) (by omega) (by omega) (by omega) (by omega), ha 62 0 (by omega) (by omega) (by omega) (by omega) (by omega)⟩, ⟨hf 39 (by omega), ha 55 0 (by omega) (by omega) (by omega) (by omega) (by omega), ha 59 0 (by omega) (by omega) (by omega) (by omega) (by omega)⟩, fun h => jr_C_e (hf 26 (by omega)) (hf 27 (by omega)) (hf 34 (by omega)) (ha 47 0 (by omega) (by omega) (by omega) (by omega) (by omega)) (ha 49 0 (by omega) (by omega) (by omega) (by omega) (by omega)) (ha 51 0 (by omega) (by omega) (by omega) (by omega) (by omega)) (ha 45 0 (by omega) (by omega) (by omega) (by omega) (by omega)) (ha 44 1 (by omega) (by omega) (by omega) (by omega) (by omega)) (ha 46 0 (by omega) (by omega) (by omega) (by omega) (by omega)) (ha 58 0 (by omega) (by omega) (by omega) (by omega) (by omega)) (by rw [hl]) h⟩
theorem rg_rT : rgC T (rT0 T n) H M K W := rgC_e (fun j hj => by
  unfold rT0
  rw [sg, if_neg (by omega), sg, if_neg (by omega)]
  rfl) (fun _ _ _ _ _ _ _ => rfl) (fun _ _ => rfl) (fun _ _ => rfl) rfl
theorem rg_tq : rgC T (tpT T p φ) H M K W := rgC_e (fun j hj => tq_fi (by omega) (by omega)) (fun _ _ _ _ _ _ _ => rfl) (fun _ _ => rfl) (fun _ _ => rfl) rfl
theorem rg_hw (h : hwr T Y) : rgC T Y H M K W := rgC_e (fun j hj => h.1 12 0 j (by omega)) (fun k i a b c _ _ => h.2.2.2 k i a b c) (fun m _ => by rw [h.2.2.2 53 0 (by omega) (by omega) (by omega)]) (fun m _ => by rw [h.2.2.2 54 0 (by omega) (by omega) (by omega)]) h.2.2.1
theorem rg_pw (h : pwr T Y) : rgC T Y H M K W := rgC_e (fun j _ => by rw [h.1]) (fun k i _ _ _ a b => h.2.2.2.1 k i a b) h.2.2.2.2.1 h.2.2.2.2.2 h.2.2.1
theorem rg_th {v : Int32} : rgC T (ax_sfi T 12 0 0 v) H M K W := rgC_e (fun j hj => by rw [sg, if_neg (by omega)]) (fun _ _ _ _ _ _ _ => rfl) (fun _ _ => rfl) (fun _ _ => rfl) rfl
theorem hg_tp {y rt lc vc : Nat} {G : Nat → Nat} (h : hg y rt lc vc G S T) : hg y rt lc vc G (tpS S p φ) (tpT T p' φ') := by
  obtain ⟨h1, h2, h3, ⟨c3, c4, c5⟩, ⟨r31, r28, r29⟩, h6, h7, h8⟩ := h
  exact ⟨h1, h2, h3, ⟨(tp_fi (by omega)).trans c3, (tp_fi (by omega)).trans c4, (tp_fi (by omega)).trans c5⟩, ⟨(tq_fi (by omega) (by omega)).trans r31, (tq_fi (by omega) (by omega)).trans r28, (tq_fi (by omega) (by omega)).trans r29⟩, h6, h7, h8⟩
theorem pg_tp {y k : Nat} (h : pg y k E S T) : pg y k E (tpS S p φ) (tpT T p' φ') := ⟨h.1, (tp_fi (by omega)).trans h.2.1, h.2.2⟩
theorem f_2 : (Int8.ofInt (-2)).toInt32 = Int32.ofInt (-2) := by decide
/-- sort 0 -/
theorem flt0 (hR : jR o H W M K c L E cn Q im NI LI hI tn tb wh S T) : ∃ r Z Y, f_X11_fault 0 S = some (r, Z) ∧ f_X12_fault 0 T = some (r, Y) ∧ (cg0 o M c S Z ∧ cg1 S Z) ∧ rgC T Y H M K W ∧ (r ≠ Int32.ofInt (-1) ∨ (r = Int32.ofInt (-1) ∧ ∃ rt lc vc G, hg (1 - o) rt lc vc G Z Y ∧ hwh lc vc G)) := by
  have ht := hR.2.2.2.2.2.2.1
  have ht1 := jt_thr (v := 0) ht
  have hS := jt_c ht
  have h240 := ht.1
  have o2 := hR.2.1.1
  have e15 : ax_fx S 11 0 15 = 1 - o := hR.2.1.2.2.1
  obtain ⟨Z, Y, z1, z2, z3⟩ := h_all (y := 1 - o) (T := ax_sfi T 12 0 0 0) hS (fun p hp => (ht1.2.2.2 p hp).2.1) ht1.2.2.1
  have gS := cg_hw (o := o) (M := M) (c := c) z1 (by omega)
  have gT : ∀ p φ, rgC T (tpT Y p φ) H M K W := fun p φ => ((rg_th.tr rg_rT).tr (rg_hw z2)).tr rg_tq
  have i1 : f_X12_isIn ((0 : Int32).toInt64) 0 2 (ax_sfi T 12 0 0 0) = some 1 := by rw [ii]; rfl
  have n1 : ¬ ((0 : Int32) = 1) := by decide
  have n2 : ¬ ((0 : Int32) = 2) := by decide
  unfold f_X11_fault f_X12_fault
  rw [if_pos rfl, e15, sn_let, i1, sn_bs, if_neg ne10, sn_let, if_pos rfl]
  rcases z3 with ⟨f, p, p', e1, e2, e3⟩ | ⟨p, p', rt, lc, vc, G, e2, e3, e4, e5⟩
  · rw [e2, ax_bu_s, e3, sn_bs]
    dsimp only
    rw [if_neg n1, if_neg n2, tq_11]
    exact ⟨_, _, _, rfl, rfl, ⟨gS.1.tr cg_tp.1, gS.2.tr (cg_tp (o := o) (M := M) (c := c)).2⟩, gT _ _, .inl (m1 (by omega))⟩
  · rw [e2, ax_bu_s, e3, sn_bs]
    dsimp only
    rw [if_neg n1, if_neg n2, tq_11]
    exact ⟨_, _, _, rfl, rfl, ⟨gS.1.tr cg_tp.1, gS.2.tr (cg_tp (o := o) (M := M) (c := c)).2⟩, gT _ _, .inr ⟨rfl, rt, lc, vc, G, hg_tp e4, e5⟩⟩
/-- sort 2 -/
theorem flt2 (hR : jR o H W M K c L E cn Q im NI LI hI tn tb wh S T) : ∃ r Z Y, f_X11_fault 2 S = some (r, Z) ∧ f_X12_fault 2 T = some (r, Y) ∧ (cg0 o M c S Z ∧ cg1 S Z) ∧ rgC T Y H M K W ∧ (r ≠ Int32.ofInt (-1) ∨ (r = Int32.ofInt (-1) ∧ ∃ k E, pg c k E Z Y ∧ ax_ai Y 54 0 4 = nI k)) := by
  have ht := hR.2.2.2.2.2.2.1
  have ht1 := jt_thr (v := 0) ht
  have hS := jt_c ht
  have h240 := ht.1
  have hp := hR.2.2.2.1
  have hc := hp.1
  obtain ⟨Z, Y, z1, z2, z3⟩ := p_all (y := c) (T := ax_sfi T 12 0 0 0) hS (fun p hp => (ht1.2.2.2 p hp).2.1) ht1.2.2.1
  have gS := cg_pw (o := o) (M := M) (c := c) z1 (by omega)
  have gT : ∀ p φ, rgC T (tpT Y p φ) H M K W := fun p φ => ((rg_th.tr rg_rT).tr (rg_pw z2)).tr rg_tq
  have i1 : f_X12_isIn ((2 : Int32).toInt64) 0 2 (ax_sfi T 12 0 0 0) = some 1 := by rw [ii]; rfl
  have n0 : ¬ ((2 : Int32) = 0) := by decide
  have n1 : ¬ ((2 : Int32) = 1) := by decide
  unfold f_X11_fault f_X12_fault
  rw [if_neg n0, if_neg n1, if_pos rfl, hp.2.1, sn_in (by omega) (by omega), sn_gd, nI_clamp (n := c) (by omega), sn_let, i1, sn_bs, if_neg ne10, sn_let, if_neg n0]
  dsimp only
  rw [if_neg n1, if_pos rfl]
  rcases z3 with ⟨f, p, p', e1, e2, e3⟩ | ⟨p, p', k, E', e2, e3, e4, e5, e6⟩
  · rw [e2, ax_bu_s, e3, sn_bs, tq_11]
    exact ⟨_, _, _, rfl, rfl, ⟨gS.1.tr cg_tp.1, gS.2.tr (cg_tp (o := o) (M := M) (c := c)).2⟩, gT _ _, .inl (m1 (by omega))⟩
  · rw [e2, ax_bu_s, e3, sn_bs, tq_11]
    exact ⟨_, _, _, rfl, rfl, ⟨gS.1.tr cg_tp.1, gS.2.tr (cg_tp (o := o) (M := M) (c := c)).2⟩, gT _ _, .inr ⟨rfl, k, E', pg_tp e4, e6⟩⟩
theorem cg_lc {l : Int32} {f : Nat → Int32} : cg0 o M c S (lc_st S M p φ l f) ∧ cg1 S (lc_st S M p φ l f) := by
  have fi : ∀ k i j, ¬ (k = 10 ∧ (j = 2 ∨ j = 3)) → ¬ (k = 5 ∧ i = M) → ax_fi (lc_st S M p φ l f) k i j = ax_fi S k i j := fun k i j h1 h2 => by
    show (if k = 10 ∧ i = 0 ∧ j = 2 then p else if k = 10 ∧ i = 0 ∧ j = 3 then φ else if k = 5 ∧ i = M ∧ j = 2 then l else S.1 k i j) = S.1 k i j
    rw [if_neg (fun z => h1 ⟨z.1, .inl z.2.2⟩), if_neg (fun z => h1 ⟨z.1, .inr z.2.2⟩), if_neg (fun z => h2 ⟨z.1, z.2.1⟩)]
  have ai : ∀ k i, ¬ (k = 30 ∧ i = M) → ax_ai (lc_st S M p φ l f) k i = ax_ai S k i := fun k i h => by
    funext j
    show (if k = 30 ∧ i = M then f j else S.2.2.2.2.1 k i j) = S.2.2.2.2.1 k i j
    rw [if_neg h]
  exact ⟨⟨fun k i j _ _ h3 _ _ _ _ h8 => fi k i j (by omega) (by omega), fun _ => rfl, fun _ => rfl, fun k i _ _ _ _ _ _ _ h8 _ _ _ => ai k i (by omega)⟩, fun j => fi 9 0 j (by omega) (by omega), fun j => fi 7 0 j (by omega) (by omega), ai 33 0 (by omega), ai 38 0 (by omega), ai 39 0 (by omega), ai 23 0 (by omega)⟩
theorem rg_lr {d g w : Int32} : rgC T (lr_st (lr_T0 T 0 0 n) p φ d g w) H M K W := rgC_e (fun j hj => by
  show (if 12 = 12 ∧ 0 = 0 ∧ j = 10 then p else if 12 = 12 ∧ 0 = 0 ∧ j = 11 then φ else if 12 = 12 ∧ 0 = 0 ∧ j = 12 then d else if 12 = 12 ∧ 0 = 0 ∧ j = 17 then g else if 12 = 12 ∧ 0 = 0 ∧ j = 14 then w else ax_fi (lr_T0 T 0 0 n) 12 0 j) = _
  rw [if_neg (by omega), if_neg (by omega), if_neg (by omega), if_neg (by omega), if_neg (by omega)]
  unfold lr_T0
  rw [sg, if_neg (by omega), sg, if_neg (by omega), sg, if_neg (by omega)]
  rfl) (fun _ _ _ _ _ _ _ => rfl) (fun _ _ => rfl) (fun _ _ => rfl) rfl
/-- sort 1 -/
theorem flt1 (hR : jR o H W M K c L E cn Q im NI LI hI tn tb wh S T) (hC : jr_C T H M K W) : ∃ r Z Y, f_X11_fault 1 S = some (r, Z) ∧ f_X12_fault 1 T = some (r, Y) ∧ (cg0 o M c S Z ∧ cg1 S Z) ∧ rgC T Y H M K W ∧ (r ≠ Int32.ofInt (-1) ∨ (r = Int32.ofInt (-1) ∧ ∃ cs, la_L tb tn (tn + 1) 0 (.inr cs) ∧ la_H Z M cs)) := by
  have ht := hR.2.2.2.2.2.2.1
  have ht1 := jt_thr (v := 0) ht
  have hS := jt_c ht
  have h240 := ht.1
  have hz := hR.2.2.1
  have hM := hz.1
  have hlt : jr_lt (ax_sfi T 12 0 0 0) := hC.2.2.2.1
  have i1 : f_X12_isIn ((1 : Int32).toInt64) 0 2 (ax_sfi T 12 0 0 0) = some 1 := by rw [ii]; rfl
  have n2 : ¬ ((1 : Int32) = 2) := by decide
  obtain ⟨ol, hol⟩ := la_totL (b := tb) (n := tn) (tn + 1) 0 (by omega) (by omega)
  obtain ⟨c1, c2⟩ := lc_text (y := M) hS hol
  obtain ⟨r1, r2⟩ := lr_go (T := ax_sfi T 12 0 0 0) (i := 0) (A := 0) (b := tb) (n := tn) (ρ := fun k => ax_ai (ax_sfi T 12 0 0 0) 46 0 (lr_ch k)) h240 (by show 0 + tn ≤ 240; omega) (by omega) (fun p hp => by rw [Nat.zero_add]; exact (ht1.2.2.2 p hp).2.1) (fun p hp => (ht.2.2.2 p hp).2.2) (fun j hj => ⟨rfl, hlt j hj⟩) hol
  unfold f_X11_fault f_X12_fault
  rw [if_neg ne10, if_pos rfl, hz.2.1, sn_in (by omega) (by omega), sn_gd, nI_clamp (n := M) (by omega), sn_let, i1, sn_bs, if_neg ne10, sn_let, if_neg ne10]
  dsimp only
  rw [if_pos rfl, ht1.2.2.1]
  match ol, hol, c1, c2, r1, r2 with
  | .inl f, hol, c1, c2, r1, r2 =>
    obtain ⟨e1, p', l', c', _, e2⟩ := c1 f rfl
    obtain ⟨_, p2, d', g', w', e3⟩ := r1 f rfl
    have e3' : f_X12_goThrough_44 0 0 (nI tn) (ax_sfi T 12 0 0 0) = some (lr_st (lr_T0 (ax_sfi T 12 0 0 0) 0 0 tn) p2 (Int32.ofNat f) d' g' w') := e3
    rw [e2, ax_bu_s, e3', sn_bs, if_neg n2, lr_g11]
    exact ⟨_, _, _, rfl, rfl, cg_lc, rg_th.tr rg_lr, .inl (m1 (q := f) (by omega))⟩
  | .inr cs, hol, c1, c2, r1, r2 =>
    obtain ⟨p', l', c', e2, e4⟩ := c2 cs rfl
    obtain ⟨p2, g', e3⟩ := r2 cs rfl
    have e3' : f_X12_goThrough_44 0 0 (nI tn) (ax_sfi T 12 0 0 0) = some (lr_st (lr_T0 (ax_sfi T 12 0 0 0) 0 0 tn) p2 (Int32.ofInt (-1)) 0 g' (la_cv (fun k => ax_ai (ax_sfi T 12 0 0 0) 46 0 (lr_ch k)) cs)) := e3
    rw [e2, ax_bu_s, e3', sn_bs, if_neg n2, lr_g11]
    exact ⟨_, _, _, rfl, rfl, cg_lc, rg_th.tr rg_lr, .inr ⟨rfl, cs, hol, e4⟩⟩
theorem fsort (a : Int32) : a = 0 ∨ a = 1 ∨ a = 2 ∨ (a ≠ 0 ∧ a ≠ 1 ∧ a ≠ 2 ∧ ∀ U, f_X12_isIn a.toInt64 0 2 U = some 0) := by
  rcases rg i_0 i_2 a with ⟨m, m1, m2, rfl, q⟩ | ⟨m1, q⟩
  · rcases (by omega : m = 0 ∨ m = 1 ∨ m = 2) with rfl | rfl | rfl
    · exact .inl rfl
    · exact .inr (.inl rfl)
    · exact .inr (.inr (.inl rfl))
  · refine .inr (.inr (.inr ⟨fun z => ?_, fun z => ?_, fun z => ?_, q⟩))
    · rw [z] at m1
      have : (0 : Int32).toInt = 0 := rfl
      omega
    · rw [z] at m1
      have : (1 : Int32).toInt = 1 := rfl
      omega
    · rw [z] at m1
      have : (2 : Int32).toInt = 2 := rfl
      omega
theorem x_fault (h : jI S T) (a : Int32) : jX (f_X11_fault a S) (f_X12_fault a T) := by
  obtain ⟨o, H, N, W, M, K, c, L, E, cn, Q, im, NI, LI, hI, tn, tb, wh, n, ca, P, Lg, hi, hR, hC, hA⟩ := h
  rcases fsort a with rfl | rfl | rfl | ⟨h0, h1, h2, q⟩
  · obtain ⟨r, Z, Y, e1, e2, g, q, _⟩ := flt0 hR
    exact ⟨r, Z, Y, e1, e2, jI_g hR hA g ⟨q.1, q.2.1⟩ (q.2.2 hC)⟩
  · obtain ⟨r, Z, Y, e1, e2, g, q, _⟩ := flt1 hR hC
    exact ⟨r, Z, Y, e1, e2, jI_g hR hA g ⟨q.1, q.2.1⟩ (q.2.2 hC)⟩
  · obtain ⟨r, Z, Y, e1, e2, g, q, _⟩ := flt2 hR
    exact ⟨r, Z, Y, e1, e2, jI_g hR hA g ⟨q.1, q.2.1⟩ (q.2.2 hC)⟩
  · have g : rgC T (ax_sfi T 12 0 0 0) H M K W := rg_th
    unfold f_X11_fault f_X12_fault
    rw [if_neg h0, if_neg h1, if_neg h2, sn_let, q, sn_bs, if_pos rfl]
    exact ⟨_, S, _, rfl, rfl, jI_g hR hA ⟨cg0.rf, cg1.rf⟩ ⟨g.1, g.2.1⟩ (g.2.2 hC)⟩
end

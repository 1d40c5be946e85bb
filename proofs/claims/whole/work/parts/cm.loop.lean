/-! one turn of the law keeps the invariant -/
def ks (S Z : AS) : Prop := ax_fx Z 67 0 0 = ax_fx S 67 0 0 ∧ ax_ai Z 67 0 = ax_ai S 67 0
def ok7 (e : Nat × Nat × Nat) : Bool := e.2.1 != 67
def gin (a4 : Int32) (S : AS) : Prop := ax_in (a4 + (1 : Int32)) (ax_fx S 67 0 0) = true ∧ ax_in (a4 + (2 : Int32)) (ax_fx S 67 0 0) = true ∧ ax_in (a4 + (3 : Int32)) (ax_fx S 67 0 0) = true ∧ ax_in (a4 + (4 : Int32)) (ax_fx S 67 0 0) = true ∧ ax_in (a4 + (5 : Int32)) (ax_fx S 67 0 0) = true
/-- the turn goes well -/
def tz (f : Int32 → AS → Option (Option AS)) (a4 : Int32) (S : AS) : Prop := ∃ Z, f a4 S = some (some Z) ∧ ks S Z ∧ jI Z Z
section
variable {S Z Y : AS} {a4 : Int32} {V U : List (Nat × Nat × Nat)}
theorem ks.tr (a : ks S Z) (b : ks Z Y) : ks S Y := ⟨b.1.trans a.1, b.2.trans a.2⟩
theorem ks_rd (h : ks S Z) {j : Nat} : ax_rd Z 67 0 j = ax_rd S 67 0 j := by
  have e : ∀ X : AS, ax_rd X 67 0 j = ax_ai X 67 0 j := fun X => rfl
  rw [e, e, h.2]
theorem ks_f (hs : ax_fr V S Z) (hV : V.all ok7 = true) : ks S Z := ⟨hs.2.2.1 67 0 0 (ok_n hV (by decide)), hs.2.2.2.2.1 67 0 (ok_n hV (by decide))⟩
theorem ks_r (hs : ax_fr V S Z) (hV : V.all okR = true) : ks S Z := ⟨hs.2.2.1 67 0 0 (ok_n hV (by decide)), hs.2.2.2.2.1 67 0 (ok_n hV (by decide))⟩
theorem lp {f g : AS → Option (Int32 × AS)} (hx : ∀ T, jI S T → jX (f S) (g T)) (hf : ∀ r Z, f S = some (r, Z) → ax_fr V S Z) (hV : V.all okR = true) (hg : ∀ r T Z, g T = some (r, Z) → ax_fr U T Z) (hU : U.all okC = true) (hU7 : U.all ok7 = true) (h : jI S S) : ∃ r S' T', f S = some (r, S') ∧ ks S S' ∧ g S' = some (r, T') ∧ ks S T' ∧ jI T' T' := by
  obtain ⟨r, S', T', e1, e2, h'⟩ := hx S h
  have fS := hf r S' e1
  obtain ⟨r2, S2, T2, a1, a2, a3⟩ := hx S' (jI_T h fS hV)
  rw [e1] at a1
  have q := Option.some.inj a1
  have q1 : r = r2 := congrArg Prod.fst q
  have q2 : S' = S2 := congrArg Prod.snd q
  subst q1
  subst q2
  have fT := hg r S' T2 a2
  exact ⟨r, S', T2, e1, ks_r fS hV, a2, (ks_r fS hV).tr (ks_f fT hU7), jI_S a3 fT hU⟩
theorem lpo {f : Option Int32} {g : AS → Option (Int32 × AS)} (hx : jXo S f (g S)) (hg : ∀ r T Z, g T = some (r, Z) → ax_fr U T Z) (hU : U.all okC = true) (hU7 : U.all ok7 = true) : ∃ r T', f = some r ∧ g S = some (r, T') ∧ ks S T' ∧ jI T' T' := by
  obtain ⟨r, T', e1, e2, h'⟩ := hx
  have fT := hg r S T' e2
  exact ⟨r, T', e1, e2, ks_f fT hU7, jI_S h' fT hU⟩
theorem tn_0 (h : jI S S) (g : gin a4 S) : tz fb_case0 a4 S := by
  obtain ⟨r, S', T', e1, k1, e2, k2, h2⟩ := lp (f := f_X11_feed (ax_rd S 67 0 (a4 + (1 : Int32)).toNatClampNeg) (ax_rd S 67 0 (a4 + (2 : Int32)).toNatClampNeg) (ax_rd S 67 0 (a4 + (3 : Int32)).toNatClampNeg) (ax_rd S 67 0 (a4 + (4 : Int32)).toNatClampNeg) (ax_rd S 67 0 (a4 + (5 : Int32)).toNatClampNeg)) (g := f_X12_feed (ax_rd S 67 0 (a4 + (1 : Int32)).toNatClampNeg) (ax_rd S 67 0 (a4 + (2 : Int32)).toNatClampNeg) (ax_rd S 67 0 (a4 + (3 : Int32)).toNatClampNeg) (ax_rd S 67 0 (a4 + (4 : Int32)).toNatClampNeg) (ax_rd S 67 0 (a4 + (5 : Int32)).toNatClampNeg)) (fun T h => x_feed h _ _ _ _ _) (fun r Z e => fr_X11_feed e) (by decide) (fun r T Z e => fr_X12_feed e) (by decide) (by decide) h
  refine ⟨T', ?_, k2, h2⟩
  unfold fb_case0
  rw [g.1, sn_gd, g.2.1, sn_gd, g.2.2.1, sn_gd, g.2.2.2.1, sn_gd, g.2.2.2.2, sn_gd, e1, ax_bu_s, k1.1, g.1, sn_gd, g.2.1, sn_gd, g.2.2.1, sn_gd, g.2.2.2.1, sn_gd, g.2.2.2.2, sn_gd, ks_rd k1, ks_rd k1, ks_rd k1, ks_rd k1, ks_rd k1, e2, ax_bu_s, if_pos rfl, sn_let]
theorem tn_1 (h : jI S S) (g : gin a4 S) : tz fb_case1 a4 S := by
  obtain ⟨r, S', T', e1, k1, e2, k2, h2⟩ := lp (f := f_X11_end (ax_rd S 67 0 (a4 + (1 : Int32)).toNatClampNeg)) (g := f_X12_end (ax_rd S 67 0 (a4 + (1 : Int32)).toNatClampNeg)) (fun T h => x_end h _) (fun r Z e => fr_X11_end e) (by decide) (fun r T Z e => fr_X12_end e) (by decide) (by decide) h
  refine ⟨T', ?_, k2, h2⟩
  unfold fb_case1
  rw [g.1, sn_gd, e1, ax_bu_s, k1.1, g.1, sn_gd, ks_rd k1, e2, ax_bu_s, if_pos rfl, sn_let]
theorem tn_2 (h : jI S S) (g : gin a4 S) : tz fb_case2 a4 S := by
  obtain ⟨r, S', T', e1, k1, e2, k2, h2⟩ := lp (f := f_X11_fault (ax_rd S 67 0 (a4 + (1 : Int32)).toNatClampNeg)) (g := f_X12_fault (ax_rd S 67 0 (a4 + (1 : Int32)).toNatClampNeg)) (fun T h => x_fault h _) (fun r Z e => fr_X11_fault e) (by decide) (fun r T Z e => fr_X12_fault e) (by decide) (by decide) h
  refine ⟨T', ?_, k2, h2⟩
  unfold fb_case2
  rw [g.1, sn_gd, e1, ax_bu_s, k1.1, g.1, sn_gd, ks_rd k1, e2, ax_bu_s, if_pos rfl, sn_let]
theorem tn_3 (h : jI S S) (g : gin a4 S) : tz fb_case3 a4 S := by
  obtain ⟨r, S', T', e1, k1, e2, k2, h2⟩ := lp (f := f_X11_text (ax_rd S 67 0 (a4 + (1 : Int32)).toNatClampNeg)) (g := f_X12_text (ax_rd S 67 0 (a4 + (1 : Int32)).toNatClampNeg)) (fun T h => x_text h _) (fun r Z e => fr_X11_text e) (by decide) (fun r T Z e => fr_X12_text e) (by decide) (by decide) h
  refine ⟨T', ?_, k2, h2⟩
  unfold fb_case3
  rw [g.1, sn_gd, e1, ax_bu_s, k1.1, g.1, sn_gd, ks_rd k1, e2, ax_bu_s, if_pos rfl, sn_let]
theorem tn_4 (h : jI S S) (g : gin a4 S) : tz fb_case4 a4 S := by
  obtain ⟨r, T', e1, e2, k2, h2⟩ := lpo (f := f_X11_rule (ax_rd S 67 0 (a4 + (1 : Int32)).toNatClampNeg) S) (g := f_X12_rule (ax_rd S 67 0 (a4 + (1 : Int32)).toNatClampNeg)) (x_rule h _) (fun r T Z e => fr_X12_rule e) (by decide) (by decide)
  refine ⟨T', ?_, k2, h2⟩
  unfold fb_case4
  rw [g.1, sn_gd, e1, sn_bs, sn_gd, e2, ax_bu_s, if_pos rfl, sn_let]
theorem tn_5 (h : jI S S) (g : gin a4 S) : tz fb_case5 a4 S := by
  obtain ⟨r, T', e1, e2, k2, h2⟩ := lpo (f := f_X11_lodger (ax_rd S 67 0 (a4 + (1 : Int32)).toNatClampNeg) (ax_rd S 67 0 (a4 + (2 : Int32)).toNatClampNeg) S) (g := f_X12_lodger (ax_rd S 67 0 (a4 + (1 : Int32)).toNatClampNeg) (ax_rd S 67 0 (a4 + (2 : Int32)).toNatClampNeg)) (x_lodger h _ _) (fun r T Z e => fr_X12_lodger e) (by decide) (by decide)
  refine ⟨T', ?_, k2, h2⟩
  unfold fb_case5
  rw [g.1, sn_gd, g.2.1, sn_gd, e1, sn_bs, sn_gd, sn_gd, e2, ax_bu_s, if_pos rfl, sn_let]
theorem tn_7 (h : jI S S) (g : gin a4 S) : tz fb_case7 a4 S := by
  obtain ⟨r, S', T', e1, k1, e2, k2, h2⟩ := lp (f := f_X11_law (ax_rd S 67 0 (a4 + (1 : Int32)).toNatClampNeg)) (g := f_X12_law (ax_rd S 67 0 (a4 + (1 : Int32)).toNatClampNeg)) (fun T h => x_law h _) (fun r Z e => fr_X11_law e) (by decide) (fun r T Z e => fr_X12_law e) (by decide) (by decide) h
  refine ⟨T', ?_, k2, h2⟩
  unfold fb_case7
  rw [g.1, sn_gd, e1, ax_bu_s, k1.1, g.1, sn_gd, ks_rd k1, e2, ax_bu_s, if_pos rfl, sn_let]
theorem tn_8 (h : jI S S) (g : gin a4 S) : tz fb_case8 a4 S := by
  obtain ⟨r, S', T', e1, k1, e2, k2, h2⟩ := lp (f := f_X11_whim (ax_rd S 67 0 (a4 + (1 : Int32)).toNatClampNeg)) (g := f_X12_whim (ax_rd S 67 0 (a4 + (1 : Int32)).toNatClampNeg)) (fun T h => x_whim h _) (fun r Z e => fr_X11_whim e) (by decide) (fun r T Z e => fr_X12_whim e) (by decide) (by decide) h
  refine ⟨T', ?_, k2, h2⟩
  unfold fb_case8
  rw [g.1, sn_gd, e1, ax_bu_s, k1.1, g.1, sn_gd, ks_rd k1, e2, ax_bu_s, if_pos rfl, sn_let]
theorem tn_9 (h : jI S S) (g : gin a4 S) : tz fb_case9 a4 S := by
  obtain ⟨r, S', T', e1, k1, e2, k2, h2⟩ := lp (f := f_X11_announce (ax_rd S 67 0 (a4 + (1 : Int32)).toNatClampNeg)) (g := f_X12_announce (ax_rd S 67 0 (a4 + (1 : Int32)).toNatClampNeg)) (fun T h => x_announce h _) (fun r Z e => fr_X11_announce e) (by decide) (fun r T Z e => fr_X12_announce e) (by decide) (by decide) h
  refine ⟨T', ?_, k2, h2⟩
  unfold fb_case9
  rw [g.1, sn_gd, e1, ax_bu_s, k1.1, g.1, sn_gd, ks_rd k1, e2, ax_bu_s, if_pos rfl, sn_let]
theorem tn_10 (h : jI S S) (g : gin a4 S) : tz fb_case10 a4 S := by
  obtain ⟨r, S', T', e1, k1, e2, k2, h2⟩ := lp (f := f_X11_title (ax_rd S 67 0 (a4 + (1 : Int32)).toNatClampNeg)) (g := f_X12_title (ax_rd S 67 0 (a4 + (1 : Int32)).toNatClampNeg)) (fun T h => x_title h _) (fun r Z e => fr_X11_title e) (by decide) (fun r T Z e => fr_X12_title e) (by decide) (by decide) h
  refine ⟨T', ?_, k2, h2⟩
  unfold fb_case10
  rw [g.1, sn_gd, e1, ax_bu_s, k1.1, g.1, sn_gd, ks_rd k1, e2, ax_bu_s, if_pos rfl, sn_let]
theorem tn_11 (h : jI S S) (g : gin a4 S) : tz fb_case11 a4 S := by
  obtain ⟨r, S', T', e1, k1, e2, k2, h2⟩ := lp (f := f_X11_drop (ax_rd S 67 0 (a4 + (1 : Int32)).toNatClampNeg)) (g := f_X12_drop (ax_rd S 67 0 (a4 + (1 : Int32)).toNatClampNeg)) (fun T h => x_drop h _) (fun r Z e => fr_X11_drop e) (by decide) (fun r T Z e => fr_X12_drop e) (by decide) (by decide) h
  refine ⟨T', ?_, k2, h2⟩
  unfold fb_case11
  rw [g.1, sn_gd, e1, ax_bu_s, k1.1, g.1, sn_gd, ks_rd k1, e2, ax_bu_s, if_pos rfl, sn_let]
theorem tn_12 (h : jI S S) (g : gin a4 S) : tz fb_case12 a4 S := by
  obtain ⟨r, S', T', e1, k1, e2, k2, h2⟩ := lp (f := f_X11_sing) (g := f_X12_sing) (fun T h => x_sing h) (fun r Z e => fr_X11_sing e) (by decide) (fun r T Z e => fr_X12_sing e) (by decide) (by decide) h
  refine ⟨T', ?_, k2, h2⟩
  unfold fb_case12
  rw [e1, ax_bu_s, e2, ax_bu_s, if_pos rfl, sn_let]
theorem tn_13 (h : jI S S) (g : gin a4 S) : tz fb_case13 a4 S := by
  obtain ⟨r, S', T', e1, k1, e2, k2, h2⟩ := lp (f := f_X11_breath) (g := f_X12_breath) (fun T h => x_breath h) (fun r Z e => fr_X11_breath e) (by decide) (fun r T Z e => fr_X12_breath e) (by decide) (by decide) h
  refine ⟨T', ?_, k2, h2⟩
  unfold fb_case13
  rw [e1, ax_bu_s, e2, ax_bu_s, if_pos rfl, sn_let]
theorem tn_14 (h : jI S S) (g : gin a4 S) : tz fb_case14 a4 S := by
  obtain ⟨r, S', T', e1, k1, e2, k2, h2⟩ := lp (f := f_X11_hold (ax_rd S 67 0 (a4 + (1 : Int32)).toNatClampNeg)) (g := f_X12_hold (ax_rd S 67 0 (a4 + (1 : Int32)).toNatClampNeg)) (fun T h => x_hold h _) (fun r Z e => fr_X11_hold e) (by decide) (fun r T Z e => fr_X12_hold e) (by decide) (by decide) h
  refine ⟨T', ?_, k2, h2⟩
  unfold fb_case14
  rw [g.1, sn_gd, e1, ax_bu_s, k1.1, g.1, sn_gd, ks_rd k1, e2, ax_bu_s, if_pos rfl, sn_let]
theorem tn_15 (h : jI S S) (g : gin a4 S) : tz fb_case15 a4 S := by
  obtain ⟨r, S', T', e1, k1, e2, k2, h2⟩ := lp (f := f_X11_day) (g := f_X12_day) (fun T h => x_day h) (fun r Z e => fr_X11_day e) (by decide) (fun r T Z e => fr_X12_day e) (by decide) (by decide) h
  refine ⟨T', ?_, k2, h2⟩
  unfold fb_case15
  rw [e1, ax_bu_s, e2, ax_bu_s, if_pos rfl, sn_let]
theorem tn_16 (h : jI S S) (g : gin a4 S) : tz fb_case16 a4 S := by
  obtain ⟨r, S', T', e1, k1, e2, k2, h2⟩ := lp (f := f_X11_years (ax_rd S 67 0 (a4 + (1 : Int32)).toNatClampNeg) (((ax_rd S 67 0 (a4 + (2 : Int32)).toNatClampNeg).toInt64 <<< ((32 : Int32).toInt64 &&& 63)) ||| ((ax_rd S 67 0 (a4 + (3 : Int32)).toNatClampNeg).toInt64 &&& (4294967295 : Int64)))) (g := f_X12_years (ax_rd S 67 0 (a4 + (1 : Int32)).toNatClampNeg) (((ax_rd S 67 0 (a4 + (2 : Int32)).toNatClampNeg).toInt64 <<< ((32 : Int32).toInt64 &&& 63)) ||| ((ax_rd S 67 0 (a4 + (3 : Int32)).toNatClampNeg).toInt64 &&& (4294967295 : Int64)))) (fun T h => x_years h _ _) (fun r Z e => fr_X11_years e) (by decide) (fun r T Z e => fr_X12_years e) (by decide) (by decide) h
  refine ⟨T', ?_, k2, h2⟩
  unfold fb_case16
  rw [g.1, sn_gd, g.2.1, sn_gd, g.2.2.1, sn_gd, e1, ax_bu_s, k1.1, g.1, sn_gd, g.2.1, sn_gd, g.2.2.1, sn_gd, ks_rd k1, ks_rd k1, ks_rd k1, e2, ax_bu_s, if_pos rfl, sn_let]
theorem tn_17 (h : jI S S) (g : gin a4 S) : tz fb_case17 a4 S := by
  obtain ⟨r, S', T', e1, k1, e2, k2, h2⟩ := lp (f := f_X11_undo) (g := f_X12_undo) (fun T h => x_undo h) (fun r Z e => fr_X11_undo e) (by decide) (fun r T Z e => fr_X12_undo e) (by decide) (by decide) h
  refine ⟨T', ?_, k2, h2⟩
  unfold fb_case17
  rw [e1, ax_bu_s, e2, ax_bu_s, if_pos rfl, sn_let]
theorem tn_18 (h : jI S S) (g : gin a4 S) : tz fb_case18 a4 S := by
  obtain ⟨r, T', e1, e2, k2, h2⟩ := lpo (f := f_X11_log (ax_rd S 67 0 (a4 + (1 : Int32)).toNatClampNeg) (ax_rd S 67 0 (a4 + (2 : Int32)).toNatClampNeg) S) (g := f_X12_log (ax_rd S 67 0 (a4 + (1 : Int32)).toNatClampNeg) (ax_rd S 67 0 (a4 + (2 : Int32)).toNatClampNeg)) (x_log h _ _) (fun r T Z e => fr_X12_log e) (by decide) (by decide)
  refine ⟨T', ?_, k2, h2⟩
  unfold fb_case18
  rw [g.1, sn_gd, g.2.1, sn_gd, e1, sn_bs, sn_gd, sn_gd, e2, ax_bu_s, if_pos rfl, sn_let]
theorem tn_19 (h : jI S S) (g : gin a4 S) : tz fb_case19 a4 S := by
  obtain ⟨r, T', e1, e2, k2, h2⟩ := lpo (f := f_X11_step (ax_rd S 67 0 (a4 + (1 : Int32)).toNatClampNeg) (ax_rd S 67 0 (a4 + (2 : Int32)).toNatClampNeg) (ax_rd S 67 0 (a4 + (3 : Int32)).toNatClampNeg) S) (g := f_X12_step (ax_rd S 67 0 (a4 + (1 : Int32)).toNatClampNeg) (ax_rd S 67 0 (a4 + (2 : Int32)).toNatClampNeg) (ax_rd S 67 0 (a4 + (3 : Int32)).toNatClampNeg)) (x_step h _ _ _) (fun r T Z e => fr_X12_step e) (by decide) (by decide)
  refine ⟨T', ?_, k2, h2⟩
  unfold fb_case19
  rw [g.1, sn_gd, g.2.1, sn_gd, g.2.2.1, sn_gd, e1, sn_bs, sn_gd, sn_gd, sn_gd, e2, ax_bu_s, if_pos rfl, sn_let]
theorem tn_20 (h : jI S S) (g : gin a4 S) : tz fb_case20 a4 S := by
  obtain ⟨r, S', T', e1, k1, e2, k2, h2⟩ := lp (f := f_X11_run (ax_rd S 67 0 (a4 + (1 : Int32)).toNatClampNeg) (ax_rd S 67 0 (a4 + (2 : Int32)).toNatClampNeg)) (g := f_X12_run (ax_rd S 67 0 (a4 + (1 : Int32)).toNatClampNeg) (ax_rd S 67 0 (a4 + (2 : Int32)).toNatClampNeg)) (fun T h => x_run h _ _) (fun r Z e => fr_X11_run e) (by decide) (fun r T Z e => fr_X12_run e) (by decide) (by decide) h
  refine ⟨T', ?_, k2, h2⟩
  unfold fb_case20
  rw [g.1, sn_gd, g.2.1, sn_gd, e1, ax_bu_s, k1.1, g.1, sn_gd, g.2.1, sn_gd, ks_rd k1, ks_rd k1, e2, ax_bu_s, if_pos rfl, sn_let]
theorem tn_21 (h : jI S S) (g : gin a4 S) : tz fb_case21 a4 S := by
  obtain ⟨r, S', T', e1, k1, e2, k2, h2⟩ := lp (f := f_X11_perform (ax_rd S 67 0 (a4 + (1 : Int32)).toNatClampNeg)) (g := f_X12_perform (ax_rd S 67 0 (a4 + (1 : Int32)).toNatClampNeg)) (fun T h => x_perform h _) (fun r Z e => fr_X11_perform e) (by decide) (fun r T Z e => fr_X12_perform e) (by decide) (by decide) h
  refine ⟨T', ?_, k2, h2⟩
  unfold fb_case21
  rw [g.1, sn_gd, e1, ax_bu_s, k1.1, g.1, sn_gd, ks_rd k1, e2, ax_bu_s, if_pos rfl, sn_let]
theorem tn_22 (h : jI S S) (g : gin a4 S) : tz fb_case22 a4 S := by
  obtain ⟨r, S', T', e1, k1, e2, k2, h2⟩ := lp (f := f_X11_name (ax_rd S 67 0 (a4 + (1 : Int32)).toNatClampNeg) (ax_rd S 67 0 (a4 + (2 : Int32)).toNatClampNeg)) (g := f_X12_name (ax_rd S 67 0 (a4 + (1 : Int32)).toNatClampNeg) (ax_rd S 67 0 (a4 + (2 : Int32)).toNatClampNeg)) (fun T h => x_name h _ _) (fun r Z e => fr_X11_name e) (by decide) (fun r T Z e => fr_X12_name e) (by decide) (by decide) h
  refine ⟨T', ?_, k2, h2⟩
  unfold fb_case22
  rw [g.1, sn_gd, g.2.1, sn_gd, e1, ax_bu_s, k1.1, g.1, sn_gd, g.2.1, sn_gd, ks_rd k1, ks_rd k1, e2, ax_bu_s, if_pos rfl, sn_let]
theorem tn_23 (h : jI S S) (g : gin a4 S) : tz fb_case23 a4 S := by
  obtain ⟨r, S', T', e1, k1, e2, k2, h2⟩ := lp (f := f_X11_order (ax_rd S 67 0 (a4 + (1 : Int32)).toNatClampNeg)) (g := f_X12_order (ax_rd S 67 0 (a4 + (1 : Int32)).toNatClampNeg)) (fun T h => x_order h _) (fun r Z e => fr_X11_order e) (by decide) (fun r T Z e => fr_X12_order e) (by decide) (by decide) h
  refine ⟨T', ?_, k2, h2⟩
  unfold fb_case23
  rw [g.1, sn_gd, e1, ax_bu_s, k1.1, g.1, sn_gd, ks_rd k1, e2, ax_bu_s, if_pos rfl, sn_let]
theorem tn_24 (h : jI S S) (g : gin a4 S) : tz fb_case24 a4 S := by
  obtain ⟨r, S', T', e1, k1, e2, k2, h2⟩ := lp (f := f_X11_needs (ax_rd S 67 0 (a4 + (1 : Int32)).toNatClampNeg)) (g := f_X12_needs (ax_rd S 67 0 (a4 + (1 : Int32)).toNatClampNeg)) (fun T h => x_needs h _) (fun r Z e => fr_X11_needs e) (by decide) (fun r T Z e => fr_X12_needs e) (by decide) (by decide) h
  refine ⟨T', ?_, k2, h2⟩
  unfold fb_case24
  rw [g.1, sn_gd, e1, ax_bu_s, k1.1, g.1, sn_gd, ks_rd k1, e2, ax_bu_s, if_pos rfl, sn_let]
theorem tn_25 (h : jI S S) (g : gin a4 S) : tz fb_case25 a4 S := by
  obtain ⟨r, S', T', e1, k1, e2, k2, h2⟩ := lp (f := f_X11_timed (ax_rd S 67 0 (a4 + (1 : Int32)).toNatClampNeg)) (g := f_X12_timed (ax_rd S 67 0 (a4 + (1 : Int32)).toNatClampNeg)) (fun T h => x_timed h _) (fun r Z e => fr_X11_timed e) (by decide) (fun r T Z e => fr_X12_timed e) (by decide) (by decide) h
  refine ⟨T', ?_, k2, h2⟩
  unfold fb_case25
  rw [g.1, sn_gd, e1, ax_bu_s, k1.1, g.1, sn_gd, ks_rd k1, e2, ax_bu_s, if_pos rfl, sn_let]
theorem tn_27 (h : jI S S) (g : gin a4 S) : tz fb_case27 a4 S := by
  obtain ⟨r, S', T', e1, k1, e2, k2, h2⟩ := lp (f := f_X11_hards (ax_rd S 67 0 (a4 + (1 : Int32)).toNatClampNeg)) (g := f_X12_hards (ax_rd S 67 0 (a4 + (1 : Int32)).toNatClampNeg)) (fun T h => x_hards h _) (fun r Z e => fr_X11_hards e) (by decide) (fun r T Z e => fr_X12_hards e) (by decide) (by decide) h
  refine ⟨T', ?_, k2, h2⟩
  unfold fb_case27
  rw [g.1, sn_gd, e1, ax_bu_s, k1.1, g.1, sn_gd, ks_rd k1, e2, ax_bu_s, if_pos rfl, sn_let]
theorem tn_28 (h : jI S S) (g : gin a4 S) : tz fb_case28 a4 S := by
  obtain ⟨r, S', T', e1, k1, e2, k2, h2⟩ := lp (f := f_X11_ask (ax_rd S 67 0 (a4 + (1 : Int32)).toNatClampNeg)) (g := f_X12_ask (ax_rd S 67 0 (a4 + (1 : Int32)).toNatClampNeg)) (fun T h => x_ask h _) (fun r Z e => fr_X11_ask e) (by decide) (fun r T Z e => fr_X12_ask e) (by decide) (by decide) h
  refine ⟨T', ?_, k2, h2⟩
  unfold fb_case28
  rw [g.1, sn_gd, e1, ax_bu_s, k1.1, g.1, sn_gd, ks_rd k1, e2, ax_bu_s, if_pos rfl, sn_let]
theorem tn_29 (h : jI S S) (g : gin a4 S) : tz fb_case29 a4 S := by
  obtain ⟨r, T', e1, e2, k2, h2⟩ := lpo (f := f_X11_apart (ax_rd S 67 0 (a4 + (1 : Int32)).toNatClampNeg) S) (g := f_X12_apart (ax_rd S 67 0 (a4 + (1 : Int32)).toNatClampNeg)) (x_apart h _) (fun r T Z e => fr_X12_apart e) (by decide) (by decide)
  refine ⟨T', ?_, k2, h2⟩
  unfold fb_case29
  rw [g.1, sn_gd, e1, sn_bs, sn_gd, e2, ax_bu_s, if_pos rfl, sn_let]
theorem tn_30 (h : jI S S) (g : gin a4 S) : tz fb_case30 a4 S := by
  obtain ⟨r, S', T', e1, k1, e2, k2, h2⟩ := lp (f := f_X11_game (ax_rd S 67 0 (a4 + (1 : Int32)).toNatClampNeg) (ax_rd S 67 0 (a4 + (2 : Int32)).toNatClampNeg) (ax_rd S 67 0 (a4 + (3 : Int32)).toNatClampNeg) (ax_rd S 67 0 (a4 + (4 : Int32)).toNatClampNeg) (ax_rd S 67 0 (a4 + (5 : Int32)).toNatClampNeg)) (g := f_X12_game (ax_rd S 67 0 (a4 + (1 : Int32)).toNatClampNeg) (ax_rd S 67 0 (a4 + (2 : Int32)).toNatClampNeg) (ax_rd S 67 0 (a4 + (3 : Int32)).toNatClampNeg) (ax_rd S 67 0 (a4 + (4 : Int32)).toNatClampNeg) (ax_rd S 67 0 (a4 + (5 : Int32)).toNatClampNeg)) (fun T h => x_game h _ _ _ _ _) (fun r Z e => fr_X11_game e) (by decide) (fun r T Z e => fr_X12_game e) (by decide) (by decide) h
  refine ⟨T', ?_, k2, h2⟩
  unfold fb_case30
  rw [g.1, sn_gd, g.2.1, sn_gd, g.2.2.1, sn_gd, g.2.2.2.1, sn_gd, g.2.2.2.2, sn_gd, e1, ax_bu_s, k1.1, g.1, sn_gd, g.2.1, sn_gd, g.2.2.1, sn_gd, g.2.2.2.1, sn_gd, g.2.2.2.2, sn_gd, ks_rd k1, ks_rd k1, ks_rd k1, ks_rd k1, ks_rd k1, e2, ax_bu_s, if_pos rfl, sn_let]
theorem tn_31 (h : jI S S) (g : gin a4 S) : tz fb_case31 a4 S := by
  obtain ⟨r, S', T', e1, k1, e2, k2, h2⟩ := lp (f := f_X11_rests (ax_rd S 67 0 (a4 + (1 : Int32)).toNatClampNeg) (ax_rd S 67 0 (a4 + (2 : Int32)).toNatClampNeg) (ax_rd S 67 0 (a4 + (3 : Int32)).toNatClampNeg)) (g := f_X12_rests (ax_rd S 67 0 (a4 + (1 : Int32)).toNatClampNeg) (ax_rd S 67 0 (a4 + (2 : Int32)).toNatClampNeg) (ax_rd S 67 0 (a4 + (3 : Int32)).toNatClampNeg)) (fun T h => x_rests h _ _ _) (fun r Z e => fr_X11_rests e) (by decide) (fun r T Z e => fr_X12_rests e) (by decide) (by decide) h
  refine ⟨T', ?_, k2, h2⟩
  unfold fb_case31
  rw [g.1, sn_gd, g.2.1, sn_gd, g.2.2.1, sn_gd, e1, ax_bu_s, k1.1, g.1, sn_gd, g.2.1, sn_gd, g.2.2.1, sn_gd, ks_rd k1, ks_rd k1, ks_rd k1, e2, ax_bu_s, if_pos rfl, sn_let]
theorem tn_32 (h : jI S S) (g : gin a4 S) : tz fb_case32 a4 S := by
  obtain ⟨r, S', T', e1, k1, e2, k2, h2⟩ := lp (f := f_X11_odds (ax_rd S 67 0 (a4 + (1 : Int32)).toNatClampNeg) (ax_rd S 67 0 (a4 + (2 : Int32)).toNatClampNeg)) (g := f_X12_odds (ax_rd S 67 0 (a4 + (1 : Int32)).toNatClampNeg) (ax_rd S 67 0 (a4 + (2 : Int32)).toNatClampNeg)) (fun T h => x_odds h _ _) (fun r Z e => fr_X11_odds e) (by decide) (fun r T Z e => fr_X12_odds e) (by decide) (by decide) h
  refine ⟨T', ?_, k2, h2⟩
  unfold fb_case32
  rw [g.1, sn_gd, g.2.1, sn_gd, e1, ax_bu_s, k1.1, g.1, sn_gd, g.2.1, sn_gd, ks_rd k1, ks_rd k1, e2, ax_bu_s, if_pos rfl, sn_let]
theorem tn_33 (h : jI S S) (g : gin a4 S) : tz fb_case33 a4 S := by
  obtain ⟨r, S', T', e1, k1, e2, k2, h2⟩ := lp (f := f_X11_mean (ax_rd S 67 0 (a4 + (1 : Int32)).toNatClampNeg)) (g := f_X12_mean (ax_rd S 67 0 (a4 + (1 : Int32)).toNatClampNeg)) (fun T h => x_mean h _) (fun r Z e => fr_X11_mean e) (by decide) (fun r T Z e => fr_X12_mean e) (by decide) (by decide) h
  refine ⟨T', ?_, k2, h2⟩
  unfold fb_case33
  rw [g.1, sn_gd, e1, ax_bu_s, k1.1, g.1, sn_gd, ks_rd k1, e2, ax_bu_s, if_pos rfl, sn_let]
theorem tn_34 (h : jI S S) (g : gin a4 S) : tz fb_case34 a4 S := by
  obtain ⟨r, S', T', e1, k1, e2, k2, h2⟩ := lp (f := f_X11_all (ax_rd S 67 0 (a4 + (1 : Int32)).toNatClampNeg)) (g := f_X12_all (ax_rd S 67 0 (a4 + (1 : Int32)).toNatClampNeg)) (fun T h => x_all h _) (fun r Z e => fr_X11_all e) (by decide) (fun r T Z e => fr_X12_all e) (by decide) (by decide) h
  refine ⟨T', ?_, k2, h2⟩
  unfold fb_case34
  rw [g.1, sn_gd, e1, ax_bu_s, k1.1, g.1, sn_gd, ks_rd k1, e2, ax_bu_s, if_pos rfl, sn_let]
theorem tn_35 (h : jI S S) (g : gin a4 S) : tz fb_case35 a4 S := by
  obtain ⟨r, T', e1, e2, k2, h2⟩ := lpo (f := f_X11_whose (ax_rd S 67 0 (a4 + (1 : Int32)).toNatClampNeg) S) (g := f_X12_whose (ax_rd S 67 0 (a4 + (1 : Int32)).toNatClampNeg)) (x_whose h _) (fun r T Z e => fr_X12_whose e) (by decide) (by decide)
  refine ⟨T', ?_, k2, h2⟩
  unfold fb_case35
  rw [g.1, sn_gd, e1, sn_bs, sn_gd, e2, ax_bu_s, if_pos rfl, sn_let]
theorem tn_36 (h : jI S S) (g : gin a4 S) : tz fb_case36 a4 S := by
  obtain ⟨r, S', T', e1, k1, e2, k2, h2⟩ := lp (f := f_X11_queue (ax_rd S 67 0 (a4 + (1 : Int32)).toNatClampNeg)) (g := f_X12_queue (ax_rd S 67 0 (a4 + (1 : Int32)).toNatClampNeg)) (fun T h => x_queue h _) (fun r Z e => fr_X11_queue e) (by decide) (fun r T Z e => fr_X12_queue e) (by decide) (by decide) h
  refine ⟨T', ?_, k2, h2⟩
  unfold fb_case36
  rw [g.1, sn_gd, e1, ax_bu_s, k1.1, g.1, sn_gd, ks_rd k1, e2, ax_bu_s, if_pos rfl, sn_let]
theorem tn_37 (h : jI S S) (g : gin a4 S) : tz fb_case37 a4 S := by
  obtain ⟨r, S', T', e1, k1, e2, k2, h2⟩ := lp (f := f_X11_sung (ax_rd S 67 0 (a4 + (1 : Int32)).toNatClampNeg) (ax_rd S 67 0 (a4 + (2 : Int32)).toNatClampNeg)) (g := f_X12_sung (ax_rd S 67 0 (a4 + (1 : Int32)).toNatClampNeg) (ax_rd S 67 0 (a4 + (2 : Int32)).toNatClampNeg)) (fun T h => x_sung h _ _) (fun r Z e => fr_X11_sung e) (by decide) (fun r T Z e => fr_X12_sung e) (by decide) (by decide) h
  refine ⟨T', ?_, k2, h2⟩
  unfold fb_case37
  rw [g.1, sn_gd, g.2.1, sn_gd, e1, ax_bu_s, k1.1, g.1, sn_gd, g.2.1, sn_gd, ks_rd k1, ks_rd k1, e2, ax_bu_s, if_pos rfl, sn_let]
theorem tn_38 (h : jI S S) (g : gin a4 S) : tz fb_case38 a4 S := by
  obtain ⟨r, S', T', e1, k1, e2, k2, h2⟩ := lp (f := f_X11_span (ax_rd S 67 0 (a4 + (1 : Int32)).toNatClampNeg)) (g := f_X12_span (ax_rd S 67 0 (a4 + (1 : Int32)).toNatClampNeg)) (fun T h => x_span h _) (fun r Z e => fr_X11_span e) (by decide) (fun r T Z e => fr_X12_span e) (by decide) (by decide) h
  refine ⟨T', ?_, k2, h2⟩
  unfold fb_case38
  rw [g.1, sn_gd, e1, ax_bu_s, k1.1, g.1, sn_gd, ks_rd k1, e2, ax_bu_s, if_pos rfl, sn_let]
theorem tn_39 (h : jI S S) (g : gin a4 S) : tz fb_case39 a4 S := by
  obtain ⟨r, S', T', e1, k1, e2, k2, h2⟩ := lp (f := f_X11_image) (g := f_X12_image) (fun T h => x_image h) (fun r Z e => fr_X11_image e) (by decide) (fun r T Z e => fr_X12_image e) (by decide) (by decide) h
  refine ⟨T', ?_, k2, h2⟩
  unfold fb_case39
  rw [e1, ax_bu_s, e2, ax_bu_s, if_pos rfl, sn_let]
theorem tn_40 (h : jI S S) (g : gin a4 S) : tz fb_case40 a4 S := by
  obtain ⟨r, S', T', e1, k1, e2, k2, h2⟩ := lp (f := f_X11_back) (g := f_X12_back) (fun T h => x_back h) (fun r Z e => fr_X11_back e) (by decide) (fun r T Z e => fr_X12_back e) (by decide) (by decide) h
  refine ⟨T', ?_, k2, h2⟩
  unfold fb_case40
  rw [e1, ax_bu_s, e2, ax_bu_s, if_pos rfl, sn_let]
theorem tn_41 (h : jI S S) (g : gin a4 S) : tz fb_case41 a4 S := by
  obtain ⟨r, T', e1, e2, k2, h2⟩ := lpo (f := f_X11_count (ax_rd S 67 0 (a4 + (1 : Int32)).toNatClampNeg) S) (g := f_X12_count (ax_rd S 67 0 (a4 + (1 : Int32)).toNatClampNeg)) (x_count h _) (fun r T Z e => fr_X12_count e) (by decide) (by decide)
  refine ⟨T', ?_, k2, h2⟩
  unfold fb_case41
  rw [g.1, sn_gd, e1, sn_bs, sn_gd, e2, ax_bu_s, if_pos rfl, sn_let]
theorem tn_26 (h : jI S S) (g : gin a4 S) : tz fb_case26 a4 S := by
  by_cases q : (ax_rd S 67 0 (a4 + (3 : Int32)).toNatClampNeg) = (0 : Int32)
  · obtain ⟨r, S', T', e1, k1, e2, k2, h2⟩ := lp (f := f_X11_heard (ax_rd S 67 0 (a4 + (1 : Int32)).toNatClampNeg) (ax_rd S 67 0 (a4 + (2 : Int32)).toNatClampNeg) (0 : Int32)) (g := f_X12_heard (ax_rd S 67 0 (a4 + (1 : Int32)).toNatClampNeg) (ax_rd S 67 0 (a4 + (2 : Int32)).toNatClampNeg) (0 : Int32)) (fun T h => x_heard h _ _ (s := 0) (by omega)) (fun r Z e => fr_X11_heard e) (by decide) (fun r T Z e => fr_X12_heard e) (by decide) (by decide) h
    refine ⟨T', ?_, k2, h2⟩
    unfold fb_case26
    rw [g.1, sn_gd, g.2.1, sn_gd, g.2.2.1, sn_gd, if_pos q, e1, ax_bu_s, k1.1, g.1, sn_gd, g.2.1, sn_gd, g.2.2.1, sn_gd, ks_rd k1, ks_rd k1, ks_rd k1, if_pos q, e2, ax_bu_s, if_pos rfl, sn_let]
  · obtain ⟨r, S', T', e1, k1, e2, k2, h2⟩ := lp (f := f_X11_heard (ax_rd S 67 0 (a4 + (1 : Int32)).toNatClampNeg) (ax_rd S 67 0 (a4 + (2 : Int32)).toNatClampNeg) (1 : Int32)) (g := f_X12_heard (ax_rd S 67 0 (a4 + (1 : Int32)).toNatClampNeg) (ax_rd S 67 0 (a4 + (2 : Int32)).toNatClampNeg) (1 : Int32)) (fun T h => x_heard h _ _ (s := 1) (by omega)) (fun r Z e => fr_X11_heard e) (by decide) (fun r T Z e => fr_X12_heard e) (by decide) (by decide) h
    refine ⟨T', ?_, k2, h2⟩
    unfold fb_case26
    rw [g.1, sn_gd, g.2.1, sn_gd, g.2.2.1, sn_gd, if_neg q, e1, ax_bu_s, k1.1, g.1, sn_gd, g.2.1, sn_gd, g.2.2.1, sn_gd, ks_rd k1, ks_rd k1, ks_rd k1, if_neg q, e2, ax_bu_s, if_pos rfl, sn_let]
theorem tn_99 (h : jI S S) : tz fb_case99 a4 S := ⟨S, rfl, ⟨rfl, rfl⟩, h⟩
end

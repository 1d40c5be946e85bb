/-! FRAMES: what a function may change -/
/-- W: (0, kind, slot) int fields, (1, ..) long fields, (2, ..) and (3, ..) references, (4, kind, 0) rows of ints, (5, kind, 0) rows of longs -/
def ax_fr (W : List (Nat × Nat × Nat)) (S Z : AS) : Prop := (∀ k i j, W.contains (0, k, j) = false → ax_fi Z k i j = ax_fi S k i j) ∧ (∀ k i j, W.contains (1, k, j) = false → ax_fl Z k i j = ax_fl S k i j) ∧ (∀ k i j, W.contains (2, k, j) = false → ax_fx Z k i j = ax_fx S k i j) ∧ (∀ k i j, W.contains (3, k, j) = false → ax_fo Z k i j = ax_fo S k i j) ∧ (∀ k i, W.contains (4, k, 0) = false → ax_ai Z k i = ax_ai S k i) ∧ ∀ k i, W.contains (5, k, 0) = false → ax_al Z k i = ax_al S k i
theorem ax_fr.rf {W : List (Nat × Nat × Nat)} {S : AS} : ax_fr W S S := ⟨fun _ _ _ _ => rfl, fun _ _ _ _ => rfl, fun _ _ _ _ => rfl, fun _ _ _ _ => rfl, fun _ _ _ => rfl, fun _ _ _ => rfl⟩
theorem ax_fr.tr {W : List (Nat × Nat × Nat)} {S T Z : AS} (h1 : ax_fr W S T) (h2 : ax_fr W T Z) : ax_fr W S Z :=
  ⟨fun k i j q => (h2.1 k i j q).trans (h1.1 k i j q), fun k i j q => (h2.2.1 k i j q).trans (h1.2.1 k i j q), fun k i j q => (h2.2.2.1 k i j q).trans (h1.2.2.1 k i j q), fun k i j q => (h2.2.2.2.1 k i j q).trans (h1.2.2.2.1 k i j q), fun k i q => (h2.2.2.2.2.1 k i q).trans (h1.2.2.2.2.1 k i q), fun k i q => (h2.2.2.2.2.2 k i q).trans (h1.2.2.2.2.2 k i q)⟩
theorem ax_sub_c {V W : List (Nat × Nat × Nat)} (h : V.all (fun x => W.contains x) = true) {x : Nat × Nat × Nat} (hx : W.contains x = false) : V.contains x = false := by
  cases hc : V.contains x with
  | false => rfl
  | true =>
    have := List.all_eq_true.mp h x (List.contains_iff_mem.mp hc)
    rw [hx] at this
    cases this
theorem ax_fr.mono {V W : List (Nat × Nat × Nat)} {S Z : AS} (h : ax_fr V S Z) (hs : V.all (fun x => W.contains x) = true) : ax_fr W S Z :=
  ⟨fun k i j q => h.1 k i j (ax_sub_c hs q), fun k i j q => h.2.1 k i j (ax_sub_c hs q), fun k i j q => h.2.2.1 k i j (ax_sub_c hs q), fun k i j q => h.2.2.2.1 k i j (ax_sub_c hs q), fun k i q => h.2.2.2.2.1 k i (ax_sub_c hs q), fun k i q => h.2.2.2.2.2 k i (ax_sub_c hs q)⟩
theorem ax_u3_m {α : Type} {W : List (Nat × Nat × Nat)} {c : Nat} {f : Nat → Nat → Nat → α} {k i j a b d : Nat} {v : α} (h : W.contains (c, k, j) = true) (q : W.contains (c, a, d) = false) : ax_u3 f k i j v a b d = f a b d := by
  unfold ax_u3
  rw [if_neg]
  rintro ⟨rfl, rfl, rfl⟩
  rw [h] at q
  cases q
theorem ax_u3_m2 {α : Type} {W : List (Nat × Nat × Nat)} {c : Nat} {f : Nat → Nat → Nat → α} {k i j a b : Nat} {v : α} (h : W.contains (c, k, 0) = true) (q : W.contains (c, a, 0) = false) : ax_u3 f k i j v a b = f a b := by
  refine ax_u3_o ?_
  rintro ⟨rfl, rfl⟩
  rw [h] at q
  cases q
section AXFR
variable {W : List (Nat × Nat × Nat)} {S : AS} {k i j : Nat}
theorem ax_fr_sfi {v : Int32} (h : W.contains (0, k, j) = true) : ax_fr W S (ax_sfi S k i j v) := ⟨fun _ _ _ q => ax_u3_m h q, fun _ _ _ _ => rfl, fun _ _ _ _ => rfl, fun _ _ _ _ => rfl, fun _ _ _ => rfl, fun _ _ _ => rfl⟩
theorem ax_fr_sfl {v : Int64} (h : W.contains (1, k, j) = true) : ax_fr W S (ax_sfl S k i j v) := ⟨fun _ _ _ _ => rfl, fun _ _ _ q => ax_u3_m h q, fun _ _ _ _ => rfl, fun _ _ _ _ => rfl, fun _ _ _ => rfl, fun _ _ _ => rfl⟩
theorem ax_fr_sfx {v : Nat} (h : W.contains (2, k, j) = true) : ax_fr W S (ax_sfx S k i j v) := ⟨fun _ _ _ _ => rfl, fun _ _ _ _ => rfl, fun _ _ _ q => ax_u3_m h q, fun _ _ _ _ => rfl, fun _ _ _ => rfl, fun _ _ _ => rfl⟩
theorem ax_fr_sfo {v : Option Nat} (h : W.contains (3, k, j) = true) : ax_fr W S (ax_sfo S k i j v) := ⟨fun _ _ _ _ => rfl, fun _ _ _ _ => rfl, fun _ _ _ _ => rfl, fun _ _ _ q => ax_u3_m h q, fun _ _ _ => rfl, fun _ _ _ => rfl⟩
theorem ax_fr_sai {v : Int32} (h : W.contains (4, k, 0) = true) : ax_fr W S (ax_sai S k i j v) := ⟨fun _ _ _ _ => rfl, fun _ _ _ _ => rfl, fun _ _ _ _ => rfl, fun _ _ _ _ => rfl, fun _ _ q => ax_u3_m2 h q, fun _ _ _ => rfl⟩
theorem ax_fr_sal {v : Int64} (h : W.contains (5, k, 0) = true) : ax_fr W S (ax_sal S k i j v) := ⟨fun _ _ _ _ => rfl, fun _ _ _ _ => rfl, fun _ _ _ _ => rfl, fun _ _ _ _ => rfl, fun _ _ _ => rfl, fun _ _ q => ax_u3_m2 h q⟩
theorem ax_fr_cpy {f : Nat → Int32} {a b c : Nat} (h : W.contains (4, k, 0) = true) : ax_fr W S (ax_cpy S k i f a b c) := ⟨fun _ _ _ _ => rfl, fun _ _ _ _ => rfl, fun _ _ _ _ => rfl, fun _ _ _ _ => rfl, fun x y q => ax_cpy_o (by rintro ⟨rfl, rfl⟩; rw [h] at q; cases q), fun _ _ _ => rfl⟩
end AXFR
abbrev w_X5_push : List (Nat × Nat × Nat) := [(0, 5, 3), (4, 31, 0)]
set_option maxRecDepth 100000 in
theorem fr_X5_push {i0 : Nat} {a1 : Int64} {S : AS} {Z : AS} (h : f_X5_push i0 a1 S = some Z) : ax_fr w_X5_push S Z := by
  unfold f_X5_push at h
  by_cases c1 : (Int32.ofNat 40) ≤ (ax_fi S 5 i0 3)
  · rw [if_pos c1] at h
    cases h
    exact ax_fr.rf
  · rw [if_neg c1] at h
    by_cases c2 : (lg_cmp a1 (1000000 : Int64)) ≤ (0 : Int32)
    · rw [if_pos c2] at h
      by_cases c3 : (0 : Int32) ≤ (lg_cmp a1 (-1000000 : Int64))
      · rw [if_pos c3] at h
        obtain ⟨_, h⟩ := ax_gd_e h
        obtain ⟨S5, eS5, h⟩ := ax_let_e h
        have FS5 : ax_fr w_X5_push S S5 := eS5 ▸ (ax_fr.rf).tr (ax_fr_sai (by decide))
        obtain ⟨S6, eS6, h⟩ := ax_let_e h
        have FS6 : ax_fr w_X5_push S S6 := eS6 ▸ (FS5).tr (ax_fr_sfi (by decide))
        cases h
        exact FS6
      · rw [if_neg c3] at h
        obtain ⟨_, h⟩ := ax_gd_e h
        obtain ⟨S8, eS8, h⟩ := ax_let_e h
        have FS8 : ax_fr w_X5_push S S8 := eS8 ▸ (ax_fr.rf).tr (ax_fr_sai (by decide))
        obtain ⟨S9, eS9, h⟩ := ax_let_e h
        have FS9 : ax_fr w_X5_push S S9 := eS9 ▸ (FS8).tr (ax_fr_sfi (by decide))
        cases h
        exact FS9
    · rw [if_neg c2] at h
      obtain ⟨_, h⟩ := ax_gd_e h
      obtain ⟨S11, eS11, h⟩ := ax_let_e h
      have FS11 : ax_fr w_X5_push S S11 := eS11 ▸ (ax_fr.rf).tr (ax_fr_sai (by decide))
      obtain ⟨S12, eS12, h⟩ := ax_let_e h
      have FS12 : ax_fr w_X5_push S S12 := eS12 ▸ (FS11).tr (ax_fr_sfi (by decide))
      cases h
      exact FS12
abbrev w_X5_pop : List (Nat × Nat × Nat) := [(0, 5, 3)]
set_option maxRecDepth 100000 in
theorem fr_X5_pop {i0 : Nat} {S : AS} {Z : AS} {r : Int32} (h : f_X5_pop i0 S = some (r, Z)) : ax_fr w_X5_pop S Z := by
  unfold f_X5_pop at h
  by_cases c1 : (0 : Int32) < (ax_fi S 5 i0 3)
  · rw [if_pos c1] at h
    obtain ⟨S2, eS2, h⟩ := ax_let_e h
    have FS2 : ax_fr w_X5_pop S S2 := eS2 ▸ (ax_fr.rf).tr (ax_fr_sfi (by decide))
    obtain ⟨_, h⟩ := ax_gd_e h
    cases h
    exact FS2
  · rw [if_neg c1] at h
    cases h
    exact ax_fr.rf
abbrev w_X5_worth_32x0 : List (Nat × Nat × Nat) := [(0, 5, 3), (4, 31, 0)]
set_option maxRecDepth 100000 in
theorem fl_X5_worth_32x0_L9 : ∀ (n : Nat) (y2 : Nat) (x3 : Int32) (x4 : Int32) (S5 : AS) r Z, f_X5_worth_32x0_L9 n y2 x3 x4 S5 = some (r, Z) → ax_fr w_X5_worth_32x0 S5 Z := by
  intro n
  induction n with
  | zero =>
    intro y2 x3 x4 S5 r Z h
    cases h
  | succ n ih =>
    intro y2 x3 x4 S5 r Z h
    unfold f_X5_worth_32x0_L9 at h
    by_cases c1 : (ax_fi S5 5 y2 2) ≤ x4
    · rw [if_pos c1] at h
      cases h
      exact ax_fr.rf
    · rw [if_neg c1] at h
      obtain ⟨_, h⟩ := ax_gd_e h
      obtain ⟨v8, _, h⟩ := ax_let_e h
      obtain ⟨_, h⟩ := ax_gd_e h
      obtain ⟨v10, _, h⟩ := ax_let_e h
      by_cases c2 : x3 ≤ x4
      · rw [if_pos c2] at h
        by_cases c3 : v8 = (0 : Int32)
        · rw [if_pos c3] at h
          obtain ⟨S13, hq4, h⟩ := ax_bd_e h
          have FS13 : ax_fr w_X5_worth_32x0 S5 S13 := (ax_fr.rf).tr ((fr_X5_push hq4).mono (by decide))
          obtain ⟨v16, _, h⟩ := ax_let_e h
          exact (FS13).tr (ih y2 x3 v16 S13 _ _ h)
        · rw [if_neg c3] at h
          by_cases c5 : v8 = (1 : Int32)
          · rw [if_pos c5] at h
            by_cases c6 : (Int32.ofNat 6) ≤ v10
            · rw [if_pos c6] at h
              obtain ⟨S19, hq7, h⟩ := ax_bd_e h
              have FS19 : ax_fr w_X5_worth_32x0 S5 S19 := (ax_fr.rf).tr ((fr_X5_push hq7).mono (by decide))
              obtain ⟨v22, _, h⟩ := ax_let_e h
              exact (FS19).tr (ih y2 x3 v22 S19 _ _ h)
            · rw [if_neg c6] at h
              obtain ⟨_, h⟩ := ax_gd_e h
              obtain ⟨S24, hq8, h⟩ := ax_bd_e h
              have FS24 : ax_fr w_X5_worth_32x0 S5 S24 := (ax_fr.rf).tr ((fr_X5_push hq8).mono (by decide))
              obtain ⟨v27, _, h⟩ := ax_let_e h
              exact (FS24).tr (ih y2 x3 v27 S24 _ _ h)
          · rw [if_neg c5] at h
            by_cases c9 : v8 = (2 : Int32)
            · rw [if_pos c9] at h
              obtain ⟨r32, S29, hq10, h⟩ := ax_bu_e h
              have FS29 : ax_fr w_X5_worth_32x0 S5 S29 := (ax_fr.rf).tr ((fr_X5_pop hq10).mono (by decide))
              obtain ⟨r36, S33, hq11, h⟩ := ax_bu_e h
              have FS33 : ax_fr w_X5_worth_32x0 S5 S33 := (FS29).tr ((fr_X5_pop hq11).mono (by decide))
              obtain ⟨r40, _, h⟩ := ax_bd_e h
              obtain ⟨S41, hq13, h⟩ := ax_bd_e h
              have FS41 : ax_fr w_X5_worth_32x0 S5 S41 := (FS33).tr ((fr_X5_push hq13).mono (by decide))
              obtain ⟨v44, _, h⟩ := ax_let_e h
              exact (FS41).tr (ih y2 x3 v44 S41 _ _ h)
            · rw [if_neg c9] at h
              by_cases c14 : v8 = (3 : Int32)
              · rw [if_pos c14] at h
                obtain ⟨r49, S46, hq15, h⟩ := ax_bu_e h
                have FS46 : ax_fr w_X5_worth_32x0 S5 S46 := (ax_fr.rf).tr ((fr_X5_pop hq15).mono (by decide))
                obtain ⟨r53, S50, hq16, h⟩ := ax_bu_e h
                have FS50 : ax_fr w_X5_worth_32x0 S5 S50 := (FS46).tr ((fr_X5_pop hq16).mono (by decide))
                obtain ⟨r57, _, h⟩ := ax_bd_e h
                obtain ⟨S58, hq18, h⟩ := ax_bd_e h
                have FS58 : ax_fr w_X5_worth_32x0 S5 S58 := (FS50).tr ((fr_X5_push hq18).mono (by decide))
                obtain ⟨v61, _, h⟩ := ax_let_e h
                exact (FS58).tr (ih y2 x3 v61 S58 _ _ h)
              · rw [if_neg c14] at h
                by_cases c19 : v8 = (4 : Int32)
                · rw [if_pos c19] at h
                  obtain ⟨r66, S63, hq20, h⟩ := ax_bu_e h
                  have FS63 : ax_fr w_X5_worth_32x0 S5 S63 := (ax_fr.rf).tr ((fr_X5_pop hq20).mono (by decide))
                  obtain ⟨r70, S67, hq21, h⟩ := ax_bu_e h
                  have FS67 : ax_fr w_X5_worth_32x0 S5 S67 := (FS63).tr ((fr_X5_pop hq21).mono (by decide))
                  obtain ⟨r74, _, h⟩ := ax_bd_e h
                  obtain ⟨S75, hq23, h⟩ := ax_bd_e h
                  have FS75 : ax_fr w_X5_worth_32x0 S5 S75 := (FS67).tr ((fr_X5_push hq23).mono (by decide))
                  obtain ⟨v78, _, h⟩ := ax_let_e h
                  exact (FS75).tr (ih y2 x3 v78 S75 _ _ h)
                · rw [if_neg c19] at h
                  by_cases c24 : v8 = (5 : Int32)
                  · rw [if_pos c24] at h
                    obtain ⟨r83, S80, hq25, h⟩ := ax_bu_e h
                    have FS80 : ax_fr w_X5_worth_32x0 S5 S80 := (ax_fr.rf).tr ((fr_X5_pop hq25).mono (by decide))
                    obtain ⟨r87, S84, hq26, h⟩ := ax_bu_e h
                    have FS84 : ax_fr w_X5_worth_32x0 S5 S84 := (FS80).tr ((fr_X5_pop hq26).mono (by decide))
                    obtain ⟨r91, _, h⟩ := ax_bd_e h
                    obtain ⟨S92, hq28, h⟩ := ax_bd_e h
                    have FS92 : ax_fr w_X5_worth_32x0 S5 S92 := (FS84).tr ((fr_X5_push hq28).mono (by decide))
                    obtain ⟨v95, _, h⟩ := ax_let_e h
                    exact (FS92).tr (ih y2 x3 v95 S92 _ _ h)
                  · rw [if_neg c24] at h
                    by_cases c29 : v8 = (6 : Int32)
                    · rw [if_pos c29] at h
                      obtain ⟨r100, S97, hq30, h⟩ := ax_bu_e h
                      have FS97 : ax_fr w_X5_worth_32x0 S5 S97 := (ax_fr.rf).tr ((fr_X5_pop hq30).mono (by decide))
                      obtain ⟨r104, S101, hq31, h⟩ := ax_bu_e h
                      have FS101 : ax_fr w_X5_worth_32x0 S5 S101 := (FS97).tr ((fr_X5_pop hq31).mono (by decide))
                      obtain ⟨r108, _, h⟩ := ax_bd_e h
                      obtain ⟨S109, hq33, h⟩ := ax_bd_e h
                      have FS109 : ax_fr w_X5_worth_32x0 S5 S109 := (FS101).tr ((fr_X5_push hq33).mono (by decide))
                      obtain ⟨v112, _, h⟩ := ax_let_e h
                      exact (FS109).tr (ih y2 x3 v112 S109 _ _ h)
                    · rw [if_neg c29] at h
                      by_cases c34 : v8 = (7 : Int32)
                      · rw [if_pos c34] at h
                        obtain ⟨r117, S114, hq35, h⟩ := ax_bu_e h
                        have FS114 : ax_fr w_X5_worth_32x0 S5 S114 := (ax_fr.rf).tr ((fr_X5_pop hq35).mono (by decide))
                        obtain ⟨r121, S118, hq36, h⟩ := ax_bu_e h
                        have FS118 : ax_fr w_X5_worth_32x0 S5 S118 := (FS114).tr ((fr_X5_pop hq36).mono (by decide))
                        obtain ⟨r125, _, h⟩ := ax_bd_e h
                        obtain ⟨S126, hq38, h⟩ := ax_bd_e h
                        have FS126 : ax_fr w_X5_worth_32x0 S5 S126 := (FS118).tr ((fr_X5_push hq38).mono (by decide))
                        obtain ⟨v129, _, h⟩ := ax_let_e h
                        exact (FS126).tr (ih y2 x3 v129 S126 _ _ h)
                      · rw [if_neg c34] at h
                        by_cases c39 : v8 = (8 : Int32)
                        · rw [if_pos c39] at h
                          obtain ⟨r134, S131, hq40, h⟩ := ax_bu_e h
                          have FS131 : ax_fr w_X5_worth_32x0 S5 S131 := (ax_fr.rf).tr ((fr_X5_pop hq40).mono (by decide))
                          obtain ⟨r138, S135, hq41, h⟩ := ax_bu_e h
                          have FS135 : ax_fr w_X5_worth_32x0 S5 S135 := (FS131).tr ((fr_X5_pop hq41).mono (by decide))
                          obtain ⟨r142, _, h⟩ := ax_bd_e h
                          obtain ⟨S143, hq43, h⟩ := ax_bd_e h
                          have FS143 : ax_fr w_X5_worth_32x0 S5 S143 := (FS135).tr ((fr_X5_push hq43).mono (by decide))
                          obtain ⟨v146, _, h⟩ := ax_let_e h
                          exact (FS143).tr (ih y2 x3 v146 S143 _ _ h)
                        · rw [if_neg c39] at h
                          by_cases c44 : v8 = (9 : Int32)
                          · rw [if_pos c44] at h
                            obtain ⟨r151, S148, hq45, h⟩ := ax_bu_e h
                            have FS148 : ax_fr w_X5_worth_32x0 S5 S148 := (ax_fr.rf).tr ((fr_X5_pop hq45).mono (by decide))
                            obtain ⟨r155, S152, hq46, h⟩ := ax_bu_e h
                            have FS152 : ax_fr w_X5_worth_32x0 S5 S152 := (FS148).tr ((fr_X5_pop hq46).mono (by decide))
                            obtain ⟨r159, _, h⟩ := ax_bd_e h
                            obtain ⟨S160, hq48, h⟩ := ax_bd_e h
                            have FS160 : ax_fr w_X5_worth_32x0 S5 S160 := (FS152).tr ((fr_X5_push hq48).mono (by decide))
                            obtain ⟨v163, _, h⟩ := ax_let_e h
                            exact (FS160).tr (ih y2 x3 v163 S160 _ _ h)
                          · rw [if_neg c44] at h
                            by_cases c49 : v8 = (10 : Int32)
                            · rw [if_pos c49] at h
                              obtain ⟨r168, S165, hq50, h⟩ := ax_bu_e h
                              have FS165 : ax_fr w_X5_worth_32x0 S5 S165 := (ax_fr.rf).tr ((fr_X5_pop hq50).mono (by decide))
                              obtain ⟨r172, S169, hq51, h⟩ := ax_bu_e h
                              have FS169 : ax_fr w_X5_worth_32x0 S5 S169 := (FS165).tr ((fr_X5_pop hq51).mono (by decide))
                              obtain ⟨r176, _, h⟩ := ax_bd_e h
                              obtain ⟨S177, hq53, h⟩ := ax_bd_e h
                              have FS177 : ax_fr w_X5_worth_32x0 S5 S177 := (FS169).tr ((fr_X5_push hq53).mono (by decide))
                              obtain ⟨v180, _, h⟩ := ax_let_e h
                              exact (FS177).tr (ih y2 x3 v180 S177 _ _ h)
                            · rw [if_neg c49] at h
                              by_cases c54 : v8 = (11 : Int32)
                              · rw [if_pos c54] at h
                                obtain ⟨r185, S182, hq55, h⟩ := ax_bu_e h
                                have FS182 : ax_fr w_X5_worth_32x0 S5 S182 := (ax_fr.rf).tr ((fr_X5_pop hq55).mono (by decide))
                                obtain ⟨S186, hq56, h⟩ := ax_bd_e h
                                have FS186 : ax_fr w_X5_worth_32x0 S5 S186 := (FS182).tr ((fr_X5_push hq56).mono (by decide))
                                obtain ⟨v189, _, h⟩ := ax_let_e h
                                exact (FS186).tr (ih y2 x3 v189 S186 _ _ h)
                              · rw [if_neg c54] at h
                                by_cases c57 : v8 = (12 : Int32)
                                · rw [if_pos c57] at h
                                  obtain ⟨r194, S191, hq58, h⟩ := ax_bu_e h
                                  have FS191 : ax_fr w_X5_worth_32x0 S5 S191 := (ax_fr.rf).tr ((fr_X5_pop hq58).mono (by decide))
                                  by_cases c59 : r194 = (0 : Int32)
                                  · rw [if_pos c59] at h
                                    obtain ⟨v197, _, h⟩ := ax_let_e h
                                    exact (FS191).tr (ih y2 v10 v197 S191 _ _ h)
                                  · rw [if_neg c59] at h
                                    obtain ⟨v196, _, h⟩ := ax_let_e h
                                    exact (FS191).tr (ih y2 x3 v196 S191 _ _ h)
                                · rw [if_neg c57] at h
                                  by_cases c60 : v8 = (13 : Int32)
                                  · rw [if_pos c60] at h
                                    obtain ⟨r202, S199, hq61, h⟩ := ax_bu_e h
                                    have FS199 : ax_fr w_X5_worth_32x0 S5 S199 := (ax_fr.rf).tr ((fr_X5_pop hq61).mono (by decide))
                                    cases h
                                    exact FS199
                                  · rw [if_neg c60] at h
                                    obtain ⟨r206, S203, hq62, h⟩ := ax_bu_e h
                                    have FS203 : ax_fr w_X5_worth_32x0 S5 S203 := (ax_fr.rf).tr ((fr_X5_pop hq62).mono (by decide))
                                    obtain ⟨r210, S207, hq63, h⟩ := ax_bu_e h
                                    have FS207 : ax_fr w_X5_worth_32x0 S5 S207 := (FS203).tr ((fr_X5_pop hq63).mono (by decide))
                                    obtain ⟨r214, _, h⟩ := ax_bd_e h
                                    obtain ⟨S215, hq65, h⟩ := ax_bd_e h
                                    have FS215 : ax_fr w_X5_worth_32x0 S5 S215 := (FS207).tr ((fr_X5_push hq65).mono (by decide))
                                    obtain ⟨v218, _, h⟩ := ax_let_e h
                                    exact (FS215).tr (ih y2 x3 v218 S215 _ _ h)
      · rw [if_neg c2] at h
        obtain ⟨v219, _, h⟩ := ax_let_e h
        exact (ax_fr.rf).tr (ih y2 x3 v219 S5 _ _ h)
set_option maxRecDepth 100000 in
theorem fr_X5_worth_32x0 {i0 : Nat} {S : AS} {Z : AS} {r : Int32} (h : f_X5_worth_32x0 i0 S = some (r, Z)) : ax_fr w_X5_worth_32x0 S Z := by
  unfold f_X5_worth_32x0 at h
  obtain ⟨S1, eS1, h⟩ := ax_let_e h
  have FS1 : ax_fr w_X5_worth_32x0 S S1 := eS1 ▸ (ax_fr.rf).tr (ax_fr_sfi (by decide))
  refine (FS1).tr (fl_X5_worth_32x0_L9 _ i0 (0 : Int32) (0 : Int32) S1 _ _ h)
abbrev w_X6_beats : List (Nat × Nat × Nat) := [(0, 5, 3), (4, 31, 0), (4, 32, 0)]
set_option maxRecDepth 100000 in
theorem fr_X6_beats {a1 : Int32} {a2 : Int32} {a3 : Int32} {a4 : Int32} {a5 : Int32} {a6 : Int32} {S : AS} {Z : AS} {r : Int32} (h : f_X6_beats a1 a2 a3 a4 a5 a6 S = some (r, Z)) : ax_fr w_X6_beats S Z := by
  unfold f_X6_beats at h
  cases ho1 : ax_fo S 6 0 1 with
  | none =>
    rw [ho1] at h
    replace h := ax_on_n h
    cases h
    exact ax_fr.rf
  | some o1 =>
    rw [ho1] at h
    replace h := ax_on_s h
    obtain ⟨r6, _, h⟩ := ax_bd_e h
    cases ho3 : ax_fo S 6 0 2 with
    | none =>
      rw [ho3] at h
      replace h := ax_on_n h
      obtain ⟨r12, _, h⟩ := ax_bd_e h
      obtain ⟨v13, _, h⟩ := ax_let_e h
      obtain ⟨J16, eJ16, h⟩ := ax_let_e h
      have hJ16 : ∀ (x14 : Int32) (S15 : AS) r Z, J16 x14 S15 = some (r, Z) → ax_fr w_X6_beats S15 Z := by
        intro x14 S15 r Z h
        rw [← eJ16] at h
        try dsimp only at h
        obtain ⟨v18, _, h⟩ := ax_let_e h
        obtain ⟨r22, _, h⟩ := ax_bd_e h
        obtain ⟨r26, _, h⟩ := ax_bd_e h
        cases h
        exact ax_fr.rf
      by_cases c7 : a5 = (1 : Int32)
      · rw [if_pos c7] at h
        exact (ax_fr.rf).tr (hJ16 (v13 / (2 : Int32)) S _ _ h)
      · rw [if_neg c7] at h
        exact (ax_fr.rf).tr (hJ16 v13 S _ _ h)
    | some o7 =>
      rw [ho3] at h
      replace h := ax_on_s h
      obtain ⟨_, h⟩ := ax_gd_e h
      obtain ⟨S30, eS30, h⟩ := ax_let_e h
      have FS30 : ax_fr w_X6_beats S S30 := eS30 ▸ (ax_fr.rf).tr (ax_fr_sai (by decide))
      obtain ⟨_, h⟩ := ax_gd_e h
      obtain ⟨S32, eS32, h⟩ := ax_let_e h
      have FS32 : ax_fr w_X6_beats S S32 := eS32 ▸ (FS30).tr (ax_fr_sai (by decide))
      obtain ⟨_, h⟩ := ax_gd_e h
      obtain ⟨S34, eS34, h⟩ := ax_let_e h
      have FS34 : ax_fr w_X6_beats S S34 := eS34 ▸ (FS32).tr (ax_fr_sai (by decide))
      obtain ⟨_, h⟩ := ax_gd_e h
      obtain ⟨S36, eS36, h⟩ := ax_let_e h
      have FS36 : ax_fr w_X6_beats S S36 := eS36 ▸ (FS34).tr (ax_fr_sai (by decide))
      obtain ⟨_, h⟩ := ax_gd_e h
      obtain ⟨S38, eS38, h⟩ := ax_let_e h
      have FS38 : ax_fr w_X6_beats S S38 := eS38 ▸ (FS36).tr (ax_fr_sai (by decide))
      obtain ⟨_, h⟩ := ax_gd_e h
      obtain ⟨S40, eS40, h⟩ := ax_let_e h
      have FS40 : ax_fr w_X6_beats S S40 := eS40 ▸ (FS38).tr (ax_fr_sai (by decide))
      cases ho8 : ax_fo S40 6 0 2 with
      | none =>
        rw [ho8] at h
        replace h := ax_on_n h
        cases h
      | some o41 =>
        rw [ho8] at h
        replace h := ax_on_s h
        obtain ⟨r46, S43, hq9, h⟩ := ax_bu_e h
        have FS43 : ax_fr w_X6_beats S S43 := (FS40).tr ((fr_X5_worth_32x0 hq9).mono (by decide))
        obtain ⟨r50, _, h⟩ := ax_bd_e h
        obtain ⟨r54, _, h⟩ := ax_bd_e h
        cases h
        exact FS43
abbrev w_X6_beatsNow : List (Nat × Nat × Nat) := [(0, 5, 3), (4, 31, 0), (4, 32, 0)]
set_option maxRecDepth 100000 in
theorem fr_X6_beatsNow {i1 : Nat} {a2 : Int32} {S : AS} {Z : AS} {r : Int32} (h : f_X6_beatsNow i1 a2 S = some (r, Z)) : ax_fr w_X6_beatsNow S Z := by
  unfold f_X6_beatsNow at h
  obtain ⟨r4, _, h⟩ := ax_bd_e h
  obtain ⟨r8, _, h⟩ := ax_bd_e h
  obtain ⟨r12, S9, hq3, h⟩ := ax_bu_e h
  have FS9 : ax_fr w_X6_beatsNow S S9 := (ax_fr.rf).tr ((fr_X6_beats hq3).mono (by decide))
  cases h
  exact FS9
abbrev w_X6_mayAnnounce : List (Nat × Nat × Nat) := [(0, 5, 3), (4, 31, 0), (4, 32, 0)]
set_option maxRecDepth 100000 in
theorem fr_X6_mayAnnounce {i1 : Nat} {a2 : Int32} {S : AS} {Z : AS} {r : Int32} (h : f_X6_mayAnnounce i1 a2 S = some (r, Z)) : ax_fr w_X6_mayAnnounce S Z := by
  unfold f_X6_mayAnnounce at h
  cases ho1 : ax_fo S 6 0 1 with
  | none =>
    rw [ho1] at h
    replace h := ax_on_n h
    cases h
  | some o1 =>
    rw [ho1] at h
    replace h := ax_on_s h
    obtain ⟨r6, _, h⟩ := ax_bd_e h
    obtain ⟨r10, _, h⟩ := ax_bd_e h
    by_cases c4 : r10 = (0 : Int32)
    · rw [if_pos c4] at h
      obtain ⟨r15, _, h⟩ := ax_bd_e h
      obtain ⟨r19, _, h⟩ := ax_bd_e h
      by_cases c7 : r19 ≤ r15
      · rw [if_pos c7] at h
        cases h
        exact ax_fr.rf
      · rw [if_neg c7] at h
        obtain ⟨r24, S21, hq8, h⟩ := ax_bu_e h
        have FS21 : ax_fr w_X6_mayAnnounce S S21 := (ax_fr.rf).tr ((fr_X6_beatsNow hq8).mono (by decide))
        obtain ⟨r28, _, h⟩ := ax_bd_e h
        by_cases c10 : r28 < r24
        · rw [if_pos c10] at h
          cases h
          exact FS21
        · rw [if_neg c10] at h
          cases h
          exact FS21
    · rw [if_neg c4] at h
      cases h
      exact ax_fr.rf
abbrev w_X6_may : List (Nat × Nat × Nat) := [(0, 5, 3), (4, 31, 0), (4, 32, 0)]
set_option maxRecDepth 100000 in
theorem fr_X6_may {i1 : Nat} {a2 : Int32} {a3 : Int32} {S : AS} {Z : AS} {r : Int32} (h : f_X6_may i1 a2 a3 S = some (r, Z)) : ax_fr w_X6_may S Z := by
  unfold f_X6_may at h
  cases ho1 : ax_fo S 6 0 1 with
  | none =>
    rw [ho1] at h
    replace h := ax_on_n h
    cases h
    exact ax_fr.rf
  | some o1 =>
    rw [ho1] at h
    replace h := ax_on_s h
    obtain ⟨J5, eJ5, h⟩ := ax_let_e h
    have hJ5 : ∀ (x3 : Int32) (S4 : AS) r Z, J5 x3 S4 = some (r, Z) → ax_fr w_X6_may S4 Z := by
      intro x3 S4 r Z h
      rw [← eJ5] at h
      try dsimp only at h
      by_cases c2 : a2 = (0 : Int32)
      · rw [if_pos c2] at h
        by_cases c3 : x3 = (0 : Int32)
        · rw [if_pos c3] at h
          cases h
          exact ax_fr.rf
        · rw [if_neg c3] at h
          obtain ⟨r11, S8, hq4, h⟩ := ax_bu_e h
          have FS8 : ax_fr w_X6_may S4 S8 := (ax_fr.rf).tr ((fr_X6_mayAnnounce hq4).mono (by decide))
          by_cases c5 : r11 = (0 : Int32)
          · rw [if_pos c5] at h
            cases h
            exact FS8
          · rw [if_neg c5] at h
            cases h
            exact FS8
      · rw [if_neg c2] at h
        by_cases c6 : a2 = (1 : Int32)
        · rw [if_pos c6] at h
          by_cases c7 : x3 = (0 : Int32)
          · rw [if_pos c7] at h
            cases h
            exact ax_fr.rf
          · rw [if_neg c7] at h
            obtain ⟨r18, _, h⟩ := ax_bd_e h
            by_cases c9 : (3 : Int32) ≤ r18
            · rw [if_pos c9] at h
              cases h
              exact ax_fr.rf
            · rw [if_neg c9] at h
              by_cases c10 : (ax_fi S4 9 i1 6) < (2 : Int32)
              · rw [if_pos c10] at h
                cases h
                exact ax_fr.rf
              · rw [if_neg c10] at h
                cases h
                exact ax_fr.rf
        · rw [if_neg c6] at h
          by_cases c11 : a2 = (2 : Int32)
          · rw [if_pos c11] at h
            cases h
            exact ax_fr.rf
          · rw [if_neg c11] at h
            by_cases c12 : a2 = (3 : Int32)
            · rw [if_pos c12] at h
              by_cases c13 : a3 < (1 : Int32)
              · rw [if_pos c13] at h
                cases h
                exact ax_fr.rf
              · rw [if_neg c13] at h
                by_cases c14 : (20 : Int32) < a3
                · rw [if_pos c14] at h
                  cases h
                  exact ax_fr.rf
                · rw [if_neg c14] at h
                  obtain ⟨r28, _, h⟩ := ax_bd_e h
                  by_cases c16 : r28 < a3
                  · rw [if_pos c16] at h
                    cases h
                    exact ax_fr.rf
                  · rw [if_neg c16] at h
                    cases h
                    exact ax_fr.rf
            · rw [if_neg c12] at h
              by_cases c17 : a2 = (4 : Int32)
              · rw [if_pos c17] at h
                by_cases c18 : (999 : Int32) ≤ (ax_fi S4 9 i1 7)
                · rw [if_pos c18] at h
                  cases h
                  exact ax_fr.rf
                · rw [if_neg c18] at h
                  cases h
                  exact ax_fr.rf
              · rw [if_neg c17] at h
                by_cases c19 : a2 = (5 : Int32)
                · rw [if_pos c19] at h
                  by_cases c20 : x3 = (0 : Int32)
                  · rw [if_pos c20] at h
                    cases h
                    exact ax_fr.rf
                  · rw [if_neg c20] at h
                    obtain ⟨r37, _, h⟩ := ax_bd_e h
                    by_cases c22 : r37 ≤ (0 : Int32)
                    · rw [if_pos c22] at h
                      cases h
                      exact ax_fr.rf
                    · rw [if_neg c22] at h
                      cases h
                      exact ax_fr.rf
                · rw [if_neg c19] at h
                  by_cases c23 : a2 = (6 : Int32)
                  · rw [if_pos c23] at h
                    by_cases c24 : (ax_fi S4 9 i1 3) ≤ (0 : Int32)
                    · rw [if_pos c24] at h
                      cases h
                      exact ax_fr.rf
                    · rw [if_neg c24] at h
                      obtain ⟨r44, _, h⟩ := ax_bd_e h
                      by_cases c26 : r44 < (3 : Int32)
                      · rw [if_pos c26] at h
                        cases h
                        exact ax_fr.rf
                      · rw [if_neg c26] at h
                        cases h
                        exact ax_fr.rf
                  · rw [if_neg c23] at h
                    cases h
                    exact ax_fr.rf
    by_cases c27 : a3 < (0 : Int32)
    · rw [if_pos c27] at h
      exact (ax_fr.rf).tr (hJ5 (0 : Int32) S _ _ h)
    · rw [if_neg c27] at h
      by_cases c28 : (ax_fi S 4 o1 5) ≤ a3
      · rw [if_pos c28] at h
        exact (ax_fr.rf).tr (hJ5 (0 : Int32) S _ _ h)
      · rw [if_neg c28] at h
        exact (ax_fr.rf).tr (hJ5 (1 : Int32) S _ _ h)
abbrev w_X9_saveTo_33x0 : List (Nat × Nat × Nat) := [(4, 33, 0)]
set_option maxRecDepth 100000 in
theorem fr_X9_saveTo_33x0 {i0 : Nat} {a2 : Int32} {S : AS} {Z : AS} (h : f_X9_saveTo_33x0 i0 a2 S = some Z) : ax_fr w_X9_saveTo_33x0 S Z := by
  unfold f_X9_saveTo_33x0 at h
  by_cases c1 : a2 < (0 : Int32)
  · rw [if_pos c1] at h
    cases h
    exact ax_fr.rf
  · rw [if_neg c1] at h
    by_cases c2 : (a2 + (18 : Int32)) ≤ (Int32.ofNat 720)
    · rw [if_pos c2] at h
      obtain ⟨_, h⟩ := ax_gd_e h
      obtain ⟨S4, eS4, h⟩ := ax_let_e h
      have FS4 : ax_fr w_X9_saveTo_33x0 S S4 := eS4 ▸ (ax_fr.rf).tr (ax_fr_sai (by decide))
      obtain ⟨_, h⟩ := ax_gd_e h
      obtain ⟨S6, eS6, h⟩ := ax_let_e h
      have FS6 : ax_fr w_X9_saveTo_33x0 S S6 := eS6 ▸ (FS4).tr (ax_fr_sai (by decide))
      obtain ⟨_, h⟩ := ax_gd_e h
      obtain ⟨S8, eS8, h⟩ := ax_let_e h
      have FS8 : ax_fr w_X9_saveTo_33x0 S S8 := eS8 ▸ (FS6).tr (ax_fr_sai (by decide))
      obtain ⟨_, h⟩ := ax_gd_e h
      obtain ⟨S10, eS10, h⟩ := ax_let_e h
      have FS10 : ax_fr w_X9_saveTo_33x0 S S10 := eS10 ▸ (FS8).tr (ax_fr_sai (by decide))
      obtain ⟨_, h⟩ := ax_gd_e h
      obtain ⟨S12, eS12, h⟩ := ax_let_e h
      have FS12 : ax_fr w_X9_saveTo_33x0 S S12 := eS12 ▸ (FS10).tr (ax_fr_sai (by decide))
      obtain ⟨_, h⟩ := ax_gd_e h
      obtain ⟨S14, eS14, h⟩ := ax_let_e h
      have FS14 : ax_fr w_X9_saveTo_33x0 S S14 := eS14 ▸ (FS12).tr (ax_fr_sai (by decide))
      obtain ⟨_, h⟩ := ax_gd_e h
      obtain ⟨S16, eS16, h⟩ := ax_let_e h
      have FS16 : ax_fr w_X9_saveTo_33x0 S S16 := eS16 ▸ (FS14).tr (ax_fr_sai (by decide))
      obtain ⟨_, h⟩ := ax_gd_e h
      obtain ⟨S18, eS18, h⟩ := ax_let_e h
      have FS18 : ax_fr w_X9_saveTo_33x0 S S18 := eS18 ▸ (FS16).tr (ax_fr_sai (by decide))
      obtain ⟨_, h⟩ := ax_gd_e h
      obtain ⟨S20, eS20, h⟩ := ax_let_e h
      have FS20 : ax_fr w_X9_saveTo_33x0 S S20 := eS20 ▸ (FS18).tr (ax_fr_cpy (by decide))
      obtain ⟨_, h⟩ := ax_gd_e h
      obtain ⟨S22, eS22, h⟩ := ax_let_e h
      have FS22 : ax_fr w_X9_saveTo_33x0 S S22 := eS22 ▸ (FS20).tr (ax_fr_cpy (by decide))
      cases h
      exact FS22
    · rw [if_neg c2] at h
      cases h
      exact ax_fr.rf
abbrev w_X7_remember : List (Nat × Nat × Nat) := [(0, 7, 1), (0, 7, 2), (4, 33, 0)]
set_option maxRecDepth 100000 in
theorem fr_X7_remember {i1 : Nat} {S : AS} {Z : AS} (h : f_X7_remember i1 S = some Z) : ax_fr w_X7_remember S Z := by
  unfold f_X7_remember at h
  obtain ⟨S1, hq1, h⟩ := ax_bd_e h
  have FS1 : ax_fr w_X7_remember S S1 := (ax_fr.rf).tr ((fr_X9_saveTo_33x0 hq1).mono (by decide))
  obtain ⟨J6, eJ6, h⟩ := ax_let_e h
  have hJ6 : ∀ (x4 : Int32) (S5 : AS) Z, J6 x4 S5 = some Z → ax_fr w_X7_remember S5 Z := by
    intro x4 S5 Z h
    rw [← eJ6] at h
    try dsimp only at h
    obtain ⟨S7, eS7, h⟩ := ax_let_e h
    have FS7 : ax_fr w_X7_remember S5 S7 := eS7 ▸ (ax_fr.rf).tr (ax_fr_sfi (by decide))
    obtain ⟨r11, _, h⟩ := ax_bd_e h
    obtain ⟨S12, eS12, h⟩ := ax_let_e h
    have FS12 : ax_fr w_X7_remember S5 S12 := eS12 ▸ (FS7).tr (ax_fr_sfi (by decide))
    cases h
    exact FS12
  by_cases c3 : (40 : Int32) ≤ ((ax_fi S1 7 0 1) + (1 : Int32))
  · rw [if_pos c3] at h
    exact (FS1).tr (hJ6 (0 : Int32) S1 _ h)
  · rw [if_neg c3] at h
    exact (FS1).tr (hJ6 ((ax_fi S1 7 0 1) + (1 : Int32)) S1 _ h)
abbrev w_X9_receive : List (Nat × Nat × Nat) := [(4, 38, 0)]
set_option maxRecDepth 100000 in
theorem fr_X9_receive {i0 : Nat} {a1 : Int32} {S : AS} {Z : AS} (h : f_X9_receive i0 a1 S = some Z) : ax_fr w_X9_receive S Z := by
  unfold f_X9_receive at h
  by_cases c1 : a1 < (0 : Int32)
  · rw [if_pos c1] at h
    cases h
    exact ax_fr.rf
  · rw [if_neg c1] at h
    by_cases c2 : (4 : Int32) ≤ a1
    · rw [if_pos c2] at h
      cases h
      exact ax_fr.rf
    · rw [if_neg c2] at h
      obtain ⟨_, h⟩ := ax_gd_e h
      obtain ⟨_, h⟩ := ax_gd_e h
      obtain ⟨S5, eS5, h⟩ := ax_let_e h
      have FS5 : ax_fr w_X9_receive S S5 := eS5 ▸ (ax_fr.rf).tr (ax_fr_sai (by decide))
      cases h
      exact FS5
abbrev w_X6_putOnMat : List (Nat × Nat × Nat) := [(0, 5, 3), (0, 9, 0), (0, 9, 1), (0, 9, 2), (0, 9, 3), (0, 9, 5), (4, 31, 0), (4, 32, 0), (4, 38, 0)]
set_option maxRecDepth 100000 in
theorem fr_X6_putOnMat {i1 : Nat} {a2 : Int32} {S : AS} {Z : AS} (h : f_X6_putOnMat i1 a2 S = some Z) : ax_fr w_X6_putOnMat S Z := by
  unfold f_X6_putOnMat at h
  cases ho1 : ax_fo S 6 0 1 with
  | none =>
    rw [ho1] at h
    replace h := ax_on_n h
    cases h
    exact ax_fr.rf
  | some o1 =>
    rw [ho1] at h
    replace h := ax_on_s h
    obtain ⟨r6, S3, hq2, h⟩ := ax_bu_e h
    have FS3 : ax_fr w_X6_putOnMat S S3 := (ax_fr.rf).tr ((fr_X6_beatsNow hq2).mono (by decide))
    cases ho3 : ax_fo S3 6 0 1 with
    | none =>
      rw [ho3] at h
      replace h := ax_on_n h
      cases h
    | some o7 =>
      rw [ho3] at h
      replace h := ax_on_s h
      obtain ⟨r12, _, h⟩ := ax_bd_e h
      obtain ⟨S13, eS13, h⟩ := ax_let_e h
      have FS13 : ax_fr w_X6_putOnMat S S13 := eS13 ▸ (FS3).tr (ax_fr_sfi (by decide))
      obtain ⟨S14, eS14, h⟩ := ax_let_e h
      have FS14 : ax_fr w_X6_putOnMat S S14 := eS14 ▸ (FS13).tr (ax_fr_sfi (by decide))
      obtain ⟨S15, hq5, h⟩ := ax_bd_e h
      have FS15 : ax_fr w_X6_putOnMat S S15 := (FS14).tr ((fr_X9_receive hq5).mono (by decide))
      obtain ⟨S18, eS18, h⟩ := ax_let_e h
      have FS18 : ax_fr w_X6_putOnMat S S18 := eS18 ▸ (FS15).tr (ax_fr_sfi (by decide))
      obtain ⟨r22, _, h⟩ := ax_bd_e h
      by_cases c7 : r22 = (0 : Int32)
      · rw [if_pos c7] at h
        cases h
        exact FS18
      · rw [if_neg c7] at h
        obtain ⟨S24, eS24, h⟩ := ax_let_e h
        have FS24 : ax_fr w_X6_putOnMat S S24 := eS24 ▸ (FS18).tr (ax_fr_sfi (by decide))
        obtain ⟨r28, _, h⟩ := ax_bd_e h
        obtain ⟨r32, _, h⟩ := ax_bd_e h
        obtain ⟨S33, eS33, h⟩ := ax_let_e h
        have FS33 : ax_fr w_X6_putOnMat S S33 := eS33 ▸ (FS24).tr (ax_fr_sfi (by decide))
        cases h
        exact FS33
abbrev w_X9_setTitles : List (Nat × Nat × Nat) := [(4, 39, 0)]
set_option maxRecDepth 100000 in
theorem fr_X9_setTitles {i0 : Nat} {a1 : Int32} {a2 : Int32} {S : AS} {Z : AS} (h : f_X9_setTitles i0 a1 a2 S = some Z) : ax_fr w_X9_setTitles S Z := by
  unfold f_X9_setTitles at h
  by_cases c1 : a1 < (0 : Int32)
  · rw [if_pos c1] at h
    cases h
    exact ax_fr.rf
  · rw [if_neg c1] at h
    by_cases c2 : (6 : Int32) ≤ a1
    · rw [if_pos c2] at h
      cases h
      exact ax_fr.rf
    · rw [if_neg c2] at h
      obtain ⟨_, h⟩ := ax_gd_e h
      obtain ⟨S4, eS4, h⟩ := ax_let_e h
      have FS4 : ax_fr w_X9_setTitles S S4 := eS4 ▸ (ax_fr.rf).tr (ax_fr_sai (by decide))
      cases h
      exact FS4
abbrev w_X9_startDay : List (Nat × Nat × Nat) := [(0, 9, 0), (0, 9, 1), (0, 9, 2), (0, 9, 3), (4, 38, 0)]
set_option maxRecDepth 100000 in
theorem fl_X9_startDay_L22 {K40 : AS → Option (AS)} (hK40 : ∀ (x0 : AS) Z, K40 x0 = some Z → ax_fr w_X9_startDay x0 Z) : ∀ (n : Nat) (y5 : Nat) (x6 : Int32) (S7 : AS) Z, f_X9_startDay_L22 K40 n y5 x6 S7 = some Z → ax_fr w_X9_startDay S7 Z := by
  intro n
  induction n with
  | zero =>
    intro y5 x6 S7 Z h
    cases h
  | succ n ih =>
    intro y5 x6 S7 Z h
    unfold f_X9_startDay_L22 at h
    by_cases c1 : (4 : Int32) ≤ x6
    · rw [if_pos c1] at h
      exact (ax_fr.rf).tr (hK40 S7 _ h)
    · rw [if_neg c1] at h
      obtain ⟨_, h⟩ := ax_gd_e h
      obtain ⟨S10, eS10, h⟩ := ax_let_e h
      have FS10 : ax_fr w_X9_startDay S7 S10 := eS10 ▸ (ax_fr.rf).tr (ax_fr_sai (by decide))
      obtain ⟨v11, _, h⟩ := ax_let_e h
      exact (FS10).tr (ih y5 v11 S10 _ h)
set_option maxRecDepth 100000 in
theorem fr_X9_startDay {i0 : Nat} {S : AS} {Z : AS} (h : f_X9_startDay i0 S = some Z) : ax_fr w_X9_startDay S Z := by
  unfold f_X9_startDay at h
  obtain ⟨S1, eS1, h⟩ := ax_let_e h
  have FS1 : ax_fr w_X9_startDay S S1 := eS1 ▸ (ax_fr.rf).tr (ax_fr_sfi (by decide))
  obtain ⟨S2, eS2, h⟩ := ax_let_e h
  have FS2 : ax_fr w_X9_startDay S S2 := eS2 ▸ (FS1).tr (ax_fr_sfi (by decide))
  obtain ⟨S3, eS3, h⟩ := ax_let_e h
  have FS3 : ax_fr w_X9_startDay S S3 := eS3 ▸ (FS2).tr (ax_fr_sfi (by decide))
  obtain ⟨S4, eS4, h⟩ := ax_let_e h
  have FS4 : ax_fr w_X9_startDay S S4 := eS4 ▸ (FS3).tr (ax_fr_sfi (by decide))
  refine (FS4).tr (fl_X9_startDay_L22 ?_ _ i0 (0 : Int32) S4 _ h)
  · intro S12 Z h
    cases h
    exact ax_fr.rf
abbrev w_X6_carryOut : List (Nat × Nat × Nat) := [(0, 5, 3), (0, 9, 0), (0, 9, 1), (0, 9, 2), (0, 9, 3), (0, 9, 4), (0, 9, 5), (0, 9, 6), (0, 9, 7), (4, 31, 0), (4, 32, 0), (4, 38, 0), (4, 39, 0)]
set_option maxRecDepth 100000 in
theorem fr_X6_carryOut {i1 : Nat} {a2 : Int32} {a3 : Int32} {S : AS} {Z : AS} (h : f_X6_carryOut i1 a2 a3 S = some Z) : ax_fr w_X6_carryOut S Z := by
  unfold f_X6_carryOut at h
  by_cases c1 : a2 = (0 : Int32)
  · rw [if_pos c1] at h
    obtain ⟨S2, hq2, h⟩ := ax_bd_e h
    have FS2 : ax_fr w_X6_carryOut S S2 := (ax_fr.rf).tr ((fr_X6_putOnMat hq2).mono (by decide))
    cases h
    exact FS2
  · rw [if_neg c1] at h
    by_cases c3 : a2 = (1 : Int32)
    · rw [if_pos c3] at h
      obtain ⟨S6, eS6, h⟩ := ax_let_e h
      have FS6 : ax_fr w_X6_carryOut S S6 := eS6 ▸ (ax_fr.rf).tr (ax_fr_sfi (by decide))
      obtain ⟨r10, _, h⟩ := ax_bd_e h
      obtain ⟨S11, hq5, h⟩ := ax_bd_e h
      have FS11 : ax_fr w_X6_carryOut S S11 := (FS6).tr ((fr_X9_setTitles hq5).mono (by decide))
      cases h
      exact FS11
    · rw [if_neg c3] at h
      by_cases c6 : a2 = (2 : Int32)
      · rw [if_pos c6] at h
        obtain ⟨S15, eS15, h⟩ := ax_let_e h
        have FS15 : ax_fr w_X6_carryOut S S15 := eS15 ▸ (ax_fr.rf).tr (ax_fr_sfi (by decide))
        cases h
        exact FS15
      · rw [if_neg c6] at h
        by_cases c7 : a2 = (3 : Int32)
        · rw [if_pos c7] at h
          obtain ⟨S17, eS17, h⟩ := ax_let_e h
          have FS17 : ax_fr w_X6_carryOut S S17 := eS17 ▸ (ax_fr.rf).tr (ax_fr_sfi (by decide))
          cases h
          exact FS17
        · rw [if_neg c7] at h
          by_cases c8 : a2 = (4 : Int32)
          · rw [if_pos c8] at h
            obtain ⟨r22, _, h⟩ := ax_bd_e h
            obtain ⟨S23, eS23, h⟩ := ax_let_e h
            have FS23 : ax_fr w_X6_carryOut S S23 := eS23 ▸ (ax_fr.rf).tr (ax_fr_sfi (by decide))
            obtain ⟨S24, eS24, h⟩ := ax_let_e h
            have FS24 : ax_fr w_X6_carryOut S S24 := eS24 ▸ (FS23).tr (ax_fr_sfi (by decide))
            obtain ⟨S25, hq10, h⟩ := ax_bd_e h
            have FS25 : ax_fr w_X6_carryOut S S25 := (FS24).tr ((fr_X9_startDay hq10).mono (by decide))
            cases h
            exact FS25
          · rw [if_neg c8] at h
            by_cases c11 : a2 = (5 : Int32)
            · rw [if_pos c11] at h
              obtain ⟨r32, _, h⟩ := ax_bd_e h
              obtain ⟨S33, hq13, h⟩ := ax_bd_e h
              have FS33 : ax_fr w_X6_carryOut S S33 := (ax_fr.rf).tr ((fr_X9_setTitles hq13).mono (by decide))
              cases h
              exact FS33
            · rw [if_neg c11] at h
              by_cases c14 : a2 = (6 : Int32)
              · rw [if_pos c14] at h
                obtain ⟨S37, eS37, h⟩ := ax_let_e h
                have FS37 : ax_fr w_X6_carryOut S S37 := eS37 ▸ (ax_fr.rf).tr (ax_fr_sfi (by decide))
                obtain ⟨r41, _, h⟩ := ax_bd_e h
                obtain ⟨S42, eS42, h⟩ := ax_let_e h
                have FS42 : ax_fr w_X6_carryOut S S42 := eS42 ▸ (FS37).tr (ax_fr_sfi (by decide))
                cases h
                exact FS42
              · rw [if_neg c14] at h
                cases h
                exact ax_fr.rf
abbrev w_X2_write : List (Nat × Nat × Nat) := [(4, 23, 0)]
set_option maxRecDepth 100000 in
theorem fr_X2_write {i0 : Nat} {i1 : Nat} {S : AS} {Z : AS} (h : f_X2_write i0 i1 S = some Z) : ax_fr w_X2_write S Z := by
  unfold f_X2_write at h
  obtain ⟨r4, _, h⟩ := ax_bd_e h
  obtain ⟨v5, _, h⟩ := ax_let_e h
  obtain ⟨_, h⟩ := ax_gd_e h
  obtain ⟨S7, eS7, h⟩ := ax_let_e h
  have FS7 : ax_fr w_X2_write S S7 := eS7 ▸ (ax_fr.rf).tr (ax_fr_sai (by decide))
  obtain ⟨_, h⟩ := ax_gd_e h
  obtain ⟨S9, eS9, h⟩ := ax_let_e h
  have FS9 : ax_fr w_X2_write S S9 := eS9 ▸ (FS7).tr (ax_fr_sai (by decide))
  obtain ⟨_, h⟩ := ax_gd_e h
  obtain ⟨S11, eS11, h⟩ := ax_let_e h
  have FS11 : ax_fr w_X2_write S S11 := eS11 ▸ (FS9).tr (ax_fr_sai (by decide))
  cases h
  exact FS11
abbrev w_X11_act : List (Nat × Nat × Nat) := [(0, 5, 3), (0, 7, 1), (0, 7, 2), (0, 9, 0), (0, 9, 1), (0, 9, 2), (0, 9, 3), (0, 9, 4), (0, 9, 5), (0, 9, 6), (0, 9, 7), (4, 23, 0), (4, 31, 0), (4, 32, 0), (4, 33, 0), (4, 38, 0), (4, 39, 0)]
set_option maxRecDepth 100000 in
theorem fr_X11_act {a1 : Int32} {a2 : Int32} {S : AS} {Z : AS} {r : Int32} (h : f_X11_act a1 a2 S = some (r, Z)) : ax_fr w_X11_act S Z := by
  unfold f_X11_act at h
  obtain ⟨r4, S1, hq1, h⟩ := ax_bu_e h
  have FS1 : ax_fr w_X11_act S S1 := (ax_fr.rf).tr ((fr_X6_may hq1).mono (by decide))
  by_cases c2 : r4 = (0 : Int32)
  · rw [if_pos c2] at h
    cases h
    exact FS1
  · rw [if_neg c2] at h
    obtain ⟨S6, hq3, h⟩ := ax_bd_e h
    have FS6 : ax_fr w_X11_act S S6 := (FS1).tr ((fr_X7_remember hq3).mono (by decide))
    obtain ⟨J10, eJ10, h⟩ := ax_let_e h
    have hJ10 : ∀ (S9 : AS) r Z, J10 S9 = some (r, Z) → ax_fr w_X11_act S9 Z := by
      intro S9 r Z h
      rw [← eJ10] at h
      try dsimp only at h
      obtain ⟨S11, hq4, h⟩ := ax_bd_e h
      have FS11 : ax_fr w_X11_act S9 S11 := (ax_fr.rf).tr ((fr_X6_carryOut hq4).mono (by decide))
      cases h
      exact FS11
    by_cases c5 : a1 = (4 : Int32)
    · rw [if_pos c5] at h
      obtain ⟨S15, hq6, h⟩ := ax_bd_e h
      have FS15 : ax_fr w_X11_act S S15 := (FS6).tr ((fr_X2_write hq6).mono (by decide))
      exact (FS15).tr (hJ10 S15 _ _ h)
    · rw [if_neg c5] at h
      exact (FS6).tr (hJ10 S6 _ _ h)
abbrev w_X11_rank : List (Nat × Nat × Nat) := [(0, 5, 3), (4, 31, 0), (4, 32, 0)]
set_option maxRecDepth 100000 in
theorem fr_X11_rank {a1 : Int32} {a2 : Int32} {S : AS} {Z : AS} {r : Int32} (h : f_X11_rank a1 a2 S = some (r, Z)) : ax_fr w_X11_rank S Z := by
  unfold f_X11_rank at h
  by_cases c1 : a1 = (1 : Int32)
  · rw [if_pos c1] at h
    obtain ⟨r5, S2, hq2, h⟩ := ax_bu_e h
    have FS2 : ax_fr w_X11_rank S S2 := (ax_fr.rf).tr ((fr_X6_beatsNow hq2).mono (by decide))
    cases h
    exact FS2
  · rw [if_neg c1] at h
    by_cases c3 : a1 = (2 : Int32)
    · rw [if_pos c3] at h
      obtain ⟨r10, S7, hq4, h⟩ := ax_bu_e h
      have FS7 : ax_fr w_X11_rank S S7 := (ax_fr.rf).tr ((fr_X6_beatsNow hq4).mono (by decide))
      cases h
      exact FS7
    · rw [if_neg c3] at h
      by_cases c5 : a1 = (3 : Int32)
      · rw [if_pos c5] at h
        obtain ⟨r15, _, h⟩ := ax_bd_e h
        cases h
        exact ax_fr.rf
      · rw [if_neg c5] at h
        by_cases c7 : a1 = (4 : Int32)
        · rw [if_pos c7] at h
          obtain ⟨r20, _, h⟩ := ax_bd_e h
          cases h
          exact ax_fr.rf
        · rw [if_neg c7] at h
          obtain ⟨r24, _, h⟩ := ax_bd_e h
          cases h
          exact ax_fr.rf
abbrev w_X11_foremost : List (Nat × Nat × Nat) := [(0, 5, 3), (4, 31, 0), (4, 32, 0)]
set_option maxRecDepth 100000 in
theorem fl_X11_foremost_L4 {K38 : Int32 → AS → Option (Int32 × AS)} (hK38 : ∀ (x0 : Int32) (x1 : AS) r Z, K38 x0 x1 = some (r, Z) → ax_fr w_X11_foremost x1 Z) : ∀ (n : Nat) (x1 : Int32) (x2 : Int32) (x3 : Int32) (S5 : AS) r Z, f_X11_foremost_L4 K38 n x1 x2 x3 S5 = some (r, Z) → ax_fr w_X11_foremost S5 Z := by
  intro n
  induction n with
  | zero =>
    intro x1 x2 x3 S5 r Z h
    cases h
  | succ n ih =>
    intro x1 x2 x3 S5 r Z h
    unfold f_X11_foremost_L4 at h
    by_cases c1 : (ax_fi S5 4 (ax_fx S5 11 0 14) 5) ≤ x3
    · rw [if_pos c1] at h
      exact (ax_fr.rf).tr (hK38 x2 S5 _ _ h)
    · rw [if_neg c1] at h
      obtain ⟨r13, S10, hq2, h⟩ := ax_bu_e h
      have FS10 : ax_fr w_X11_foremost S5 S10 := (ax_fr.rf).tr ((fr_X11_rank hq2).mono (by decide))
      obtain ⟨r17, S14, hq3, h⟩ := ax_bu_e h
      have FS14 : ax_fr w_X11_foremost S5 S14 := (FS10).tr ((fr_X11_rank hq3).mono (by decide))
      by_cases c4 : r13 ≤ r17
      · rw [if_pos c4] at h
        obtain ⟨v19, _, h⟩ := ax_let_e h
        exact (FS14).tr (ih x1 x2 v19 S14 _ _ h)
      · rw [if_neg c4] at h
        obtain ⟨v20, _, h⟩ := ax_let_e h
        exact (FS14).tr (ih x1 x3 v20 S14 _ _ h)
set_option maxRecDepth 100000 in
theorem fr_X11_foremost {a1 : Int32} {S : AS} {Z : AS} {r : Int32} (h : f_X11_foremost a1 S = some (r, Z)) : ax_fr w_X11_foremost S Z := by
  unfold f_X11_foremost at h
  refine (ax_fr.rf).tr (fl_X11_foremost_L4 ?_ _ a1 (0 : Int32) (1 : Int32) S _ _ h)
  · intro x4 S21 r Z h
    cases h
    exact ax_fr.rf
abbrev w_X11_dueCallers : List (Nat × Nat × Nat) := [(0, 5, 3), (4, 31, 0), (4, 32, 0)]
set_option maxRecDepth 100000 in
theorem fl_X11_dueCallers_L4 {K43 : Int32 → AS → Option (Int32 × AS)} (hK43 : ∀ (x0 : Int32) (x1 : AS) r Z, K43 x0 x1 = some (r, Z) → ax_fr w_X11_dueCallers x1 Z) : ∀ (n : Nat) (x1 : Int32) (x2 : Int32) (S4 : AS) r Z, f_X11_dueCallers_L4 K43 n x1 x2 S4 = some (r, Z) → ax_fr w_X11_dueCallers S4 Z := by
  intro n
  induction n with
  | zero =>
    intro x1 x2 S4 r Z h
    cases h
  | succ n ih =>
    intro x1 x2 S4 r Z h
    unfold f_X11_dueCallers_L4 at h
    by_cases c1 : (ax_fi S4 4 (ax_fx S4 11 0 14) 5) ≤ x2
    · rw [if_pos c1] at h
      exact (ax_fr.rf).tr (hK43 x1 S4 _ _ h)
    · rw [if_neg c1] at h
      obtain ⟨r12, S9, hq2, h⟩ := ax_bu_e h
      have FS9 : ax_fr w_X11_dueCallers S4 S9 := (ax_fr.rf).tr ((fr_X6_may hq2).mono (by decide))
      by_cases c3 : r12 = (0 : Int32)
      · rw [if_pos c3] at h
        obtain ⟨v14, _, h⟩ := ax_let_e h
        exact (FS9).tr (ih x1 v14 S9 _ _ h)
      · rw [if_neg c3] at h
        obtain ⟨v15, _, h⟩ := ax_let_e h
        obtain ⟨v16, _, h⟩ := ax_let_e h
        exact (FS9).tr (ih v15 v16 S9 _ _ h)
set_option maxRecDepth 100000 in
theorem fr_X11_dueCallers {S : AS} {Z : AS} {r : Int32} (h : f_X11_dueCallers S = some (r, Z)) : ax_fr w_X11_dueCallers S Z := by
  unfold f_X11_dueCallers at h
  refine (ax_fr.rf).tr (fl_X11_dueCallers_L4 ?_ _ (0 : Int32) (0 : Int32) S _ _ h)
  · intro x3 S17 r Z h
    cases h
    exact ax_fr.rf
abbrev w_X11_readyCallers : List (Nat × Nat × Nat) := [(0, 5, 3), (4, 31, 0), (4, 32, 0)]
set_option maxRecDepth 100000 in
theorem fl_X11_readyCallers_L4 {K50 : Int32 → AS → Option (Int32 × AS)} (hK50 : ∀ (x0 : Int32) (x1 : AS) r Z, K50 x0 x1 = some (r, Z) → ax_fr w_X11_readyCallers x1 Z) : ∀ (n : Nat) (x1 : Int32) (x2 : Int32) (S4 : AS) r Z, f_X11_readyCallers_L4 K50 n x1 x2 S4 = some (r, Z) → ax_fr w_X11_readyCallers S4 Z := by
  intro n
  induction n with
  | zero =>
    intro x1 x2 S4 r Z h
    cases h
  | succ n ih =>
    intro x1 x2 S4 r Z h
    unfold f_X11_readyCallers_L4 at h
    by_cases c1 : (ax_fi S4 4 (ax_fx S4 11 0 14) 5) ≤ x2
    · rw [if_pos c1] at h
      exact (ax_fr.rf).tr (hK50 x1 S4 _ _ h)
    · rw [if_neg c1] at h
      obtain ⟨r12, S9, hq2, h⟩ := ax_bu_e h
      have FS9 : ax_fr w_X11_readyCallers S4 S9 := (ax_fr.rf).tr ((fr_X6_beatsNow hq2).mono (by decide))
      obtain ⟨r16, _, h⟩ := ax_bd_e h
      by_cases c4 : r16 = (0 : Int32)
      · rw [if_pos c4] at h
        obtain ⟨v18, _, h⟩ := ax_let_e h
        exact (FS9).tr (ih x1 v18 S9 _ _ h)
      · rw [if_neg c4] at h
        obtain ⟨v19, _, h⟩ := ax_let_e h
        obtain ⟨v20, _, h⟩ := ax_let_e h
        exact (FS9).tr (ih v19 v20 S9 _ _ h)
set_option maxRecDepth 100000 in
theorem fr_X11_readyCallers {S : AS} {Z : AS} {r : Int32} (h : f_X11_readyCallers S = some (r, Z)) : ax_fr w_X11_readyCallers S Z := by
  unfold f_X11_readyCallers at h
  refine (ax_fr.rf).tr (fl_X11_readyCallers_L4 ?_ _ (0 : Int32) (0 : Int32) S _ _ h)
  · intro x3 S21 r Z h
    cases h
    exact ax_fr.rf
abbrev w_X6_beatsTired : List (Nat × Nat × Nat) := [(0, 5, 3), (4, 31, 0), (4, 32, 0)]
set_option maxRecDepth 100000 in
theorem fr_X6_beatsTired {i1 : Nat} {a2 : Int32} {a3 : Int32} {a4 : Int32} {S : AS} {Z : AS} {r : Int32} (h : f_X6_beatsTired i1 a2 a3 a4 S = some (r, Z)) : ax_fr w_X6_beatsTired S Z := by
  unfold f_X6_beatsTired at h
  obtain ⟨r4, _, h⟩ := ax_bd_e h
  obtain ⟨r8, S5, hq2, h⟩ := ax_bu_e h
  have FS5 : ax_fr w_X6_beatsTired S S5 := (ax_fr.rf).tr ((fr_X6_beats hq2).mono (by decide))
  cases h
  exact FS5
abbrev w_X11_beatsOfAll : List (Nat × Nat × Nat) := [(0, 5, 3), (4, 31, 0), (4, 32, 0)]
set_option maxRecDepth 100000 in
theorem fl_X11_beatsOfAll_L4 {K53 : Int32 → AS → Option (Int32 × AS)} (hK53 : ∀ (x0 : Int32) (x1 : AS) r Z, K53 x0 x1 = some (r, Z) → ax_fr w_X11_beatsOfAll x1 Z) : ∀ (n : Nat) (x1 : Int32) (x2 : Int32) (S4 : AS) r Z, f_X11_beatsOfAll_L4 K53 n x1 x2 S4 = some (r, Z) → ax_fr w_X11_beatsOfAll S4 Z := by
  intro n
  induction n with
  | zero =>
    intro x1 x2 S4 r Z h
    cases h
  | succ n ih =>
    intro x1 x2 S4 r Z h
    unfold f_X11_beatsOfAll_L4 at h
    by_cases c1 : (ax_fi S4 4 (ax_fx S4 11 0 14) 5) ≤ x2
    · rw [if_pos c1] at h
      exact (ax_fr.rf).tr (hK53 x1 S4 _ _ h)
    · rw [if_neg c1] at h
      obtain ⟨r12, _, h⟩ := ax_bd_e h
      obtain ⟨r16, S13, hq3, h⟩ := ax_bu_e h
      have FS13 : ax_fr w_X11_beatsOfAll S4 S13 := (ax_fr.rf).tr ((fr_X6_beatsTired hq3).mono (by decide))
      obtain ⟨v17, _, h⟩ := ax_let_e h
      obtain ⟨v18, _, h⟩ := ax_let_e h
      exact (FS13).tr (ih v17 v18 S13 _ _ h)
set_option maxRecDepth 100000 in
theorem fr_X11_beatsOfAll {S : AS} {Z : AS} {r : Int32} (h : f_X11_beatsOfAll S = some (r, Z)) : ax_fr w_X11_beatsOfAll S Z := by
  unfold f_X11_beatsOfAll at h
  refine (ax_fr.rf).tr (fl_X11_beatsOfAll_L4 ?_ _ (0 : Int32) (0 : Int32) S _ _ h)
  · intro x3 S19 r Z h
    cases h
    exact ax_fr.rf
abbrev w_X11_all : List (Nat × Nat × Nat) := [(0, 5, 3), (4, 31, 0), (4, 32, 0)]
set_option maxRecDepth 100000 in
theorem fr_X11_all {a1 : Int32} {S : AS} {Z : AS} {r : Int32} (h : f_X11_all a1 S = some (r, Z)) : ax_fr w_X11_all S Z := by
  unfold f_X11_all at h
  obtain ⟨r4, _, h⟩ := ax_bd_e h
  by_cases c2 : r4 = (0 : Int32)
  · rw [if_pos c2] at h
    by_cases c3 : a1 = (0 : Int32)
    · rw [if_pos c3] at h
      obtain ⟨r10, _, h⟩ := ax_bd_e h
      cases h
      exact ax_fr.rf
    · rw [if_neg c3] at h
      by_cases c5 : a1 = (1 : Int32)
      · rw [if_pos c5] at h
        obtain ⟨r15, S12, hq6, h⟩ := ax_bu_e h
        have FS12 : ax_fr w_X11_all S S12 := (ax_fr.rf).tr ((fr_X11_foremost hq6).mono (by decide))
        cases h
        exact FS12
      · rw [if_neg c5] at h
        by_cases c7 : a1 = (2 : Int32)
        · rw [if_pos c7] at h
          obtain ⟨r20, S17, hq8, h⟩ := ax_bu_e h
          have FS17 : ax_fr w_X11_all S S17 := (ax_fr.rf).tr ((fr_X11_foremost hq8).mono (by decide))
          cases h
          exact FS17
        · rw [if_neg c7] at h
          by_cases c9 : a1 = (3 : Int32)
          · rw [if_pos c9] at h
            obtain ⟨r25, S22, hq10, h⟩ := ax_bu_e h
            have FS22 : ax_fr w_X11_all S S22 := (ax_fr.rf).tr ((fr_X11_foremost hq10).mono (by decide))
            cases h
            exact FS22
          · rw [if_neg c9] at h
            by_cases c11 : a1 = (4 : Int32)
            · rw [if_pos c11] at h
              obtain ⟨r30, S27, hq12, h⟩ := ax_bu_e h
              have FS27 : ax_fr w_X11_all S S27 := (ax_fr.rf).tr ((fr_X11_foremost hq12).mono (by decide))
              cases h
              exact FS27
            · rw [if_neg c11] at h
              by_cases c13 : a1 = (5 : Int32)
              · rw [if_pos c13] at h
                obtain ⟨r35, S32, hq14, h⟩ := ax_bu_e h
                have FS32 : ax_fr w_X11_all S S32 := (ax_fr.rf).tr ((fr_X11_foremost hq14).mono (by decide))
                cases h
                exact FS32
              · rw [if_neg c13] at h
                by_cases c15 : a1 = (6 : Int32)
                · rw [if_pos c15] at h
                  obtain ⟨r40, _, h⟩ := ax_bd_e h
                  cases h
                  exact ax_fr.rf
                · rw [if_neg c15] at h
                  by_cases c17 : a1 = (7 : Int32)
                  · rw [if_pos c17] at h
                    obtain ⟨r45, S42, hq18, h⟩ := ax_bu_e h
                    have FS42 : ax_fr w_X11_all S S42 := (ax_fr.rf).tr ((fr_X11_dueCallers hq18).mono (by decide))
                    cases h
                    exact FS42
                  · rw [if_neg c17] at h
                    by_cases c19 : a1 = (8 : Int32)
                    · rw [if_pos c19] at h
                      obtain ⟨r50, S47, hq20, h⟩ := ax_bu_e h
                      have FS47 : ax_fr w_X11_all S S47 := (ax_fr.rf).tr ((fr_X11_readyCallers hq20).mono (by decide))
                      cases h
                      exact FS47
                    · rw [if_neg c19] at h
                      by_cases c21 : a1 = (9 : Int32)
                      · rw [if_pos c21] at h
                        obtain ⟨r55, S52, hq22, h⟩ := ax_bu_e h
                        have FS52 : ax_fr w_X11_all S S52 := (ax_fr.rf).tr ((fr_X11_beatsOfAll hq22).mono (by decide))
                        cases h
                        exact FS52
                      · rw [if_neg c21] at h
                        cases h
                        exact ax_fr.rf
  · rw [if_neg c2] at h
    cases h
    exact ax_fr.rf
abbrev w_X11_announce : List (Nat × Nat × Nat) := [(0, 5, 3), (0, 7, 1), (0, 7, 2), (0, 9, 0), (0, 9, 1), (0, 9, 2), (0, 9, 3), (0, 9, 4), (0, 9, 5), (0, 9, 6), (0, 9, 7), (4, 23, 0), (4, 31, 0), (4, 32, 0), (4, 33, 0), (4, 38, 0), (4, 39, 0)]
set_option maxRecDepth 100000 in
theorem fr_X11_announce {a1 : Int32} {S : AS} {Z : AS} {r : Int32} (h : f_X11_announce a1 S = some (r, Z)) : ax_fr w_X11_announce S Z := by
  unfold f_X11_announce at h
  obtain ⟨v1, _, h⟩ := ax_let_e h
  obtain ⟨r5, S2, hq1, h⟩ := ax_bu_e h
  have FS2 : ax_fr w_X11_announce S S2 := (ax_fr.rf).tr ((fr_X11_act hq1).mono (by decide))
  by_cases c2 : r5 = (0 : Int32)
  · rw [if_pos c2] at h
    cases h
    exact FS2
  · rw [if_neg c2] at h
    cases h
    exact FS2
abbrev w_X6_beatsHeard : List (Nat × Nat × Nat) := [(0, 5, 3), (4, 31, 0), (4, 32, 0)]
set_option maxRecDepth 100000 in
theorem fr_X6_beatsHeard {a1 : Int32} {a2 : Int32} {S : AS} {Z : AS} {r : Int32} (h : f_X6_beatsHeard a1 a2 S = some (r, Z)) : ax_fr w_X6_beatsHeard S Z := by
  unfold f_X6_beatsHeard at h
  obtain ⟨r4, S1, hq1, h⟩ := ax_bu_e h
  have FS1 : ax_fr w_X6_beatsHeard S S1 := (ax_fr.rf).tr ((fr_X6_beats hq1).mono (by decide))
  cases h
  exact FS1
abbrev w_X11_fittingHards : List (Nat × Nat × Nat) := [(0, 5, 3), (4, 31, 0), (4, 32, 0)]
set_option maxRecDepth 100000 in
theorem fl_X11_fittingHards_L4 {K41 : Int32 → AS → Option (Int32 × AS)} (hK41 : ∀ (x0 : Int32) (x1 : AS) r Z, K41 x0 x1 = some (r, Z) → ax_fr w_X11_fittingHards x1 Z) : ∀ (n : Nat) (x1 : Int32) (x2 : Int32) (x3 : Int32) (S5 : AS) r Z, f_X11_fittingHards_L4 K41 n x1 x2 x3 S5 = some (r, Z) → ax_fr w_X11_fittingHards S5 Z := by
  intro n
  induction n with
  | zero =>
    intro x1 x2 x3 S5 r Z h
    cases h
  | succ n ih =>
    intro x1 x2 x3 S5 r Z h
    unfold f_X11_fittingHards_L4 at h
    by_cases c1 : (5 : Int32) < x3
    · rw [if_pos c1] at h
      exact (ax_fr.rf).tr (hK41 x2 S5 _ _ h)
    · rw [if_neg c1] at h
      obtain ⟨r10, S7, hq2, h⟩ := ax_bu_e h
      have FS7 : ax_fr w_X11_fittingHards S5 S7 := (ax_fr.rf).tr ((fr_X6_beatsHeard hq2).mono (by decide))
      obtain ⟨r14, _, h⟩ := ax_bd_e h
      by_cases c4 : r14 = (0 : Int32)
      · rw [if_pos c4] at h
        obtain ⟨v16, _, h⟩ := ax_let_e h
        exact (FS7).tr (ih x1 x2 v16 S7 _ _ h)
      · rw [if_neg c4] at h
        obtain ⟨v17, _, h⟩ := ax_let_e h
        obtain ⟨v18, _, h⟩ := ax_let_e h
        exact (FS7).tr (ih x1 v17 v18 S7 _ _ h)
set_option maxRecDepth 100000 in
theorem fr_X11_fittingHards {a1 : Int32} {S : AS} {Z : AS} {r : Int32} (h : f_X11_fittingHards a1 S = some (r, Z)) : ax_fr w_X11_fittingHards S Z := by
  unfold f_X11_fittingHards at h
  refine (ax_fr.rf).tr (fl_X11_fittingHards_L4 ?_ _ a1 (0 : Int32) (0 : Int32) S _ _ h)
  · intro x4 S19 r Z h
    cases h
    exact ax_fr.rf
abbrev w_X11_howFarApart : List (Nat × Nat × Nat) := [(0, 5, 3), (4, 31, 0), (4, 32, 0)]
set_option maxRecDepth 100000 in
theorem fl_X11_howFarApart_L6 {K51 : Int32 → AS → Option (Int32 × AS)} (hK51 : ∀ (x0 : Int32) (x1 : AS) r Z, K51 x0 x1 = some (r, Z) → ax_fr w_X11_howFarApart x1 Z) : ∀ (n : Nat) (x1 : Int32) (x2 : Int32) (x3 : Int32) (x4 : Int32) (x5 : Int32) (S7 : AS) r Z, f_X11_howFarApart_L6 K51 n x1 x2 x3 x4 x5 S7 = some (r, Z) → ax_fr w_X11_howFarApart S7 Z := by
  intro n
  induction n with
  | zero =>
    intro x1 x2 x3 x4 x5 S7 r Z h
    cases h
  | succ n ih =>
    intro x1 x2 x3 x4 x5 S7 r Z h
    unfold f_X11_howFarApart_L6 at h
    by_cases c1 : (5 : Int32) < x5
    · rw [if_pos c1] at h
      exact (ax_fr.rf).tr (hK51 x4 S7 _ _ h)
    · rw [if_neg c1] at h
      by_cases c2 : ((x2 >>> (x5 &&& 31)) &&& (1 : Int32)) = (0 : Int32)
      · rw [if_pos c2] at h
        obtain ⟨v10, _, h⟩ := ax_let_e h
        exact (ax_fr.rf).tr (ih x1 x2 x3 x4 v10 S7 _ _ h)
      · rw [if_neg c2] at h
        obtain ⟨r14, S11, hq3, h⟩ := ax_bu_e h
        have FS11 : ax_fr w_X11_howFarApart S7 S11 := (ax_fr.rf).tr ((fr_X6_beatsHeard hq3).mono (by decide))
        by_cases c4 : r14 < x3
        · rw [if_pos c4] at h
          obtain ⟨v16, _, h⟩ := ax_let_e h
          obtain ⟨v17, _, h⟩ := ax_let_e h
          exact (FS11).tr (ih x1 x2 x3 v16 v17 S11 _ _ h)
        · rw [if_neg c4] at h
          obtain ⟨v18, _, h⟩ := ax_let_e h
          obtain ⟨v19, _, h⟩ := ax_let_e h
          exact (FS11).tr (ih x1 x2 x3 v18 v19 S11 _ _ h)
set_option maxRecDepth 100000 in
theorem fr_X11_howFarApart {a1 : Int32} {a2 : Int32} {a3 : Int32} {S : AS} {Z : AS} {r : Int32} (h : f_X11_howFarApart a1 a2 a3 S = some (r, Z)) : ax_fr w_X11_howFarApart S Z := by
  unfold f_X11_howFarApart at h
  refine (ax_fr.rf).tr (fl_X11_howFarApart_L6 ?_ _ a1 a2 a3 (0 : Int32) (0 : Int32) S _ _ h)
  · intro x6 S20 r Z h
    obtain ⟨r24, _, h⟩ := ax_bd_e h
    cases h
    exact ax_fr.rf
abbrev w_X11_ask : List (Nat × Nat × Nat) := [(0, 5, 3), (4, 31, 0), (4, 32, 0)]
set_option maxRecDepth 100000 in
theorem fl_X11_ask_L24 {K78 : Int32 → AS → Option (Int32 × AS)} (hK78 : ∀ (x0 : Int32) (x1 : AS) r Z, K78 x0 x1 = some (r, Z) → ax_fr w_X11_ask x1 Z) : ∀ (n : Nat) (x11 : Int32) (x12 : Int32) (x13 : Int32) (x14 : Int32) (S16 : AS) r Z, f_X11_ask_L24 K78 n x11 x12 x13 x14 S16 = some (r, Z) → ax_fr w_X11_ask S16 Z := by
  intro n
  induction n with
  | zero =>
    intro x11 x12 x13 x14 S16 r Z h
    cases h
  | succ n ih =>
    intro x11 x12 x13 x14 S16 r Z h
    unfold f_X11_ask_L24 at h
    by_cases c1 : (ax_fi S16 4 (ax_fx S16 11 0 14) 5) ≤ x14
    · rw [if_pos c1] at h
      exact (ax_fr.rf).tr (hK78 x12 S16 _ _ h)
    · rw [if_neg c1] at h
      obtain ⟨r24, S21, hq2, h⟩ := ax_bu_e h
      have FS21 : ax_fr w_X11_ask S16 S21 := (ax_fr.rf).tr ((fr_X11_fittingHards hq2).mono (by decide))
      obtain ⟨r28, S25, hq3, h⟩ := ax_bu_e h
      have FS25 : ax_fr w_X11_ask S16 S25 := (FS21).tr ((fr_X11_howFarApart hq3).mono (by decide))
      by_cases c4 : r24 = (0 : Int32)
      · rw [if_pos c4] at h
        obtain ⟨v30, _, h⟩ := ax_let_e h
        exact (FS25).tr (ih x11 x12 x13 v30 S25 _ _ h)
      · rw [if_neg c4] at h
        by_cases c5 : x13 ≤ r28
        · rw [if_pos c5] at h
          obtain ⟨v32, _, h⟩ := ax_let_e h
          exact (FS25).tr (ih x11 x12 x13 v32 S25 _ _ h)
        · rw [if_neg c5] at h
          obtain ⟨v33, _, h⟩ := ax_let_e h
          exact (FS25).tr (ih x11 x14 r28 v33 S25 _ _ h)
set_option maxRecDepth 100000 in
theorem fr_X11_ask {a1 : Int32} {S : AS} {Z : AS} {r : Int32} (h : f_X11_ask a1 S = some (r, Z)) : ax_fr w_X11_ask S Z := by
  unfold f_X11_ask at h
  obtain ⟨r4, _, h⟩ := ax_bd_e h
  by_cases c7 : r4 = (0 : Int32)
  · rw [if_pos c7] at h
    obtain ⟨r9, _, h⟩ := ax_bd_e h
    by_cases c9 : r9 = (0 : Int32)
    · rw [if_pos c9] at h
      refine (ax_fr.rf).tr (fl_X11_ask_L24 ?_ _ a1 (Int32.ofInt (-1)) (7 : Int32) (0 : Int32) S _ _ h)
      · intro x15 S34 r Z h
        cases h
        exact ax_fr.rf
    · rw [if_neg c9] at h
      cases h
      exact ax_fr.rf
  · rw [if_neg c7] at h
    cases h
    exact ax_fr.rf
abbrev w_X9_copyFrom : List (Nat × Nat × Nat) := [(0, 9, 0), (0, 9, 1), (0, 9, 2), (0, 9, 3), (0, 9, 4), (0, 9, 5), (0, 9, 6), (0, 9, 7), (4, 38, 0), (4, 39, 0)]
set_option maxRecDepth 100000 in
theorem fr_X9_copyFrom {i0 : Nat} {i1 : Nat} {S : AS} {Z : AS} (h : f_X9_copyFrom i0 i1 S = some Z) : ax_fr w_X9_copyFrom S Z := by
  unfold f_X9_copyFrom at h
  obtain ⟨S1, eS1, h⟩ := ax_let_e h
  have FS1 : ax_fr w_X9_copyFrom S S1 := eS1 ▸ (ax_fr.rf).tr (ax_fr_sfi (by decide))
  obtain ⟨S2, eS2, h⟩ := ax_let_e h
  have FS2 : ax_fr w_X9_copyFrom S S2 := eS2 ▸ (FS1).tr (ax_fr_sfi (by decide))
  obtain ⟨S3, eS3, h⟩ := ax_let_e h
  have FS3 : ax_fr w_X9_copyFrom S S3 := eS3 ▸ (FS2).tr (ax_fr_sfi (by decide))
  obtain ⟨S4, eS4, h⟩ := ax_let_e h
  have FS4 : ax_fr w_X9_copyFrom S S4 := eS4 ▸ (FS3).tr (ax_fr_sfi (by decide))
  obtain ⟨S5, eS5, h⟩ := ax_let_e h
  have FS5 : ax_fr w_X9_copyFrom S S5 := eS5 ▸ (FS4).tr (ax_fr_sfi (by decide))
  obtain ⟨S6, eS6, h⟩ := ax_let_e h
  have FS6 : ax_fr w_X9_copyFrom S S6 := eS6 ▸ (FS5).tr (ax_fr_sfi (by decide))
  obtain ⟨S7, eS7, h⟩ := ax_let_e h
  have FS7 : ax_fr w_X9_copyFrom S S7 := eS7 ▸ (FS6).tr (ax_fr_sfi (by decide))
  obtain ⟨S8, eS8, h⟩ := ax_let_e h
  have FS8 : ax_fr w_X9_copyFrom S S8 := eS8 ▸ (FS7).tr (ax_fr_sfi (by decide))
  obtain ⟨_, h⟩ := ax_gd_e h
  obtain ⟨S10, eS10, h⟩ := ax_let_e h
  have FS10 : ax_fr w_X9_copyFrom S S10 := eS10 ▸ (FS8).tr (ax_fr_cpy (by decide))
  obtain ⟨_, h⟩ := ax_gd_e h
  obtain ⟨S12, eS12, h⟩ := ax_let_e h
  have FS12 : ax_fr w_X9_copyFrom S S12 := eS12 ▸ (FS10).tr (ax_fr_cpy (by decide))
  cases h
  exact FS12
abbrev w_X2_copyFrom : List (Nat × Nat × Nat) := [(4, 23, 0)]
set_option maxRecDepth 100000 in
theorem fr_X2_copyFrom {i0 : Nat} {i1 : Nat} {S : AS} {Z : AS} (h : f_X2_copyFrom i0 i1 S = some Z) : ax_fr w_X2_copyFrom S Z := by
  unfold f_X2_copyFrom at h
  obtain ⟨_, h⟩ := ax_gd_e h
  obtain ⟨S2, eS2, h⟩ := ax_let_e h
  have FS2 : ax_fr w_X2_copyFrom S S2 := eS2 ▸ (ax_fr.rf).tr (ax_fr_cpy (by decide))
  cases h
  exact FS2
abbrev w_X7_forget : List (Nat × Nat × Nat) := [(0, 7, 1), (0, 7, 2)]
set_option maxRecDepth 100000 in
theorem fr_X7_forget {S : AS} {Z : AS} (h : f_X7_forget S = some Z) : ax_fr w_X7_forget S Z := by
  unfold f_X7_forget at h
  obtain ⟨S1, eS1, h⟩ := ax_let_e h
  have FS1 : ax_fr w_X7_forget S S1 := eS1 ▸ (ax_fr.rf).tr (ax_fr_sfi (by decide))
  obtain ⟨S2, eS2, h⟩ := ax_let_e h
  have FS2 : ax_fr w_X7_forget S S2 := eS2 ▸ (FS1).tr (ax_fr_sfi (by decide))
  cases h
  exact FS2
abbrev w_X11_back : List (Nat × Nat × Nat) := [(0, 7, 1), (0, 7, 2), (0, 9, 0), (0, 9, 1), (0, 9, 2), (0, 9, 3), (0, 9, 4), (0, 9, 5), (0, 9, 6), (0, 9, 7), (4, 23, 0), (4, 38, 0), (4, 39, 0)]
set_option maxRecDepth 100000 in
theorem fr_X11_back {S : AS} {Z : AS} {r : Int32} (h : f_X11_back S = some (r, Z)) : ax_fr w_X11_back S Z := by
  unfold f_X11_back at h
  by_cases c1 : (ax_fi S 11 0 19) = (0 : Int32)
  · rw [if_pos c1] at h
    cases h
    exact ax_fr.rf
  · rw [if_neg c1] at h
    obtain ⟨S2, hq2, h⟩ := ax_bd_e h
    have FS2 : ax_fr w_X11_back S S2 := (ax_fr.rf).tr ((fr_X9_copyFrom hq2).mono (by decide))
    obtain ⟨S5, hq3, h⟩ := ax_bd_e h
    have FS5 : ax_fr w_X11_back S S5 := (FS2).tr ((fr_X2_copyFrom hq3).mono (by decide))
    obtain ⟨S8, hq4, h⟩ := ax_bd_e h
    have FS8 : ax_fr w_X11_back S S8 := (FS5).tr ((fr_X7_forget hq4).mono (by decide))
    cases h
    exact FS8
abbrev w_X11_breath : List (Nat × Nat × Nat) := [(0, 5, 3), (0, 7, 1), (0, 7, 2), (0, 9, 0), (0, 9, 1), (0, 9, 2), (0, 9, 3), (0, 9, 4), (0, 9, 5), (0, 9, 6), (0, 9, 7), (4, 23, 0), (4, 31, 0), (4, 32, 0), (4, 33, 0), (4, 38, 0), (4, 39, 0)]
set_option maxRecDepth 100000 in
theorem fr_X11_breath {S : AS} {Z : AS} {r : Int32} (h : f_X11_breath S = some (r, Z)) : ax_fr w_X11_breath S Z := by
  unfold f_X11_breath at h
  obtain ⟨r4, S1, hq1, h⟩ := ax_bu_e h
  have FS1 : ax_fr w_X11_breath S S1 := (ax_fr.rf).tr ((fr_X11_act hq1).mono (by decide))
  by_cases c2 : r4 = (0 : Int32)
  · rw [if_pos c2] at h
    cases h
    exact FS1
  · rw [if_neg c2] at h
    cases h
    exact FS1
abbrev w_X11_day : List (Nat × Nat × Nat) := [(0, 5, 3), (0, 7, 1), (0, 7, 2), (0, 9, 0), (0, 9, 1), (0, 9, 2), (0, 9, 3), (0, 9, 4), (0, 9, 5), (0, 9, 6), (0, 9, 7), (4, 23, 0), (4, 31, 0), (4, 32, 0), (4, 33, 0), (4, 38, 0), (4, 39, 0)]
set_option maxRecDepth 100000 in
theorem fr_X11_day {S : AS} {Z : AS} {r : Int32} (h : f_X11_day S = some (r, Z)) : ax_fr w_X11_day S Z := by
  unfold f_X11_day at h
  obtain ⟨r4, S1, hq1, h⟩ := ax_bu_e h
  have FS1 : ax_fr w_X11_day S S1 := (ax_fr.rf).tr ((fr_X11_act hq1).mono (by decide))
  by_cases c2 : r4 = (0 : Int32)
  · rw [if_pos c2] at h
    cases h
    exact FS1
  · rw [if_neg c2] at h
    cases h
    exact FS1
abbrev w_X11_drop : List (Nat × Nat × Nat) := [(0, 5, 3), (0, 7, 1), (0, 7, 2), (0, 9, 0), (0, 9, 1), (0, 9, 2), (0, 9, 3), (0, 9, 4), (0, 9, 5), (0, 9, 6), (0, 9, 7), (4, 23, 0), (4, 31, 0), (4, 32, 0), (4, 33, 0), (4, 38, 0), (4, 39, 0)]
set_option maxRecDepth 100000 in
theorem fr_X11_drop {a1 : Int32} {S : AS} {Z : AS} {r : Int32} (h : f_X11_drop a1 S = some (r, Z)) : ax_fr w_X11_drop S Z := by
  unfold f_X11_drop at h
  obtain ⟨r4, S1, hq1, h⟩ := ax_bu_e h
  have FS1 : ax_fr w_X11_drop S S1 := (ax_fr.rf).tr ((fr_X11_act hq1).mono (by decide))
  by_cases c2 : r4 = (0 : Int32)
  · rw [if_pos c2] at h
    cases h
    exact FS1
  · rw [if_neg c2] at h
    obtain ⟨r9, _, h⟩ := ax_bd_e h
    cases h
    exact FS1
abbrev w_X10_cut : List (Nat × Nat × Nat) := [(0, 10, 1)]
set_option maxRecDepth 100000 in
theorem fr_X10_cut {a1 : Int32} {S : AS} {Z : AS} {r : Int32} (h : f_X10_cut a1 S = some (r, Z)) : ax_fr w_X10_cut S Z := by
  unfold f_X10_cut at h
  by_cases c1 : a1 < (0 : Int32)
  · rw [if_pos c1] at h
    cases h
    exact ax_fr.rf
  · rw [if_neg c1] at h
    by_cases c2 : a1 ≤ (ax_fi S 10 0 1)
    · rw [if_pos c2] at h
      obtain ⟨S3, eS3, h⟩ := ax_let_e h
      have FS3 : ax_fr w_X10_cut S S3 := eS3 ▸ (ax_fr.rf).tr (ax_fr_sfi (by decide))
      cases h
      exact FS3
    · rw [if_neg c2] at h
      cases h
      exact ax_fr.rf
abbrev w_X11_end : List (Nat × Nat × Nat) := [(0, 10, 1)]
set_option maxRecDepth 100000 in
theorem fr_X11_end {a1 : Int32} {S : AS} {Z : AS} {r : Int32} (h : f_X11_end a1 S = some (r, Z)) : ax_fr w_X11_end S Z := by
  unfold f_X11_end at h
  obtain ⟨r4, S1, hq1, h⟩ := ax_bu_e h
  have FS1 : ax_fr w_X11_end S S1 := (ax_fr.rf).tr ((fr_X10_cut hq1).mono (by decide))
  obtain ⟨_, h⟩ := ax_gd_e h
  cases h
  exact FS1
abbrev w_X10_rewind : List (Nat × Nat × Nat) := [(0, 10, 2), (0, 10, 3)]
set_option maxRecDepth 100000 in
theorem fr_X10_rewind {S : AS} {Z : AS} (h : f_X10_rewind S = some Z) : ax_fr w_X10_rewind S Z := by
  unfold f_X10_rewind at h
  obtain ⟨S1, eS1, h⟩ := ax_let_e h
  have FS1 : ax_fr w_X10_rewind S S1 := eS1 ▸ (ax_fr.rf).tr (ax_fr_sfi (by decide))
  obtain ⟨S2, eS2, h⟩ := ax_let_e h
  have FS2 : ax_fr w_X10_rewind S S2 := eS2 ▸ (FS1).tr (ax_fr_sfi (by decide))
  cases h
  exact FS2
abbrev w_X10_peek : List (Nat × Nat × Nat) := [(0, 10, 2)]
set_option maxRecDepth 100000 in
theorem fl_X10_peek_L10 {K48 : AS → Option (Int32 × AS)} (hK48 : ∀ (x0 : AS) r Z, K48 x0 = some (r, Z) → ax_fr w_X10_peek x0 Z) : ∀ (n : Nat) (S2 : AS) r Z, f_X10_peek_L10 K48 n S2 = some (r, Z) → ax_fr w_X10_peek S2 Z := by
  intro n
  induction n with
  | zero =>
    intro S2 r Z h
    cases h
  | succ n ih =>
    intro S2 r Z h
    unfold f_X10_peek_L10 at h
    by_cases c1 : (ax_fi S2 10 0 1) ≤ (ax_fi S2 10 0 2)
    · rw [if_pos c1] at h
      exact (ax_fr.rf).tr (hK48 S2 _ _ h)
    · rw [if_neg c1] at h
      obtain ⟨_, h⟩ := ax_gd_e h
      by_cases c2 : (ax_ai S2 40 0 (ax_fi S2 10 0 2).toNatClampNeg) = (32 : Int32)
      · rw [if_pos c2] at h
        obtain ⟨S6, eS6, h⟩ := ax_let_e h
        have FS6 : ax_fr w_X10_peek S2 S6 := eS6 ▸ (ax_fr.rf).tr (ax_fr_sfi (by decide))
        exact (FS6).tr (ih S6 _ _ h)
      · rw [if_neg c2] at h
        exact (ax_fr.rf).tr (hK48 S2 _ _ h)
set_option maxRecDepth 100000 in
theorem fr_X10_peek {S : AS} {Z : AS} {r : Int32} (h : f_X10_peek S = some (r, Z)) : ax_fr w_X10_peek S Z := by
  unfold f_X10_peek at h
  by_cases c3 : (ax_fi S 10 0 3) = (Int32.ofInt (-1))
  · rw [if_pos c3] at h
    refine (ax_fr.rf).tr (fl_X10_peek_L10 ?_ _ S _ _ h)
    · intro S7 r Z h
      by_cases c4 : (ax_fi S7 10 0 1) ≤ (ax_fi S7 10 0 2)
      · rw [if_pos c4] at h
        cases h
        exact ax_fr.rf
      · rw [if_neg c4] at h
        obtain ⟨_, h⟩ := ax_gd_e h
        cases h
        exact ax_fr.rf
  · rw [if_neg c3] at h
    cases h
    exact ax_fr.rf
abbrev w_X10_pass : List (Nat × Nat × Nat) := [(0, 10, 2)]
set_option maxRecDepth 100000 in
theorem fr_X10_pass {S : AS} {Z : AS} (h : f_X10_pass S = some Z) : ax_fr w_X10_pass S Z := by
  unfold f_X10_pass at h
  by_cases c1 : (ax_fi S 10 0 1) ≤ (ax_fi S 10 0 2)
  · rw [if_pos c1] at h
    cases h
    exact ax_fr.rf
  · rw [if_neg c1] at h
    obtain ⟨S2, eS2, h⟩ := ax_let_e h
    have FS2 : ax_fr w_X10_pass S S2 := eS2 ▸ (ax_fr.rf).tr (ax_fr_sfi (by decide))
    cases h
    exact FS2
abbrev w_X10_fail : List (Nat × Nat × Nat) := [(0, 10, 3)]
set_option maxRecDepth 100000 in
theorem fr_X10_fail {S : AS} {Z : AS} (h : f_X10_fail S = some Z) : ax_fr w_X10_fail S Z := by
  unfold f_X10_fail at h
  by_cases c1 : (ax_fi S 10 0 3) = (Int32.ofInt (-1))
  · rw [if_pos c1] at h
    obtain ⟨S2, eS2, h⟩ := ax_let_e h
    have FS2 : ax_fr w_X10_fail S S2 := eS2 ▸ (ax_fr.rf).tr (ax_fr_sfi (by decide))
    cases h
    exact FS2
  · rw [if_neg c1] at h
    cases h
    exact ax_fr.rf
abbrev w_X10_number : List (Nat × Nat × Nat) := [(0, 10, 2), (0, 10, 3)]
set_option maxRecDepth 100000 in
theorem fl_X10_number_L20 {K64 : Int32 → AS → Option (Int32 × AS)} (hK64 : ∀ (x0 : Int32) (x1 : AS) r Z, K64 x0 x1 = some (r, Z) → ax_fr w_X10_number x1 Z) : ∀ (n : Nat) (x10 : Int32) (x11 : Int32) (x12 : Int32) (S14 : AS) r Z, f_X10_number_L20 K64 n x10 x11 x12 S14 = some (r, Z) → ax_fr w_X10_number S14 Z := by
  intro n
  induction n with
  | zero =>
    intro x10 x11 x12 S14 r Z h
    cases h
  | succ n ih =>
    intro x10 x11 x12 S14 r Z h
    unfold f_X10_number_L20 at h
    by_cases c1 : x10 ≤ x12
    · rw [if_pos c1] at h
      exact (ax_fr.rf).tr (hK64 x11 S14 _ _ h)
    · rw [if_neg c1] at h
      obtain ⟨r19, _, h⟩ := ax_bd_e h
      obtain ⟨r23, _, h⟩ := ax_bd_e h
      by_cases c4 : r23 = (0 : Int32)
      · rw [if_pos c4] at h
        exact (ax_fr.rf).tr (hK64 x11 S14 _ _ h)
      · rw [if_neg c4] at h
        obtain ⟨r28, _, h⟩ := ax_bd_e h
        obtain ⟨v29, _, h⟩ := ax_let_e h
        obtain ⟨S30, eS30, h⟩ := ax_let_e h
        have FS30 : ax_fr w_X10_number S14 S30 := eS30 ▸ (ax_fr.rf).tr (ax_fr_sfi (by decide))
        obtain ⟨v31, _, h⟩ := ax_let_e h
        exact (FS30).tr (ih x10 v29 v31 S30 _ _ h)
set_option maxRecDepth 100000 in
theorem fr_X10_number {a1 : Int32} {S : AS} {Z : AS} {r : Int32} (h : f_X10_number a1 S = some (r, Z)) : ax_fr w_X10_number S Z := by
  unfold f_X10_number at h
  obtain ⟨r4, S1, hq6, h⟩ := ax_bu_e h
  have FS1 : ax_fr w_X10_number S S1 := (ax_fr.rf).tr ((fr_X10_peek hq6).mono (by decide))
  obtain ⟨r8, _, h⟩ := ax_bd_e h
  by_cases c8 : r8 = (0 : Int32)
  · rw [if_pos c8] at h
    obtain ⟨S45, hq9, h⟩ := ax_bd_e h
    have FS45 : ax_fr w_X10_number S S45 := (FS1).tr ((fr_X10_fail hq9).mono (by decide))
    cases h
    exact FS45
  · rw [if_neg c8] at h
    refine (FS1).tr (fl_X10_number_L20 ?_ _ a1 (0 : Int32) (0 : Int32) S1 _ _ h)
    · intro x13 S32 r Z h
      obtain ⟨r36, _, h⟩ := ax_bd_e h
      obtain ⟨r40, _, h⟩ := ax_bd_e h
      by_cases c12 : r40 = (0 : Int32)
      · rw [if_pos c12] at h
        cases h
        exact ax_fr.rf
      · rw [if_neg c12] at h
        obtain ⟨S42, hq13, h⟩ := ax_bd_e h
        have FS42 : ax_fr w_X10_number S32 S42 := (ax_fr.rf).tr ((fr_X10_fail hq13).mono (by decide))
        cases h
        exact FS42
abbrev w_X10_failAtLastDigit : List (Nat × Nat × Nat) := [(0, 10, 3)]
set_option maxRecDepth 100000 in
theorem fr_X10_failAtLastDigit {S : AS} {Z : AS} (h : f_X10_failAtLastDigit S = some Z) : ax_fr w_X10_failAtLastDigit S Z := by
  unfold f_X10_failAtLastDigit at h
  by_cases c1 : (ax_fi S 10 0 3) = (Int32.ofInt (-1))
  · rw [if_pos c1] at h
    obtain ⟨S2, eS2, h⟩ := ax_let_e h
    have FS2 : ax_fr w_X10_failAtLastDigit S S2 := eS2 ▸ (ax_fr.rf).tr (ax_fr_sfi (by decide))
    cases h
    exact FS2
  · rw [if_neg c1] at h
    cases h
    exact ax_fr.rf
abbrev w_X4_readItems_64x1_66x4_66x5_28 : List (Nat × Nat × Nat) := [(0, 10, 2), (0, 10, 3), (4, 28, 0)]
set_option maxRecDepth 100000 in
theorem fl_X4_readItems_64x1_66x4_66x5_28_L6 : ∀ (n : Nat) (y1 : Nat) (x2 : Int32) (x3 : Int32) (x4 : Int32) (S5 : AS) Z, f_X4_readItems_64x1_66x4_66x5_28_L6 n y1 x2 x3 x4 S5 = some Z → ax_fr w_X4_readItems_64x1_66x4_66x5_28 S5 Z := by
  intro n
  induction n with
  | zero =>
    intro y1 x2 x3 x4 S5 Z h
    cases h
  | succ n ih =>
    intro y1 x2 x3 x4 S5 Z h
    unfold f_X4_readItems_64x1_66x4_66x5_28_L6 at h
    by_cases c1 : ((Int32.ofNat 2) >>> ((0 : Int32) &&& 31)) < x4
    · rw [if_pos c1] at h
      cases h
      exact ax_fr.rf
    · rw [if_neg c1] at h
      obtain ⟨r13, S10, hq2, h⟩ := ax_bu_e h
      have FS10 : ax_fr w_X4_readItems_64x1_66x4_66x5_28 S5 S10 := (ax_fr.rf).tr ((fr_X10_peek hq2).mono (by decide))
      obtain ⟨r17, _, h⟩ := ax_bd_e h
      by_cases c4 : (0 : Int32) ≤ r17
      · rw [if_pos c4] at h
        by_cases c5 : ((x3 >>> (r17 &&& 31)) &&& (1 : Int32)) = (0 : Int32)
        · rw [if_pos c5] at h
          obtain ⟨v20, _, h⟩ := ax_let_e h
          obtain ⟨S21, hq6, h⟩ := ax_bd_e h
          have FS21 : ax_fr w_X4_readItems_64x1_66x4_66x5_28 S5 S21 := (FS10).tr ((fr_X10_pass hq6).mono (by decide))
          obtain ⟨r27, S24, hq7, h⟩ := ax_bu_e h
          have FS24 : ax_fr w_X4_readItems_64x1_66x4_66x5_28 S5 S24 := (FS21).tr ((fr_X10_number hq7).mono (by decide))
          obtain ⟨r31, _, h⟩ := ax_bd_e h
          by_cases c9 : r31 = (0 : Int32)
          · rw [if_pos c9] at h
            obtain ⟨_, h⟩ := ax_gd_e h
            by_cases c10 : r27 < (ax_rd S24 66 4 r17.toNatClampNeg)
            · rw [if_pos c10] at h
              obtain ⟨S35, hq11, h⟩ := ax_bd_e h
              have FS35 : ax_fr w_X4_readItems_64x1_66x4_66x5_28 S5 S35 := (FS24).tr ((fr_X10_failAtLastDigit hq11).mono (by decide))
              cases h
              exact FS35
            · rw [if_neg c10] at h
              obtain ⟨_, h⟩ := ax_gd_e h
              by_cases c12 : r27 ≤ (ax_rd S24 66 5 r17.toNatClampNeg)
              · rw [if_pos c12] at h
                obtain ⟨_, h⟩ := ax_gd_e h
                obtain ⟨S41, eS41, h⟩ := ax_let_e h
                have FS41 : ax_fr w_X4_readItems_64x1_66x4_66x5_28 S5 S41 := eS41 ▸ (FS24).tr (ax_fr_sai (by decide))
                obtain ⟨v42, _, h⟩ := ax_let_e h
                exact (FS41).tr (ih y1 x2 v20 v42 S41 _ h)
              · rw [if_neg c12] at h
                obtain ⟨S43, hq13, h⟩ := ax_bd_e h
                have FS43 : ax_fr w_X4_readItems_64x1_66x4_66x5_28 S5 S43 := (FS24).tr ((fr_X10_failAtLastDigit hq13).mono (by decide))
                cases h
                exact FS43
          · rw [if_neg c9] at h
            cases h
            exact FS24
        · rw [if_neg c5] at h
          obtain ⟨S46, hq14, h⟩ := ax_bd_e h
          have FS46 : ax_fr w_X4_readItems_64x1_66x4_66x5_28 S5 S46 := (FS10).tr ((fr_X10_fail hq14).mono (by decide))
          cases h
          exact FS46
      · rw [if_neg c4] at h
        cases h
        exact FS10
set_option maxRecDepth 100000 in
theorem fr_X4_readItems_64x1_66x4_66x5_28 {i4 : Nat} {a5 : Int32} {S : AS} {Z : AS} (h : f_X4_readItems_64x1_66x4_66x5_28 i4 a5 S = some Z) : ax_fr w_X4_readItems_64x1_66x4_66x5_28 S Z := by
  unfold f_X4_readItems_64x1_66x4_66x5_28 at h
  refine (ax_fr.rf).tr (fl_X4_readItems_64x1_66x4_66x5_28_L6 _ i4 a5 (0 : Int32) (0 : Int32) S _ h)
abbrev w_X4_readLodger : List (Nat × Nat × Nat) := [(0, 4, 4), (0, 10, 2), (0, 10, 3), (4, 28, 0)]
set_option maxRecDepth 100000 in
theorem fr_X4_readLodger {i0 : Nat} {S : AS} {Z : AS} (h : f_X4_readLodger i0 S = some Z) : ax_fr w_X4_readLodger S Z := by
  unfold f_X4_readLodger at h
  by_cases c1 : (ax_fi S 4 i0 4) < (4 : Int32)
  · rw [if_pos c1] at h
    obtain ⟨S2, hq2, h⟩ := ax_bd_e h
    have FS2 : ax_fr w_X4_readLodger S S2 := (ax_fr.rf).tr ((fr_X10_pass hq2).mono (by decide))
    obtain ⟨v5, _, h⟩ := ax_let_e h
    obtain ⟨_, h⟩ := ax_gd_e h
    obtain ⟨S7, eS7, h⟩ := ax_let_e h
    have FS7 : ax_fr w_X4_readLodger S S7 := eS7 ▸ (FS2).tr (ax_fr_cpy (by decide))
    obtain ⟨S8, eS8, h⟩ := ax_let_e h
    have FS8 : ax_fr w_X4_readLodger S S8 := eS8 ▸ (FS7).tr (ax_fr_sfi (by decide))
    obtain ⟨S9, hq3, h⟩ := ax_bd_e h
    have FS9 : ax_fr w_X4_readLodger S S9 := (FS8).tr ((fr_X4_readItems_64x1_66x4_66x5_28 hq3).mono (by decide))
    cases h
    exact FS9
  · rw [if_neg c1] at h
    obtain ⟨S12, hq4, h⟩ := ax_bd_e h
    have FS12 : ax_fr w_X4_readLodger S S12 := (ax_fr.rf).tr ((fr_X10_fail hq4).mono (by decide))
    cases h
    exact FS12
abbrev w_X4_readItems_64x0_66x1_66x2_27 : List (Nat × Nat × Nat) := [(0, 10, 2), (0, 10, 3), (4, 27, 0)]
set_option maxRecDepth 100000 in
theorem fl_X4_readItems_64x0_66x1_66x2_27_L6 : ∀ (n : Nat) (y1 : Nat) (x2 : Int32) (x3 : Int32) (x4 : Int32) (S5 : AS) Z, f_X4_readItems_64x0_66x1_66x2_27_L6 n y1 x2 x3 x4 S5 = some Z → ax_fr w_X4_readItems_64x0_66x1_66x2_27 S5 Z := by
  intro n
  induction n with
  | zero =>
    intro y1 x2 x3 x4 S5 Z h
    cases h
  | succ n ih =>
    intro y1 x2 x3 x4 S5 Z h
    unfold f_X4_readItems_64x0_66x1_66x2_27_L6 at h
    by_cases c1 : ((Int32.ofNat 3) >>> ((0 : Int32) &&& 31)) < x4
    · rw [if_pos c1] at h
      cases h
      exact ax_fr.rf
    · rw [if_neg c1] at h
      obtain ⟨r13, S10, hq2, h⟩ := ax_bu_e h
      have FS10 : ax_fr w_X4_readItems_64x0_66x1_66x2_27 S5 S10 := (ax_fr.rf).tr ((fr_X10_peek hq2).mono (by decide))
      obtain ⟨r17, _, h⟩ := ax_bd_e h
      by_cases c4 : (0 : Int32) ≤ r17
      · rw [if_pos c4] at h
        by_cases c5 : ((x3 >>> (r17 &&& 31)) &&& (1 : Int32)) = (0 : Int32)
        · rw [if_pos c5] at h
          obtain ⟨v20, _, h⟩ := ax_let_e h
          obtain ⟨S21, hq6, h⟩ := ax_bd_e h
          have FS21 : ax_fr w_X4_readItems_64x0_66x1_66x2_27 S5 S21 := (FS10).tr ((fr_X10_pass hq6).mono (by decide))
          obtain ⟨r27, S24, hq7, h⟩ := ax_bu_e h
          have FS24 : ax_fr w_X4_readItems_64x0_66x1_66x2_27 S5 S24 := (FS21).tr ((fr_X10_number hq7).mono (by decide))
          obtain ⟨r31, _, h⟩ := ax_bd_e h
          by_cases c9 : r31 = (0 : Int32)
          · rw [if_pos c9] at h
            obtain ⟨_, h⟩ := ax_gd_e h
            by_cases c10 : r27 < (ax_rd S24 66 1 r17.toNatClampNeg)
            · rw [if_pos c10] at h
              obtain ⟨S35, hq11, h⟩ := ax_bd_e h
              have FS35 : ax_fr w_X4_readItems_64x0_66x1_66x2_27 S5 S35 := (FS24).tr ((fr_X10_failAtLastDigit hq11).mono (by decide))
              cases h
              exact FS35
            · rw [if_neg c10] at h
              obtain ⟨_, h⟩ := ax_gd_e h
              by_cases c12 : r27 ≤ (ax_rd S24 66 2 r17.toNatClampNeg)
              · rw [if_pos c12] at h
                obtain ⟨_, h⟩ := ax_gd_e h
                obtain ⟨S41, eS41, h⟩ := ax_let_e h
                have FS41 : ax_fr w_X4_readItems_64x0_66x1_66x2_27 S5 S41 := eS41 ▸ (FS24).tr (ax_fr_sai (by decide))
                obtain ⟨v42, _, h⟩ := ax_let_e h
                exact (FS41).tr (ih y1 x2 v20 v42 S41 _ h)
              · rw [if_neg c12] at h
                obtain ⟨S43, hq13, h⟩ := ax_bd_e h
                have FS43 : ax_fr w_X4_readItems_64x0_66x1_66x2_27 S5 S43 := (FS24).tr ((fr_X10_failAtLastDigit hq13).mono (by decide))
                cases h
                exact FS43
          · rw [if_neg c9] at h
            cases h
            exact FS24
        · rw [if_neg c5] at h
          obtain ⟨S46, hq14, h⟩ := ax_bd_e h
          have FS46 : ax_fr w_X4_readItems_64x0_66x1_66x2_27 S5 S46 := (FS10).tr ((fr_X10_fail hq14).mono (by decide))
          cases h
          exact FS46
      · rw [if_neg c4] at h
        cases h
        exact FS10
set_option maxRecDepth 100000 in
theorem fr_X4_readItems_64x0_66x1_66x2_27 {i4 : Nat} {a5 : Int32} {S : AS} {Z : AS} (h : f_X4_readItems_64x0_66x1_66x2_27 i4 a5 S = some Z) : ax_fr w_X4_readItems_64x0_66x1_66x2_27 S Z := by
  unfold f_X4_readItems_64x0_66x1_66x2_27 at h
  refine (ax_fr.rf).tr (fl_X4_readItems_64x0_66x1_66x2_27_L6 _ i4 a5 (0 : Int32) (0 : Int32) S _ h)
abbrev w_X4_readRules : List (Nat × Nat × Nat) := [(0, 4, 3), (0, 10, 2), (0, 10, 3), (4, 27, 0)]
set_option maxRecDepth 100000 in
theorem fr_X4_readRules {i0 : Nat} {S : AS} {Z : AS} (h : f_X4_readRules i0 S = some Z) : ax_fr w_X4_readRules S Z := by
  unfold f_X4_readRules at h
  by_cases c1 : (ax_fi S 4 i0 3) = (0 : Int32)
  · rw [if_pos c1] at h
    obtain ⟨S2, eS2, h⟩ := ax_let_e h
    have FS2 : ax_fr w_X4_readRules S S2 := eS2 ▸ (ax_fr.rf).tr (ax_fr_sfi (by decide))
    obtain ⟨S3, hq2, h⟩ := ax_bd_e h
    have FS3 : ax_fr w_X4_readRules S S3 := (FS2).tr ((fr_X10_pass hq2).mono (by decide))
    obtain ⟨S6, hq3, h⟩ := ax_bd_e h
    have FS6 : ax_fr w_X4_readRules S S6 := (FS3).tr ((fr_X4_readItems_64x0_66x1_66x2_27 hq3).mono (by decide))
    cases h
    exact FS6
  · rw [if_neg c1] at h
    obtain ⟨S9, hq4, h⟩ := ax_bd_e h
    have FS9 : ax_fr w_X4_readRules S S9 := (ax_fr.rf).tr ((fr_X10_fail hq4).mono (by decide))
    cases h
    exact FS9
abbrev w_X4_readItems_64x2_66x7_66x8_29 : List (Nat × Nat × Nat) := [(0, 10, 2), (0, 10, 3), (4, 29, 0)]
set_option maxRecDepth 100000 in
theorem fl_X4_readItems_64x2_66x7_66x8_29_L6 : ∀ (n : Nat) (y1 : Nat) (x2 : Int32) (x3 : Int32) (x4 : Int32) (S5 : AS) Z, f_X4_readItems_64x2_66x7_66x8_29_L6 n y1 x2 x3 x4 S5 = some Z → ax_fr w_X4_readItems_64x2_66x7_66x8_29 S5 Z := by
  intro n
  induction n with
  | zero =>
    intro y1 x2 x3 x4 S5 Z h
    cases h
  | succ n ih =>
    intro y1 x2 x3 x4 S5 Z h
    unfold f_X4_readItems_64x2_66x7_66x8_29_L6 at h
    by_cases c1 : ((Int32.ofNat 7) >>> ((0 : Int32) &&& 31)) < x4
    · rw [if_pos c1] at h
      cases h
      exact ax_fr.rf
    · rw [if_neg c1] at h
      obtain ⟨r13, S10, hq2, h⟩ := ax_bu_e h
      have FS10 : ax_fr w_X4_readItems_64x2_66x7_66x8_29 S5 S10 := (ax_fr.rf).tr ((fr_X10_peek hq2).mono (by decide))
      obtain ⟨r17, _, h⟩ := ax_bd_e h
      by_cases c4 : (0 : Int32) ≤ r17
      · rw [if_pos c4] at h
        by_cases c5 : ((x3 >>> (r17 &&& 31)) &&& (1 : Int32)) = (0 : Int32)
        · rw [if_pos c5] at h
          obtain ⟨v20, _, h⟩ := ax_let_e h
          obtain ⟨S21, hq6, h⟩ := ax_bd_e h
          have FS21 : ax_fr w_X4_readItems_64x2_66x7_66x8_29 S5 S21 := (FS10).tr ((fr_X10_pass hq6).mono (by decide))
          obtain ⟨r27, S24, hq7, h⟩ := ax_bu_e h
          have FS24 : ax_fr w_X4_readItems_64x2_66x7_66x8_29 S5 S24 := (FS21).tr ((fr_X10_number hq7).mono (by decide))
          obtain ⟨r31, _, h⟩ := ax_bd_e h
          by_cases c9 : r31 = (0 : Int32)
          · rw [if_pos c9] at h
            obtain ⟨_, h⟩ := ax_gd_e h
            by_cases c10 : r27 < (ax_rd S24 66 7 r17.toNatClampNeg)
            · rw [if_pos c10] at h
              obtain ⟨S35, hq11, h⟩ := ax_bd_e h
              have FS35 : ax_fr w_X4_readItems_64x2_66x7_66x8_29 S5 S35 := (FS24).tr ((fr_X10_failAtLastDigit hq11).mono (by decide))
              cases h
              exact FS35
            · rw [if_neg c10] at h
              obtain ⟨_, h⟩ := ax_gd_e h
              by_cases c12 : r27 ≤ (ax_rd S24 66 8 r17.toNatClampNeg)
              · rw [if_pos c12] at h
                obtain ⟨_, h⟩ := ax_gd_e h
                obtain ⟨S41, eS41, h⟩ := ax_let_e h
                have FS41 : ax_fr w_X4_readItems_64x2_66x7_66x8_29 S5 S41 := eS41 ▸ (FS24).tr (ax_fr_sai (by decide))
                obtain ⟨v42, _, h⟩ := ax_let_e h
                exact (FS41).tr (ih y1 x2 v20 v42 S41 _ h)
              · rw [if_neg c12] at h
                obtain ⟨S43, hq13, h⟩ := ax_bd_e h
                have FS43 : ax_fr w_X4_readItems_64x2_66x7_66x8_29 S5 S43 := (FS24).tr ((fr_X10_failAtLastDigit hq13).mono (by decide))
                cases h
                exact FS43
          · rw [if_neg c9] at h
            cases h
            exact FS24
        · rw [if_neg c5] at h
          obtain ⟨S46, hq14, h⟩ := ax_bd_e h
          have FS46 : ax_fr w_X4_readItems_64x2_66x7_66x8_29 S5 S46 := (FS10).tr ((fr_X10_fail hq14).mono (by decide))
          cases h
          exact FS46
      · rw [if_neg c4] at h
        cases h
        exact FS10
set_option maxRecDepth 100000 in
theorem fr_X4_readItems_64x2_66x7_66x8_29 {i4 : Nat} {a5 : Int32} {S : AS} {Z : AS} (h : f_X4_readItems_64x2_66x7_66x8_29 i4 a5 S = some Z) : ax_fr w_X4_readItems_64x2_66x7_66x8_29 S Z := by
  unfold f_X4_readItems_64x2_66x7_66x8_29 at h
  refine (ax_fr.rf).tr (fl_X4_readItems_64x2_66x7_66x8_29_L6 _ i4 a5 (0 : Int32) (0 : Int32) S _ h)
abbrev w_X4_readCaller : List (Nat × Nat × Nat) := [(0, 4, 5), (0, 10, 2), (0, 10, 3), (4, 29, 0)]
set_option maxRecDepth 100000 in
theorem fr_X4_readCaller {i0 : Nat} {S : AS} {Z : AS} (h : f_X4_readCaller i0 S = some Z) : ax_fr w_X4_readCaller S Z := by
  unfold f_X4_readCaller at h
  by_cases c1 : (ax_fi S 4 i0 5) < (6 : Int32)
  · rw [if_pos c1] at h
    obtain ⟨S2, hq2, h⟩ := ax_bd_e h
    have FS2 : ax_fr w_X4_readCaller S S2 := (ax_fr.rf).tr ((fr_X10_pass hq2).mono (by decide))
    obtain ⟨v5, _, h⟩ := ax_let_e h
    obtain ⟨_, h⟩ := ax_gd_e h
    obtain ⟨S7, eS7, h⟩ := ax_let_e h
    have FS7 : ax_fr w_X4_readCaller S S7 := eS7 ▸ (FS2).tr (ax_fr_cpy (by decide))
    obtain ⟨S8, eS8, h⟩ := ax_let_e h
    have FS8 : ax_fr w_X4_readCaller S S8 := eS8 ▸ (FS7).tr (ax_fr_sfi (by decide))
    obtain ⟨S9, hq3, h⟩ := ax_bd_e h
    have FS9 : ax_fr w_X4_readCaller S S9 := (FS8).tr ((fr_X4_readItems_64x2_66x7_66x8_29 hq3).mono (by decide))
    cases h
    exact FS9
  · rw [if_neg c1] at h
    obtain ⟨S12, hq4, h⟩ := ax_bd_e h
    have FS12 : ax_fr w_X4_readCaller S S12 := (ax_fr.rf).tr ((fr_X10_fail hq4).mono (by decide))
    cases h
    exact FS12
abbrev w_X4_readClause : List (Nat × Nat × Nat) := [(0, 4, 3), (0, 4, 4), (0, 4, 5), (0, 10, 2), (0, 10, 3), (4, 27, 0), (4, 28, 0), (4, 29, 0)]
set_option maxRecDepth 100000 in
theorem fr_X4_readClause {i0 : Nat} {S : AS} {Z : AS} (h : f_X4_readClause i0 S = some Z) : ax_fr w_X4_readClause S Z := by
  unfold f_X4_readClause at h
  obtain ⟨r4, S1, hq1, h⟩ := ax_bu_e h
  have FS1 : ax_fr w_X4_readClause S S1 := (ax_fr.rf).tr ((fr_X10_peek hq1).mono (by decide))
  by_cases c2 : r4 = (108 : Int32)
  · rw [if_pos c2] at h
    obtain ⟨S6, hq3, h⟩ := ax_bd_e h
    have FS6 : ax_fr w_X4_readClause S S6 := (FS1).tr ((fr_X4_readLodger hq3).mono (by decide))
    cases h
    exact FS6
  · rw [if_neg c2] at h
    by_cases c4 : r4 = (115 : Int32)
    · rw [if_pos c4] at h
      obtain ⟨S10, hq5, h⟩ := ax_bd_e h
      have FS10 : ax_fr w_X4_readClause S S10 := (FS1).tr ((fr_X4_readRules hq5).mono (by decide))
      cases h
      exact FS10
    · rw [if_neg c4] at h
      by_cases c6 : r4 = (118 : Int32)
      · rw [if_pos c6] at h
        obtain ⟨S14, hq7, h⟩ := ax_bd_e h
        have FS14 : ax_fr w_X4_readClause S S14 := (FS1).tr ((fr_X4_readCaller hq7).mono (by decide))
        cases h
        exact FS14
      · rw [if_neg c6] at h
        obtain ⟨S17, hq8, h⟩ := ax_bd_e h
        have FS17 : ax_fr w_X4_readClause S S17 := (FS1).tr ((fr_X10_fail hq8).mono (by decide))
        cases h
        exact FS17
abbrev w_X10_demand : List (Nat × Nat × Nat) := [(0, 10, 2), (0, 10, 3)]
set_option maxRecDepth 100000 in
theorem fr_X10_demand {a1 : Int32} {S : AS} {Z : AS} (h : f_X10_demand a1 S = some Z) : ax_fr w_X10_demand S Z := by
  unfold f_X10_demand at h
  obtain ⟨r4, S1, hq1, h⟩ := ax_bu_e h
  have FS1 : ax_fr w_X10_demand S S1 := (ax_fr.rf).tr ((fr_X10_peek hq1).mono (by decide))
  by_cases c2 : r4 = a1
  · rw [if_pos c2] at h
    obtain ⟨S9, hq3, h⟩ := ax_bd_e h
    have FS9 : ax_fr w_X10_demand S S9 := (FS1).tr ((fr_X10_pass hq3).mono (by decide))
    cases h
    exact FS9
  · rw [if_neg c2] at h
    obtain ⟨S6, hq4, h⟩ := ax_bd_e h
    have FS6 : ax_fr w_X10_demand S S6 := (FS1).tr ((fr_X10_fail hq4).mono (by decide))
    cases h
    exact FS6
abbrev w_X10_goesOn : List (Nat × Nat × Nat) := [(0, 10, 2), (0, 10, 3)]
set_option maxRecDepth 100000 in
theorem fr_X10_goesOn {S : AS} {Z : AS} {r : Int32} (h : f_X10_goesOn S = some (r, Z)) : ax_fr w_X10_goesOn S Z := by
  unfold f_X10_goesOn at h
  obtain ⟨r4, S1, hq1, h⟩ := ax_bu_e h
  have FS1 : ax_fr w_X10_goesOn S S1 := (ax_fr.rf).tr ((fr_X10_peek hq1).mono (by decide))
  by_cases c2 : r4 = (0 : Int32)
  · rw [if_pos c2] at h
    cases h
    exact FS1
  · rw [if_neg c2] at h
    obtain ⟨S6, hq3, h⟩ := ax_bd_e h
    have FS6 : ax_fr w_X10_goesOn S S6 := (FS1).tr ((fr_X10_demand hq3).mono (by decide))
    obtain ⟨r12, _, h⟩ := ax_bd_e h
    by_cases c5 : r12 = (0 : Int32)
    · rw [if_pos c5] at h
      cases h
      exact FS6
    · rw [if_neg c5] at h
      cases h
      exact FS6
abbrev w_X4_readFrom : List (Nat × Nat × Nat) := [(0, 4, 3), (0, 4, 4), (0, 4, 5), (0, 10, 2), (0, 10, 3), (4, 27, 0), (4, 28, 0), (4, 29, 0)]
set_option maxRecDepth 100000 in
theorem fl_X4_readFrom_L36 {K62 : Nat → AS → Option (Int32 × AS)} (hK62 : ∀ (x0 : Nat) (x1 : AS) r Z, K62 x0 x1 = some (r, Z) → ax_fr w_X4_readFrom x1 Z) : ∀ (n : Nat) (y9 : Nat) (x10 : Int32) (x11 : Int32) (S13 : AS) r Z, f_X4_readFrom_L36 K62 n y9 x10 x11 S13 = some (r, Z) → ax_fr w_X4_readFrom S13 Z := by
  intro n
  induction n with
  | zero =>
    intro y9 x10 x11 S13 r Z h
    cases h
  | succ n ih =>
    intro y9 x10 x11 S13 r Z h
    unfold f_X4_readFrom_L36 at h
    by_cases c1 : x10 = (0 : Int32)
    · rw [if_pos c1] at h
      exact (ax_fr.rf).tr (hK62 y9 S13 _ _ h)
    · rw [if_neg c1] at h
      by_cases c2 : (11 : Int32) < x11
      · rw [if_pos c2] at h
        exact (ax_fr.rf).tr (hK62 y9 S13 _ _ h)
      · rw [if_neg c2] at h
        obtain ⟨S16, hq3, h⟩ := ax_bd_e h
        have FS16 : ax_fr w_X4_readFrom S13 S16 := (ax_fr.rf).tr ((fr_X4_readClause hq3).mono (by decide))
        obtain ⟨r22, S19, hq4, h⟩ := ax_bu_e h
        have FS19 : ax_fr w_X4_readFrom S13 S19 := (FS16).tr ((fr_X10_goesOn hq4).mono (by decide))
        obtain ⟨v23, _, h⟩ := ax_let_e h
        exact (FS19).tr (ih y9 r22 v23 S19 _ _ h)
set_option maxRecDepth 100000 in
theorem fr_X4_readFrom {i0 : Nat} {S : AS} {Z : AS} {r : Int32} (h : f_X4_readFrom i0 S = some (r, Z)) : ax_fr w_X4_readFrom S Z := by
  unfold f_X4_readFrom at h
  obtain ⟨S1, eS1, h⟩ := ax_let_e h
  have FS1 : ax_fr w_X4_readFrom S S1 := eS1 ▸ (ax_fr.rf).tr (ax_fr_sfi (by decide))
  obtain ⟨S2, eS2, h⟩ := ax_let_e h
  have FS2 : ax_fr w_X4_readFrom S S2 := eS2 ▸ (FS1).tr (ax_fr_sfi (by decide))
  obtain ⟨S3, eS3, h⟩ := ax_let_e h
  have FS3 : ax_fr w_X4_readFrom S S3 := eS3 ▸ (FS2).tr (ax_fr_sfi (by decide))
  obtain ⟨_, h⟩ := ax_gd_e h
  obtain ⟨S5, eS5, h⟩ := ax_let_e h
  have FS5 : ax_fr w_X4_readFrom S S5 := eS5 ▸ (FS3).tr (ax_fr_cpy (by decide))
  obtain ⟨S6, hq5, h⟩ := ax_bd_e h
  have FS6 : ax_fr w_X4_readFrom S S6 := (FS5).tr ((fr_X10_rewind hq5).mono (by decide))
  refine (FS6).tr (fl_X4_readFrom_L36 ?_ _ i0 (1 : Int32) (0 : Int32) S6 _ _ h)
  · intro x12 S24 r Z h
    obtain ⟨r28, _, h⟩ := ax_bd_e h
    by_cases c7 : r28 = (0 : Int32)
    · rw [if_pos c7] at h
      obtain ⟨r36, _, h⟩ := ax_bd_e h
      by_cases c9 : r36 = (0 : Int32)
      · rw [if_pos c9] at h
        obtain ⟨S41, hq10, h⟩ := ax_bd_e h
        have FS41 : ax_fr w_X4_readFrom S24 S41 := (ax_fr.rf).tr ((fr_X10_fail hq10).mono (by decide))
        cases h
        exact FS41
      · rw [if_neg c9] at h
        cases h
        exact ax_fr.rf
    · rw [if_neg c7] at h
      cases h
      exact ax_fr.rf
abbrev w_X5_emit : List (Nat × Nat × Nat) := [(0, 5, 2), (4, 30, 0)]
set_option maxRecDepth 100000 in
theorem fr_X5_emit {i0 : Nat} {a1 : Int32} {a2 : Int32} {S : AS} {Z : AS} (h : f_X5_emit i0 a1 a2 S = some Z) : ax_fr w_X5_emit S Z := by
  unfold f_X5_emit at h
  by_cases c1 : (Int32.ofNat 241) ≤ (ax_fi S 5 i0 2)
  · rw [if_pos c1] at h
    cases h
    exact ax_fr.rf
  · rw [if_neg c1] at h
    obtain ⟨_, h⟩ := ax_gd_e h
    obtain ⟨S3, eS3, h⟩ := ax_let_e h
    have FS3 : ax_fr w_X5_emit S S3 := eS3 ▸ (ax_fr.rf).tr (ax_fr_sai (by decide))
    obtain ⟨S4, eS4, h⟩ := ax_let_e h
    have FS4 : ax_fr w_X5_emit S S4 := eS4 ▸ (FS3).tr (ax_fr_sfi (by decide))
    cases h
    exact FS4
abbrev w_Law : List (Nat × Nat × Nat) := [(0, 5, 2), (0, 10, 2), (0, 10, 3), (4, 30, 0)]
set_option maxRecDepth 100000 in
theorem fl_X5_readCondition_L10 {rec : Nat → Nat → Int32 → Int32 → AS → Option (AS)} (hr : ∀ (t : Nat) (i0 : Nat) (b0 : Int32) (b1 : Int32) (S : AS) Z, rec t i0 b0 b1 S = some Z → ax_fr w_Law S Z) {K51 : AS → Option (AS)} (hK51 : ∀ (x0 : AS) Z, K51 x0 = some Z → ax_fr w_Law x0 Z) : ∀ (n : Nat) (y4 : Nat) (x5 : Int32) (x6 : Int32) (S7 : AS) Z, f_X5_readCondition_L10 rec K51 n y4 x5 x6 S7 = some Z → ax_fr w_Law S7 Z := by
  intro n
  induction n with
  | zero =>
    intro y4 x5 x6 S7 Z h
    cases h
  | succ n ih =>
    intro y4 x5 x6 S7 Z h
    unfold f_X5_readCondition_L10 at h
    by_cases c1 : (240 : Int32) ≤ x6
    · rw [if_pos c1] at h
      exact (ax_fr.rf).tr (hK51 S7 _ h)
    · rw [if_neg c1] at h
      obtain ⟨r12, S9, hq2, h⟩ := ax_bu_e h
      have FS9 : ax_fr w_Law S7 S9 := (ax_fr.rf).tr ((fr_X10_peek hq2).mono (by decide))
      by_cases c3 : r12 = (124 : Int32)
      · rw [if_pos c3] at h
        obtain ⟨S14, hq4, h⟩ := ax_bd_e h
        have FS14 : ax_fr w_Law S7 S14 := (FS9).tr ((fr_X10_pass hq4).mono (by decide))
        obtain ⟨S17, hq5, h⟩ := ax_bd_e h
        have FS17 : ax_fr w_Law S7 S17 := (FS14).tr (hr 1 y4 x5 (0 : Int32) S14 _ hq5)
        obtain ⟨S20, hq6, h⟩ := ax_bd_e h
        have FS20 : ax_fr w_Law S7 S20 := (FS17).tr ((fr_X5_emit hq6).mono (by decide))
        obtain ⟨v23, _, h⟩ := ax_let_e h
        exact (FS20).tr (ih y4 x5 v23 S20 _ h)
      · rw [if_neg c3] at h
        exact (FS9).tr (hK51 S9 _ h)
set_option maxRecDepth 100000 in
theorem fr_b_X5_readCondition {rec : Nat → Nat → Int32 → Int32 → AS → Option (AS)} (hr : ∀ (t : Nat) (i0 : Nat) (b0 : Int32) (b1 : Int32) (S : AS) Z, rec t i0 b0 b1 S = some Z → ax_fr w_Law S Z) {i0 : Nat} {a2 : Int32} {a3 : Int32} {S : AS} {Z : AS} (h : b_X5_readCondition rec i0 a2 a3 S = some Z) : ax_fr w_Law S Z := by
  unfold b_X5_readCondition at h
  obtain ⟨S1, hq7, h⟩ := ax_bd_e h
  have FS1 : ax_fr w_Law S S1 := (ax_fr.rf).tr (hr 1 i0 a2 a3 S _ hq7)
  refine (FS1).tr (fl_X5_readCondition_L10 hr ?_ _ i0 a2 (0 : Int32) S1 _ h)
  · intro S24 Z h
    cases h
    exact ax_fr.rf
set_option maxRecDepth 100000 in
theorem fl_X5_readTruth_L10 {rec : Nat → Nat → Int32 → Int32 → AS → Option (AS)} (hr : ∀ (t : Nat) (i0 : Nat) (b0 : Int32) (b1 : Int32) (S : AS) Z, rec t i0 b0 b1 S = some Z → ax_fr w_Law S Z) {K51 : AS → Option (AS)} (hK51 : ∀ (x0 : AS) Z, K51 x0 = some Z → ax_fr w_Law x0 Z) : ∀ (n : Nat) (y4 : Nat) (x5 : Int32) (x6 : Int32) (S7 : AS) Z, f_X5_readTruth_L10 rec K51 n y4 x5 x6 S7 = some Z → ax_fr w_Law S7 Z := by
  intro n
  induction n with
  | zero =>
    intro y4 x5 x6 S7 Z h
    cases h
  | succ n ih =>
    intro y4 x5 x6 S7 Z h
    unfold f_X5_readTruth_L10 at h
    by_cases c8 : (240 : Int32) ≤ x6
    · rw [if_pos c8] at h
      exact (ax_fr.rf).tr (hK51 S7 _ h)
    · rw [if_neg c8] at h
      obtain ⟨r12, S9, hq9, h⟩ := ax_bu_e h
      have FS9 : ax_fr w_Law S7 S9 := (ax_fr.rf).tr ((fr_X10_peek hq9).mono (by decide))
      by_cases c10 : r12 = (38 : Int32)
      · rw [if_pos c10] at h
        obtain ⟨S14, hq11, h⟩ := ax_bd_e h
        have FS14 : ax_fr w_Law S7 S14 := (FS9).tr ((fr_X10_pass hq11).mono (by decide))
        obtain ⟨S17, hq12, h⟩ := ax_bd_e h
        have FS17 : ax_fr w_Law S7 S17 := (FS14).tr (hr 2 y4 x5 (0 : Int32) S14 _ hq12)
        obtain ⟨S20, hq13, h⟩ := ax_bd_e h
        have FS20 : ax_fr w_Law S7 S20 := (FS17).tr ((fr_X5_emit hq13).mono (by decide))
        obtain ⟨v23, _, h⟩ := ax_let_e h
        exact (FS20).tr (ih y4 x5 v23 S20 _ h)
      · rw [if_neg c10] at h
        exact (FS9).tr (hK51 S9 _ h)
set_option maxRecDepth 100000 in
theorem fr_b_X5_readTruth {rec : Nat → Nat → Int32 → Int32 → AS → Option (AS)} (hr : ∀ (t : Nat) (i0 : Nat) (b0 : Int32) (b1 : Int32) (S : AS) Z, rec t i0 b0 b1 S = some Z → ax_fr w_Law S Z) {i0 : Nat} {a2 : Int32} {a3 : Int32} {S : AS} {Z : AS} (h : b_X5_readTruth rec i0 a2 a3 S = some Z) : ax_fr w_Law S Z := by
  unfold b_X5_readTruth at h
  obtain ⟨S1, hq14, h⟩ := ax_bd_e h
  have FS1 : ax_fr w_Law S S1 := (ax_fr.rf).tr (hr 2 i0 a2 a3 S _ hq14)
  refine (FS1).tr (fl_X5_readTruth_L10 hr ?_ _ i0 a2 (0 : Int32) S1 _ h)
  · intro S24 Z h
    cases h
    exact ax_fr.rf
set_option maxRecDepth 100000 in
theorem fr_b_X5_readUnit {rec : Nat → Nat → Int32 → Int32 → AS → Option (AS)} (hr : ∀ (t : Nat) (i0 : Nat) (b0 : Int32) (b1 : Int32) (S : AS) Z, rec t i0 b0 b1 S = some Z → ax_fr w_Law S Z) {i0 : Nat} {a2 : Int32} {a3 : Int32} {S : AS} {Z : AS} (h : b_X5_readUnit rec i0 a2 a3 S = some Z) : ax_fr w_Law S Z := by
  unfold b_X5_readUnit at h
  obtain ⟨r4, S1, hq15, h⟩ := ax_bu_e h
  have FS1 : ax_fr w_Law S S1 := (ax_fr.rf).tr ((fr_X10_peek hq15).mono (by decide))
  obtain ⟨J7, eJ7, h⟩ := ax_let_e h
  have hJ7 : ∀ (x5 : Int32) (S6 : AS) Z, J7 x5 S6 = some Z → ax_fr w_Law S6 Z := by
    intro x5 S6 Z h
    rw [← eJ7] at h
    try dsimp only at h
    by_cases c16 : x5 = (0 : Int32)
    · rw [if_pos c16] at h
      by_cases c17 : x5 = (0 : Int32)
      · rw [if_pos c17] at h
        by_cases c18 : x5 = (0 : Int32)
        · rw [if_pos c18] at h
          obtain ⟨J12, eJ12, h⟩ := ax_let_e h
          have hJ12 : ∀ (S11 : AS) Z, J12 S11 = some Z → ax_fr w_Law S11 Z := by
            intro S11 Z h
            rw [← eJ12] at h
            try dsimp only at h
            obtain ⟨r16, S13, hq19, h⟩ := ax_bu_e h
            have FS13 : ax_fr w_Law S11 S13 := (ax_fr.rf).tr ((fr_X10_peek hq19).mono (by decide))
            obtain ⟨r20, _, h⟩ := ax_bd_e h
            by_cases c21 : r20 = (Int32.ofInt (-1))
            · rw [if_pos c21] at h
              obtain ⟨S31, hq22, h⟩ := ax_bd_e h
              have FS31 : ax_fr w_Law S11 S31 := (FS13).tr ((fr_X10_fail hq22).mono (by decide))
              cases h
              exact FS31
            · rw [if_neg c21] at h
              obtain ⟨S22, hq23, h⟩ := ax_bd_e h
              have FS22 : ax_fr w_Law S11 S22 := (FS13).tr ((fr_X10_pass hq23).mono (by decide))
              obtain ⟨S25, hq24, h⟩ := ax_bd_e h
              have FS25 : ax_fr w_Law S11 S25 := (FS22).tr (hr 3 i0 a2 (0 : Int32) S22 _ hq24)
              obtain ⟨S28, hq25, h⟩ := ax_bd_e h
              have FS28 : ax_fr w_Law S11 S28 := (FS25).tr ((fr_X5_emit hq25).mono (by decide))
              cases h
              exact FS28
          by_cases c26 : a3 = (0 : Int32)
          · rw [if_pos c26] at h
            obtain ⟨S35, hq27, h⟩ := ax_bd_e h
            have FS35 : ax_fr w_Law S6 S35 := (ax_fr.rf).tr (hr 3 i0 a2 (0 : Int32) S6 _ hq27)
            exact (FS35).tr (hJ12 S35 _ h)
          · rw [if_neg c26] at h
            exact (ax_fr.rf).tr (hJ12 S6 _ h)
        · rw [if_neg c18] at h
          obtain ⟨S38, hq28, h⟩ := ax_bd_e h
          have FS38 : ax_fr w_Law S6 S38 := (ax_fr.rf).tr ((fr_X10_pass hq28).mono (by decide))
          obtain ⟨S41, hq29, h⟩ := ax_bd_e h
          have FS41 : ax_fr w_Law S6 S41 := (FS38).tr (hr 0 i0 (a2 + (1 : Int32)) (0 : Int32) S38 _ hq29)
          obtain ⟨S44, hq30, h⟩ := ax_bd_e h
          have FS44 : ax_fr w_Law S6 S44 := (FS41).tr ((fr_X10_demand hq30).mono (by decide))
          cases h
          exact FS44
      · rw [if_neg c17] at h
        by_cases c31 : r4 = (33 : Int32)
        · rw [if_pos c31] at h
          obtain ⟨S85, hq32, h⟩ := ax_bd_e h
          have FS85 : ax_fr w_Law S6 S85 := (ax_fr.rf).tr ((fr_X10_pass hq32).mono (by decide))
          obtain ⟨S88, hq33, h⟩ := ax_bd_e h
          have FS88 : ax_fr w_Law S6 S88 := (FS85).tr (hr 2 i0 (a2 + (1 : Int32)) (0 : Int32) S85 _ hq33)
          obtain ⟨S91, hq34, h⟩ := ax_bd_e h
          have FS91 : ax_fr w_Law S6 S91 := (FS88).tr ((fr_X5_emit hq34).mono (by decide))
          cases h
          exact FS91
        · rw [if_neg c31] at h
          by_cases c35 : x5 = (0 : Int32)
          · rw [if_pos c35] at h
            obtain ⟨J50, eJ50, h⟩ := ax_let_e h
            have hJ50 : ∀ (S49 : AS) Z, J50 S49 = some Z → ax_fr w_Law S49 Z := by
              intro S49 Z h
              rw [← eJ50] at h
              try dsimp only at h
              obtain ⟨r54, S51, hq36, h⟩ := ax_bu_e h
              have FS51 : ax_fr w_Law S49 S51 := (ax_fr.rf).tr ((fr_X10_peek hq36).mono (by decide))
              obtain ⟨r58, _, h⟩ := ax_bd_e h
              by_cases c38 : r58 = (Int32.ofInt (-1))
              · rw [if_pos c38] at h
                obtain ⟨S69, hq39, h⟩ := ax_bd_e h
                have FS69 : ax_fr w_Law S49 S69 := (FS51).tr ((fr_X10_fail hq39).mono (by decide))
                cases h
                exact FS69
              · rw [if_neg c38] at h
                obtain ⟨S60, hq40, h⟩ := ax_bd_e h
                have FS60 : ax_fr w_Law S49 S60 := (FS51).tr ((fr_X10_pass hq40).mono (by decide))
                obtain ⟨S63, hq41, h⟩ := ax_bd_e h
                have FS63 : ax_fr w_Law S49 S63 := (FS60).tr (hr 3 i0 a2 (0 : Int32) S60 _ hq41)
                obtain ⟨S66, hq42, h⟩ := ax_bd_e h
                have FS66 : ax_fr w_Law S49 S66 := (FS63).tr ((fr_X5_emit hq42).mono (by decide))
                cases h
                exact FS66
            by_cases c43 : a3 = (0 : Int32)
            · rw [if_pos c43] at h
              obtain ⟨S73, hq44, h⟩ := ax_bd_e h
              have FS73 : ax_fr w_Law S6 S73 := (ax_fr.rf).tr (hr 3 i0 a2 (0 : Int32) S6 _ hq44)
              exact (FS73).tr (hJ50 S73 _ h)
            · rw [if_neg c43] at h
              exact (ax_fr.rf).tr (hJ50 S6 _ h)
          · rw [if_neg c35] at h
            obtain ⟨S76, hq45, h⟩ := ax_bd_e h
            have FS76 : ax_fr w_Law S6 S76 := (ax_fr.rf).tr ((fr_X10_pass hq45).mono (by decide))
            obtain ⟨S79, hq46, h⟩ := ax_bd_e h
            have FS79 : ax_fr w_Law S6 S79 := (FS76).tr (hr 0 i0 (a2 + (1 : Int32)) (0 : Int32) S76 _ hq46)
            obtain ⟨S82, hq47, h⟩ := ax_bd_e h
            have FS82 : ax_fr w_Law S6 S82 := (FS79).tr ((fr_X10_demand hq47).mono (by decide))
            cases h
            exact FS82
    · rw [if_neg c16] at h
      by_cases c48 : a2 < (6 : Int32)
      · rw [if_pos c48] at h
        by_cases c49 : x5 = (0 : Int32)
        · rw [if_pos c49] at h
          by_cases c50 : x5 = (0 : Int32)
          · rw [if_pos c50] at h
            obtain ⟨J98, eJ98, h⟩ := ax_let_e h
            have hJ98 : ∀ (S97 : AS) Z, J98 S97 = some Z → ax_fr w_Law S97 Z := by
              intro S97 Z h
              rw [← eJ98] at h
              try dsimp only at h
              obtain ⟨r102, S99, hq51, h⟩ := ax_bu_e h
              have FS99 : ax_fr w_Law S97 S99 := (ax_fr.rf).tr ((fr_X10_peek hq51).mono (by decide))
              obtain ⟨r106, _, h⟩ := ax_bd_e h
              by_cases c53 : r106 = (Int32.ofInt (-1))
              · rw [if_pos c53] at h
                obtain ⟨S117, hq54, h⟩ := ax_bd_e h
                have FS117 : ax_fr w_Law S97 S117 := (FS99).tr ((fr_X10_fail hq54).mono (by decide))
                cases h
                exact FS117
              · rw [if_neg c53] at h
                obtain ⟨S108, hq55, h⟩ := ax_bd_e h
                have FS108 : ax_fr w_Law S97 S108 := (FS99).tr ((fr_X10_pass hq55).mono (by decide))
                obtain ⟨S111, hq56, h⟩ := ax_bd_e h
                have FS111 : ax_fr w_Law S97 S111 := (FS108).tr (hr 3 i0 a2 (0 : Int32) S108 _ hq56)
                obtain ⟨S114, hq57, h⟩ := ax_bd_e h
                have FS114 : ax_fr w_Law S97 S114 := (FS111).tr ((fr_X5_emit hq57).mono (by decide))
                cases h
                exact FS114
            by_cases c58 : a3 = (0 : Int32)
            · rw [if_pos c58] at h
              obtain ⟨S121, hq59, h⟩ := ax_bd_e h
              have FS121 : ax_fr w_Law S6 S121 := (ax_fr.rf).tr (hr 3 i0 a2 (0 : Int32) S6 _ hq59)
              exact (FS121).tr (hJ98 S121 _ h)
            · rw [if_neg c58] at h
              exact (ax_fr.rf).tr (hJ98 S6 _ h)
          · rw [if_neg c50] at h
            obtain ⟨S124, hq60, h⟩ := ax_bd_e h
            have FS124 : ax_fr w_Law S6 S124 := (ax_fr.rf).tr ((fr_X10_pass hq60).mono (by decide))
            obtain ⟨S127, hq61, h⟩ := ax_bd_e h
            have FS127 : ax_fr w_Law S6 S127 := (FS124).tr (hr 0 i0 (a2 + (1 : Int32)) (0 : Int32) S124 _ hq61)
            obtain ⟨S130, hq62, h⟩ := ax_bd_e h
            have FS130 : ax_fr w_Law S6 S130 := (FS127).tr ((fr_X10_demand hq62).mono (by decide))
            cases h
            exact FS130
        · rw [if_neg c49] at h
          by_cases c63 : r4 = (33 : Int32)
          · rw [if_pos c63] at h
            obtain ⟨S171, hq64, h⟩ := ax_bd_e h
            have FS171 : ax_fr w_Law S6 S171 := (ax_fr.rf).tr ((fr_X10_pass hq64).mono (by decide))
            obtain ⟨S174, hq65, h⟩ := ax_bd_e h
            have FS174 : ax_fr w_Law S6 S174 := (FS171).tr (hr 2 i0 (a2 + (1 : Int32)) (0 : Int32) S171 _ hq65)
            obtain ⟨S177, hq66, h⟩ := ax_bd_e h
            have FS177 : ax_fr w_Law S6 S177 := (FS174).tr ((fr_X5_emit hq66).mono (by decide))
            cases h
            exact FS177
          · rw [if_neg c63] at h
            by_cases c67 : x5 = (0 : Int32)
            · rw [if_pos c67] at h
              obtain ⟨J136, eJ136, h⟩ := ax_let_e h
              have hJ136 : ∀ (S135 : AS) Z, J136 S135 = some Z → ax_fr w_Law S135 Z := by
                intro S135 Z h
                rw [← eJ136] at h
                try dsimp only at h
                obtain ⟨r140, S137, hq68, h⟩ := ax_bu_e h
                have FS137 : ax_fr w_Law S135 S137 := (ax_fr.rf).tr ((fr_X10_peek hq68).mono (by decide))
                obtain ⟨r144, _, h⟩ := ax_bd_e h
                by_cases c70 : r144 = (Int32.ofInt (-1))
                · rw [if_pos c70] at h
                  obtain ⟨S155, hq71, h⟩ := ax_bd_e h
                  have FS155 : ax_fr w_Law S135 S155 := (FS137).tr ((fr_X10_fail hq71).mono (by decide))
                  cases h
                  exact FS155
                · rw [if_neg c70] at h
                  obtain ⟨S146, hq72, h⟩ := ax_bd_e h
                  have FS146 : ax_fr w_Law S135 S146 := (FS137).tr ((fr_X10_pass hq72).mono (by decide))
                  obtain ⟨S149, hq73, h⟩ := ax_bd_e h
                  have FS149 : ax_fr w_Law S135 S149 := (FS146).tr (hr 3 i0 a2 (0 : Int32) S146 _ hq73)
                  obtain ⟨S152, hq74, h⟩ := ax_bd_e h
                  have FS152 : ax_fr w_Law S135 S152 := (FS149).tr ((fr_X5_emit hq74).mono (by decide))
                  cases h
                  exact FS152
              by_cases c75 : a3 = (0 : Int32)
              · rw [if_pos c75] at h
                obtain ⟨S159, hq76, h⟩ := ax_bd_e h
                have FS159 : ax_fr w_Law S6 S159 := (ax_fr.rf).tr (hr 3 i0 a2 (0 : Int32) S6 _ hq76)
                exact (FS159).tr (hJ136 S159 _ h)
              · rw [if_neg c75] at h
                exact (ax_fr.rf).tr (hJ136 S6 _ h)
            · rw [if_neg c67] at h
              obtain ⟨S162, hq77, h⟩ := ax_bd_e h
              have FS162 : ax_fr w_Law S6 S162 := (ax_fr.rf).tr ((fr_X10_pass hq77).mono (by decide))
              obtain ⟨S165, hq78, h⟩ := ax_bd_e h
              have FS165 : ax_fr w_Law S6 S165 := (FS162).tr (hr 0 i0 (a2 + (1 : Int32)) (0 : Int32) S162 _ hq78)
              obtain ⟨S168, hq79, h⟩ := ax_bd_e h
              have FS168 : ax_fr w_Law S6 S168 := (FS165).tr ((fr_X10_demand hq79).mono (by decide))
              cases h
              exact FS168
      · rw [if_neg c48] at h
        obtain ⟨S180, hq80, h⟩ := ax_bd_e h
        have FS180 : ax_fr w_Law S6 S180 := (ax_fr.rf).tr ((fr_X10_fail hq80).mono (by decide))
        cases h
        exact FS180
  by_cases c81 : a3 = (0 : Int32)
  · rw [if_pos c81] at h
    by_cases c82 : r4 = (33 : Int32)
    · rw [if_pos c82] at h
      exact (FS1).tr (hJ7 (1 : Int32) S1 _ h)
    · rw [if_neg c82] at h
      by_cases c83 : r4 = (40 : Int32)
      · rw [if_pos c83] at h
        exact (FS1).tr (hJ7 (1 : Int32) S1 _ h)
      · rw [if_neg c83] at h
        exact (FS1).tr (hJ7 (0 : Int32) S1 _ h)
  · rw [if_neg c81] at h
    exact (FS1).tr (hJ7 (0 : Int32) S1 _ h)
set_option maxRecDepth 100000 in
theorem fl_X5_readSum_L14 {rec : Nat → Nat → Int32 → Int32 → AS → Option (AS)} (hr : ∀ (t : Nat) (i0 : Nat) (b0 : Int32) (b1 : Int32) (S : AS) Z, rec t i0 b0 b1 S = some Z → ax_fr w_Law S Z) {K71 : AS → Option (AS)} (hK71 : ∀ (x0 : AS) Z, K71 x0 = some Z → ax_fr w_Law x0 Z) : ∀ (n : Nat) (y8 : Nat) (x9 : Int32) (x10 : Int32) (x11 : Int32) (S12 : AS) Z, f_X5_readSum_L14 rec K71 n y8 x9 x10 x11 S12 = some Z → ax_fr w_Law S12 Z := by
  intro n
  induction n with
  | zero =>
    intro y8 x9 x10 x11 S12 Z h
    cases h
  | succ n ih =>
    intro y8 x9 x10 x11 S12 Z h
    unfold f_X5_readSum_L14 at h
    by_cases c84 : (240 : Int32) ≤ x11
    · rw [if_pos c84] at h
      exact (ax_fr.rf).tr (hK71 S12 _ h)
    · rw [if_neg c84] at h
      by_cases c85 : x10 = (43 : Int32)
      · rw [if_pos c85] at h
        obtain ⟨S15, hq86, h⟩ := ax_bd_e h
        have FS15 : ax_fr w_Law S12 S15 := (ax_fr.rf).tr ((fr_X10_pass hq86).mono (by decide))
        obtain ⟨S18, hq87, h⟩ := ax_bd_e h
        have FS18 : ax_fr w_Law S12 S18 := (FS15).tr (hr 4 y8 x9 (0 : Int32) S15 _ hq87)
        by_cases c88 : x10 = (43 : Int32)
        · rw [if_pos c88] at h
          obtain ⟨S30, hq89, h⟩ := ax_bd_e h
          have FS30 : ax_fr w_Law S12 S30 := (FS18).tr ((fr_X5_emit hq89).mono (by decide))
          obtain ⟨r36, S33, hq90, h⟩ := ax_bu_e h
          have FS33 : ax_fr w_Law S12 S33 := (FS30).tr ((fr_X10_peek hq90).mono (by decide))
          obtain ⟨v37, _, h⟩ := ax_let_e h
          exact (FS33).tr (ih y8 x9 r36 v37 S33 _ h)
        · rw [if_neg c88] at h
          obtain ⟨S22, hq91, h⟩ := ax_bd_e h
          have FS22 : ax_fr w_Law S12 S22 := (FS18).tr ((fr_X5_emit hq91).mono (by decide))
          obtain ⟨r28, S25, hq92, h⟩ := ax_bu_e h
          have FS25 : ax_fr w_Law S12 S25 := (FS22).tr ((fr_X10_peek hq92).mono (by decide))
          obtain ⟨v29, _, h⟩ := ax_let_e h
          exact (FS25).tr (ih y8 x9 r28 v29 S25 _ h)
      · rw [if_neg c85] at h
        by_cases c93 : x10 = (45 : Int32)
        · rw [if_pos c93] at h
          obtain ⟨S39, hq94, h⟩ := ax_bd_e h
          have FS39 : ax_fr w_Law S12 S39 := (ax_fr.rf).tr ((fr_X10_pass hq94).mono (by decide))
          obtain ⟨S42, hq95, h⟩ := ax_bd_e h
          have FS42 : ax_fr w_Law S12 S42 := (FS39).tr (hr 4 y8 x9 (0 : Int32) S39 _ hq95)
          by_cases c96 : x10 = (43 : Int32)
          · rw [if_pos c96] at h
            obtain ⟨S54, hq97, h⟩ := ax_bd_e h
            have FS54 : ax_fr w_Law S12 S54 := (FS42).tr ((fr_X5_emit hq97).mono (by decide))
            obtain ⟨r60, S57, hq98, h⟩ := ax_bu_e h
            have FS57 : ax_fr w_Law S12 S57 := (FS54).tr ((fr_X10_peek hq98).mono (by decide))
            obtain ⟨v61, _, h⟩ := ax_let_e h
            exact (FS57).tr (ih y8 x9 r60 v61 S57 _ h)
          · rw [if_neg c96] at h
            obtain ⟨S46, hq99, h⟩ := ax_bd_e h
            have FS46 : ax_fr w_Law S12 S46 := (FS42).tr ((fr_X5_emit hq99).mono (by decide))
            obtain ⟨r52, S49, hq100, h⟩ := ax_bu_e h
            have FS49 : ax_fr w_Law S12 S49 := (FS46).tr ((fr_X10_peek hq100).mono (by decide))
            obtain ⟨v53, _, h⟩ := ax_let_e h
            exact (FS49).tr (ih y8 x9 r52 v53 S49 _ h)
        · rw [if_neg c93] at h
          exact (ax_fr.rf).tr (hK71 S12 _ h)
set_option maxRecDepth 100000 in
theorem fr_b_X5_readSum {rec : Nat → Nat → Int32 → Int32 → AS → Option (AS)} (hr : ∀ (t : Nat) (i0 : Nat) (b0 : Int32) (b1 : Int32) (S : AS) Z, rec t i0 b0 b1 S = some Z → ax_fr w_Law S Z) {i0 : Nat} {a2 : Int32} {S : AS} {Z : AS} (h : b_X5_readSum rec i0 a2 S = some Z) : ax_fr w_Law S Z := by
  unfold b_X5_readSum at h
  obtain ⟨S1, hq101, h⟩ := ax_bd_e h
  have FS1 : ax_fr w_Law S S1 := (ax_fr.rf).tr (hr 4 i0 a2 (0 : Int32) S _ hq101)
  obtain ⟨r7, S4, hq102, h⟩ := ax_bu_e h
  have FS4 : ax_fr w_Law S S4 := (FS1).tr ((fr_X10_peek hq102).mono (by decide))
  refine (FS4).tr (fl_X5_readSum_L14 hr ?_ _ i0 a2 r7 (0 : Int32) S4 _ h)
  · intro S62 Z h
    cases h
    exact ax_fr.rf
set_option maxRecDepth 100000 in
theorem fl_X5_readTerm_L14 {rec : Nat → Nat → Int32 → Int32 → AS → Option (AS)} (hr : ∀ (t : Nat) (i0 : Nat) (b0 : Int32) (b1 : Int32) (S : AS) Z, rec t i0 b0 b1 S = some Z → ax_fr w_Law S Z) {K71 : AS → Option (AS)} (hK71 : ∀ (x0 : AS) Z, K71 x0 = some Z → ax_fr w_Law x0 Z) : ∀ (n : Nat) (y8 : Nat) (x9 : Int32) (x10 : Int32) (x11 : Int32) (S12 : AS) Z, f_X5_readTerm_L14 rec K71 n y8 x9 x10 x11 S12 = some Z → ax_fr w_Law S12 Z := by
  intro n
  induction n with
  | zero =>
    intro y8 x9 x10 x11 S12 Z h
    cases h
  | succ n ih =>
    intro y8 x9 x10 x11 S12 Z h
    unfold f_X5_readTerm_L14 at h
    by_cases c103 : (240 : Int32) ≤ x11
    · rw [if_pos c103] at h
      exact (ax_fr.rf).tr (hK71 S12 _ h)
    · rw [if_neg c103] at h
      by_cases c104 : x10 = (42 : Int32)
      · rw [if_pos c104] at h
        obtain ⟨S15, hq105, h⟩ := ax_bd_e h
        have FS15 : ax_fr w_Law S12 S15 := (ax_fr.rf).tr ((fr_X10_pass hq105).mono (by decide))
        obtain ⟨S18, hq106, h⟩ := ax_bd_e h
        have FS18 : ax_fr w_Law S12 S18 := (FS15).tr (hr 5 y8 x9 (0 : Int32) S15 _ hq106)
        by_cases c107 : x10 = (42 : Int32)
        · rw [if_pos c107] at h
          obtain ⟨S30, hq108, h⟩ := ax_bd_e h
          have FS30 : ax_fr w_Law S12 S30 := (FS18).tr ((fr_X5_emit hq108).mono (by decide))
          obtain ⟨r36, S33, hq109, h⟩ := ax_bu_e h
          have FS33 : ax_fr w_Law S12 S33 := (FS30).tr ((fr_X10_peek hq109).mono (by decide))
          obtain ⟨v37, _, h⟩ := ax_let_e h
          exact (FS33).tr (ih y8 x9 r36 v37 S33 _ h)
        · rw [if_neg c107] at h
          obtain ⟨S22, hq110, h⟩ := ax_bd_e h
          have FS22 : ax_fr w_Law S12 S22 := (FS18).tr ((fr_X5_emit hq110).mono (by decide))
          obtain ⟨r28, S25, hq111, h⟩ := ax_bu_e h
          have FS25 : ax_fr w_Law S12 S25 := (FS22).tr ((fr_X10_peek hq111).mono (by decide))
          obtain ⟨v29, _, h⟩ := ax_let_e h
          exact (FS25).tr (ih y8 x9 r28 v29 S25 _ h)
      · rw [if_neg c104] at h
        by_cases c112 : x10 = (47 : Int32)
        · rw [if_pos c112] at h
          obtain ⟨S39, hq113, h⟩ := ax_bd_e h
          have FS39 : ax_fr w_Law S12 S39 := (ax_fr.rf).tr ((fr_X10_pass hq113).mono (by decide))
          obtain ⟨S42, hq114, h⟩ := ax_bd_e h
          have FS42 : ax_fr w_Law S12 S42 := (FS39).tr (hr 5 y8 x9 (0 : Int32) S39 _ hq114)
          by_cases c115 : x10 = (42 : Int32)
          · rw [if_pos c115] at h
            obtain ⟨S54, hq116, h⟩ := ax_bd_e h
            have FS54 : ax_fr w_Law S12 S54 := (FS42).tr ((fr_X5_emit hq116).mono (by decide))
            obtain ⟨r60, S57, hq117, h⟩ := ax_bu_e h
            have FS57 : ax_fr w_Law S12 S57 := (FS54).tr ((fr_X10_peek hq117).mono (by decide))
            obtain ⟨v61, _, h⟩ := ax_let_e h
            exact (FS57).tr (ih y8 x9 r60 v61 S57 _ h)
          · rw [if_neg c115] at h
            obtain ⟨S46, hq118, h⟩ := ax_bd_e h
            have FS46 : ax_fr w_Law S12 S46 := (FS42).tr ((fr_X5_emit hq118).mono (by decide))
            obtain ⟨r52, S49, hq119, h⟩ := ax_bu_e h
            have FS49 : ax_fr w_Law S12 S49 := (FS46).tr ((fr_X10_peek hq119).mono (by decide))
            obtain ⟨v53, _, h⟩ := ax_let_e h
            exact (FS49).tr (ih y8 x9 r52 v53 S49 _ h)
        · rw [if_neg c112] at h
          exact (ax_fr.rf).tr (hK71 S12 _ h)
set_option maxRecDepth 100000 in
theorem fr_b_X5_readTerm {rec : Nat → Nat → Int32 → Int32 → AS → Option (AS)} (hr : ∀ (t : Nat) (i0 : Nat) (b0 : Int32) (b1 : Int32) (S : AS) Z, rec t i0 b0 b1 S = some Z → ax_fr w_Law S Z) {i0 : Nat} {a2 : Int32} {S : AS} {Z : AS} (h : b_X5_readTerm rec i0 a2 S = some Z) : ax_fr w_Law S Z := by
  unfold b_X5_readTerm at h
  obtain ⟨S1, hq120, h⟩ := ax_bd_e h
  have FS1 : ax_fr w_Law S S1 := (ax_fr.rf).tr (hr 5 i0 a2 (0 : Int32) S _ hq120)
  obtain ⟨r7, S4, hq121, h⟩ := ax_bu_e h
  have FS4 : ax_fr w_Law S S4 := (FS1).tr ((fr_X10_peek hq121).mono (by decide))
  refine (FS4).tr (fl_X5_readTerm_L14 hr ?_ _ i0 a2 r7 (0 : Int32) S4 _ h)
  · intro S62 Z h
    cases h
    exact ax_fr.rf
set_option maxRecDepth 100000 in
theorem fr_b_X5_readAtom {rec : Nat → Nat → Int32 → Int32 → AS → Option (AS)} (hr : ∀ (t : Nat) (i0 : Nat) (b0 : Int32) (b1 : Int32) (S : AS) Z, rec t i0 b0 b1 S = some Z → ax_fr w_Law S Z) {i0 : Nat} {a2 : Int32} {S : AS} {Z : AS} (h : b_X5_readAtom rec i0 a2 S = some Z) : ax_fr w_Law S Z := by
  unfold b_X5_readAtom at h
  obtain ⟨r4, S1, hq122, h⟩ := ax_bu_e h
  have FS1 : ax_fr w_Law S S1 := (ax_fr.rf).tr ((fr_X10_peek hq122).mono (by decide))
  obtain ⟨r8, _, h⟩ := ax_bd_e h
  by_cases c124 : r8 < (0 : Int32)
  · rw [if_pos c124] at h
    obtain ⟨r13, _, h⟩ := ax_bd_e h
    by_cases c126 : r13 = (0 : Int32)
    · rw [if_pos c126] at h
      by_cases c127 : r4 = (91 : Int32)
      · rw [if_pos c127] at h
        by_cases c128 : (6 : Int32) ≤ a2
        · rw [if_pos c128] at h
          obtain ⟨S20, hq129, h⟩ := ax_bd_e h
          have FS20 : ax_fr w_Law S S20 := (FS1).tr ((fr_X10_fail hq129).mono (by decide))
          cases h
          exact FS20
        · rw [if_neg c128] at h
          obtain ⟨S23, hq130, h⟩ := ax_bd_e h
          have FS23 : ax_fr w_Law S S23 := (FS1).tr ((fr_X10_pass hq130).mono (by decide))
          obtain ⟨S26, hq131, h⟩ := ax_bd_e h
          have FS26 : ax_fr w_Law S S26 := (FS23).tr (hr 3 i0 (a2 + (1 : Int32)) (0 : Int32) S23 _ hq131)
          obtain ⟨S29, hq132, h⟩ := ax_bd_e h
          have FS29 : ax_fr w_Law S S29 := (FS26).tr ((fr_X10_demand hq132).mono (by decide))
          cases h
          exact FS29
      · rw [if_neg c127] at h
        obtain ⟨S16, hq133, h⟩ := ax_bd_e h
        have FS16 : ax_fr w_Law S S16 := (FS1).tr ((fr_X10_fail hq133).mono (by decide))
        cases h
        exact FS16
    · rw [if_neg c126] at h
      obtain ⟨r35, S32, hq134, h⟩ := ax_bu_e h
      have FS32 : ax_fr w_Law S S32 := (FS1).tr ((fr_X10_number hq134).mono (by decide))
      obtain ⟨S36, hq135, h⟩ := ax_bd_e h
      have FS36 : ax_fr w_Law S S36 := (FS32).tr ((fr_X5_emit hq135).mono (by decide))
      cases h
      exact FS36
  · rw [if_neg c124] at h
    obtain ⟨S39, hq136, h⟩ := ax_bd_e h
    have FS39 : ax_fr w_Law S S39 := (FS1).tr ((fr_X10_pass hq136).mono (by decide))
    obtain ⟨S42, hq137, h⟩ := ax_bd_e h
    have FS42 : ax_fr w_Law S S42 := (FS39).tr ((fr_X5_emit hq137).mono (by decide))
    cases h
    exact FS42
theorem frg_Law : ∀ (n t : Nat) (i0 : Nat) (b0 : Int32) (b1 : Int32) (S : AS) Z, g_Law n t i0 b0 b1 S = some Z → ax_fr w_Law S Z := by
  intro n
  induction n with
  | zero =>
    intro t i0 b0 b1 S Z h
    cases h
  | succ n ih =>
    intro t i0 b0 b1 S Z h
    match t, h with
    | 0, h => exact fr_b_X5_readCondition ih h
    | 1, h => exact fr_b_X5_readTruth ih h
    | 2, h => exact fr_b_X5_readUnit ih h
    | 3, h => exact fr_b_X5_readSum ih h
    | 4, h => exact fr_b_X5_readTerm ih h
    | 5, h => exact fr_b_X5_readAtom ih h
    | t + 6, h => cases h
abbrev w_X5_readClause : List (Nat × Nat × Nat) := [(0, 5, 2), (0, 10, 2), (0, 10, 3), (4, 30, 0)]
set_option maxRecDepth 100000 in
theorem fr_X5_readClause {i0 : Nat} {S : AS} {Z : AS} (h : f_X5_readClause i0 S = some Z) : ax_fr w_X5_readClause S Z := by
  unfold f_X5_readClause at h
  obtain ⟨S1, hq1, h⟩ := ax_bd_e h
  have FS1 : ax_fr w_X5_readClause S S1 := (ax_fr.rf).tr ((fr_X10_demand hq1).mono (by decide))
  obtain ⟨S4, hq2, h⟩ := ax_bd_e h
  have FS4 : ax_fr w_X5_readClause S S4 := (FS1).tr ((fr_X10_demand hq2).mono (by decide))
  obtain ⟨r10, S7, hq3, h⟩ := ax_bu_e h
  have FS7 : ax_fr w_X5_readClause S S7 := (FS4).tr ((fr_X10_peek hq3).mono (by decide))
  obtain ⟨J13, eJ13, h⟩ := ax_let_e h
  have hJ13 : ∀ (x11 : Int32) (S12 : AS) Z, J13 x11 S12 = some Z → ax_fr w_X5_readClause S12 Z := by
    intro x11 S12 Z h
    rw [← eJ13] at h
    try dsimp only at h
    by_cases c4 : x11 = (0 : Int32)
    · rw [if_pos c4] at h
      obtain ⟨S15, hq5, h⟩ := ax_bd_e h
      have FS15 : ax_fr w_X5_readClause S12 S15 := (ax_fr.rf).tr ((frg_Law ax_D 0 i0 (0 : Int32) x11 S12 _ hq5).mono (by decide))
      obtain ⟨S18, hq6, h⟩ := ax_bd_e h
      have FS18 : ax_fr w_X5_readClause S12 S18 := (FS15).tr ((fr_X10_demand hq6).mono (by decide))
      obtain ⟨v21, _, h⟩ := ax_let_e h
      obtain ⟨S22, hq7, h⟩ := ax_bd_e h
      have FS22 : ax_fr w_X5_readClause S12 S22 := (FS18).tr ((fr_X5_emit hq7).mono (by decide))
      obtain ⟨S25, hq8, h⟩ := ax_bd_e h
      have FS25 : ax_fr w_X5_readClause S12 S25 := (FS22).tr ((frg_Law ax_D 3 i0 (0 : Int32) (0 : Int32) S22 _ hq8).mono (by decide))
      obtain ⟨S28, hq9, h⟩ := ax_bd_e h
      have FS28 : ax_fr w_X5_readClause S12 S28 := (FS25).tr ((fr_X5_emit hq9).mono (by decide))
      by_cases c10 : (Int32.ofNat 241) ≤ v21
      · rw [if_pos c10] at h
        cases h
        exact FS28
      · rw [if_neg c10] at h
        obtain ⟨_, h⟩ := ax_gd_e h
        obtain ⟨S33, eS33, h⟩ := ax_let_e h
        have FS33 : ax_fr w_X5_readClause S12 S33 := eS33 ▸ (FS28).tr (ax_fr_sai (by decide))
        cases h
        exact FS33
    · rw [if_neg c4] at h
      obtain ⟨S34, hq11, h⟩ := ax_bd_e h
      have FS34 : ax_fr w_X5_readClause S12 S34 := (ax_fr.rf).tr ((frg_Law ax_D 3 i0 (0 : Int32) (0 : Int32) S12 _ hq11).mono (by decide))
      obtain ⟨r40, S37, hq12, h⟩ := ax_bu_e h
      have FS37 : ax_fr w_X5_readClause S12 S37 := (FS34).tr ((fr_X10_peek hq12).mono (by decide))
      obtain ⟨r44, _, h⟩ := ax_bd_e h
      by_cases c14 : r44 = (Int32.ofInt (-1))
      · rw [if_pos c14] at h
        obtain ⟨S65, hq15, h⟩ := ax_bd_e h
        have FS65 : ax_fr w_X5_readClause S12 S65 := (FS37).tr ((fr_X5_emit hq15).mono (by decide))
        cases h
        exact FS65
      · rw [if_neg c14] at h
        obtain ⟨S46, hq16, h⟩ := ax_bd_e h
        have FS46 : ax_fr w_X5_readClause S12 S46 := (FS37).tr ((frg_Law ax_D 0 i0 (0 : Int32) x11 S37 _ hq16).mono (by decide))
        obtain ⟨S49, hq17, h⟩ := ax_bd_e h
        have FS49 : ax_fr w_X5_readClause S12 S49 := (FS46).tr ((fr_X10_demand hq17).mono (by decide))
        obtain ⟨v52, _, h⟩ := ax_let_e h
        obtain ⟨S53, hq18, h⟩ := ax_bd_e h
        have FS53 : ax_fr w_X5_readClause S12 S53 := (FS49).tr ((fr_X5_emit hq18).mono (by decide))
        obtain ⟨S56, hq19, h⟩ := ax_bd_e h
        have FS56 : ax_fr w_X5_readClause S12 S56 := (FS53).tr ((frg_Law ax_D 3 i0 (0 : Int32) (0 : Int32) S53 _ hq19).mono (by decide))
        obtain ⟨S59, hq20, h⟩ := ax_bd_e h
        have FS59 : ax_fr w_X5_readClause S12 S59 := (FS56).tr ((fr_X5_emit hq20).mono (by decide))
        by_cases c21 : (Int32.ofNat 241) ≤ v52
        · rw [if_pos c21] at h
          cases h
          exact FS59
        · rw [if_neg c21] at h
          obtain ⟨_, h⟩ := ax_gd_e h
          obtain ⟨S64, eS64, h⟩ := ax_let_e h
          have FS64 : ax_fr w_X5_readClause S12 S64 := eS64 ▸ (FS59).tr (ax_fr_sai (by decide))
          cases h
          exact FS64
  by_cases c22 : r10 = (33 : Int32)
  · rw [if_pos c22] at h
    exact (FS7).tr (hJ13 (0 : Int32) S7 _ h)
  · rw [if_neg c22] at h
    by_cases c23 : r10 = (40 : Int32)
    · rw [if_pos c23] at h
      exact (FS7).tr (hJ13 (0 : Int32) S7 _ h)
    · rw [if_neg c23] at h
      exact (FS7).tr (hJ13 (1 : Int32) S7 _ h)
abbrev w_X5_readFrom : List (Nat × Nat × Nat) := [(0, 5, 2), (0, 10, 2), (0, 10, 3), (4, 30, 0)]
set_option maxRecDepth 100000 in
theorem fl_X5_readFrom_L13 {K40 : AS → Option (Int32 × AS)} (hK40 : ∀ (x0 : AS) r Z, K40 x0 = some (r, Z) → ax_fr w_X5_readFrom x0 Z) : ∀ (n : Nat) (y5 : Nat) (x6 : Int32) (x7 : Int32) (S8 : AS) r Z, f_X5_readFrom_L13 K40 n y5 x6 x7 S8 = some (r, Z) → ax_fr w_X5_readFrom S8 Z := by
  intro n
  induction n with
  | zero =>
    intro y5 x6 x7 S8 r Z h
    cases h
  | succ n ih =>
    intro y5 x6 x7 S8 r Z h
    unfold f_X5_readFrom_L13 at h
    by_cases c1 : x6 = (0 : Int32)
    · rw [if_pos c1] at h
      exact (ax_fr.rf).tr (hK40 S8 _ _ h)
    · rw [if_neg c1] at h
      by_cases c2 : (240 : Int32) < x7
      · rw [if_pos c2] at h
        exact (ax_fr.rf).tr (hK40 S8 _ _ h)
      · rw [if_neg c2] at h
        obtain ⟨S11, hq3, h⟩ := ax_bd_e h
        have FS11 : ax_fr w_X5_readFrom S8 S11 := (ax_fr.rf).tr ((fr_X5_readClause hq3).mono (by decide))
        obtain ⟨r17, S14, hq4, h⟩ := ax_bu_e h
        have FS14 : ax_fr w_X5_readFrom S8 S14 := (FS11).tr ((fr_X10_goesOn hq4).mono (by decide))
        obtain ⟨v18, _, h⟩ := ax_let_e h
        exact (FS14).tr (ih y5 r17 v18 S14 _ _ h)
set_option maxRecDepth 100000 in
theorem fr_X5_readFrom {i0 : Nat} {S : AS} {Z : AS} {r : Int32} (h : f_X5_readFrom i0 S = some (r, Z)) : ax_fr w_X5_readFrom S Z := by
  unfold f_X5_readFrom at h
  obtain ⟨S1, eS1, h⟩ := ax_let_e h
  have FS1 : ax_fr w_X5_readFrom S S1 := eS1 ▸ (ax_fr.rf).tr (ax_fr_sfi (by decide))
  obtain ⟨S2, hq5, h⟩ := ax_bd_e h
  have FS2 : ax_fr w_X5_readFrom S S2 := (FS1).tr ((fr_X10_rewind hq5).mono (by decide))
  refine (FS2).tr (fl_X5_readFrom_L13 ?_ _ i0 (1 : Int32) (0 : Int32) S2 _ _ h)
  · intro S19 r Z h
    cases h
    exact ax_fr.rf
abbrev w_X10_digit : List (Nat × Nat × Nat) := [(0, 10, 2), (0, 10, 3)]
set_option maxRecDepth 100000 in
theorem fr_X10_digit {S : AS} {Z : AS} {r : Int32} (h : f_X10_digit S = some (r, Z)) : ax_fr w_X10_digit S Z := by
  unfold f_X10_digit at h
  obtain ⟨r4, S1, hq1, h⟩ := ax_bu_e h
  have FS1 : ax_fr w_X10_digit S S1 := (ax_fr.rf).tr ((fr_X10_peek hq1).mono (by decide))
  obtain ⟨r8, _, h⟩ := ax_bd_e h
  by_cases c3 : r8 = (0 : Int32)
  · rw [if_pos c3] at h
    obtain ⟨S13, hq4, h⟩ := ax_bd_e h
    have FS13 : ax_fr w_X10_digit S S13 := (FS1).tr ((fr_X10_fail hq4).mono (by decide))
    cases h
    exact FS13
  · rw [if_neg c3] at h
    obtain ⟨S10, hq5, h⟩ := ax_bd_e h
    have FS10 : ax_fr w_X10_digit S S10 := (FS1).tr ((fr_X10_pass hq5).mono (by decide))
    cases h
    exact FS10
abbrev w_X0_readStep : List (Nat × Nat × Nat) := [(0, 0, 2), (0, 10, 2), (0, 10, 3), (4, 20, 0), (4, 21, 0)]
set_option maxRecDepth 100000 in
theorem fr_X0_readStep {i0 : Nat} {S : AS} {Z : AS} (h : f_X0_readStep i0 S = some Z) : ax_fr w_X0_readStep S Z := by
  unfold f_X0_readStep at h
  obtain ⟨r4, S1, hq1, h⟩ := ax_bu_e h
  have FS1 : ax_fr w_X0_readStep S S1 := (ax_fr.rf).tr ((fr_X10_peek hq1).mono (by decide))
  obtain ⟨r8, _, h⟩ := ax_bd_e h
  by_cases c3 : r8 < (0 : Int32)
  · rw [if_pos c3] at h
    obtain ⟨S10, hq4, h⟩ := ax_bd_e h
    have FS10 : ax_fr w_X0_readStep S S10 := (FS1).tr ((fr_X10_fail hq4).mono (by decide))
    cases h
    exact FS10
  · rw [if_neg c3] at h
    by_cases c5 : (ax_fi S1 0 i0 2) < (16 : Int32)
    · rw [if_pos c5] at h
      obtain ⟨S14, hq6, h⟩ := ax_bd_e h
      have FS14 : ax_fr w_X0_readStep S S14 := (FS1).tr ((fr_X10_pass hq6).mono (by decide))
      obtain ⟨J19, eJ19, h⟩ := ax_let_e h
      have hJ19 : ∀ (x17 : Int32) (S18 : AS) Z, J19 x17 S18 = some Z → ax_fr w_X0_readStep S18 Z := by
        intro x17 S18 Z h
        rw [← eJ19] at h
        try dsimp only at h
        obtain ⟨_, h⟩ := ax_gd_e h
        obtain ⟨S21, eS21, h⟩ := ax_let_e h
        have FS21 : ax_fr w_X0_readStep S18 S21 := eS21 ▸ (ax_fr.rf).tr (ax_fr_sai (by decide))
        by_cases c7 : x17 = (0 : Int32)
        · rw [if_pos c7] at h
          obtain ⟨_, h⟩ := ax_gd_e h
          obtain ⟨S24, eS24, h⟩ := ax_let_e h
          have FS24 : ax_fr w_X0_readStep S18 S24 := eS24 ▸ (FS21).tr (ax_fr_sai (by decide))
          obtain ⟨S25, eS25, h⟩ := ax_let_e h
          have FS25 : ax_fr w_X0_readStep S18 S25 := eS25 ▸ (FS24).tr (ax_fr_sfi (by decide))
          cases h
          exact FS25
        · rw [if_neg c7] at h
          obtain ⟨r29, S26, hq8, h⟩ := ax_bu_e h
          have FS26 : ax_fr w_X0_readStep S18 S26 := (FS21).tr ((fr_X10_digit hq8).mono (by decide))
          obtain ⟨_, h⟩ := ax_gd_e h
          obtain ⟨S31, eS31, h⟩ := ax_let_e h
          have FS31 : ax_fr w_X0_readStep S18 S31 := eS31 ▸ (FS26).tr (ax_fr_sai (by decide))
          obtain ⟨S32, eS32, h⟩ := ax_let_e h
          have FS32 : ax_fr w_X0_readStep S18 S32 := eS32 ▸ (FS31).tr (ax_fr_sfi (by decide))
          cases h
          exact FS32
      by_cases c9 : r8 = (0 : Int32)
      · rw [if_pos c9] at h
        exact (FS14).tr (hJ19 (1 : Int32) S14 _ h)
      · rw [if_neg c9] at h
        by_cases c10 : r8 = (1 : Int32)
        · rw [if_pos c10] at h
          exact (FS14).tr (hJ19 (1 : Int32) S14 _ h)
        · rw [if_neg c10] at h
          by_cases c11 : r8 = (3 : Int32)
          · rw [if_pos c11] at h
            exact (FS14).tr (hJ19 (1 : Int32) S14 _ h)
          · rw [if_neg c11] at h
            exact (FS14).tr (hJ19 (0 : Int32) S14 _ h)
    · rw [if_neg c5] at h
      obtain ⟨S36, hq12, h⟩ := ax_bd_e h
      have FS36 : ax_fr w_X0_readStep S S36 := (FS1).tr ((fr_X10_fail hq12).mono (by decide))
      cases h
      exact FS36
abbrev w_X0_readFrom : List (Nat × Nat × Nat) := [(0, 0, 2), (0, 10, 2), (0, 10, 3), (4, 20, 0), (4, 21, 0)]
set_option maxRecDepth 100000 in
theorem fl_X0_readFrom_L13 {K61 : AS → Option (Int32 × AS)} (hK61 : ∀ (x0 : AS) r Z, K61 x0 = some (r, Z) → ax_fr w_X0_readFrom x0 Z) : ∀ (n : Nat) (y5 : Nat) (x6 : Int32) (x7 : Int32) (S8 : AS) r Z, f_X0_readFrom_L13 K61 n y5 x6 x7 S8 = some (r, Z) → ax_fr w_X0_readFrom S8 Z := by
  intro n
  induction n with
  | zero =>
    intro y5 x6 x7 S8 r Z h
    cases h
  | succ n ih =>
    intro y5 x6 x7 S8 r Z h
    unfold f_X0_readFrom_L13 at h
    by_cases c1 : x6 = (0 : Int32)
    · rw [if_pos c1] at h
      exact (ax_fr.rf).tr (hK61 S8 _ _ h)
    · rw [if_neg c1] at h
      by_cases c2 : (16 : Int32) ≤ x7
      · rw [if_pos c2] at h
        exact (ax_fr.rf).tr (hK61 S8 _ _ h)
      · rw [if_neg c2] at h
        obtain ⟨S11, hq3, h⟩ := ax_bd_e h
        have FS11 : ax_fr w_X0_readFrom S8 S11 := (ax_fr.rf).tr ((fr_X0_readStep hq3).mono (by decide))
        by_cases c4 : (ax_fi S11 0 y5 2) = (16 : Int32)
        · rw [if_pos c4] at h
          obtain ⟨r23, S20, hq5, h⟩ := ax_bu_e h
          have FS20 : ax_fr w_X0_readFrom S8 S20 := (FS11).tr ((fr_X10_peek hq5).mono (by decide))
          by_cases c6 : r23 = (59 : Int32)
          · rw [if_pos c6] at h
            obtain ⟨S30, hq7, h⟩ := ax_bd_e h
            have FS30 : ax_fr w_X0_readFrom S8 S30 := (FS20).tr ((fr_X10_fail hq7).mono (by decide))
            obtain ⟨r36, S33, hq8, h⟩ := ax_bu_e h
            have FS33 : ax_fr w_X0_readFrom S8 S33 := (FS30).tr ((fr_X10_goesOn hq8).mono (by decide))
            obtain ⟨v37, _, h⟩ := ax_let_e h
            exact (FS33).tr (ih y5 r36 v37 S33 _ _ h)
          · rw [if_neg c6] at h
            obtain ⟨r28, S25, hq9, h⟩ := ax_bu_e h
            have FS25 : ax_fr w_X0_readFrom S8 S25 := (FS20).tr ((fr_X10_goesOn hq9).mono (by decide))
            obtain ⟨v29, _, h⟩ := ax_let_e h
            exact (FS25).tr (ih y5 r28 v29 S25 _ _ h)
        · rw [if_neg c4] at h
          obtain ⟨r18, S15, hq10, h⟩ := ax_bu_e h
          have FS15 : ax_fr w_X0_readFrom S8 S15 := (FS11).tr ((fr_X10_goesOn hq10).mono (by decide))
          obtain ⟨v19, _, h⟩ := ax_let_e h
          exact (FS15).tr (ih y5 r18 v19 S15 _ _ h)
set_option maxRecDepth 100000 in
theorem fr_X0_readFrom {i0 : Nat} {S : AS} {Z : AS} {r : Int32} (h : f_X0_readFrom i0 S = some (r, Z)) : ax_fr w_X0_readFrom S Z := by
  unfold f_X0_readFrom at h
  obtain ⟨S1, eS1, h⟩ := ax_let_e h
  have FS1 : ax_fr w_X0_readFrom S S1 := eS1 ▸ (ax_fr.rf).tr (ax_fr_sfi (by decide))
  obtain ⟨S2, hq11, h⟩ := ax_bd_e h
  have FS2 : ax_fr w_X0_readFrom S S2 := (FS1).tr ((fr_X10_rewind hq11).mono (by decide))
  refine (FS2).tr (fl_X0_readFrom_L13 ?_ _ i0 (1 : Int32) (0 : Int32) S2 _ _ h)
  · intro S38 r Z h
    cases h
    exact ax_fr.rf
abbrev w_X11_fault : List (Nat × Nat × Nat) := [(0, 0, 2), (0, 4, 3), (0, 4, 4), (0, 4, 5), (0, 5, 2), (0, 10, 2), (0, 10, 3), (4, 20, 0), (4, 21, 0), (4, 27, 0), (4, 28, 0), (4, 29, 0), (4, 30, 0)]
set_option maxRecDepth 100000 in
theorem fr_X11_fault {a1 : Int32} {S : AS} {Z : AS} {r : Int32} (h : f_X11_fault a1 S = some (r, Z)) : ax_fr w_X11_fault S Z := by
  unfold f_X11_fault at h
  by_cases c1 : a1 = (0 : Int32)
  · rw [if_pos c1] at h
    obtain ⟨r5, S2, hq2, h⟩ := ax_bu_e h
    have FS2 : ax_fr w_X11_fault S S2 := (ax_fr.rf).tr ((fr_X4_readFrom hq2).mono (by decide))
    cases h
    exact FS2
  · rw [if_neg c1] at h
    by_cases c3 : a1 = (1 : Int32)
    · rw [if_pos c3] at h
      obtain ⟨_, h⟩ := ax_gd_e h
      obtain ⟨r11, S8, hq4, h⟩ := ax_bu_e h
      have FS8 : ax_fr w_X11_fault S S8 := (ax_fr.rf).tr ((fr_X5_readFrom hq4).mono (by decide))
      cases h
      exact FS8
    · rw [if_neg c3] at h
      by_cases c5 : a1 = (2 : Int32)
      · rw [if_pos c5] at h
        obtain ⟨_, h⟩ := ax_gd_e h
        obtain ⟨r17, S14, hq6, h⟩ := ax_bu_e h
        have FS14 : ax_fr w_X11_fault S S14 := (ax_fr.rf).tr ((fr_X0_readFrom hq6).mono (by decide))
        cases h
        exact FS14
      · rw [if_neg c5] at h
        cases h
        exact ax_fr.rf
abbrev w_X10_put : List (Nat × Nat × Nat) := [(0, 10, 1), (4, 40, 0)]
set_option maxRecDepth 100000 in
theorem fl_X10_put_L3 {K55 : AS → Option (AS)} (hK55 : ∀ (x0 : AS) Z, K55 x0 = some Z → ax_fr w_X10_put x0 Z) : ∀ (n : Nat) (x1 : Int32) (x2 : Int32) (S3 : AS) Z, f_X10_put_L3 K55 n x1 x2 S3 = some Z → ax_fr w_X10_put S3 Z := by
  intro n
  induction n with
  | zero =>
    intro x1 x2 S3 Z h
    cases h
  | succ n ih =>
    intro x1 x2 S3 Z h
    unfold f_X10_put_L3 at h
    by_cases c1 : x2 < (0 : Int32)
    · rw [if_pos c1] at h
      exact (ax_fr.rf).tr (hK55 S3 _ h)
    · rw [if_neg c1] at h
      obtain ⟨v5, _, h⟩ := ax_let_e h
      by_cases c2 : v5 = (0 : Int32)
      · rw [if_pos c2] at h
        obtain ⟨v7, _, h⟩ := ax_let_e h
        exact (ax_fr.rf).tr (ih x1 v7 S3 _ h)
      · rw [if_neg c2] at h
        by_cases c3 : (240 : Int32) ≤ (ax_fi S3 10 0 1)
        · rw [if_pos c3] at h
          obtain ⟨v9, _, h⟩ := ax_let_e h
          exact (ax_fr.rf).tr (ih x1 v9 S3 _ h)
        · rw [if_neg c3] at h
          obtain ⟨_, h⟩ := ax_gd_e h
          obtain ⟨S11, eS11, h⟩ := ax_let_e h
          have FS11 : ax_fr w_X10_put S3 S11 := eS11 ▸ (ax_fr.rf).tr (ax_fr_sai (by decide))
          obtain ⟨S12, eS12, h⟩ := ax_let_e h
          have FS12 : ax_fr w_X10_put S3 S12 := eS12 ▸ (FS11).tr (ax_fr_sfi (by decide))
          obtain ⟨v13, _, h⟩ := ax_let_e h
          exact (FS12).tr (ih x1 v13 S12 _ h)
set_option maxRecDepth 100000 in
theorem fr_X10_put {a1 : Int32} {S : AS} {Z : AS} (h : f_X10_put a1 S = some Z) : ax_fr w_X10_put S Z := by
  unfold f_X10_put at h
  refine (ax_fr.rf).tr (fl_X10_put_L3 ?_ _ a1 (24 : Int32) S _ h)
  · intro S14 Z h
    cases h
    exact ax_fr.rf
abbrev w_X11_feed : List (Nat × Nat × Nat) := [(0, 10, 1), (4, 40, 0)]
set_option maxRecDepth 100000 in
theorem fr_X11_feed {a1 : Int32} {a2 : Int32} {a3 : Int32} {a4 : Int32} {a5 : Int32} {S : AS} {Z : AS} {r : Int32} (h : f_X11_feed a1 a2 a3 a4 a5 S = some (r, Z)) : ax_fr w_X11_feed S Z := by
  unfold f_X11_feed at h
  obtain ⟨r4, _, h⟩ := ax_bd_e h
  obtain ⟨r8, _, h⟩ := ax_bd_e h
  obtain ⟨r12, _, h⟩ := ax_bd_e h
  obtain ⟨r16, _, h⟩ := ax_bd_e h
  obtain ⟨r20, _, h⟩ := ax_bd_e h
  obtain ⟨v21, _, h⟩ := ax_let_e h
  obtain ⟨r25, _, h⟩ := ax_bd_e h
  by_cases c7 : r25 = (0 : Int32)
  · rw [if_pos c7] at h
    cases h
    exact ax_fr.rf
  · rw [if_neg c7] at h
    obtain ⟨S27, hq8, h⟩ := ax_bd_e h
    have FS27 : ax_fr w_X11_feed S S27 := (ax_fr.rf).tr ((fr_X10_put hq8).mono (by decide))
    obtain ⟨S30, hq9, h⟩ := ax_bd_e h
    have FS30 : ax_fr w_X11_feed S S30 := (FS27).tr ((fr_X10_put hq9).mono (by decide))
    obtain ⟨S33, hq10, h⟩ := ax_bd_e h
    have FS33 : ax_fr w_X11_feed S S33 := (FS30).tr ((fr_X10_put hq10).mono (by decide))
    obtain ⟨S36, hq11, h⟩ := ax_bd_e h
    have FS36 : ax_fr w_X11_feed S S36 := (FS33).tr ((fr_X10_put hq11).mono (by decide))
    obtain ⟨S39, hq12, h⟩ := ax_bd_e h
    have FS39 : ax_fr w_X11_feed S S39 := (FS36).tr ((fr_X10_put hq12).mono (by decide))
    cases h
    exact FS39
abbrev w_X11_prize : List (Nat × Nat × Nat) := [(0, 5, 3), (4, 31, 0), (4, 32, 0)]
set_option maxRecDepth 100000 in
theorem fr_X11_prize {a1 : Int32} {a2 : Int32} {a3 : Int32} {S : AS} {Z : AS} {r : Int32} (h : f_X11_prize a1 a2 a3 S = some (r, Z)) : ax_fr w_X11_prize S Z := by
  unfold f_X11_prize at h
  obtain ⟨r4, S1, hq1, h⟩ := ax_bu_e h
  have FS1 : ax_fr w_X11_prize S S1 := (ax_fr.rf).tr ((fr_X6_beatsTired hq1).mono (by decide))
  obtain ⟨r8, _, h⟩ := ax_bd_e h
  by_cases c3 : r8 = (0 : Int32)
  · rw [if_pos c3] at h
    cases h
    exact FS1
  · rw [if_neg c3] at h
    obtain ⟨r13, _, h⟩ := ax_bd_e h
    cases h
    exact FS1
abbrev w_X11_game : List (Nat × Nat × Nat) := [(0, 5, 3), (4, 31, 0), (4, 32, 0)]
set_option maxRecDepth 100000 in
theorem fr_X11_game {a1 : Int32} {a2 : Int32} {a3 : Int32} {a4 : Int32} {a5 : Int32} {S : AS} {Z : AS} {r : Int32} (h : f_X11_game a1 a2 a3 a4 a5 S = some (r, Z)) : ax_fr w_X11_game S Z := by
  unfold f_X11_game at h
  obtain ⟨r4, _, h⟩ := ax_bd_e h
  by_cases c2 : r4 = (0 : Int32)
  · rw [if_pos c2] at h
    obtain ⟨r9, _, h⟩ := ax_bd_e h
    by_cases c4 : r9 = (0 : Int32)
    · rw [if_pos c4] at h
      obtain ⟨r14, _, h⟩ := ax_bd_e h
      by_cases c6 : r14 = (0 : Int32)
      · rw [if_pos c6] at h
        by_cases c7 : a5 < (0 : Int32)
        · rw [if_pos c7] at h
          cases h
          exact ax_fr.rf
        · rw [if_neg c7] at h
          by_cases c8 : a5 ≤ (1 : Int32)
          · rw [if_pos c8] at h
            by_cases c9 : a5 = (0 : Int32)
            · rw [if_pos c9] at h
              obtain ⟨r30, S27, hq10, h⟩ := ax_bu_e h
              have FS27 : ax_fr w_X11_game S S27 := (ax_fr.rf).tr ((fr_X11_prize hq10).mono (by decide))
              obtain ⟨r34, _, h⟩ := ax_bd_e h
              cases h
              exact FS27
            · rw [if_neg c9] at h
              obtain ⟨r22, S19, hq12, h⟩ := ax_bu_e h
              have FS19 : ax_fr w_X11_game S S19 := (ax_fr.rf).tr ((fr_X11_prize hq12).mono (by decide))
              obtain ⟨r26, _, h⟩ := ax_bd_e h
              cases h
              exact FS19
          · rw [if_neg c8] at h
            cases h
            exact ax_fr.rf
      · rw [if_neg c6] at h
        cases h
        exact ax_fr.rf
    · rw [if_neg c4] at h
      cases h
      exact ax_fr.rf
  · rw [if_neg c2] at h
    cases h
    exact ax_fr.rf
abbrev w_X11_hards : List (Nat × Nat × Nat) := [(0, 5, 3), (4, 31, 0), (4, 32, 0)]
set_option maxRecDepth 100000 in
theorem fr_X11_hards {a1 : Int32} {S : AS} {Z : AS} {r : Int32} (h : f_X11_hards a1 S = some (r, Z)) : ax_fr w_X11_hards S Z := by
  unfold f_X11_hards at h
  obtain ⟨r4, _, h⟩ := ax_bd_e h
  by_cases c2 : r4 = (0 : Int32)
  · rw [if_pos c2] at h
    obtain ⟨r9, S6, hq3, h⟩ := ax_bu_e h
    have FS6 : ax_fr w_X11_hards S S6 := (ax_fr.rf).tr ((fr_X11_fittingHards hq3).mono (by decide))
    cases h
    exact FS6
  · rw [if_neg c2] at h
    cases h
    exact ax_fr.rf
abbrev w_X3_add : List (Nat × Nat × Nat) := [(0, 3, 3), (4, 24, 0), (4, 25, 0), (4, 26, 0)]
set_option maxRecDepth 100000 in
theorem fr_X3_add {a1 : Int32} {a2 : Int32} {a3 : Int32} {S : AS} {Z : AS} {r : Int32} (h : f_X3_add a1 a2 a3 S = some (r, Z)) : ax_fr w_X3_add S Z := by
  unfold f_X3_add at h
  by_cases c1 : (ax_fi S 3 0 3) < (10 : Int32)
  · rw [if_pos c1] at h
    obtain ⟨_, h⟩ := ax_gd_e h
    obtain ⟨S3, eS3, h⟩ := ax_let_e h
    have FS3 : ax_fr w_X3_add S S3 := eS3 ▸ (ax_fr.rf).tr (ax_fr_sai (by decide))
    obtain ⟨_, h⟩ := ax_gd_e h
    obtain ⟨S5, eS5, h⟩ := ax_let_e h
    have FS5 : ax_fr w_X3_add S S5 := eS5 ▸ (FS3).tr (ax_fr_sai (by decide))
    obtain ⟨_, h⟩ := ax_gd_e h
    obtain ⟨S7, eS7, h⟩ := ax_let_e h
    have FS7 : ax_fr w_X3_add S S7 := eS7 ▸ (FS5).tr (ax_fr_sai (by decide))
    obtain ⟨S8, eS8, h⟩ := ax_let_e h
    have FS8 : ax_fr w_X3_add S S8 := eS8 ▸ (FS7).tr (ax_fr_sfi (by decide))
    cases h
    exact FS8
  · rw [if_neg c1] at h
    cases h
    exact ax_fr.rf
abbrev w_X11_heard : List (Nat × Nat × Nat) := [(0, 3, 3), (4, 24, 0), (4, 25, 0), (4, 26, 0)]
set_option maxRecDepth 100000 in
theorem fr_X11_heard {a1 : Int32} {a2 : Int32} {a3 : Int32} {S : AS} {Z : AS} {r : Int32} (h : f_X11_heard a1 a2 a3 S = some (r, Z)) : ax_fr w_X11_heard S Z := by
  unfold f_X11_heard at h
  obtain ⟨r4, _, h⟩ := ax_bd_e h
  by_cases c2 : r4 = (0 : Int32)
  · rw [if_pos c2] at h
    obtain ⟨r9, _, h⟩ := ax_bd_e h
    by_cases c4 : r9 = (0 : Int32)
    · rw [if_pos c4] at h
      obtain ⟨r14, S11, hq5, h⟩ := ax_bu_e h
      have FS11 : ax_fr w_X11_heard S S11 := (ax_fr.rf).tr ((fr_X3_add hq5).mono (by decide))
      by_cases c6 : r14 = (0 : Int32)
      · rw [if_pos c6] at h
        cases h
        exact FS11
      · rw [if_neg c6] at h
        cases h
        exact FS11
    · rw [if_neg c4] at h
      cases h
      exact ax_fr.rf
  · rw [if_neg c2] at h
    cases h
    exact ax_fr.rf
abbrev w_X11_hold : List (Nat × Nat × Nat) := [(0, 5, 3), (0, 7, 1), (0, 7, 2), (0, 9, 0), (0, 9, 1), (0, 9, 2), (0, 9, 3), (0, 9, 4), (0, 9, 5), (0, 9, 6), (0, 9, 7), (4, 23, 0), (4, 31, 0), (4, 32, 0), (4, 33, 0), (4, 38, 0), (4, 39, 0)]
set_option maxRecDepth 100000 in
theorem fr_X11_hold {a1 : Int32} {S : AS} {Z : AS} {r : Int32} (h : f_X11_hold a1 S = some (r, Z)) : ax_fr w_X11_hold S Z := by
  unfold f_X11_hold at h
  obtain ⟨r4, S1, hq1, h⟩ := ax_bu_e h
  have FS1 : ax_fr w_X11_hold S S1 := (ax_fr.rf).tr ((fr_X11_act hq1).mono (by decide))
  by_cases c2 : r4 = (0 : Int32)
  · rw [if_pos c2] at h
    cases h
    exact FS1
  · rw [if_neg c2] at h
    cases h
    exact FS1
abbrev w_X11_image : List (Nat × Nat × Nat) := [(0, 9, 0), (0, 9, 1), (0, 9, 2), (0, 9, 3), (0, 9, 4), (0, 9, 5), (0, 9, 6), (0, 9, 7), (0, 11, 19), (4, 23, 0), (4, 38, 0), (4, 39, 0)]
set_option maxRecDepth 100000 in
theorem fr_X11_image {S : AS} {Z : AS} {r : Int32} (h : f_X11_image S = some (r, Z)) : ax_fr w_X11_image S Z := by
  unfold f_X11_image at h
  obtain ⟨r4, _, h⟩ := ax_bd_e h
  by_cases c2 : r4 = (0 : Int32)
  · rw [if_pos c2] at h
    obtain ⟨S6, hq3, h⟩ := ax_bd_e h
    have FS6 : ax_fr w_X11_image S S6 := (ax_fr.rf).tr ((fr_X9_copyFrom hq3).mono (by decide))
    obtain ⟨S9, hq4, h⟩ := ax_bd_e h
    have FS9 : ax_fr w_X11_image S S9 := (FS6).tr ((fr_X2_copyFrom hq4).mono (by decide))
    obtain ⟨S12, eS12, h⟩ := ax_let_e h
    have FS12 : ax_fr w_X11_image S S12 := eS12 ▸ (FS9).tr (ax_fr_sfi (by decide))
    cases h
    exact FS12
  · rw [if_neg c2] at h
    cases h
    exact ax_fr.rf
abbrev w_X6_useLaw : List (Nat × Nat × Nat) := [(3, 6, 2)]
set_option maxRecDepth 100000 in
theorem fr_X6_useLaw {i1 : Nat} {S : AS} {Z : AS} (h : f_X6_useLaw i1 S = some Z) : ax_fr w_X6_useLaw S Z := by
  unfold f_X6_useLaw at h
  obtain ⟨S1, eS1, h⟩ := ax_let_e h
  have FS1 : ax_fr w_X6_useLaw S S1 := eS1 ▸ (ax_fr.rf).tr (ax_fr_sfo (by decide))
  cases h
  exact FS1
abbrev w_X6_useLaw_n : List (Nat × Nat × Nat) := [(3, 6, 2)]
set_option maxRecDepth 100000 in
theorem fr_X6_useLaw_n {S : AS} {Z : AS} (h : f_X6_useLaw_n S = some Z) : ax_fr w_X6_useLaw_n S Z := by
  unfold f_X6_useLaw_n at h
  obtain ⟨S1, eS1, h⟩ := ax_let_e h
  have FS1 : ax_fr w_X6_useLaw_n S S1 := eS1 ▸ (ax_fr.rf).tr (ax_fr_sfo (by decide))
  cases h
  exact FS1
abbrev w_X11_law : List (Nat × Nat × Nat) := [(0, 11, 18), (3, 6, 2)]
set_option maxRecDepth 100000 in
theorem fr_X11_law {a1 : Int32} {S : AS} {Z : AS} {r : Int32} (h : f_X11_law a1 S = some (r, Z)) : ax_fr w_X11_law S Z := by
  unfold f_X11_law at h
  by_cases c1 : a1 < (Int32.ofInt (-1))
  · rw [if_pos c1] at h
    cases h
    exact ax_fr.rf
  · rw [if_neg c1] at h
    by_cases c2 : a1 < (ax_fi S 11 0 16)
    · rw [if_pos c2] at h
      obtain ⟨S3, eS3, h⟩ := ax_let_e h
      have FS3 : ax_fr w_X11_law S S3 := eS3 ▸ (ax_fr.rf).tr (ax_fr_sfi (by decide))
      by_cases c3 : a1 = (Int32.ofInt (-1))
      · rw [if_pos c3] at h
        obtain ⟨S9, hq4, h⟩ := ax_bd_e h
        have FS9 : ax_fr w_X11_law S S9 := (FS3).tr ((fr_X6_useLaw_n hq4).mono (by decide))
        cases h
        exact FS9
      · rw [if_neg c3] at h
        obtain ⟨_, h⟩ := ax_gd_e h
        obtain ⟨S6, hq5, h⟩ := ax_bd_e h
        have FS6 : ax_fr w_X11_law S S6 := (FS3).tr ((fr_X6_useLaw hq5).mono (by decide))
        cases h
        exact FS6
    · rw [if_neg c2] at h
      cases h
      exact ax_fr.rf
abbrev w_X1_draw : List (Nat × Nat × Nat) := [(1, 1, 1)]
set_option maxRecDepth 100000 in
theorem fr_X1_draw {a1 : Int32} {S : AS} {Z : AS} {r : Int32} (h : f_X1_draw a1 S = some (r, Z)) : ax_fr w_X1_draw S Z := by
  unfold f_X1_draw at h
  obtain ⟨S1, eS1, h⟩ := ax_let_e h
  have FS1 : ax_fr w_X1_draw S S1 := eS1 ▸ (ax_fr.rf).tr (ax_fr_sfl (by decide))
  by_cases c1 : a1 ≤ (0 : Int32)
  · rw [if_pos c1] at h
    cases h
    exact FS1
  · rw [if_neg c1] at h
    obtain ⟨_, h⟩ := ax_gd_e h
    cases h
    exact FS1
abbrev w_X11_liveOneDay : List (Nat × Nat × Nat) := [(0, 5, 3), (0, 7, 1), (0, 7, 2), (0, 9, 0), (0, 9, 1), (0, 9, 2), (0, 9, 3), (0, 9, 4), (0, 9, 5), (0, 9, 6), (0, 9, 7), (1, 1, 1), (4, 23, 0), (4, 31, 0), (4, 32, 0), (4, 33, 0), (4, 38, 0), (4, 39, 0)]
set_option maxRecDepth 100000 in
theorem fl_X11_liveOneDay_L13 {K68 : AS → Option (AS)} (hK68 : ∀ (x0 : AS) Z, K68 x0 = some Z → ax_fr w_X11_liveOneDay x0 Z) : ∀ (n : Nat) (x4 : Int32) (S5 : AS) Z, f_X11_liveOneDay_L13 K68 n x4 S5 = some Z → ax_fr w_X11_liveOneDay S5 Z := by
  intro n
  induction n with
  | zero =>
    intro x4 S5 Z h
    cases h
  | succ n ih =>
    intro x4 S5 Z h
    unfold f_X11_liveOneDay_L13 at h
    by_cases c1 : (3 : Int32) ≤ x4
    · rw [if_pos c1] at h
      exact (ax_fr.rf).tr (hK68 S5 _ h)
    · rw [if_neg c1] at h
      obtain ⟨r13, S10, hq2, h⟩ := ax_bu_e h
      have FS10 : ax_fr w_X11_liveOneDay S5 S10 := (ax_fr.rf).tr ((fr_X1_draw hq2).mono (by decide))
      obtain ⟨r17, S14, hq3, h⟩ := ax_bu_e h
      have FS14 : ax_fr w_X11_liveOneDay S5 S14 := (FS10).tr ((fr_X6_may hq3).mono (by decide))
      by_cases c4 : r17 = (0 : Int32)
      · rw [if_pos c4] at h
        obtain ⟨v19, _, h⟩ := ax_let_e h
        exact (FS14).tr (ih v19 S14 _ h)
      · rw [if_neg c4] at h
        obtain ⟨S20, hq5, h⟩ := ax_bd_e h
        have FS20 : ax_fr w_X11_liveOneDay S5 S20 := (FS14).tr ((fr_X6_carryOut hq5).mono (by decide))
        obtain ⟨v23, _, h⟩ := ax_let_e h
        exact (FS20).tr (ih v23 S20 _ h)
set_option maxRecDepth 100000 in
theorem fr_X11_liveOneDay {S : AS} {Z : AS} (h : f_X11_liveOneDay S = some Z) : ax_fr w_X11_liveOneDay S Z := by
  unfold f_X11_liveOneDay at h
  obtain ⟨S1, hq6, h⟩ := ax_bd_e h
  have FS1 : ax_fr w_X11_liveOneDay S S1 := (ax_fr.rf).tr ((fr_X7_remember hq6).mono (by decide))
  refine (FS1).tr (fl_X11_liveOneDay_L13 ?_ _ (0 : Int32) S1 _ h)
  · intro S24 Z h
    obtain ⟨r28, S25, hq7, h⟩ := ax_bu_e h
    have FS25 : ax_fr w_X11_liveOneDay S24 S25 := (ax_fr.rf).tr ((fr_X1_draw hq7).mono (by decide))
    obtain ⟨J30, eJ30, h⟩ := ax_let_e h
    have hJ30 : ∀ (S29 : AS) Z, J30 S29 = some Z → ax_fr w_X11_liveOneDay S29 Z := by
      intro S29 Z h
      rw [← eJ30] at h
      try dsimp only at h
      obtain ⟨S31, hq8, h⟩ := ax_bd_e h
      have FS31 : ax_fr w_X11_liveOneDay S29 S31 := (ax_fr.rf).tr ((fr_X2_write hq8).mono (by decide))
      obtain ⟨S34, hq9, h⟩ := ax_bd_e h
      have FS34 : ax_fr w_X11_liveOneDay S29 S34 := (FS31).tr ((fr_X6_carryOut hq9).mono (by decide))
      cases h
      exact FS34
    by_cases c10 : (ax_fi S25 1 0 2) ≤ r28
    · rw [if_pos c10] at h
      exact (FS25).tr (hJ30 S25 _ h)
    · rw [if_neg c10] at h
      obtain ⟨r44, S41, hq11, h⟩ := ax_bu_e h
      have FS41 : ax_fr w_X11_liveOneDay S24 S41 := (FS25).tr ((fr_X1_draw hq11).mono (by decide))
      obtain ⟨r48, S45, hq12, h⟩ := ax_bu_e h
      have FS45 : ax_fr w_X11_liveOneDay S24 S45 := (FS41).tr ((fr_X1_draw hq12).mono (by decide))
      obtain ⟨S49, hq13, h⟩ := ax_bd_e h
      have FS49 : ax_fr w_X11_liveOneDay S24 S49 := (FS45).tr ((fr_X9_setTitles hq13).mono (by decide))
      exact (FS49).tr (hJ30 S49 _ h)
abbrev w_X6_beatsHard : List (Nat × Nat × Nat) := [(0, 5, 3), (4, 31, 0), (4, 32, 0)]
set_option maxRecDepth 100000 in
theorem fr_X6_beatsHard {i1 : Nat} {a2 : Int32} {a3 : Int32} {S : AS} {Z : AS} {r : Int32} (h : f_X6_beatsHard i1 a2 a3 S = some (r, Z)) : ax_fr w_X6_beatsHard S Z := by
  unfold f_X6_beatsHard at h
  obtain ⟨r4, _, h⟩ := ax_bd_e h
  obtain ⟨r8, S5, hq2, h⟩ := ax_bu_e h
  have FS5 : ax_fr w_X6_beatsHard S S5 := (ax_fr.rf).tr ((fr_X6_beats hq2).mono (by decide))
  cases h
  exact FS5
abbrev w_X11_mean : List (Nat × Nat × Nat) := [(0, 5, 3), (4, 31, 0), (4, 32, 0)]
set_option maxRecDepth 100000 in
theorem fl_X11_mean_L14 {K41 : Int32 → AS → Option (Int32 × AS)} (hK41 : ∀ (x0 : Int32) (x1 : AS) r Z, K41 x0 x1 = some (r, Z) → ax_fr w_X11_mean x1 Z) : ∀ (n : Nat) (x6 : Int32) (x7 : Int32) (x8 : Int32) (S10 : AS) r Z, f_X11_mean_L14 K41 n x6 x7 x8 S10 = some (r, Z) → ax_fr w_X11_mean S10 Z := by
  intro n
  induction n with
  | zero =>
    intro x6 x7 x8 S10 r Z h
    cases h
  | succ n ih =>
    intro x6 x7 x8 S10 r Z h
    unfold f_X11_mean_L14 at h
    by_cases c1 : (5 : Int32) < x8
    · rw [if_pos c1] at h
      exact (ax_fr.rf).tr (hK41 x7 S10 _ _ h)
    · rw [if_neg c1] at h
      obtain ⟨r15, S12, hq2, h⟩ := ax_bu_e h
      have FS12 : ax_fr w_X11_mean S10 S12 := (ax_fr.rf).tr ((fr_X6_beatsHard hq2).mono (by decide))
      obtain ⟨v16, _, h⟩ := ax_let_e h
      obtain ⟨v17, _, h⟩ := ax_let_e h
      exact (FS12).tr (ih x6 v16 v17 S12 _ _ h)
set_option maxRecDepth 100000 in
theorem fr_X11_mean {a1 : Int32} {S : AS} {Z : AS} {r : Int32} (h : f_X11_mean a1 S = some (r, Z)) : ax_fr w_X11_mean S Z := by
  unfold f_X11_mean at h
  obtain ⟨r4, _, h⟩ := ax_bd_e h
  by_cases c4 : r4 = (0 : Int32)
  · rw [if_pos c4] at h
    refine (ax_fr.rf).tr (fl_X11_mean_L14 ?_ _ a1 (0 : Int32) (0 : Int32) S _ _ h)
    · intro x9 S18 r Z h
      cases h
      exact ax_fr.rf
  · rw [if_neg c4] at h
    cases h
    exact ax_fr.rf
abbrev w_X6_useHouse : List (Nat × Nat × Nat) := [(3, 6, 1)]
set_option maxRecDepth 100000 in
theorem fr_X6_useHouse {i1 : Nat} {S : AS} {Z : AS} (h : f_X6_useHouse i1 S = some Z) : ax_fr w_X6_useHouse S Z := by
  unfold f_X6_useHouse at h
  obtain ⟨S1, eS1, h⟩ := ax_let_e h
  have FS1 : ax_fr w_X6_useHouse S S1 := eS1 ▸ (ax_fr.rf).tr (ax_fr_sfo (by decide))
  cases h
  exact FS1
abbrev w_X9_startIn : List (Nat × Nat × Nat) := [(0, 9, 0), (0, 9, 1), (0, 9, 2), (0, 9, 3), (0, 9, 4), (0, 9, 5), (0, 9, 6), (0, 9, 7), (4, 38, 0), (4, 39, 0)]
set_option maxRecDepth 100000 in
theorem fl_X9_startIn_L29 {K53 : AS → Option (AS)} (hK53 : ∀ (x0 : AS) Z, K53 x0 = some Z → ax_fr w_X9_startIn x0 Z) : ∀ (n : Nat) (y12 : Nat) (y13 : Nat) (x14 : Int32) (S15 : AS) Z, f_X9_startIn_L29 K53 n y12 y13 x14 S15 = some Z → ax_fr w_X9_startIn S15 Z := by
  intro n
  induction n with
  | zero =>
    intro y12 y13 x14 S15 Z h
    cases h
  | succ n ih =>
    intro y12 y13 x14 S15 Z h
    unfold f_X9_startIn_L29 at h
    by_cases c1 : (6 : Int32) ≤ x14
    · rw [if_pos c1] at h
      exact (ax_fr.rf).tr (hK53 S15 _ h)
    · rw [if_neg c1] at h
      obtain ⟨r20, _, h⟩ := ax_bd_e h
      obtain ⟨_, h⟩ := ax_gd_e h
      obtain ⟨S22, eS22, h⟩ := ax_let_e h
      have FS22 : ax_fr w_X9_startIn S15 S22 := eS22 ▸ (ax_fr.rf).tr (ax_fr_sai (by decide))
      obtain ⟨v23, _, h⟩ := ax_let_e h
      exact (FS22).tr (ih y12 y13 v23 S22 _ h)
set_option maxRecDepth 100000 in
theorem fr_X9_startIn {i0 : Nat} {i1 : Nat} {S : AS} {Z : AS} (h : f_X9_startIn i0 i1 S = some Z) : ax_fr w_X9_startIn S Z := by
  unfold f_X9_startIn at h
  obtain ⟨S1, hq3, h⟩ := ax_bd_e h
  have FS1 : ax_fr w_X9_startIn S S1 := (ax_fr.rf).tr ((fr_X9_startDay hq3).mono (by decide))
  obtain ⟨S4, eS4, h⟩ := ax_let_e h
  have FS4 : ax_fr w_X9_startIn S S4 := eS4 ▸ (FS1).tr (ax_fr_sfi (by decide))
  obtain ⟨S5, eS5, h⟩ := ax_let_e h
  have FS5 : ax_fr w_X9_startIn S S5 := eS5 ▸ (FS4).tr (ax_fr_sfi (by decide))
  obtain ⟨r9, _, h⟩ := ax_bd_e h
  obtain ⟨S10, eS10, h⟩ := ax_let_e h
  have FS10 : ax_fr w_X9_startIn S S10 := eS10 ▸ (FS5).tr (ax_fr_sfi (by decide))
  obtain ⟨S11, eS11, h⟩ := ax_let_e h
  have FS11 : ax_fr w_X9_startIn S S11 := eS11 ▸ (FS10).tr (ax_fr_sfi (by decide))
  refine (FS11).tr (fl_X9_startIn_L29 ?_ _ i0 i1 (0 : Int32) S11 _ h)
  · intro S24 Z h
    cases h
    exact ax_fr.rf
abbrev w_X3_forget : List (Nat × Nat × Nat) := [(0, 3, 3)]
set_option maxRecDepth 100000 in
theorem fr_X3_forget {S : AS} {Z : AS} (h : f_X3_forget S = some Z) : ax_fr w_X3_forget S Z := by
  unfold f_X3_forget at h
  obtain ⟨S1, eS1, h⟩ := ax_let_e h
  have FS1 : ax_fr w_X3_forget S S1 := eS1 ▸ (ax_fr.rf).tr (ax_fr_sfi (by decide))
  cases h
  exact FS1
abbrev w_X11_moveIn : List (Nat × Nat × Nat) := [(0, 3, 3), (0, 7, 1), (0, 7, 2), (0, 9, 0), (0, 9, 1), (0, 9, 2), (0, 9, 3), (0, 9, 4), (0, 9, 5), (0, 9, 6), (0, 9, 7), (0, 11, 19), (2, 11, 14), (2, 11, 15), (3, 6, 1), (4, 38, 0), (4, 39, 0)]
set_option maxRecDepth 100000 in
theorem fr_X11_moveIn {S : AS} {Z : AS} (h : f_X11_moveIn S = some Z) : ax_fr w_X11_moveIn S Z := by
  unfold f_X11_moveIn at h
  obtain ⟨S1, eS1, h⟩ := ax_let_e h
  have FS1 : ax_fr w_X11_moveIn S S1 := eS1 ▸ (ax_fr.rf).tr (ax_fr_sfx (by decide))
  obtain ⟨S2, eS2, h⟩ := ax_let_e h
  have FS2 : ax_fr w_X11_moveIn S S2 := eS2 ▸ (FS1).tr (ax_fr_sfx (by decide))
  obtain ⟨S3, hq1, h⟩ := ax_bd_e h
  have FS3 : ax_fr w_X11_moveIn S S3 := (FS2).tr ((fr_X6_useHouse hq1).mono (by decide))
  obtain ⟨S6, hq2, h⟩ := ax_bd_e h
  have FS6 : ax_fr w_X11_moveIn S S6 := (FS3).tr ((fr_X9_startIn hq2).mono (by decide))
  obtain ⟨S9, hq3, h⟩ := ax_bd_e h
  have FS9 : ax_fr w_X11_moveIn S S9 := (FS6).tr ((fr_X7_forget hq3).mono (by decide))
  obtain ⟨S12, hq4, h⟩ := ax_bd_e h
  have FS12 : ax_fr w_X11_moveIn S S12 := (FS9).tr ((fr_X3_forget hq4).mono (by decide))
  obtain ⟨S15, eS15, h⟩ := ax_let_e h
  have FS15 : ax_fr w_X11_moveIn S S15 := eS15 ▸ (FS12).tr (ax_fr_sfi (by decide))
  cases h
  exact FS15
abbrev w_X11_name : List (Nat × Nat × Nat) := [(0, 5, 3), (4, 31, 0), (4, 32, 0)]
set_option maxRecDepth 100000 in
theorem fr_X11_name {a1 : Int32} {a2 : Int32} {S : AS} {Z : AS} {r : Int32} (h : f_X11_name a1 a2 S = some (r, Z)) : ax_fr w_X11_name S Z := by
  unfold f_X11_name at h
  obtain ⟨r4, _, h⟩ := ax_bd_e h
  by_cases c2 : r4 = (0 : Int32)
  · rw [if_pos c2] at h
    by_cases c3 : a2 < (0 : Int32)
    · rw [if_pos c3] at h
      cases h
      exact ax_fr.rf
    · rw [if_neg c3] at h
      by_cases c4 : a2 ≤ (1 : Int32)
      · rw [if_pos c4] at h
        obtain ⟨r11, S8, hq5, h⟩ := ax_bu_e h
        have FS8 : ax_fr w_X11_name S S8 := (ax_fr.rf).tr ((fr_X6_beatsNow hq5).mono (by decide))
        by_cases c6 : a2 = (0 : Int32)
        · rw [if_pos c6] at h
          cases h
          exact FS8
        · rw [if_neg c6] at h
          obtain ⟨r16, _, h⟩ := ax_bd_e h
          by_cases c8 : r16 = (0 : Int32)
          · rw [if_pos c8] at h
            cases h
            exact FS8
          · rw [if_neg c8] at h
            cases h
            exact FS8
      · rw [if_neg c4] at h
        cases h
        exact ax_fr.rf
  · rw [if_neg c2] at h
    cases h
    exact ax_fr.rf
abbrev w_X6_beatsTitled : List (Nat × Nat × Nat) := [(0, 5, 3), (4, 31, 0), (4, 32, 0)]
set_option maxRecDepth 100000 in
theorem fr_X6_beatsTitled {i1 : Nat} {a2 : Int32} {a3 : Int32} {S : AS} {Z : AS} {r : Int32} (h : f_X6_beatsTitled i1 a2 a3 S = some (r, Z)) : ax_fr w_X6_beatsTitled S Z := by
  unfold f_X6_beatsTitled at h
  obtain ⟨r4, _, h⟩ := ax_bd_e h
  obtain ⟨r8, S5, hq2, h⟩ := ax_bu_e h
  have FS5 : ax_fr w_X6_beatsTitled S S5 := (ax_fr.rf).tr ((fr_X6_beats hq2).mono (by decide))
  cases h
  exact FS5
abbrev w_X11_needs : List (Nat × Nat × Nat) := [(0, 5, 3), (4, 31, 0), (4, 32, 0)]
set_option maxRecDepth 100000 in
theorem fl_X11_needs_L12 : ∀ (n : Nat) (x6 : Int32) (x7 : Int32) (S8 : AS) r Z, f_X11_needs_L12 n x6 x7 S8 = some (r, Z) → ax_fr w_X11_needs S8 Z := by
  intro n
  induction n with
  | zero =>
    intro x6 x7 S8 r Z h
    cases h
  | succ n ih =>
    intro x6 x7 S8 r Z h
    unfold f_X11_needs_L12 at h
    by_cases c1 : (3 : Int32) < x7
    · rw [if_pos c1] at h
      cases h
      exact ax_fr.rf
    · rw [if_neg c1] at h
      obtain ⟨r13, S10, hq2, h⟩ := ax_bu_e h
      have FS10 : ax_fr w_X11_needs S8 S10 := (ax_fr.rf).tr ((fr_X6_beatsTitled hq2).mono (by decide))
      obtain ⟨r17, _, h⟩ := ax_bd_e h
      by_cases c4 : r17 = (0 : Int32)
      · rw [if_pos c4] at h
        obtain ⟨v19, _, h⟩ := ax_let_e h
        exact (FS10).tr (ih x6 v19 S10 _ _ h)
      · rw [if_neg c4] at h
        cases h
        exact FS10
set_option maxRecDepth 100000 in
theorem fr_X11_needs {a1 : Int32} {S : AS} {Z : AS} {r : Int32} (h : f_X11_needs a1 S = some (r, Z)) : ax_fr w_X11_needs S Z := by
  unfold f_X11_needs at h
  obtain ⟨r4, _, h⟩ := ax_bd_e h
  by_cases c6 : r4 = (0 : Int32)
  · rw [if_pos c6] at h
    refine (ax_fr.rf).tr (fl_X11_needs_L12 _ a1 (0 : Int32) S _ _ h)
  · rw [if_neg c6] at h
    cases h
    exact ax_fr.rf
abbrev w_X11_nextInQueue : List (Nat × Nat × Nat) := [(0, 5, 3), (4, 31, 0), (4, 32, 0)]
set_option maxRecDepth 100000 in
theorem fl_X11_nextInQueue_L8 {K69 : Int32 → AS → Option (Int32 × AS)} (hK69 : ∀ (x0 : Int32) (x1 : AS) r Z, K69 x0 x1 = some (r, Z) → ax_fr w_X11_nextInQueue x1 Z) : ∀ (n : Nat) (x1 : Int32) (x2 : Int32) (x3 : Int32) (x4 : Int32) (S6 : AS) r Z, f_X11_nextInQueue_L8 K69 n x1 x2 x3 x4 S6 = some (r, Z) → ax_fr w_X11_nextInQueue S6 Z := by
  intro n
  induction n with
  | zero =>
    intro x1 x2 x3 x4 S6 r Z h
    cases h
  | succ n ih =>
    intro x1 x2 x3 x4 S6 r Z h
    unfold f_X11_nextInQueue_L8 at h
    by_cases c1 : (ax_fi S6 4 (ax_fx S6 11 0 14) 5) ≤ x4
    · rw [if_pos c1] at h
      exact (ax_fr.rf).tr (hK69 x2 S6 _ _ h)
    · rw [if_neg c1] at h
      by_cases c2 : ((x1 >>> (x4 &&& 31)) &&& (1 : Int32)) = (0 : Int32)
      · rw [if_pos c2] at h
        obtain ⟨r16, S13, hq3, h⟩ := ax_bu_e h
        have FS13 : ax_fr w_X11_nextInQueue S6 S13 := (ax_fr.rf).tr ((fr_X6_beatsNow hq3).mono (by decide))
        by_cases c4 : x3 ≤ r16
        · rw [if_pos c4] at h
          obtain ⟨v18, _, h⟩ := ax_let_e h
          exact (FS13).tr (ih x1 x2 x3 v18 S13 _ _ h)
        · rw [if_neg c4] at h
          obtain ⟨r22, S19, hq5, h⟩ := ax_bu_e h
          have FS19 : ax_fr w_X11_nextInQueue S6 S19 := (FS13).tr ((fr_X6_beatsNow hq5).mono (by decide))
          obtain ⟨v23, _, h⟩ := ax_let_e h
          exact (FS19).tr (ih x1 x4 r22 v23 S19 _ _ h)
      · rw [if_neg c2] at h
        obtain ⟨v12, _, h⟩ := ax_let_e h
        exact (ax_fr.rf).tr (ih x1 x2 x3 v12 S6 _ _ h)
set_option maxRecDepth 100000 in
theorem fr_X11_nextInQueue {a1 : Int32} {S : AS} {Z : AS} {r : Int32} (h : f_X11_nextInQueue a1 S = some (r, Z)) : ax_fr w_X11_nextInQueue S Z := by
  unfold f_X11_nextInQueue at h
  refine (ax_fr.rf).tr (fl_X11_nextInQueue_L8 ?_ _ a1 (Int32.ofInt (-1)) (61 : Int32) (0 : Int32) S _ _ h)
  · intro x5 S24 r Z h
    cases h
    exact ax_fr.rf
abbrev w_X1_split : List (Nat × Nat × Nat) := [(5, 22, 0)]
set_option maxRecDepth 100000 in
theorem fl_X1_split_L2 {K24 : Int32 → Int32 → AS → Option (AS)} (hK24 : ∀ (x0 : Int32) (x1 : Int32) (x2 : AS) Z, K24 x0 x1 x2 = some Z → ax_fr w_X1_split x2 Z) : ∀ (n : Nat) (x1 : Int32) (x2 : Int32) (x3 : Int32) (S6 : AS) Z, f_X1_split_L2 K24 n x1 x2 x3 S6 = some Z → ax_fr w_X1_split S6 Z := by
  intro n
  induction n with
  | zero =>
    intro x1 x2 x3 S6 Z h
    cases h
  | succ n ih =>
    intro x1 x2 x3 S6 Z h
    unfold f_X1_split_L2 at h
    by_cases c1 : (Int32.ofNat 32) ≤ x3
    · rw [if_pos c1] at h
      exact (ax_fr.rf).tr (hK24 x1 x2 S6 _ h)
    · rw [if_neg c1] at h
      obtain ⟨_, h⟩ := ax_gd_e h
      obtain ⟨S9, eS9, h⟩ := ax_let_e h
      have FS9 : ax_fr w_X1_split S6 S9 := eS9 ▸ (ax_fr.rf).tr (ax_fr_sal (by decide))
      obtain ⟨v10, _, h⟩ := ax_let_e h
      exact (FS9).tr (ih x1 x2 v10 S9 _ h)
set_option maxRecDepth 100000 in
theorem fl_X1_split_L53 {K106 : Int32 → Int32 → Int32 → AS → Option (AS)} (hK106 : ∀ (x0 : Int32) (x1 : Int32) (x2 : Int32) (x3 : AS) Z, K106 x0 x1 x2 x3 = some Z → ax_fr w_X1_split x3 Z) : ∀ (n : Nat) (x21 : Int32) (x22 : Int32) (x23 : Int32) (x24 : Int32) (x25 : Int32) (S29 : AS) Z, f_X1_split_L53 K106 n x21 x22 x23 x24 x25 S29 = some Z → ax_fr w_X1_split S29 Z := by
  intro n
  induction n with
  | zero =>
    intro x21 x22 x23 x24 x25 S29 Z h
    cases h
  | succ n ih =>
    intro x21 x22 x23 x24 x25 S29 Z h
    unfold f_X1_split_L53 at h
    by_cases c2 : x24 ≤ x25
    · rw [if_pos c2] at h
      exact (ax_fr.rf).tr (hK106 x21 x22 x23 S29 _ h)
    · rw [if_neg c2] at h
      obtain ⟨_, h⟩ := ax_gd_e h
      obtain ⟨v33, _, h⟩ := ax_let_e h
      obtain ⟨_, h⟩ := ax_gd_e h
      obtain ⟨_, h⟩ := ax_gd_e h
      obtain ⟨S36, eS36, h⟩ := ax_let_e h
      have FS36 : ax_fr w_X1_split S29 S36 := eS36 ▸ (ax_fr.rf).tr (ax_fr_sal (by decide))
      obtain ⟨_, h⟩ := ax_gd_e h
      obtain ⟨S38, eS38, h⟩ := ax_let_e h
      have FS38 : ax_fr w_X1_split S29 S38 := eS38 ▸ (FS36).tr (ax_fr_sal (by decide))
      obtain ⟨v39, _, h⟩ := ax_let_e h
      exact (FS38).tr (ih x21 x22 x23 x24 v39 S38 _ h)
set_option maxRecDepth 100000 in
theorem fl_X1_split_L35 {K112 : AS → Option (AS)} (hK112 : ∀ (x0 : AS) Z, K112 x0 = some Z → ax_fr w_X1_split x0 Z) : ∀ (n : Nat) (x14 : Int32) (x15 : Int32) (x16 : Int32) (S17 : AS) Z, f_X1_split_L35 K112 n x14 x15 x16 S17 = some Z → ax_fr w_X1_split S17 Z := by
  intro n
  induction n with
  | zero =>
    intro x14 x15 x16 S17 Z h
    cases h
  | succ n ih =>
    intro x14 x15 x16 S17 Z h
    unfold f_X1_split_L35 at h
    by_cases c3 : x14 ≤ x16
    · rw [if_pos c3] at h
      exact (ax_fr.rf).tr (hK112 S17 _ h)
    · rw [if_neg c3] at h
      by_cases c4 : (5 : Int32) ≤ x16
      · rw [if_pos c4] at h
        exact (ax_fr.rf).tr (hK112 S17 _ h)
      · rw [if_neg c4] at h
        obtain ⟨v20, _, h⟩ := ax_let_e h
        refine (ax_fr.rf).tr (fl_X1_split_L53 ?_ _ x14 x15 x16 v20 (0 : Int32) S17 _ h)
        · intro x26 x27 x28 S40 Z h
          obtain ⟨v41, _, h⟩ := ax_let_e h
          exact (ax_fr.rf).tr (ih x26 x27 v41 S40 _ h)
set_option maxRecDepth 100000 in
theorem fr_X1_split {a1 : Int32} {a2 : Int32} {S : AS} {Z : AS} (h : f_X1_split a1 a2 S = some Z) : ax_fr w_X1_split S Z := by
  unfold f_X1_split at h
  refine (ax_fr.rf).tr (fl_X1_split_L2 ?_ _ a1 a2 (0 : Int32) S _ h)
  · intro x4 x5 S11 Z h
    obtain ⟨_, h⟩ := ax_gd_e h
    obtain ⟨S13, eS13, h⟩ := ax_let_e h
    have FS13 : ax_fr w_X1_split S11 S13 := eS13 ▸ (ax_fr.rf).tr (ax_fr_sal (by decide))
    refine (FS13).tr (fl_X1_split_L35 ?_ _ x4 x5 (0 : Int32) S13 _ h)
    · intro S42 Z h
      cases h
      exact ax_fr.rf
abbrev w_X11_odds : List (Nat × Nat × Nat) := [(0, 5, 3), (4, 31, 0), (4, 32, 0), (5, 22, 0)]
set_option maxRecDepth 100000 in
theorem fl_X11_odds_L45 {K98 : Int64 → AS → Option (Int32 × AS)} (hK98 : ∀ (x0 : Int64) (x1 : AS) r Z, K98 x0 x1 = some (r, Z) → ax_fr w_X11_odds x1 Z) : ∀ (n : Nat) (x15 : Int32) (x16 : Int32) (x17 : Int64) (x18 : Int32) (S20 : AS) r Z, f_X11_odds_L45 K98 n x15 x16 x17 x18 S20 = some (r, Z) → ax_fr w_X11_odds S20 Z := by
  intro n
  induction n with
  | zero =>
    intro x15 x16 x17 x18 S20 r Z h
    cases h
  | succ n ih =>
    intro x15 x16 x17 x18 S20 r Z h
    unfold f_X11_odds_L45 at h
    by_cases c1 : x16 < x18
    · rw [if_pos c1] at h
      exact (ax_fr.rf).tr (hK98 x17 S20 _ _ h)
    · rw [if_neg c1] at h
      obtain ⟨r25, S22, hq2, h⟩ := ax_bu_e h
      have FS22 : ax_fr w_X11_odds S20 S22 := (ax_fr.rf).tr ((fr_X6_beatsHard hq2).mono (by decide))
      obtain ⟨r29, _, h⟩ := ax_bd_e h
      by_cases c4 : r29 = (0 : Int32)
      · rw [if_pos c4] at h
        obtain ⟨v31, _, h⟩ := ax_let_e h
        exact (FS22).tr (ih x15 x16 x17 v31 S22 _ _ h)
      · rw [if_neg c4] at h
        obtain ⟨r35, _, h⟩ := ax_bd_e h
        obtain ⟨v36, _, h⟩ := ax_let_e h
        obtain ⟨v37, _, h⟩ := ax_let_e h
        exact (FS22).tr (ih x15 x16 v36 v37 S22 _ _ h)
set_option maxRecDepth 100000 in
theorem fr_X11_odds {a1 : Int32} {a2 : Int32} {S : AS} {Z : AS} {r : Int32} (h : f_X11_odds a1 a2 S = some (r, Z)) : ax_fr w_X11_odds S Z := by
  unfold f_X11_odds at h
  obtain ⟨r4, _, h⟩ := ax_bd_e h
  by_cases c7 : r4 = (0 : Int32)
  · rw [if_pos c7] at h
    by_cases c8 : a2 < (0 : Int32)
    · rw [if_pos c8] at h
      cases h
      exact ax_fr.rf
    · rw [if_neg c8] at h
      by_cases c9 : a2 ≤ (100 : Int32)
      · rw [if_pos c9] at h
        obtain ⟨r11, _, h⟩ := ax_bd_e h
        obtain ⟨S12, hq11, h⟩ := ax_bd_e h
        have FS12 : ax_fr w_X11_odds S S12 := (ax_fr.rf).tr ((fr_X1_split hq11).mono (by decide))
        refine (FS12).tr (fl_X11_odds_L45 ?_ _ a1 r11 (0 : Int64) (0 : Int32) S12 _ _ h)
        · intro x19 S38 r Z h
          cases h
          exact ax_fr.rf
      · rw [if_neg c9] at h
        cases h
        exact ax_fr.rf
  · rw [if_neg c7] at h
    cases h
    exact ax_fr.rf
abbrev w_Extend : List (Nat × Nat × Nat) := [(0, 8, 6), (0, 8, 7), (0, 8, 8), (0, 8, 9), (4, 37, 0)]
set_option maxRecDepth 100000 in
theorem fl_X8_extend_L45 {rec : Nat → Int32 → Int32 → Int32 → Int32 → Int32 → AS → Option (AS)} (hr : ∀ (t : Nat) (b0 : Int32) (b1 : Int32) (b2 : Int32) (b3 : Int32) (b4 : Int32) (S : AS) Z, rec t b0 b1 b2 b3 b4 S = some Z → ax_fr w_Extend S Z) {K203 : AS → Option (AS)} (hK203 : ∀ (x0 : AS) Z, K203 x0 = some Z → ax_fr w_Extend x0 Z) : ∀ (n : Nat) (x7 : Int32) (x8 : Int32) (x9 : Int32) (x10 : Int32) (x11 : Int32) (x12 : Int32) (S13 : AS) Z, f_X8_extend_L45 rec K203 n x7 x8 x9 x10 x11 x12 S13 = some Z → ax_fr w_Extend S13 Z := by
  intro n
  induction n with
  | zero =>
    intro x7 x8 x9 x10 x11 x12 S13 Z h
    cases h
  | succ n ih =>
    intro x7 x8 x9 x10 x11 x12 S13 Z h
    unfold f_X8_extend_L45 at h
    by_cases c1 : (ax_fi S13 8 0 4) ≤ x12
    · rw [if_pos c1] at h
      exact (ax_fr.rf).tr (hK203 S13 _ h)
    · rw [if_neg c1] at h
      obtain ⟨v15, _, h⟩ := ax_let_e h
      obtain ⟨_, h⟩ := ax_gd_e h
      obtain ⟨v17, _, h⟩ := ax_let_e h
      obtain ⟨J20, eJ20, h⟩ := ax_let_e h
      have hJ20 : ∀ (x18 : Int32) (S19 : AS) Z, J20 x18 S19 = some Z → ax_fr w_Extend S19 Z := by
        intro x18 S19 Z h
        rw [← eJ20] at h
        try dsimp only at h
        by_cases c2 : x18 = (0 : Int32)
        · rw [if_pos c2] at h
          obtain ⟨v22, _, h⟩ := ax_let_e h
          exact (ax_fr.rf).tr (ih x7 x8 x9 x10 x11 v22 S19 _ h)
        · rw [if_neg c2] at h
          by_cases c3 : ((x7 >>> (x12 &&& 31)) &&& (1 : Int32)) = (0 : Int32)
          · rw [if_pos c3] at h
            obtain ⟨_, h⟩ := ax_gd_e h
            by_cases c4 : (ax_fi S19 8 0 5) < (x10 + (ax_ai S19 34 0 v15.toNatClampNeg))
            · rw [if_pos c4] at h
              obtain ⟨v27, _, h⟩ := ax_let_e h
              exact (ax_fr.rf).tr (ih x7 x8 x9 x10 x11 v27 S19 _ h)
            · rw [if_neg c4] at h
              obtain ⟨_, h⟩ := ax_gd_e h
              obtain ⟨_, h⟩ := ax_gd_e h
              obtain ⟨S30, eS30, h⟩ := ax_let_e h
              have FS30 : ax_fr w_Extend S19 S30 := eS30 ▸ (ax_fr.rf).tr (ax_fr_sai (by decide))
              obtain ⟨v31, _, h⟩ := ax_let_e h
              obtain ⟨_, h⟩ := ax_gd_e h
              obtain ⟨_, h⟩ := ax_gd_e h
              obtain ⟨S34, hq5, h⟩ := ax_bd_e h
              have FS34 : ax_fr w_Extend S19 S34 := (FS30).tr (hr 0 (x7 ||| ((1 : Int32) <<< (x12 &&& 31))) v31 (x9 + (1 : Int32)) (x10 + (ax_ai S30 34 0 v15.toNatClampNeg)) (x11 + (ax_ai S30 35 0 v15.toNatClampNeg)) S30 _ hq5)
              obtain ⟨_, h⟩ := ax_gd_e h
              obtain ⟨_, h⟩ := ax_gd_e h
              obtain ⟨S39, eS39, h⟩ := ax_let_e h
              have FS39 : ax_fr w_Extend S19 S39 := eS39 ▸ (FS34).tr (ax_fr_sai (by decide))
              obtain ⟨v40, _, h⟩ := ax_let_e h
              exact (FS39).tr (ih x7 x8 x9 x10 x11 v40 S39 _ h)
          · rw [if_neg c3] at h
            obtain ⟨v24, _, h⟩ := ax_let_e h
            exact (ax_fr.rf).tr (ih x7 x8 x9 x10 x11 v24 S19 _ h)
      by_cases c6 : v17 < (0 : Int32)
      · rw [if_pos c6] at h
        exact (ax_fr.rf).tr (hJ20 (0 : Int32) S13 _ h)
      · rw [if_neg c6] at h
        by_cases c7 : (4 : Int32) ≤ v17
        · rw [if_pos c7] at h
          exact (ax_fr.rf).tr (hJ20 (0 : Int32) S13 _ h)
        · rw [if_neg c7] at h
          obtain ⟨_, h⟩ := ax_gd_e h
          by_cases c8 : (ax_ai S13 37 0 v17.toNatClampNeg) ≤ (0 : Int32)
          · rw [if_pos c8] at h
            exact (ax_fr.rf).tr (hJ20 (0 : Int32) S13 _ h)
          · rw [if_neg c8] at h
            exact (ax_fr.rf).tr (hJ20 (1 : Int32) S13 _ h)
set_option maxRecDepth 100000 in
theorem fr_b_X8_extend {rec : Nat → Int32 → Int32 → Int32 → Int32 → Int32 → AS → Option (AS)} (hr : ∀ (t : Nat) (b0 : Int32) (b1 : Int32) (b2 : Int32) (b3 : Int32) (b4 : Int32) (S : AS) Z, rec t b0 b1 b2 b3 b4 S = some Z → ax_fr w_Extend S Z) {a1 : Int32} {a2 : Int32} {a3 : Int32} {a4 : Int32} {a5 : Int32} {S : AS} {Z : AS} (h : b_X8_extend rec a1 a2 a3 a4 a5 S = some Z) : ax_fr w_Extend S Z := by
  unfold b_X8_extend at h
  obtain ⟨r4, _, h⟩ := ax_bd_e h
  by_cases c10 : r4 = (0 : Int32)
  · rw [if_pos c10] at h
    by_cases c11 : a3 < (6 : Int32)
    · rw [if_pos c11] at h
      refine (ax_fr.rf).tr (fl_X8_extend_L45 hr ?_ _ a1 a2 a3 a4 a5 (0 : Int32) S _ h)
      · intro S45 Z h
        cases h
        exact ax_fr.rf
    · rw [if_neg c11] at h
      cases h
      exact ax_fr.rf
  · rw [if_neg c10] at h
    obtain ⟨S46, eS46, h⟩ := ax_let_e h
    have FS46 : ax_fr w_Extend S S46 := eS46 ▸ (ax_fr.rf).tr (ax_fr_sfi (by decide))
    obtain ⟨S47, eS47, h⟩ := ax_let_e h
    have FS47 : ax_fr w_Extend S S47 := eS47 ▸ (FS46).tr (ax_fr_sfi (by decide))
    obtain ⟨S48, eS48, h⟩ := ax_let_e h
    have FS48 : ax_fr w_Extend S S48 := eS48 ▸ (FS47).tr (ax_fr_sfi (by decide))
    obtain ⟨S49, eS49, h⟩ := ax_let_e h
    have FS49 : ax_fr w_Extend S S49 := eS49 ▸ (FS48).tr (ax_fr_sfi (by decide))
    by_cases c12 : a3 < (6 : Int32)
    · rw [if_pos c12] at h
      refine (FS49).tr (fl_X8_extend_L45 hr ?_ _ a1 a2 a3 a4 a5 (0 : Int32) S49 _ h)
      · intro S57 Z h
        cases h
        exact ax_fr.rf
    · rw [if_neg c12] at h
      cases h
      exact FS49
theorem frg_Extend : ∀ (n t : Nat) (b0 : Int32) (b1 : Int32) (b2 : Int32) (b3 : Int32) (b4 : Int32) (S : AS) Z, g_Extend n t b0 b1 b2 b3 b4 S = some Z → ax_fr w_Extend S Z := by
  intro n
  induction n with
  | zero =>
    intro t b0 b1 b2 b3 b4 S Z h
    cases h
  | succ n ih =>
    intro t b0 b1 b2 b3 b4 S Z h
    match t, h with
    | 0, h => exact fr_b_X8_extend ih h
    | t + 1, h => cases h
abbrev w_X8_find : List (Nat × Nat × Nat) := [(0, 5, 3), (0, 8, 4), (0, 8, 5), (0, 8, 6), (0, 8, 7), (0, 8, 8), (0, 8, 9), (4, 31, 0), (4, 32, 0), (4, 34, 0), (4, 35, 0), (4, 36, 0), (4, 37, 0)]
set_option maxRecDepth 100000 in
theorem fl_X8_find_L24 {K56 : Nat → Nat → AS → Option (AS)} (hK56 : ∀ (x0 : Nat) (x1 : Nat) (x2 : AS) Z, K56 x0 x1 x2 = some Z → ax_fr w_X8_find x2 Z) : ∀ (n : Nat) (y14 : Nat) (y15 : Nat) (x16 : Int32) (S19 : AS) Z, f_X8_find_L24 K56 n y14 y15 x16 S19 = some Z → ax_fr w_X8_find S19 Z := by
  intro n
  induction n with
  | zero =>
    intro y14 y15 x16 S19 Z h
    cases h
  | succ n ih =>
    intro y14 y15 x16 S19 Z h
    unfold f_X8_find_L24 at h
    by_cases c1 : (4 : Int32) ≤ x16
    · rw [if_pos c1] at h
      exact (ax_fr.rf).tr (hK56 y14 y15 S19 _ h)
    · rw [if_neg c1] at h
      obtain ⟨r24, _, h⟩ := ax_bd_e h
      obtain ⟨r28, _, h⟩ := ax_bd_e h
      obtain ⟨_, h⟩ := ax_gd_e h
      obtain ⟨S30, eS30, h⟩ := ax_let_e h
      have FS30 : ax_fr w_X8_find S19 S30 := eS30 ▸ (ax_fr.rf).tr (ax_fr_sai (by decide))
      obtain ⟨v31, _, h⟩ := ax_let_e h
      exact (FS30).tr (ih y14 y15 v31 S30 _ h)
set_option maxRecDepth 100000 in
theorem fl_X8_find_L85 {K169 : Nat → Nat → Int32 → AS → Option (AS)} (hK169 : ∀ (x0 : Nat) (x1 : Nat) (x2 : Int32) (x3 : AS) Z, K169 x0 x1 x2 x3 = some Z → ax_fr w_X8_find x3 Z) : ∀ (n : Nat) (y45 : Nat) (y46 : Nat) (x47 : Int32) (x48 : Int32) (S52 : AS) Z, f_X8_find_L85 K169 n y45 y46 x47 x48 S52 = some Z → ax_fr w_X8_find S52 Z := by
  intro n
  induction n with
  | zero =>
    intro y45 y46 x47 x48 S52 Z h
    cases h
  | succ n ih =>
    intro y45 y46 x47 x48 S52 Z h
    unfold f_X8_find_L85 at h
    by_cases c4 : (6 : Int32) ≤ x48
    · rw [if_pos c4] at h
      exact (ax_fr.rf).tr (hK169 y45 y46 x47 S52 _ h)
    · rw [if_neg c4] at h
      obtain ⟨r57, _, h⟩ := ax_bd_e h
      obtain ⟨r61, S58, hq6, h⟩ := ax_bu_e h
      have FS58 : ax_fr w_X8_find S52 S58 := (ax_fr.rf).tr ((fr_X6_beatsTired hq6).mono (by decide))
      obtain ⟨_, h⟩ := ax_gd_e h
      obtain ⟨S63, eS63, h⟩ := ax_let_e h
      have FS63 : ax_fr w_X8_find S52 S63 := eS63 ▸ (FS58).tr (ax_fr_sai (by decide))
      obtain ⟨r67, _, h⟩ := ax_bd_e h
      by_cases c8 : r67 = (0 : Int32)
      · rw [if_pos c8] at h
        obtain ⟨_, h⟩ := ax_gd_e h
        obtain ⟨S70, eS70, h⟩ := ax_let_e h
        have FS70 : ax_fr w_X8_find S52 S70 := eS70 ▸ (FS63).tr (ax_fr_sai (by decide))
        obtain ⟨v71, _, h⟩ := ax_let_e h
        exact (FS70).tr (ih y45 y46 x47 v71 S70 _ h)
      · rw [if_neg c8] at h
        obtain ⟨r75, _, h⟩ := ax_bd_e h
        obtain ⟨_, h⟩ := ax_gd_e h
        obtain ⟨S77, eS77, h⟩ := ax_let_e h
        have FS77 : ax_fr w_X8_find S52 S77 := eS77 ▸ (FS63).tr (ax_fr_sai (by decide))
        obtain ⟨v78, _, h⟩ := ax_let_e h
        exact (FS77).tr (ih y45 y46 x47 v78 S77 _ h)
set_option maxRecDepth 100000 in
theorem fl_X8_find_L59 {K175 : Nat → AS → Option (AS)} (hK175 : ∀ (x0 : Nat) (x1 : AS) Z, K175 x0 x1 = some Z → ax_fr w_X8_find x1 Z) : ∀ (n : Nat) (y33 : Nat) (y34 : Nat) (x35 : Int32) (S37 : AS) Z, f_X8_find_L59 K175 n y33 y34 x35 S37 = some Z → ax_fr w_X8_find S37 Z := by
  intro n
  induction n with
  | zero =>
    intro y33 y34 x35 S37 Z h
    cases h
  | succ n ih =>
    intro y33 y34 x35 S37 Z h
    unfold f_X8_find_L59 at h
    by_cases c10 : (ax_fi S37 8 0 4) ≤ x35
    · rw [if_pos c10] at h
      exact (ax_fr.rf).tr (hK175 y34 S37 _ h)
    · rw [if_neg c10] at h
      obtain ⟨r42, _, h⟩ := ax_bd_e h
      obtain ⟨_, h⟩ := ax_gd_e h
      obtain ⟨S44, eS44, h⟩ := ax_let_e h
      have FS44 : ax_fr w_X8_find S37 S44 := eS44 ▸ (ax_fr.rf).tr (ax_fr_sai (by decide))
      refine (FS44).tr (fl_X8_find_L85 ?_ _ y33 y34 x35 (0 : Int32) S44 _ h)
      · intro x49 x50 x51 S79 Z h
        obtain ⟨v80, _, h⟩ := ax_let_e h
        exact (ax_fr.rf).tr (ih x49 x50 v80 S79 _ h)
set_option maxRecDepth 100000 in
theorem fr_X8_find {i2 : Nat} {i3 : Nat} {S : AS} {Z : AS} (h : f_X8_find i2 i3 S = some Z) : ax_fr w_X8_find S Z := by
  unfold f_X8_find at h
  obtain ⟨r7, _, h⟩ := ax_bd_e h
  obtain ⟨S8, eS8, h⟩ := ax_let_e h
  have FS8 : ax_fr w_X8_find S S8 := eS8 ▸ (ax_fr.rf).tr (ax_fr_sfi (by decide))
  obtain ⟨r12, _, h⟩ := ax_bd_e h
  obtain ⟨S13, eS13, h⟩ := ax_let_e h
  have FS13 : ax_fr w_X8_find S S13 := eS13 ▸ (FS8).tr (ax_fr_sfi (by decide))
  refine (FS13).tr (fl_X8_find_L24 ?_ _ i2 i3 (0 : Int32) S13 _ h)
  · intro x17 x18 S32 Z h
    refine (ax_fr.rf).tr (fl_X8_find_L59 ?_ _ x17 x18 (0 : Int32) S32 _ h)
    · intro x36 S81 Z h
      obtain ⟨S82, eS82, h⟩ := ax_let_e h
      have FS82 : ax_fr w_X8_find S81 S82 := eS82 ▸ (ax_fr.rf).tr (ax_fr_sfi (by decide))
      obtain ⟨S83, eS83, h⟩ := ax_let_e h
      have FS83 : ax_fr w_X8_find S81 S83 := eS83 ▸ (FS82).tr (ax_fr_sfi (by decide))
      obtain ⟨S84, eS84, h⟩ := ax_let_e h
      have FS84 : ax_fr w_X8_find S81 S84 := eS84 ▸ (FS83).tr (ax_fr_sfi (by decide))
      obtain ⟨S85, eS85, h⟩ := ax_let_e h
      have FS85 : ax_fr w_X8_find S81 S85 := eS85 ▸ (FS84).tr (ax_fr_sfi (by decide))
      obtain ⟨S86, hq14, h⟩ := ax_bd_e h
      have FS86 : ax_fr w_X8_find S81 S86 := (FS85).tr ((frg_Extend ax_D 0 (ax_fi S85 9 x36 1) (0 : Int32) (0 : Int32) (ax_fi S85 9 x36 0) (0 : Int32) S85 _ hq14).mono (by decide))
      cases h
      exact FS86
abbrev w_X11_order : List (Nat × Nat × Nat) := [(0, 5, 3), (0, 8, 4), (0, 8, 5), (0, 8, 6), (0, 8, 7), (0, 8, 8), (0, 8, 9), (4, 31, 0), (4, 32, 0), (4, 34, 0), (4, 35, 0), (4, 36, 0), (4, 37, 0)]
set_option maxRecDepth 100000 in
theorem fr_X11_order {a1 : Int32} {S : AS} {Z : AS} {r : Int32} (h : f_X11_order a1 S = some (r, Z)) : ax_fr w_X11_order S Z := by
  unfold f_X11_order at h
  obtain ⟨r4, _, h⟩ := ax_bd_e h
  by_cases c2 : r4 = (0 : Int32)
  · rw [if_pos c2] at h
    by_cases c3 : a1 < (0 : Int32)
    · rw [if_pos c3] at h
      cases h
      exact ax_fr.rf
    · rw [if_neg c3] at h
      by_cases c4 : a1 ≤ (2 : Int32)
      · rw [if_pos c4] at h
        obtain ⟨S8, hq5, h⟩ := ax_bd_e h
        have FS8 : ax_fr w_X11_order S S8 := (ax_fr.rf).tr ((fr_X8_find hq5).mono (by decide))
        by_cases c6 : a1 = (0 : Int32)
        · rw [if_pos c6] at h
          obtain ⟨r15, _, h⟩ := ax_bd_e h
          cases h
          exact FS8
        · rw [if_neg c6] at h
          by_cases c8 : a1 = (1 : Int32)
          · rw [if_pos c8] at h
            cases h
            exact FS8
          · rw [if_neg c8] at h
            cases h
            exact FS8
      · rw [if_neg c4] at h
        cases h
        exact ax_fr.rf
  · rw [if_neg c2] at h
    cases h
    exact ax_fr.rf
abbrev w_X11_perform : List (Nat × Nat × Nat) := [(0, 5, 3), (0, 7, 1), (0, 7, 2), (0, 9, 0), (0, 9, 1), (0, 9, 2), (0, 9, 3), (0, 9, 4), (0, 9, 5), (0, 9, 6), (0, 9, 7), (4, 23, 0), (4, 31, 0), (4, 32, 0), (4, 33, 0), (4, 38, 0), (4, 39, 0)]
set_option maxRecDepth 100000 in
theorem fl_X11_perform_L26 {K57 : Int32 → AS → Option (Int32 × AS)} (hK57 : ∀ (x0 : Int32) (x1 : AS) r Z, K57 x0 x1 = some (r, Z) → ax_fr w_X11_perform x1 Z) : ∀ (n : Nat) (y12 : Nat) (x13 : Int32) (S15 : AS) r Z, f_X11_perform_L26 K57 n y12 x13 S15 = some (r, Z) → ax_fr w_X11_perform S15 Z := by
  intro n
  induction n with
  | zero =>
    intro y12 x13 S15 r Z h
    cases h
  | succ n ih =>
    intro y12 x13 S15 r Z h
    unfold f_X11_perform_L26 at h
    by_cases c1 : (ax_fi S15 0 y12 2) ≤ x13
    · rw [if_pos c1] at h
      exact (ax_fr.rf).tr (hK57 x13 S15 _ _ h)
    · rw [if_neg c1] at h
      obtain ⟨r23, _, h⟩ := ax_bd_e h
      obtain ⟨r27, _, h⟩ := ax_bd_e h
      obtain ⟨r31, S28, hq4, h⟩ := ax_bu_e h
      have FS28 : ax_fr w_X11_perform S15 S28 := (ax_fr.rf).tr ((fr_X11_act hq4).mono (by decide))
      by_cases c5 : r31 = (0 : Int32)
      · rw [if_pos c5] at h
        exact (FS28).tr (hK57 x13 S28 _ _ h)
      · rw [if_neg c5] at h
        obtain ⟨v33, _, h⟩ := ax_let_e h
        exact (FS28).tr (ih y12 v33 S28 _ _ h)
set_option maxRecDepth 100000 in
theorem fr_X11_perform {a1 : Int32} {S : AS} {Z : AS} {r : Int32} (h : f_X11_perform a1 S = some (r, Z)) : ax_fr w_X11_perform S Z := by
  unfold f_X11_perform at h
  obtain ⟨r4, _, h⟩ := ax_bd_e h
  by_cases c7 : r4 = (0 : Int32)
  · rw [if_pos c7] at h
    obtain ⟨r9, _, h⟩ := ax_bd_e h
    by_cases c9 : r9 = (0 : Int32)
    · rw [if_pos c9] at h
      obtain ⟨_, h⟩ := ax_gd_e h
      refine (ax_fr.rf).tr (fl_X11_perform_L26 ?_ _ (a1.toNatClampNeg) (0 : Int32) S _ _ h)
      · intro x14 S34 r Z h
        cases h
        exact ax_fr.rf
    · rw [if_neg c9] at h
      cases h
      exact ax_fr.rf
  · rw [if_neg c7] at h
    cases h
    exact ax_fr.rf
abbrev w_X11_queue : List (Nat × Nat × Nat) := [(0, 5, 3), (0, 9, 0), (0, 9, 1), (0, 9, 2), (0, 9, 3), (0, 9, 4), (0, 9, 5), (0, 9, 6), (0, 9, 7), (4, 31, 0), (4, 32, 0), (4, 38, 0), (4, 39, 0)]
set_option maxRecDepth 100000 in
theorem fl_X11_queue_L48 {K73 : Int32 → Int32 → Int32 → Int32 → AS → Option (Int32 × AS)} (hK73 : ∀ (x0 : Int32) (x1 : Int32) (x2 : Int32) (x3 : Int32) (x4 : AS) r Z, K73 x0 x1 x2 x3 x4 = some (r, Z) → ax_fr w_X11_queue x4 Z) {K148 : Int32 → Int32 → Int32 → Int32 → AS → Option (Int32 × AS)} (hK148 : ∀ (x0 : Int32) (x1 : Int32) (x2 : Int32) (x3 : Int32) (x4 : AS) r Z, K148 x0 x1 x2 x3 x4 = some (r, Z) → ax_fr w_X11_queue x4 Z) : ∀ (n : Nat) (x12 : Int32) (x13 : Int32) (x14 : Int32) (x15 : Int32) (x16 : Int32) (x17 : Int32) (S26 : AS) r Z, f_X11_queue_L48 K73 K148 n x12 x13 x14 x15 x16 x17 S26 = some (r, Z) → ax_fr w_X11_queue S26 Z := by
  intro n
  induction n with
  | zero =>
    intro x12 x13 x14 x15 x16 x17 S26 r Z h
    cases h
  | succ n ih =>
    intro x12 x13 x14 x15 x16 x17 S26 r Z h
    unfold f_X11_queue_L48 at h
    by_cases c1 : (ax_fi S26 4 (ax_fx S26 11 0 14) 5) ≤ x17
    · rw [if_pos c1] at h
      exact (ax_fr.rf).tr (hK148 x12 x13 x14 x15 S26 _ _ h)
    · rw [if_neg c1] at h
      obtain ⟨r34, S31, hq2, h⟩ := ax_bu_e h
      have FS31 : ax_fr w_X11_queue S26 S31 := (ax_fr.rf).tr ((fr_X11_nextInQueue hq2).mono (by decide))
      by_cases c3 : r34 = (Int32.ofInt (-1))
      · rw [if_pos c3] at h
        exact (FS31).tr (hK73 x12 x13 x14 x15 S31 _ _ h)
      · rw [if_neg c3] at h
        obtain ⟨v36, _, h⟩ := ax_let_e h
        obtain ⟨v37, _, h⟩ := ax_let_e h
        obtain ⟨J40, eJ40, h⟩ := ax_let_e h
        have hJ40 : ∀ (x38 : Int32) (S39 : AS) r Z, J40 x38 S39 = some (r, Z) → ax_fr w_X11_queue S39 Z := by
          intro x38 S39 r Z h
          rw [← eJ40] at h
          try dsimp only at h
          by_cases c4 : x38 = (0 : Int32)
          · rw [if_pos c4] at h
            obtain ⟨v42, _, h⟩ := ax_let_e h
            exact (ax_fr.rf).tr (ih x12 v36 v37 x15 x38 v42 S39 _ _ h)
          · rw [if_neg c4] at h
            obtain ⟨S43, hq5, h⟩ := ax_bd_e h
            have FS43 : ax_fr w_X11_queue S39 S43 := (ax_fr.rf).tr ((fr_X6_carryOut hq5).mono (by decide))
            obtain ⟨v46, _, h⟩ := ax_let_e h
            obtain ⟨v47, _, h⟩ := ax_let_e h
            exact (FS43).tr (ih x12 v36 v37 v46 x38 v47 S43 _ _ h)
        by_cases c6 : x16 = (0 : Int32)
        · rw [if_pos c6] at h
          exact (FS31).tr (hJ40 (0 : Int32) S31 _ _ h)
        · rw [if_neg c6] at h
          obtain ⟨r52, S49, hq7, h⟩ := ax_bu_e h
          have FS49 : ax_fr w_X11_queue S26 S49 := (FS31).tr ((fr_X6_may hq7).mono (by decide))
          by_cases c8 : r52 = (0 : Int32)
          · rw [if_pos c8] at h
            exact (FS49).tr (hJ40 (0 : Int32) S49 _ _ h)
          · rw [if_neg c8] at h
            exact (FS49).tr (hJ40 (1 : Int32) S49 _ _ h)
set_option maxRecDepth 100000 in
theorem fr_X11_queue {a1 : Int32} {S : AS} {Z : AS} {r : Int32} (h : f_X11_queue a1 S = some (r, Z)) : ax_fr w_X11_queue S Z := by
  unfold f_X11_queue at h
  obtain ⟨r4, _, h⟩ := ax_bd_e h
  by_cases c10 : r4 = (0 : Int32)
  · rw [if_pos c10] at h
    by_cases c11 : a1 < (0 : Int32)
    · rw [if_pos c11] at h
      cases h
      exact ax_fr.rf
    · rw [if_neg c11] at h
      by_cases c12 : a1 ≤ (1 : Int32)
      · rw [if_pos c12] at h
        obtain ⟨S8, hq13, h⟩ := ax_bd_e h
        have FS8 : ax_fr w_X11_queue S S8 := (ax_fr.rf).tr ((fr_X9_copyFrom hq13).mono (by decide))
        obtain ⟨v11, _, h⟩ := ax_let_e h
        refine (FS8).tr (fl_X11_queue_L48 ?_ ?_ _ a1 v11 (0 : Int32) (0 : Int32) (1 : Int32) (0 : Int32) S8 _ _ h)
        · intro x18 x19 x20 x21 S54 r Z h
          by_cases c14 : x18 = (1 : Int32)
          · rw [if_pos c14] at h
            cases h
            exact ax_fr.rf
          · rw [if_neg c14] at h
            by_cases c15 : x19 = (ax_fi S54 9 0 1)
            · rw [if_pos c15] at h
              cases h
              exact ax_fr.rf
            · rw [if_neg c15] at h
              cases h
              exact ax_fr.rf
        · intro x22 x23 x24 x25 S57 r Z h
          by_cases c16 : x22 = (1 : Int32)
          · rw [if_pos c16] at h
            cases h
            exact ax_fr.rf
          · rw [if_neg c16] at h
            by_cases c17 : x23 = (ax_fi S57 9 0 1)
            · rw [if_pos c17] at h
              cases h
              exact ax_fr.rf
            · rw [if_neg c17] at h
              cases h
              exact ax_fr.rf
      · rw [if_neg c12] at h
        cases h
        exact ax_fr.rf
  · rw [if_neg c10] at h
    cases h
    exact ax_fr.rf
abbrev w_X11_rests : List (Nat × Nat × Nat) := [(0, 5, 3), (4, 31, 0), (4, 32, 0), (4, 43, 0)]
set_option maxRecDepth 100000 in
theorem fl_X11_rests_L14 {K58 : Int32 → AS → Option (Int32 × AS)} (hK58 : ∀ (x0 : Int32) (x1 : AS) r Z, K58 x0 x1 = some (r, Z) → ax_fr w_X11_rests x1 Z) : ∀ (n : Nat) (x6 : Int32) (x7 : Int32) (x8 : Int32) (x9 : Int32) (S11 : AS) r Z, f_X11_rests_L14 K58 n x6 x7 x8 x9 S11 = some (r, Z) → ax_fr w_X11_rests S11 Z := by
  intro n
  induction n with
  | zero =>
    intro x6 x7 x8 x9 S11 r Z h
    cases h
  | succ n ih =>
    intro x6 x7 x8 x9 S11 r Z h
    unfold f_X11_rests_L14 at h
    by_cases c1 : (3 : Int32) < x9
    · rw [if_pos c1] at h
      exact (ax_fr.rf).tr (hK58 x8 S11 _ _ h)
    · rw [if_neg c1] at h
      obtain ⟨r16, S13, hq2, h⟩ := ax_bu_e h
      have FS13 : ax_fr w_X11_rests S11 S13 := (ax_fr.rf).tr ((fr_X11_prize hq2).mono (by decide))
      obtain ⟨_, h⟩ := ax_gd_e h
      obtain ⟨S18, eS18, h⟩ := ax_let_e h
      have FS18 : ax_fr w_X11_rests S11 S18 := eS18 ▸ (FS13).tr (ax_fr_sai (by decide))
      obtain ⟨r22, S19, hq3, h⟩ := ax_bu_e h
      have FS19 : ax_fr w_X11_rests S11 S19 := (FS18).tr ((fr_X11_prize hq3).mono (by decide))
      obtain ⟨_, h⟩ := ax_gd_e h
      obtain ⟨S24, eS24, h⟩ := ax_let_e h
      have FS24 : ax_fr w_X11_rests S11 S24 := eS24 ▸ (FS19).tr (ax_fr_sai (by decide))
      obtain ⟨v25, _, h⟩ := ax_let_e h
      exact (FS24).tr (ih x6 x7 x8 v25 S24 _ _ h)
set_option maxRecDepth 100000 in
theorem fl_X11_rests_L73 {K151 : Int32 → Int32 → Int32 → AS → Option (Int32 × AS)} (hK151 : ∀ (x0 : Int32) (x1 : Int32) (x2 : Int32) (x3 : AS) r Z, K151 x0 x1 x2 x3 = some (r, Z) → ax_fr w_X11_rests x3 Z) : ∀ (n : Nat) (x34 : Int32) (x35 : Int32) (x36 : Int32) (x37 : Int32) (S41 : AS) r Z, f_X11_rests_L73 K151 n x34 x35 x36 x37 S41 = some (r, Z) → ax_fr w_X11_rests S41 Z := by
  intro n
  induction n with
  | zero =>
    intro x34 x35 x36 x37 S41 r Z h
    cases h
  | succ n ih =>
    intro x34 x35 x36 x37 S41 r Z h
    unfold f_X11_rests_L73 at h
    by_cases c4 : (3 : Int32) < x37
    · rw [if_pos c4] at h
      exact (ax_fr.rf).tr (hK151 x34 x35 x36 S41 _ _ h)
    · rw [if_neg c4] at h
      obtain ⟨r46, _, h⟩ := ax_bd_e h
      obtain ⟨J49, eJ49, h⟩ := ax_let_e h
      have hJ49 : ∀ (x47 : Int32) (S48 : AS) r Z, J49 x47 S48 = some (r, Z) → ax_fr w_X11_rests S48 Z := by
        intro x47 S48 r Z h
        rw [← eJ49] at h
        try dsimp only at h
        by_cases c6 : x47 = (0 : Int32)
        · rw [if_pos c6] at h
          by_cases c7 : x47 = (0 : Int32)
          · rw [if_pos c7] at h
            obtain ⟨v52, _, h⟩ := ax_let_e h
            obtain ⟨v53, _, h⟩ := ax_let_e h
            exact (ax_fr.rf).tr (ih x34 v52 x36 v53 S48 _ _ h)
          · rw [if_neg c7] at h
            obtain ⟨v54, _, h⟩ := ax_let_e h
            obtain ⟨v55, _, h⟩ := ax_let_e h
            exact (ax_fr.rf).tr (ih x34 v54 x36 v55 S48 _ _ h)
        · rw [if_neg c6] at h
          by_cases c8 : x35 = x34
          · rw [if_pos c8] at h
            cases h
            exact ax_fr.rf
          · rw [if_neg c8] at h
            by_cases c9 : x47 = (0 : Int32)
            · rw [if_pos c9] at h
              obtain ⟨v58, _, h⟩ := ax_let_e h
              obtain ⟨v59, _, h⟩ := ax_let_e h
              exact (ax_fr.rf).tr (ih x34 v58 x36 v59 S48 _ _ h)
            · rw [if_neg c9] at h
              obtain ⟨v60, _, h⟩ := ax_let_e h
              obtain ⟨v61, _, h⟩ := ax_let_e h
              exact (ax_fr.rf).tr (ih x34 v60 x36 v61 S48 _ _ h)
      by_cases c10 : r46 = (0 : Int32)
      · rw [if_pos c10] at h
        exact (ax_fr.rf).tr (hJ49 (0 : Int32) S41 _ _ h)
      · rw [if_neg c10] at h
        obtain ⟨r66, _, h⟩ := ax_bd_e h
        by_cases c12 : r66 = (0 : Int32)
        · rw [if_pos c12] at h
          exact (ax_fr.rf).tr (hJ49 (0 : Int32) S41 _ _ h)
        · rw [if_neg c12] at h
          exact (ax_fr.rf).tr (hJ49 (1 : Int32) S41 _ _ h)
set_option maxRecDepth 100000 in
theorem fl_X11_rests_L64 {K157 : Int32 → Int32 → AS → Option (Int32 × AS)} (hK157 : ∀ (x0 : Int32) (x1 : Int32) (x2 : AS) r Z, K157 x0 x1 x2 = some (r, Z) → ax_fr w_X11_rests x2 Z) : ∀ (n : Nat) (x27 : Int32) (x28 : Int32) (x29 : Int32) (S32 : AS) r Z, f_X11_rests_L64 K157 n x27 x28 x29 S32 = some (r, Z) → ax_fr w_X11_rests S32 Z := by
  intro n
  induction n with
  | zero =>
    intro x27 x28 x29 S32 r Z h
    cases h
  | succ n ih =>
    intro x27 x28 x29 S32 r Z h
    unfold f_X11_rests_L64 at h
    by_cases c13 : (3 : Int32) < x29
    · rw [if_pos c13] at h
      exact (ax_fr.rf).tr (hK157 x27 x28 S32 _ _ h)
    · rw [if_neg c13] at h
      refine (ax_fr.rf).tr (fl_X11_rests_L73 ?_ _ x27 x28 x29 (0 : Int32) S32 _ _ h)
      · intro x38 x39 x40 S68 r Z h
        obtain ⟨v69, _, h⟩ := ax_let_e h
        exact (ax_fr.rf).tr (ih x38 x39 v69 S68 _ _ h)
set_option maxRecDepth 100000 in
theorem fr_X11_rests {a1 : Int32} {a2 : Int32} {a3 : Int32} {S : AS} {Z : AS} {r : Int32} (h : f_X11_rests a1 a2 a3 S = some (r, Z)) : ax_fr w_X11_rests S Z := by
  unfold f_X11_rests at h
  obtain ⟨r4, _, h⟩ := ax_bd_e h
  by_cases c15 : r4 = (0 : Int32)
  · rw [if_pos c15] at h
    refine (ax_fr.rf).tr (fl_X11_rests_L14 ?_ _ a1 a2 a3 (0 : Int32) S _ _ h)
    · intro x10 S26 r Z h
      refine (ax_fr.rf).tr (fl_X11_rests_L64 ?_ _ x10 (0 : Int32) (0 : Int32) S26 _ _ h)
      · intro x30 x31 S70 r Z h
        by_cases c16 : x30 = (Int32.ofInt (-1))
        · rw [if_pos c16] at h
          cases h
          exact ax_fr.rf
        · rw [if_neg c16] at h
          cases h
          exact ax_fr.rf
  · rw [if_neg c15] at h
    cases h
    exact ax_fr.rf
abbrev w_X11_run : List (Nat × Nat × Nat) := [(0, 5, 3), (0, 9, 0), (0, 9, 1), (0, 9, 2), (0, 9, 3), (0, 9, 4), (0, 9, 5), (0, 9, 6), (0, 9, 7), (4, 31, 0), (4, 32, 0), (4, 38, 0), (4, 39, 0)]
set_option maxRecDepth 100000 in
theorem fl_X11_run_L49 {K113 : Int32 → Nat → Int32 → AS → Option (Int32 × AS)} (hK113 : ∀ (x0 : Int32) (x1 : Nat) (x2 : Int32) (x3 : AS) r Z, K113 x0 x1 x2 x3 = some (r, Z) → ax_fr w_X11_run x3 Z) : ∀ (n : Nat) (x17 : Int32) (y18 : Nat) (x19 : Int32) (S23 : AS) r Z, f_X11_run_L49 K113 n x17 y18 x19 S23 = some (r, Z) → ax_fr w_X11_run S23 Z := by
  intro n
  induction n with
  | zero =>
    intro x17 y18 x19 S23 r Z h
    cases h
  | succ n ih =>
    intro x17 y18 x19 S23 r Z h
    unfold f_X11_run_L49 at h
    by_cases c1 : (ax_fi S23 0 y18 2) ≤ x19
    · rw [if_pos c1] at h
      exact (ax_fr.rf).tr (hK113 x17 y18 x19 S23 _ _ h)
    · rw [if_neg c1] at h
      obtain ⟨r31, _, h⟩ := ax_bd_e h
      obtain ⟨r35, _, h⟩ := ax_bd_e h
      obtain ⟨r39, S36, hq4, h⟩ := ax_bu_e h
      have FS36 : ax_fr w_X11_run S23 S36 := (ax_fr.rf).tr ((fr_X6_may hq4).mono (by decide))
      by_cases c5 : r39 = (0 : Int32)
      · rw [if_pos c5] at h
        exact (FS36).tr (hK113 x17 y18 x19 S36 _ _ h)
      · rw [if_neg c5] at h
        obtain ⟨r44, _, h⟩ := ax_bd_e h
        obtain ⟨r48, _, h⟩ := ax_bd_e h
        obtain ⟨S49, hq8, h⟩ := ax_bd_e h
        have FS49 : ax_fr w_X11_run S23 S49 := (FS36).tr ((fr_X6_carryOut hq8).mono (by decide))
        obtain ⟨v52, _, h⟩ := ax_let_e h
        exact (FS49).tr (ih x17 y18 v52 S49 _ _ h)
set_option maxRecDepth 100000 in
theorem fr_X11_run {a1 : Int32} {a2 : Int32} {S : AS} {Z : AS} {r : Int32} (h : f_X11_run a1 a2 S = some (r, Z)) : ax_fr w_X11_run S Z := by
  unfold f_X11_run at h
  obtain ⟨r4, _, h⟩ := ax_bd_e h
  by_cases c10 : r4 = (0 : Int32)
  · rw [if_pos c10] at h
    obtain ⟨r9, _, h⟩ := ax_bd_e h
    by_cases c12 : r9 = (0 : Int32)
    · rw [if_pos c12] at h
      by_cases c13 : a2 < (0 : Int32)
      · rw [if_pos c13] at h
        cases h
        exact ax_fr.rf
      · rw [if_neg c13] at h
        by_cases c14 : a2 ≤ (1 : Int32)
        · rw [if_pos c14] at h
          obtain ⟨_, h⟩ := ax_gd_e h
          obtain ⟨S14, hq15, h⟩ := ax_bd_e h
          have FS14 : ax_fr w_X11_run S S14 := (ax_fr.rf).tr ((fr_X9_copyFrom hq15).mono (by decide))
          refine (FS14).tr (fl_X11_run_L49 ?_ _ a2 (a1.toNatClampNeg) (0 : Int32) S14 _ _ h)
          · intro x20 x21 x22 S53 r Z h
            by_cases c16 : x20 = (1 : Int32)
            · rw [if_pos c16] at h
              cases h
              exact ax_fr.rf
            · rw [if_neg c16] at h
              by_cases c17 : x22 = (ax_fi S53 0 x21 2)
              · rw [if_pos c17] at h
                cases h
                exact ax_fr.rf
              · rw [if_neg c17] at h
                cases h
                exact ax_fr.rf
        · rw [if_neg c14] at h
          cases h
          exact ax_fr.rf
    · rw [if_neg c12] at h
      cases h
      exact ax_fr.rf
  · rw [if_neg c10] at h
    cases h
    exact ax_fr.rf
abbrev w_X11_sing : List (Nat × Nat × Nat) := [(0, 5, 3), (0, 7, 1), (0, 7, 2), (0, 9, 0), (0, 9, 1), (0, 9, 2), (0, 9, 3), (0, 9, 4), (0, 9, 5), (0, 9, 6), (0, 9, 7), (4, 23, 0), (4, 31, 0), (4, 32, 0), (4, 33, 0), (4, 38, 0), (4, 39, 0)]
set_option maxRecDepth 100000 in
theorem fr_X11_sing {S : AS} {Z : AS} {r : Int32} (h : f_X11_sing S = some (r, Z)) : ax_fr w_X11_sing S Z := by
  unfold f_X11_sing at h
  obtain ⟨r4, S1, hq1, h⟩ := ax_bu_e h
  have FS1 : ax_fr w_X11_sing S S1 := (ax_fr.rf).tr ((fr_X11_act hq1).mono (by decide))
  by_cases c2 : r4 = (0 : Int32)
  · rw [if_pos c2] at h
    cases h
    exact FS1
  · rw [if_neg c2] at h
    cases h
    exact FS1
abbrev w_X11_span : List (Nat × Nat × Nat) := [(0, 5, 3), (4, 31, 0), (4, 32, 0)]
set_option maxRecDepth 100000 in
theorem fl_X11_span_L52 {K95 : Int32 → Int32 → AS → Option (Int32 × AS)} (hK95 : ∀ (x0 : Int32) (x1 : Int32) (x2 : AS) r Z, K95 x0 x1 x2 = some (r, Z) → ax_fr w_X11_span x2 Z) : ∀ (n : Nat) (x20 : Int32) (x21 : Int32) (x22 : Int32) (x23 : Int32) (S26 : AS) r Z, f_X11_span_L52 K95 n x20 x21 x22 x23 S26 = some (r, Z) → ax_fr w_X11_span S26 Z := by
  intro n
  induction n with
  | zero =>
    intro x20 x21 x22 x23 S26 r Z h
    cases h
  | succ n ih =>
    intro x20 x21 x22 x23 S26 r Z h
    unfold f_X11_span_L52 at h
    by_cases c1 : (3 : Int32) < x23
    · rw [if_pos c1] at h
      exact (ax_fr.rf).tr (hK95 x21 x22 S26 _ _ h)
    · rw [if_neg c1] at h
      obtain ⟨r31, S28, hq2, h⟩ := ax_bu_e h
      have FS28 : ax_fr w_X11_span S26 S28 := (ax_fr.rf).tr ((fr_X6_beatsTitled hq2).mono (by decide))
      obtain ⟨r35, _, h⟩ := ax_bd_e h
      by_cases c4 : r35 < r31
      · rw [if_pos c4] at h
        obtain ⟨v37, _, h⟩ := ax_let_e h
        exact (FS28).tr (ih x20 x21 x22 v37 S28 _ _ h)
      · rw [if_neg c4] at h
        obtain ⟨v38, _, h⟩ := ax_let_e h
        exact (FS28).tr (ih x20 x21 x23 v38 S28 _ _ h)
set_option maxRecDepth 100000 in
theorem fr_X11_span {a1 : Int32} {S : AS} {Z : AS} {r : Int32} (h : f_X11_span a1 S = some (r, Z)) : ax_fr w_X11_span S Z := by
  unfold f_X11_span at h
  obtain ⟨r4, _, h⟩ := ax_bd_e h
  by_cases c6 : r4 = (0 : Int32)
  · rw [if_pos c6] at h
    obtain ⟨r9, S6, hq7, h⟩ := ax_bu_e h
    have FS6 : ax_fr w_X11_span S S6 := (ax_fr.rf).tr ((fr_X6_beatsNow hq7).mono (by decide))
    obtain ⟨r13, _, h⟩ := ax_bd_e h
    by_cases c9 : r9 ≤ r13
    · rw [if_pos c9] at h
      obtain ⟨r18, _, h⟩ := ax_bd_e h
      obtain ⟨v19, _, h⟩ := ax_let_e h
      refine (FS6).tr (fl_X11_span_L52 ?_ _ a1 r18 r18 v19 S6 _ _ h)
      · intro x24 x25 S39 r Z h
        cases h
        exact ax_fr.rf
    · rw [if_neg c9] at h
      cases h
      exact FS6
  · rw [if_neg c6] at h
    cases h
    exact ax_fr.rf
abbrev w_X6_beatsSung : List (Nat × Nat × Nat) := [(0, 5, 3), (4, 31, 0), (4, 32, 0)]
set_option maxRecDepth 100000 in
theorem fr_X6_beatsSung {i1 : Nat} {a2 : Int32} {a3 : Int32} {S : AS} {Z : AS} {r : Int32} (h : f_X6_beatsSung i1 a2 a3 S = some (r, Z)) : ax_fr w_X6_beatsSung S Z := by
  unfold f_X6_beatsSung at h
  obtain ⟨r4, _, h⟩ := ax_bd_e h
  obtain ⟨r8, _, h⟩ := ax_bd_e h
  obtain ⟨r12, S9, hq3, h⟩ := ax_bu_e h
  have FS9 : ax_fr w_X6_beatsSung S S9 := (ax_fr.rf).tr ((fr_X6_beats hq3).mono (by decide))
  cases h
  exact FS9
abbrev w_X11_sung : List (Nat × Nat × Nat) := [(0, 5, 3), (4, 31, 0), (4, 32, 0)]
set_option maxRecDepth 100000 in
theorem fr_X11_sung {a1 : Int32} {a2 : Int32} {S : AS} {Z : AS} {r : Int32} (h : f_X11_sung a1 a2 S = some (r, Z)) : ax_fr w_X11_sung S Z := by
  unfold f_X11_sung at h
  obtain ⟨r4, _, h⟩ := ax_bd_e h
  by_cases c2 : r4 = (0 : Int32)
  · rw [if_pos c2] at h
    by_cases c3 : a2 < (0 : Int32)
    · rw [if_pos c3] at h
      cases h
      exact ax_fr.rf
    · rw [if_neg c3] at h
      by_cases c4 : a2 ≤ (1 : Int32)
      · rw [if_pos c4] at h
        by_cases c5 : a2 = (0 : Int32)
        · rw [if_pos c5] at h
          obtain ⟨r16, S13, hq6, h⟩ := ax_bu_e h
          have FS13 : ax_fr w_X11_sung S S13 := (ax_fr.rf).tr ((fr_X6_beatsSung hq6).mono (by decide))
          cases h
          exact FS13
        · rw [if_neg c5] at h
          obtain ⟨r12, S9, hq7, h⟩ := ax_bu_e h
          have FS9 : ax_fr w_X11_sung S S9 := (ax_fr.rf).tr ((fr_X6_beatsSung hq7).mono (by decide))
          cases h
          exact FS9
      · rw [if_neg c4] at h
        cases h
        exact ax_fr.rf
  · rw [if_neg c2] at h
    cases h
    exact ax_fr.rf
abbrev w_X11_text : List (Nat × Nat × Nat) := [(0, 0, 2), (0, 3, 3), (0, 4, 3), (0, 4, 4), (0, 4, 5), (0, 5, 2), (0, 7, 1), (0, 7, 2), (0, 9, 0), (0, 9, 1), (0, 9, 2), (0, 9, 3), (0, 9, 4), (0, 9, 5), (0, 9, 6), (0, 9, 7), (0, 10, 1), (0, 10, 2), (0, 10, 3), (0, 11, 16), (0, 11, 17), (0, 11, 19), (2, 11, 14), (2, 11, 15), (3, 6, 1), (4, 20, 0), (4, 21, 0), (4, 27, 0), (4, 28, 0), (4, 29, 0), (4, 30, 0), (4, 38, 0), (4, 39, 0)]
set_option maxRecDepth 100000 in
theorem fr_X11_text {a1 : Int32} {S : AS} {Z : AS} {r : Int32} (h : f_X11_text a1 S = some (r, Z)) : ax_fr w_X11_text S Z := by
  unfold f_X11_text at h
  by_cases c1 : a1 = (1 : Int32)
  · rw [if_pos c1] at h
    by_cases c2 : (4 : Int32) ≤ (ax_fi S 11 0 16)
    · rw [if_pos c2] at h
      cases h
      exact ax_fr.rf
    · rw [if_neg c2] at h
      by_cases c3 : a1 = (2 : Int32)
      · rw [if_pos c3] at h
        by_cases c4 : (ax_fi S 11 0 17) < (4 : Int32)
        · rw [if_pos c4] at h
          obtain ⟨r67, S64, hq5, h⟩ := ax_bu_e h
          have FS64 : ax_fr w_X11_text S S64 := (ax_fr.rf).tr ((fr_X11_fault hq5).mono (by decide))
          by_cases c6 : r67 = (Int32.ofInt (-1))
          · rw [if_pos c6] at h
            obtain ⟨r72, S69, hq7, h⟩ := ax_bu_e h
            have FS69 : ax_fr w_X11_text S S69 := (FS64).tr ((fr_X10_cut hq7).mono (by decide))
            by_cases c8 : a1 = (0 : Int32)
            · rw [if_pos c8] at h
              obtain ⟨S74, hq9, h⟩ := ax_bd_e h
              have FS74 : ax_fr w_X11_text S S74 := (FS69).tr ((fr_X11_moveIn hq9).mono (by decide))
              cases h
              exact FS74
            · rw [if_neg c8] at h
              by_cases c10 : a1 = (1 : Int32)
              · rw [if_pos c10] at h
                obtain ⟨S81, eS81, h⟩ := ax_let_e h
                have FS81 : ax_fr w_X11_text S S81 := eS81 ▸ (FS69).tr (ax_fr_sfi (by decide))
                cases h
                exact FS81
              · rw [if_neg c10] at h
                obtain ⟨S82, eS82, h⟩ := ax_let_e h
                have FS82 : ax_fr w_X11_text S S82 := eS82 ▸ (FS69).tr (ax_fr_sfi (by decide))
                cases h
                exact FS82
          · rw [if_neg c6] at h
            cases h
            exact FS64
        · rw [if_neg c4] at h
          cases h
          exact ax_fr.rf
      · rw [if_neg c3] at h
        obtain ⟨r47, S44, hq11, h⟩ := ax_bu_e h
        have FS44 : ax_fr w_X11_text S S44 := (ax_fr.rf).tr ((fr_X11_fault hq11).mono (by decide))
        by_cases c12 : r47 = (Int32.ofInt (-1))
        · rw [if_pos c12] at h
          obtain ⟨r52, S49, hq13, h⟩ := ax_bu_e h
          have FS49 : ax_fr w_X11_text S S49 := (FS44).tr ((fr_X10_cut hq13).mono (by decide))
          by_cases c14 : a1 = (0 : Int32)
          · rw [if_pos c14] at h
            obtain ⟨S54, hq15, h⟩ := ax_bd_e h
            have FS54 : ax_fr w_X11_text S S54 := (FS49).tr ((fr_X11_moveIn hq15).mono (by decide))
            cases h
            exact FS54
          · rw [if_neg c14] at h
            by_cases c16 : a1 = (1 : Int32)
            · rw [if_pos c16] at h
              obtain ⟨S61, eS61, h⟩ := ax_let_e h
              have FS61 : ax_fr w_X11_text S S61 := eS61 ▸ (FS49).tr (ax_fr_sfi (by decide))
              cases h
              exact FS61
            · rw [if_neg c16] at h
              obtain ⟨S62, eS62, h⟩ := ax_let_e h
              have FS62 : ax_fr w_X11_text S S62 := eS62 ▸ (FS49).tr (ax_fr_sfi (by decide))
              cases h
              exact FS62
        · rw [if_neg c12] at h
          cases h
          exact FS44
  · rw [if_neg c1] at h
    by_cases c17 : a1 = (2 : Int32)
    · rw [if_pos c17] at h
      by_cases c18 : (ax_fi S 11 0 17) < (4 : Int32)
      · rw [if_pos c18] at h
        obtain ⟨r26, S23, hq19, h⟩ := ax_bu_e h
        have FS23 : ax_fr w_X11_text S S23 := (ax_fr.rf).tr ((fr_X11_fault hq19).mono (by decide))
        by_cases c20 : r26 = (Int32.ofInt (-1))
        · rw [if_pos c20] at h
          obtain ⟨r31, S28, hq21, h⟩ := ax_bu_e h
          have FS28 : ax_fr w_X11_text S S28 := (FS23).tr ((fr_X10_cut hq21).mono (by decide))
          by_cases c22 : a1 = (0 : Int32)
          · rw [if_pos c22] at h
            obtain ⟨S33, hq23, h⟩ := ax_bd_e h
            have FS33 : ax_fr w_X11_text S S33 := (FS28).tr ((fr_X11_moveIn hq23).mono (by decide))
            cases h
            exact FS33
          · rw [if_neg c22] at h
            by_cases c24 : a1 = (1 : Int32)
            · rw [if_pos c24] at h
              obtain ⟨S40, eS40, h⟩ := ax_let_e h
              have FS40 : ax_fr w_X11_text S S40 := eS40 ▸ (FS28).tr (ax_fr_sfi (by decide))
              cases h
              exact FS40
            · rw [if_neg c24] at h
              obtain ⟨S41, eS41, h⟩ := ax_let_e h
              have FS41 : ax_fr w_X11_text S S41 := eS41 ▸ (FS28).tr (ax_fr_sfi (by decide))
              cases h
              exact FS41
        · rw [if_neg c20] at h
          cases h
          exact FS23
      · rw [if_neg c18] at h
        cases h
        exact ax_fr.rf
    · rw [if_neg c17] at h
      obtain ⟨r6, S3, hq25, h⟩ := ax_bu_e h
      have FS3 : ax_fr w_X11_text S S3 := (ax_fr.rf).tr ((fr_X11_fault hq25).mono (by decide))
      by_cases c26 : r6 = (Int32.ofInt (-1))
      · rw [if_pos c26] at h
        obtain ⟨r11, S8, hq27, h⟩ := ax_bu_e h
        have FS8 : ax_fr w_X11_text S S8 := (FS3).tr ((fr_X10_cut hq27).mono (by decide))
        by_cases c28 : a1 = (0 : Int32)
        · rw [if_pos c28] at h
          obtain ⟨S13, hq29, h⟩ := ax_bd_e h
          have FS13 : ax_fr w_X11_text S S13 := (FS8).tr ((fr_X11_moveIn hq29).mono (by decide))
          cases h
          exact FS13
        · rw [if_neg c28] at h
          by_cases c30 : a1 = (1 : Int32)
          · rw [if_pos c30] at h
            obtain ⟨S20, eS20, h⟩ := ax_let_e h
            have FS20 : ax_fr w_X11_text S S20 := eS20 ▸ (FS8).tr (ax_fr_sfi (by decide))
            cases h
            exact FS20
          · rw [if_neg c30] at h
            obtain ⟨S21, eS21, h⟩ := ax_let_e h
            have FS21 : ax_fr w_X11_text S S21 := eS21 ▸ (FS8).tr (ax_fr_sfi (by decide))
            cases h
            exact FS21
      · rw [if_neg c26] at h
        cases h
        exact FS3
abbrev w_X11_timed : List (Nat × Nat × Nat) := [(0, 5, 3), (4, 31, 0), (4, 32, 0)]
set_option maxRecDepth 100000 in
theorem fl_X11_timed_L20 {K59 : Int32 → AS → Option (Int32 × AS)} (hK59 : ∀ (x0 : Int32) (x1 : AS) r Z, K59 x0 x1 = some (r, Z) → ax_fr w_X11_timed x1 Z) : ∀ (n : Nat) (x11 : Int32) (x12 : Int32) (x13 : Int32) (S15 : AS) r Z, f_X11_timed_L20 K59 n x11 x12 x13 S15 = some (r, Z) → ax_fr w_X11_timed S15 Z := by
  intro n
  induction n with
  | zero =>
    intro x11 x12 x13 S15 r Z h
    cases h
  | succ n ih =>
    intro x11 x12 x13 S15 r Z h
    unfold f_X11_timed_L20 at h
    by_cases c1 : (ax_fi S15 4 (ax_fx S15 11 0 14) 5) ≤ x13
    · rw [if_pos c1] at h
      exact (ax_fr.rf).tr (hK59 x12 S15 _ _ h)
    · rw [if_neg c1] at h
      obtain ⟨r23, S20, hq2, h⟩ := ax_bu_e h
      have FS20 : ax_fr w_X11_timed S15 S20 := (ax_fr.rf).tr ((fr_X6_beatsNow hq2).mono (by decide))
      by_cases c3 : r23 = x11
      · rw [if_pos c3] at h
        obtain ⟨v26, _, h⟩ := ax_let_e h
        obtain ⟨v27, _, h⟩ := ax_let_e h
        exact (FS20).tr (ih x11 v26 v27 S20 _ _ h)
      · rw [if_neg c3] at h
        obtain ⟨v25, _, h⟩ := ax_let_e h
        exact (FS20).tr (ih x11 x12 v25 S20 _ _ h)
set_option maxRecDepth 100000 in
theorem fr_X11_timed {a1 : Int32} {S : AS} {Z : AS} {r : Int32} (h : f_X11_timed a1 S = some (r, Z)) : ax_fr w_X11_timed S Z := by
  unfold f_X11_timed at h
  obtain ⟨r4, _, h⟩ := ax_bd_e h
  by_cases c5 : r4 = (0 : Int32)
  · rw [if_pos c5] at h
    obtain ⟨r9, _, h⟩ := ax_bd_e h
    by_cases c7 : r9 = (0 : Int32)
    · rw [if_pos c7] at h
      refine (ax_fr.rf).tr (fl_X11_timed_L20 ?_ _ a1 (0 : Int32) (0 : Int32) S _ _ h)
      · intro x14 S28 r Z h
        cases h
        exact ax_fr.rf
    · rw [if_neg c7] at h
      cases h
      exact ax_fr.rf
  · rw [if_neg c5] at h
    cases h
    exact ax_fr.rf
abbrev w_X11_title : List (Nat × Nat × Nat) := [(0, 5, 3), (0, 7, 1), (0, 7, 2), (0, 9, 0), (0, 9, 1), (0, 9, 2), (0, 9, 3), (0, 9, 4), (0, 9, 5), (0, 9, 6), (0, 9, 7), (4, 23, 0), (4, 31, 0), (4, 32, 0), (4, 33, 0), (4, 38, 0), (4, 39, 0)]
set_option maxRecDepth 100000 in
theorem fr_X11_title {a1 : Int32} {S : AS} {Z : AS} {r : Int32} (h : f_X11_title a1 S = some (r, Z)) : ax_fr w_X11_title S Z := by
  unfold f_X11_title at h
  obtain ⟨r4, S1, hq1, h⟩ := ax_bu_e h
  have FS1 : ax_fr w_X11_title S S1 := (ax_fr.rf).tr ((fr_X11_act hq1).mono (by decide))
  by_cases c2 : r4 = (0 : Int32)
  · rw [if_pos c2] at h
    cases h
    exact FS1
  · rw [if_neg c2] at h
    obtain ⟨r9, _, h⟩ := ax_bd_e h
    cases h
    exact FS1
abbrev w_X9_loadFrom_33x0 : List (Nat × Nat × Nat) := [(0, 9, 0), (0, 9, 1), (0, 9, 2), (0, 9, 3), (0, 9, 4), (0, 9, 5), (0, 9, 6), (0, 9, 7), (4, 38, 0), (4, 39, 0)]
set_option maxRecDepth 100000 in
theorem fr_X9_loadFrom_33x0 {i0 : Nat} {a2 : Int32} {S : AS} {Z : AS} (h : f_X9_loadFrom_33x0 i0 a2 S = some Z) : ax_fr w_X9_loadFrom_33x0 S Z := by
  unfold f_X9_loadFrom_33x0 at h
  by_cases c1 : a2 < (0 : Int32)
  · rw [if_pos c1] at h
    cases h
    exact ax_fr.rf
  · rw [if_neg c1] at h
    by_cases c2 : (a2 + (18 : Int32)) ≤ (Int32.ofNat 720)
    · rw [if_pos c2] at h
      obtain ⟨_, h⟩ := ax_gd_e h
      obtain ⟨S4, eS4, h⟩ := ax_let_e h
      have FS4 : ax_fr w_X9_loadFrom_33x0 S S4 := eS4 ▸ (ax_fr.rf).tr (ax_fr_sfi (by decide))
      obtain ⟨_, h⟩ := ax_gd_e h
      obtain ⟨S6, eS6, h⟩ := ax_let_e h
      have FS6 : ax_fr w_X9_loadFrom_33x0 S S6 := eS6 ▸ (FS4).tr (ax_fr_sfi (by decide))
      obtain ⟨_, h⟩ := ax_gd_e h
      obtain ⟨S8, eS8, h⟩ := ax_let_e h
      have FS8 : ax_fr w_X9_loadFrom_33x0 S S8 := eS8 ▸ (FS6).tr (ax_fr_sfi (by decide))
      obtain ⟨_, h⟩ := ax_gd_e h
      obtain ⟨S10, eS10, h⟩ := ax_let_e h
      have FS10 : ax_fr w_X9_loadFrom_33x0 S S10 := eS10 ▸ (FS8).tr (ax_fr_sfi (by decide))
      obtain ⟨_, h⟩ := ax_gd_e h
      obtain ⟨S12, eS12, h⟩ := ax_let_e h
      have FS12 : ax_fr w_X9_loadFrom_33x0 S S12 := eS12 ▸ (FS10).tr (ax_fr_sfi (by decide))
      obtain ⟨_, h⟩ := ax_gd_e h
      obtain ⟨S14, eS14, h⟩ := ax_let_e h
      have FS14 : ax_fr w_X9_loadFrom_33x0 S S14 := eS14 ▸ (FS12).tr (ax_fr_sfi (by decide))
      obtain ⟨_, h⟩ := ax_gd_e h
      obtain ⟨S16, eS16, h⟩ := ax_let_e h
      have FS16 : ax_fr w_X9_loadFrom_33x0 S S16 := eS16 ▸ (FS14).tr (ax_fr_sfi (by decide))
      obtain ⟨_, h⟩ := ax_gd_e h
      obtain ⟨S18, eS18, h⟩ := ax_let_e h
      have FS18 : ax_fr w_X9_loadFrom_33x0 S S18 := eS18 ▸ (FS16).tr (ax_fr_sfi (by decide))
      obtain ⟨_, h⟩ := ax_gd_e h
      obtain ⟨S20, eS20, h⟩ := ax_let_e h
      have FS20 : ax_fr w_X9_loadFrom_33x0 S S20 := eS20 ▸ (FS18).tr (ax_fr_cpy (by decide))
      obtain ⟨_, h⟩ := ax_gd_e h
      obtain ⟨S22, eS22, h⟩ := ax_let_e h
      have FS22 : ax_fr w_X9_loadFrom_33x0 S S22 := eS22 ▸ (FS20).tr (ax_fr_cpy (by decide))
      cases h
      exact FS22
    · rw [if_neg c2] at h
      cases h
      exact ax_fr.rf
abbrev w_X7_bringBack : List (Nat × Nat × Nat) := [(0, 7, 1), (0, 7, 2), (0, 9, 0), (0, 9, 1), (0, 9, 2), (0, 9, 3), (0, 9, 4), (0, 9, 5), (0, 9, 6), (0, 9, 7), (4, 38, 0), (4, 39, 0)]
set_option maxRecDepth 100000 in
theorem fr_X7_bringBack {i1 : Nat} {S : AS} {Z : AS} {r : Int32} (h : f_X7_bringBack i1 S = some (r, Z)) : ax_fr w_X7_bringBack S Z := by
  unfold f_X7_bringBack at h
  by_cases c1 : (ax_fi S 7 0 2) = (0 : Int32)
  · rw [if_pos c1] at h
    cases h
    exact ax_fr.rf
  · rw [if_neg c1] at h
    obtain ⟨J4, eJ4, h⟩ := ax_let_e h
    have hJ4 : ∀ (x2 : Int32) (S3 : AS) r Z, J4 x2 S3 = some (r, Z) → ax_fr w_X7_bringBack S3 Z := by
      intro x2 S3 r Z h
      rw [← eJ4] at h
      try dsimp only at h
      obtain ⟨S5, eS5, h⟩ := ax_let_e h
      have FS5 : ax_fr w_X7_bringBack S3 S5 := eS5 ▸ (ax_fr.rf).tr (ax_fr_sfi (by decide))
      obtain ⟨S6, eS6, h⟩ := ax_let_e h
      have FS6 : ax_fr w_X7_bringBack S3 S6 := eS6 ▸ (FS5).tr (ax_fr_sfi (by decide))
      obtain ⟨S7, hq2, h⟩ := ax_bd_e h
      have FS7 : ax_fr w_X7_bringBack S3 S7 := (FS6).tr ((fr_X9_loadFrom_33x0 hq2).mono (by decide))
      cases h
      exact FS7
    by_cases c3 : (ax_fi S 7 0 1) ≤ (0 : Int32)
    · rw [if_pos c3] at h
      exact (ax_fr.rf).tr (hJ4 (39 : Int32) S _ _ h)
    · rw [if_neg c3] at h
      exact (ax_fr.rf).tr (hJ4 ((ax_fi S 7 0 1) - (1 : Int32)) S _ _ h)
abbrev w_X11_undo : List (Nat × Nat × Nat) := [(0, 7, 1), (0, 7, 2), (0, 9, 0), (0, 9, 1), (0, 9, 2), (0, 9, 3), (0, 9, 4), (0, 9, 5), (0, 9, 6), (0, 9, 7), (4, 38, 0), (4, 39, 0)]
set_option maxRecDepth 100000 in
theorem fr_X11_undo {S : AS} {Z : AS} {r : Int32} (h : f_X11_undo S = some (r, Z)) : ax_fr w_X11_undo S Z := by
  unfold f_X11_undo at h
  obtain ⟨r4, S1, hq1, h⟩ := ax_bu_e h
  have FS1 : ax_fr w_X11_undo S S1 := (ax_fr.rf).tr ((fr_X7_bringBack hq1).mono (by decide))
  by_cases c2 : r4 = (0 : Int32)
  · rw [if_pos c2] at h
    cases h
    exact FS1
  · rw [if_neg c2] at h
    cases h
    exact FS1
abbrev w_X11_whim : List (Nat × Nat × Nat) := [(0, 1, 2)]
set_option maxRecDepth 100000 in
theorem fr_X11_whim {a1 : Int32} {S : AS} {Z : AS} {r : Int32} (h : f_X11_whim a1 S = some (r, Z)) : ax_fr w_X11_whim S Z := by
  unfold f_X11_whim at h
  by_cases c1 : a1 < (0 : Int32)
  · rw [if_pos c1] at h
    cases h
    exact ax_fr.rf
  · rw [if_neg c1] at h
    by_cases c2 : (9 : Int32) < a1
    · rw [if_pos c2] at h
      cases h
      exact ax_fr.rf
    · rw [if_neg c2] at h
      by_cases c3 : a1 = (ax_fi S 1 0 2)
      · rw [if_pos c3] at h
        cases h
        exact ax_fr.rf
      · rw [if_neg c3] at h
        obtain ⟨S4, eS4, h⟩ := ax_let_e h
        have FS4 : ax_fr w_X11_whim S S4 := eS4 ▸ (ax_fr.rf).tr (ax_fr_sfi (by decide))
        cases h
        exact FS4
abbrev w_X1_startFrom : List (Nat × Nat × Nat) := [(1, 1, 1)]
set_option maxRecDepth 100000 in
theorem fr_X1_startFrom {a1 : Int64} {S : AS} {Z : AS} (h : f_X1_startFrom a1 S = some Z) : ax_fr w_X1_startFrom S Z := by
  unfold f_X1_startFrom at h
  obtain ⟨S1, eS1, h⟩ := ax_let_e h
  have FS1 : ax_fr w_X1_startFrom S S1 := eS1 ▸ (ax_fr.rf).tr (ax_fr_sfl (by decide))
  cases h
  exact FS1
abbrev w_X11_years : List (Nat × Nat × Nat) := [(0, 5, 3), (0, 7, 1), (0, 7, 2), (0, 9, 0), (0, 9, 1), (0, 9, 2), (0, 9, 3), (0, 9, 4), (0, 9, 5), (0, 9, 6), (0, 9, 7), (1, 1, 1), (4, 23, 0), (4, 31, 0), (4, 32, 0), (4, 33, 0), (4, 38, 0), (4, 39, 0)]
set_option maxRecDepth 100000 in
theorem fl_X11_years_L46 {K62 : AS → Option (Int32 × AS)} (hK62 : ∀ (x0 : AS) r Z, K62 x0 = some (r, Z) → ax_fr w_X11_years x0 Z) : ∀ (n : Nat) (x12 : Int32) (x13 : Int32) (S14 : AS) r Z, f_X11_years_L46 K62 n x12 x13 S14 = some (r, Z) → ax_fr w_X11_years S14 Z := by
  intro n
  induction n with
  | zero =>
    intro x12 x13 S14 r Z h
    cases h
  | succ n ih =>
    intro x12 x13 S14 r Z h
    unfold f_X11_years_L46 at h
    by_cases c1 : x12 ≤ x13
    · rw [if_pos c1] at h
      exact (ax_fr.rf).tr (hK62 S14 _ _ h)
    · rw [if_neg c1] at h
      obtain ⟨S16, hq2, h⟩ := ax_bd_e h
      have FS16 : ax_fr w_X11_years S14 S16 := (ax_fr.rf).tr ((fr_X11_liveOneDay hq2).mono (by decide))
      obtain ⟨v19, _, h⟩ := ax_let_e h
      exact (FS16).tr (ih x12 v19 S16 _ _ h)
set_option maxRecDepth 100000 in
theorem fr_X11_years {a1 : Int32} {a2 : Int64} {S : AS} {Z : AS} {r : Int32} (h : f_X11_years a1 a2 S = some (r, Z)) : ax_fr w_X11_years S Z := by
  unfold f_X11_years at h
  obtain ⟨r4, _, h⟩ := ax_bd_e h
  by_cases c4 : r4 = (0 : Int32)
  · rw [if_pos c4] at h
    by_cases c5 : a1 < (1 : Int32)
    · rw [if_pos c5] at h
      cases h
      exact ax_fr.rf
    · rw [if_neg c5] at h
      by_cases c6 : (30 : Int32) < a1
      · rw [if_pos c6] at h
        cases h
        exact ax_fr.rf
      · rw [if_neg c6] at h
        by_cases c7 : ((ax_fi S 9 0 7) + a1) ≤ (999 : Int32)
        · rw [if_pos c7] at h
          obtain ⟨S9, hq8, h⟩ := ax_bd_e h
          have FS9 : ax_fr w_X11_years S S9 := (ax_fr.rf).tr ((fr_X1_startFrom hq8).mono (by decide))
          refine (FS9).tr (fl_X11_years_L46 ?_ _ a1 (0 : Int32) S9 _ _ h)
          · intro S20 r Z h
            cases h
            exact ax_fr.rf
        · rw [if_neg c7] at h
          cases h
          exact ax_fr.rf
  · rw [if_neg c4] at h
    cases h
    exact ax_fr.rf
abbrev w_X12_starts_44 : List (Nat × Nat × Nat) := [(0, 12, 8), (0, 12, 9), (0, 12, 10), (0, 12, 11), (2, 12, 5)]
set_option maxRecDepth 100000 in
theorem fr_X12_starts_44 {i1 : Nat} {a2 : Int32} {a3 : Int32} {S : AS} {Z : AS} (h : f_X12_starts_44 i1 a2 a3 S = some Z) : ax_fr w_X12_starts_44 S Z := by
  unfold f_X12_starts_44 at h
  obtain ⟨S1, eS1, h⟩ := ax_let_e h
  have FS1 : ax_fr w_X12_starts_44 S S1 := eS1 ▸ (ax_fr.rf).tr (ax_fr_sfx (by decide))
  obtain ⟨S2, eS2, h⟩ := ax_let_e h
  have FS2 : ax_fr w_X12_starts_44 S S2 := eS2 ▸ (FS1).tr (ax_fr_sfi (by decide))
  obtain ⟨S3, eS3, h⟩ := ax_let_e h
  have FS3 : ax_fr w_X12_starts_44 S S3 := eS3 ▸ (FS2).tr (ax_fr_sfi (by decide))
  obtain ⟨S4, eS4, h⟩ := ax_let_e h
  have FS4 : ax_fr w_X12_starts_44 S S4 := eS4 ▸ (FS3).tr (ax_fr_sfi (by decide))
  obtain ⟨S5, eS5, h⟩ := ax_let_e h
  have FS5 : ax_fr w_X12_starts_44 S S5 := eS5 ▸ (FS4).tr (ax_fr_sfi (by decide))
  cases h
  exact FS5
abbrev w_X12_look : List (Nat × Nat × Nat) := [(0, 12, 10)]
set_option maxRecDepth 100000 in
theorem fl_X12_look_L0 {K43 : AS → Option (Int32 × AS)} (hK43 : ∀ (x0 : AS) r Z, K43 x0 = some (r, Z) → ax_fr w_X12_look x0 Z) : ∀ (n : Nat) (S1 : AS) r Z, f_X12_look_L0 K43 n S1 = some (r, Z) → ax_fr w_X12_look S1 Z := by
  intro n
  induction n with
  | zero =>
    intro S1 r Z h
    cases h
  | succ n ih =>
    intro S1 r Z h
    unfold f_X12_look_L0 at h
    by_cases c1 : (ax_fi S1 12 0 9) ≤ (ax_fi S1 12 0 10)
    · rw [if_pos c1] at h
      exact (ax_fr.rf).tr (hK43 S1 _ _ h)
    · rw [if_neg c1] at h
      obtain ⟨_, h⟩ := ax_gd_e h
      by_cases c2 : (ax_ai S1 44 (ax_fx S1 12 0 5) ((ax_fi S1 12 0 8) + (ax_fi S1 12 0 10)).toNatClampNeg) = (32 : Int32)
      · rw [if_pos c2] at h
        obtain ⟨S5, eS5, h⟩ := ax_let_e h
        have FS5 : ax_fr w_X12_look S1 S5 := eS5 ▸ (ax_fr.rf).tr (ax_fr_sfi (by decide))
        exact (FS5).tr (ih S5 _ _ h)
      · rw [if_neg c2] at h
        exact (ax_fr.rf).tr (hK43 S1 _ _ h)
set_option maxRecDepth 100000 in
theorem fr_X12_look {S : AS} {Z : AS} {r : Int32} (h : f_X12_look S = some (r, Z)) : ax_fr w_X12_look S Z := by
  unfold f_X12_look at h
  refine (ax_fr.rf).tr (fl_X12_look_L0 ?_ _ S _ _ h)
  · intro S6 r Z h
    by_cases c3 : (ax_fi S6 12 0 9) ≤ (ax_fi S6 12 0 10)
    · rw [if_pos c3] at h
      cases h
      exact ax_fr.rf
    · rw [if_neg c3] at h
      obtain ⟨_, h⟩ := ax_gd_e h
      cases h
      exact ax_fr.rf
abbrev w_X12_fails : List (Nat × Nat × Nat) := [(0, 12, 11)]
set_option maxRecDepth 100000 in
theorem fr_X12_fails {S : AS} {Z : AS} {r : Int32} (h : f_X12_fails S = some (r, Z)) : ax_fr w_X12_fails S Z := by
  unfold f_X12_fails at h
  by_cases c1 : (ax_fi S 12 0 11) = (Int32.ofInt (-1))
  · rw [if_pos c1] at h
    obtain ⟨S2, eS2, h⟩ := ax_let_e h
    have FS2 : ax_fr w_X12_fails S S2 := eS2 ▸ (ax_fr.rf).tr (ax_fr_sfi (by decide))
    cases h
    exact FS2
  · rw [if_neg c1] at h
    cases h
    exact ax_fr.rf
abbrev w_X12_takes : List (Nat × Nat × Nat) := [(0, 12, 10), (0, 12, 11)]
set_option maxRecDepth 100000 in
theorem fr_X12_takes {a1 : Int32} {S : AS} {Z : AS} {r : Int32} (h : f_X12_takes a1 S = some (r, Z)) : ax_fr w_X12_takes S Z := by
  unfold f_X12_takes at h
  by_cases c1 : (ax_fi S 12 0 11) = (Int32.ofInt (-1))
  · rw [if_pos c1] at h
    obtain ⟨r10, S7, hq2, h⟩ := ax_bu_e h
    have FS7 : ax_fr w_X12_takes S S7 := (ax_fr.rf).tr ((fr_X12_look hq2).mono (by decide))
    by_cases c3 : r10 = a1
    · rw [if_pos c3] at h
      obtain ⟨S12, eS12, h⟩ := ax_let_e h
      have FS12 : ax_fr w_X12_takes S S12 := eS12 ▸ (FS7).tr (ax_fr_sfi (by decide))
      cases h
      exact FS12
    · rw [if_neg c3] at h
      obtain ⟨r16, S13, hq4, h⟩ := ax_bu_e h
      have FS13 : ax_fr w_X12_takes S S13 := (FS7).tr ((fr_X12_fails hq4).mono (by decide))
      obtain ⟨_, h⟩ := ax_gd_e h
      cases h
      exact FS13
  · rw [if_neg c1] at h
    obtain ⟨r5, S2, hq5, h⟩ := ax_bu_e h
    have FS2 : ax_fr w_X12_takes S S2 := (ax_fr.rf).tr ((fr_X12_fails hq5).mono (by decide))
    obtain ⟨_, h⟩ := ax_gd_e h
    cases h
    exact FS2
abbrev w_X12_goesIn : List (Nat × Nat × Nat) := [(0, 12, 10), (0, 12, 11), (0, 12, 12)]
set_option maxRecDepth 100000 in
theorem fr_X12_goesIn {S : AS} {Z : AS} {r : Int32} (h : f_X12_goesIn S = some (r, Z)) : ax_fr w_X12_goesIn S Z := by
  unfold f_X12_goesIn at h
  by_cases c1 : (ax_fi S 12 0 12) = (6 : Int32)
  · rw [if_pos c1] at h
    obtain ⟨r7, S4, hq2, h⟩ := ax_bu_e h
    have FS4 : ax_fr w_X12_goesIn S S4 := (ax_fr.rf).tr ((fr_X12_fails hq2).mono (by decide))
    obtain ⟨_, h⟩ := ax_gd_e h
    cases h
    exact FS4
  · rw [if_neg c1] at h
    obtain ⟨S2, eS2, h⟩ := ax_let_e h
    have FS2 : ax_fr w_X12_goesIn S S2 := eS2 ▸ (ax_fr.rf).tr (ax_fr_sfi (by decide))
    obtain ⟨S3, eS3, h⟩ := ax_let_e h
    have FS3 : ax_fr w_X12_goesIn S S3 := eS3 ▸ (FS2).tr (ax_fr_sfi (by decide))
    cases h
    exact FS3
abbrev w_Parse : List (Nat × Nat × Nat) := [(0, 12, 10), (0, 12, 11), (0, 12, 12)]
set_option maxRecDepth 100000 in
theorem fl_X12_atom_L90 {rec : Nat → Int32 → Int32 → AS → Option (Int32 × AS)} (hr : ∀ (t : Nat) (b0 : Int32) (b1 : Int32) (S : AS) r Z, rec t b0 b1 S = some (r, Z) → ax_fr w_Parse S Z) : ∀ (n : Nat) (x16 : Int32) (x17 : Int32) (S18 : AS) r Z, f_X12_atom_L90 rec n x16 x17 S18 = some (r, Z) → ax_fr w_Parse S18 Z := by
  intro n
  induction n with
  | zero =>
    intro x16 x17 S18 r Z h
    cases h
  | succ n ih =>
    intro x16 x17 S18 r Z h
    unfold f_X12_atom_L90 at h
    obtain ⟨r22, _, h⟩ := ax_bd_e h
    by_cases c2 : r22 = (0 : Int32)
    · rw [if_pos c2] at h
      cases h
      exact ax_fr.rf
    · rw [if_neg c2] at h
      by_cases c3 : (ax_fi S18 12 0 11) = (Int32.ofInt (-1))
      · rw [if_pos c3] at h
        by_cases c4 : x17 = (4 : Int32)
        · rw [if_pos c4] at h
          obtain ⟨r33, S30, hq5, h⟩ := ax_bu_e h
          have FS30 : ax_fr w_Parse S18 S30 := (ax_fr.rf).tr ((fr_X12_fails hq5).mono (by decide))
          cases h
          exact FS30
        · rw [if_neg c4] at h
          obtain ⟨_, h⟩ := ax_gd_e h
          obtain ⟨v27, _, h⟩ := ax_let_e h
          obtain ⟨S28, eS28, h⟩ := ax_let_e h
          have FS28 : ax_fr w_Parse S18 S28 := eS28 ▸ (ax_fr.rf).tr (ax_fr_sfi (by decide))
          obtain ⟨v29, _, h⟩ := ax_let_e h
          exact (FS28).tr (ih v27 v29 S28 _ _ h)
      · rw [if_neg c3] at h
        cases h
        exact ax_fr.rf
set_option maxRecDepth 100000 in
theorem fr_b_X12_atom {rec : Nat → Int32 → Int32 → AS → Option (Int32 × AS)} (hr : ∀ (t : Nat) (b0 : Int32) (b1 : Int32) (S : AS) r Z, rec t b0 b1 S = some (r, Z) → ax_fr w_Parse S Z) {S : AS} {Z : AS} {r : Int32} (h : b_X12_atom rec S = some (r, Z)) : ax_fr w_Parse S Z := by
  unfold b_X12_atom at h
  obtain ⟨r4, S1, hq6, h⟩ := ax_bu_e h
  have FS1 : ax_fr w_Parse S S1 := (ax_fr.rf).tr ((fr_X12_look hq6).mono (by decide))
  obtain ⟨r8, _, h⟩ := ax_bd_e h
  by_cases c8 : r8 = (0 : Int32)
  · rw [if_pos c8] at h
    by_cases c9 : r4 = (91 : Int32)
    · rw [if_pos c9] at h
      obtain ⟨r43, S40, hq10, h⟩ := ax_bu_e h
      have FS40 : ax_fr w_Parse S S40 := (FS1).tr ((fr_X12_goesIn hq10).mono (by decide))
      by_cases c11 : r43 = (0 : Int32)
      · rw [if_pos c11] at h
        cases h
        exact FS40
      · rw [if_neg c11] at h
        obtain ⟨r48, S45, hq12, h⟩ := ax_bu_e h
        have FS45 : ax_fr w_Parse S S45 := (FS40).tr (hr 2 (0 : Int32) (0 : Int32) S40 _ _ hq12)
        obtain ⟨r52, S49, hq13, h⟩ := ax_bu_e h
        have FS49 : ax_fr w_Parse S S49 := (FS45).tr ((fr_X12_takes hq13).mono (by decide))
        by_cases c14 : r52 = (0 : Int32)
        · rw [if_pos c14] at h
          cases h
          exact FS49
        · rw [if_neg c14] at h
          obtain ⟨S54, eS54, h⟩ := ax_let_e h
          have FS54 : ax_fr w_Parse S S54 := eS54 ▸ (FS49).tr (ax_fr_sfi (by decide))
          cases h
          exact FS54
    · rw [if_neg c9] at h
      obtain ⟨r14, _, h⟩ := ax_bd_e h
      by_cases c16 : r14 = (0 : Int32)
      · rw [if_pos c16] at h
        obtain ⟨r37, S34, hq17, h⟩ := ax_bu_e h
        have FS34 : ax_fr w_Parse S S34 := (FS1).tr ((fr_X12_fails hq17).mono (by decide))
        refine (FS34).tr (fl_X12_atom_L90 hr _ (0 : Int32) (0 : Int32) S34 _ _ h)
      · rw [if_neg c16] at h
        refine (FS1).tr (fl_X12_atom_L90 hr _ (0 : Int32) (0 : Int32) S1 _ _ h)
  · rw [if_neg c8] at h
    obtain ⟨S55, eS55, h⟩ := ax_let_e h
    have FS55 : ax_fr w_Parse S S55 := eS55 ▸ (FS1).tr (ax_fr_sfi (by decide))
    obtain ⟨_, h⟩ := ax_gd_e h
    cases h
    exact FS55
set_option maxRecDepth 100000 in
theorem fl_X12_term_L5 {rec : Nat → Int32 → Int32 → AS → Option (Int32 × AS)} (hr : ∀ (t : Nat) (b0 : Int32) (b1 : Int32) (S : AS) r Z, rec t b0 b1 S = some (r, Z) → ax_fr w_Parse S Z) {K94 : Int32 → AS → Option (Int32 × AS)} (hK94 : ∀ (x0 : Int32) (x1 : AS) r Z, K94 x0 x1 = some (r, Z) → ax_fr w_Parse x1 Z) : ∀ (n : Nat) (x5 : Int32) (S7 : AS) r Z, f_X12_term_L5 rec K94 n x5 S7 = some (r, Z) → ax_fr w_Parse S7 Z := by
  intro n
  induction n with
  | zero =>
    intro x5 S7 r Z h
    cases h
  | succ n ih =>
    intro x5 S7 r Z h
    unfold f_X12_term_L5 at h
    by_cases c18 : (ax_fi S7 12 0 11) = (Int32.ofInt (-1))
    · rw [if_pos c18] at h
      obtain ⟨r12, S9, hq19, h⟩ := ax_bu_e h
      have FS9 : ax_fr w_Parse S7 S9 := (ax_fr.rf).tr ((fr_X12_look hq19).mono (by decide))
      by_cases c20 : r12 = (42 : Int32)
      · rw [if_pos c20] at h
        obtain ⟨r17, S14, hq21, h⟩ := ax_bu_e h
        have FS14 : ax_fr w_Parse S7 S14 := (FS9).tr ((fr_X12_look hq21).mono (by decide))
        obtain ⟨J20, eJ20, h⟩ := ax_let_e h
        have hJ20 : ∀ (x18 : Int32) (S19 : AS) r Z, J20 x18 S19 = some (r, Z) → ax_fr w_Parse S19 Z := by
          intro x18 S19 r Z h
          rw [← eJ20] at h
          try dsimp only at h
          obtain ⟨S21, eS21, h⟩ := ax_let_e h
          have FS21 : ax_fr w_Parse S19 S21 := eS21 ▸ (ax_fr.rf).tr (ax_fr_sfi (by decide))
          obtain ⟨r25, S22, hq22, h⟩ := ax_bu_e h
          have FS22 : ax_fr w_Parse S19 S22 := (FS21).tr (hr 0 (0 : Int32) (0 : Int32) S21 _ _ hq22)
          obtain ⟨v26, _, h⟩ := ax_let_e h
          by_cases c23 : x18 = (0 : Int32)
          · rw [if_pos c23] at h
            by_cases c24 : (lg_cmp v26 (0 : Int64)) = (0 : Int32)
            · rw [if_pos c24] at h
              obtain ⟨r37, _, h⟩ := ax_bd_e h
              exact (FS22).tr (ih r37 S22 _ _ h)
            · rw [if_neg c24] at h
              obtain ⟨_, h⟩ := ax_gd_e h
              obtain ⟨r33, _, h⟩ := ax_bd_e h
              exact (FS22).tr (ih r33 S22 _ _ h)
          · rw [if_neg c23] at h
            obtain ⟨r41, _, h⟩ := ax_bd_e h
            exact (FS22).tr (ih r41 S22 _ _ h)
        by_cases c28 : r17 = (42 : Int32)
        · rw [if_pos c28] at h
          exact (FS14).tr (hJ20 (1 : Int32) S14 _ _ h)
        · rw [if_neg c28] at h
          exact (FS14).tr (hJ20 (0 : Int32) S14 _ _ h)
      · rw [if_neg c20] at h
        obtain ⟨r46, S43, hq29, h⟩ := ax_bu_e h
        have FS43 : ax_fr w_Parse S7 S43 := (FS9).tr ((fr_X12_look hq29).mono (by decide))
        by_cases c30 : r46 = (47 : Int32)
        · rw [if_pos c30] at h
          obtain ⟨r51, S48, hq31, h⟩ := ax_bu_e h
          have FS48 : ax_fr w_Parse S7 S48 := (FS43).tr ((fr_X12_look hq31).mono (by decide))
          obtain ⟨J54, eJ54, h⟩ := ax_let_e h
          have hJ54 : ∀ (x52 : Int32) (S53 : AS) r Z, J54 x52 S53 = some (r, Z) → ax_fr w_Parse S53 Z := by
            intro x52 S53 r Z h
            rw [← eJ54] at h
            try dsimp only at h
            obtain ⟨S55, eS55, h⟩ := ax_let_e h
            have FS55 : ax_fr w_Parse S53 S55 := eS55 ▸ (ax_fr.rf).tr (ax_fr_sfi (by decide))
            obtain ⟨r59, S56, hq32, h⟩ := ax_bu_e h
            have FS56 : ax_fr w_Parse S53 S56 := (FS55).tr (hr 0 (0 : Int32) (0 : Int32) S55 _ _ hq32)
            obtain ⟨v60, _, h⟩ := ax_let_e h
            by_cases c33 : x52 = (0 : Int32)
            · rw [if_pos c33] at h
              by_cases c34 : (lg_cmp v60 (0 : Int64)) = (0 : Int32)
              · rw [if_pos c34] at h
                obtain ⟨r71, _, h⟩ := ax_bd_e h
                exact (FS56).tr (ih r71 S56 _ _ h)
              · rw [if_neg c34] at h
                obtain ⟨_, h⟩ := ax_gd_e h
                obtain ⟨r67, _, h⟩ := ax_bd_e h
                exact (FS56).tr (ih r67 S56 _ _ h)
            · rw [if_neg c33] at h
              obtain ⟨r75, _, h⟩ := ax_bd_e h
              exact (FS56).tr (ih r75 S56 _ _ h)
          by_cases c38 : r51 = (42 : Int32)
          · rw [if_pos c38] at h
            exact (FS48).tr (hJ54 (1 : Int32) S48 _ _ h)
          · rw [if_neg c38] at h
            exact (FS48).tr (hJ54 (0 : Int32) S48 _ _ h)
        · rw [if_neg c30] at h
          exact (FS43).tr (hK94 x5 S43 _ _ h)
    · rw [if_neg c18] at h
      exact (ax_fr.rf).tr (hK94 x5 S7 _ _ h)
set_option maxRecDepth 100000 in
theorem fr_b_X12_term {rec : Nat → Int32 → Int32 → AS → Option (Int32 × AS)} (hr : ∀ (t : Nat) (b0 : Int32) (b1 : Int32) (S : AS) r Z, rec t b0 b1 S = some (r, Z) → ax_fr w_Parse S Z) {S : AS} {Z : AS} {r : Int32} (h : b_X12_term rec S = some (r, Z)) : ax_fr w_Parse S Z := by
  unfold b_X12_term at h
  obtain ⟨r4, S1, hq39, h⟩ := ax_bu_e h
  have FS1 : ax_fr w_Parse S S1 := (ax_fr.rf).tr (hr 0 (0 : Int32) (0 : Int32) S _ _ hq39)
  refine (FS1).tr (fl_X12_term_L5 hr ?_ _ r4 S1 _ _ h)
  · intro x6 S77 r Z h
    cases h
    exact ax_fr.rf
set_option maxRecDepth 100000 in
theorem fl_X12_sum_L5 {rec : Nat → Int32 → Int32 → AS → Option (Int32 × AS)} (hr : ∀ (t : Nat) (b0 : Int32) (b1 : Int32) (S : AS) r Z, rec t b0 b1 S = some (r, Z) → ax_fr w_Parse S Z) {K84 : Int32 → AS → Option (Int32 × AS)} (hK84 : ∀ (x0 : Int32) (x1 : AS) r Z, K84 x0 x1 = some (r, Z) → ax_fr w_Parse x1 Z) : ∀ (n : Nat) (x5 : Int32) (S7 : AS) r Z, f_X12_sum_L5 rec K84 n x5 S7 = some (r, Z) → ax_fr w_Parse S7 Z := by
  intro n
  induction n with
  | zero =>
    intro x5 S7 r Z h
    cases h
  | succ n ih =>
    intro x5 S7 r Z h
    unfold f_X12_sum_L5 at h
    by_cases c40 : (ax_fi S7 12 0 11) = (Int32.ofInt (-1))
    · rw [if_pos c40] at h
      obtain ⟨r12, S9, hq41, h⟩ := ax_bu_e h
      have FS9 : ax_fr w_Parse S7 S9 := (ax_fr.rf).tr ((fr_X12_look hq41).mono (by decide))
      by_cases c42 : r12 = (43 : Int32)
      · rw [if_pos c42] at h
        obtain ⟨r17, S14, hq43, h⟩ := ax_bu_e h
        have FS14 : ax_fr w_Parse S7 S14 := (FS9).tr ((fr_X12_look hq43).mono (by decide))
        obtain ⟨J20, eJ20, h⟩ := ax_let_e h
        have hJ20 : ∀ (x18 : Int32) (S19 : AS) r Z, J20 x18 S19 = some (r, Z) → ax_fr w_Parse S19 Z := by
          intro x18 S19 r Z h
          rw [← eJ20] at h
          try dsimp only at h
          obtain ⟨S21, eS21, h⟩ := ax_let_e h
          have FS21 : ax_fr w_Parse S19 S21 := eS21 ▸ (ax_fr.rf).tr (ax_fr_sfi (by decide))
          obtain ⟨r25, S22, hq44, h⟩ := ax_bu_e h
          have FS22 : ax_fr w_Parse S19 S22 := (FS21).tr (hr 1 (0 : Int32) (0 : Int32) S21 _ _ hq44)
          obtain ⟨v26, _, h⟩ := ax_let_e h
          by_cases c45 : x18 = (0 : Int32)
          · rw [if_pos c45] at h
            obtain ⟨r31, _, h⟩ := ax_bd_e h
            exact (FS22).tr (ih r31 S22 _ _ h)
          · rw [if_neg c45] at h
            obtain ⟨r35, _, h⟩ := ax_bd_e h
            exact (FS22).tr (ih r35 S22 _ _ h)
        by_cases c48 : r17 = (43 : Int32)
        · rw [if_pos c48] at h
          exact (FS14).tr (hJ20 (1 : Int32) S14 _ _ h)
        · rw [if_neg c48] at h
          exact (FS14).tr (hJ20 (0 : Int32) S14 _ _ h)
      · rw [if_neg c42] at h
        obtain ⟨r40, S37, hq49, h⟩ := ax_bu_e h
        have FS37 : ax_fr w_Parse S7 S37 := (FS9).tr ((fr_X12_look hq49).mono (by decide))
        by_cases c50 : r40 = (45 : Int32)
        · rw [if_pos c50] at h
          obtain ⟨r45, S42, hq51, h⟩ := ax_bu_e h
          have FS42 : ax_fr w_Parse S7 S42 := (FS37).tr ((fr_X12_look hq51).mono (by decide))
          obtain ⟨J48, eJ48, h⟩ := ax_let_e h
          have hJ48 : ∀ (x46 : Int32) (S47 : AS) r Z, J48 x46 S47 = some (r, Z) → ax_fr w_Parse S47 Z := by
            intro x46 S47 r Z h
            rw [← eJ48] at h
            try dsimp only at h
            obtain ⟨S49, eS49, h⟩ := ax_let_e h
            have FS49 : ax_fr w_Parse S47 S49 := eS49 ▸ (ax_fr.rf).tr (ax_fr_sfi (by decide))
            obtain ⟨r53, S50, hq52, h⟩ := ax_bu_e h
            have FS50 : ax_fr w_Parse S47 S50 := (FS49).tr (hr 1 (0 : Int32) (0 : Int32) S49 _ _ hq52)
            obtain ⟨v54, _, h⟩ := ax_let_e h
            by_cases c53 : x46 = (0 : Int32)
            · rw [if_pos c53] at h
              obtain ⟨r59, _, h⟩ := ax_bd_e h
              exact (FS50).tr (ih r59 S50 _ _ h)
            · rw [if_neg c53] at h
              obtain ⟨r63, _, h⟩ := ax_bd_e h
              exact (FS50).tr (ih r63 S50 _ _ h)
          by_cases c56 : r45 = (43 : Int32)
          · rw [if_pos c56] at h
            exact (FS42).tr (hJ48 (1 : Int32) S42 _ _ h)
          · rw [if_neg c56] at h
            exact (FS42).tr (hJ48 (0 : Int32) S42 _ _ h)
        · rw [if_neg c50] at h
          exact (FS37).tr (hK84 x5 S37 _ _ h)
    · rw [if_neg c40] at h
      exact (ax_fr.rf).tr (hK84 x5 S7 _ _ h)
set_option maxRecDepth 100000 in
theorem fr_b_X12_sum {rec : Nat → Int32 → Int32 → AS → Option (Int32 × AS)} (hr : ∀ (t : Nat) (b0 : Int32) (b1 : Int32) (S : AS) r Z, rec t b0 b1 S = some (r, Z) → ax_fr w_Parse S Z) {S : AS} {Z : AS} {r : Int32} (h : b_X12_sum rec S = some (r, Z)) : ax_fr w_Parse S Z := by
  unfold b_X12_sum at h
  obtain ⟨r4, S1, hq57, h⟩ := ax_bu_e h
  have FS1 : ax_fr w_Parse S S1 := (ax_fr.rf).tr (hr 1 (0 : Int32) (0 : Int32) S _ _ hq57)
  refine (FS1).tr (fl_X12_sum_L5 hr ?_ _ r4 S1 _ _ h)
  · intro x6 S65 r Z h
    cases h
    exact ax_fr.rf
set_option maxRecDepth 100000 in
theorem fr_b_X12_compares {rec : Nat → Int32 → Int32 → AS → Option (Int32 × AS)} (hr : ∀ (t : Nat) (b0 : Int32) (b1 : Int32) (S : AS) r Z, rec t b0 b1 S = some (r, Z) → ax_fr w_Parse S Z) {a1 : Int32} {a2 : Int32} {S : AS} {Z : AS} {r : Int32} (h : b_X12_compares rec a1 a2 S = some (r, Z)) : ax_fr w_Parse S Z := by
  unfold b_X12_compares at h
  obtain ⟨J3, eJ3, h⟩ := ax_let_e h
  have hJ3 : ∀ (x1 : Int32) (S2 : AS) r Z, J3 x1 S2 = some (r, Z) → ax_fr w_Parse S2 Z := by
    intro x1 S2 r Z h
    rw [← eJ3] at h
    try dsimp only at h
    by_cases c58 : (ax_fi S2 12 0 11) = (Int32.ofInt (-1))
    · rw [if_pos c58] at h
      obtain ⟨r8, S5, hq59, h⟩ := ax_bu_e h
      have FS5 : ax_fr w_Parse S2 S5 := (ax_fr.rf).tr ((fr_X12_look hq59).mono (by decide))
      obtain ⟨r12, _, h⟩ := ax_bd_e h
      by_cases c61 : r12 = (0 : Int32)
      · rw [if_pos c61] at h
        obtain ⟨r27, S24, hq62, h⟩ := ax_bu_e h
        have FS24 : ax_fr w_Parse S2 S24 := (FS5).tr ((fr_X12_fails hq62).mono (by decide))
        obtain ⟨_, h⟩ := ax_gd_e h
        cases h
        exact FS24
      · rw [if_neg c61] at h
        obtain ⟨S14, eS14, h⟩ := ax_let_e h
        have FS14 : ax_fr w_Parse S2 S14 := eS14 ▸ (FS5).tr (ax_fr_sfi (by decide))
        obtain ⟨r18, S15, hq63, h⟩ := ax_bu_e h
        have FS15 : ax_fr w_Parse S2 S15 := (FS14).tr (hr 2 (0 : Int32) (0 : Int32) S14 _ _ hq63)
        by_cases c64 : r8 = (61 : Int32)
        · rw [if_pos c64] at h
          by_cases c65 : x1 = r18
          · rw [if_pos c65] at h
            cases h
            exact FS15
          · rw [if_neg c65] at h
            cases h
            exact FS15
        · rw [if_neg c64] at h
          by_cases c66 : r8 = (60 : Int32)
          · rw [if_pos c66] at h
            by_cases c67 : r18 ≤ x1
            · rw [if_pos c67] at h
              cases h
              exact FS15
            · rw [if_neg c67] at h
              cases h
              exact FS15
          · rw [if_neg c66] at h
            by_cases c68 : x1 ≤ r18
            · rw [if_pos c68] at h
              cases h
              exact FS15
            · rw [if_neg c68] at h
              cases h
              exact FS15
    · rw [if_neg c58] at h
      cases h
      exact ax_fr.rf
  by_cases c69 : a1 = (0 : Int32)
  · rw [if_pos c69] at h
    obtain ⟨r33, S30, hq70, h⟩ := ax_bu_e h
    have FS30 : ax_fr w_Parse S S30 := (ax_fr.rf).tr (hr 2 (0 : Int32) (0 : Int32) S _ _ hq70)
    exact (FS30).tr (hJ3 r33 S30 _ _ h)
  · rw [if_neg c69] at h
    exact (ax_fr.rf).tr (hJ3 a2 S _ _ h)
set_option maxRecDepth 100000 in
theorem fr_b_X12_unit {rec : Nat → Int32 → Int32 → AS → Option (Int32 × AS)} (hr : ∀ (t : Nat) (b0 : Int32) (b1 : Int32) (S : AS) r Z, rec t b0 b1 S = some (r, Z) → ax_fr w_Parse S Z) {S : AS} {Z : AS} {r : Int32} (h : b_X12_unit rec S = some (r, Z)) : ax_fr w_Parse S Z := by
  unfold b_X12_unit at h
  obtain ⟨r4, S1, hq71, h⟩ := ax_bu_e h
  have FS1 : ax_fr w_Parse S S1 := (ax_fr.rf).tr ((fr_X12_look hq71).mono (by decide))
  by_cases c72 : r4 = (33 : Int32)
  · rw [if_pos c72] at h
    obtain ⟨r31, S28, hq73, h⟩ := ax_bu_e h
    have FS28 : ax_fr w_Parse S S28 := (FS1).tr ((fr_X12_goesIn hq73).mono (by decide))
    by_cases c74 : r31 = (0 : Int32)
    · rw [if_pos c74] at h
      cases h
      exact FS28
    · rw [if_neg c74] at h
      obtain ⟨r36, S33, hq75, h⟩ := ax_bu_e h
      have FS33 : ax_fr w_Parse S S33 := (FS28).tr (hr 4 (0 : Int32) (0 : Int32) S28 _ _ hq75)
      obtain ⟨S37, eS37, h⟩ := ax_let_e h
      have FS37 : ax_fr w_Parse S S37 := eS37 ▸ (FS33).tr (ax_fr_sfi (by decide))
      by_cases c76 : r36 = (0 : Int32)
      · rw [if_pos c76] at h
        cases h
        exact FS37
      · rw [if_neg c76] at h
        cases h
        exact FS37
  · rw [if_neg c72] at h
    by_cases c77 : r4 = (40 : Int32)
    · rw [if_pos c77] at h
      obtain ⟨r15, S12, hq78, h⟩ := ax_bu_e h
      have FS12 : ax_fr w_Parse S S12 := (FS1).tr ((fr_X12_goesIn hq78).mono (by decide))
      by_cases c79 : r15 = (0 : Int32)
      · rw [if_pos c79] at h
        cases h
        exact FS12
      · rw [if_neg c79] at h
        obtain ⟨r20, S17, hq80, h⟩ := ax_bu_e h
        have FS17 : ax_fr w_Parse S S17 := (FS12).tr (hr 6 (0 : Int32) (0 : Int32) S12 _ _ hq80)
        obtain ⟨r24, S21, hq81, h⟩ := ax_bu_e h
        have FS21 : ax_fr w_Parse S S21 := (FS17).tr ((fr_X12_takes hq81).mono (by decide))
        by_cases c82 : r24 = (0 : Int32)
        · rw [if_pos c82] at h
          cases h
          exact FS21
        · rw [if_neg c82] at h
          obtain ⟨S26, eS26, h⟩ := ax_let_e h
          have FS26 : ax_fr w_Parse S S26 := eS26 ▸ (FS21).tr (ax_fr_sfi (by decide))
          obtain ⟨_, h⟩ := ax_gd_e h
          cases h
          exact FS26
    · rw [if_neg c77] at h
      obtain ⟨r10, S7, hq83, h⟩ := ax_bu_e h
      have FS7 : ax_fr w_Parse S S7 := (FS1).tr (hr 3 (0 : Int32) (0 : Int32) S1 _ _ hq83)
      obtain ⟨_, h⟩ := ax_gd_e h
      cases h
      exact FS7
set_option maxRecDepth 100000 in
theorem fl_X12_part_L18 {rec : Nat → Int32 → Int32 → AS → Option (Int32 × AS)} (hr : ∀ (t : Nat) (b0 : Int32) (b1 : Int32) (S : AS) r Z, rec t b0 b1 S = some (r, Z) → ax_fr w_Parse S Z) {K69 : Int32 → AS → Option (Int32 × AS)} (hK69 : ∀ (x0 : Int32) (x1 : AS) r Z, K69 x0 x1 = some (r, Z) → ax_fr w_Parse x1 Z) : ∀ (n : Nat) (x6 : Int32) (S8 : AS) r Z, f_X12_part_L18 rec K69 n x6 S8 = some (r, Z) → ax_fr w_Parse S8 Z := by
  intro n
  induction n with
  | zero =>
    intro x6 S8 r Z h
    cases h
  | succ n ih =>
    intro x6 S8 r Z h
    unfold f_X12_part_L18 at h
    by_cases c84 : (ax_fi S8 12 0 11) = (Int32.ofInt (-1))
    · rw [if_pos c84] at h
      obtain ⟨r13, S10, hq85, h⟩ := ax_bu_e h
      have FS10 : ax_fr w_Parse S8 S10 := (ax_fr.rf).tr ((fr_X12_look hq85).mono (by decide))
      by_cases c86 : r13 = (38 : Int32)
      · rw [if_pos c86] at h
        obtain ⟨S15, eS15, h⟩ := ax_let_e h
        have FS15 : ax_fr w_Parse S8 S15 := eS15 ▸ (FS10).tr (ax_fr_sfi (by decide))
        obtain ⟨r19, S16, hq87, h⟩ := ax_bu_e h
        have FS16 : ax_fr w_Parse S8 S16 := (FS15).tr (hr 4 (0 : Int32) (0 : Int32) S15 _ _ hq87)
        by_cases c88 : x6 = (0 : Int32)
        · rw [if_pos c88] at h
          exact (FS16).tr (ih (0 : Int32) S16 _ _ h)
        · rw [if_neg c88] at h
          by_cases c89 : r19 = (0 : Int32)
          · rw [if_pos c89] at h
            exact (FS16).tr (ih (0 : Int32) S16 _ _ h)
          · rw [if_neg c89] at h
            exact (FS16).tr (ih (1 : Int32) S16 _ _ h)
      · rw [if_neg c86] at h
        exact (FS10).tr (hK69 x6 S10 _ _ h)
    · rw [if_neg c84] at h
      exact (ax_fr.rf).tr (hK69 x6 S8 _ _ h)
set_option maxRecDepth 100000 in
theorem fr_b_X12_part {rec : Nat → Int32 → Int32 → AS → Option (Int32 × AS)} (hr : ∀ (t : Nat) (b0 : Int32) (b1 : Int32) (S : AS) r Z, rec t b0 b1 S = some (r, Z) → ax_fr w_Parse S Z) {a1 : Int32} {a2 : Int32} {S : AS} {Z : AS} {r : Int32} (h : b_X12_part rec a1 a2 S = some (r, Z)) : ax_fr w_Parse S Z := by
  unfold b_X12_part at h
  by_cases c90 : a1 = (0 : Int32)
  · rw [if_pos c90] at h
    obtain ⟨r5, S2, hq91, h⟩ := ax_bu_e h
    have FS2 : ax_fr w_Parse S S2 := (ax_fr.rf).tr (hr 4 (0 : Int32) (0 : Int32) S _ _ hq91)
    refine (FS2).tr (fl_X12_part_L18 hr ?_ _ r5 S2 _ _ h)
    · intro x7 S22 r Z h
      obtain ⟨_, h⟩ := ax_gd_e h
      cases h
      exact ax_fr.rf
  · rw [if_neg c90] at h
    obtain ⟨r27, S24, hq92, h⟩ := ax_bu_e h
    have FS24 : ax_fr w_Parse S S24 := (ax_fr.rf).tr (hr 3 (1 : Int32) a2 S _ _ hq92)
    refine (FS24).tr (fl_X12_part_L18 hr ?_ _ r27 S24 _ _ h)
    · intro x7 S29 r Z h
      obtain ⟨_, h⟩ := ax_gd_e h
      cases h
      exact ax_fr.rf
set_option maxRecDepth 100000 in
theorem fl_X12_condition_L7 {rec : Nat → Int32 → Int32 → AS → Option (Int32 × AS)} (hr : ∀ (t : Nat) (b0 : Int32) (b1 : Int32) (S : AS) r Z, rec t b0 b1 S = some (r, Z) → ax_fr w_Parse S Z) {K60 : Int32 → AS → Option (Int32 × AS)} (hK60 : ∀ (x0 : Int32) (x1 : AS) r Z, K60 x0 x1 = some (r, Z) → ax_fr w_Parse x1 Z) : ∀ (n : Nat) (x5 : Int32) (S7 : AS) r Z, f_X12_condition_L7 rec K60 n x5 S7 = some (r, Z) → ax_fr w_Parse S7 Z := by
  intro n
  induction n with
  | zero =>
    intro x5 S7 r Z h
    cases h
  | succ n ih =>
    intro x5 S7 r Z h
    unfold f_X12_condition_L7 at h
    by_cases c93 : (ax_fi S7 12 0 11) = (Int32.ofInt (-1))
    · rw [if_pos c93] at h
      obtain ⟨r12, S9, hq94, h⟩ := ax_bu_e h
      have FS9 : ax_fr w_Parse S7 S9 := (ax_fr.rf).tr ((fr_X12_look hq94).mono (by decide))
      by_cases c95 : r12 = (124 : Int32)
      · rw [if_pos c95] at h
        obtain ⟨S14, eS14, h⟩ := ax_let_e h
        have FS14 : ax_fr w_Parse S7 S14 := eS14 ▸ (FS9).tr (ax_fr_sfi (by decide))
        obtain ⟨r18, S15, hq96, h⟩ := ax_bu_e h
        have FS15 : ax_fr w_Parse S7 S15 := (FS14).tr (hr 5 (0 : Int32) (0 : Int32) S14 _ _ hq96)
        by_cases c97 : x5 = (0 : Int32)
        · rw [if_pos c97] at h
          by_cases c98 : r18 = (0 : Int32)
          · rw [if_pos c98] at h
            exact (FS15).tr (ih (0 : Int32) S15 _ _ h)
          · rw [if_neg c98] at h
            exact (FS15).tr (ih (1 : Int32) S15 _ _ h)
        · rw [if_neg c97] at h
          exact (FS15).tr (ih (1 : Int32) S15 _ _ h)
      · rw [if_neg c95] at h
        exact (FS9).tr (hK60 x5 S9 _ _ h)
    · rw [if_neg c93] at h
      exact (ax_fr.rf).tr (hK60 x5 S7 _ _ h)
set_option maxRecDepth 100000 in
theorem fr_b_X12_condition {rec : Nat → Int32 → Int32 → AS → Option (Int32 × AS)} (hr : ∀ (t : Nat) (b0 : Int32) (b1 : Int32) (S : AS) r Z, rec t b0 b1 S = some (r, Z) → ax_fr w_Parse S Z) {a1 : Int32} {a2 : Int32} {S : AS} {Z : AS} {r : Int32} (h : b_X12_condition rec a1 a2 S = some (r, Z)) : ax_fr w_Parse S Z := by
  unfold b_X12_condition at h
  obtain ⟨r4, S1, hq99, h⟩ := ax_bu_e h
  have FS1 : ax_fr w_Parse S S1 := (ax_fr.rf).tr (hr 5 a1 a2 S _ _ hq99)
  refine (FS1).tr (fl_X12_condition_L7 hr ?_ _ r4 S1 _ _ h)
  · intro x6 S21 r Z h
    obtain ⟨_, h⟩ := ax_gd_e h
    cases h
    exact ax_fr.rf
theorem frg_Parse : ∀ (n t : Nat) (b0 : Int32) (b1 : Int32) (S : AS) r Z, g_Parse n t b0 b1 S = some (r, Z) → ax_fr w_Parse S Z := by
  intro n
  induction n with
  | zero =>
    intro t b0 b1 S r Z h
    cases h
  | succ n ih =>
    intro t b0 b1 S r Z h
    match t, h with
    | 0, h => exact fr_b_X12_atom ih h
    | 1, h => exact fr_b_X12_term ih h
    | 2, h => exact fr_b_X12_sum ih h
    | 3, h => exact fr_b_X12_compares ih h
    | 4, h => exact fr_b_X12_unit ih h
    | 5, h => exact fr_b_X12_part ih h
    | 6, h => exact fr_b_X12_condition ih h
    | t + 7, h => cases h
abbrev w_X12_clause : List (Nat × Nat × Nat) := [(0, 12, 10), (0, 12, 11), (0, 12, 12), (0, 12, 14), (0, 12, 17)]
set_option maxRecDepth 100000 in
theorem fr_X12_clause {S : AS} {Z : AS} (h : f_X12_clause S = some Z) : ax_fr w_X12_clause S Z := by
  unfold f_X12_clause at h
  obtain ⟨r4, S1, hq1, h⟩ := ax_bu_e h
  have FS1 : ax_fr w_X12_clause S S1 := (ax_fr.rf).tr ((fr_X12_look hq1).mono (by decide))
  obtain ⟨r8, _, h⟩ := ax_bd_e h
  by_cases c3 : r8 = (0 : Int32)
  · rw [if_pos c3] at h
    obtain ⟨r108, S105, hq4, h⟩ := ax_bu_e h
    have FS105 : ax_fr w_X12_clause S S105 := (FS1).tr ((fr_X12_fails hq4).mono (by decide))
    cases h
    exact FS105
  · rw [if_neg c3] at h
    obtain ⟨S10, eS10, h⟩ := ax_let_e h
    have FS10 : ax_fr w_X12_clause S S10 := eS10 ▸ (FS1).tr (ax_fr_sfi (by decide))
    obtain ⟨r14, S11, hq5, h⟩ := ax_bu_e h
    have FS11 : ax_fr w_X12_clause S S11 := (FS10).tr ((fr_X12_takes hq5).mono (by decide))
    by_cases c6 : r14 = (0 : Int32)
    · rw [if_pos c6] at h
      cases h
      exact FS11
    · rw [if_neg c6] at h
      obtain ⟨r19, S16, hq7, h⟩ := ax_bu_e h
      have FS16 : ax_fr w_X12_clause S S16 := (FS11).tr ((fr_X12_look hq7).mono (by decide))
      by_cases c8 : r19 = (33 : Int32)
      · rw [if_pos c8] at h
        obtain ⟨r24, S21, hq9, h⟩ := ax_bu_e h
        have FS21 : ax_fr w_X12_clause S S21 := (FS16).tr ((frg_Parse ax_D 6 (0 : Int32) (0 : Int32) S16 _ _ hq9).mono (by decide))
        obtain ⟨r28, S25, hq10, h⟩ := ax_bu_e h
        have FS25 : ax_fr w_X12_clause S S25 := (FS21).tr ((fr_X12_takes hq10).mono (by decide))
        by_cases c11 : r28 = (0 : Int32)
        · rw [if_pos c11] at h
          cases h
          exact FS25
        · rw [if_neg c11] at h
          obtain ⟨r33, S30, hq12, h⟩ := ax_bu_e h
          have FS30 : ax_fr w_X12_clause S S30 := (FS25).tr ((frg_Parse ax_D 2 (0 : Int32) (0 : Int32) S25 _ _ hq12).mono (by decide))
          by_cases c13 : (ax_fi S30 12 0 11) = (Int32.ofInt (-1))
          · rw [if_pos c13] at h
            by_cases c14 : (ax_fi S30 12 0 17) = (0 : Int32)
            · rw [if_pos c14] at h
              by_cases c15 : r4 = (ax_fi S30 12 0 13)
              · rw [if_pos c15] at h
                by_cases c16 : r24 = (0 : Int32)
                · rw [if_pos c16] at h
                  cases h
                  exact FS30
                · rw [if_neg c16] at h
                  obtain ⟨S38, eS38, h⟩ := ax_let_e h
                  have FS38 : ax_fr w_X12_clause S S38 := eS38 ▸ (FS30).tr (ax_fr_sfi (by decide))
                  obtain ⟨S39, eS39, h⟩ := ax_let_e h
                  have FS39 : ax_fr w_X12_clause S S39 := eS39 ▸ (FS38).tr (ax_fr_sfi (by decide))
                  cases h
                  exact FS39
              · rw [if_neg c15] at h
                cases h
                exact FS30
            · rw [if_neg c14] at h
              cases h
              exact FS30
          · rw [if_neg c13] at h
            cases h
            exact FS30
      · rw [if_neg c8] at h
        by_cases c17 : r19 = (40 : Int32)
        · rw [if_pos c17] at h
          obtain ⟨r89, S86, hq18, h⟩ := ax_bu_e h
          have FS86 : ax_fr w_X12_clause S S86 := (FS16).tr ((frg_Parse ax_D 6 (0 : Int32) (0 : Int32) S16 _ _ hq18).mono (by decide))
          obtain ⟨r93, S90, hq19, h⟩ := ax_bu_e h
          have FS90 : ax_fr w_X12_clause S S90 := (FS86).tr ((fr_X12_takes hq19).mono (by decide))
          by_cases c20 : r93 = (0 : Int32)
          · rw [if_pos c20] at h
            cases h
            exact FS90
          · rw [if_neg c20] at h
            obtain ⟨r98, S95, hq21, h⟩ := ax_bu_e h
            have FS95 : ax_fr w_X12_clause S S95 := (FS90).tr ((frg_Parse ax_D 2 (0 : Int32) (0 : Int32) S90 _ _ hq21).mono (by decide))
            by_cases c22 : (ax_fi S95 12 0 11) = (Int32.ofInt (-1))
            · rw [if_pos c22] at h
              by_cases c23 : (ax_fi S95 12 0 17) = (0 : Int32)
              · rw [if_pos c23] at h
                by_cases c24 : r4 = (ax_fi S95 12 0 13)
                · rw [if_pos c24] at h
                  by_cases c25 : r89 = (0 : Int32)
                  · rw [if_pos c25] at h
                    cases h
                    exact FS95
                  · rw [if_neg c25] at h
                    obtain ⟨S103, eS103, h⟩ := ax_let_e h
                    have FS103 : ax_fr w_X12_clause S S103 := eS103 ▸ (FS95).tr (ax_fr_sfi (by decide))
                    obtain ⟨S104, eS104, h⟩ := ax_let_e h
                    have FS104 : ax_fr w_X12_clause S S104 := eS104 ▸ (FS103).tr (ax_fr_sfi (by decide))
                    cases h
                    exact FS104
                · rw [if_neg c24] at h
                  cases h
                  exact FS95
              · rw [if_neg c23] at h
                cases h
                exact FS95
            · rw [if_neg c22] at h
              cases h
              exact FS95
        · rw [if_neg c17] at h
          obtain ⟨r44, S41, hq26, h⟩ := ax_bu_e h
          have FS41 : ax_fr w_X12_clause S S41 := (FS16).tr ((frg_Parse ax_D 2 (0 : Int32) (0 : Int32) S16 _ _ hq26).mono (by decide))
          by_cases c27 : (ax_fi S41 12 0 11) = (Int32.ofInt (-1))
          · rw [if_pos c27] at h
            obtain ⟨r55, S52, hq28, h⟩ := ax_bu_e h
            have FS52 : ax_fr w_X12_clause S S52 := (FS41).tr ((fr_X12_look hq28).mono (by decide))
            obtain ⟨r59, _, h⟩ := ax_bd_e h
            by_cases c30 : r59 = (0 : Int32)
            · rw [if_pos c30] at h
              by_cases c31 : (ax_fi S52 12 0 11) = (Int32.ofInt (-1))
              · rw [if_pos c31] at h
                by_cases c32 : (ax_fi S52 12 0 17) = (0 : Int32)
                · rw [if_pos c32] at h
                  by_cases c33 : r4 = (ax_fi S52 12 0 13)
                  · rw [if_pos c33] at h
                    obtain ⟨S65, eS65, h⟩ := ax_let_e h
                    have FS65 : ax_fr w_X12_clause S S65 := eS65 ▸ (FS52).tr (ax_fr_sfi (by decide))
                    obtain ⟨S66, eS66, h⟩ := ax_let_e h
                    have FS66 : ax_fr w_X12_clause S S66 := eS66 ▸ (FS65).tr (ax_fr_sfi (by decide))
                    cases h
                    exact FS66
                  · rw [if_neg c33] at h
                    cases h
                    exact FS52
                · rw [if_neg c32] at h
                  cases h
                  exact FS52
              · rw [if_neg c31] at h
                cases h
                exact FS52
            · rw [if_neg c30] at h
              obtain ⟨r70, S67, hq34, h⟩ := ax_bu_e h
              have FS67 : ax_fr w_X12_clause S S67 := (FS52).tr ((frg_Parse ax_D 6 (1 : Int32) r44 S52 _ _ hq34).mono (by decide))
              obtain ⟨r74, S71, hq35, h⟩ := ax_bu_e h
              have FS71 : ax_fr w_X12_clause S S71 := (FS67).tr ((fr_X12_takes hq35).mono (by decide))
              by_cases c36 : r74 = (0 : Int32)
              · rw [if_pos c36] at h
                cases h
                exact FS71
              · rw [if_neg c36] at h
                obtain ⟨r79, S76, hq37, h⟩ := ax_bu_e h
                have FS76 : ax_fr w_X12_clause S S76 := (FS71).tr ((frg_Parse ax_D 2 (0 : Int32) (0 : Int32) S71 _ _ hq37).mono (by decide))
                by_cases c38 : (ax_fi S76 12 0 11) = (Int32.ofInt (-1))
                · rw [if_pos c38] at h
                  by_cases c39 : (ax_fi S76 12 0 17) = (0 : Int32)
                  · rw [if_pos c39] at h
                    by_cases c40 : r4 = (ax_fi S76 12 0 13)
                    · rw [if_pos c40] at h
                      by_cases c41 : r70 = (0 : Int32)
                      · rw [if_pos c41] at h
                        cases h
                        exact FS76
                      · rw [if_neg c41] at h
                        obtain ⟨S84, eS84, h⟩ := ax_let_e h
                        have FS84 : ax_fr w_X12_clause S S84 := eS84 ▸ (FS76).tr (ax_fr_sfi (by decide))
                        obtain ⟨S85, eS85, h⟩ := ax_let_e h
                        have FS85 : ax_fr w_X12_clause S S85 := eS85 ▸ (FS84).tr (ax_fr_sfi (by decide))
                        cases h
                        exact FS85
                    · rw [if_neg c40] at h
                      cases h
                      exact FS76
                  · rw [if_neg c39] at h
                    cases h
                    exact FS76
                · rw [if_neg c38] at h
                  cases h
                  exact FS76
          · rw [if_neg c27] at h
            by_cases c42 : (ax_fi S41 12 0 11) = (Int32.ofInt (-1))
            · rw [if_pos c42] at h
              by_cases c43 : (ax_fi S41 12 0 17) = (0 : Int32)
              · rw [if_pos c43] at h
                by_cases c44 : r4 = (ax_fi S41 12 0 13)
                · rw [if_pos c44] at h
                  obtain ⟨S50, eS50, h⟩ := ax_let_e h
                  have FS50 : ax_fr w_X12_clause S S50 := eS50 ▸ (FS41).tr (ax_fr_sfi (by decide))
                  obtain ⟨S51, eS51, h⟩ := ax_let_e h
                  have FS51 : ax_fr w_X12_clause S S51 := eS51 ▸ (FS50).tr (ax_fr_sfi (by decide))
                  cases h
                  exact FS51
                · rw [if_neg c44] at h
                  cases h
                  exact FS41
              · rw [if_neg c43] at h
                cases h
                exact FS41
            · rw [if_neg c42] at h
              cases h
              exact FS41
abbrev w_X12_goThrough_44 : List (Nat × Nat × Nat) := [(0, 12, 8), (0, 12, 9), (0, 12, 10), (0, 12, 11), (0, 12, 12), (0, 12, 13), (0, 12, 14), (0, 12, 17), (2, 12, 5)]
set_option maxRecDepth 100000 in
theorem fl_X12_goThrough_44_L32 {K66 : AS → Option (AS)} (hK66 : ∀ (x0 : AS) Z, K66 x0 = some Z → ax_fr w_X12_goThrough_44 x0 Z) : ∀ (n : Nat) (S11 : AS) Z, f_X12_goThrough_44_L32 K66 n S11 = some Z → ax_fr w_X12_goThrough_44 S11 Z := by
  intro n
  induction n with
  | zero =>
    intro S11 Z h
    cases h
  | succ n ih =>
    intro S11 Z h
    unfold f_X12_goThrough_44_L32 at h
    by_cases c1 : (ax_fi S11 12 0 11) = (Int32.ofInt (-1))
    · rw [if_pos c1] at h
      obtain ⟨r16, S13, hq2, h⟩ := ax_bu_e h
      have FS13 : ax_fr w_X12_goThrough_44 S11 S13 := (ax_fr.rf).tr ((fr_X12_look hq2).mono (by decide))
      by_cases c3 : r16 = (59 : Int32)
      · rw [if_pos c3] at h
        obtain ⟨S18, eS18, h⟩ := ax_let_e h
        have FS18 : ax_fr w_X12_goThrough_44 S11 S18 := eS18 ▸ (FS13).tr (ax_fr_sfi (by decide))
        obtain ⟨S19, hq4, h⟩ := ax_bd_e h
        have FS19 : ax_fr w_X12_goThrough_44 S11 S19 := (FS18).tr ((fr_X12_clause hq4).mono (by decide))
        exact (FS19).tr (ih S19 _ h)
      · rw [if_neg c3] at h
        exact (FS13).tr (hK66 S13 _ h)
    · rw [if_neg c1] at h
      exact (ax_fr.rf).tr (hK66 S11 _ h)
set_option maxRecDepth 100000 in
theorem fr_X12_goThrough_44 {i1 : Nat} {a2 : Int32} {a3 : Int32} {S : AS} {Z : AS} (h : f_X12_goThrough_44 i1 a2 a3 S = some Z) : ax_fr w_X12_goThrough_44 S Z := by
  unfold f_X12_goThrough_44 at h
  obtain ⟨S1, hq5, h⟩ := ax_bd_e h
  have FS1 : ax_fr w_X12_goThrough_44 S S1 := (ax_fr.rf).tr ((fr_X12_starts_44 hq5).mono (by decide))
  obtain ⟨S4, eS4, h⟩ := ax_let_e h
  have FS4 : ax_fr w_X12_goThrough_44 S S4 := eS4 ▸ (FS1).tr (ax_fr_sfi (by decide))
  obtain ⟨S5, eS5, h⟩ := ax_let_e h
  have FS5 : ax_fr w_X12_goThrough_44 S S5 := eS5 ▸ (FS4).tr (ax_fr_sfi (by decide))
  obtain ⟨S6, eS6, h⟩ := ax_let_e h
  have FS6 : ax_fr w_X12_goThrough_44 S S6 := eS6 ▸ (FS5).tr (ax_fr_sfi (by decide))
  obtain ⟨S7, eS7, h⟩ := ax_let_e h
  have FS7 : ax_fr w_X12_goThrough_44 S S7 := eS7 ▸ (FS6).tr (ax_fr_sfi (by decide))
  obtain ⟨S8, hq6, h⟩ := ax_bd_e h
  have FS8 : ax_fr w_X12_goThrough_44 S S8 := (FS7).tr ((fr_X12_clause hq6).mono (by decide))
  refine (FS8).tr (fl_X12_goThrough_44_L32 ?_ _ S8 _ h)
  · intro S22 Z h
    by_cases c7 : (ax_fi S22 12 0 11) = (Int32.ofInt (-1))
    · rw [if_pos c7] at h
      obtain ⟨r27, S24, hq8, h⟩ := ax_bu_e h
      have FS24 : ax_fr w_X12_goThrough_44 S22 S24 := (ax_fr.rf).tr ((fr_X12_look hq8).mono (by decide))
      by_cases c9 : r27 = (Int32.ofInt (-1))
      · rw [if_pos c9] at h
        cases h
        exact FS24
      · rw [if_neg c9] at h
        obtain ⟨r32, S29, hq10, h⟩ := ax_bu_e h
        have FS29 : ax_fr w_X12_goThrough_44 S22 S29 := (FS24).tr ((fr_X12_fails hq10).mono (by decide))
        cases h
        exact FS29
    · rw [if_neg c7] at h
      cases h
      exact ax_fr.rf
abbrev w_X12_worthOf : List (Nat × Nat × Nat) := [(0, 12, 8), (0, 12, 9), (0, 12, 10), (0, 12, 11), (0, 12, 12), (0, 12, 13), (0, 12, 14), (0, 12, 17), (2, 12, 5), (4, 46, 0), (4, 58, 0), (5, 57, 0)]
set_option maxRecDepth 100000 in
theorem fr_X12_worthOf {a1 : Int32} {a2 : Int32} {a3 : Int32} {a4 : Int32} {a5 : Int32} {a6 : Int32} {S : AS} {Z : AS} {r : Int32} (h : f_X12_worthOf a1 a2 a3 a4 a5 a6 S = some (r, Z)) : ax_fr w_X12_worthOf S Z := by
  unfold f_X12_worthOf at h
  obtain ⟨v1, _, h⟩ := ax_let_e h
  obtain ⟨v2, _, h⟩ := ax_let_e h
  obtain ⟨v3, _, h⟩ := ax_let_e h
  obtain ⟨v4, _, h⟩ := ax_let_e h
  obtain ⟨v5, _, h⟩ := ax_let_e h
  obtain ⟨v6, _, h⟩ := ax_let_e h
  obtain ⟨v7, _, h⟩ := ax_let_e h
  obtain ⟨v9, _, h⟩ := ax_let_e h
  obtain ⟨_, h⟩ := ax_gd_e h
  by_cases c1 : (lg_cmp (ax_al S 57 0 v9.toNatClampNeg) v7) = (0 : Int32)
  · rw [if_pos c1] at h
    obtain ⟨_, h⟩ := ax_gd_e h
    cases h
    exact ax_fr.rf
  · rw [if_neg c1] at h
    obtain ⟨_, h⟩ := ax_gd_e h
    obtain ⟨S13, eS13, h⟩ := ax_let_e h
    have FS13 : ax_fr w_X12_worthOf S S13 := eS13 ▸ (ax_fr.rf).tr (ax_fr_sai (by decide))
    obtain ⟨_, h⟩ := ax_gd_e h
    obtain ⟨S15, eS15, h⟩ := ax_let_e h
    have FS15 : ax_fr w_X12_worthOf S S15 := eS15 ▸ (FS13).tr (ax_fr_sai (by decide))
    obtain ⟨_, h⟩ := ax_gd_e h
    obtain ⟨S17, eS17, h⟩ := ax_let_e h
    have FS17 : ax_fr w_X12_worthOf S S17 := eS17 ▸ (FS15).tr (ax_fr_sai (by decide))
    obtain ⟨_, h⟩ := ax_gd_e h
    obtain ⟨S19, eS19, h⟩ := ax_let_e h
    have FS19 : ax_fr w_X12_worthOf S S19 := eS19 ▸ (FS17).tr (ax_fr_sai (by decide))
    obtain ⟨_, h⟩ := ax_gd_e h
    obtain ⟨S21, eS21, h⟩ := ax_let_e h
    have FS21 : ax_fr w_X12_worthOf S S21 := eS21 ▸ (FS19).tr (ax_fr_sai (by decide))
    obtain ⟨_, h⟩ := ax_gd_e h
    obtain ⟨S23, eS23, h⟩ := ax_let_e h
    have FS23 : ax_fr w_X12_worthOf S S23 := eS23 ▸ (FS21).tr (ax_fr_sai (by decide))
    obtain ⟨_, h⟩ := ax_gd_e h
    obtain ⟨S25, hq2, h⟩ := ax_bd_e h
    have FS25 : ax_fr w_X12_worthOf S S25 := (FS23).tr ((fr_X12_goThrough_44 hq2).mono (by decide))
    obtain ⟨_, h⟩ := ax_gd_e h
    obtain ⟨S29, eS29, h⟩ := ax_let_e h
    have FS29 : ax_fr w_X12_worthOf S S29 := eS29 ▸ (FS25).tr (ax_fr_sal (by decide))
    obtain ⟨_, h⟩ := ax_gd_e h
    obtain ⟨S31, eS31, h⟩ := ax_let_e h
    have FS31 : ax_fr w_X12_worthOf S S31 := eS31 ▸ (FS29).tr (ax_fr_sai (by decide))
    cases h
    exact FS31
abbrev w_X12_takes_ : List (Nat × Nat × Nat) := [(0, 12, 8), (0, 12, 9), (0, 12, 10), (0, 12, 11), (0, 12, 12), (0, 12, 13), (0, 12, 14), (0, 12, 17), (2, 12, 5), (4, 46, 0), (4, 58, 0), (5, 57, 0)]
set_option maxRecDepth 100000 in
theorem fr_X12_takes_ {a1 : Int32} {a2 : Int32} {a3 : Int32} {a4 : Int32} {a5 : Int32} {a6 : Int32} {S : AS} {Z : AS} {r : Int32} (h : f_X12_takes_ a1 a2 a3 a4 a5 a6 S = some (r, Z)) : ax_fr w_X12_takes_ S Z := by
  unfold f_X12_takes_ at h
  obtain ⟨r4, _, h⟩ := ax_bd_e h
  obtain ⟨_, h⟩ := ax_gd_e h
  obtain ⟨v6, _, h⟩ := ax_let_e h
  obtain ⟨J9, eJ9, h⟩ := ax_let_e h
  have hJ9 : ∀ (x7 : Int32) (S8 : AS) r Z, J9 x7 S8 = some (r, Z) → ax_fr w_X12_takes_ S8 Z := by
    intro x7 S8 r Z h
    rw [← eJ9] at h
    try dsimp only at h
    obtain ⟨v11, _, h⟩ := ax_let_e h
    by_cases c2 : (ax_fi S8 12 0 34) = (Int32.ofInt (-1))
    · rw [if_pos c2] at h
      obtain ⟨r16, _, h⟩ := ax_bd_e h
      obtain ⟨r20, _, h⟩ := ax_bd_e h
      cases h
      exact ax_fr.rf
    · rw [if_neg c2] at h
      obtain ⟨r24, _, h⟩ := ax_bd_e h
      obtain ⟨r28, S25, hq6, h⟩ := ax_bu_e h
      have FS25 : ax_fr w_X12_takes_ S8 S25 := (ax_fr.rf).tr ((fr_X12_worthOf hq6).mono (by decide))
      obtain ⟨r32, _, h⟩ := ax_bd_e h
      obtain ⟨r36, _, h⟩ := ax_bd_e h
      cases h
      exact FS25
  by_cases c9 : a5 = (1 : Int32)
  · rw [if_pos c9] at h
    obtain ⟨v39, _, h⟩ := ax_let_e h
    exact (ax_fr.rf).tr (hJ9 v39 S _ _ h)
  · rw [if_neg c9] at h
    exact (ax_fr.rf).tr (hJ9 v6 S _ _ h)
abbrev w_X12_takesIn_55x0 : List (Nat × Nat × Nat) := [(0, 12, 8), (0, 12, 9), (0, 12, 10), (0, 12, 11), (0, 12, 12), (0, 12, 13), (0, 12, 14), (0, 12, 17), (2, 12, 5), (4, 46, 0), (4, 58, 0), (5, 57, 0)]
set_option maxRecDepth 100000 in
theorem fr_X12_takesIn_55x0 {a2 : Int32} {S : AS} {Z : AS} {r : Int32} (h : f_X12_takesIn_55x0 a2 S = some (r, Z)) : ax_fr w_X12_takesIn_55x0 S Z := by
  unfold f_X12_takesIn_55x0 at h
  obtain ⟨r4, _, h⟩ := ax_bd_e h
  obtain ⟨_, h⟩ := ax_gd_e h
  obtain ⟨_, h⟩ := ax_gd_e h
  obtain ⟨_, h⟩ := ax_gd_e h
  obtain ⟨_, h⟩ := ax_gd_e h
  obtain ⟨r12, S9, hq2, h⟩ := ax_bu_e h
  have FS9 : ax_fr w_X12_takesIn_55x0 S S9 := (ax_fr.rf).tr ((fr_X12_takes_ hq2).mono (by decide))
  cases h
  exact FS9
abbrev w_X12_valueOf : List (Nat × Nat × Nat) := [(0, 12, 8), (0, 12, 9), (0, 12, 10), (0, 12, 11), (0, 12, 12), (0, 12, 13), (0, 12, 14), (0, 12, 17), (2, 12, 5), (4, 46, 0), (4, 58, 0), (5, 57, 0)]
set_option maxRecDepth 100000 in
theorem fr_X12_valueOf {a1 : Int32} {a2 : Int32} {S : AS} {Z : AS} {r : Int32} (h : f_X12_valueOf a1 a2 S = some (r, Z)) : ax_fr w_X12_valueOf S Z := by
  unfold f_X12_valueOf at h
  by_cases c1 : a1 = (1 : Int32)
  · rw [if_pos c1] at h
    obtain ⟨r5, S2, hq2, h⟩ := ax_bu_e h
    have FS2 : ax_fr w_X12_valueOf S S2 := (ax_fr.rf).tr ((fr_X12_takesIn_55x0 hq2).mono (by decide))
    cases h
    exact FS2
  · rw [if_neg c1] at h
    by_cases c3 : a1 = (2 : Int32)
    · rw [if_pos c3] at h
      obtain ⟨r10, S7, hq4, h⟩ := ax_bu_e h
      have FS7 : ax_fr w_X12_valueOf S S7 := (ax_fr.rf).tr ((fr_X12_takesIn_55x0 hq4).mono (by decide))
      cases h
      exact FS7
    · rw [if_neg c3] at h
      by_cases c5 : a1 = (3 : Int32)
      · rw [if_pos c5] at h
        obtain ⟨r15, _, h⟩ := ax_bd_e h
        cases h
        exact ax_fr.rf
      · rw [if_neg c5] at h
        by_cases c7 : a1 = (4 : Int32)
        · rw [if_pos c7] at h
          obtain ⟨r20, _, h⟩ := ax_bd_e h
          cases h
          exact ax_fr.rf
        · rw [if_neg c7] at h
          obtain ⟨_, h⟩ := ax_gd_e h
          cases h
          exact ax_fr.rf
abbrev w_X12_greatest : List (Nat × Nat × Nat) := [(0, 12, 8), (0, 12, 9), (0, 12, 10), (0, 12, 11), (0, 12, 12), (0, 12, 13), (0, 12, 14), (0, 12, 17), (2, 12, 5), (4, 46, 0), (4, 58, 0), (5, 57, 0)]
set_option maxRecDepth 100000 in
theorem fl_X12_greatest_L4 {K39 : Int32 → AS → Option (Int32 × AS)} (hK39 : ∀ (x0 : Int32) (x1 : AS) r Z, K39 x0 x1 = some (r, Z) → ax_fr w_X12_greatest x1 Z) : ∀ (n : Nat) (x1 : Int32) (x2 : Int32) (x3 : Int32) (S5 : AS) r Z, f_X12_greatest_L4 K39 n x1 x2 x3 S5 = some (r, Z) → ax_fr w_X12_greatest S5 Z := by
  intro n
  induction n with
  | zero =>
    intro x1 x2 x3 S5 r Z h
    cases h
  | succ n ih =>
    intro x1 x2 x3 S5 r Z h
    unfold f_X12_greatest_L4 at h
    by_cases c1 : (ax_fi S5 12 0 27) ≤ x3
    · rw [if_pos c1] at h
      exact (ax_fr.rf).tr (hK39 x2 S5 _ _ h)
    · rw [if_neg c1] at h
      obtain ⟨r10, S7, hq2, h⟩ := ax_bu_e h
      have FS7 : ax_fr w_X12_greatest S5 S7 := (ax_fr.rf).tr ((fr_X12_valueOf hq2).mono (by decide))
      obtain ⟨r14, S11, hq3, h⟩ := ax_bu_e h
      have FS11 : ax_fr w_X12_greatest S5 S11 := (FS7).tr ((fr_X12_valueOf hq3).mono (by decide))
      by_cases c4 : r10 ≤ r14
      · rw [if_pos c4] at h
        obtain ⟨v16, _, h⟩ := ax_let_e h
        exact (FS11).tr (ih x1 x2 v16 S11 _ _ h)
      · rw [if_neg c4] at h
        obtain ⟨v17, _, h⟩ := ax_let_e h
        exact (FS11).tr (ih x1 x3 v17 S11 _ _ h)
set_option maxRecDepth 100000 in
theorem fr_X12_greatest {a1 : Int32} {S : AS} {Z : AS} {r : Int32} (h : f_X12_greatest a1 S = some (r, Z)) : ax_fr w_X12_greatest S Z := by
  unfold f_X12_greatest at h
  refine (ax_fr.rf).tr (fl_X12_greatest_L4 ?_ _ a1 (0 : Int32) (1 : Int32) S _ _ h)
  · intro x4 S18 r Z h
    cases h
    exact ax_fr.rf
abbrev w_X12_canCall_55x0 : List (Nat × Nat × Nat) := [(0, 12, 8), (0, 12, 9), (0, 12, 10), (0, 12, 11), (0, 12, 12), (0, 12, 13), (0, 12, 14), (0, 12, 17), (2, 12, 5), (4, 46, 0), (4, 58, 0), (5, 57, 0)]
set_option maxRecDepth 100000 in
theorem fr_X12_canCall_55x0 {a2 : Int32} {S : AS} {Z : AS} {r : Int32} (h : f_X12_canCall_55x0 a2 S = some (r, Z)) : ax_fr w_X12_canCall_55x0 S Z := by
  unfold f_X12_canCall_55x0 at h
  obtain ⟨r4, _, h⟩ := ax_bd_e h
  by_cases c2 : r4 = (0 : Int32)
  · rw [if_pos c2] at h
    cases h
    exact ax_fr.rf
  · rw [if_neg c2] at h
    obtain ⟨_, h⟩ := ax_gd_e h
    by_cases c3 : (ax_ai S 55 0 (((2 : Int32) * a2) + (1 : Int32)).toNatClampNeg) = (1 : Int32)
    · rw [if_pos c3] at h
      cases h
      exact ax_fr.rf
    · rw [if_neg c3] at h
      obtain ⟨r11, _, h⟩ := ax_bd_e h
      obtain ⟨_, h⟩ := ax_gd_e h
      obtain ⟨_, h⟩ := ax_gd_e h
      by_cases c5 : (ax_ai S 49 0 (((2 : Int32) * r11) + (1 : Int32)).toNatClampNeg) ≤ (ax_ai S 55 0 ((12 : Int32) + r11).toNatClampNeg)
      · rw [if_pos c5] at h
        cases h
        exact ax_fr.rf
      · rw [if_neg c5] at h
        obtain ⟨_, h⟩ := ax_gd_e h
        obtain ⟨r19, S16, hq6, h⟩ := ax_bu_e h
        have FS16 : ax_fr w_X12_canCall_55x0 S S16 := (ax_fr.rf).tr ((fr_X12_takesIn_55x0 hq6).mono (by decide))
        obtain ⟨_, h⟩ := ax_gd_e h
        by_cases c7 : (ax_ai S16 47 0 (0 : Int32).toNatClampNeg) < ((ax_ai S 55 0 (16 : Int32).toNatClampNeg) + r19)
        · rw [if_pos c7] at h
          cases h
          exact FS16
        · rw [if_neg c7] at h
          cases h
          exact FS16
abbrev w_X12_would : List (Nat × Nat × Nat) := [(0, 12, 8), (0, 12, 9), (0, 12, 10), (0, 12, 11), (0, 12, 12), (0, 12, 13), (0, 12, 14), (0, 12, 17), (2, 12, 5), (4, 46, 0), (4, 58, 0), (5, 57, 0)]
set_option maxRecDepth 100000 in
theorem fr_X12_would {a1 : Int32} {S : AS} {Z : AS} {r : Int32} (h : f_X12_would a1 S = some (r, Z)) : ax_fr w_X12_would S Z := by
  unfold f_X12_would at h
  obtain ⟨r4, S1, hq1, h⟩ := ax_bu_e h
  have FS1 : ax_fr w_X12_would S S1 := (ax_fr.rf).tr ((fr_X12_takesIn_55x0 hq1).mono (by decide))
  obtain ⟨r8, _, h⟩ := ax_bd_e h
  by_cases c3 : r4 < r8
  · rw [if_pos c3] at h
    cases h
    exact FS1
  · rw [if_neg c3] at h
    cases h
    exact FS1
abbrev w_X12_takesTitled : List (Nat × Nat × Nat) := [(0, 12, 8), (0, 12, 9), (0, 12, 10), (0, 12, 11), (0, 12, 12), (0, 12, 13), (0, 12, 14), (0, 12, 17), (2, 12, 5), (4, 46, 0), (4, 58, 0), (5, 57, 0)]
set_option maxRecDepth 100000 in
theorem fr_X12_takesTitled {a1 : Int32} {a2 : Int32} {a3 : Int32} {S : AS} {Z : AS} {r : Int32} (h : f_X12_takesTitled a1 a2 a3 S = some (r, Z)) : ax_fr w_X12_takesTitled S Z := by
  unfold f_X12_takesTitled at h
  obtain ⟨r4, _, h⟩ := ax_bd_e h
  obtain ⟨_, h⟩ := ax_gd_e h
  obtain ⟨_, h⟩ := ax_gd_e h
  obtain ⟨r10, S7, hq2, h⟩ := ax_bu_e h
  have FS7 : ax_fr w_X12_takesTitled S S7 := (ax_fr.rf).tr ((fr_X12_takes_ hq2).mono (by decide))
  cases h
  exact FS7
abbrev w_X12_all : List (Nat × Nat × Nat) := [(0, 12, 0), (0, 12, 8), (0, 12, 9), (0, 12, 10), (0, 12, 11), (0, 12, 12), (0, 12, 13), (0, 12, 14), (0, 12, 17), (2, 12, 5), (4, 46, 0), (4, 58, 0), (5, 57, 0)]
set_option maxRecDepth 100000 in
theorem fl_X12_all_L100 {K136 : Int32 → AS → Option (Int32 × AS)} (hK136 : ∀ (x0 : Int32) (x1 : AS) r Z, K136 x0 x1 = some (r, Z) → ax_fr w_X12_all x1 Z) : ∀ (n : Nat) (x37 : Int32) (x38 : Int32) (S40 : AS) r Z, f_X12_all_L100 K136 n x37 x38 S40 = some (r, Z) → ax_fr w_X12_all S40 Z := by
  intro n
  induction n with
  | zero =>
    intro x37 x38 S40 r Z h
    cases h
  | succ n ih =>
    intro x37 x38 S40 r Z h
    unfold f_X12_all_L100 at h
    by_cases c1 : (ax_fi S40 12 0 27) ≤ x38
    · rw [if_pos c1] at h
      exact (ax_fr.rf).tr (hK136 x37 S40 _ _ h)
    · rw [if_neg c1] at h
      obtain ⟨r45, S42, hq2, h⟩ := ax_bu_e h
      have FS42 : ax_fr w_X12_all S40 S42 := (ax_fr.rf).tr ((fr_X12_canCall_55x0 hq2).mono (by decide))
      by_cases c3 : r45 = (0 : Int32)
      · rw [if_pos c3] at h
        obtain ⟨v47, _, h⟩ := ax_let_e h
        obtain ⟨v48, _, h⟩ := ax_let_e h
        exact (FS42).tr (ih v47 v48 S42 _ _ h)
      · rw [if_neg c3] at h
        obtain ⟨v49, _, h⟩ := ax_let_e h
        obtain ⟨v50, _, h⟩ := ax_let_e h
        exact (FS42).tr (ih v49 v50 S42 _ _ h)
set_option maxRecDepth 100000 in
theorem fl_X12_all_L140 {K172 : Int32 → AS → Option (Int32 × AS)} (hK172 : ∀ (x0 : Int32) (x1 : AS) r Z, K172 x0 x1 = some (r, Z) → ax_fr w_X12_all x1 Z) : ∀ (n : Nat) (x53 : Int32) (x54 : Int32) (S56 : AS) r Z, f_X12_all_L140 K172 n x53 x54 S56 = some (r, Z) → ax_fr w_X12_all S56 Z := by
  intro n
  induction n with
  | zero =>
    intro x53 x54 S56 r Z h
    cases h
  | succ n ih =>
    intro x53 x54 S56 r Z h
    unfold f_X12_all_L140 at h
    by_cases c4 : (ax_fi S56 12 0 27) ≤ x54
    · rw [if_pos c4] at h
      exact (ax_fr.rf).tr (hK172 x53 S56 _ _ h)
    · rw [if_neg c4] at h
      obtain ⟨r61, S58, hq5, h⟩ := ax_bu_e h
      have FS58 : ax_fr w_X12_all S56 S58 := (ax_fr.rf).tr ((fr_X12_would hq5).mono (by decide))
      by_cases c6 : r61 = (0 : Int32)
      · rw [if_pos c6] at h
        obtain ⟨v63, _, h⟩ := ax_let_e h
        obtain ⟨v64, _, h⟩ := ax_let_e h
        exact (FS58).tr (ih v63 v64 S58 _ _ h)
      · rw [if_neg c6] at h
        obtain ⟨v65, _, h⟩ := ax_let_e h
        obtain ⟨v66, _, h⟩ := ax_let_e h
        exact (FS58).tr (ih v65 v66 S58 _ _ h)
set_option maxRecDepth 100000 in
theorem fl_X12_all_L176 {K217 : Int32 → AS → Option (Int32 × AS)} (hK217 : ∀ (x0 : Int32) (x1 : AS) r Z, K217 x0 x1 = some (r, Z) → ax_fr w_X12_all x1 Z) : ∀ (n : Nat) (x69 : Int32) (x70 : Int32) (S72 : AS) r Z, f_X12_all_L176 K217 n x69 x70 S72 = some (r, Z) → ax_fr w_X12_all S72 Z := by
  intro n
  induction n with
  | zero =>
    intro x69 x70 S72 r Z h
    cases h
  | succ n ih =>
    intro x69 x70 S72 r Z h
    unfold f_X12_all_L176 at h
    by_cases c7 : (ax_fi S72 12 0 27) ≤ x70
    · rw [if_pos c7] at h
      exact (ax_fr.rf).tr (hK217 x69 S72 _ _ h)
    · rw [if_neg c7] at h
      obtain ⟨_, h⟩ := ax_gd_e h
      obtain ⟨_, h⟩ := ax_gd_e h
      obtain ⟨r79, S76, hq8, h⟩ := ax_bu_e h
      have FS76 : ax_fr w_X12_all S72 S76 := (ax_fr.rf).tr ((fr_X12_takesTitled hq8).mono (by decide))
      obtain ⟨v80, _, h⟩ := ax_let_e h
      obtain ⟨v81, _, h⟩ := ax_let_e h
      exact (FS76).tr (ih v80 v81 S76 _ _ h)
set_option maxRecDepth 100000 in
theorem fr_X12_all {a1 : Int32} {S : AS} {Z : AS} {r : Int32} (h : f_X12_all a1 S = some (r, Z)) : ax_fr w_X12_all S Z := by
  unfold f_X12_all at h
  obtain ⟨S1, eS1, h⟩ := ax_let_e h
  have FS1 : ax_fr w_X12_all S S1 := eS1 ▸ (ax_fr.rf).tr (ax_fr_sfi (by decide))
  by_cases c9 : (ax_fi S1 12 0 27) = (0 : Int32)
  · rw [if_pos c9] at h
    cases h
    exact FS1
  · rw [if_neg c9] at h
    by_cases c10 : a1 = (0 : Int32)
    · rw [if_pos c10] at h
      obtain ⟨_, h⟩ := ax_gd_e h
      obtain ⟨_, h⟩ := ax_gd_e h
      cases h
      exact FS1
    · rw [if_neg c10] at h
      by_cases c11 : a1 = (1 : Int32)
      · rw [if_pos c11] at h
        obtain ⟨r10, S7, hq12, h⟩ := ax_bu_e h
        have FS7 : ax_fr w_X12_all S S7 := (FS1).tr ((fr_X12_greatest hq12).mono (by decide))
        cases h
        exact FS7
      · rw [if_neg c11] at h
        by_cases c13 : a1 = (2 : Int32)
        · rw [if_pos c13] at h
          obtain ⟨r15, S12, hq14, h⟩ := ax_bu_e h
          have FS12 : ax_fr w_X12_all S S12 := (FS1).tr ((fr_X12_greatest hq14).mono (by decide))
          cases h
          exact FS12
        · rw [if_neg c13] at h
          by_cases c15 : a1 = (3 : Int32)
          · rw [if_pos c15] at h
            obtain ⟨r20, S17, hq16, h⟩ := ax_bu_e h
            have FS17 : ax_fr w_X12_all S S17 := (FS1).tr ((fr_X12_greatest hq16).mono (by decide))
            cases h
            exact FS17
          · rw [if_neg c15] at h
            by_cases c17 : a1 = (4 : Int32)
            · rw [if_pos c17] at h
              obtain ⟨r25, S22, hq18, h⟩ := ax_bu_e h
              have FS22 : ax_fr w_X12_all S S22 := (FS1).tr ((fr_X12_greatest hq18).mono (by decide))
              cases h
              exact FS22
            · rw [if_neg c17] at h
              by_cases c19 : a1 = (5 : Int32)
              · rw [if_pos c19] at h
                obtain ⟨r30, S27, hq20, h⟩ := ax_bu_e h
                have FS27 : ax_fr w_X12_all S S27 := (FS1).tr ((fr_X12_greatest hq20).mono (by decide))
                cases h
                exact FS27
              · rw [if_neg c19] at h
                by_cases c21 : a1 = (6 : Int32)
                · rw [if_pos c21] at h
                  obtain ⟨r35, _, h⟩ := ax_bd_e h
                  cases h
                  exact FS1
                · rw [if_neg c21] at h
                  by_cases c23 : a1 = (7 : Int32)
                  · rw [if_pos c23] at h
                    refine (FS1).tr (fl_X12_all_L100 ?_ _ (0 : Int32) (0 : Int32) S1 _ _ h)
                    · intro x39 S51 r Z h
                      cases h
                      exact ax_fr.rf
                  · rw [if_neg c23] at h
                    by_cases c24 : a1 = (8 : Int32)
                    · rw [if_pos c24] at h
                      refine (FS1).tr (fl_X12_all_L140 ?_ _ (0 : Int32) (0 : Int32) S1 _ _ h)
                      · intro x55 S67 r Z h
                        cases h
                        exact ax_fr.rf
                    · rw [if_neg c24] at h
                      by_cases c25 : a1 = (9 : Int32)
                      · rw [if_pos c25] at h
                        refine (FS1).tr (fl_X12_all_L176 ?_ _ (0 : Int32) (0 : Int32) S1 _ _ h)
                        · intro x71 S82 r Z h
                          cases h
                          exact ax_fr.rf
                      · rw [if_neg c25] at h
                        cases h
                        exact FS1
abbrev w_X12_remember : List (Nat × Nat × Nat) := [(0, 12, 39), (4, 59, 0)]
set_option maxRecDepth 100000 in
theorem fl_X12_remember_L52 {K86 : AS → Option (AS)} (hK86 : ∀ (x0 : AS) Z, K86 x0 = some Z → ax_fr w_X12_remember x0 Z) : ∀ (n : Nat) (x2 : Int32) (S3 : AS) Z, f_X12_remember_L52 K86 n x2 S3 = some Z → ax_fr w_X12_remember S3 Z := by
  intro n
  induction n with
  | zero =>
    intro x2 S3 Z h
    cases h
  | succ n ih =>
    intro x2 S3 Z h
    unfold f_X12_remember_L52 at h
    by_cases c1 : (204 : Int32) ≤ x2
    · rw [if_pos c1] at h
      exact (ax_fr.rf).tr (hK86 S3 _ h)
    · rw [if_neg c1] at h
      obtain ⟨_, h⟩ := ax_gd_e h
      obtain ⟨_, h⟩ := ax_gd_e h
      obtain ⟨S7, eS7, h⟩ := ax_let_e h
      have FS7 : ax_fr w_X12_remember S3 S7 := eS7 ▸ (ax_fr.rf).tr (ax_fr_sai (by decide))
      obtain ⟨v8, _, h⟩ := ax_let_e h
      exact (FS7).tr (ih v8 S7 _ h)
set_option maxRecDepth 100000 in
theorem fl_X12_remember_L11 {K40 : AS → Option (AS)} (hK40 : ∀ (x0 : AS) Z, K40 x0 = some Z → ax_fr w_X12_remember x0 Z) : ∀ (n : Nat) (x11 : Int32) (S12 : AS) Z, f_X12_remember_L11 K40 n x11 S12 = some Z → ax_fr w_X12_remember S12 Z := by
  intro n
  induction n with
  | zero =>
    intro x11 S12 Z h
    cases h
  | succ n ih =>
    intro x11 S12 Z h
    unfold f_X12_remember_L11 at h
    by_cases c2 : (7956 : Int32) ≤ x11
    · rw [if_pos c2] at h
      exact (ax_fr.rf).tr (hK40 S12 _ h)
    · rw [if_neg c2] at h
      obtain ⟨_, h⟩ := ax_gd_e h
      obtain ⟨_, h⟩ := ax_gd_e h
      obtain ⟨S16, eS16, h⟩ := ax_let_e h
      have FS16 : ax_fr w_X12_remember S12 S16 := eS16 ▸ (ax_fr.rf).tr (ax_fr_sai (by decide))
      obtain ⟨v17, _, h⟩ := ax_let_e h
      exact (FS16).tr (ih v17 S16 _ h)
set_option maxRecDepth 100000 in
theorem fr_X12_remember {S : AS} {Z : AS} (h : f_X12_remember S = some Z) : ax_fr w_X12_remember S Z := by
  unfold f_X12_remember at h
  by_cases c3 : (ax_fi S 12 0 39) = (40 : Int32)
  · rw [if_pos c3] at h
    refine (ax_fr.rf).tr (fl_X12_remember_L11 ?_ _ (0 : Int32) S _ h)
    · intro S18 Z h
      obtain ⟨S19, eS19, h⟩ := ax_let_e h
      have FS19 : ax_fr w_X12_remember S18 S19 := eS19 ▸ (ax_fr.rf).tr (ax_fr_sfi (by decide))
      refine (FS19).tr (fl_X12_remember_L52 ?_ _ (0 : Int32) S19 _ h)
      · intro S21 Z h
        obtain ⟨S22, eS22, h⟩ := ax_let_e h
        have FS22 : ax_fr w_X12_remember S21 S22 := eS22 ▸ (ax_fr.rf).tr (ax_fr_sfi (by decide))
        cases h
        exact FS22
  · rw [if_neg c3] at h
    refine (ax_fr.rf).tr (fl_X12_remember_L52 ?_ _ (0 : Int32) S _ h)
    · intro S9 Z h
      obtain ⟨S10, eS10, h⟩ := ax_let_e h
      have FS10 : ax_fr w_X12_remember S9 S10 := eS10 ▸ (ax_fr.rf).tr (ax_fr_sfi (by decide))
      cases h
      exact FS10
abbrev w_X12_calls_55x0 : List (Nat × Nat × Nat) := [(0, 12, 8), (0, 12, 9), (0, 12, 10), (0, 12, 11), (0, 12, 12), (0, 12, 13), (0, 12, 14), (0, 12, 17), (2, 12, 5), (4, 46, 0), (4, 55, 0), (4, 58, 0), (5, 57, 0)]
set_option maxRecDepth 100000 in
theorem fr_X12_calls_55x0 {a2 : Int32} {S : AS} {Z : AS} {r : Int32} (h : f_X12_calls_55x0 a2 S = some (r, Z)) : ax_fr w_X12_calls_55x0 S Z := by
  unfold f_X12_calls_55x0 at h
  obtain ⟨r4, S1, hq1, h⟩ := ax_bu_e h
  have FS1 : ax_fr w_X12_calls_55x0 S S1 := (ax_fr.rf).tr ((fr_X12_takesIn_55x0 hq1).mono (by decide))
  obtain ⟨r8, _, h⟩ := ax_bd_e h
  obtain ⟨r12, _, h⟩ := ax_bd_e h
  obtain ⟨J15, eJ15, h⟩ := ax_let_e h
  have hJ15 : ∀ (x13 : Int32) (S14 : AS) r Z, J15 x13 S14 = some (r, Z) → ax_fr w_X12_calls_55x0 S14 Z := by
    intro x13 S14 r Z h
    rw [← eJ15] at h
    try dsimp only at h
    obtain ⟨_, h⟩ := ax_gd_e h
    obtain ⟨_, h⟩ := ax_gd_e h
    obtain ⟨S18, eS18, h⟩ := ax_let_e h
    have FS18 : ax_fr w_X12_calls_55x0 S14 S18 := eS18 ▸ (ax_fr.rf).tr (ax_fr_sai (by decide))
    obtain ⟨_, h⟩ := ax_gd_e h
    obtain ⟨_, h⟩ := ax_gd_e h
    obtain ⟨S21, eS21, h⟩ := ax_let_e h
    have FS21 : ax_fr w_X12_calls_55x0 S14 S21 := eS21 ▸ (FS18).tr (ax_fr_sai (by decide))
    obtain ⟨_, h⟩ := ax_gd_e h
    obtain ⟨S23, eS23, h⟩ := ax_let_e h
    have FS23 : ax_fr w_X12_calls_55x0 S14 S23 := eS23 ▸ (FS21).tr (ax_fr_sai (by decide))
    obtain ⟨_, h⟩ := ax_gd_e h
    obtain ⟨_, h⟩ := ax_gd_e h
    obtain ⟨S26, eS26, h⟩ := ax_let_e h
    have FS26 : ax_fr w_X12_calls_55x0 S14 S26 := eS26 ▸ (FS23).tr (ax_fr_sai (by decide))
    by_cases c4 : x13 = (0 : Int32)
    · rw [if_pos c4] at h
      obtain ⟨_, h⟩ := ax_gd_e h
      cases h
      exact FS26
    · rw [if_neg c4] at h
      obtain ⟨_, h⟩ := ax_gd_e h
      obtain ⟨_, h⟩ := ax_gd_e h
      obtain ⟨S31, eS31, h⟩ := ax_let_e h
      have FS31 : ax_fr w_X12_calls_55x0 S14 S31 := eS31 ▸ (FS26).tr (ax_fr_sai (by decide))
      obtain ⟨_, h⟩ := ax_gd_e h
      obtain ⟨r36, _, h⟩ := ax_bd_e h
      obtain ⟨r40, _, h⟩ := ax_bd_e h
      obtain ⟨_, h⟩ := ax_gd_e h
      obtain ⟨S42, eS42, h⟩ := ax_let_e h
      have FS42 : ax_fr w_X12_calls_55x0 S14 S42 := eS42 ▸ (FS31).tr (ax_fr_sai (by decide))
      obtain ⟨_, h⟩ := ax_gd_e h
      cases h
      exact FS42
  by_cases c7 : r4 < r12
  · rw [if_pos c7] at h
    exact (FS1).tr (hJ15 (0 : Int32) S1 _ _ h)
  · rw [if_neg c7] at h
    exact (FS1).tr (hJ15 (1 : Int32) S1 _ _ h)
abbrev w_X12_announce : List (Nat × Nat × Nat) := [(0, 12, 0), (0, 12, 8), (0, 12, 9), (0, 12, 10), (0, 12, 11), (0, 12, 12), (0, 12, 13), (0, 12, 14), (0, 12, 17), (0, 12, 39), (2, 12, 5), (4, 46, 0), (4, 55, 0), (4, 58, 0), (4, 59, 0), (5, 57, 0)]
set_option maxRecDepth 100000 in
theorem fr_X12_announce {a1 : Int32} {S : AS} {Z : AS} {r : Int32} (h : f_X12_announce a1 S = some (r, Z)) : ax_fr w_X12_announce S Z := by
  unfold f_X12_announce at h
  obtain ⟨S1, eS1, h⟩ := ax_let_e h
  have FS1 : ax_fr w_X12_announce S S1 := eS1 ▸ (ax_fr.rf).tr (ax_fr_sfi (by decide))
  obtain ⟨r5, S2, hq1, h⟩ := ax_bu_e h
  have FS2 : ax_fr w_X12_announce S S2 := (FS1).tr ((fr_X12_canCall_55x0 hq1).mono (by decide))
  by_cases c2 : r5 = (0 : Int32)
  · rw [if_pos c2] at h
    cases h
    exact FS2
  · rw [if_neg c2] at h
    obtain ⟨S7, hq3, h⟩ := ax_bd_e h
    have FS7 : ax_fr w_X12_announce S S7 := (FS2).tr ((fr_X12_remember hq3).mono (by decide))
    obtain ⟨r13, S10, hq4, h⟩ := ax_bu_e h
    have FS10 : ax_fr w_X12_announce S S10 := (FS7).tr ((fr_X12_calls_55x0 hq4).mono (by decide))
    by_cases c5 : r13 = (0 : Int32)
    · rw [if_pos c5] at h
      cases h
      exact FS10
    · rw [if_neg c5] at h
      cases h
      exact FS10
abbrev w_X12_apart : List (Nat × Nat × Nat) := [(0, 12, 0)]
set_option maxRecDepth 100000 in
theorem fr_X12_apart {a1 : Int32} {S : AS} {Z : AS} {r : Int32} (h : f_X12_apart a1 S = some (r, Z)) : ax_fr w_X12_apart S Z := by
  unfold f_X12_apart at h
  obtain ⟨S1, eS1, h⟩ := ax_let_e h
  have FS1 : ax_fr w_X12_apart S S1 := eS1 ▸ (ax_fr.rf).tr (ax_fr_sfi (by decide))
  by_cases c1 : (ax_fi S1 12 0 27) = (0 : Int32)
  · rw [if_pos c1] at h
    cases h
    exact FS1
  · rw [if_neg c1] at h
    obtain ⟨r6, _, h⟩ := ax_bd_e h
    by_cases c3 : r6 = (0 : Int32)
    · rw [if_pos c3] at h
      cases h
      exact FS1
    · rw [if_neg c3] at h
      obtain ⟨r11, _, h⟩ := ax_bd_e h
      by_cases c5 : (2 : Int32) ≤ r11
      · rw [if_pos c5] at h
        obtain ⟨r16, _, h⟩ := ax_bd_e h
        by_cases c7 : r16 = (0 : Int32)
        · rw [if_pos c7] at h
          obtain ⟨r21, _, h⟩ := ax_bd_e h
          by_cases c9 : r21 = (0 : Int32)
          · rw [if_pos c9] at h
            cases h
            exact FS1
          · rw [if_neg c9] at h
            cases h
            exact FS1
        · rw [if_neg c7] at h
          cases h
          exact FS1
      · rw [if_neg c5] at h
        cases h
        exact FS1
abbrev w_X12_isLonger : List (Nat × Nat × Nat) := [(0, 12, 8), (0, 12, 9), (0, 12, 10), (0, 12, 11), (0, 12, 12), (0, 12, 13), (0, 12, 14), (0, 12, 17), (2, 12, 5), (4, 46, 0), (4, 58, 0), (5, 57, 0)]
set_option maxRecDepth 100000 in
theorem fr_X12_isLonger {a1 : Int32} {a2 : Int32} {a3 : Int32} {S : AS} {Z : AS} {r : Int32} (h : f_X12_isLonger a1 a2 a3 S = some (r, Z)) : ax_fr w_X12_isLonger S Z := by
  unfold f_X12_isLonger at h
  obtain ⟨r4, S1, hq1, h⟩ := ax_bu_e h
  have FS1 : ax_fr w_X12_isLonger S S1 := (ax_fr.rf).tr ((fr_X12_takes_ hq1).mono (by decide))
  by_cases c2 : r4 < a3
  · rw [if_pos c2] at h
    cases h
    exact FS1
  · rw [if_neg c2] at h
    cases h
    exact FS1
abbrev w_X12_hardBits : List (Nat × Nat × Nat) := [(0, 12, 8), (0, 12, 9), (0, 12, 10), (0, 12, 11), (0, 12, 12), (0, 12, 13), (0, 12, 14), (0, 12, 17), (2, 12, 5), (4, 46, 0), (4, 58, 0), (5, 57, 0)]
set_option maxRecDepth 100000 in
theorem fl_X12_hardBits_L16 {K96 : Int32 → Int32 → Int32 → Int32 → AS → Option (Int32 × AS)} (hK96 : ∀ (x0 : Int32) (x1 : Int32) (x2 : Int32) (x3 : Int32) (x4 : AS) r Z, K96 x0 x1 x2 x3 x4 = some (r, Z) → ax_fr w_X12_hardBits x4 Z) : ∀ (n : Nat) (x7 : Int32) (x8 : Int32) (x9 : Int32) (x10 : Int32) (x11 : Int32) (S16 : AS) r Z, f_X12_hardBits_L16 K96 n x7 x8 x9 x10 x11 S16 = some (r, Z) → ax_fr w_X12_hardBits S16 Z := by
  intro n
  induction n with
  | zero =>
    intro x7 x8 x9 x10 x11 S16 r Z h
    cases h
  | succ n ih =>
    intro x7 x8 x9 x10 x11 S16 r Z h
    unfold f_X12_hardBits_L16 at h
    by_cases c1 : (ax_fi S16 12 0 47) ≤ x11
    · rw [if_pos c1] at h
      exact (ax_fr.rf).tr (hK96 x7 x8 x9 x10 S16 _ _ h)
    · rw [if_neg c1] at h
      by_cases c2 : x10 = (0 : Int32)
      · rw [if_pos c2] at h
        exact (ax_fr.rf).tr (hK96 x7 x8 x9 x10 S16 _ _ h)
      · rw [if_neg c2] at h
        obtain ⟨_, h⟩ := ax_gd_e h
        by_cases c3 : (ax_ai S16 61 0 ((3 : Int32) * x11).toNatClampNeg) = x7
        · rw [if_pos c3] at h
          obtain ⟨_, h⟩ := ax_gd_e h
          obtain ⟨r26, S23, hq4, h⟩ := ax_bu_e h
          have FS23 : ax_fr w_X12_hardBits S16 S23 := (ax_fr.rf).tr ((fr_X12_isLonger hq4).mono (by decide))
          obtain ⟨_, h⟩ := ax_gd_e h
          by_cases c5 : (ax_ai S23 61 0 (((3 : Int32) * x11) + (2 : Int32)).toNatClampNeg) = (1 : Int32)
          · rw [if_pos c5] at h
            by_cases c6 : r26 = (1 : Int32)
            · rw [if_pos c6] at h
              obtain ⟨v34, _, h⟩ := ax_let_e h
              exact (FS23).tr (ih x7 x8 x9 (1 : Int32) v34 S23 _ _ h)
            · rw [if_neg c6] at h
              obtain ⟨v33, _, h⟩ := ax_let_e h
              exact (FS23).tr (ih x7 x8 x9 (0 : Int32) v33 S23 _ _ h)
          · rw [if_neg c5] at h
            by_cases c7 : r26 = (0 : Int32)
            · rw [if_pos c7] at h
              obtain ⟨v31, _, h⟩ := ax_let_e h
              exact (FS23).tr (ih x7 x8 x9 (1 : Int32) v31 S23 _ _ h)
            · rw [if_neg c7] at h
              obtain ⟨v30, _, h⟩ := ax_let_e h
              exact (FS23).tr (ih x7 x8 x9 (0 : Int32) v30 S23 _ _ h)
        · rw [if_neg c3] at h
          obtain ⟨v21, _, h⟩ := ax_let_e h
          exact (ax_fr.rf).tr (ih x7 x8 x9 x10 v21 S16 _ _ h)
set_option maxRecDepth 100000 in
theorem fl_X12_hardBits_L4 {K117 : Int32 → AS → Option (Int32 × AS)} (hK117 : ∀ (x0 : Int32) (x1 : AS) r Z, K117 x0 x1 = some (r, Z) → ax_fr w_X12_hardBits x1 Z) : ∀ (n : Nat) (x1 : Int32) (x2 : Int32) (x3 : Int32) (S5 : AS) r Z, f_X12_hardBits_L4 K117 n x1 x2 x3 S5 = some (r, Z) → ax_fr w_X12_hardBits S5 Z := by
  intro n
  induction n with
  | zero =>
    intro x1 x2 x3 S5 r Z h
    cases h
  | succ n ih =>
    intro x1 x2 x3 S5 r Z h
    unfold f_X12_hardBits_L4 at h
    by_cases c8 : (6 : Int32) ≤ x3
    · rw [if_pos c8] at h
      exact (ax_fr.rf).tr (hK117 x2 S5 _ _ h)
    · rw [if_neg c8] at h
      refine (ax_fr.rf).tr (fl_X12_hardBits_L16 ?_ _ x1 x2 x3 (1 : Int32) (0 : Int32) S5 _ _ h)
      · intro x12 x13 x14 x15 S35 r Z h
        by_cases c9 : x15 = (0 : Int32)
        · rw [if_pos c9] at h
          obtain ⟨v37, _, h⟩ := ax_let_e h
          obtain ⟨v38, _, h⟩ := ax_let_e h
          exact (ax_fr.rf).tr (ih x12 v37 v38 S35 _ _ h)
        · rw [if_neg c9] at h
          obtain ⟨v39, _, h⟩ := ax_let_e h
          obtain ⟨v40, _, h⟩ := ax_let_e h
          exact (ax_fr.rf).tr (ih x12 v39 v40 S35 _ _ h)
set_option maxRecDepth 100000 in
theorem fr_X12_hardBits {a1 : Int32} {S : AS} {Z : AS} {r : Int32} (h : f_X12_hardBits a1 S = some (r, Z)) : ax_fr w_X12_hardBits S Z := by
  unfold f_X12_hardBits at h
  refine (ax_fr.rf).tr (fl_X12_hardBits_L4 ?_ _ a1 (0 : Int32) (0 : Int32) S _ _ h)
  · intro x4 S41 r Z h
    cases h
    exact ax_fr.rf
abbrev w_X12_ask : List (Nat × Nat × Nat) := [(0, 12, 0), (0, 12, 8), (0, 12, 9), (0, 12, 10), (0, 12, 11), (0, 12, 12), (0, 12, 13), (0, 12, 14), (0, 12, 17), (2, 12, 5), (4, 46, 0), (4, 58, 0), (5, 57, 0)]
set_option maxRecDepth 100000 in
theorem fl_X12_ask_L56 {K101 : Int32 → Int32 → Int32 → Int32 → Int32 → Int32 → AS → Option (Int32 × AS)} (hK101 : ∀ (x0 : Int32) (x1 : Int32) (x2 : Int32) (x3 : Int32) (x4 : Int32) (x5 : Int32) (x6 : AS) r Z, K101 x0 x1 x2 x3 x4 x5 x6 = some (r, Z) → ax_fr w_X12_ask x6 Z) : ∀ (n : Nat) (x19 : Int32) (x20 : Int32) (x21 : Int32) (x22 : Int32) (x23 : Int32) (x24 : Int32) (x25 : Int32) (S32 : AS) r Z, f_X12_ask_L56 K101 n x19 x20 x21 x22 x23 x24 x25 S32 = some (r, Z) → ax_fr w_X12_ask S32 Z := by
  intro n
  induction n with
  | zero =>
    intro x19 x20 x21 x22 x23 x24 x25 S32 r Z h
    cases h
  | succ n ih =>
    intro x19 x20 x21 x22 x23 x24 x25 S32 r Z h
    unfold f_X12_ask_L56 at h
    by_cases c1 : (6 : Int32) ≤ x25
    · rw [if_pos c1] at h
      exact (ax_fr.rf).tr (hK101 x19 x20 x21 x22 x23 x24 S32 _ _ h)
    · rw [if_neg c1] at h
      obtain ⟨r37, _, h⟩ := ax_bd_e h
      by_cases c3 : r37 = (0 : Int32)
      · rw [if_pos c3] at h
        obtain ⟨v39, _, h⟩ := ax_let_e h
        exact (ax_fr.rf).tr (ih x19 x20 x21 x22 x23 x24 v39 S32 _ _ h)
      · rw [if_neg c3] at h
        obtain ⟨r43, S40, hq4, h⟩ := ax_bu_e h
        have FS40 : ax_fr w_X12_ask S32 S40 := (ax_fr.rf).tr ((fr_X12_isLonger hq4).mono (by decide))
        by_cases c5 : r43 = (0 : Int32)
        · rw [if_pos c5] at h
          obtain ⟨v45, _, h⟩ := ax_let_e h
          obtain ⟨v46, _, h⟩ := ax_let_e h
          exact (FS40).tr (ih x19 x20 x21 x22 x23 v45 v46 S40 _ _ h)
        · rw [if_neg c5] at h
          obtain ⟨v47, _, h⟩ := ax_let_e h
          obtain ⟨v48, _, h⟩ := ax_let_e h
          exact (FS40).tr (ih x19 x20 x21 x22 x23 v47 v48 S40 _ _ h)
set_option maxRecDepth 100000 in
theorem fl_X12_ask_L33 {K139 : Int32 → AS → Option (Int32 × AS)} (hK139 : ∀ (x0 : Int32) (x1 : AS) r Z, K139 x0 x1 = some (r, Z) → ax_fr w_X12_ask x1 Z) : ∀ (n : Nat) (x8 : Int32) (x9 : Int32) (x10 : Int32) (x11 : Int32) (S13 : AS) r Z, f_X12_ask_L33 K139 n x8 x9 x10 x11 S13 = some (r, Z) → ax_fr w_X12_ask S13 Z := by
  intro n
  induction n with
  | zero =>
    intro x8 x9 x10 x11 S13 r Z h
    cases h
  | succ n ih =>
    intro x8 x9 x10 x11 S13 r Z h
    unfold f_X12_ask_L33 at h
    by_cases c6 : (ax_fi S13 12 0 27) ≤ x11
    · rw [if_pos c6] at h
      exact (ax_fr.rf).tr (hK139 x9 S13 _ _ h)
    · rw [if_neg c6] at h
      obtain ⟨r18, S15, hq7, h⟩ := ax_bu_e h
      have FS15 : ax_fr w_X12_ask S13 S15 := (ax_fr.rf).tr ((fr_X12_hardBits hq7).mono (by decide))
      refine (FS15).tr (fl_X12_ask_L56 ?_ _ x8 x9 x10 x11 r18 (0 : Int32) (0 : Int32) S15 _ _ h)
      · intro x26 x27 x28 x29 x30 x31 S49 r Z h
        obtain ⟨r53, _, h⟩ := ax_bd_e h
        by_cases c9 : x30 = (0 : Int32)
        · rw [if_pos c9] at h
          obtain ⟨v55, _, h⟩ := ax_let_e h
          exact (ax_fr.rf).tr (ih x26 x27 x28 v55 S49 _ _ h)
        · rw [if_neg c9] at h
          by_cases c10 : x27 = (Int32.ofInt (-1))
          · rw [if_pos c10] at h
            obtain ⟨v57, _, h⟩ := ax_let_e h
            exact (ax_fr.rf).tr (ih x26 x29 r53 v57 S49 _ _ h)
          · rw [if_neg c10] at h
            by_cases c11 : r53 < x28
            · rw [if_pos c11] at h
              obtain ⟨v59, _, h⟩ := ax_let_e h
              exact (ax_fr.rf).tr (ih x26 x29 r53 v59 S49 _ _ h)
            · rw [if_neg c11] at h
              obtain ⟨v60, _, h⟩ := ax_let_e h
              exact (ax_fr.rf).tr (ih x26 x27 x28 v60 S49 _ _ h)
set_option maxRecDepth 100000 in
theorem fr_X12_ask {a1 : Int32} {S : AS} {Z : AS} {r : Int32} (h : f_X12_ask a1 S = some (r, Z)) : ax_fr w_X12_ask S Z := by
  unfold f_X12_ask at h
  obtain ⟨S1, eS1, h⟩ := ax_let_e h
  have FS1 : ax_fr w_X12_ask S S1 := eS1 ▸ (ax_fr.rf).tr (ax_fr_sfi (by decide))
  by_cases c12 : (ax_fi S1 12 0 27) = (0 : Int32)
  · rw [if_pos c12] at h
    cases h
    exact FS1
  · rw [if_neg c12] at h
    obtain ⟨r6, _, h⟩ := ax_bd_e h
    by_cases c14 : r6 = (0 : Int32)
    · rw [if_pos c14] at h
      cases h
      exact FS1
    · rw [if_neg c14] at h
      refine (FS1).tr (fl_X12_ask_L33 ?_ _ a1 (Int32.ofInt (-1)) (0 : Int32) (0 : Int32) S1 _ _ h)
      · intro x12 S61 r Z h
        cases h
        exact ax_fr.rf
abbrev w_X12_back : List (Nat × Nat × Nat) := [(0, 12, 0), (0, 12, 39), (4, 55, 0)]
set_option maxRecDepth 100000 in
theorem fl_X12_back_L16 {K41 : AS → Option (Int32 × AS)} (hK41 : ∀ (x0 : AS) r Z, K41 x0 = some (r, Z) → ax_fr w_X12_back x0 Z) : ∀ (n : Nat) (x3 : Int32) (S4 : AS) r Z, f_X12_back_L16 K41 n x3 S4 = some (r, Z) → ax_fr w_X12_back S4 Z := by
  intro n
  induction n with
  | zero =>
    intro x3 S4 r Z h
    cases h
  | succ n ih =>
    intro x3 S4 r Z h
    unfold f_X12_back_L16 at h
    by_cases c1 : (204 : Int32) ≤ x3
    · rw [if_pos c1] at h
      exact (ax_fr.rf).tr (hK41 S4 _ _ h)
    · rw [if_neg c1] at h
      obtain ⟨_, h⟩ := ax_gd_e h
      obtain ⟨_, h⟩ := ax_gd_e h
      obtain ⟨S8, eS8, h⟩ := ax_let_e h
      have FS8 : ax_fr w_X12_back S4 S8 := eS8 ▸ (ax_fr.rf).tr (ax_fr_sai (by decide))
      obtain ⟨v9, _, h⟩ := ax_let_e h
      exact (FS8).tr (ih v9 S8 _ _ h)
set_option maxRecDepth 100000 in
theorem fr_X12_back {S : AS} {Z : AS} {r : Int32} (h : f_X12_back S = some (r, Z)) : ax_fr w_X12_back S Z := by
  unfold f_X12_back at h
  obtain ⟨S1, eS1, h⟩ := ax_let_e h
  have FS1 : ax_fr w_X12_back S S1 := eS1 ▸ (ax_fr.rf).tr (ax_fr_sfi (by decide))
  by_cases c2 : (ax_fi S1 12 0 49) = (0 : Int32)
  · rw [if_pos c2] at h
    cases h
    exact FS1
  · rw [if_neg c2] at h
    refine (FS1).tr (fl_X12_back_L16 ?_ _ (0 : Int32) S1 _ _ h)
    · intro S10 r Z h
      obtain ⟨S11, eS11, h⟩ := ax_let_e h
      have FS11 : ax_fr w_X12_back S10 S11 := eS11 ▸ (ax_fr.rf).tr (ax_fr_sfi (by decide))
      obtain ⟨_, h⟩ := ax_gd_e h
      cases h
      exact FS11
abbrev w_X12_breath : List (Nat × Nat × Nat) := [(0, 12, 0), (0, 12, 39), (4, 55, 0), (4, 59, 0)]
set_option maxRecDepth 100000 in
theorem fr_X12_breath {S : AS} {Z : AS} {r : Int32} (h : f_X12_breath S = some (r, Z)) : ax_fr w_X12_breath S Z := by
  unfold f_X12_breath at h
  obtain ⟨S1, eS1, h⟩ := ax_let_e h
  have FS1 : ax_fr w_X12_breath S S1 := eS1 ▸ (ax_fr.rf).tr (ax_fr_sfi (by decide))
  by_cases c1 : (ax_fi S1 12 0 27) = (0 : Int32)
  · rw [if_pos c1] at h
    cases h
    exact FS1
  · rw [if_neg c1] at h
    obtain ⟨_, h⟩ := ax_gd_e h
    by_cases c2 : (ax_ai S1 55 0 (17 : Int32).toNatClampNeg) = (0 : Int32)
    · rw [if_pos c2] at h
      cases h
      exact FS1
    · rw [if_neg c2] at h
      obtain ⟨_, h⟩ := ax_gd_e h
      obtain ⟨_, h⟩ := ax_gd_e h
      by_cases c3 : ((ax_ai S1 55 0 (16 : Int32).toNatClampNeg) + (3 : Int32)) ≤ (ax_ai S1 47 0 (0 : Int32).toNatClampNeg)
      · rw [if_pos c3] at h
        obtain ⟨S8, hq4, h⟩ := ax_bd_e h
        have FS8 : ax_fr w_X12_breath S S8 := (FS1).tr ((fr_X12_remember hq4).mono (by decide))
        obtain ⟨_, h⟩ := ax_gd_e h
        obtain ⟨_, h⟩ := ax_gd_e h
        obtain ⟨S13, eS13, h⟩ := ax_let_e h
        have FS13 : ax_fr w_X12_breath S S13 := eS13 ▸ (FS8).tr (ax_fr_sai (by decide))
        obtain ⟨_, h⟩ := ax_gd_e h
        obtain ⟨r18, _, h⟩ := ax_bd_e h
        obtain ⟨_, h⟩ := ax_gd_e h
        obtain ⟨S20, eS20, h⟩ := ax_let_e h
        have FS20 : ax_fr w_X12_breath S S20 := eS20 ▸ (FS13).tr (ax_fr_sai (by decide))
        obtain ⟨_, h⟩ := ax_gd_e h
        cases h
        exact FS20
      · rw [if_neg c3] at h
        cases h
        exact FS1
abbrev w_X12_caller : List (Nat × Nat × Nat) := [(0, 12, 0)]
set_option maxRecDepth 100000 in
theorem fr_X12_caller {a1 : Int32} {a2 : Int32} {S : AS} {Z : AS} {r : Int32} (h : f_X12_caller a1 a2 S = some (r, Z)) : ax_fr w_X12_caller S Z := by
  unfold f_X12_caller at h
  obtain ⟨r4, _, h⟩ := ax_bd_e h
  obtain ⟨J7, eJ7, h⟩ := ax_let_e h
  have hJ7 : ∀ (x5 : Int32) (S6 : AS) r Z, J7 x5 S6 = some (r, Z) → ax_fr w_X12_caller S6 Z := by
    intro x5 S6 r Z h
    rw [← eJ7] at h
    try dsimp only at h
    obtain ⟨S8, eS8, h⟩ := ax_let_e h
    have FS8 : ax_fr w_X12_caller S6 S8 := eS8 ▸ (ax_fr.rf).tr (ax_fr_sfi (by decide))
    by_cases c2 : (ax_fi S8 12 0 0) ≤ (0 : Int32)
    · rw [if_pos c2] at h
      by_cases c3 : a2 = (2 : Int32)
      · rw [if_pos c3] at h
        obtain ⟨_, h⟩ := ax_gd_e h
        cases h
        exact FS8
      · rw [if_neg c3] at h
        by_cases c4 : a2 = (7 : Int32)
        · rw [if_pos c4] at h
          obtain ⟨_, h⟩ := ax_gd_e h
          cases h
          exact FS8
        · rw [if_neg c4] at h
          obtain ⟨r15, _, h⟩ := ax_bd_e h
          cases h
          exact FS8
    · rw [if_neg c2] at h
      cases h
      exact FS8
  by_cases c6 : r4 = (0 : Int32)
  · rw [if_pos c6] at h
    exact (ax_fr.rf).tr (hJ7 (1 : Int32) S _ _ h)
  · rw [if_neg c6] at h
    obtain ⟨r22, _, h⟩ := ax_bd_e h
    by_cases c8 : r22 = (0 : Int32)
    · rw [if_pos c8] at h
      exact (ax_fr.rf).tr (hJ7 (1 : Int32) S _ _ h)
    · rw [if_neg c8] at h
      exact (ax_fr.rf).tr (hJ7 (0 : Int32) S _ _ h)
abbrev w_X12_count : List (Nat × Nat × Nat) := [(0, 12, 0)]
set_option maxRecDepth 100000 in
theorem fr_X12_count {a1 : Int32} {S : AS} {Z : AS} {r : Int32} (h : f_X12_count a1 S = some (r, Z)) : ax_fr w_X12_count S Z := by
  unfold f_X12_count at h
  obtain ⟨S1, eS1, h⟩ := ax_let_e h
  have FS1 : ax_fr w_X12_count S S1 := eS1 ▸ (ax_fr.rf).tr (ax_fr_sfi (by decide))
  by_cases c1 : a1 = (0 : Int32)
  · rw [if_pos c1] at h
    cases h
    exact FS1
  · rw [if_neg c1] at h
    by_cases c2 : a1 = (1 : Int32)
    · rw [if_pos c2] at h
      cases h
      exact FS1
    · rw [if_neg c2] at h
      by_cases c3 : a1 = (2 : Int32)
      · rw [if_pos c3] at h
        cases h
        exact FS1
      · rw [if_neg c3] at h
        by_cases c4 : a1 = (3 : Int32)
        · rw [if_pos c4] at h
          cases h
          exact FS1
        · rw [if_neg c4] at h
          by_cases c5 : a1 = (4 : Int32)
          · rw [if_pos c5] at h
            cases h
            exact FS1
          · rw [if_neg c5] at h
            by_cases c6 : a1 = (5 : Int32)
            · rw [if_pos c6] at h
              cases h
              exact FS1
            · rw [if_neg c6] at h
              by_cases c7 : a1 = (6 : Int32)
              · rw [if_pos c7] at h
                obtain ⟨_, h⟩ := ax_gd_e h
                cases h
                exact FS1
              · rw [if_neg c7] at h
                by_cases c8 : a1 = (7 : Int32)
                · rw [if_pos c8] at h
                  obtain ⟨_, h⟩ := ax_gd_e h
                  cases h
                  exact FS1
                · rw [if_neg c8] at h
                  by_cases c9 : a1 = (8 : Int32)
                  · rw [if_pos c9] at h
                    obtain ⟨_, h⟩ := ax_gd_e h
                    cases h
                    exact FS1
                  · rw [if_neg c9] at h
                    by_cases c10 : a1 = (9 : Int32)
                    · rw [if_pos c10] at h
                      obtain ⟨_, h⟩ := ax_gd_e h
                      cases h
                      exact FS1
                    · rw [if_neg c10] at h
                      by_cases c11 : a1 = (10 : Int32)
                      · rw [if_pos c11] at h
                        obtain ⟨_, h⟩ := ax_gd_e h
                        cases h
                        exact FS1
                      · rw [if_neg c11] at h
                        by_cases c12 : a1 = (11 : Int32)
                        · rw [if_pos c12] at h
                          obtain ⟨_, h⟩ := ax_gd_e h
                          cases h
                          exact FS1
                        · rw [if_neg c12] at h
                          by_cases c13 : a1 = (12 : Int32)
                          · rw [if_pos c13] at h
                            cases h
                            exact FS1
                          · rw [if_neg c13] at h
                            by_cases c14 : a1 = (13 : Int32)
                            · rw [if_pos c14] at h
                              cases h
                              exact FS1
                            · rw [if_neg c14] at h
                              by_cases c15 : a1 = (14 : Int32)
                              · rw [if_pos c15] at h
                                obtain ⟨_, h⟩ := ax_gd_e h
                                cases h
                                exact FS1
                              · rw [if_neg c15] at h
                                by_cases c16 : a1 = (15 : Int32)
                                · rw [if_pos c16] at h
                                  cases h
                                  exact FS1
                                · rw [if_neg c16] at h
                                  cases h
                                  exact FS1
abbrev w_X12_goDay_55x0 : List (Nat × Nat × Nat) := [(4, 55, 0)]
set_option maxRecDepth 100000 in
theorem fl_X12_goDay_55x0_L126 {K148 : AS → Option (AS)} (hK148 : ∀ (x0 : AS) Z, K148 x0 = some Z → ax_fr w_X12_goDay_55x0 x0 Z) : ∀ (n : Nat) (x35 : Int32) (S36 : AS) Z, f_X12_goDay_55x0_L126 K148 n x35 S36 = some Z → ax_fr w_X12_goDay_55x0 S36 Z := by
  intro n
  induction n with
  | zero =>
    intro x35 S36 Z h
    cases h
  | succ n ih =>
    intro x35 S36 Z h
    unfold f_X12_goDay_55x0_L126 at h
    by_cases c1 : (ax_fi S36 12 0 27) ≤ x35
    · rw [if_pos c1] at h
      exact (ax_fr.rf).tr (hK148 S36 _ h)
    · rw [if_neg c1] at h
      obtain ⟨_, h⟩ := ax_gd_e h
      obtain ⟨S39, eS39, h⟩ := ax_let_e h
      have FS39 : ax_fr w_X12_goDay_55x0 S36 S39 := eS39 ▸ (ax_fr.rf).tr (ax_fr_sai (by decide))
      obtain ⟨v40, _, h⟩ := ax_let_e h
      exact (FS39).tr (ih v40 S39 _ h)
set_option maxRecDepth 100000 in
theorem fl_X12_goDay_55x0_L150 {K171 : AS → Option (AS)} (hK171 : ∀ (x0 : AS) Z, K171 x0 = some Z → ax_fr w_X12_goDay_55x0 x0 Z) : ∀ (n : Nat) (x42 : Int32) (S43 : AS) Z, f_X12_goDay_55x0_L150 K171 n x42 S43 = some Z → ax_fr w_X12_goDay_55x0 S43 Z := by
  intro n
  induction n with
  | zero =>
    intro x42 S43 Z h
    cases h
  | succ n ih =>
    intro x42 S43 Z h
    unfold f_X12_goDay_55x0_L150 at h
    by_cases c2 : (ax_fi S43 12 0 26) ≤ x42
    · rw [if_pos c2] at h
      exact (ax_fr.rf).tr (hK171 S43 _ h)
    · rw [if_neg c2] at h
      obtain ⟨_, h⟩ := ax_gd_e h
      obtain ⟨S46, eS46, h⟩ := ax_let_e h
      have FS46 : ax_fr w_X12_goDay_55x0 S43 S46 := eS46 ▸ (ax_fr.rf).tr (ax_fr_sai (by decide))
      obtain ⟨v47, _, h⟩ := ax_let_e h
      exact (FS46).tr (ih v47 S46 _ h)
set_option maxRecDepth 100000 in
theorem fl_X12_goDay_55x0_L11 {K38 : AS → Option (AS)} (hK38 : ∀ (x0 : AS) Z, K38 x0 = some Z → ax_fr w_X12_goDay_55x0 x0 Z) : ∀ (n : Nat) (x53 : Int32) (S54 : AS) Z, f_X12_goDay_55x0_L11 K38 n x53 S54 = some Z → ax_fr w_X12_goDay_55x0 S54 Z := by
  intro n
  induction n with
  | zero =>
    intro x53 S54 Z h
    cases h
  | succ n ih =>
    intro x53 S54 Z h
    unfold f_X12_goDay_55x0_L11 at h
    by_cases c3 : (177 : Int32) < x53
    · rw [if_pos c3] at h
      exact (ax_fr.rf).tr (hK38 S54 _ h)
    · rw [if_neg c3] at h
      obtain ⟨_, h⟩ := ax_gd_e h
      obtain ⟨_, h⟩ := ax_gd_e h
      obtain ⟨S58, eS58, h⟩ := ax_let_e h
      have FS58 : ax_fr w_X12_goDay_55x0 S54 S58 := eS58 ▸ (ax_fr.rf).tr (ax_fr_sai (by decide))
      obtain ⟨v59, _, h⟩ := ax_let_e h
      exact (FS58).tr (ih v59 S58 _ h)
set_option maxRecDepth 100000 in
theorem fr_X12_goDay_55x0 {S : AS} {Z : AS} (h : f_X12_goDay_55x0 S = some Z) : ax_fr w_X12_goDay_55x0 S Z := by
  unfold f_X12_goDay_55x0 at h
  obtain ⟨_, h⟩ := ax_gd_e h
  obtain ⟨J3, eJ3, h⟩ := ax_let_e h
  have hJ3 : ∀ (S2 : AS) Z, J3 S2 = some Z → ax_fr w_X12_goDay_55x0 S2 Z := by
    intro S2 Z h
    rw [← eJ3] at h
    try dsimp only at h
    obtain ⟨_, h⟩ := ax_gd_e h
    obtain ⟨v5, _, h⟩ := ax_let_e h
    obtain ⟨_, h⟩ := ax_gd_e h
    obtain ⟨_, h⟩ := ax_gd_e h
    obtain ⟨S8, eS8, h⟩ := ax_let_e h
    have FS8 : ax_fr w_X12_goDay_55x0 S2 S8 := eS8 ▸ (ax_fr.rf).tr (ax_fr_sai (by decide))
    obtain ⟨r12, _, h⟩ := ax_bd_e h
    obtain ⟨_, h⟩ := ax_gd_e h
    obtain ⟨S14, eS14, h⟩ := ax_let_e h
    have FS14 : ax_fr w_X12_goDay_55x0 S2 S14 := eS14 ▸ (FS8).tr (ax_fr_sai (by decide))
    obtain ⟨_, h⟩ := ax_gd_e h
    obtain ⟨_, h⟩ := ax_gd_e h
    obtain ⟨S17, eS17, h⟩ := ax_let_e h
    have FS17 : ax_fr w_X12_goDay_55x0 S2 S17 := eS17 ▸ (FS14).tr (ax_fr_sai (by decide))
    obtain ⟨_, h⟩ := ax_gd_e h
    obtain ⟨_, h⟩ := ax_gd_e h
    obtain ⟨S20, eS20, h⟩ := ax_let_e h
    have FS20 : ax_fr w_X12_goDay_55x0 S2 S20 := eS20 ▸ (FS17).tr (ax_fr_sai (by decide))
    obtain ⟨_, h⟩ := ax_gd_e h
    obtain ⟨_, h⟩ := ax_gd_e h
    obtain ⟨r26, _, h⟩ := ax_bd_e h
    obtain ⟨_, h⟩ := ax_gd_e h
    obtain ⟨S28, eS28, h⟩ := ax_let_e h
    have FS28 : ax_fr w_X12_goDay_55x0 S2 S28 := eS28 ▸ (FS20).tr (ax_fr_sai (by decide))
    obtain ⟨_, h⟩ := ax_gd_e h
    obtain ⟨S30, eS30, h⟩ := ax_let_e h
    have FS30 : ax_fr w_X12_goDay_55x0 S2 S30 := eS30 ▸ (FS28).tr (ax_fr_sai (by decide))
    obtain ⟨_, h⟩ := ax_gd_e h
    obtain ⟨S32, eS32, h⟩ := ax_let_e h
    have FS32 : ax_fr w_X12_goDay_55x0 S2 S32 := eS32 ▸ (FS30).tr (ax_fr_sai (by decide))
    obtain ⟨_, h⟩ := ax_gd_e h
    obtain ⟨S34, eS34, h⟩ := ax_let_e h
    have FS34 : ax_fr w_X12_goDay_55x0 S2 S34 := eS34 ▸ (FS32).tr (ax_fr_sai (by decide))
    refine (FS34).tr (fl_X12_goDay_55x0_L126 ?_ _ (0 : Int32) S34 _ h)
    · intro S41 Z h
      refine (ax_fr.rf).tr (fl_X12_goDay_55x0_L150 ?_ _ (0 : Int32) S41 _ h)
      · intro S48 Z h
        obtain ⟨_, h⟩ := ax_gd_e h
        obtain ⟨_, h⟩ := ax_gd_e h
        obtain ⟨S51, eS51, h⟩ := ax_let_e h
        have FS51 : ax_fr w_X12_goDay_55x0 S48 S51 := eS51 ▸ (ax_fr.rf).tr (ax_fr_sai (by decide))
        cases h
        exact FS51
  by_cases c6 : (ax_ai S 55 0 (23 : Int32).toNatClampNeg) = (60 : Int32)
  · rw [if_pos c6] at h
    refine (ax_fr.rf).tr (fl_X12_goDay_55x0_L11 ?_ _ (1 : Int32) S _ h)
    · intro S60 Z h
      obtain ⟨_, h⟩ := ax_gd_e h
      obtain ⟨_, h⟩ := ax_gd_e h
      obtain ⟨S63, eS63, h⟩ := ax_let_e h
      have FS63 : ax_fr w_X12_goDay_55x0 S60 S63 := eS63 ▸ (ax_fr.rf).tr (ax_fr_sai (by decide))
      exact (FS63).tr (hJ3 S63 _ h)
  · rw [if_neg c6] at h
    exact (ax_fr.rf).tr (hJ3 S _ h)
abbrev w_X12_day : List (Nat × Nat × Nat) := [(0, 12, 0), (0, 12, 39), (4, 55, 0), (4, 59, 0)]
set_option maxRecDepth 100000 in
theorem fr_X12_day {S : AS} {Z : AS} {r : Int32} (h : f_X12_day S = some (r, Z)) : ax_fr w_X12_day S Z := by
  unfold f_X12_day at h
  obtain ⟨S1, eS1, h⟩ := ax_let_e h
  have FS1 : ax_fr w_X12_day S S1 := eS1 ▸ (ax_fr.rf).tr (ax_fr_sfi (by decide))
  by_cases c1 : (ax_fi S1 12 0 27) = (0 : Int32)
  · rw [if_pos c1] at h
    cases h
    exact FS1
  · rw [if_neg c1] at h
    obtain ⟨_, h⟩ := ax_gd_e h
    by_cases c2 : (ax_ai S1 55 0 (22 : Int32).toNatClampNeg) = (999 : Int32)
    · rw [if_pos c2] at h
      cases h
      exact FS1
    · rw [if_neg c2] at h
      obtain ⟨S5, hq3, h⟩ := ax_bd_e h
      have FS5 : ax_fr w_X12_day S S5 := (FS1).tr ((fr_X12_remember hq3).mono (by decide))
      obtain ⟨S8, hq4, h⟩ := ax_bd_e h
      have FS8 : ax_fr w_X12_day S S8 := (FS5).tr ((fr_X12_goDay_55x0 hq4).mono (by decide))
      obtain ⟨_, h⟩ := ax_gd_e h
      cases h
      exact FS8
abbrev w_X12_draw : List (Nat × Nat × Nat) := [(1, 12, 40)]
set_option maxRecDepth 100000 in
theorem fr_X12_draw {a1 : Int32} {S : AS} {Z : AS} {r : Int32} (h : f_X12_draw a1 S = some (r, Z)) : ax_fr w_X12_draw S Z := by
  unfold f_X12_draw at h
  obtain ⟨S1, eS1, h⟩ := ax_let_e h
  have FS1 : ax_fr w_X12_draw S S1 := eS1 ▸ (ax_fr.rf).tr (ax_fr_sfl (by decide))
  obtain ⟨_, h⟩ := ax_gd_e h
  cases h
  exact FS1
abbrev w_X12_drop : List (Nat × Nat × Nat) := [(0, 12, 0), (0, 12, 39), (4, 55, 0), (4, 59, 0)]
set_option maxRecDepth 100000 in
theorem fr_X12_drop {a1 : Int32} {S : AS} {Z : AS} {r : Int32} (h : f_X12_drop a1 S = some (r, Z)) : ax_fr w_X12_drop S Z := by
  unfold f_X12_drop at h
  obtain ⟨S1, eS1, h⟩ := ax_let_e h
  have FS1 : ax_fr w_X12_drop S S1 := eS1 ▸ (ax_fr.rf).tr (ax_fr_sfi (by decide))
  obtain ⟨r5, _, h⟩ := ax_bd_e h
  by_cases c2 : r5 = (0 : Int32)
  · rw [if_pos c2] at h
    cases h
    exact FS1
  · rw [if_neg c2] at h
    obtain ⟨_, h⟩ := ax_gd_e h
    by_cases c3 : (ax_ai S1 55 0 (((2 : Int32) * a1) + (0 : Int32)).toNatClampNeg) = (0 : Int32)
    · rw [if_pos c3] at h
      cases h
      exact FS1
    · rw [if_neg c3] at h
      obtain ⟨S9, hq4, h⟩ := ax_bd_e h
      have FS9 : ax_fr w_X12_drop S S9 := (FS1).tr ((fr_X12_remember hq4).mono (by decide))
      obtain ⟨_, h⟩ := ax_gd_e h
      obtain ⟨_, h⟩ := ax_gd_e h
      obtain ⟨S14, eS14, h⟩ := ax_let_e h
      have FS14 : ax_fr w_X12_drop S S14 := eS14 ▸ (FS9).tr (ax_fr_sai (by decide))
      obtain ⟨_, h⟩ := ax_gd_e h
      cases h
      exact FS14
abbrev w_X12_end : List (Nat × Nat × Nat) := [(0, 12, 0), (0, 12, 6)]
set_option maxRecDepth 100000 in
theorem fr_X12_end {a1 : Int32} {S : AS} {Z : AS} {r : Int32} (h : f_X12_end a1 S = some (r, Z)) : ax_fr w_X12_end S Z := by
  unfold f_X12_end at h
  obtain ⟨S1, eS1, h⟩ := ax_let_e h
  have FS1 : ax_fr w_X12_end S S1 := eS1 ▸ (ax_fr.rf).tr (ax_fr_sfi (by decide))
  by_cases c1 : a1 < (0 : Int32)
  · rw [if_pos c1] at h
    cases h
    exact FS1
  · rw [if_neg c1] at h
    by_cases c2 : a1 ≤ (ax_fi S1 12 0 6)
    · rw [if_pos c2] at h
      obtain ⟨S4, eS4, h⟩ := ax_let_e h
      have FS4 : ax_fr w_X12_end S S4 := eS4 ▸ (FS1).tr (ax_fr_sfi (by decide))
      cases h
      exact FS4
    · rw [if_neg c2] at h
      cases h
      exact FS1
abbrev w_X12_readStep : List (Nat × Nat × Nat) := [(0, 12, 10), (0, 12, 11), (4, 53, 0)]
set_option maxRecDepth 100000 in
theorem fr_X12_readStep {a1 : Int32} {S : AS} {Z : AS} (h : f_X12_readStep a1 S = some Z) : ax_fr w_X12_readStep S Z := by
  unfold f_X12_readStep at h
  obtain ⟨r4, S1, hq1, h⟩ := ax_bu_e h
  have FS1 : ax_fr w_X12_readStep S S1 := (ax_fr.rf).tr ((fr_X12_look hq1).mono (by decide))
  obtain ⟨r8, _, h⟩ := ax_bd_e h
  by_cases c3 : r8 = (Int32.ofInt (-1))
  · rw [if_pos c3] at h
    obtain ⟨r36, S33, hq4, h⟩ := ax_bu_e h
    have FS33 : ax_fr w_X12_readStep S S33 := (FS1).tr ((fr_X12_fails hq4).mono (by decide))
    cases h
    exact FS33
  · rw [if_neg c3] at h
    obtain ⟨S10, eS10, h⟩ := ax_let_e h
    have FS10 : ax_fr w_X12_readStep S S10 := eS10 ▸ (FS1).tr (ax_fr_sfi (by decide))
    obtain ⟨_, h⟩ := ax_gd_e h
    obtain ⟨S12, eS12, h⟩ := ax_let_e h
    have FS12 : ax_fr w_X12_readStep S S12 := eS12 ▸ (FS10).tr (ax_fr_sai (by decide))
    obtain ⟨_, h⟩ := ax_gd_e h
    obtain ⟨S14, eS14, h⟩ := ax_let_e h
    have FS14 : ax_fr w_X12_readStep S S14 := eS14 ▸ (FS12).tr (ax_fr_sai (by decide))
    by_cases c5 : r8 = (2 : Int32)
    · rw [if_pos c5] at h
      cases h
      exact FS14
    · rw [if_neg c5] at h
      by_cases c6 : r8 = (4 : Int32)
      · rw [if_pos c6] at h
        cases h
        exact FS14
      · rw [if_neg c6] at h
        obtain ⟨r20, S17, hq7, h⟩ := ax_bu_e h
        have FS17 : ax_fr w_X12_readStep S S17 := (FS14).tr ((fr_X12_look hq7).mono (by decide))
        obtain ⟨r24, _, h⟩ := ax_bd_e h
        by_cases c9 : r24 = (0 : Int32)
        · rw [if_pos c9] at h
          obtain ⟨r32, S29, hq10, h⟩ := ax_bu_e h
          have FS29 : ax_fr w_X12_readStep S S29 := (FS17).tr ((fr_X12_fails hq10).mono (by decide))
          cases h
          exact FS29
        · rw [if_neg c9] at h
          obtain ⟨_, h⟩ := ax_gd_e h
          obtain ⟨S27, eS27, h⟩ := ax_let_e h
          have FS27 : ax_fr w_X12_readStep S S27 := eS27 ▸ (FS17).tr (ax_fr_sai (by decide))
          obtain ⟨S28, eS28, h⟩ := ax_let_e h
          have FS28 : ax_fr w_X12_readStep S S28 := eS28 ▸ (FS27).tr (ax_fr_sfi (by decide))
          cases h
          exact FS28
abbrev w_X12_readPlan : List (Nat × Nat × Nat) := [(0, 12, 8), (0, 12, 9), (0, 12, 10), (0, 12, 11), (2, 12, 5), (4, 53, 0), (4, 54, 0)]
set_option maxRecDepth 100000 in
theorem fl_X12_readPlan_L17 {K91 : Int32 → AS → Option (AS)} (hK91 : ∀ (x0 : Int32) (x1 : AS) Z, K91 x0 x1 = some Z → ax_fr w_X12_readPlan x1 Z) : ∀ (n : Nat) (x4 : Int32) (x5 : Int32) (S7 : AS) Z, f_X12_readPlan_L17 K91 n x4 x5 S7 = some Z → ax_fr w_X12_readPlan S7 Z := by
  intro n
  induction n with
  | zero =>
    intro x4 x5 S7 Z h
    cases h
  | succ n ih =>
    intro x4 x5 S7 Z h
    unfold f_X12_readPlan_L17 at h
    by_cases c1 : x5 = (0 : Int32)
    · rw [if_pos c1] at h
      exact (ax_fr.rf).tr (hK91 x4 S7 _ h)
    · rw [if_neg c1] at h
      obtain ⟨S9, hq2, h⟩ := ax_bd_e h
      have FS9 : ax_fr w_X12_readPlan S7 S9 := (ax_fr.rf).tr ((fr_X12_readStep hq2).mono (by decide))
      by_cases c3 : (ax_fi S9 12 0 11) = (Int32.ofInt (-1))
      · rw [if_pos c3] at h
        obtain ⟨v13, _, h⟩ := ax_let_e h
        obtain ⟨r17, S14, hq4, h⟩ := ax_bu_e h
        have FS14 : ax_fr w_X12_readPlan S7 S14 := (FS9).tr ((fr_X12_look hq4).mono (by decide))
        obtain ⟨J20, eJ20, h⟩ := ax_let_e h
        have hJ20 : ∀ (x18 : Int32) (S19 : AS) Z, J20 x18 S19 = some Z → ax_fr w_X12_readPlan S19 Z := by
          intro x18 S19 Z h
          rw [← eJ20] at h
          try dsimp only at h
          by_cases c5 : x18 = (0 : Int32)
          · rw [if_pos c5] at h
            by_cases c6 : x18 = (0 : Int32)
            · rw [if_pos c6] at h
              exact (ax_fr.rf).tr (ih v13 x18 S19 _ h)
            · rw [if_neg c6] at h
              obtain ⟨S23, eS23, h⟩ := ax_let_e h
              have FS23 : ax_fr w_X12_readPlan S19 S23 := eS23 ▸ (ax_fr.rf).tr (ax_fr_sfi (by decide))
              exact (FS23).tr (ih v13 x18 S23 _ h)
          · rw [if_neg c5] at h
            by_cases c7 : v13 = (16 : Int32)
            · rw [if_pos c7] at h
              obtain ⟨r30, S27, hq8, h⟩ := ax_bu_e h
              have FS27 : ax_fr w_X12_readPlan S19 S27 := (ax_fr.rf).tr ((fr_X12_fails hq8).mono (by decide))
              cases h
              exact FS27
            · rw [if_neg c7] at h
              by_cases c9 : x18 = (0 : Int32)
              · rw [if_pos c9] at h
                exact (ax_fr.rf).tr (ih v13 x18 S19 _ h)
              · rw [if_neg c9] at h
                obtain ⟨S26, eS26, h⟩ := ax_let_e h
                have FS26 : ax_fr w_X12_readPlan S19 S26 := eS26 ▸ (ax_fr.rf).tr (ax_fr_sfi (by decide))
                exact (FS26).tr (ih v13 x18 S26 _ h)
        by_cases c10 : r17 = (59 : Int32)
        · rw [if_pos c10] at h
          exact (FS14).tr (hJ20 (1 : Int32) S14 _ h)
        · rw [if_neg c10] at h
          exact (FS14).tr (hJ20 (0 : Int32) S14 _ h)
      · rw [if_neg c3] at h
        cases h
        exact FS9
set_option maxRecDepth 100000 in
theorem fr_X12_readPlan {S : AS} {Z : AS} (h : f_X12_readPlan S = some Z) : ax_fr w_X12_readPlan S Z := by
  unfold f_X12_readPlan at h
  obtain ⟨S1, hq11, h⟩ := ax_bd_e h
  have FS1 : ax_fr w_X12_readPlan S S1 := (ax_fr.rf).tr ((fr_X12_starts_44 hq11).mono (by decide))
  refine (FS1).tr (fl_X12_readPlan_L17 ?_ _ (0 : Int32) (1 : Int32) S1 _ h)
  · intro x6 S32 Z h
    obtain ⟨_, h⟩ := ax_gd_e h
    obtain ⟨S34, eS34, h⟩ := ax_let_e h
    have FS34 : ax_fr w_X12_readPlan S32 S34 := eS34 ▸ (ax_fr.rf).tr (ax_fr_sai (by decide))
    obtain ⟨r38, S35, hq12, h⟩ := ax_bu_e h
    have FS35 : ax_fr w_X12_readPlan S32 S35 := (FS34).tr ((fr_X12_look hq12).mono (by decide))
    by_cases c13 : r38 = (Int32.ofInt (-1))
    · rw [if_pos c13] at h
      cases h
      exact FS35
    · rw [if_neg c13] at h
      obtain ⟨r43, S40, hq14, h⟩ := ax_bu_e h
      have FS40 : ax_fr w_X12_readPlan S32 S40 := (FS35).tr ((fr_X12_fails hq14).mono (by decide))
      cases h
      exact FS40
abbrev w_X12_number : List (Nat × Nat × Nat) := [(0, 12, 10), (0, 12, 11)]
set_option maxRecDepth 100000 in
theorem fr_X12_number {a1 : Int32} {a2 : Int32} {S : AS} {Z : AS} {r : Int32} (h : f_X12_number a1 a2 S = some (r, Z)) : ax_fr w_X12_number S Z := by
  unfold f_X12_number at h
  obtain ⟨r4, S1, hq1, h⟩ := ax_bu_e h
  have FS1 : ax_fr w_X12_number S S1 := (ax_fr.rf).tr ((fr_X12_look hq1).mono (by decide))
  obtain ⟨r8, _, h⟩ := ax_bd_e h
  by_cases c3 : r8 = (0 : Int32)
  · rw [if_pos c3] at h
    obtain ⟨r48, S45, hq4, h⟩ := ax_bu_e h
    have FS45 : ax_fr w_X12_number S S45 := (FS1).tr ((fr_X12_fails hq4).mono (by decide))
    cases h
    exact FS45
  · rw [if_neg c3] at h
    obtain ⟨v10, _, h⟩ := ax_let_e h
    obtain ⟨S11, eS11, h⟩ := ax_let_e h
    have FS11 : ax_fr w_X12_number S S11 := eS11 ▸ (FS1).tr (ax_fr_sfi (by decide))
    obtain ⟨r15, _, h⟩ := ax_bd_e h
    obtain ⟨J18, eJ18, h⟩ := ax_let_e h
    have hJ18 : ∀ (x16 : Int32) (S17 : AS) r Z, J18 x16 S17 = some (r, Z) → ax_fr w_X12_number S17 Z := by
      intro x16 S17 r Z h
      rw [← eJ18] at h
      try dsimp only at h
      obtain ⟨r22, _, h⟩ := ax_bd_e h
      by_cases c7 : r22 = (0 : Int32)
      · rw [if_pos c7] at h
        obtain ⟨r27, _, h⟩ := ax_bd_e h
        by_cases c9 : r27 = (0 : Int32)
        · rw [if_pos c9] at h
          obtain ⟨S29, eS29, h⟩ := ax_let_e h
          have FS29 : ax_fr w_X12_number S17 S29 := eS29 ▸ (ax_fr.rf).tr (ax_fr_sfi (by decide))
          obtain ⟨r33, S30, hq10, h⟩ := ax_bu_e h
          have FS30 : ax_fr w_X12_number S17 S30 := (FS29).tr ((fr_X12_fails hq10).mono (by decide))
          cases h
          exact FS30
        · rw [if_neg c9] at h
          cases h
          exact ax_fr.rf
      · rw [if_neg c7] at h
        obtain ⟨r37, S34, hq11, h⟩ := ax_bu_e h
        have FS34 : ax_fr w_X12_number S17 S34 := (ax_fr.rf).tr ((fr_X12_fails hq11).mono (by decide))
        cases h
        exact FS34
    by_cases c12 : r15 = (0 : Int32)
    · rw [if_pos c12] at h
      exact (FS11).tr (hJ18 v10 S11 _ _ h)
    · rw [if_neg c12] at h
      obtain ⟨r42, _, h⟩ := ax_bd_e h
      obtain ⟨v43, _, h⟩ := ax_let_e h
      obtain ⟨S44, eS44, h⟩ := ax_let_e h
      have FS44 : ax_fr w_X12_number S S44 := eS44 ▸ (FS11).tr (ax_fr_sfi (by decide))
      exact (FS44).tr (hJ18 v43 S44 _ _ h)
abbrev w_X12_readItems_52x0_64x2 : List (Nat × Nat × Nat) := [(0, 12, 10), (0, 12, 11), (4, 52, 0)]
set_option maxRecDepth 100000 in
theorem fl_X12_readItems_52x0_64x2_L3 {K31 : Int32 → Int32 → AS → Option (AS)} (hK31 : ∀ (x0 : Int32) (x1 : Int32) (x2 : AS) Z, K31 x0 x1 x2 = some Z → ax_fr w_X12_readItems_52x0_64x2 x2 Z) : ∀ (n : Nat) (x1 : Int32) (x2 : Int32) (x3 : Int32) (S6 : AS) Z, f_X12_readItems_52x0_64x2_L3 K31 n x1 x2 x3 S6 = some Z → ax_fr w_X12_readItems_52x0_64x2 S6 Z := by
  intro n
  induction n with
  | zero =>
    intro x1 x2 x3 S6 Z h
    cases h
  | succ n ih =>
    intro x1 x2 x3 S6 Z h
    unfold f_X12_readItems_52x0_64x2_L3 at h
    by_cases c1 : ((Int32.ofNat 7) >>> ((0 : Int32) &&& 31)) ≤ x3
    · rw [if_pos c1] at h
      exact (ax_fr.rf).tr (hK31 x1 x2 S6 _ h)
    · rw [if_neg c1] at h
      obtain ⟨r14, _, h⟩ := ax_bd_e h
      obtain ⟨_, h⟩ := ax_gd_e h
      obtain ⟨S16, eS16, h⟩ := ax_let_e h
      have FS16 : ax_fr w_X12_readItems_52x0_64x2 S6 S16 := eS16 ▸ (ax_fr.rf).tr (ax_fr_sai (by decide))
      obtain ⟨v17, _, h⟩ := ax_let_e h
      exact (FS16).tr (ih x1 x2 v17 S16 _ h)
set_option maxRecDepth 100000 in
theorem fl_X12_readItems_52x0_64x2_L45 : ∀ (n : Nat) (x27 : Int32) (x28 : Int32) (x29 : Int32) (x30 : Int32) (S31 : AS) Z, f_X12_readItems_52x0_64x2_L45 n x27 x28 x29 x30 S31 = some Z → ax_fr w_X12_readItems_52x0_64x2 S31 Z := by
  intro n
  induction n with
  | zero =>
    intro x27 x28 x29 x30 S31 Z h
    cases h
  | succ n ih =>
    intro x27 x28 x29 x30 S31 Z h
    unfold f_X12_readItems_52x0_64x2_L45 at h
    by_cases c3 : x30 = (Int32.ofInt (-1))
    · rw [if_pos c3] at h
      cases h
      exact ax_fr.rf
    · rw [if_neg c3] at h
      by_cases c4 : (ax_fi S31 12 0 11) = (Int32.ofInt (-1))
      · rw [if_pos c4] at h
        obtain ⟨r37, _, h⟩ := ax_bd_e h
        by_cases c6 : r37 = (0 : Int32)
        · rw [if_pos c6] at h
          obtain ⟨v39, _, h⟩ := ax_let_e h
          obtain ⟨S40, eS40, h⟩ := ax_let_e h
          have FS40 : ax_fr w_X12_readItems_52x0_64x2 S31 S40 := eS40 ▸ (ax_fr.rf).tr (ax_fr_sfi (by decide))
          obtain ⟨r44, _, h⟩ := ax_bd_e h
          obtain ⟨r48, _, h⟩ := ax_bd_e h
          obtain ⟨r52, S49, hq9, h⟩ := ax_bu_e h
          have FS49 : ax_fr w_X12_readItems_52x0_64x2 S31 S49 := (FS40).tr ((fr_X12_number hq9).mono (by decide))
          obtain ⟨_, h⟩ := ax_gd_e h
          obtain ⟨S54, eS54, h⟩ := ax_let_e h
          have FS54 : ax_fr w_X12_readItems_52x0_64x2 S31 S54 := eS54 ▸ (FS49).tr (ax_fr_sai (by decide))
          by_cases c10 : (ax_fi S54 12 0 11) = (Int32.ofInt (-1))
          · rw [if_pos c10] at h
            obtain ⟨r59, S56, hq11, h⟩ := ax_bu_e h
            have FS56 : ax_fr w_X12_readItems_52x0_64x2 S31 S56 := (FS54).tr ((fr_X12_look hq11).mono (by decide))
            obtain ⟨r63, _, h⟩ := ax_bd_e h
            exact (FS56).tr (ih x27 x28 v39 r63 S56 _ h)
          · rw [if_neg c10] at h
            exact (FS54).tr (ih x27 x28 v39 x30 S54 _ h)
        · rw [if_neg c6] at h
          obtain ⟨r67, S64, hq13, h⟩ := ax_bu_e h
          have FS64 : ax_fr w_X12_readItems_52x0_64x2 S31 S64 := (ax_fr.rf).tr ((fr_X12_fails hq13).mono (by decide))
          cases h
          exact FS64
      · rw [if_neg c4] at h
        cases h
        exact ax_fr.rf
set_option maxRecDepth 100000 in
theorem fr_X12_readItems_52x0_64x2 {a1 : Int32} {a3 : Int32} {S : AS} {Z : AS} (h : f_X12_readItems_52x0_64x2 a1 a3 S = some Z) : ax_fr w_X12_readItems_52x0_64x2 S Z := by
  unfold f_X12_readItems_52x0_64x2 at h
  refine (ax_fr.rf).tr (fl_X12_readItems_52x0_64x2_L3 ?_ _ a1 a3 (0 : Int32) S _ h)
  · intro x4 x5 S18 Z h
    obtain ⟨r22, S19, hq14, h⟩ := ax_bu_e h
    have FS19 : ax_fr w_X12_readItems_52x0_64x2 S18 S19 := (ax_fr.rf).tr ((fr_X12_look hq14).mono (by decide))
    obtain ⟨r26, _, h⟩ := ax_bd_e h
    refine (FS19).tr (fl_X12_readItems_52x0_64x2_L45 _ x4 x5 (0 : Int32) r26 S19 _ h)
abbrev w_X12_readItems_50x0_64x1 : List (Nat × Nat × Nat) := [(0, 12, 10), (0, 12, 11), (4, 50, 0)]
set_option maxRecDepth 100000 in
theorem fl_X12_readItems_50x0_64x1_L3 {K31 : Int32 → Int32 → AS → Option (AS)} (hK31 : ∀ (x0 : Int32) (x1 : Int32) (x2 : AS) Z, K31 x0 x1 x2 = some Z → ax_fr w_X12_readItems_50x0_64x1 x2 Z) : ∀ (n : Nat) (x1 : Int32) (x2 : Int32) (x3 : Int32) (S6 : AS) Z, f_X12_readItems_50x0_64x1_L3 K31 n x1 x2 x3 S6 = some Z → ax_fr w_X12_readItems_50x0_64x1 S6 Z := by
  intro n
  induction n with
  | zero =>
    intro x1 x2 x3 S6 Z h
    cases h
  | succ n ih =>
    intro x1 x2 x3 S6 Z h
    unfold f_X12_readItems_50x0_64x1_L3 at h
    by_cases c1 : ((Int32.ofNat 2) >>> ((0 : Int32) &&& 31)) ≤ x3
    · rw [if_pos c1] at h
      exact (ax_fr.rf).tr (hK31 x1 x2 S6 _ h)
    · rw [if_neg c1] at h
      obtain ⟨r14, _, h⟩ := ax_bd_e h
      obtain ⟨_, h⟩ := ax_gd_e h
      obtain ⟨S16, eS16, h⟩ := ax_let_e h
      have FS16 : ax_fr w_X12_readItems_50x0_64x1 S6 S16 := eS16 ▸ (ax_fr.rf).tr (ax_fr_sai (by decide))
      obtain ⟨v17, _, h⟩ := ax_let_e h
      exact (FS16).tr (ih x1 x2 v17 S16 _ h)
set_option maxRecDepth 100000 in
theorem fl_X12_readItems_50x0_64x1_L45 : ∀ (n : Nat) (x27 : Int32) (x28 : Int32) (x29 : Int32) (x30 : Int32) (S31 : AS) Z, f_X12_readItems_50x0_64x1_L45 n x27 x28 x29 x30 S31 = some Z → ax_fr w_X12_readItems_50x0_64x1 S31 Z := by
  intro n
  induction n with
  | zero =>
    intro x27 x28 x29 x30 S31 Z h
    cases h
  | succ n ih =>
    intro x27 x28 x29 x30 S31 Z h
    unfold f_X12_readItems_50x0_64x1_L45 at h
    by_cases c3 : x30 = (Int32.ofInt (-1))
    · rw [if_pos c3] at h
      cases h
      exact ax_fr.rf
    · rw [if_neg c3] at h
      by_cases c4 : (ax_fi S31 12 0 11) = (Int32.ofInt (-1))
      · rw [if_pos c4] at h
        obtain ⟨r37, _, h⟩ := ax_bd_e h
        by_cases c6 : r37 = (0 : Int32)
        · rw [if_pos c6] at h
          obtain ⟨v39, _, h⟩ := ax_let_e h
          obtain ⟨S40, eS40, h⟩ := ax_let_e h
          have FS40 : ax_fr w_X12_readItems_50x0_64x1 S31 S40 := eS40 ▸ (ax_fr.rf).tr (ax_fr_sfi (by decide))
          obtain ⟨r44, _, h⟩ := ax_bd_e h
          obtain ⟨r48, _, h⟩ := ax_bd_e h
          obtain ⟨r52, S49, hq9, h⟩ := ax_bu_e h
          have FS49 : ax_fr w_X12_readItems_50x0_64x1 S31 S49 := (FS40).tr ((fr_X12_number hq9).mono (by decide))
          obtain ⟨_, h⟩ := ax_gd_e h
          obtain ⟨S54, eS54, h⟩ := ax_let_e h
          have FS54 : ax_fr w_X12_readItems_50x0_64x1 S31 S54 := eS54 ▸ (FS49).tr (ax_fr_sai (by decide))
          by_cases c10 : (ax_fi S54 12 0 11) = (Int32.ofInt (-1))
          · rw [if_pos c10] at h
            obtain ⟨r59, S56, hq11, h⟩ := ax_bu_e h
            have FS56 : ax_fr w_X12_readItems_50x0_64x1 S31 S56 := (FS54).tr ((fr_X12_look hq11).mono (by decide))
            obtain ⟨r63, _, h⟩ := ax_bd_e h
            exact (FS56).tr (ih x27 x28 v39 r63 S56 _ h)
          · rw [if_neg c10] at h
            exact (FS54).tr (ih x27 x28 v39 x30 S54 _ h)
        · rw [if_neg c6] at h
          obtain ⟨r67, S64, hq13, h⟩ := ax_bu_e h
          have FS64 : ax_fr w_X12_readItems_50x0_64x1 S31 S64 := (ax_fr.rf).tr ((fr_X12_fails hq13).mono (by decide))
          cases h
          exact FS64
      · rw [if_neg c4] at h
        cases h
        exact ax_fr.rf
set_option maxRecDepth 100000 in
theorem fr_X12_readItems_50x0_64x1 {a1 : Int32} {a3 : Int32} {S : AS} {Z : AS} (h : f_X12_readItems_50x0_64x1 a1 a3 S = some Z) : ax_fr w_X12_readItems_50x0_64x1 S Z := by
  unfold f_X12_readItems_50x0_64x1 at h
  refine (ax_fr.rf).tr (fl_X12_readItems_50x0_64x1_L3 ?_ _ a1 a3 (0 : Int32) S _ h)
  · intro x4 x5 S18 Z h
    obtain ⟨r22, S19, hq14, h⟩ := ax_bu_e h
    have FS19 : ax_fr w_X12_readItems_50x0_64x1 S18 S19 := (ax_fr.rf).tr ((fr_X12_look hq14).mono (by decide))
    obtain ⟨r26, _, h⟩ := ax_bd_e h
    refine (FS19).tr (fl_X12_readItems_50x0_64x1_L45 _ x4 x5 (0 : Int32) r26 S19 _ h)
abbrev w_X12_readItems_48x0_64x0 : List (Nat × Nat × Nat) := [(0, 12, 10), (0, 12, 11), (4, 48, 0)]
set_option maxRecDepth 100000 in
theorem fl_X12_readItems_48x0_64x0_L3 {K31 : Int32 → Int32 → AS → Option (AS)} (hK31 : ∀ (x0 : Int32) (x1 : Int32) (x2 : AS) Z, K31 x0 x1 x2 = some Z → ax_fr w_X12_readItems_48x0_64x0 x2 Z) : ∀ (n : Nat) (x1 : Int32) (x2 : Int32) (x3 : Int32) (S6 : AS) Z, f_X12_readItems_48x0_64x0_L3 K31 n x1 x2 x3 S6 = some Z → ax_fr w_X12_readItems_48x0_64x0 S6 Z := by
  intro n
  induction n with
  | zero =>
    intro x1 x2 x3 S6 Z h
    cases h
  | succ n ih =>
    intro x1 x2 x3 S6 Z h
    unfold f_X12_readItems_48x0_64x0_L3 at h
    by_cases c1 : ((Int32.ofNat 3) >>> ((0 : Int32) &&& 31)) ≤ x3
    · rw [if_pos c1] at h
      exact (ax_fr.rf).tr (hK31 x1 x2 S6 _ h)
    · rw [if_neg c1] at h
      obtain ⟨r14, _, h⟩ := ax_bd_e h
      obtain ⟨_, h⟩ := ax_gd_e h
      obtain ⟨S16, eS16, h⟩ := ax_let_e h
      have FS16 : ax_fr w_X12_readItems_48x0_64x0 S6 S16 := eS16 ▸ (ax_fr.rf).tr (ax_fr_sai (by decide))
      obtain ⟨v17, _, h⟩ := ax_let_e h
      exact (FS16).tr (ih x1 x2 v17 S16 _ h)
set_option maxRecDepth 100000 in
theorem fl_X12_readItems_48x0_64x0_L45 : ∀ (n : Nat) (x27 : Int32) (x28 : Int32) (x29 : Int32) (x30 : Int32) (S31 : AS) Z, f_X12_readItems_48x0_64x0_L45 n x27 x28 x29 x30 S31 = some Z → ax_fr w_X12_readItems_48x0_64x0 S31 Z := by
  intro n
  induction n with
  | zero =>
    intro x27 x28 x29 x30 S31 Z h
    cases h
  | succ n ih =>
    intro x27 x28 x29 x30 S31 Z h
    unfold f_X12_readItems_48x0_64x0_L45 at h
    by_cases c3 : x30 = (Int32.ofInt (-1))
    · rw [if_pos c3] at h
      cases h
      exact ax_fr.rf
    · rw [if_neg c3] at h
      by_cases c4 : (ax_fi S31 12 0 11) = (Int32.ofInt (-1))
      · rw [if_pos c4] at h
        obtain ⟨r37, _, h⟩ := ax_bd_e h
        by_cases c6 : r37 = (0 : Int32)
        · rw [if_pos c6] at h
          obtain ⟨v39, _, h⟩ := ax_let_e h
          obtain ⟨S40, eS40, h⟩ := ax_let_e h
          have FS40 : ax_fr w_X12_readItems_48x0_64x0 S31 S40 := eS40 ▸ (ax_fr.rf).tr (ax_fr_sfi (by decide))
          obtain ⟨r44, _, h⟩ := ax_bd_e h
          obtain ⟨r48, _, h⟩ := ax_bd_e h
          obtain ⟨r52, S49, hq9, h⟩ := ax_bu_e h
          have FS49 : ax_fr w_X12_readItems_48x0_64x0 S31 S49 := (FS40).tr ((fr_X12_number hq9).mono (by decide))
          obtain ⟨_, h⟩ := ax_gd_e h
          obtain ⟨S54, eS54, h⟩ := ax_let_e h
          have FS54 : ax_fr w_X12_readItems_48x0_64x0 S31 S54 := eS54 ▸ (FS49).tr (ax_fr_sai (by decide))
          by_cases c10 : (ax_fi S54 12 0 11) = (Int32.ofInt (-1))
          · rw [if_pos c10] at h
            obtain ⟨r59, S56, hq11, h⟩ := ax_bu_e h
            have FS56 : ax_fr w_X12_readItems_48x0_64x0 S31 S56 := (FS54).tr ((fr_X12_look hq11).mono (by decide))
            obtain ⟨r63, _, h⟩ := ax_bd_e h
            exact (FS56).tr (ih x27 x28 v39 r63 S56 _ h)
          · rw [if_neg c10] at h
            exact (FS54).tr (ih x27 x28 v39 x30 S54 _ h)
        · rw [if_neg c6] at h
          obtain ⟨r67, S64, hq13, h⟩ := ax_bu_e h
          have FS64 : ax_fr w_X12_readItems_48x0_64x0 S31 S64 := (ax_fr.rf).tr ((fr_X12_fails hq13).mono (by decide))
          cases h
          exact FS64
      · rw [if_neg c4] at h
        cases h
        exact ax_fr.rf
set_option maxRecDepth 100000 in
theorem fr_X12_readItems_48x0_64x0 {a1 : Int32} {a3 : Int32} {S : AS} {Z : AS} (h : f_X12_readItems_48x0_64x0 a1 a3 S = some Z) : ax_fr w_X12_readItems_48x0_64x0 S Z := by
  unfold f_X12_readItems_48x0_64x0 at h
  refine (ax_fr.rf).tr (fl_X12_readItems_48x0_64x0_L3 ?_ _ a1 a3 (0 : Int32) S _ h)
  · intro x4 x5 S18 Z h
    obtain ⟨r22, S19, hq14, h⟩ := ax_bu_e h
    have FS19 : ax_fr w_X12_readItems_48x0_64x0 S18 S19 := (ax_fr.rf).tr ((fr_X12_look hq14).mono (by decide))
    obtain ⟨r26, _, h⟩ := ax_bd_e h
    refine (FS19).tr (fl_X12_readItems_48x0_64x0_L45 _ x4 x5 (0 : Int32) r26 S19 _ h)
abbrev w_X12_readClause : List (Nat × Nat × Nat) := [(0, 12, 10), (0, 12, 11), (0, 12, 28), (0, 12, 29), (0, 12, 31), (4, 48, 0), (4, 50, 0), (4, 52, 0)]
set_option maxRecDepth 100000 in
theorem fr_X12_readClause {S : AS} {Z : AS} (h : f_X12_readClause S = some Z) : ax_fr w_X12_readClause S Z := by
  unfold f_X12_readClause at h
  obtain ⟨r4, S1, hq1, h⟩ := ax_bu_e h
  have FS1 : ax_fr w_X12_readClause S S1 := (ax_fr.rf).tr ((fr_X12_look hq1).mono (by decide))
  obtain ⟨J7, eJ7, h⟩ := ax_let_e h
  have hJ7 : ∀ (x5 : Int32) (S6 : AS) Z, J7 x5 S6 = some Z → ax_fr w_X12_readClause S6 Z := by
    intro x5 S6 Z h
    rw [← eJ7] at h
    try dsimp only at h
    by_cases c2 : x5 = (0 : Int32)
    · rw [if_pos c2] at h
      obtain ⟨r27, S24, hq3, h⟩ := ax_bu_e h
      have FS24 : ax_fr w_X12_readClause S6 S24 := (ax_fr.rf).tr ((fr_X12_fails hq3).mono (by decide))
      cases h
      exact FS24
    · rw [if_neg c2] at h
      obtain ⟨S9, eS9, h⟩ := ax_let_e h
      have FS9 : ax_fr w_X12_readClause S6 S9 := eS9 ▸ (ax_fr.rf).tr (ax_fr_sfi (by decide))
      by_cases c4 : r4 = (115 : Int32)
      · rw [if_pos c4] at h
        obtain ⟨S20, eS20, h⟩ := ax_let_e h
        have FS20 : ax_fr w_X12_readClause S6 S20 := eS20 ▸ (FS9).tr (ax_fr_sfi (by decide))
        obtain ⟨S21, hq5, h⟩ := ax_bd_e h
        have FS21 : ax_fr w_X12_readClause S6 S21 := (FS20).tr ((fr_X12_readItems_48x0_64x0 hq5).mono (by decide))
        cases h
        exact FS21
      · rw [if_neg c4] at h
        by_cases c6 : r4 = (108 : Int32)
        · rw [if_pos c6] at h
          obtain ⟨S16, eS16, h⟩ := ax_let_e h
          have FS16 : ax_fr w_X12_readClause S6 S16 := eS16 ▸ (FS9).tr (ax_fr_sfi (by decide))
          obtain ⟨S17, hq7, h⟩ := ax_bd_e h
          have FS17 : ax_fr w_X12_readClause S6 S17 := (FS16).tr ((fr_X12_readItems_50x0_64x1 hq7).mono (by decide))
          cases h
          exact FS17
        · rw [if_neg c6] at h
          obtain ⟨S12, eS12, h⟩ := ax_let_e h
          have FS12 : ax_fr w_X12_readClause S6 S12 := eS12 ▸ (FS9).tr (ax_fr_sfi (by decide))
          obtain ⟨S13, hq8, h⟩ := ax_bd_e h
          have FS13 : ax_fr w_X12_readClause S6 S13 := (FS12).tr ((fr_X12_readItems_52x0_64x2 hq8).mono (by decide))
          cases h
          exact FS13
  by_cases c9 : r4 = (115 : Int32)
  · rw [if_pos c9] at h
    by_cases c10 : (ax_fi S1 12 0 31) = (0 : Int32)
    · rw [if_pos c10] at h
      exact (FS1).tr (hJ7 (1 : Int32) S1 _ h)
    · rw [if_neg c10] at h
      by_cases c11 : r4 = (108 : Int32)
      · rw [if_pos c11] at h
        by_cases c12 : (ax_fi S1 12 0 28) < (4 : Int32)
        · rw [if_pos c12] at h
          exact (FS1).tr (hJ7 (1 : Int32) S1 _ h)
        · rw [if_neg c12] at h
          by_cases c13 : r4 = (118 : Int32)
          · rw [if_pos c13] at h
            by_cases c14 : (6 : Int32) ≤ (ax_fi S1 12 0 29)
            · rw [if_pos c14] at h
              exact (FS1).tr (hJ7 (0 : Int32) S1 _ h)
            · rw [if_neg c14] at h
              exact (FS1).tr (hJ7 (1 : Int32) S1 _ h)
          · rw [if_neg c13] at h
            exact (FS1).tr (hJ7 (0 : Int32) S1 _ h)
      · rw [if_neg c11] at h
        by_cases c15 : r4 = (118 : Int32)
        · rw [if_pos c15] at h
          by_cases c16 : (6 : Int32) ≤ (ax_fi S1 12 0 29)
          · rw [if_pos c16] at h
            exact (FS1).tr (hJ7 (0 : Int32) S1 _ h)
          · rw [if_neg c16] at h
            exact (FS1).tr (hJ7 (1 : Int32) S1 _ h)
        · rw [if_neg c15] at h
          exact (FS1).tr (hJ7 (0 : Int32) S1 _ h)
  · rw [if_neg c9] at h
    by_cases c17 : r4 = (108 : Int32)
    · rw [if_pos c17] at h
      by_cases c18 : (ax_fi S1 12 0 28) < (4 : Int32)
      · rw [if_pos c18] at h
        exact (FS1).tr (hJ7 (1 : Int32) S1 _ h)
      · rw [if_neg c18] at h
        by_cases c19 : r4 = (118 : Int32)
        · rw [if_pos c19] at h
          by_cases c20 : (6 : Int32) ≤ (ax_fi S1 12 0 29)
          · rw [if_pos c20] at h
            exact (FS1).tr (hJ7 (0 : Int32) S1 _ h)
          · rw [if_neg c20] at h
            exact (FS1).tr (hJ7 (1 : Int32) S1 _ h)
        · rw [if_neg c19] at h
          exact (FS1).tr (hJ7 (0 : Int32) S1 _ h)
    · rw [if_neg c17] at h
      by_cases c21 : r4 = (118 : Int32)
      · rw [if_pos c21] at h
        by_cases c22 : (6 : Int32) ≤ (ax_fi S1 12 0 29)
        · rw [if_pos c22] at h
          exact (FS1).tr (hJ7 (0 : Int32) S1 _ h)
        · rw [if_neg c22] at h
          exact (FS1).tr (hJ7 (1 : Int32) S1 _ h)
      · rw [if_neg c21] at h
        exact (FS1).tr (hJ7 (0 : Int32) S1 _ h)
abbrev w_X12_readHouse : List (Nat × Nat × Nat) := [(0, 12, 8), (0, 12, 9), (0, 12, 10), (0, 12, 11), (0, 12, 28), (0, 12, 29), (0, 12, 31), (2, 12, 5), (4, 48, 0), (4, 50, 0), (4, 52, 0)]
set_option maxRecDepth 100000 in
theorem fl_X12_readHouse_L30 {K53 : AS → Option (AS)} (hK53 : ∀ (x0 : AS) Z, K53 x0 = some Z → ax_fr w_X12_readHouse x0 Z) : ∀ (n : Nat) (x7 : Int32) (S8 : AS) Z, f_X12_readHouse_L30 K53 n x7 S8 = some Z → ax_fr w_X12_readHouse S8 Z := by
  intro n
  induction n with
  | zero =>
    intro x7 S8 Z h
    cases h
  | succ n ih =>
    intro x7 S8 Z h
    unfold f_X12_readHouse_L30 at h
    by_cases c1 : (3 : Int32) ≤ x7
    · rw [if_pos c1] at h
      exact (ax_fr.rf).tr (hK53 S8 _ h)
    · rw [if_neg c1] at h
      obtain ⟨r13, _, h⟩ := ax_bd_e h
      obtain ⟨_, h⟩ := ax_gd_e h
      obtain ⟨S15, eS15, h⟩ := ax_let_e h
      have FS15 : ax_fr w_X12_readHouse S8 S15 := eS15 ▸ (ax_fr.rf).tr (ax_fr_sai (by decide))
      obtain ⟨v16, _, h⟩ := ax_let_e h
      exact (FS15).tr (ih v16 S15 _ h)
set_option maxRecDepth 100000 in
theorem fl_X12_readHouse_L55 {K111 : AS → Option (AS)} (hK111 : ∀ (x0 : AS) Z, K111 x0 = some Z → ax_fr w_X12_readHouse x0 Z) : ∀ (n : Nat) (x18 : Int32) (S19 : AS) Z, f_X12_readHouse_L55 K111 n x18 S19 = some Z → ax_fr w_X12_readHouse S19 Z := by
  intro n
  induction n with
  | zero =>
    intro x18 S19 Z h
    cases h
  | succ n ih =>
    intro x18 S19 Z h
    unfold f_X12_readHouse_L55 at h
    by_cases c3 : x18 = (0 : Int32)
    · rw [if_pos c3] at h
      exact (ax_fr.rf).tr (hK111 S19 _ h)
    · rw [if_neg c3] at h
      by_cases c4 : (ax_fi S19 12 0 11) = (Int32.ofInt (-1))
      · rw [if_pos c4] at h
        obtain ⟨S22, hq5, h⟩ := ax_bd_e h
        have FS22 : ax_fr w_X12_readHouse S19 S22 := (ax_fr.rf).tr ((fr_X12_readClause hq5).mono (by decide))
        obtain ⟨J27, eJ27, h⟩ := ax_let_e h
        have hJ27 : ∀ (x25 : Int32) (S26 : AS) Z, J27 x25 S26 = some Z → ax_fr w_X12_readHouse S26 Z := by
          intro x25 S26 Z h
          rw [← eJ27] at h
          try dsimp only at h
          by_cases c6 : x25 = (0 : Int32)
          · rw [if_pos c6] at h
            exact (ax_fr.rf).tr (ih x25 S26 _ h)
          · rw [if_neg c6] at h
            obtain ⟨S29, eS29, h⟩ := ax_let_e h
            have FS29 : ax_fr w_X12_readHouse S26 S29 := eS29 ▸ (ax_fr.rf).tr (ax_fr_sfi (by decide))
            exact (FS29).tr (ih x25 S29 _ h)
        by_cases c7 : (ax_fi S22 12 0 11) = (Int32.ofInt (-1))
        · rw [if_pos c7] at h
          obtain ⟨r34, S31, hq8, h⟩ := ax_bu_e h
          have FS31 : ax_fr w_X12_readHouse S19 S31 := (FS22).tr ((fr_X12_look hq8).mono (by decide))
          by_cases c9 : r34 = (59 : Int32)
          · rw [if_pos c9] at h
            exact (FS31).tr (hJ27 (1 : Int32) S31 _ h)
          · rw [if_neg c9] at h
            exact (FS31).tr (hJ27 (0 : Int32) S31 _ h)
        · rw [if_neg c7] at h
          exact (FS22).tr (hJ27 (0 : Int32) S22 _ h)
      · rw [if_neg c4] at h
        exact (ax_fr.rf).tr (hK111 S19 _ h)
set_option maxRecDepth 100000 in
theorem fr_X12_readHouse {S : AS} {Z : AS} (h : f_X12_readHouse S = some Z) : ax_fr w_X12_readHouse S Z := by
  unfold f_X12_readHouse at h
  obtain ⟨S1, hq10, h⟩ := ax_bd_e h
  have FS1 : ax_fr w_X12_readHouse S S1 := (ax_fr.rf).tr ((fr_X12_starts_44 hq10).mono (by decide))
  obtain ⟨S4, eS4, h⟩ := ax_let_e h
  have FS4 : ax_fr w_X12_readHouse S S4 := eS4 ▸ (FS1).tr (ax_fr_sfi (by decide))
  obtain ⟨S5, eS5, h⟩ := ax_let_e h
  have FS5 : ax_fr w_X12_readHouse S S5 := eS5 ▸ (FS4).tr (ax_fr_sfi (by decide))
  obtain ⟨S6, eS6, h⟩ := ax_let_e h
  have FS6 : ax_fr w_X12_readHouse S S6 := eS6 ▸ (FS5).tr (ax_fr_sfi (by decide))
  refine (FS6).tr (fl_X12_readHouse_L30 ?_ _ (0 : Int32) S6 _ h)
  · intro S17 Z h
    refine (ax_fr.rf).tr (fl_X12_readHouse_L55 ?_ _ (1 : Int32) S17 _ h)
    · intro S36 Z h
      by_cases c11 : (ax_fi S36 12 0 11) = (Int32.ofInt (-1))
      · rw [if_pos c11] at h
        obtain ⟨r41, S38, hq12, h⟩ := ax_bu_e h
        have FS38 : ax_fr w_X12_readHouse S36 S38 := (ax_fr.rf).tr ((fr_X12_look hq12).mono (by decide))
        by_cases c13 : r41 = (Int32.ofInt (-1))
        · rw [if_pos c13] at h
          obtain ⟨r50, _, h⟩ := ax_bd_e h
          by_cases c15 : r50 = (0 : Int32)
          · rw [if_pos c15] at h
            obtain ⟨r55, S52, hq16, h⟩ := ax_bu_e h
            have FS52 : ax_fr w_X12_readHouse S36 S52 := (FS38).tr ((fr_X12_fails hq16).mono (by decide))
            cases h
            exact FS52
          · rw [if_neg c15] at h
            cases h
            exact FS38
        · rw [if_neg c13] at h
          obtain ⟨r46, S43, hq17, h⟩ := ax_bu_e h
          have FS43 : ax_fr w_X12_readHouse S36 S43 := (FS38).tr ((fr_X12_fails hq17).mono (by decide))
          cases h
          exact FS43
      · rw [if_neg c11] at h
        cases h
        exact ax_fr.rf
abbrev w_X12_fault : List (Nat × Nat × Nat) := [(0, 12, 0), (0, 12, 8), (0, 12, 9), (0, 12, 10), (0, 12, 11), (0, 12, 12), (0, 12, 13), (0, 12, 14), (0, 12, 17), (0, 12, 28), (0, 12, 29), (0, 12, 31), (2, 12, 5), (4, 48, 0), (4, 50, 0), (4, 52, 0), (4, 53, 0), (4, 54, 0)]
set_option maxRecDepth 100000 in
theorem fr_X12_fault {a1 : Int32} {S : AS} {Z : AS} {r : Int32} (h : f_X12_fault a1 S = some (r, Z)) : ax_fr w_X12_fault S Z := by
  unfold f_X12_fault at h
  obtain ⟨S1, eS1, h⟩ := ax_let_e h
  have FS1 : ax_fr w_X12_fault S S1 := eS1 ▸ (ax_fr.rf).tr (ax_fr_sfi (by decide))
  obtain ⟨r5, _, h⟩ := ax_bd_e h
  by_cases c2 : r5 = (0 : Int32)
  · rw [if_pos c2] at h
    cases h
    exact FS1
  · rw [if_neg c2] at h
    obtain ⟨J8, eJ8, h⟩ := ax_let_e h
    have hJ8 : ∀ (S7 : AS) r Z, J8 S7 = some (r, Z) → ax_fr w_X12_fault S7 Z := by
      intro S7 r Z h
      rw [← eJ8] at h
      try dsimp only at h
      by_cases c3 : a1 = (1 : Int32)
      · rw [if_pos c3] at h
        obtain ⟨S14, hq4, h⟩ := ax_bd_e h
        have FS14 : ax_fr w_X12_fault S7 S14 := (ax_fr.rf).tr ((fr_X12_goThrough_44 hq4).mono (by decide))
        by_cases c5 : a1 = (2 : Int32)
        · rw [if_pos c5] at h
          obtain ⟨S18, hq6, h⟩ := ax_bd_e h
          have FS18 : ax_fr w_X12_fault S7 S18 := (FS14).tr ((fr_X12_readPlan hq6).mono (by decide))
          cases h
          exact FS18
        · rw [if_neg c5] at h
          cases h
          exact FS14
      · rw [if_neg c3] at h
        by_cases c7 : a1 = (2 : Int32)
        · rw [if_pos c7] at h
          obtain ⟨S11, hq8, h⟩ := ax_bd_e h
          have FS11 : ax_fr w_X12_fault S7 S11 := (ax_fr.rf).tr ((fr_X12_readPlan hq8).mono (by decide))
          cases h
          exact FS11
        · rw [if_neg c7] at h
          cases h
          exact ax_fr.rf
    by_cases c9 : a1 = (0 : Int32)
    · rw [if_pos c9] at h
      obtain ⟨S22, hq10, h⟩ := ax_bd_e h
      have FS22 : ax_fr w_X12_fault S S22 := (FS1).tr ((fr_X12_readHouse hq10).mono (by decide))
      exact (FS22).tr (hJ8 S22 _ _ h)
    · rw [if_neg c9] at h
      exact (FS1).tr (hJ8 S1 _ _ h)
abbrev w_X12_put : List (Nat × Nat × Nat) := [(0, 12, 6), (4, 44, 0)]
set_option maxRecDepth 100000 in
theorem fl_X12_put_L3 {K49 : AS → Option (AS)} (hK49 : ∀ (x0 : AS) Z, K49 x0 = some Z → ax_fr w_X12_put x0 Z) : ∀ (n : Nat) (x1 : Int32) (x2 : Int32) (S3 : AS) Z, f_X12_put_L3 K49 n x1 x2 S3 = some Z → ax_fr w_X12_put S3 Z := by
  intro n
  induction n with
  | zero =>
    intro x1 x2 S3 Z h
    cases h
  | succ n ih =>
    intro x1 x2 S3 Z h
    unfold f_X12_put_L3 at h
    by_cases c1 : x2 < (0 : Int32)
    · rw [if_pos c1] at h
      exact (ax_fr.rf).tr (hK49 S3 _ h)
    · rw [if_neg c1] at h
      by_cases c2 : ((x1 >>> (x2 &&& 31)) &&& (255 : Int32)) = (0 : Int32)
      · rw [if_pos c2] at h
        obtain ⟨v10, _, h⟩ := ax_let_e h
        exact (ax_fr.rf).tr (ih x1 v10 S3 _ h)
      · rw [if_neg c2] at h
        obtain ⟨_, h⟩ := ax_gd_e h
        obtain ⟨S7, eS7, h⟩ := ax_let_e h
        have FS7 : ax_fr w_X12_put S3 S7 := eS7 ▸ (ax_fr.rf).tr (ax_fr_sai (by decide))
        obtain ⟨S8, eS8, h⟩ := ax_let_e h
        have FS8 : ax_fr w_X12_put S3 S8 := eS8 ▸ (FS7).tr (ax_fr_sfi (by decide))
        obtain ⟨v9, _, h⟩ := ax_let_e h
        exact (FS8).tr (ih x1 v9 S8 _ h)
set_option maxRecDepth 100000 in
theorem fr_X12_put {a1 : Int32} {S : AS} {Z : AS} (h : f_X12_put a1 S = some Z) : ax_fr w_X12_put S Z := by
  unfold f_X12_put at h
  refine (ax_fr.rf).tr (fl_X12_put_L3 ?_ _ a1 (24 : Int32) S _ h)
  · intro S11 Z h
    cases h
    exact ax_fr.rf
abbrev w_X12_feed : List (Nat × Nat × Nat) := [(0, 12, 0), (0, 12, 6), (4, 44, 0)]
set_option maxRecDepth 100000 in
theorem fr_X12_feed {a1 : Int32} {a2 : Int32} {a3 : Int32} {a4 : Int32} {a5 : Int32} {S : AS} {Z : AS} {r : Int32} (h : f_X12_feed a1 a2 a3 a4 a5 S = some (r, Z)) : ax_fr w_X12_feed S Z := by
  unfold f_X12_feed at h
  obtain ⟨S1, eS1, h⟩ := ax_let_e h
  have FS1 : ax_fr w_X12_feed S S1 := eS1 ▸ (ax_fr.rf).tr (ax_fr_sfi (by decide))
  obtain ⟨r5, _, h⟩ := ax_bd_e h
  obtain ⟨r9, _, h⟩ := ax_bd_e h
  obtain ⟨r13, _, h⟩ := ax_bd_e h
  obtain ⟨r17, _, h⟩ := ax_bd_e h
  obtain ⟨r21, _, h⟩ := ax_bd_e h
  by_cases c6 : ((((((ax_fi S1 12 0 6) + r5) + r9) + r13) + r17) + r21) ≤ (240 : Int32)
  · rw [if_pos c6] at h
    obtain ⟨S23, hq7, h⟩ := ax_bd_e h
    have FS23 : ax_fr w_X12_feed S S23 := (FS1).tr ((fr_X12_put hq7).mono (by decide))
    obtain ⟨S26, hq8, h⟩ := ax_bd_e h
    have FS26 : ax_fr w_X12_feed S S26 := (FS23).tr ((fr_X12_put hq8).mono (by decide))
    obtain ⟨S29, hq9, h⟩ := ax_bd_e h
    have FS29 : ax_fr w_X12_feed S S29 := (FS26).tr ((fr_X12_put hq9).mono (by decide))
    obtain ⟨S32, hq10, h⟩ := ax_bd_e h
    have FS32 : ax_fr w_X12_feed S S32 := (FS29).tr ((fr_X12_put hq10).mono (by decide))
    obtain ⟨S35, hq11, h⟩ := ax_bd_e h
    have FS35 : ax_fr w_X12_feed S S35 := (FS32).tr ((fr_X12_put hq11).mono (by decide))
    cases h
    exact FS35
  · rw [if_neg c6] at h
    cases h
    exact FS1
abbrev w_X12_gameOf : List (Nat × Nat × Nat) := [(0, 12, 8), (0, 12, 9), (0, 12, 10), (0, 12, 11), (0, 12, 12), (0, 12, 13), (0, 12, 14), (0, 12, 17), (2, 12, 5), (4, 46, 0), (4, 58, 0), (5, 57, 0)]
set_option maxRecDepth 100000 in
theorem fr_X12_gameOf {a1 : Int32} {a2 : Int32} {a3 : Int32} {a4 : Int32} {a5 : Int32} {S : AS} {Z : AS} {r : Int32} (h : f_X12_gameOf a1 a2 a3 a4 a5 S = some (r, Z)) : ax_fr w_X12_gameOf S Z := by
  unfold f_X12_gameOf at h
  obtain ⟨J3, eJ3, h⟩ := ax_let_e h
  have hJ3 : ∀ (x1 : Int32) (S2 : AS) r Z, J3 x1 S2 = some (r, Z) → ax_fr w_X12_gameOf S2 Z := by
    intro x1 S2 r Z h
    rw [← eJ3] at h
    try dsimp only at h
    obtain ⟨J6, eJ6, h⟩ := ax_let_e h
    have hJ6 : ∀ (x4 : Int32) (S5 : AS) r Z, J6 x4 S5 = some (r, Z) → ax_fr w_X12_gameOf S5 Z := by
      intro x4 S5 r Z h
      rw [← eJ6] at h
      try dsimp only at h
      obtain ⟨J9, eJ9, h⟩ := ax_let_e h
      have hJ9 : ∀ (x7 : Int32) (S8 : AS) r Z, J9 x7 S8 = some (r, Z) → ax_fr w_X12_gameOf S8 Z := by
        intro x7 S8 r Z h
        rw [← eJ9] at h
        try dsimp only at h
        obtain ⟨_, h⟩ := ax_gd_e h
        obtain ⟨r14, S11, hq1, h⟩ := ax_bu_e h
        have FS11 : ax_fr w_X12_gameOf S8 S11 := (ax_fr.rf).tr ((fr_X12_takesTitled hq1).mono (by decide))
        obtain ⟨r18, _, h⟩ := ax_bd_e h
        obtain ⟨J21, eJ21, h⟩ := ax_let_e h
        have hJ21 : ∀ (x19 : Int32) (S20 : AS) r Z, J21 x19 S20 = some (r, Z) → ax_fr w_X12_gameOf S20 Z := by
          intro x19 S20 r Z h
          rw [← eJ21] at h
          try dsimp only at h
          by_cases c3 : x7 ≤ x4
          · rw [if_pos c3] at h
            cases h
            exact ax_fr.rf
          · rw [if_neg c3] at h
            cases h
            exact ax_fr.rf
        by_cases c4 : r14 < r18
        · rw [if_pos c4] at h
          exact (FS11).tr (hJ21 (0 : Int32) S11 _ _ h)
        · rw [if_neg c4] at h
          obtain ⟨r27, _, h⟩ := ax_bd_e h
          exact (FS11).tr (hJ21 r27 S11 _ _ h)
      by_cases c6 : a5 = (0 : Int32)
      · rw [if_pos c6] at h
        exact (ax_fr.rf).tr (hJ9 a4 S5 _ _ h)
      · rw [if_neg c6] at h
        exact (ax_fr.rf).tr (hJ9 a3 S5 _ _ h)
    by_cases c7 : a5 = (0 : Int32)
    · rw [if_pos c7] at h
      exact (ax_fr.rf).tr (hJ6 a3 S2 _ _ h)
    · rw [if_neg c7] at h
      exact (ax_fr.rf).tr (hJ6 a4 S2 _ _ h)
  by_cases c8 : a5 = (0 : Int32)
  · rw [if_pos c8] at h
    exact (ax_fr.rf).tr (hJ3 a1 S _ _ h)
  · rw [if_neg c8] at h
    exact (ax_fr.rf).tr (hJ3 a2 S _ _ h)
abbrev w_X12_game : List (Nat × Nat × Nat) := [(0, 12, 0), (0, 12, 8), (0, 12, 9), (0, 12, 10), (0, 12, 11), (0, 12, 12), (0, 12, 13), (0, 12, 14), (0, 12, 17), (2, 12, 5), (4, 46, 0), (4, 58, 0), (5, 57, 0)]
set_option maxRecDepth 100000 in
theorem fr_X12_game {a1 : Int32} {a2 : Int32} {a3 : Int32} {a4 : Int32} {a5 : Int32} {S : AS} {Z : AS} {r : Int32} (h : f_X12_game a1 a2 a3 a4 a5 S = some (r, Z)) : ax_fr w_X12_game S Z := by
  unfold f_X12_game at h
  obtain ⟨S1, eS1, h⟩ := ax_let_e h
  have FS1 : ax_fr w_X12_game S S1 := eS1 ▸ (ax_fr.rf).tr (ax_fr_sfi (by decide))
  obtain ⟨r5, _, h⟩ := ax_bd_e h
  by_cases c2 : r5 = (0 : Int32)
  · rw [if_pos c2] at h
    cases h
    exact FS1
  · rw [if_neg c2] at h
    obtain ⟨r10, _, h⟩ := ax_bd_e h
    by_cases c4 : r10 = (0 : Int32)
    · rw [if_pos c4] at h
      cases h
      exact FS1
    · rw [if_neg c4] at h
      obtain ⟨r15, _, h⟩ := ax_bd_e h
      by_cases c6 : r15 = (0 : Int32)
      · rw [if_pos c6] at h
        cases h
        exact FS1
      · rw [if_neg c6] at h
        obtain ⟨r20, _, h⟩ := ax_bd_e h
        by_cases c8 : r20 = (0 : Int32)
        · rw [if_pos c8] at h
          cases h
          exact FS1
        · rw [if_neg c8] at h
          obtain ⟨r25, S22, hq9, h⟩ := ax_bu_e h
          have FS22 : ax_fr w_X12_game S S22 := (FS1).tr ((fr_X12_gameOf hq9).mono (by decide))
          cases h
          exact FS22
abbrev w_X12_hards : List (Nat × Nat × Nat) := [(0, 12, 0), (0, 12, 8), (0, 12, 9), (0, 12, 10), (0, 12, 11), (0, 12, 12), (0, 12, 13), (0, 12, 14), (0, 12, 17), (2, 12, 5), (4, 46, 0), (4, 58, 0), (5, 57, 0)]
set_option maxRecDepth 100000 in
theorem fr_X12_hards {a1 : Int32} {S : AS} {Z : AS} {r : Int32} (h : f_X12_hards a1 S = some (r, Z)) : ax_fr w_X12_hards S Z := by
  unfold f_X12_hards at h
  obtain ⟨S1, eS1, h⟩ := ax_let_e h
  have FS1 : ax_fr w_X12_hards S S1 := eS1 ▸ (ax_fr.rf).tr (ax_fr_sfi (by decide))
  obtain ⟨r5, _, h⟩ := ax_bd_e h
  by_cases c2 : r5 = (0 : Int32)
  · rw [if_pos c2] at h
    cases h
    exact FS1
  · rw [if_neg c2] at h
    obtain ⟨r10, S7, hq3, h⟩ := ax_bu_e h
    have FS7 : ax_fr w_X12_hards S S7 := (FS1).tr ((fr_X12_hardBits hq3).mono (by decide))
    cases h
    exact FS7
abbrev w_X12_heard : List (Nat × Nat × Nat) := [(0, 12, 0), (0, 12, 47), (4, 61, 0)]
set_option maxRecDepth 100000 in
theorem fr_X12_heard {a1 : Int32} {a2 : Int32} {a3 : Int32} {S : AS} {Z : AS} {r : Int32} (h : f_X12_heard a1 a2 a3 S = some (r, Z)) : ax_fr w_X12_heard S Z := by
  unfold f_X12_heard at h
  obtain ⟨S1, eS1, h⟩ := ax_let_e h
  have FS1 : ax_fr w_X12_heard S S1 := eS1 ▸ (ax_fr.rf).tr (ax_fr_sfi (by decide))
  obtain ⟨r5, _, h⟩ := ax_bd_e h
  by_cases c2 : r5 = (0 : Int32)
  · rw [if_pos c2] at h
    cases h
    exact FS1
  · rw [if_neg c2] at h
    obtain ⟨r10, _, h⟩ := ax_bd_e h
    by_cases c4 : r10 = (0 : Int32)
    · rw [if_pos c4] at h
      cases h
      exact FS1
    · rw [if_neg c4] at h
      by_cases c5 : (ax_fi S1 12 0 47) = (10 : Int32)
      · rw [if_pos c5] at h
        cases h
        exact FS1
      · rw [if_neg c5] at h
        obtain ⟨_, h⟩ := ax_gd_e h
        obtain ⟨S14, eS14, h⟩ := ax_let_e h
        have FS14 : ax_fr w_X12_heard S S14 := eS14 ▸ (FS1).tr (ax_fr_sai (by decide))
        obtain ⟨_, h⟩ := ax_gd_e h
        obtain ⟨S16, eS16, h⟩ := ax_let_e h
        have FS16 : ax_fr w_X12_heard S S16 := eS16 ▸ (FS14).tr (ax_fr_sai (by decide))
        obtain ⟨J19, eJ19, h⟩ := ax_let_e h
        have hJ19 : ∀ (x17 : Int32) (S18 : AS) r Z, J19 x17 S18 = some (r, Z) → ax_fr w_X12_heard S18 Z := by
          intro x17 S18 r Z h
          rw [← eJ19] at h
          try dsimp only at h
          obtain ⟨_, h⟩ := ax_gd_e h
          obtain ⟨S21, eS21, h⟩ := ax_let_e h
          have FS21 : ax_fr w_X12_heard S18 S21 := eS21 ▸ (ax_fr.rf).tr (ax_fr_sai (by decide))
          obtain ⟨S22, eS22, h⟩ := ax_let_e h
          have FS22 : ax_fr w_X12_heard S18 S22 := eS22 ▸ (FS21).tr (ax_fr_sfi (by decide))
          cases h
          exact FS22
        by_cases c6 : a3 = (0 : Int32)
        · rw [if_pos c6] at h
          exact (FS16).tr (hJ19 (0 : Int32) S16 _ _ h)
        · rw [if_neg c6] at h
          exact (FS16).tr (hJ19 (1 : Int32) S16 _ _ h)
abbrev w_X12_hold : List (Nat × Nat × Nat) := [(0, 12, 0), (0, 12, 39), (4, 55, 0), (4, 59, 0)]
set_option maxRecDepth 100000 in
theorem fr_X12_hold {a1 : Int32} {S : AS} {Z : AS} {r : Int32} (h : f_X12_hold a1 S = some (r, Z)) : ax_fr w_X12_hold S Z := by
  unfold f_X12_hold at h
  obtain ⟨S1, eS1, h⟩ := ax_let_e h
  have FS1 : ax_fr w_X12_hold S S1 := eS1 ▸ (ax_fr.rf).tr (ax_fr_sfi (by decide))
  by_cases c1 : (ax_fi S1 12 0 27) = (0 : Int32)
  · rw [if_pos c1] at h
    cases h
    exact FS1
  · rw [if_neg c1] at h
    obtain ⟨r6, _, h⟩ := ax_bd_e h
    by_cases c3 : r6 = (0 : Int32)
    · rw [if_pos c3] at h
      cases h
      exact FS1
    · rw [if_neg c3] at h
      obtain ⟨S8, hq4, h⟩ := ax_bd_e h
      have FS8 : ax_fr w_X12_hold S S8 := (FS1).tr ((fr_X12_remember hq4).mono (by decide))
      obtain ⟨_, h⟩ := ax_gd_e h
      obtain ⟨_, h⟩ := ax_gd_e h
      obtain ⟨S13, eS13, h⟩ := ax_let_e h
      have FS13 : ax_fr w_X12_hold S S13 := eS13 ▸ (FS8).tr (ax_fr_sai (by decide))
      obtain ⟨_, h⟩ := ax_gd_e h
      cases h
      exact FS13
abbrev w_X12_image : List (Nat × Nat × Nat) := [(0, 12, 0), (0, 12, 49), (4, 62, 0)]
set_option maxRecDepth 100000 in
theorem fl_X12_image_L16 {K41 : AS → Option (Int32 × AS)} (hK41 : ∀ (x0 : AS) r Z, K41 x0 = some (r, Z) → ax_fr w_X12_image x0 Z) : ∀ (n : Nat) (x3 : Int32) (S4 : AS) r Z, f_X12_image_L16 K41 n x3 S4 = some (r, Z) → ax_fr w_X12_image S4 Z := by
  intro n
  induction n with
  | zero =>
    intro x3 S4 r Z h
    cases h
  | succ n ih =>
    intro x3 S4 r Z h
    unfold f_X12_image_L16 at h
    by_cases c1 : (204 : Int32) ≤ x3
    · rw [if_pos c1] at h
      exact (ax_fr.rf).tr (hK41 S4 _ _ h)
    · rw [if_neg c1] at h
      obtain ⟨_, h⟩ := ax_gd_e h
      obtain ⟨_, h⟩ := ax_gd_e h
      obtain ⟨S8, eS8, h⟩ := ax_let_e h
      have FS8 : ax_fr w_X12_image S4 S8 := eS8 ▸ (ax_fr.rf).tr (ax_fr_sai (by decide))
      obtain ⟨v9, _, h⟩ := ax_let_e h
      exact (FS8).tr (ih v9 S8 _ _ h)
set_option maxRecDepth 100000 in
theorem fr_X12_image {S : AS} {Z : AS} {r : Int32} (h : f_X12_image S = some (r, Z)) : ax_fr w_X12_image S Z := by
  unfold f_X12_image at h
  obtain ⟨S1, eS1, h⟩ := ax_let_e h
  have FS1 : ax_fr w_X12_image S S1 := eS1 ▸ (ax_fr.rf).tr (ax_fr_sfi (by decide))
  by_cases c2 : (ax_fi S1 12 0 27) = (0 : Int32)
  · rw [if_pos c2] at h
    cases h
    exact FS1
  · rw [if_neg c2] at h
    refine (FS1).tr (fl_X12_image_L16 ?_ _ (0 : Int32) S1 _ _ h)
    · intro S10 r Z h
      obtain ⟨S11, eS11, h⟩ := ax_let_e h
      have FS11 : ax_fr w_X12_image S10 S11 := eS11 ▸ (ax_fr.rf).tr (ax_fr_sfi (by decide))
      obtain ⟨_, h⟩ := ax_gd_e h
      cases h
      exact FS11
abbrev w_X12_law : List (Nat × Nat × Nat) := [(0, 12, 0), (0, 12, 34)]
set_option maxRecDepth 100000 in
theorem fr_X12_law {a1 : Int32} {S : AS} {Z : AS} {r : Int32} (h : f_X12_law a1 S = some (r, Z)) : ax_fr w_X12_law S Z := by
  unfold f_X12_law at h
  obtain ⟨S1, eS1, h⟩ := ax_let_e h
  have FS1 : ax_fr w_X12_law S S1 := eS1 ▸ (ax_fr.rf).tr (ax_fr_sfi (by decide))
  by_cases c1 : a1 = (Int32.ofInt (-1))
  · rw [if_pos c1] at h
    obtain ⟨S3, eS3, h⟩ := ax_let_e h
    have FS3 : ax_fr w_X12_law S S3 := eS3 ▸ (FS1).tr (ax_fr_sfi (by decide))
    cases h
    exact FS3
  · rw [if_neg c1] at h
    obtain ⟨r7, _, h⟩ := ax_bd_e h
    by_cases c3 : r7 = (0 : Int32)
    · rw [if_pos c3] at h
      cases h
      exact FS1
    · rw [if_neg c3] at h
      obtain ⟨S9, eS9, h⟩ := ax_let_e h
      have FS9 : ax_fr w_X12_law S S9 := eS9 ▸ (FS1).tr (ax_fr_sfi (by decide))
      cases h
      exact FS9
abbrev w_X12_lodger : List (Nat × Nat × Nat) := [(0, 12, 0)]
set_option maxRecDepth 100000 in
theorem fr_X12_lodger {a1 : Int32} {a2 : Int32} {S : AS} {Z : AS} {r : Int32} (h : f_X12_lodger a1 a2 S = some (r, Z)) : ax_fr w_X12_lodger S Z := by
  unfold f_X12_lodger at h
  obtain ⟨S1, eS1, h⟩ := ax_let_e h
  have FS1 : ax_fr w_X12_lodger S S1 := eS1 ▸ (ax_fr.rf).tr (ax_fr_sfi (by decide))
  obtain ⟨r5, _, h⟩ := ax_bd_e h
  by_cases c2 : r5 = (0 : Int32)
  · rw [if_pos c2] at h
    cases h
    exact FS1
  · rw [if_neg c2] at h
    obtain ⟨r10, _, h⟩ := ax_bd_e h
    by_cases c4 : r10 = (0 : Int32)
    · rw [if_pos c4] at h
      cases h
      exact FS1
    · rw [if_neg c4] at h
      by_cases c5 : a2 = (2 : Int32)
      · rw [if_pos c5] at h
        obtain ⟨r17, _, h⟩ := ax_bd_e h
        cases h
        exact FS1
      · rw [if_neg c5] at h
        obtain ⟨_, h⟩ := ax_gd_e h
        cases h
        exact FS1
abbrev w_X12_log : List (Nat × Nat × Nat) := [(0, 12, 0)]
set_option maxRecDepth 100000 in
theorem fr_X12_log {a1 : Int32} {a2 : Int32} {S : AS} {Z : AS} {r : Int32} (h : f_X12_log a1 a2 S = some (r, Z)) : ax_fr w_X12_log S Z := by
  unfold f_X12_log at h
  obtain ⟨S1, eS1, h⟩ := ax_let_e h
  have FS1 : ax_fr w_X12_log S S1 := eS1 ▸ (ax_fr.rf).tr (ax_fr_sfi (by decide))
  obtain ⟨_, h⟩ := ax_gd_e h
  obtain ⟨r6, _, h⟩ := ax_bd_e h
  by_cases c2 : r6 = (0 : Int32)
  · rw [if_pos c2] at h
    cases h
    exact FS1
  · rw [if_neg c2] at h
    obtain ⟨r11, _, h⟩ := ax_bd_e h
    by_cases c4 : r11 = (0 : Int32)
    · rw [if_pos c4] at h
      cases h
      exact FS1
    · rw [if_neg c4] at h
      obtain ⟨_, h⟩ := ax_gd_e h
      obtain ⟨_, h⟩ := ax_gd_e h
      cases h
      exact FS1
abbrev w_X12_takesHard : List (Nat × Nat × Nat) := [(0, 12, 8), (0, 12, 9), (0, 12, 10), (0, 12, 11), (0, 12, 12), (0, 12, 13), (0, 12, 14), (0, 12, 17), (2, 12, 5), (4, 46, 0), (4, 58, 0), (5, 57, 0)]
set_option maxRecDepth 100000 in
theorem fr_X12_takesHard {a1 : Int32} {a2 : Int32} {S : AS} {Z : AS} {r : Int32} (h : f_X12_takesHard a1 a2 S = some (r, Z)) : ax_fr w_X12_takesHard S Z := by
  unfold f_X12_takesHard at h
  obtain ⟨_, h⟩ := ax_gd_e h
  obtain ⟨_, h⟩ := ax_gd_e h
  obtain ⟨_, h⟩ := ax_gd_e h
  obtain ⟨_, h⟩ := ax_gd_e h
  obtain ⟨r8, S5, hq1, h⟩ := ax_bu_e h
  have FS5 : ax_fr w_X12_takesHard S S5 := (ax_fr.rf).tr ((fr_X12_takes_ hq1).mono (by decide))
  cases h
  exact FS5
abbrev w_X12_mean : List (Nat × Nat × Nat) := [(0, 12, 0), (0, 12, 8), (0, 12, 9), (0, 12, 10), (0, 12, 11), (0, 12, 12), (0, 12, 13), (0, 12, 14), (0, 12, 17), (2, 12, 5), (4, 46, 0), (4, 58, 0), (5, 57, 0)]
set_option maxRecDepth 100000 in
theorem fl_X12_mean_L19 {K40 : Int32 → AS → Option (Int32 × AS)} (hK40 : ∀ (x0 : Int32) (x1 : AS) r Z, K40 x0 x1 = some (r, Z) → ax_fr w_X12_mean x1 Z) : ∀ (n : Nat) (x7 : Int32) (x8 : Int32) (x9 : Int32) (S11 : AS) r Z, f_X12_mean_L19 K40 n x7 x8 x9 S11 = some (r, Z) → ax_fr w_X12_mean S11 Z := by
  intro n
  induction n with
  | zero =>
    intro x7 x8 x9 S11 r Z h
    cases h
  | succ n ih =>
    intro x7 x8 x9 S11 r Z h
    unfold f_X12_mean_L19 at h
    by_cases c1 : (6 : Int32) ≤ x9
    · rw [if_pos c1] at h
      exact (ax_fr.rf).tr (hK40 x8 S11 _ _ h)
    · rw [if_neg c1] at h
      obtain ⟨r16, S13, hq2, h⟩ := ax_bu_e h
      have FS13 : ax_fr w_X12_mean S11 S13 := (ax_fr.rf).tr ((fr_X12_takesHard hq2).mono (by decide))
      obtain ⟨v17, _, h⟩ := ax_let_e h
      obtain ⟨v18, _, h⟩ := ax_let_e h
      exact (FS13).tr (ih x7 v17 v18 S13 _ _ h)
set_option maxRecDepth 100000 in
theorem fr_X12_mean {a1 : Int32} {S : AS} {Z : AS} {r : Int32} (h : f_X12_mean a1 S = some (r, Z)) : ax_fr w_X12_mean S Z := by
  unfold f_X12_mean at h
  obtain ⟨S1, eS1, h⟩ := ax_let_e h
  have FS1 : ax_fr w_X12_mean S S1 := eS1 ▸ (ax_fr.rf).tr (ax_fr_sfi (by decide))
  obtain ⟨r5, _, h⟩ := ax_bd_e h
  by_cases c4 : r5 = (0 : Int32)
  · rw [if_pos c4] at h
    cases h
    exact FS1
  · rw [if_neg c4] at h
    refine (FS1).tr (fl_X12_mean_L19 ?_ _ a1 (0 : Int32) (0 : Int32) S1 _ _ h)
    · intro x10 S19 r Z h
      cases h
      exact ax_fr.rf
abbrev w_X12_name : List (Nat × Nat × Nat) := [(0, 12, 0), (0, 12, 8), (0, 12, 9), (0, 12, 10), (0, 12, 11), (0, 12, 12), (0, 12, 13), (0, 12, 14), (0, 12, 17), (2, 12, 5), (4, 46, 0), (4, 58, 0), (5, 57, 0)]
set_option maxRecDepth 100000 in
theorem fr_X12_name {a1 : Int32} {a2 : Int32} {S : AS} {Z : AS} {r : Int32} (h : f_X12_name a1 a2 S = some (r, Z)) : ax_fr w_X12_name S Z := by
  unfold f_X12_name at h
  obtain ⟨S1, eS1, h⟩ := ax_let_e h
  have FS1 : ax_fr w_X12_name S S1 := eS1 ▸ (ax_fr.rf).tr (ax_fr_sfi (by decide))
  obtain ⟨r5, _, h⟩ := ax_bd_e h
  by_cases c2 : r5 = (0 : Int32)
  · rw [if_pos c2] at h
    cases h
    exact FS1
  · rw [if_neg c2] at h
    obtain ⟨r10, _, h⟩ := ax_bd_e h
    by_cases c4 : r10 = (0 : Int32)
    · rw [if_pos c4] at h
      cases h
      exact FS1
    · rw [if_neg c4] at h
      by_cases c5 : a2 = (0 : Int32)
      · rw [if_pos c5] at h
        obtain ⟨r21, S18, hq6, h⟩ := ax_bu_e h
        have FS18 : ax_fr w_X12_name S S18 := (FS1).tr ((fr_X12_takesIn_55x0 hq6).mono (by decide))
        cases h
        exact FS18
      · rw [if_neg c5] at h
        obtain ⟨r16, S13, hq7, h⟩ := ax_bu_e h
        have FS13 : ax_fr w_X12_name S S13 := (FS1).tr ((fr_X12_would hq7).mono (by decide))
        by_cases c8 : r16 = (0 : Int32)
        · rw [if_pos c8] at h
          cases h
          exact FS13
        · rw [if_neg c8] at h
          cases h
          exact FS13
abbrev w_X12_needs : List (Nat × Nat × Nat) := [(0, 12, 0), (0, 12, 8), (0, 12, 9), (0, 12, 10), (0, 12, 11), (0, 12, 12), (0, 12, 13), (0, 12, 14), (0, 12, 17), (2, 12, 5), (4, 46, 0), (4, 58, 0), (5, 57, 0)]
set_option maxRecDepth 100000 in
theorem fl_X12_needs_L17 : ∀ (n : Nat) (x7 : Int32) (x8 : Int32) (S9 : AS) r Z, f_X12_needs_L17 n x7 x8 S9 = some (r, Z) → ax_fr w_X12_needs S9 Z := by
  intro n
  induction n with
  | zero =>
    intro x7 x8 S9 r Z h
    cases h
  | succ n ih =>
    intro x7 x8 S9 r Z h
    unfold f_X12_needs_L17 at h
    by_cases c1 : (4 : Int32) ≤ x8
    · rw [if_pos c1] at h
      cases h
      exact ax_fr.rf
    · rw [if_neg c1] at h
      obtain ⟨_, h⟩ := ax_gd_e h
      obtain ⟨r15, S12, hq2, h⟩ := ax_bu_e h
      have FS12 : ax_fr w_X12_needs S9 S12 := (ax_fr.rf).tr ((fr_X12_takesTitled hq2).mono (by decide))
      obtain ⟨r19, _, h⟩ := ax_bd_e h
      by_cases c4 : r15 < r19
      · rw [if_pos c4] at h
        obtain ⟨v21, _, h⟩ := ax_let_e h
        exact (FS12).tr (ih x7 v21 S12 _ _ h)
      · rw [if_neg c4] at h
        cases h
        exact FS12
set_option maxRecDepth 100000 in
theorem fr_X12_needs {a1 : Int32} {S : AS} {Z : AS} {r : Int32} (h : f_X12_needs a1 S = some (r, Z)) : ax_fr w_X12_needs S Z := by
  unfold f_X12_needs at h
  obtain ⟨S1, eS1, h⟩ := ax_let_e h
  have FS1 : ax_fr w_X12_needs S S1 := eS1 ▸ (ax_fr.rf).tr (ax_fr_sfi (by decide))
  obtain ⟨r5, _, h⟩ := ax_bd_e h
  by_cases c6 : r5 = (0 : Int32)
  · rw [if_pos c6] at h
    cases h
    exact FS1
  · rw [if_neg c6] at h
    refine (FS1).tr (fl_X12_needs_L17 _ a1 (0 : Int32) S1 _ _ h)
abbrev w_Odds : List (Nat × Nat × Nat) := [(0, 12, 8), (0, 12, 9), (0, 12, 10), (0, 12, 11), (0, 12, 12), (0, 12, 13), (0, 12, 14), (0, 12, 17), (2, 12, 5), (4, 46, 0), (4, 58, 0), (5, 57, 0)]
set_option maxRecDepth 100000 in
theorem fr_b_X12_oddsFrom {rec : Nat → Int32 → Int32 → Int32 → Int32 → Int32 → AS → Option (Int32 × AS)} (hr : ∀ (t : Nat) (b0 : Int32) (b1 : Int32) (b2 : Int32) (b3 : Int32) (b4 : Int32) (S : AS) r Z, rec t b0 b1 b2 b3 b4 S = some (r, Z) → ax_fr w_Odds S Z) {a1 : Int32} {a2 : Int32} {a3 : Int32} {a4 : Int32} {a5 : Int32} {S : AS} {Z : AS} {r : Int32} (h : b_X12_oddsFrom rec a1 a2 a3 a4 a5 S = some (r, Z)) : ax_fr w_Odds S Z := by
  unfold b_X12_oddsFrom at h
  by_cases c1 : a2 = (0 : Int32)
  · rw [if_pos c1] at h
    obtain ⟨r15, S12, hq2, h⟩ := ax_bu_e h
    have FS12 : ax_fr w_Odds S S12 := (ax_fr.rf).tr ((fr_X12_takesHard hq2).mono (by decide))
    obtain ⟨r19, _, h⟩ := ax_bd_e h
    by_cases c4 : r15 < r19
    · rw [if_pos c4] at h
      cases h
      exact FS12
    · rw [if_neg c4] at h
      cases h
      exact FS12
  · rw [if_neg c1] at h
    obtain ⟨v3, _, h⟩ := ax_let_e h
    obtain ⟨r7, S4, hq5, h⟩ := ax_bu_e h
    have FS4 : ax_fr w_Odds S S4 := (ax_fr.rf).tr (hr 0 a1 (a2 - (1 : Int32)) a3 a4 v3 S _ _ hq5)
    obtain ⟨r11, S8, hq6, h⟩ := ax_bu_e h
    have FS8 : ax_fr w_Odds S S8 := (FS4).tr (hr 0 a1 (a2 - (1 : Int32)) (a3 + (1 : Int32)) a4 (a5 - v3) S4 _ _ hq6)
    cases h
    exact FS8
theorem frg_Odds : ∀ (n t : Nat) (b0 : Int32) (b1 : Int32) (b2 : Int32) (b3 : Int32) (b4 : Int32) (S : AS) r Z, g_Odds n t b0 b1 b2 b3 b4 S = some (r, Z) → ax_fr w_Odds S Z := by
  intro n
  induction n with
  | zero =>
    intro t b0 b1 b2 b3 b4 S r Z h
    cases h
  | succ n ih =>
    intro t b0 b1 b2 b3 b4 S r Z h
    match t, h with
    | 0, h => exact fr_b_X12_oddsFrom ih h
    | t + 1, h => cases h
abbrev w_X12_odds : List (Nat × Nat × Nat) := [(0, 12, 0), (0, 12, 8), (0, 12, 9), (0, 12, 10), (0, 12, 11), (0, 12, 12), (0, 12, 13), (0, 12, 14), (0, 12, 17), (2, 12, 5), (4, 46, 0), (4, 58, 0), (5, 57, 0)]
set_option maxRecDepth 100000 in
theorem fr_X12_odds {a1 : Int32} {a2 : Int32} {S : AS} {Z : AS} {r : Int32} (h : f_X12_odds a1 a2 S = some (r, Z)) : ax_fr w_X12_odds S Z := by
  unfold f_X12_odds at h
  obtain ⟨S1, eS1, h⟩ := ax_let_e h
  have FS1 : ax_fr w_X12_odds S S1 := eS1 ▸ (ax_fr.rf).tr (ax_fr_sfi (by decide))
  obtain ⟨r5, _, h⟩ := ax_bd_e h
  by_cases c2 : r5 = (0 : Int32)
  · rw [if_pos c2] at h
    cases h
    exact FS1
  · rw [if_neg c2] at h
    obtain ⟨r10, _, h⟩ := ax_bd_e h
    by_cases c4 : r10 = (0 : Int32)
    · rw [if_pos c4] at h
      cases h
      exact FS1
    · rw [if_neg c4] at h
      obtain ⟨r15, _, h⟩ := ax_bd_e h
      obtain ⟨r19, S16, hq6, h⟩ := ax_bu_e h
      have FS16 : ax_fr w_X12_odds S S16 := (FS1).tr ((frg_Odds ax_D 0 a1 r15 (0 : Int32) a2 (1000000000 : Int32) S1 _ _ hq6).mono (by decide))
      cases h
      exact FS16
abbrev w_X12_copy_55x0_56x0 : List (Nat × Nat × Nat) := [(4, 56, 0)]
set_option maxRecDepth 100000 in
theorem fl_X12_copy_55x0_56x0_L2 {K20 : AS → Option (AS)} (hK20 : ∀ (x0 : AS) Z, K20 x0 = some Z → ax_fr w_X12_copy_55x0_56x0 x0 Z) : ∀ (n : Nat) (x1 : Int32) (S2 : AS) Z, f_X12_copy_55x0_56x0_L2 K20 n x1 S2 = some Z → ax_fr w_X12_copy_55x0_56x0 S2 Z := by
  intro n
  induction n with
  | zero =>
    intro x1 S2 Z h
    cases h
  | succ n ih =>
    intro x1 S2 Z h
    unfold f_X12_copy_55x0_56x0_L2 at h
    by_cases c1 : (23 : Int32) ≤ x1
    · rw [if_pos c1] at h
      exact (ax_fr.rf).tr (hK20 S2 _ h)
    · rw [if_neg c1] at h
      obtain ⟨_, h⟩ := ax_gd_e h
      obtain ⟨_, h⟩ := ax_gd_e h
      obtain ⟨S6, eS6, h⟩ := ax_let_e h
      have FS6 : ax_fr w_X12_copy_55x0_56x0 S2 S6 := eS6 ▸ (ax_fr.rf).tr (ax_fr_sai (by decide))
      obtain ⟨v7, _, h⟩ := ax_let_e h
      exact (FS6).tr (ih v7 S6 _ h)
set_option maxRecDepth 100000 in
theorem fr_X12_copy_55x0_56x0 {S : AS} {Z : AS} (h : f_X12_copy_55x0_56x0 S = some Z) : ax_fr w_X12_copy_55x0_56x0 S Z := by
  unfold f_X12_copy_55x0_56x0 at h
  refine (ax_fr.rf).tr (fl_X12_copy_55x0_56x0_L2 ?_ _ (0 : Int32) S _ h)
  · intro S8 Z h
    obtain ⟨_, h⟩ := ax_gd_e h
    obtain ⟨S10, eS10, h⟩ := ax_let_e h
    have FS10 : ax_fr w_X12_copy_55x0_56x0 S8 S10 := eS10 ▸ (ax_fr.rf).tr (ax_fr_sai (by decide))
    cases h
    exact FS10
abbrev w_X12_takesIn_56x0 : List (Nat × Nat × Nat) := [(0, 12, 8), (0, 12, 9), (0, 12, 10), (0, 12, 11), (0, 12, 12), (0, 12, 13), (0, 12, 14), (0, 12, 17), (2, 12, 5), (4, 46, 0), (4, 58, 0), (5, 57, 0)]
set_option maxRecDepth 100000 in
theorem fr_X12_takesIn_56x0 {a2 : Int32} {S : AS} {Z : AS} {r : Int32} (h : f_X12_takesIn_56x0 a2 S = some (r, Z)) : ax_fr w_X12_takesIn_56x0 S Z := by
  unfold f_X12_takesIn_56x0 at h
  obtain ⟨r4, _, h⟩ := ax_bd_e h
  obtain ⟨_, h⟩ := ax_gd_e h
  obtain ⟨_, h⟩ := ax_gd_e h
  obtain ⟨_, h⟩ := ax_gd_e h
  obtain ⟨_, h⟩ := ax_gd_e h
  obtain ⟨r12, S9, hq2, h⟩ := ax_bu_e h
  have FS9 : ax_fr w_X12_takesIn_56x0 S S9 := (ax_fr.rf).tr ((fr_X12_takes_ hq2).mono (by decide))
  cases h
  exact FS9
abbrev w_X12_canCall_56x0 : List (Nat × Nat × Nat) := [(0, 12, 8), (0, 12, 9), (0, 12, 10), (0, 12, 11), (0, 12, 12), (0, 12, 13), (0, 12, 14), (0, 12, 17), (2, 12, 5), (4, 46, 0), (4, 58, 0), (5, 57, 0)]
set_option maxRecDepth 100000 in
theorem fr_X12_canCall_56x0 {a2 : Int32} {S : AS} {Z : AS} {r : Int32} (h : f_X12_canCall_56x0 a2 S = some (r, Z)) : ax_fr w_X12_canCall_56x0 S Z := by
  unfold f_X12_canCall_56x0 at h
  obtain ⟨r4, _, h⟩ := ax_bd_e h
  by_cases c2 : r4 = (0 : Int32)
  · rw [if_pos c2] at h
    cases h
    exact ax_fr.rf
  · rw [if_neg c2] at h
    obtain ⟨_, h⟩ := ax_gd_e h
    by_cases c3 : (ax_ai S 56 0 (((2 : Int32) * a2) + (1 : Int32)).toNatClampNeg) = (1 : Int32)
    · rw [if_pos c3] at h
      cases h
      exact ax_fr.rf
    · rw [if_neg c3] at h
      obtain ⟨r11, _, h⟩ := ax_bd_e h
      obtain ⟨_, h⟩ := ax_gd_e h
      obtain ⟨_, h⟩ := ax_gd_e h
      by_cases c5 : (ax_ai S 49 0 (((2 : Int32) * r11) + (1 : Int32)).toNatClampNeg) ≤ (ax_ai S 56 0 ((12 : Int32) + r11).toNatClampNeg)
      · rw [if_pos c5] at h
        cases h
        exact ax_fr.rf
      · rw [if_neg c5] at h
        obtain ⟨_, h⟩ := ax_gd_e h
        obtain ⟨r19, S16, hq6, h⟩ := ax_bu_e h
        have FS16 : ax_fr w_X12_canCall_56x0 S S16 := (ax_fr.rf).tr ((fr_X12_takesIn_56x0 hq6).mono (by decide))
        obtain ⟨_, h⟩ := ax_gd_e h
        by_cases c7 : (ax_ai S16 47 0 (0 : Int32).toNatClampNeg) < ((ax_ai S 56 0 (16 : Int32).toNatClampNeg) + r19)
        · rw [if_pos c7] at h
          cases h
          exact FS16
        · rw [if_neg c7] at h
          cases h
          exact FS16
abbrev w_X12_calls_56x0 : List (Nat × Nat × Nat) := [(0, 12, 8), (0, 12, 9), (0, 12, 10), (0, 12, 11), (0, 12, 12), (0, 12, 13), (0, 12, 14), (0, 12, 17), (2, 12, 5), (4, 46, 0), (4, 56, 0), (4, 58, 0), (5, 57, 0)]
set_option maxRecDepth 100000 in
theorem fr_X12_calls_56x0 {a2 : Int32} {S : AS} {Z : AS} {r : Int32} (h : f_X12_calls_56x0 a2 S = some (r, Z)) : ax_fr w_X12_calls_56x0 S Z := by
  unfold f_X12_calls_56x0 at h
  obtain ⟨r4, S1, hq1, h⟩ := ax_bu_e h
  have FS1 : ax_fr w_X12_calls_56x0 S S1 := (ax_fr.rf).tr ((fr_X12_takesIn_56x0 hq1).mono (by decide))
  obtain ⟨r8, _, h⟩ := ax_bd_e h
  obtain ⟨r12, _, h⟩ := ax_bd_e h
  obtain ⟨J15, eJ15, h⟩ := ax_let_e h
  have hJ15 : ∀ (x13 : Int32) (S14 : AS) r Z, J15 x13 S14 = some (r, Z) → ax_fr w_X12_calls_56x0 S14 Z := by
    intro x13 S14 r Z h
    rw [← eJ15] at h
    try dsimp only at h
    obtain ⟨_, h⟩ := ax_gd_e h
    obtain ⟨_, h⟩ := ax_gd_e h
    obtain ⟨S18, eS18, h⟩ := ax_let_e h
    have FS18 : ax_fr w_X12_calls_56x0 S14 S18 := eS18 ▸ (ax_fr.rf).tr (ax_fr_sai (by decide))
    obtain ⟨_, h⟩ := ax_gd_e h
    obtain ⟨_, h⟩ := ax_gd_e h
    obtain ⟨S21, eS21, h⟩ := ax_let_e h
    have FS21 : ax_fr w_X12_calls_56x0 S14 S21 := eS21 ▸ (FS18).tr (ax_fr_sai (by decide))
    obtain ⟨_, h⟩ := ax_gd_e h
    obtain ⟨S23, eS23, h⟩ := ax_let_e h
    have FS23 : ax_fr w_X12_calls_56x0 S14 S23 := eS23 ▸ (FS21).tr (ax_fr_sai (by decide))
    obtain ⟨_, h⟩ := ax_gd_e h
    obtain ⟨_, h⟩ := ax_gd_e h
    obtain ⟨S26, eS26, h⟩ := ax_let_e h
    have FS26 : ax_fr w_X12_calls_56x0 S14 S26 := eS26 ▸ (FS23).tr (ax_fr_sai (by decide))
    by_cases c4 : x13 = (0 : Int32)
    · rw [if_pos c4] at h
      obtain ⟨_, h⟩ := ax_gd_e h
      cases h
      exact FS26
    · rw [if_neg c4] at h
      obtain ⟨_, h⟩ := ax_gd_e h
      obtain ⟨_, h⟩ := ax_gd_e h
      obtain ⟨S31, eS31, h⟩ := ax_let_e h
      have FS31 : ax_fr w_X12_calls_56x0 S14 S31 := eS31 ▸ (FS26).tr (ax_fr_sai (by decide))
      obtain ⟨_, h⟩ := ax_gd_e h
      obtain ⟨r36, _, h⟩ := ax_bd_e h
      obtain ⟨r40, _, h⟩ := ax_bd_e h
      obtain ⟨_, h⟩ := ax_gd_e h
      obtain ⟨S42, eS42, h⟩ := ax_let_e h
      have FS42 : ax_fr w_X12_calls_56x0 S14 S42 := eS42 ▸ (FS31).tr (ax_fr_sai (by decide))
      obtain ⟨_, h⟩ := ax_gd_e h
      cases h
      exact FS42
  by_cases c7 : r4 < r12
  · rw [if_pos c7] at h
    exact (FS1).tr (hJ15 (0 : Int32) S1 _ _ h)
  · rw [if_neg c7] at h
    exact (FS1).tr (hJ15 (1 : Int32) S1 _ _ h)
abbrev w_Order : List (Nat × Nat × Nat) := [(0, 12, 8), (0, 12, 9), (0, 12, 10), (0, 12, 11), (0, 12, 12), (0, 12, 13), (0, 12, 14), (0, 12, 17), (0, 12, 41), (0, 12, 42), (0, 12, 43), (0, 12, 44), (2, 12, 5), (4, 46, 0), (4, 56, 0), (4, 58, 0), (4, 60, 0), (5, 57, 0)]
set_option maxRecDepth 100000 in
theorem fl_X12_goOrder_L116 {rec : Nat → Int32 → Int32 → Int32 → AS → Option (AS)} (hr : ∀ (t : Nat) (b0 : Int32) (b1 : Int32) (b2 : Int32) (S : AS) Z, rec t b0 b1 b2 S = some Z → ax_fr w_Order S Z) {K148 : Int32 → Int32 → Int32 → AS → Option (AS)} (hK148 : ∀ (x0 : Int32) (x1 : Int32) (x2 : Int32) (x3 : AS) Z, K148 x0 x1 x2 x3 = some Z → ax_fr w_Order x3 Z) : ∀ (n : Nat) (x8 : Int32) (x9 : Int32) (x10 : Int32) (x11 : Int32) (S15 : AS) Z, f_X12_goOrder_L116 rec K148 n x8 x9 x10 x11 S15 = some Z → ax_fr w_Order S15 Z := by
  intro n
  induction n with
  | zero =>
    intro x8 x9 x10 x11 S15 Z h
    cases h
  | succ n ih =>
    intro x8 x9 x10 x11 S15 Z h
    unfold f_X12_goOrder_L116 at h
    by_cases c1 : (23 : Int32) < x11
    · rw [if_pos c1] at h
      exact (ax_fr.rf).tr (hK148 x8 x9 x10 S15 _ h)
    · rw [if_neg c1] at h
      obtain ⟨_, h⟩ := ax_gd_e h
      obtain ⟨_, h⟩ := ax_gd_e h
      obtain ⟨S19, eS19, h⟩ := ax_let_e h
      have FS19 : ax_fr w_Order S15 S19 := eS19 ▸ (ax_fr.rf).tr (ax_fr_sai (by decide))
      obtain ⟨v20, _, h⟩ := ax_let_e h
      exact (FS19).tr (ih x8 x9 x10 v20 S19 _ h)
set_option maxRecDepth 100000 in
theorem fl_X12_goOrder_L231 {rec : Nat → Int32 → Int32 → Int32 → AS → Option (AS)} (hr : ∀ (t : Nat) (b0 : Int32) (b1 : Int32) (b2 : Int32) (S : AS) Z, rec t b0 b1 b2 S = some Z → ax_fr w_Order S Z) {K263 : Int32 → Int32 → Int32 → Int32 → AS → Option (AS)} (hK263 : ∀ (x0 : Int32) (x1 : Int32) (x2 : Int32) (x3 : Int32) (x4 : AS) Z, K263 x0 x1 x2 x3 x4 = some Z → ax_fr w_Order x4 Z) : ∀ (n : Nat) (x44 : Int32) (x45 : Int32) (x46 : Int32) (x47 : Int32) (x48 : Int32) (S53 : AS) Z, f_X12_goOrder_L231 rec K263 n x44 x45 x46 x47 x48 S53 = some Z → ax_fr w_Order S53 Z := by
  intro n
  induction n with
  | zero =>
    intro x44 x45 x46 x47 x48 S53 Z h
    cases h
  | succ n ih =>
    intro x44 x45 x46 x47 x48 S53 Z h
    unfold f_X12_goOrder_L231 at h
    by_cases c2 : (23 : Int32) < x48
    · rw [if_pos c2] at h
      exact (ax_fr.rf).tr (hK263 x44 x45 x46 x47 S53 _ h)
    · rw [if_neg c2] at h
      obtain ⟨_, h⟩ := ax_gd_e h
      obtain ⟨_, h⟩ := ax_gd_e h
      obtain ⟨S57, eS57, h⟩ := ax_let_e h
      have FS57 : ax_fr w_Order S53 S57 := eS57 ▸ (ax_fr.rf).tr (ax_fr_sai (by decide))
      obtain ⟨v58, _, h⟩ := ax_let_e h
      exact (FS57).tr (ih x44 x45 x46 x47 v58 S57 _ h)
set_option maxRecDepth 100000 in
theorem fl_X12_goOrder_L151 {rec : Nat → Int32 → Int32 → Int32 → AS → Option (AS)} (hr : ∀ (t : Nat) (b0 : Int32) (b1 : Int32) (b2 : Int32) (S : AS) Z, rec t b0 b1 b2 S = some Z → ax_fr w_Order S Z) {K269 : AS → Option (AS)} (hK269 : ∀ (x0 : AS) Z, K269 x0 = some Z → ax_fr w_Order x0 Z) : ∀ (n : Nat) (x22 : Int32) (x23 : Int32) (x24 : Int32) (x25 : Int32) (S26 : AS) Z, f_X12_goOrder_L151 rec K269 n x22 x23 x24 x25 S26 = some Z → ax_fr w_Order S26 Z := by
  intro n
  induction n with
  | zero =>
    intro x22 x23 x24 x25 S26 Z h
    cases h
  | succ n ih =>
    intro x22 x23 x24 x25 S26 Z h
    unfold f_X12_goOrder_L151 at h
    by_cases c3 : (ax_fi S26 12 0 27) ≤ x25
    · rw [if_pos c3] at h
      exact (ax_fr.rf).tr (hK269 S26 _ h)
    · rw [if_neg c3] at h
      obtain ⟨r31, S28, hq4, h⟩ := ax_bu_e h
      have FS28 : ax_fr w_Order S26 S28 := (ax_fr.rf).tr ((fr_X12_canCall_56x0 hq4).mono (by decide))
      by_cases c5 : r31 = (0 : Int32)
      · rw [if_pos c5] at h
        obtain ⟨v76, _, h⟩ := ax_let_e h
        exact (FS28).tr (ih x22 x23 x24 v76 S28 _ h)
      · rw [if_neg c5] at h
        obtain ⟨r36, S33, hq6, h⟩ := ax_bu_e h
        have FS33 : ax_fr w_Order S26 S33 := (FS28).tr ((fr_X12_calls_56x0 hq6).mono (by decide))
        obtain ⟨J39, eJ39, h⟩ := ax_let_e h
        have hJ39 : ∀ (x37 : Int32) (S38 : AS) Z, J39 x37 S38 = some Z → ax_fr w_Order S38 Z := by
          intro x37 S38 Z h
          rw [← eJ39] at h
          try dsimp only at h
          by_cases c7 : x22 = (0 : Int32)
          · rw [if_pos c7] at h
            obtain ⟨S61, hq8, h⟩ := ax_bd_e h
            have FS61 : ax_fr w_Order S38 S61 := (ax_fr.rf).tr (hr 0 (x22 + (1 : Int32)) x37 x25 S38 _ hq8)
            refine (FS61).tr (fl_X12_goOrder_L231 hr ?_ _ x22 x23 x24 x25 (0 : Int32) S61 _ h)
            · intro x49 x50 x51 x52 S69 Z h
              obtain ⟨v70, _, h⟩ := ax_let_e h
              exact (ax_fr.rf).tr (ih x49 x50 x51 v70 S69 _ h)
          · rw [if_neg c7] at h
            obtain ⟨S41, hq9, h⟩ := ax_bd_e h
            have FS41 : ax_fr w_Order S38 S41 := (ax_fr.rf).tr (hr 0 (x22 + (1 : Int32)) x37 (((10 : Int32) * x24) + x25) S38 _ hq9)
            refine (FS41).tr (fl_X12_goOrder_L231 hr ?_ _ x22 x23 x24 x25 (0 : Int32) S41 _ h)
            · intro x49 x50 x51 x52 S59 Z h
              obtain ⟨v60, _, h⟩ := ax_let_e h
              exact (ax_fr.rf).tr (ih x49 x50 x51 v60 S59 _ h)
        by_cases c10 : r36 = (0 : Int32)
        · rw [if_pos c10] at h
          exact (FS33).tr (hJ39 x23 S33 _ h)
        · rw [if_neg c10] at h
          obtain ⟨r75, _, h⟩ := ax_bd_e h
          exact (FS33).tr (hJ39 (x23 + r75) S33 _ h)
set_option maxRecDepth 100000 in
theorem fr_b_X12_goOrder {rec : Nat → Int32 → Int32 → Int32 → AS → Option (AS)} (hr : ∀ (t : Nat) (b0 : Int32) (b1 : Int32) (b2 : Int32) (S : AS) Z, rec t b0 b1 b2 S = some Z → ax_fr w_Order S Z) {a1 : Int32} {a2 : Int32} {a3 : Int32} {S : AS} {Z : AS} (h : b_X12_goOrder rec a1 a2 a3 S = some Z) : ax_fr w_Order S Z := by
  unfold b_X12_goOrder at h
  obtain ⟨J3, eJ3, h⟩ := ax_let_e h
  have hJ3 : ∀ (x1 : Int32) (S2 : AS) Z, J3 x1 S2 = some Z → ax_fr w_Order S2 Z := by
    intro x1 S2 Z h
    rw [← eJ3] at h
    try dsimp only at h
    obtain ⟨J6, eJ6, h⟩ := ax_let_e h
    have hJ6 : ∀ (x4 : Int32) (S5 : AS) Z, J6 x4 S5 = some Z → ax_fr w_Order S5 Z := by
      intro x4 S5 Z h
      rw [← eJ6] at h
      try dsimp only at h
      by_cases c12 : x4 = (0 : Int32)
      · rw [if_pos c12] at h
        refine (ax_fr.rf).tr (fl_X12_goOrder_L116 hr ?_ _ a1 a2 a3 (0 : Int32) S5 _ h)
        · intro x12 x13 x14 S21 Z h
          refine (ax_fr.rf).tr (fl_X12_goOrder_L151 hr ?_ _ x12 x13 x14 (0 : Int32) S21 _ h)
          · intro S77 Z h
            cases h
            exact ax_fr.rf
      · rw [if_neg c12] at h
        obtain ⟨S78, eS78, h⟩ := ax_let_e h
        have FS78 : ax_fr w_Order S5 S78 := eS78 ▸ (ax_fr.rf).tr (ax_fr_sfi (by decide))
        obtain ⟨_, h⟩ := ax_gd_e h
        obtain ⟨S80, eS80, h⟩ := ax_let_e h
        have FS80 : ax_fr w_Order S5 S80 := eS80 ▸ (FS78).tr (ax_fr_sfi (by decide))
        obtain ⟨S81, eS81, h⟩ := ax_let_e h
        have FS81 : ax_fr w_Order S5 S81 := eS81 ▸ (FS80).tr (ax_fr_sfi (by decide))
        obtain ⟨S82, eS82, h⟩ := ax_let_e h
        have FS82 : ax_fr w_Order S5 S82 := eS82 ▸ (FS81).tr (ax_fr_sfi (by decide))
        refine (FS82).tr (fl_X12_goOrder_L116 hr ?_ _ a1 a2 a3 (0 : Int32) S82 _ h)
        · intro x12 x13 x14 S87 Z h
          refine (ax_fr.rf).tr (fl_X12_goOrder_L151 hr ?_ _ x12 x13 x14 (0 : Int32) S87 _ h)
          · intro S92 Z h
            cases h
            exact ax_fr.rf
    by_cases c13 : a2 = (ax_fi S2 12 0 42)
    · rw [if_pos c13] at h
      obtain ⟨_, h⟩ := ax_gd_e h
      by_cases c14 : (ax_ai S2 56 0 (16 : Int32).toNatClampNeg) < (ax_fi S2 12 0 43)
      · rw [if_pos c14] at h
        exact (ax_fr.rf).tr (hJ6 (1 : Int32) S2 _ h)
      · rw [if_neg c14] at h
        obtain ⟨_, h⟩ := ax_gd_e h
        by_cases c15 : (ax_ai S2 56 0 (16 : Int32).toNatClampNeg) = (ax_fi S2 12 0 43)
        · rw [if_pos c15] at h
          by_cases c16 : a1 < (ax_fi S2 12 0 44)
          · rw [if_pos c16] at h
            exact (ax_fr.rf).tr (hJ6 (1 : Int32) S2 _ h)
          · rw [if_neg c16] at h
            by_cases c17 : a1 = (ax_fi S2 12 0 44)
            · rw [if_pos c17] at h
              by_cases c18 : (ax_fi S2 12 0 41) ≤ a3
              · rw [if_pos c18] at h
                exact (ax_fr.rf).tr (hJ6 (0 : Int32) S2 _ h)
              · rw [if_neg c18] at h
                exact (ax_fr.rf).tr (hJ6 (1 : Int32) S2 _ h)
            · rw [if_neg c17] at h
              exact (ax_fr.rf).tr (hJ6 (0 : Int32) S2 _ h)
        · rw [if_neg c15] at h
          exact (ax_fr.rf).tr (hJ6 (0 : Int32) S2 _ h)
    · rw [if_neg c13] at h
      exact (ax_fr.rf).tr (hJ6 x1 S2 _ h)
  by_cases c19 : a2 ≤ (ax_fi S 12 0 42)
  · rw [if_pos c19] at h
    exact (ax_fr.rf).tr (hJ3 (0 : Int32) S _ h)
  · rw [if_neg c19] at h
    exact (ax_fr.rf).tr (hJ3 (1 : Int32) S _ h)
theorem frg_Order : ∀ (n t : Nat) (b0 : Int32) (b1 : Int32) (b2 : Int32) (S : AS) Z, g_Order n t b0 b1 b2 S = some Z → ax_fr w_Order S Z := by
  intro n
  induction n with
  | zero =>
    intro t b0 b1 b2 S Z h
    cases h
  | succ n ih =>
    intro t b0 b1 b2 S Z h
    match t, h with
    | 0, h => exact fr_b_X12_goOrder ih h
    | t + 1, h => cases h
abbrev w_X12_order : List (Nat × Nat × Nat) := [(0, 12, 0), (0, 12, 8), (0, 12, 9), (0, 12, 10), (0, 12, 11), (0, 12, 12), (0, 12, 13), (0, 12, 14), (0, 12, 17), (0, 12, 41), (0, 12, 42), (0, 12, 43), (0, 12, 44), (2, 12, 5), (4, 46, 0), (4, 56, 0), (4, 58, 0), (4, 60, 0), (5, 57, 0)]
set_option maxRecDepth 100000 in
theorem fr_X12_order {a1 : Int32} {S : AS} {Z : AS} {r : Int32} (h : f_X12_order a1 S = some (r, Z)) : ax_fr w_X12_order S Z := by
  unfold f_X12_order at h
  obtain ⟨S1, eS1, h⟩ := ax_let_e h
  have FS1 : ax_fr w_X12_order S S1 := eS1 ▸ (ax_fr.rf).tr (ax_fr_sfi (by decide))
  by_cases c1 : (ax_fi S1 12 0 27) = (0 : Int32)
  · rw [if_pos c1] at h
    cases h
    exact FS1
  · rw [if_neg c1] at h
    obtain ⟨r6, _, h⟩ := ax_bd_e h
    by_cases c3 : r6 = (0 : Int32)
    · rw [if_pos c3] at h
      cases h
      exact FS1
    · rw [if_neg c3] at h
      obtain ⟨S8, hq4, h⟩ := ax_bd_e h
      have FS8 : ax_fr w_X12_order S S8 := (FS1).tr ((fr_X12_copy_55x0_56x0 hq4).mono (by decide))
      obtain ⟨S11, eS11, h⟩ := ax_let_e h
      have FS11 : ax_fr w_X12_order S S11 := eS11 ▸ (FS8).tr (ax_fr_sfi (by decide))
      obtain ⟨S12, eS12, h⟩ := ax_let_e h
      have FS12 : ax_fr w_X12_order S S12 := eS12 ▸ (FS11).tr (ax_fr_sfi (by decide))
      obtain ⟨S13, eS13, h⟩ := ax_let_e h
      have FS13 : ax_fr w_X12_order S S13 := eS13 ▸ (FS12).tr (ax_fr_sfi (by decide))
      obtain ⟨S14, eS14, h⟩ := ax_let_e h
      have FS14 : ax_fr w_X12_order S S14 := eS14 ▸ (FS13).tr (ax_fr_sfi (by decide))
      obtain ⟨S15, hq5, h⟩ := ax_bd_e h
      have FS15 : ax_fr w_X12_order S S15 := (FS14).tr ((frg_Order ax_D 0 (0 : Int32) (0 : Int32) (Int32.ofInt (-1)) S14 _ hq5).mono (by decide))
      by_cases c6 : a1 = (0 : Int32)
      · rw [if_pos c6] at h
        cases h
        exact FS15
      · rw [if_neg c6] at h
        by_cases c7 : a1 = (1 : Int32)
        · rw [if_pos c7] at h
          cases h
          exact FS15
        · rw [if_neg c7] at h
          cases h
          exact FS15
abbrev w_X12_canStep_55x0 : List (Nat × Nat × Nat) := [(0, 12, 8), (0, 12, 9), (0, 12, 10), (0, 12, 11), (0, 12, 12), (0, 12, 13), (0, 12, 14), (0, 12, 17), (2, 12, 5), (4, 46, 0), (4, 58, 0), (5, 57, 0)]
set_option maxRecDepth 100000 in
theorem fr_X12_canStep_55x0 {a2 : Int32} {S : AS} {Z : AS} {r : Int32} (h : f_X12_canStep_55x0 a2 S = some (r, Z)) : ax_fr w_X12_canStep_55x0 S Z := by
  unfold f_X12_canStep_55x0 at h
  obtain ⟨_, h⟩ := ax_gd_e h
  obtain ⟨v2, _, h⟩ := ax_let_e h
  obtain ⟨_, h⟩ := ax_gd_e h
  obtain ⟨v4, _, h⟩ := ax_let_e h
  by_cases c1 : v4 = (0 : Int32)
  · rw [if_pos c1] at h
    obtain ⟨r9, S6, hq2, h⟩ := ax_bu_e h
    have FS6 : ax_fr w_X12_canStep_55x0 S S6 := (ax_fr.rf).tr ((fr_X12_canCall_55x0 hq2).mono (by decide))
    obtain ⟨_, h⟩ := ax_gd_e h
    cases h
    exact FS6
  · rw [if_neg c1] at h
    by_cases c3 : v4 = (1 : Int32)
    · rw [if_pos c3] at h
      obtain ⟨r15, _, h⟩ := ax_bd_e h
      obtain ⟨_, h⟩ := ax_gd_e h
      cases h
      exact ax_fr.rf
    · rw [if_neg c3] at h
      by_cases c5 : v4 = (2 : Int32)
      · rw [if_pos c5] at h
        cases h
        exact ax_fr.rf
      · rw [if_neg c5] at h
        by_cases c6 : v4 = (3 : Int32)
        · rw [if_pos c6] at h
          obtain ⟨r22, _, h⟩ := ax_bd_e h
          obtain ⟨_, h⟩ := ax_gd_e h
          cases h
          exact ax_fr.rf
        · rw [if_neg c6] at h
          obtain ⟨_, h⟩ := ax_gd_e h
          by_cases c8 : (999 : Int32) ≤ (ax_ai S 55 0 (22 : Int32).toNatClampNeg)
          · rw [if_pos c8] at h
            cases h
            exact ax_fr.rf
          · rw [if_neg c8] at h
            cases h
            exact ax_fr.rf
abbrev w_X12_titles_55x0 : List (Nat × Nat × Nat) := [(4, 55, 0)]
set_option maxRecDepth 100000 in
theorem fr_X12_titles_55x0 {a1 : Int32} {S : AS} {Z : AS} (h : f_X12_titles_55x0 a1 S = some Z) : ax_fr w_X12_titles_55x0 S Z := by
  unfold f_X12_titles_55x0 at h
  obtain ⟨_, h⟩ := ax_gd_e h
  obtain ⟨_, h⟩ := ax_gd_e h
  obtain ⟨S3, eS3, h⟩ := ax_let_e h
  have FS3 : ax_fr w_X12_titles_55x0 S S3 := eS3 ▸ (ax_fr.rf).tr (ax_fr_sai (by decide))
  obtain ⟨_, h⟩ := ax_gd_e h
  obtain ⟨_, h⟩ := ax_gd_e h
  obtain ⟨S6, eS6, h⟩ := ax_let_e h
  have FS6 : ax_fr w_X12_titles_55x0 S S6 := eS6 ▸ (FS3).tr (ax_fr_sai (by decide))
  cases h
  exact FS6
abbrev w_X12_goStep_55x0 : List (Nat × Nat × Nat) := [(0, 12, 8), (0, 12, 9), (0, 12, 10), (0, 12, 11), (0, 12, 12), (0, 12, 13), (0, 12, 14), (0, 12, 17), (2, 12, 5), (4, 46, 0), (4, 55, 0), (4, 58, 0), (5, 57, 0)]
set_option maxRecDepth 100000 in
theorem fr_X12_goStep_55x0 {a2 : Int32} {S : AS} {Z : AS} (h : f_X12_goStep_55x0 a2 S = some Z) : ax_fr w_X12_goStep_55x0 S Z := by
  unfold f_X12_goStep_55x0 at h
  obtain ⟨_, h⟩ := ax_gd_e h
  obtain ⟨v2, _, h⟩ := ax_let_e h
  obtain ⟨_, h⟩ := ax_gd_e h
  obtain ⟨v4, _, h⟩ := ax_let_e h
  by_cases c1 : v4 = (0 : Int32)
  · rw [if_pos c1] at h
    obtain ⟨r9, S6, hq2, h⟩ := ax_bu_e h
    have FS6 : ax_fr w_X12_goStep_55x0 S S6 := (ax_fr.rf).tr ((fr_X12_calls_55x0 hq2).mono (by decide))
    cases h
    exact FS6
  · rw [if_neg c1] at h
    by_cases c3 : v4 = (1 : Int32)
    · rw [if_pos c3] at h
      obtain ⟨S11, hq4, h⟩ := ax_bd_e h
      have FS11 : ax_fr w_X12_goStep_55x0 S S11 := (ax_fr.rf).tr ((fr_X12_titles_55x0 hq4).mono (by decide))
      cases h
      exact FS11
    · rw [if_neg c3] at h
      by_cases c5 : v4 = (2 : Int32)
      · rw [if_pos c5] at h
        obtain ⟨_, h⟩ := ax_gd_e h
        obtain ⟨_, h⟩ := ax_gd_e h
        obtain ⟨S17, eS17, h⟩ := ax_let_e h
        have FS17 : ax_fr w_X12_goStep_55x0 S S17 := eS17 ▸ (ax_fr.rf).tr (ax_fr_sai (by decide))
        cases h
        exact FS17
      · rw [if_neg c5] at h
        by_cases c6 : v4 = (3 : Int32)
        · rw [if_pos c6] at h
          obtain ⟨_, h⟩ := ax_gd_e h
          obtain ⟨_, h⟩ := ax_gd_e h
          obtain ⟨S21, eS21, h⟩ := ax_let_e h
          have FS21 : ax_fr w_X12_goStep_55x0 S S21 := eS21 ▸ (ax_fr.rf).tr (ax_fr_sai (by decide))
          cases h
          exact FS21
        · rw [if_neg c6] at h
          obtain ⟨S22, hq7, h⟩ := ax_bd_e h
          have FS22 : ax_fr w_X12_goStep_55x0 S S22 := (ax_fr.rf).tr ((fr_X12_goDay_55x0 hq7).mono (by decide))
          cases h
          exact FS22
abbrev w_X12_perform : List (Nat × Nat × Nat) := [(0, 12, 0), (0, 12, 8), (0, 12, 9), (0, 12, 10), (0, 12, 11), (0, 12, 12), (0, 12, 13), (0, 12, 14), (0, 12, 17), (0, 12, 39), (2, 12, 5), (4, 46, 0), (4, 55, 0), (4, 58, 0), (4, 59, 0), (5, 57, 0)]
set_option maxRecDepth 100000 in
theorem fl_X12_perform_L24 {K79 : Int32 → AS → Option (Int32 × AS)} (hK79 : ∀ (x0 : Int32) (x1 : AS) r Z, K79 x0 x1 = some (r, Z) → ax_fr w_X12_perform x1 Z) : ∀ (n : Nat) (x8 : Int32) (x9 : Int32) (S11 : AS) r Z, f_X12_perform_L24 K79 n x8 x9 S11 = some (r, Z) → ax_fr w_X12_perform S11 Z := by
  intro n
  induction n with
  | zero =>
    intro x8 x9 S11 r Z h
    cases h
  | succ n ih =>
    intro x8 x9 S11 r Z h
    unfold f_X12_perform_L24 at h
    obtain ⟨_, h⟩ := ax_gd_e h
    by_cases c1 : (ax_ai S11 54 0 x8.toNatClampNeg) ≤ x9
    · rw [if_pos c1] at h
      exact (ax_fr.rf).tr (hK79 x9 S11 _ _ h)
    · rw [if_neg c1] at h
      obtain ⟨r17, S14, hq2, h⟩ := ax_bu_e h
      have FS14 : ax_fr w_X12_perform S11 S14 := (ax_fr.rf).tr ((fr_X12_canStep_55x0 hq2).mono (by decide))
      by_cases c3 : r17 = (0 : Int32)
      · rw [if_pos c3] at h
        exact (FS14).tr (hK79 x9 S14 _ _ h)
      · rw [if_neg c3] at h
        obtain ⟨S19, hq4, h⟩ := ax_bd_e h
        have FS19 : ax_fr w_X12_perform S11 S19 := (FS14).tr ((fr_X12_remember hq4).mono (by decide))
        obtain ⟨S22, hq5, h⟩ := ax_bd_e h
        have FS22 : ax_fr w_X12_perform S11 S22 := (FS19).tr ((fr_X12_goStep_55x0 hq5).mono (by decide))
        obtain ⟨v25, _, h⟩ := ax_let_e h
        exact (FS22).tr (ih x8 v25 S22 _ _ h)
set_option maxRecDepth 100000 in
theorem fr_X12_perform {a1 : Int32} {S : AS} {Z : AS} {r : Int32} (h : f_X12_perform a1 S = some (r, Z)) : ax_fr w_X12_perform S Z := by
  unfold f_X12_perform at h
  obtain ⟨S1, eS1, h⟩ := ax_let_e h
  have FS1 : ax_fr w_X12_perform S S1 := eS1 ▸ (ax_fr.rf).tr (ax_fr_sfi (by decide))
  obtain ⟨r5, _, h⟩ := ax_bd_e h
  by_cases c7 : r5 = (0 : Int32)
  · rw [if_pos c7] at h
    cases h
    exact FS1
  · rw [if_neg c7] at h
    by_cases c8 : (ax_fi S1 12 0 27) = (0 : Int32)
    · rw [if_pos c8] at h
      cases h
      exact FS1
    · rw [if_neg c8] at h
      refine (FS1).tr (fl_X12_perform_L24 ?_ _ a1 (0 : Int32) S1 _ _ h)
      · intro x10 S26 r Z h
        cases h
        exact ax_fr.rf
abbrev w_X12_queue : List (Nat × Nat × Nat) := [(0, 12, 0), (0, 12, 8), (0, 12, 9), (0, 12, 10), (0, 12, 11), (0, 12, 12), (0, 12, 13), (0, 12, 14), (0, 12, 17), (2, 12, 5), (4, 46, 0), (4, 56, 0), (4, 58, 0), (5, 57, 0)]
set_option maxRecDepth 100000 in
theorem fl_X12_queue_L55 {K169 : Int32 → Int32 → Int32 → Int32 → Int32 → AS → Option (Int32 × AS)} (hK169 : ∀ (x0 : Int32) (x1 : Int32) (x2 : Int32) (x3 : Int32) (x4 : Int32) (x5 : AS) r Z, K169 x0 x1 x2 x3 x4 x5 = some (r, Z) → ax_fr w_X12_queue x5 Z) : ∀ (n : Nat) (x21 : Int32) (x22 : Int32) (x23 : Int32) (x24 : Int32) (x25 : Int32) (x26 : Int32) (S32 : AS) r Z, f_X12_queue_L55 K169 n x21 x22 x23 x24 x25 x26 S32 = some (r, Z) → ax_fr w_X12_queue S32 Z := by
  intro n
  induction n with
  | zero =>
    intro x21 x22 x23 x24 x25 x26 S32 r Z h
    cases h
  | succ n ih =>
    intro x21 x22 x23 x24 x25 x26 S32 r Z h
    unfold f_X12_queue_L55 at h
    by_cases c1 : (ax_fi S32 12 0 27) ≤ x26
    · rw [if_pos c1] at h
      exact (ax_fr.rf).tr (hK169 x21 x22 x23 x24 x25 S32 _ _ h)
    · rw [if_neg c1] at h
      obtain ⟨_, h⟩ := ax_gd_e h
      by_cases c2 : (ax_ai S32 55 0 (((2 : Int32) * x26) + (1 : Int32)).toNatClampNeg) = (1 : Int32)
      · rw [if_pos c2] at h
        obtain ⟨v36, _, h⟩ := ax_let_e h
        exact (ax_fr.rf).tr (ih x21 x22 x23 x24 x25 v36 S32 _ _ h)
      · rw [if_neg c2] at h
        obtain ⟨r40, S37, hq3, h⟩ := ax_bu_e h
        have FS37 : ax_fr w_X12_queue S32 S37 := (ax_fr.rf).tr ((fr_X12_takesIn_55x0 hq3).mono (by decide))
        by_cases c4 : r40 = x25
        · rw [if_pos c4] at h
          obtain ⟨J44, eJ44, h⟩ := ax_let_e h
          have hJ44 : ∀ (x42 : Int32) (S43 : AS) r Z, J44 x42 S43 = some (r, Z) → ax_fr w_X12_queue S43 Z := by
            intro x42 S43 r Z h
            rw [← eJ44] at h
            try dsimp only at h
            obtain ⟨J47, eJ47, h⟩ := ax_let_e h
            have hJ47 : ∀ (x45 : Int32) (S46 : AS) r Z, J47 x45 S46 = some (r, Z) → ax_fr w_X12_queue S46 Z := by
              intro x45 S46 r Z h
              rw [← eJ47] at h
              try dsimp only at h
              by_cases c5 : x45 = (0 : Int32)
              · rw [if_pos c5] at h
                obtain ⟨v55, _, h⟩ := ax_let_e h
                exact (ax_fr.rf).tr (ih x21 x42 x23 x45 x25 v55 S46 _ _ h)
              · rw [if_neg c5] at h
                obtain ⟨r52, S49, hq6, h⟩ := ax_bu_e h
                have FS49 : ax_fr w_X12_queue S46 S49 := (ax_fr.rf).tr ((fr_X12_calls_56x0 hq6).mono (by decide))
                obtain ⟨v53, _, h⟩ := ax_let_e h
                obtain ⟨v54, _, h⟩ := ax_let_e h
                exact (FS49).tr (ih x21 x42 v53 x45 x25 v54 S49 _ _ h)
            by_cases c7 : x24 = (0 : Int32)
            · rw [if_pos c7] at h
              exact (ax_fr.rf).tr (hJ47 (0 : Int32) S43 _ _ h)
            · rw [if_neg c7] at h
              obtain ⟨r60, S57, hq8, h⟩ := ax_bu_e h
              have FS57 : ax_fr w_X12_queue S43 S57 := (ax_fr.rf).tr ((fr_X12_canCall_56x0 hq8).mono (by decide))
              by_cases c9 : r60 = (0 : Int32)
              · rw [if_pos c9] at h
                exact (FS57).tr (hJ47 (0 : Int32) S57 _ _ h)
              · rw [if_neg c9] at h
                exact (FS57).tr (hJ47 (1 : Int32) S57 _ _ h)
          by_cases c10 : x22 = (Int32.ofInt (-1))
          · rw [if_pos c10] at h
            exact (FS37).tr (hJ44 x26 S37 _ _ h)
          · rw [if_neg c10] at h
            exact (FS37).tr (hJ44 (((10 : Int32) * x22) + x26) S37 _ _ h)
        · rw [if_neg c4] at h
          obtain ⟨v63, _, h⟩ := ax_let_e h
          exact (FS37).tr (ih x21 x22 x23 x24 x25 v63 S37 _ _ h)
set_option maxRecDepth 100000 in
theorem fl_X12_queue_L45 {K175 : Int32 → Int32 → Int32 → AS → Option (Int32 × AS)} (hK175 : ∀ (x0 : Int32) (x1 : Int32) (x2 : Int32) (x3 : AS) r Z, K175 x0 x1 x2 x3 = some (r, Z) → ax_fr w_X12_queue x3 Z) : ∀ (n : Nat) (x11 : Int32) (x12 : Int32) (x13 : Int32) (x14 : Int32) (x15 : Int32) (S19 : AS) r Z, f_X12_queue_L45 K175 n x11 x12 x13 x14 x15 S19 = some (r, Z) → ax_fr w_X12_queue S19 Z := by
  intro n
  induction n with
  | zero =>
    intro x11 x12 x13 x14 x15 S19 r Z h
    cases h
  | succ n ih =>
    intro x11 x12 x13 x14 x15 S19 r Z h
    unfold f_X12_queue_L45 at h
    by_cases c11 : (60 : Int32) < x15
    · rw [if_pos c11] at h
      exact (ax_fr.rf).tr (hK175 x11 x12 x13 S19 _ _ h)
    · rw [if_neg c11] at h
      refine (ax_fr.rf).tr (fl_X12_queue_L55 ?_ _ x11 x12 x13 x14 x15 (0 : Int32) S19 _ _ h)
      · intro x27 x28 x29 x30 x31 S64 r Z h
        obtain ⟨v65, _, h⟩ := ax_let_e h
        exact (ax_fr.rf).tr (ih x27 x28 x29 x30 v65 S64 _ _ h)
set_option maxRecDepth 100000 in
theorem fr_X12_queue {a1 : Int32} {S : AS} {Z : AS} {r : Int32} (h : f_X12_queue a1 S = some (r, Z)) : ax_fr w_X12_queue S Z := by
  unfold f_X12_queue at h
  obtain ⟨S1, eS1, h⟩ := ax_let_e h
  have FS1 : ax_fr w_X12_queue S S1 := eS1 ▸ (ax_fr.rf).tr (ax_fr_sfi (by decide))
  by_cases c12 : (ax_fi S1 12 0 27) = (0 : Int32)
  · rw [if_pos c12] at h
    cases h
    exact FS1
  · rw [if_neg c12] at h
    obtain ⟨r6, _, h⟩ := ax_bd_e h
    by_cases c14 : r6 = (0 : Int32)
    · rw [if_pos c14] at h
      cases h
      exact FS1
    · rw [if_neg c14] at h
      obtain ⟨S8, hq15, h⟩ := ax_bd_e h
      have FS8 : ax_fr w_X12_queue S S8 := (FS1).tr ((fr_X12_copy_55x0_56x0 hq15).mono (by decide))
      refine (FS8).tr (fl_X12_queue_L45 ?_ _ a1 (Int32.ofInt (-1)) (0 : Int32) (1 : Int32) (1 : Int32) S8 _ _ h)
      · intro x16 x17 x18 S66 r Z h
        by_cases c16 : x16 = (0 : Int32)
        · rw [if_pos c16] at h
          cases h
          exact ax_fr.rf
        · rw [if_neg c16] at h
          cases h
          exact ax_fr.rf
abbrev w_X12_rests : List (Nat × Nat × Nat) := [(0, 12, 0), (0, 12, 8), (0, 12, 9), (0, 12, 10), (0, 12, 11), (0, 12, 12), (0, 12, 13), (0, 12, 14), (0, 12, 17), (2, 12, 5), (4, 46, 0), (4, 58, 0), (5, 57, 0)]
set_option maxRecDepth 100000 in
theorem fl_X12_rests_L48 {K122 : Int32 → Int32 → Int32 → Int32 → Int32 → Int32 → Int32 → AS → Option (Int32 × AS)} (hK122 : ∀ (x0 : Int32) (x1 : Int32) (x2 : Int32) (x3 : Int32) (x4 : Int32) (x5 : Int32) (x6 : Int32) (x7 : AS) r Z, K122 x0 x1 x2 x3 x4 x5 x6 x7 = some (r, Z) → ax_fr w_X12_rests x7 Z) : ∀ (n : Nat) (x30 : Int32) (x31 : Int32) (x32 : Int32) (x33 : Int32) (x34 : Int32) (x35 : Int32) (x36 : Int32) (x37 : Int32) (S45 : AS) r Z, f_X12_rests_L48 K122 n x30 x31 x32 x33 x34 x35 x36 x37 S45 = some (r, Z) → ax_fr w_X12_rests S45 Z := by
  intro n
  induction n with
  | zero =>
    intro x30 x31 x32 x33 x34 x35 x36 x37 S45 r Z h
    cases h
  | succ n ih =>
    intro x30 x31 x32 x33 x34 x35 x36 x37 S45 r Z h
    unfold f_X12_rests_L48 at h
    by_cases c1 : (4 : Int32) ≤ x37
    · rw [if_pos c1] at h
      exact (ax_fr.rf).tr (hK122 x30 x31 x32 x33 x34 x35 x36 S45 _ _ h)
    · rw [if_neg c1] at h
      by_cases c2 : x36 = (0 : Int32)
      · rw [if_pos c2] at h
        obtain ⟨v48, _, h⟩ := ax_let_e h
        exact (ax_fr.rf).tr (ih x30 x31 x32 x33 x34 x35 (0 : Int32) v48 S45 _ _ h)
      · rw [if_neg c2] at h
        obtain ⟨r52, S49, hq3, h⟩ := ax_bu_e h
        have FS49 : ax_fr w_X12_rests S45 S49 := (ax_fr.rf).tr ((fr_X12_gameOf hq3).mono (by decide))
        obtain ⟨r56, S53, hq4, h⟩ := ax_bu_e h
        have FS53 : ax_fr w_X12_rests S45 S53 := (FS49).tr ((fr_X12_gameOf hq4).mono (by decide))
        by_cases c5 : r56 < r52
        · rw [if_pos c5] at h
          obtain ⟨v58, _, h⟩ := ax_let_e h
          exact (FS53).tr (ih x30 x31 x32 x33 x34 x35 (0 : Int32) v58 S53 _ _ h)
        · rw [if_neg c5] at h
          obtain ⟨r62, S59, hq6, h⟩ := ax_bu_e h
          have FS59 : ax_fr w_X12_rests S45 S59 := (FS53).tr ((fr_X12_gameOf hq6).mono (by decide))
          obtain ⟨r66, S63, hq7, h⟩ := ax_bu_e h
          have FS63 : ax_fr w_X12_rests S45 S63 := (FS59).tr ((fr_X12_gameOf hq7).mono (by decide))
          by_cases c8 : r66 < r62
          · rw [if_pos c8] at h
            obtain ⟨v68, _, h⟩ := ax_let_e h
            exact (FS63).tr (ih x30 x31 x32 x33 x34 x35 (0 : Int32) v68 S63 _ _ h)
          · rw [if_neg c8] at h
            obtain ⟨v69, _, h⟩ := ax_let_e h
            exact (FS63).tr (ih x30 x31 x32 x33 x34 x35 (1 : Int32) v69 S63 _ _ h)
set_option maxRecDepth 100000 in
theorem fl_X12_rests_L36 {K154 : Int32 → Int32 → Int32 → Int32 → Int32 → AS → Option (Int32 × AS)} (hK154 : ∀ (x0 : Int32) (x1 : Int32) (x2 : Int32) (x3 : Int32) (x4 : Int32) (x5 : AS) r Z, K154 x0 x1 x2 x3 x4 x5 = some (r, Z) → ax_fr w_X12_rests x5 Z) : ∀ (n : Nat) (x17 : Int32) (x18 : Int32) (x19 : Int32) (x20 : Int32) (x21 : Int32) (x22 : Int32) (S28 : AS) r Z, f_X12_rests_L36 K154 n x17 x18 x19 x20 x21 x22 S28 = some (r, Z) → ax_fr w_X12_rests S28 Z := by
  intro n
  induction n with
  | zero =>
    intro x17 x18 x19 x20 x21 x22 S28 r Z h
    cases h
  | succ n ih =>
    intro x17 x18 x19 x20 x21 x22 S28 r Z h
    unfold f_X12_rests_L36 at h
    by_cases c9 : (4 : Int32) ≤ x22
    · rw [if_pos c9] at h
      exact (ax_fr.rf).tr (hK154 x17 x18 x19 x20 x21 S28 _ _ h)
    · rw [if_neg c9] at h
      refine (ax_fr.rf).tr (fl_X12_rests_L48 ?_ _ x17 x18 x19 x20 x21 x22 (1 : Int32) (0 : Int32) S28 _ _ h)
      · intro x38 x39 x40 x41 x42 x43 x44 S70 r Z h
        by_cases c10 : x44 = (0 : Int32)
        · rw [if_pos c10] at h
          obtain ⟨v75, _, h⟩ := ax_let_e h
          exact (ax_fr.rf).tr (ih x38 x39 x40 x41 x42 v75 S70 _ _ h)
        · rw [if_neg c10] at h
          by_cases c11 : x41 = x40
          · rw [if_pos c11] at h
            cases h
            exact ax_fr.rf
          · rw [if_neg c11] at h
            obtain ⟨v73, _, h⟩ := ax_let_e h
            obtain ⟨v74, _, h⟩ := ax_let_e h
            exact (ax_fr.rf).tr (ih x38 x39 x40 v73 x42 v74 S70 _ _ h)
set_option maxRecDepth 100000 in
theorem fl_X12_rests_L27 {K160 : Int32 → Int32 → AS → Option (Int32 × AS)} (hK160 : ∀ (x0 : Int32) (x1 : Int32) (x2 : AS) r Z, K160 x0 x1 x2 = some (r, Z) → ax_fr w_X12_rests x2 Z) : ∀ (n : Nat) (x8 : Int32) (x9 : Int32) (x10 : Int32) (x11 : Int32) (x12 : Int32) (S15 : AS) r Z, f_X12_rests_L27 K160 n x8 x9 x10 x11 x12 S15 = some (r, Z) → ax_fr w_X12_rests S15 Z := by
  intro n
  induction n with
  | zero =>
    intro x8 x9 x10 x11 x12 S15 r Z h
    cases h
  | succ n ih =>
    intro x8 x9 x10 x11 x12 S15 r Z h
    unfold f_X12_rests_L27 at h
    by_cases c12 : (4 : Int32) ≤ x12
    · rw [if_pos c12] at h
      exact (ax_fr.rf).tr (hK160 x10 x11 S15 _ _ h)
    · rw [if_neg c12] at h
      refine (ax_fr.rf).tr (fl_X12_rests_L36 ?_ _ x8 x9 x10 x11 x12 (0 : Int32) S15 _ _ h)
      · intro x23 x24 x25 x26 x27 S76 r Z h
        obtain ⟨v77, _, h⟩ := ax_let_e h
        exact (ax_fr.rf).tr (ih x23 x24 x25 x26 v77 S76 _ _ h)
set_option maxRecDepth 100000 in
theorem fr_X12_rests {a1 : Int32} {a2 : Int32} {a3 : Int32} {S : AS} {Z : AS} {r : Int32} (h : f_X12_rests a1 a2 a3 S = some (r, Z)) : ax_fr w_X12_rests S Z := by
  unfold f_X12_rests at h
  obtain ⟨S1, eS1, h⟩ := ax_let_e h
  have FS1 : ax_fr w_X12_rests S S1 := eS1 ▸ (ax_fr.rf).tr (ax_fr_sfi (by decide))
  obtain ⟨r5, _, h⟩ := ax_bd_e h
  by_cases c14 : r5 = (0 : Int32)
  · rw [if_pos c14] at h
    cases h
    exact FS1
  · rw [if_neg c14] at h
    by_cases c15 : (Int32.ofInt (-1)) ≤ a3
    · rw [if_pos c15] at h
      refine (FS1).tr (fl_X12_rests_L27 ?_ _ a1 a2 a3 (0 : Int32) (0 : Int32) S1 _ _ h)
      · intro x13 x14 S78 r Z h
        by_cases c16 : x13 = (Int32.ofInt (-1))
        · rw [if_pos c16] at h
          cases h
          exact ax_fr.rf
        · rw [if_neg c16] at h
          cases h
          exact ax_fr.rf
    · rw [if_neg c15] at h
      cases h
      exact FS1
abbrev w_X12_rule : List (Nat × Nat × Nat) := [(0, 12, 0)]
set_option maxRecDepth 100000 in
theorem fr_X12_rule {a1 : Int32} {S : AS} {Z : AS} {r : Int32} (h : f_X12_rule a1 S = some (r, Z)) : ax_fr w_X12_rule S Z := by
  unfold f_X12_rule at h
  obtain ⟨S1, eS1, h⟩ := ax_let_e h
  have FS1 : ax_fr w_X12_rule S S1 := eS1 ▸ (ax_fr.rf).tr (ax_fr_sfi (by decide))
  by_cases c1 : (ax_fi S1 12 0 27) = (0 : Int32)
  · rw [if_pos c1] at h
    cases h
    exact FS1
  · rw [if_neg c1] at h
    obtain ⟨r6, _, h⟩ := ax_bd_e h
    by_cases c3 : r6 = (0 : Int32)
    · rw [if_pos c3] at h
      cases h
      exact FS1
    · rw [if_neg c3] at h
      by_cases c4 : a1 = (2 : Int32)
      · rw [if_pos c4] at h
        obtain ⟨_, h⟩ := ax_gd_e h
        cases h
        exact FS1
      · rw [if_neg c4] at h
        obtain ⟨_, h⟩ := ax_gd_e h
        cases h
        exact FS1
abbrev w_X12_canStep_56x0 : List (Nat × Nat × Nat) := [(0, 12, 8), (0, 12, 9), (0, 12, 10), (0, 12, 11), (0, 12, 12), (0, 12, 13), (0, 12, 14), (0, 12, 17), (2, 12, 5), (4, 46, 0), (4, 58, 0), (5, 57, 0)]

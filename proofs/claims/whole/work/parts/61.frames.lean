set_option maxRecDepth 100000 in
theorem fr_X12_canStep_56x0 {a2 : Int32} {S : AS} {Z : AS} {r : Int32} (h : f_X12_canStep_56x0 a2 S = some (r, Z)) : ax_fr w_X12_canStep_56x0 S Z := by
  unfold f_X12_canStep_56x0 at h
  obtain ⟨_, h⟩ := ax_gd_e h
  obtain ⟨v2, _, h⟩ := ax_let_e h
  obtain ⟨_, h⟩ := ax_gd_e h
  obtain ⟨v4, _, h⟩ := ax_let_e h
  by_cases c1 : v4 = (0 : Int32)
  · rw [if_pos c1] at h
    obtain ⟨r9, S6, hq2, h⟩ := ax_bu_e h
    have FS6 : ax_fr w_X12_canStep_56x0 S S6 := (ax_fr.rf).tr ((fr_X12_canCall_56x0 hq2).mono (by decide))
    obtain ⟨_, h⟩ := ax_gd_e h
    cases h
    exact FS6
  · rw [if_neg c1] at h
    by_cases c3 : v4 = (1 : Int32)
    · rw [if_pos c3] at h
      obtain ⟨r15, _, h⟩ := ax_bd_e h
      obtain ⟨_, h⟩ := ax_gd_e h
      cases h
      exact ax_fr.rf
    · rw [if_neg c3] at h
      by_cases c5 : v4 = (2 : Int32)
      · rw [if_pos c5] at h
        cases h
        exact ax_fr.rf
      · rw [if_neg c5] at h
        by_cases c6 : v4 = (3 : Int32)
        · rw [if_pos c6] at h
          obtain ⟨r22, _, h⟩ := ax_bd_e h
          obtain ⟨_, h⟩ := ax_gd_e h
          cases h
          exact ax_fr.rf
        · rw [if_neg c6] at h
          obtain ⟨_, h⟩ := ax_gd_e h
          by_cases c8 : (999 : Int32) ≤ (ax_ai S 56 0 (22 : Int32).toNatClampNeg)
          · rw [if_pos c8] at h
            cases h
            exact ax_fr.rf
          · rw [if_neg c8] at h
            cases h
            exact ax_fr.rf
abbrev w_X12_titles_56x0 : List (Nat × Nat × Nat) := [(4, 56, 0)]
set_option maxRecDepth 100000 in
theorem fr_X12_titles_56x0 {a1 : Int32} {S : AS} {Z : AS} (h : f_X12_titles_56x0 a1 S = some Z) : ax_fr w_X12_titles_56x0 S Z := by
  unfold f_X12_titles_56x0 at h
  obtain ⟨_, h⟩ := ax_gd_e h
  obtain ⟨_, h⟩ := ax_gd_e h
  obtain ⟨S3, eS3, h⟩ := ax_let_e h
  have FS3 : ax_fr w_X12_titles_56x0 S S3 := eS3 ▸ (ax_fr.rf).tr (ax_fr_sai (by decide))
  obtain ⟨_, h⟩ := ax_gd_e h
  obtain ⟨_, h⟩ := ax_gd_e h
  obtain ⟨S6, eS6, h⟩ := ax_let_e h
  have FS6 : ax_fr w_X12_titles_56x0 S S6 := eS6 ▸ (FS3).tr (ax_fr_sai (by decide))
  cases h
  exact FS6
abbrev w_X12_goDay_56x0 : List (Nat × Nat × Nat) := [(4, 56, 0)]
set_option maxRecDepth 100000 in
theorem fl_X12_goDay_56x0_L126 {K148 : AS → Option (AS)} (hK148 : ∀ (x0 : AS) Z, K148 x0 = some Z → ax_fr w_X12_goDay_56x0 x0 Z) : ∀ (n : Nat) (x35 : Int32) (S36 : AS) Z, f_X12_goDay_56x0_L126 K148 n x35 S36 = some Z → ax_fr w_X12_goDay_56x0 S36 Z := by
  intro n
  induction n with
  | zero =>
    intro x35 S36 Z h
    cases h
  | succ n ih =>
    intro x35 S36 Z h
    unfold f_X12_goDay_56x0_L126 at h
    by_cases c1 : (ax_fi S36 12 0 27) ≤ x35
    · rw [if_pos c1] at h
      exact (ax_fr.rf).tr (hK148 S36 _ h)
    · rw [if_neg c1] at h
      obtain ⟨_, h⟩ := ax_gd_e h
      obtain ⟨S39, eS39, h⟩ := ax_let_e h
      have FS39 : ax_fr w_X12_goDay_56x0 S36 S39 := eS39 ▸ (ax_fr.rf).tr (ax_fr_sai (by decide))
      obtain ⟨v40, _, h⟩ := ax_let_e h
      exact (FS39).tr (ih v40 S39 _ h)
set_option maxRecDepth 100000 in
theorem fl_X12_goDay_56x0_L150 {K171 : AS → Option (AS)} (hK171 : ∀ (x0 : AS) Z, K171 x0 = some Z → ax_fr w_X12_goDay_56x0 x0 Z) : ∀ (n : Nat) (x42 : Int32) (S43 : AS) Z, f_X12_goDay_56x0_L150 K171 n x42 S43 = some Z → ax_fr w_X12_goDay_56x0 S43 Z := by
  intro n
  induction n with
  | zero =>
    intro x42 S43 Z h
    cases h
  | succ n ih =>
    intro x42 S43 Z h
    unfold f_X12_goDay_56x0_L150 at h
    by_cases c2 : (ax_fi S43 12 0 26) ≤ x42
    · rw [if_pos c2] at h
      exact (ax_fr.rf).tr (hK171 S43 _ h)
    · rw [if_neg c2] at h
      obtain ⟨_, h⟩ := ax_gd_e h
      obtain ⟨S46, eS46, h⟩ := ax_let_e h
      have FS46 : ax_fr w_X12_goDay_56x0 S43 S46 := eS46 ▸ (ax_fr.rf).tr (ax_fr_sai (by decide))
      obtain ⟨v47, _, h⟩ := ax_let_e h
      exact (FS46).tr (ih v47 S46 _ h)
set_option maxRecDepth 100000 in
theorem fl_X12_goDay_56x0_L11 {K38 : AS → Option (AS)} (hK38 : ∀ (x0 : AS) Z, K38 x0 = some Z → ax_fr w_X12_goDay_56x0 x0 Z) : ∀ (n : Nat) (x53 : Int32) (S54 : AS) Z, f_X12_goDay_56x0_L11 K38 n x53 S54 = some Z → ax_fr w_X12_goDay_56x0 S54 Z := by
  intro n
  induction n with
  | zero =>
    intro x53 S54 Z h
    cases h
  | succ n ih =>
    intro x53 S54 Z h
    unfold f_X12_goDay_56x0_L11 at h
    by_cases c3 : (177 : Int32) < x53
    · rw [if_pos c3] at h
      exact (ax_fr.rf).tr (hK38 S54 _ h)
    · rw [if_neg c3] at h
      obtain ⟨_, h⟩ := ax_gd_e h
      obtain ⟨_, h⟩ := ax_gd_e h
      obtain ⟨S58, eS58, h⟩ := ax_let_e h
      have FS58 : ax_fr w_X12_goDay_56x0 S54 S58 := eS58 ▸ (ax_fr.rf).tr (ax_fr_sai (by decide))
      obtain ⟨v59, _, h⟩ := ax_let_e h
      exact (FS58).tr (ih v59 S58 _ h)
set_option maxRecDepth 100000 in
theorem fr_X12_goDay_56x0 {S : AS} {Z : AS} (h : f_X12_goDay_56x0 S = some Z) : ax_fr w_X12_goDay_56x0 S Z := by
  unfold f_X12_goDay_56x0 at h
  obtain ⟨_, h⟩ := ax_gd_e h
  obtain ⟨J3, eJ3, h⟩ := ax_let_e h
  have hJ3 : ∀ (S2 : AS) Z, J3 S2 = some Z → ax_fr w_X12_goDay_56x0 S2 Z := by
    intro S2 Z h
    rw [← eJ3] at h
    try dsimp only at h
    obtain ⟨_, h⟩ := ax_gd_e h
    obtain ⟨v5, _, h⟩ := ax_let_e h
    obtain ⟨_, h⟩ := ax_gd_e h
    obtain ⟨_, h⟩ := ax_gd_e h
    obtain ⟨S8, eS8, h⟩ := ax_let_e h
    have FS8 : ax_fr w_X12_goDay_56x0 S2 S8 := eS8 ▸ (ax_fr.rf).tr (ax_fr_sai (by decide))
    obtain ⟨r12, _, h⟩ := ax_bd_e h
    obtain ⟨_, h⟩ := ax_gd_e h
    obtain ⟨S14, eS14, h⟩ := ax_let_e h
    have FS14 : ax_fr w_X12_goDay_56x0 S2 S14 := eS14 ▸ (FS8).tr (ax_fr_sai (by decide))
    obtain ⟨_, h⟩ := ax_gd_e h
    obtain ⟨_, h⟩ := ax_gd_e h
    obtain ⟨S17, eS17, h⟩ := ax_let_e h
    have FS17 : ax_fr w_X12_goDay_56x0 S2 S17 := eS17 ▸ (FS14).tr (ax_fr_sai (by decide))
    obtain ⟨_, h⟩ := ax_gd_e h
    obtain ⟨_, h⟩ := ax_gd_e h
    obtain ⟨S20, eS20, h⟩ := ax_let_e h
    have FS20 : ax_fr w_X12_goDay_56x0 S2 S20 := eS20 ▸ (FS17).tr (ax_fr_sai (by decide))
    obtain ⟨_, h⟩ := ax_gd_e h
    obtain ⟨_, h⟩ := ax_gd_e h
    obtain ⟨r26, _, h⟩ := ax_bd_e h
    obtain ⟨_, h⟩ := ax_gd_e h
    obtain ⟨S28, eS28, h⟩ := ax_let_e h
    have FS28 : ax_fr w_X12_goDay_56x0 S2 S28 := eS28 ▸ (FS20).tr (ax_fr_sai (by decide))
    obtain ⟨_, h⟩ := ax_gd_e h
    obtain ⟨S30, eS30, h⟩ := ax_let_e h
    have FS30 : ax_fr w_X12_goDay_56x0 S2 S30 := eS30 ▸ (FS28).tr (ax_fr_sai (by decide))
    obtain ⟨_, h⟩ := ax_gd_e h
    obtain ⟨S32, eS32, h⟩ := ax_let_e h
    have FS32 : ax_fr w_X12_goDay_56x0 S2 S32 := eS32 ▸ (FS30).tr (ax_fr_sai (by decide))
    obtain ⟨_, h⟩ := ax_gd_e h
    obtain ⟨S34, eS34, h⟩ := ax_let_e h
    have FS34 : ax_fr w_X12_goDay_56x0 S2 S34 := eS34 ▸ (FS32).tr (ax_fr_sai (by decide))
    refine (FS34).tr (fl_X12_goDay_56x0_L126 ?_ _ (0 : Int32) S34 _ h)
    · intro S41 Z h
      refine (ax_fr.rf).tr (fl_X12_goDay_56x0_L150 ?_ _ (0 : Int32) S41 _ h)
      · intro S48 Z h
        obtain ⟨_, h⟩ := ax_gd_e h
        obtain ⟨_, h⟩ := ax_gd_e h
        obtain ⟨S51, eS51, h⟩ := ax_let_e h
        have FS51 : ax_fr w_X12_goDay_56x0 S48 S51 := eS51 ▸ (ax_fr.rf).tr (ax_fr_sai (by decide))
        cases h
        exact FS51
  by_cases c6 : (ax_ai S 56 0 (23 : Int32).toNatClampNeg) = (60 : Int32)
  · rw [if_pos c6] at h
    refine (ax_fr.rf).tr (fl_X12_goDay_56x0_L11 ?_ _ (1 : Int32) S _ h)
    · intro S60 Z h
      obtain ⟨_, h⟩ := ax_gd_e h
      obtain ⟨_, h⟩ := ax_gd_e h
      obtain ⟨S63, eS63, h⟩ := ax_let_e h
      have FS63 : ax_fr w_X12_goDay_56x0 S60 S63 := eS63 ▸ (ax_fr.rf).tr (ax_fr_sai (by decide))
      exact (FS63).tr (hJ3 S63 _ h)
  · rw [if_neg c6] at h
    exact (ax_fr.rf).tr (hJ3 S _ h)
abbrev w_X12_goStep_56x0 : List (Nat × Nat × Nat) := [(0, 12, 8), (0, 12, 9), (0, 12, 10), (0, 12, 11), (0, 12, 12), (0, 12, 13), (0, 12, 14), (0, 12, 17), (2, 12, 5), (4, 46, 0), (4, 56, 0), (4, 58, 0), (5, 57, 0)]
set_option maxRecDepth 100000 in
theorem fr_X12_goStep_56x0 {a2 : Int32} {S : AS} {Z : AS} (h : f_X12_goStep_56x0 a2 S = some Z) : ax_fr w_X12_goStep_56x0 S Z := by
  unfold f_X12_goStep_56x0 at h
  obtain ⟨_, h⟩ := ax_gd_e h
  obtain ⟨v2, _, h⟩ := ax_let_e h
  obtain ⟨_, h⟩ := ax_gd_e h
  obtain ⟨v4, _, h⟩ := ax_let_e h
  by_cases c1 : v4 = (0 : Int32)
  · rw [if_pos c1] at h
    obtain ⟨r9, S6, hq2, h⟩ := ax_bu_e h
    have FS6 : ax_fr w_X12_goStep_56x0 S S6 := (ax_fr.rf).tr ((fr_X12_calls_56x0 hq2).mono (by decide))
    cases h
    exact FS6
  · rw [if_neg c1] at h
    by_cases c3 : v4 = (1 : Int32)
    · rw [if_pos c3] at h
      obtain ⟨S11, hq4, h⟩ := ax_bd_e h
      have FS11 : ax_fr w_X12_goStep_56x0 S S11 := (ax_fr.rf).tr ((fr_X12_titles_56x0 hq4).mono (by decide))
      cases h
      exact FS11
    · rw [if_neg c3] at h
      by_cases c5 : v4 = (2 : Int32)
      · rw [if_pos c5] at h
        obtain ⟨_, h⟩ := ax_gd_e h
        obtain ⟨_, h⟩ := ax_gd_e h
        obtain ⟨S17, eS17, h⟩ := ax_let_e h
        have FS17 : ax_fr w_X12_goStep_56x0 S S17 := eS17 ▸ (ax_fr.rf).tr (ax_fr_sai (by decide))
        cases h
        exact FS17
      · rw [if_neg c5] at h
        by_cases c6 : v4 = (3 : Int32)
        · rw [if_pos c6] at h
          obtain ⟨_, h⟩ := ax_gd_e h
          obtain ⟨_, h⟩ := ax_gd_e h
          obtain ⟨S21, eS21, h⟩ := ax_let_e h
          have FS21 : ax_fr w_X12_goStep_56x0 S S21 := eS21 ▸ (ax_fr.rf).tr (ax_fr_sai (by decide))
          cases h
          exact FS21
        · rw [if_neg c6] at h
          obtain ⟨S22, hq7, h⟩ := ax_bd_e h
          have FS22 : ax_fr w_X12_goStep_56x0 S S22 := (ax_fr.rf).tr ((fr_X12_goDay_56x0 hq7).mono (by decide))
          cases h
          exact FS22
abbrev w_X12_run : List (Nat × Nat × Nat) := [(0, 12, 0), (0, 12, 8), (0, 12, 9), (0, 12, 10), (0, 12, 11), (0, 12, 12), (0, 12, 13), (0, 12, 14), (0, 12, 17), (2, 12, 5), (4, 46, 0), (4, 56, 0), (4, 58, 0), (5, 57, 0)]
set_option maxRecDepth 100000 in
theorem fl_X12_run_L47 {K98 : Int32 → Int32 → Int32 → AS → Option (Int32 × AS)} (hK98 : ∀ (x0 : Int32) (x1 : Int32) (x2 : Int32) (x3 : AS) r Z, K98 x0 x1 x2 x3 = some (r, Z) → ax_fr w_X12_run x3 Z) : ∀ (n : Nat) (x16 : Int32) (x17 : Int32) (x18 : Int32) (S22 : AS) r Z, f_X12_run_L47 K98 n x16 x17 x18 S22 = some (r, Z) → ax_fr w_X12_run S22 Z := by
  intro n
  induction n with
  | zero =>
    intro x16 x17 x18 S22 r Z h
    cases h
  | succ n ih =>
    intro x16 x17 x18 S22 r Z h
    unfold f_X12_run_L47 at h
    obtain ⟨_, h⟩ := ax_gd_e h
    by_cases c1 : (ax_ai S22 54 0 x16.toNatClampNeg) ≤ x18
    · rw [if_pos c1] at h
      exact (ax_fr.rf).tr (hK98 x16 x17 x18 S22 _ _ h)
    · rw [if_neg c1] at h
      obtain ⟨r28, S25, hq2, h⟩ := ax_bu_e h
      have FS25 : ax_fr w_X12_run S22 S25 := (ax_fr.rf).tr ((fr_X12_canStep_56x0 hq2).mono (by decide))
      by_cases c3 : r28 = (0 : Int32)
      · rw [if_pos c3] at h
        exact (FS25).tr (hK98 x16 x17 x18 S25 _ _ h)
      · rw [if_neg c3] at h
        obtain ⟨S30, hq4, h⟩ := ax_bd_e h
        have FS30 : ax_fr w_X12_run S22 S30 := (FS25).tr ((fr_X12_goStep_56x0 hq4).mono (by decide))
        obtain ⟨v33, _, h⟩ := ax_let_e h
        exact (FS30).tr (ih x16 x17 v33 S30 _ _ h)
set_option maxRecDepth 100000 in
theorem fr_X12_run {a1 : Int32} {a2 : Int32} {S : AS} {Z : AS} {r : Int32} (h : f_X12_run a1 a2 S = some (r, Z)) : ax_fr w_X12_run S Z := by
  unfold f_X12_run at h
  obtain ⟨S1, eS1, h⟩ := ax_let_e h
  have FS1 : ax_fr w_X12_run S S1 := eS1 ▸ (ax_fr.rf).tr (ax_fr_sfi (by decide))
  obtain ⟨r5, _, h⟩ := ax_bd_e h
  by_cases c6 : r5 = (0 : Int32)
  · rw [if_pos c6] at h
    cases h
    exact FS1
  · rw [if_neg c6] at h
    by_cases c7 : (ax_fi S1 12 0 27) = (0 : Int32)
    · rw [if_pos c7] at h
      cases h
      exact FS1
    · rw [if_neg c7] at h
      obtain ⟨r11, _, h⟩ := ax_bd_e h
      by_cases c9 : r11 = (0 : Int32)
      · rw [if_pos c9] at h
        cases h
        exact FS1
      · rw [if_neg c9] at h
        obtain ⟨S13, hq10, h⟩ := ax_bd_e h
        have FS13 : ax_fr w_X12_run S S13 := (FS1).tr ((fr_X12_copy_55x0_56x0 hq10).mono (by decide))
        refine (FS13).tr (fl_X12_run_L47 ?_ _ a1 a2 (0 : Int32) S13 _ _ h)
        · intro x19 x20 x21 S34 r Z h
          by_cases c11 : x20 = (1 : Int32)
          · rw [if_pos c11] at h
            obtain ⟨_, h⟩ := ax_gd_e h
            obtain ⟨_, h⟩ := ax_gd_e h
            cases h
            exact ax_fr.rf
          · rw [if_neg c11] at h
            obtain ⟨_, h⟩ := ax_gd_e h
            by_cases c12 : x21 = (ax_ai S34 54 0 x19.toNatClampNeg)
            · rw [if_pos c12] at h
              cases h
              exact ax_fr.rf
            · rw [if_neg c12] at h
              cases h
              exact ax_fr.rf
abbrev w_X12_sing : List (Nat × Nat × Nat) := [(0, 12, 0), (0, 12, 39), (4, 55, 0), (4, 59, 0)]
set_option maxRecDepth 100000 in
theorem fr_X12_sing {S : AS} {Z : AS} {r : Int32} (h : f_X12_sing S = some (r, Z)) : ax_fr w_X12_sing S Z := by
  unfold f_X12_sing at h
  obtain ⟨S1, eS1, h⟩ := ax_let_e h
  have FS1 : ax_fr w_X12_sing S S1 := eS1 ▸ (ax_fr.rf).tr (ax_fr_sfi (by decide))
  by_cases c1 : (ax_fi S1 12 0 27) = (0 : Int32)
  · rw [if_pos c1] at h
    cases h
    exact FS1
  · rw [if_neg c1] at h
    obtain ⟨S3, hq2, h⟩ := ax_bd_e h
    have FS3 : ax_fr w_X12_sing S S3 := (FS1).tr ((fr_X12_remember hq2).mono (by decide))
    obtain ⟨_, h⟩ := ax_gd_e h
    obtain ⟨_, h⟩ := ax_gd_e h
    obtain ⟨S8, eS8, h⟩ := ax_let_e h
    have FS8 : ax_fr w_X12_sing S S8 := eS8 ▸ (FS3).tr (ax_fr_sai (by decide))
    obtain ⟨_, h⟩ := ax_gd_e h
    cases h
    exact FS8
abbrev w_X12_span : List (Nat × Nat × Nat) := [(0, 12, 0), (0, 12, 8), (0, 12, 9), (0, 12, 10), (0, 12, 11), (0, 12, 12), (0, 12, 13), (0, 12, 14), (0, 12, 17), (2, 12, 5), (4, 46, 0), (4, 58, 0), (5, 57, 0)]
set_option maxRecDepth 100000 in
theorem fl_X12_span_L63 : ∀ (n : Nat) (x18 : Int32) (x19 : Int32) (x20 : Int32) (x21 : Int32) (S22 : AS) r Z, f_X12_span_L63 n x18 x19 x20 x21 S22 = some (r, Z) → ax_fr w_X12_span S22 Z := by
  intro n
  induction n with
  | zero =>
    intro x18 x19 x20 x21 S22 r Z h
    cases h
  | succ n ih =>
    intro x18 x19 x20 x21 S22 r Z h
    unfold f_X12_span_L63 at h
    by_cases c1 : x21 ≤ x20
    · rw [if_pos c1] at h
      cases h
      exact ax_fr.rf
    · rw [if_neg c1] at h
      obtain ⟨_, h⟩ := ax_gd_e h
      obtain ⟨r28, S25, hq2, h⟩ := ax_bu_e h
      have FS25 : ax_fr w_X12_span S22 S25 := (ax_fr.rf).tr ((fr_X12_takesTitled hq2).mono (by decide))
      by_cases c3 : x19 < r28
      · rw [if_pos c3] at h
        obtain ⟨v30, _, h⟩ := ax_let_e h
        exact (FS25).tr (ih x18 x19 x20 v30 S25 _ _ h)
      · rw [if_neg c3] at h
        cases h
        exact FS25
set_option maxRecDepth 100000 in
theorem fr_X12_span {a1 : Int32} {S : AS} {Z : AS} {r : Int32} (h : f_X12_span a1 S = some (r, Z)) : ax_fr w_X12_span S Z := by
  unfold f_X12_span at h
  obtain ⟨S1, eS1, h⟩ := ax_let_e h
  have FS1 : ax_fr w_X12_span S S1 := eS1 ▸ (ax_fr.rf).tr (ax_fr_sfi (by decide))
  obtain ⟨r5, _, h⟩ := ax_bd_e h
  by_cases c5 : r5 = (0 : Int32)
  · rw [if_pos c5] at h
    cases h
    exact FS1
  · rw [if_neg c5] at h
    obtain ⟨_, h⟩ := ax_gd_e h
    obtain ⟨_, h⟩ := ax_gd_e h
    obtain ⟨v9, _, h⟩ := ax_let_e h
    obtain ⟨_, h⟩ := ax_gd_e h
    obtain ⟨v11, _, h⟩ := ax_let_e h
    obtain ⟨_, h⟩ := ax_gd_e h
    obtain ⟨r16, S13, hq6, h⟩ := ax_bu_e h
    have FS13 : ax_fr w_X12_span S S13 := (FS1).tr ((fr_X12_takesTitled hq6).mono (by decide))
    by_cases c7 : r16 ≤ v9
    · rw [if_pos c7] at h
      refine (FS13).tr (fl_X12_span_L63 _ a1 v9 v11 (3 : Int32) S13 _ _ h)
    · rw [if_neg c7] at h
      cases h
      exact FS13
abbrev w_X12_step : List (Nat × Nat × Nat) := [(0, 12, 0)]
set_option maxRecDepth 100000 in
theorem fr_X12_step {a1 : Int32} {a2 : Int32} {a3 : Int32} {S : AS} {Z : AS} {r : Int32} (h : f_X12_step a1 a2 a3 S = some (r, Z)) : ax_fr w_X12_step S Z := by
  unfold f_X12_step at h
  obtain ⟨S1, eS1, h⟩ := ax_let_e h
  have FS1 : ax_fr w_X12_step S S1 := eS1 ▸ (ax_fr.rf).tr (ax_fr_sfi (by decide))
  obtain ⟨r5, _, h⟩ := ax_bd_e h
  by_cases c2 : r5 = (0 : Int32)
  · rw [if_pos c2] at h
    cases h
    exact FS1
  · rw [if_neg c2] at h
    obtain ⟨_, h⟩ := ax_gd_e h
    obtain ⟨r11, _, h⟩ := ax_bd_e h
    by_cases c4 : r11 = (0 : Int32)
    · rw [if_pos c4] at h
      cases h
      exact FS1
    · rw [if_neg c4] at h
      obtain ⟨r16, _, h⟩ := ax_bd_e h
      by_cases c6 : r16 = (0 : Int32)
      · rw [if_pos c6] at h
        cases h
        exact FS1
      · rw [if_neg c6] at h
        obtain ⟨_, h⟩ := ax_gd_e h
        cases h
        exact FS1
abbrev w_X12_sung : List (Nat × Nat × Nat) := [(0, 12, 0), (0, 12, 8), (0, 12, 9), (0, 12, 10), (0, 12, 11), (0, 12, 12), (0, 12, 13), (0, 12, 14), (0, 12, 17), (2, 12, 5), (4, 46, 0), (4, 58, 0), (5, 57, 0)]
set_option maxRecDepth 100000 in
theorem fr_X12_sung {a1 : Int32} {a2 : Int32} {S : AS} {Z : AS} {r : Int32} (h : f_X12_sung a1 a2 S = some (r, Z)) : ax_fr w_X12_sung S Z := by
  unfold f_X12_sung at h
  obtain ⟨S1, eS1, h⟩ := ax_let_e h
  have FS1 : ax_fr w_X12_sung S S1 := eS1 ▸ (ax_fr.rf).tr (ax_fr_sfi (by decide))
  obtain ⟨r5, _, h⟩ := ax_bd_e h
  by_cases c2 : r5 = (0 : Int32)
  · rw [if_pos c2] at h
    cases h
    exact FS1
  · rw [if_neg c2] at h
    obtain ⟨r10, _, h⟩ := ax_bd_e h
    by_cases c4 : r10 = (0 : Int32)
    · rw [if_pos c4] at h
      cases h
      exact FS1
    · rw [if_neg c4] at h
      obtain ⟨r15, _, h⟩ := ax_bd_e h
      obtain ⟨_, h⟩ := ax_gd_e h
      obtain ⟨_, h⟩ := ax_gd_e h
      obtain ⟨_, h⟩ := ax_gd_e h
      obtain ⟨r22, S19, hq6, h⟩ := ax_bu_e h
      have FS19 : ax_fr w_X12_sung S S19 := (FS1).tr ((fr_X12_takes_ hq6).mono (by decide))
      cases h
      exact FS19
abbrev w_X12_text : List (Nat × Nat × Nat) := [(0, 12, 0), (0, 12, 6), (0, 12, 7), (0, 12, 8), (0, 12, 9), (0, 12, 10), (0, 12, 11), (0, 12, 12), (0, 12, 13), (0, 12, 14), (0, 12, 17), (0, 12, 26), (0, 12, 27), (0, 12, 28), (0, 12, 29), (0, 12, 30), (0, 12, 31), (0, 12, 39), (0, 12, 47), (0, 12, 49), (2, 12, 5), (4, 44, 0), (4, 45, 0), (4, 47, 0), (4, 48, 0), (4, 49, 0), (4, 50, 0), (4, 51, 0), (4, 52, 0), (4, 53, 0), (4, 54, 0), (4, 55, 0)]
set_option maxRecDepth 100000 in
theorem fl_X12_text_L223 {K246 : AS → Option (Int32 × AS)} (hK246 : ∀ (x0 : AS) r Z, K246 x0 = some (r, Z) → ax_fr w_X12_text x0 Z) : ∀ (n : Nat) (x20 : Int32) (S21 : AS) r Z, f_X12_text_L223 K246 n x20 S21 = some (r, Z) → ax_fr w_X12_text S21 Z := by
  intro n
  induction n with
  | zero =>
    intro x20 S21 r Z h
    cases h
  | succ n ih =>
    intro x20 S21 r Z h
    unfold f_X12_text_L223 at h
    by_cases c1 : (3 : Int32) ≤ x20
    · rw [if_pos c1] at h
      exact (ax_fr.rf).tr (hK246 S21 _ _ h)
    · rw [if_neg c1] at h
      obtain ⟨_, h⟩ := ax_gd_e h
      obtain ⟨_, h⟩ := ax_gd_e h
      obtain ⟨S25, eS25, h⟩ := ax_let_e h
      have FS25 : ax_fr w_X12_text S21 S25 := eS25 ▸ (ax_fr.rf).tr (ax_fr_sai (by decide))
      obtain ⟨v26, _, h⟩ := ax_let_e h
      exact (FS25).tr (ih v26 S25 _ _ h)
set_option maxRecDepth 100000 in
theorem fl_X12_text_L248 {K272 : AS → Option (Int32 × AS)} (hK272 : ∀ (x0 : AS) r Z, K272 x0 = some (r, Z) → ax_fr w_X12_text x0 Z) : ∀ (n : Nat) (x28 : Int32) (S29 : AS) r Z, f_X12_text_L248 K272 n x28 S29 = some (r, Z) → ax_fr w_X12_text S29 Z := by
  intro n
  induction n with
  | zero =>
    intro x28 S29 r Z h
    cases h
  | succ n ih =>
    intro x28 S29 r Z h
    unfold f_X12_text_L248 at h
    by_cases c2 : (8 : Int32) ≤ x28
    · rw [if_pos c2] at h
      exact (ax_fr.rf).tr (hK272 S29 _ _ h)
    · rw [if_neg c2] at h
      obtain ⟨_, h⟩ := ax_gd_e h
      obtain ⟨_, h⟩ := ax_gd_e h
      obtain ⟨S33, eS33, h⟩ := ax_let_e h
      have FS33 : ax_fr w_X12_text S29 S33 := eS33 ▸ (ax_fr.rf).tr (ax_fr_sai (by decide))
      obtain ⟨v34, _, h⟩ := ax_let_e h
      exact (FS33).tr (ih v34 S33 _ _ h)
set_option maxRecDepth 100000 in
theorem fl_X12_text_L274 {K298 : AS → Option (Int32 × AS)} (hK298 : ∀ (x0 : AS) r Z, K298 x0 = some (r, Z) → ax_fr w_X12_text x0 Z) : ∀ (n : Nat) (x36 : Int32) (S37 : AS) r Z, f_X12_text_L274 K298 n x36 S37 = some (r, Z) → ax_fr w_X12_text S37 Z := by
  intro n
  induction n with
  | zero =>
    intro x36 S37 r Z h
    cases h
  | succ n ih =>
    intro x36 S37 r Z h
    unfold f_X12_text_L274 at h
    by_cases c3 : (42 : Int32) ≤ x36
    · rw [if_pos c3] at h
      exact (ax_fr.rf).tr (hK298 S37 _ _ h)
    · rw [if_neg c3] at h
      obtain ⟨_, h⟩ := ax_gd_e h
      obtain ⟨_, h⟩ := ax_gd_e h
      obtain ⟨S41, eS41, h⟩ := ax_let_e h
      have FS41 : ax_fr w_X12_text S37 S41 := eS41 ▸ (ax_fr.rf).tr (ax_fr_sai (by decide))
      obtain ⟨v42, _, h⟩ := ax_let_e h
      exact (FS41).tr (ih v42 S41 _ _ h)
set_option maxRecDepth 100000 in
theorem fl_X12_text_L300 {K320 : AS → Option (Int32 × AS)} (hK320 : ∀ (x0 : AS) r Z, K320 x0 = some (r, Z) → ax_fr w_X12_text x0 Z) : ∀ (n : Nat) (x44 : Int32) (S45 : AS) r Z, f_X12_text_L300 K320 n x44 S45 = some (r, Z) → ax_fr w_X12_text S45 Z := by
  intro n
  induction n with
  | zero =>
    intro x44 S45 r Z h
    cases h
  | succ n ih =>
    intro x44 S45 r Z h
    unfold f_X12_text_L300 at h
    by_cases c4 : (204 : Int32) ≤ x44
    · rw [if_pos c4] at h
      exact (ax_fr.rf).tr (hK320 S45 _ _ h)
    · rw [if_neg c4] at h
      obtain ⟨_, h⟩ := ax_gd_e h
      obtain ⟨S48, eS48, h⟩ := ax_let_e h
      have FS48 : ax_fr w_X12_text S45 S48 := eS48 ▸ (ax_fr.rf).tr (ax_fr_sai (by decide))
      obtain ⟨v49, _, h⟩ := ax_let_e h
      exact (FS48).tr (ih v49 S48 _ _ h)
set_option maxRecDepth 100000 in
theorem fl_X12_text_L322 {K357 : AS → Option (Int32 × AS)} (hK357 : ∀ (x0 : AS) r Z, K357 x0 = some (r, Z) → ax_fr w_X12_text x0 Z) : ∀ (n : Nat) (x51 : Int32) (S52 : AS) r Z, f_X12_text_L322 K357 n x51 S52 = some (r, Z) → ax_fr w_X12_text S52 Z := by
  intro n
  induction n with
  | zero =>
    intro x51 S52 r Z h
    cases h
  | succ n ih =>
    intro x51 S52 r Z h
    unfold f_X12_text_L322 at h
    by_cases c5 : (ax_fi S52 12 0 27) ≤ x51
    · rw [if_pos c5] at h
      exact (ax_fr.rf).tr (hK357 S52 _ _ h)
    · rw [if_neg c5] at h
      obtain ⟨_, h⟩ := ax_gd_e h
      obtain ⟨_, h⟩ := ax_gd_e h
      obtain ⟨S56, eS56, h⟩ := ax_let_e h
      have FS56 : ax_fr w_X12_text S52 S56 := eS56 ▸ (ax_fr.rf).tr (ax_fr_sai (by decide))
      obtain ⟨v57, _, h⟩ := ax_let_e h
      exact (FS56).tr (ih v57 S56 _ _ h)
set_option maxRecDepth 100000 in
theorem fl_X12_text_L137 {K173 : AS → Option (Int32 × AS)} (hK173 : ∀ (x0 : AS) r Z, K173 x0 = some (r, Z) → ax_fr w_X12_text x0 Z) : ∀ (n : Nat) (x65 : Int32) (S66 : AS) r Z, f_X12_text_L137 K173 n x65 S66 = some (r, Z) → ax_fr w_X12_text S66 Z := by
  intro n
  induction n with
  | zero =>
    intro x65 S66 r Z h
    cases h
  | succ n ih =>
    intro x65 S66 r Z h
    unfold f_X12_text_L137 at h
    by_cases c6 : (32 : Int32) ≤ x65
    · rw [if_pos c6] at h
      exact (ax_fr.rf).tr (hK173 S66 _ _ h)
    · rw [if_neg c6] at h
      obtain ⟨_, h⟩ := ax_gd_e h
      obtain ⟨_, h⟩ := ax_gd_e h
      obtain ⟨S70, eS70, h⟩ := ax_let_e h
      have FS70 : ax_fr w_X12_text S66 S70 := eS70 ▸ (ax_fr.rf).tr (ax_fr_sai (by decide))
      obtain ⟨v71, _, h⟩ := ax_let_e h
      exact (FS70).tr (ih v71 S70 _ _ h)
set_option maxRecDepth 100000 in
theorem fl_X12_text_L71 {K103 : Int32 → AS → Option (Int32 × AS)} (hK103 : ∀ (x0 : Int32) (x1 : AS) r Z, K103 x0 x1 = some (r, Z) → ax_fr w_X12_text x1 Z) : ∀ (n : Nat) (x77 : Int32) (x78 : Int32) (S80 : AS) r Z, f_X12_text_L71 K103 n x77 x78 S80 = some (r, Z) → ax_fr w_X12_text S80 Z := by
  intro n
  induction n with
  | zero =>
    intro x77 x78 S80 r Z h
    cases h
  | succ n ih =>
    intro x77 x78 S80 r Z h
    unfold f_X12_text_L71 at h
    by_cases c7 : x77 ≤ x78
    · rw [if_pos c7] at h
      exact (ax_fr.rf).tr (hK103 x77 S80 _ _ h)
    · rw [if_neg c7] at h
      obtain ⟨_, h⟩ := ax_gd_e h
      obtain ⟨_, h⟩ := ax_gd_e h
      obtain ⟨S84, eS84, h⟩ := ax_let_e h
      have FS84 : ax_fr w_X12_text S80 S84 := eS84 ▸ (ax_fr.rf).tr (ax_fr_sai (by decide))
      obtain ⟨v85, _, h⟩ := ax_let_e h
      exact (FS84).tr (ih x77 v85 S84 _ _ h)
set_option maxRecDepth 100000 in
theorem fr_X12_text {a1 : Int32} {S : AS} {Z : AS} {r : Int32} (h : f_X12_text a1 S = some (r, Z)) : ax_fr w_X12_text S Z := by
  unfold f_X12_text at h
  obtain ⟨S1, eS1, h⟩ := ax_let_e h
  have FS1 : ax_fr w_X12_text S S1 := eS1 ▸ (ax_fr.rf).tr (ax_fr_sfi (by decide))
  obtain ⟨r5, _, h⟩ := ax_bd_e h
  by_cases c9 : r5 = (0 : Int32)
  · rw [if_pos c9] at h
    cases h
    exact FS1
  · rw [if_neg c9] at h
    by_cases c10 : a1 = (1 : Int32)
    · rw [if_pos c10] at h
      by_cases c11 : (ax_fi S1 12 0 7) = (4 : Int32)
      · rw [if_pos c11] at h
        cases h
        exact FS1
      · rw [if_neg c11] at h
        by_cases c12 : a1 = (2 : Int32)
        · rw [if_pos c12] at h
          by_cases c13 : (ax_fi S1 12 0 30) = (4 : Int32)
          · rw [if_pos c13] at h
            cases h
            exact FS1
          · rw [if_neg c13] at h
            obtain ⟨r175, S172, hq14, h⟩ := ax_bu_e h
            have FS172 : ax_fr w_X12_text S S172 := (FS1).tr ((fr_X12_fault hq14).mono (by decide))
            by_cases c15 : r175 = (Int32.ofInt (-1))
            · rw [if_pos c15] at h
              obtain ⟨v177, _, h⟩ := ax_let_e h
              obtain ⟨S178, eS178, h⟩ := ax_let_e h
              have FS178 : ax_fr w_X12_text S S178 := eS178 ▸ (FS172).tr (ax_fr_sfi (by decide))
              by_cases c16 : a1 = (1 : Int32)
              · rw [if_pos c16] at h
                refine (FS178).tr (fl_X12_text_L71 ?_ _ v177 (0 : Int32) S178 _ _ h)
                · intro x79 S207 r Z h
                  obtain ⟨_, h⟩ := ax_gd_e h
                  obtain ⟨S209, eS209, h⟩ := ax_let_e h
                  have FS209 : ax_fr w_X12_text S207 S209 := eS209 ▸ (ax_fr.rf).tr (ax_fr_sai (by decide))
                  obtain ⟨S210, eS210, h⟩ := ax_let_e h
                  have FS210 : ax_fr w_X12_text S207 S210 := eS210 ▸ (FS209).tr (ax_fr_sfi (by decide))
                  cases h
                  exact FS210
              · rw [if_neg c16] at h
                by_cases c17 : a1 = (2 : Int32)
                · rw [if_pos c17] at h
                  refine (FS178).tr (fl_X12_text_L137 ?_ _ (0 : Int32) S178 _ _ h)
                  · intro S200 r Z h
                    obtain ⟨_, h⟩ := ax_gd_e h
                    obtain ⟨_, h⟩ := ax_gd_e h
                    obtain ⟨S203, eS203, h⟩ := ax_let_e h
                    have FS203 : ax_fr w_X12_text S200 S203 := eS203 ▸ (ax_fr.rf).tr (ax_fr_sai (by decide))
                    obtain ⟨S204, eS204, h⟩ := ax_let_e h
                    have FS204 : ax_fr w_X12_text S200 S204 := eS204 ▸ (FS203).tr (ax_fr_sfi (by decide))
                    cases h
                    exact FS204
                · rw [if_neg c17] at h
                  obtain ⟨S181, eS181, h⟩ := ax_let_e h
                  have FS181 : ax_fr w_X12_text S S181 := eS181 ▸ (FS178).tr (ax_fr_sfi (by decide))
                  obtain ⟨S182, eS182, h⟩ := ax_let_e h
                  have FS182 : ax_fr w_X12_text S S182 := eS182 ▸ (FS181).tr (ax_fr_sfi (by decide))
                  refine (FS182).tr (fl_X12_text_L223 ?_ _ (0 : Int32) S182 _ _ h)
                  · intro S184 r Z h
                    refine (ax_fr.rf).tr (fl_X12_text_L248 ?_ _ (0 : Int32) S184 _ _ h)
                    · intro S186 r Z h
                      refine (ax_fr.rf).tr (fl_X12_text_L274 ?_ _ (0 : Int32) S186 _ _ h)
                      · intro S188 r Z h
                        refine (ax_fr.rf).tr (fl_X12_text_L300 ?_ _ (0 : Int32) S188 _ _ h)
                        · intro S190 r Z h
                          refine (ax_fr.rf).tr (fl_X12_text_L322 ?_ _ (0 : Int32) S190 _ _ h)
                          · intro S192 r Z h
                            obtain ⟨_, h⟩ := ax_gd_e h
                            obtain ⟨_, h⟩ := ax_gd_e h
                            obtain ⟨S195, eS195, h⟩ := ax_let_e h
                            have FS195 : ax_fr w_X12_text S192 S195 := eS195 ▸ (ax_fr.rf).tr (ax_fr_sai (by decide))
                            obtain ⟨S196, eS196, h⟩ := ax_let_e h
                            have FS196 : ax_fr w_X12_text S192 S196 := eS196 ▸ (FS195).tr (ax_fr_sfi (by decide))
                            obtain ⟨S197, eS197, h⟩ := ax_let_e h
                            have FS197 : ax_fr w_X12_text S192 S197 := eS197 ▸ (FS196).tr (ax_fr_sfi (by decide))
                            obtain ⟨S198, eS198, h⟩ := ax_let_e h
                            have FS198 : ax_fr w_X12_text S192 S198 := eS198 ▸ (FS197).tr (ax_fr_sfi (by decide))
                            cases h
                            exact FS198
            · rw [if_neg c15] at h
              cases h
              exact FS172
        · rw [if_neg c12] at h
          obtain ⟨r135, S132, hq18, h⟩ := ax_bu_e h
          have FS132 : ax_fr w_X12_text S S132 := (FS1).tr ((fr_X12_fault hq18).mono (by decide))
          by_cases c19 : r135 = (Int32.ofInt (-1))
          · rw [if_pos c19] at h
            obtain ⟨v137, _, h⟩ := ax_let_e h
            obtain ⟨S138, eS138, h⟩ := ax_let_e h
            have FS138 : ax_fr w_X12_text S S138 := eS138 ▸ (FS132).tr (ax_fr_sfi (by decide))
            by_cases c20 : a1 = (1 : Int32)
            · rw [if_pos c20] at h
              refine (FS138).tr (fl_X12_text_L71 ?_ _ v137 (0 : Int32) S138 _ _ h)
              · intro x79 S167 r Z h
                obtain ⟨_, h⟩ := ax_gd_e h
                obtain ⟨S169, eS169, h⟩ := ax_let_e h
                have FS169 : ax_fr w_X12_text S167 S169 := eS169 ▸ (ax_fr.rf).tr (ax_fr_sai (by decide))
                obtain ⟨S170, eS170, h⟩ := ax_let_e h
                have FS170 : ax_fr w_X12_text S167 S170 := eS170 ▸ (FS169).tr (ax_fr_sfi (by decide))
                cases h
                exact FS170
            · rw [if_neg c20] at h
              by_cases c21 : a1 = (2 : Int32)
              · rw [if_pos c21] at h
                refine (FS138).tr (fl_X12_text_L137 ?_ _ (0 : Int32) S138 _ _ h)
                · intro S160 r Z h
                  obtain ⟨_, h⟩ := ax_gd_e h
                  obtain ⟨_, h⟩ := ax_gd_e h
                  obtain ⟨S163, eS163, h⟩ := ax_let_e h
                  have FS163 : ax_fr w_X12_text S160 S163 := eS163 ▸ (ax_fr.rf).tr (ax_fr_sai (by decide))
                  obtain ⟨S164, eS164, h⟩ := ax_let_e h
                  have FS164 : ax_fr w_X12_text S160 S164 := eS164 ▸ (FS163).tr (ax_fr_sfi (by decide))
                  cases h
                  exact FS164
              · rw [if_neg c21] at h
                obtain ⟨S141, eS141, h⟩ := ax_let_e h
                have FS141 : ax_fr w_X12_text S S141 := eS141 ▸ (FS138).tr (ax_fr_sfi (by decide))
                obtain ⟨S142, eS142, h⟩ := ax_let_e h
                have FS142 : ax_fr w_X12_text S S142 := eS142 ▸ (FS141).tr (ax_fr_sfi (by decide))
                refine (FS142).tr (fl_X12_text_L223 ?_ _ (0 : Int32) S142 _ _ h)
                · intro S144 r Z h
                  refine (ax_fr.rf).tr (fl_X12_text_L248 ?_ _ (0 : Int32) S144 _ _ h)
                  · intro S146 r Z h
                    refine (ax_fr.rf).tr (fl_X12_text_L274 ?_ _ (0 : Int32) S146 _ _ h)
                    · intro S148 r Z h
                      refine (ax_fr.rf).tr (fl_X12_text_L300 ?_ _ (0 : Int32) S148 _ _ h)
                      · intro S150 r Z h
                        refine (ax_fr.rf).tr (fl_X12_text_L322 ?_ _ (0 : Int32) S150 _ _ h)
                        · intro S152 r Z h
                          obtain ⟨_, h⟩ := ax_gd_e h
                          obtain ⟨_, h⟩ := ax_gd_e h
                          obtain ⟨S155, eS155, h⟩ := ax_let_e h
                          have FS155 : ax_fr w_X12_text S152 S155 := eS155 ▸ (ax_fr.rf).tr (ax_fr_sai (by decide))
                          obtain ⟨S156, eS156, h⟩ := ax_let_e h
                          have FS156 : ax_fr w_X12_text S152 S156 := eS156 ▸ (FS155).tr (ax_fr_sfi (by decide))
                          obtain ⟨S157, eS157, h⟩ := ax_let_e h
                          have FS157 : ax_fr w_X12_text S152 S157 := eS157 ▸ (FS156).tr (ax_fr_sfi (by decide))
                          obtain ⟨S158, eS158, h⟩ := ax_let_e h
                          have FS158 : ax_fr w_X12_text S152 S158 := eS158 ▸ (FS157).tr (ax_fr_sfi (by decide))
                          cases h
                          exact FS158
          · rw [if_neg c19] at h
            cases h
            exact FS132
    · rw [if_neg c10] at h
      by_cases c22 : a1 = (2 : Int32)
      · rw [if_pos c22] at h
        by_cases c23 : (ax_fi S1 12 0 30) = (4 : Int32)
        · rw [if_pos c23] at h
          cases h
          exact FS1
        · rw [if_neg c23] at h
          obtain ⟨r94, S91, hq24, h⟩ := ax_bu_e h
          have FS91 : ax_fr w_X12_text S S91 := (FS1).tr ((fr_X12_fault hq24).mono (by decide))
          by_cases c25 : r94 = (Int32.ofInt (-1))
          · rw [if_pos c25] at h
            obtain ⟨v96, _, h⟩ := ax_let_e h
            obtain ⟨S97, eS97, h⟩ := ax_let_e h
            have FS97 : ax_fr w_X12_text S S97 := eS97 ▸ (FS91).tr (ax_fr_sfi (by decide))
            by_cases c26 : a1 = (1 : Int32)
            · rw [if_pos c26] at h
              refine (FS97).tr (fl_X12_text_L71 ?_ _ v96 (0 : Int32) S97 _ _ h)
              · intro x79 S126 r Z h
                obtain ⟨_, h⟩ := ax_gd_e h
                obtain ⟨S128, eS128, h⟩ := ax_let_e h
                have FS128 : ax_fr w_X12_text S126 S128 := eS128 ▸ (ax_fr.rf).tr (ax_fr_sai (by decide))
                obtain ⟨S129, eS129, h⟩ := ax_let_e h
                have FS129 : ax_fr w_X12_text S126 S129 := eS129 ▸ (FS128).tr (ax_fr_sfi (by decide))
                cases h
                exact FS129
            · rw [if_neg c26] at h
              by_cases c27 : a1 = (2 : Int32)
              · rw [if_pos c27] at h
                refine (FS97).tr (fl_X12_text_L137 ?_ _ (0 : Int32) S97 _ _ h)
                · intro S119 r Z h
                  obtain ⟨_, h⟩ := ax_gd_e h
                  obtain ⟨_, h⟩ := ax_gd_e h
                  obtain ⟨S122, eS122, h⟩ := ax_let_e h
                  have FS122 : ax_fr w_X12_text S119 S122 := eS122 ▸ (ax_fr.rf).tr (ax_fr_sai (by decide))
                  obtain ⟨S123, eS123, h⟩ := ax_let_e h
                  have FS123 : ax_fr w_X12_text S119 S123 := eS123 ▸ (FS122).tr (ax_fr_sfi (by decide))
                  cases h
                  exact FS123
              · rw [if_neg c27] at h
                obtain ⟨S100, eS100, h⟩ := ax_let_e h
                have FS100 : ax_fr w_X12_text S S100 := eS100 ▸ (FS97).tr (ax_fr_sfi (by decide))
                obtain ⟨S101, eS101, h⟩ := ax_let_e h
                have FS101 : ax_fr w_X12_text S S101 := eS101 ▸ (FS100).tr (ax_fr_sfi (by decide))
                refine (FS101).tr (fl_X12_text_L223 ?_ _ (0 : Int32) S101 _ _ h)
                · intro S103 r Z h
                  refine (ax_fr.rf).tr (fl_X12_text_L248 ?_ _ (0 : Int32) S103 _ _ h)
                  · intro S105 r Z h
                    refine (ax_fr.rf).tr (fl_X12_text_L274 ?_ _ (0 : Int32) S105 _ _ h)
                    · intro S107 r Z h
                      refine (ax_fr.rf).tr (fl_X12_text_L300 ?_ _ (0 : Int32) S107 _ _ h)
                      · intro S109 r Z h
                        refine (ax_fr.rf).tr (fl_X12_text_L322 ?_ _ (0 : Int32) S109 _ _ h)
                        · intro S111 r Z h
                          obtain ⟨_, h⟩ := ax_gd_e h
                          obtain ⟨_, h⟩ := ax_gd_e h
                          obtain ⟨S114, eS114, h⟩ := ax_let_e h
                          have FS114 : ax_fr w_X12_text S111 S114 := eS114 ▸ (ax_fr.rf).tr (ax_fr_sai (by decide))
                          obtain ⟨S115, eS115, h⟩ := ax_let_e h
                          have FS115 : ax_fr w_X12_text S111 S115 := eS115 ▸ (FS114).tr (ax_fr_sfi (by decide))
                          obtain ⟨S116, eS116, h⟩ := ax_let_e h
                          have FS116 : ax_fr w_X12_text S111 S116 := eS116 ▸ (FS115).tr (ax_fr_sfi (by decide))
                          obtain ⟨S117, eS117, h⟩ := ax_let_e h
                          have FS117 : ax_fr w_X12_text S111 S117 := eS117 ▸ (FS116).tr (ax_fr_sfi (by decide))
                          cases h
                          exact FS117
          · rw [if_neg c25] at h
            cases h
            exact FS91
      · rw [if_neg c22] at h
        obtain ⟨r12, S9, hq28, h⟩ := ax_bu_e h
        have FS9 : ax_fr w_X12_text S S9 := (FS1).tr ((fr_X12_fault hq28).mono (by decide))
        by_cases c29 : r12 = (Int32.ofInt (-1))
        · rw [if_pos c29] at h
          obtain ⟨v14, _, h⟩ := ax_let_e h
          obtain ⟨S15, eS15, h⟩ := ax_let_e h
          have FS15 : ax_fr w_X12_text S S15 := eS15 ▸ (FS9).tr (ax_fr_sfi (by decide))
          by_cases c30 : a1 = (1 : Int32)
          · rw [if_pos c30] at h
            refine (FS15).tr (fl_X12_text_L71 ?_ _ v14 (0 : Int32) S15 _ _ h)
            · intro x79 S86 r Z h
              obtain ⟨_, h⟩ := ax_gd_e h
              obtain ⟨S88, eS88, h⟩ := ax_let_e h
              have FS88 : ax_fr w_X12_text S86 S88 := eS88 ▸ (ax_fr.rf).tr (ax_fr_sai (by decide))
              obtain ⟨S89, eS89, h⟩ := ax_let_e h
              have FS89 : ax_fr w_X12_text S86 S89 := eS89 ▸ (FS88).tr (ax_fr_sfi (by decide))
              cases h
              exact FS89
          · rw [if_neg c30] at h
            by_cases c31 : a1 = (2 : Int32)
            · rw [if_pos c31] at h
              refine (FS15).tr (fl_X12_text_L137 ?_ _ (0 : Int32) S15 _ _ h)
              · intro S72 r Z h
                obtain ⟨_, h⟩ := ax_gd_e h
                obtain ⟨_, h⟩ := ax_gd_e h
                obtain ⟨S75, eS75, h⟩ := ax_let_e h
                have FS75 : ax_fr w_X12_text S72 S75 := eS75 ▸ (ax_fr.rf).tr (ax_fr_sai (by decide))
                obtain ⟨S76, eS76, h⟩ := ax_let_e h
                have FS76 : ax_fr w_X12_text S72 S76 := eS76 ▸ (FS75).tr (ax_fr_sfi (by decide))
                cases h
                exact FS76
            · rw [if_neg c31] at h
              obtain ⟨S18, eS18, h⟩ := ax_let_e h
              have FS18 : ax_fr w_X12_text S S18 := eS18 ▸ (FS15).tr (ax_fr_sfi (by decide))
              obtain ⟨S19, eS19, h⟩ := ax_let_e h
              have FS19 : ax_fr w_X12_text S S19 := eS19 ▸ (FS18).tr (ax_fr_sfi (by decide))
              refine (FS19).tr (fl_X12_text_L223 ?_ _ (0 : Int32) S19 _ _ h)
              · intro S27 r Z h
                refine (ax_fr.rf).tr (fl_X12_text_L248 ?_ _ (0 : Int32) S27 _ _ h)
                · intro S35 r Z h
                  refine (ax_fr.rf).tr (fl_X12_text_L274 ?_ _ (0 : Int32) S35 _ _ h)
                  · intro S43 r Z h
                    refine (ax_fr.rf).tr (fl_X12_text_L300 ?_ _ (0 : Int32) S43 _ _ h)
                    · intro S50 r Z h
                      refine (ax_fr.rf).tr (fl_X12_text_L322 ?_ _ (0 : Int32) S50 _ _ h)
                      · intro S58 r Z h
                        obtain ⟨_, h⟩ := ax_gd_e h
                        obtain ⟨_, h⟩ := ax_gd_e h
                        obtain ⟨S61, eS61, h⟩ := ax_let_e h
                        have FS61 : ax_fr w_X12_text S58 S61 := eS61 ▸ (ax_fr.rf).tr (ax_fr_sai (by decide))
                        obtain ⟨S62, eS62, h⟩ := ax_let_e h
                        have FS62 : ax_fr w_X12_text S58 S62 := eS62 ▸ (FS61).tr (ax_fr_sfi (by decide))
                        obtain ⟨S63, eS63, h⟩ := ax_let_e h
                        have FS63 : ax_fr w_X12_text S58 S63 := eS63 ▸ (FS62).tr (ax_fr_sfi (by decide))
                        obtain ⟨S64, eS64, h⟩ := ax_let_e h
                        have FS64 : ax_fr w_X12_text S58 S64 := eS64 ▸ (FS63).tr (ax_fr_sfi (by decide))
                        cases h
                        exact FS64
        · rw [if_neg c29] at h
          cases h
          exact FS9
abbrev w_X12_timed : List (Nat × Nat × Nat) := [(0, 12, 0), (0, 12, 8), (0, 12, 9), (0, 12, 10), (0, 12, 11), (0, 12, 12), (0, 12, 13), (0, 12, 14), (0, 12, 17), (2, 12, 5), (4, 46, 0), (4, 58, 0), (5, 57, 0)]
set_option maxRecDepth 100000 in
theorem fl_X12_timed_L30 {K67 : Int32 → AS → Option (Int32 × AS)} (hK67 : ∀ (x0 : Int32) (x1 : AS) r Z, K67 x0 x1 = some (r, Z) → ax_fr w_X12_timed x1 Z) : ∀ (n : Nat) (x8 : Int32) (x9 : Int32) (x10 : Int32) (S12 : AS) r Z, f_X12_timed_L30 K67 n x8 x9 x10 S12 = some (r, Z) → ax_fr w_X12_timed S12 Z := by
  intro n
  induction n with
  | zero =>
    intro x8 x9 x10 S12 r Z h
    cases h
  | succ n ih =>
    intro x8 x9 x10 S12 r Z h
    unfold f_X12_timed_L30 at h
    by_cases c1 : (ax_fi S12 12 0 27) ≤ x10
    · rw [if_pos c1] at h
      exact (ax_fr.rf).tr (hK67 x9 S12 _ _ h)
    · rw [if_neg c1] at h
      obtain ⟨r17, S14, hq2, h⟩ := ax_bu_e h
      have FS14 : ax_fr w_X12_timed S12 S14 := (ax_fr.rf).tr ((fr_X12_takesIn_55x0 hq2).mono (by decide))
      by_cases c3 : r17 = x8
      · rw [if_pos c3] at h
        obtain ⟨v21, _, h⟩ := ax_let_e h
        obtain ⟨v22, _, h⟩ := ax_let_e h
        exact (FS14).tr (ih x8 v21 v22 S14 _ _ h)
      · rw [if_neg c3] at h
        obtain ⟨v19, _, h⟩ := ax_let_e h
        obtain ⟨v20, _, h⟩ := ax_let_e h
        exact (FS14).tr (ih x8 v19 v20 S14 _ _ h)
set_option maxRecDepth 100000 in
theorem fr_X12_timed {a1 : Int32} {S : AS} {Z : AS} {r : Int32} (h : f_X12_timed a1 S = some (r, Z)) : ax_fr w_X12_timed S Z := by
  unfold f_X12_timed at h
  obtain ⟨S1, eS1, h⟩ := ax_let_e h
  have FS1 : ax_fr w_X12_timed S S1 := eS1 ▸ (ax_fr.rf).tr (ax_fr_sfi (by decide))
  by_cases c4 : (ax_fi S1 12 0 27) = (0 : Int32)
  · rw [if_pos c4] at h
    cases h
    exact FS1
  · rw [if_neg c4] at h
    obtain ⟨r6, _, h⟩ := ax_bd_e h
    by_cases c6 : r6 = (0 : Int32)
    · rw [if_pos c6] at h
      cases h
      exact FS1
    · rw [if_neg c6] at h
      refine (FS1).tr (fl_X12_timed_L30 ?_ _ a1 (0 : Int32) (0 : Int32) S1 _ _ h)
      · intro x11 S23 r Z h
        cases h
        exact ax_fr.rf
abbrev w_X12_title : List (Nat × Nat × Nat) := [(0, 12, 0), (0, 12, 39), (4, 55, 0), (4, 59, 0)]
set_option maxRecDepth 100000 in
theorem fr_X12_title {a1 : Int32} {S : AS} {Z : AS} {r : Int32} (h : f_X12_title a1 S = some (r, Z)) : ax_fr w_X12_title S Z := by
  unfold f_X12_title at h
  obtain ⟨S1, eS1, h⟩ := ax_let_e h
  have FS1 : ax_fr w_X12_title S S1 := eS1 ▸ (ax_fr.rf).tr (ax_fr_sfi (by decide))
  obtain ⟨r5, _, h⟩ := ax_bd_e h
  by_cases c2 : r5 = (0 : Int32)
  · rw [if_pos c2] at h
    cases h
    exact FS1
  · rw [if_neg c2] at h
    obtain ⟨S7, hq3, h⟩ := ax_bd_e h
    have FS7 : ax_fr w_X12_title S S7 := (FS1).tr ((fr_X12_remember hq3).mono (by decide))
    obtain ⟨S10, hq4, h⟩ := ax_bd_e h
    have FS10 : ax_fr w_X12_title S S10 := (FS7).tr ((fr_X12_titles_55x0 hq4).mono (by decide))
    obtain ⟨_, h⟩ := ax_gd_e h
    cases h
    exact FS10
abbrev w_X12_undo : List (Nat × Nat × Nat) := [(0, 12, 0), (0, 12, 39), (4, 55, 0)]
set_option maxRecDepth 100000 in
theorem fl_X12_undo_L26 {K60 : AS → Option (Int32 × AS)} (hK60 : ∀ (x0 : AS) r Z, K60 x0 = some (r, Z) → ax_fr w_X12_undo x0 Z) : ∀ (n : Nat) (x4 : Int32) (S5 : AS) r Z, f_X12_undo_L26 K60 n x4 S5 = some (r, Z) → ax_fr w_X12_undo S5 Z := by
  intro n
  induction n with
  | zero =>
    intro x4 S5 r Z h
    cases h
  | succ n ih =>
    intro x4 S5 r Z h
    unfold f_X12_undo_L26 at h
    by_cases c1 : (204 : Int32) ≤ x4
    · rw [if_pos c1] at h
      exact (ax_fr.rf).tr (hK60 S5 _ _ h)
    · rw [if_neg c1] at h
      obtain ⟨_, h⟩ := ax_gd_e h
      obtain ⟨_, h⟩ := ax_gd_e h
      obtain ⟨S9, eS9, h⟩ := ax_let_e h
      have FS9 : ax_fr w_X12_undo S5 S9 := eS9 ▸ (ax_fr.rf).tr (ax_fr_sai (by decide))
      obtain ⟨v10, _, h⟩ := ax_let_e h
      exact (FS9).tr (ih v10 S9 _ _ h)
set_option maxRecDepth 100000 in
theorem fr_X12_undo {S : AS} {Z : AS} {r : Int32} (h : f_X12_undo S = some (r, Z)) : ax_fr w_X12_undo S Z := by
  unfold f_X12_undo at h
  obtain ⟨S1, eS1, h⟩ := ax_let_e h
  have FS1 : ax_fr w_X12_undo S S1 := eS1 ▸ (ax_fr.rf).tr (ax_fr_sfi (by decide))
  by_cases c2 : (ax_fi S1 12 0 39) = (0 : Int32)
  · rw [if_pos c2] at h
    cases h
    exact FS1
  · rw [if_neg c2] at h
    obtain ⟨S3, eS3, h⟩ := ax_let_e h
    have FS3 : ax_fr w_X12_undo S S3 := eS3 ▸ (FS1).tr (ax_fr_sfi (by decide))
    refine (FS3).tr (fl_X12_undo_L26 ?_ _ (0 : Int32) S3 _ _ h)
    · intro S11 r Z h
      cases h
      exact ax_fr.rf
abbrev w_X12_whim : List (Nat × Nat × Nat) := [(0, 12, 0), (0, 12, 35)]
set_option maxRecDepth 100000 in
theorem fr_X12_whim {a1 : Int32} {S : AS} {Z : AS} {r : Int32} (h : f_X12_whim a1 S = some (r, Z)) : ax_fr w_X12_whim S Z := by
  unfold f_X12_whim at h
  obtain ⟨S1, eS1, h⟩ := ax_let_e h
  have FS1 : ax_fr w_X12_whim S S1 := eS1 ▸ (ax_fr.rf).tr (ax_fr_sfi (by decide))
  obtain ⟨r5, _, h⟩ := ax_bd_e h
  by_cases c2 : r5 = (0 : Int32)
  · rw [if_pos c2] at h
    cases h
    exact FS1
  · rw [if_neg c2] at h
    by_cases c3 : a1 = (ax_fi S1 12 0 35)
    · rw [if_pos c3] at h
      cases h
      exact FS1
    · rw [if_neg c3] at h
      obtain ⟨S8, eS8, h⟩ := ax_let_e h
      have FS8 : ax_fr w_X12_whim S S8 := eS8 ▸ (FS1).tr (ax_fr_sfi (by decide))
      cases h
      exact FS8
abbrev w_X12_whose : List (Nat × Nat × Nat) := [(0, 12, 0)]
set_option maxRecDepth 100000 in
theorem fl_X12_whose_L19 {K53 : Int32 → AS → Option (Int32 × AS)} (hK53 : ∀ (x0 : Int32) (x1 : AS) r Z, K53 x0 x1 = some (r, Z) → ax_fr w_X12_whose x1 Z) : ∀ (n : Nat) (x7 : Int32) (x8 : Int32) (x9 : Int32) (S11 : AS) r Z, f_X12_whose_L19 K53 n x7 x8 x9 S11 = some (r, Z) → ax_fr w_X12_whose S11 Z := by
  intro n
  induction n with
  | zero =>
    intro x7 x8 x9 S11 r Z h
    cases h
  | succ n ih =>
    intro x7 x8 x9 S11 r Z h
    unfold f_X12_whose_L19 at h
    by_cases c1 : (ax_fi S11 12 0 27) ≤ x9
    · rw [if_pos c1] at h
      exact (ax_fr.rf).tr (hK53 x8 S11 _ _ h)
    · rw [if_neg c1] at h
      obtain ⟨r16, _, h⟩ := ax_bd_e h
      by_cases c3 : r16 = x7
      · rw [if_pos c3] at h
        obtain ⟨v20, _, h⟩ := ax_let_e h
        obtain ⟨v21, _, h⟩ := ax_let_e h
        exact (ax_fr.rf).tr (ih x7 v20 v21 S11 _ _ h)
      · rw [if_neg c3] at h
        obtain ⟨v18, _, h⟩ := ax_let_e h
        obtain ⟨v19, _, h⟩ := ax_let_e h
        exact (ax_fr.rf).tr (ih x7 v18 v19 S11 _ _ h)
set_option maxRecDepth 100000 in
theorem fr_X12_whose {a1 : Int32} {S : AS} {Z : AS} {r : Int32} (h : f_X12_whose a1 S = some (r, Z)) : ax_fr w_X12_whose S Z := by
  unfold f_X12_whose at h
  obtain ⟨S1, eS1, h⟩ := ax_let_e h
  have FS1 : ax_fr w_X12_whose S S1 := eS1 ▸ (ax_fr.rf).tr (ax_fr_sfi (by decide))
  obtain ⟨r5, _, h⟩ := ax_bd_e h
  by_cases c5 : r5 = (0 : Int32)
  · rw [if_pos c5] at h
    cases h
    exact FS1
  · rw [if_neg c5] at h
    refine (FS1).tr (fl_X12_whose_L19 ?_ _ a1 (0 : Int32) (0 : Int32) S1 _ _ h)
    · intro x10 S22 r Z h
      cases h
      exact ax_fr.rf
abbrev w_X12_years : List (Nat × Nat × Nat) := [(0, 12, 0), (0, 12, 8), (0, 12, 9), (0, 12, 10), (0, 12, 11), (0, 12, 12), (0, 12, 13), (0, 12, 14), (0, 12, 17), (0, 12, 39), (1, 12, 40), (2, 12, 5), (4, 46, 0), (4, 55, 0), (4, 58, 0), (4, 59, 0), (5, 57, 0)]
set_option maxRecDepth 100000 in
theorem fl_X12_years_L62 {K109 : Int32 → Int32 → AS → Option (Int32 × AS)} (hK109 : ∀ (x0 : Int32) (x1 : Int32) (x2 : AS) r Z, K109 x0 x1 x2 = some (r, Z) → ax_fr w_X12_years x2 Z) : ∀ (n : Nat) (x18 : Int32) (x19 : Int32) (x20 : Int32) (S23 : AS) r Z, f_X12_years_L62 K109 n x18 x19 x20 S23 = some (r, Z) → ax_fr w_X12_years S23 Z := by
  intro n
  induction n with
  | zero =>
    intro x18 x19 x20 S23 r Z h
    cases h
  | succ n ih =>
    intro x18 x19 x20 S23 r Z h
    unfold f_X12_years_L62 at h
    by_cases c1 : (3 : Int32) ≤ x20
    · rw [if_pos c1] at h
      exact (ax_fr.rf).tr (hK109 x18 x19 S23 _ _ h)
    · rw [if_neg c1] at h
      obtain ⟨r28, S25, hq2, h⟩ := ax_bu_e h
      have FS25 : ax_fr w_X12_years S23 S25 := (ax_fr.rf).tr ((fr_X12_draw hq2).mono (by decide))
      obtain ⟨r32, S29, hq3, h⟩ := ax_bu_e h
      have FS29 : ax_fr w_X12_years S23 S29 := (FS25).tr ((fr_X12_canCall_55x0 hq3).mono (by decide))
      by_cases c4 : r32 = (0 : Int32)
      · rw [if_pos c4] at h
        obtain ⟨v34, _, h⟩ := ax_let_e h
        exact (FS29).tr (ih x18 x19 v34 S29 _ _ h)
      · rw [if_neg c4] at h
        obtain ⟨r38, S35, hq5, h⟩ := ax_bu_e h
        have FS35 : ax_fr w_X12_years S23 S35 := (FS29).tr ((fr_X12_calls_55x0 hq5).mono (by decide))
        obtain ⟨v39, _, h⟩ := ax_let_e h
        exact (FS35).tr (ih x18 x19 v39 S35 _ _ h)
set_option maxRecDepth 100000 in
theorem fl_X12_years_L49 {K162 : AS → Option (Int32 × AS)} (hK162 : ∀ (x0 : AS) r Z, K162 x0 = some (r, Z) → ax_fr w_X12_years x0 Z) : ∀ (n : Nat) (x11 : Int32) (x12 : Int32) (S13 : AS) r Z, f_X12_years_L49 K162 n x11 x12 S13 = some (r, Z) → ax_fr w_X12_years S13 Z := by
  intro n
  induction n with
  | zero =>
    intro x11 x12 S13 r Z h
    cases h
  | succ n ih =>
    intro x11 x12 S13 r Z h
    unfold f_X12_years_L49 at h
    by_cases c6 : x11 ≤ x12
    · rw [if_pos c6] at h
      exact (ax_fr.rf).tr (hK162 S13 _ _ h)
    · rw [if_neg c6] at h
      obtain ⟨S15, hq7, h⟩ := ax_bd_e h
      have FS15 : ax_fr w_X12_years S13 S15 := (ax_fr.rf).tr ((fr_X12_remember hq7).mono (by decide))
      refine (FS15).tr (fl_X12_years_L62 ?_ _ x11 x12 (0 : Int32) S15 _ _ h)
      · intro x21 x22 S40 r Z h
        obtain ⟨r44, S41, hq8, h⟩ := ax_bu_e h
        have FS41 : ax_fr w_X12_years S40 S41 := (ax_fr.rf).tr ((fr_X12_draw hq8).mono (by decide))
        by_cases c9 : (ax_fi S41 12 0 35) ≤ r44
        · rw [if_pos c9] at h
          obtain ⟨S46, hq10, h⟩ := ax_bd_e h
          have FS46 : ax_fr w_X12_years S40 S46 := (FS41).tr ((fr_X12_goDay_55x0 hq10).mono (by decide))
          obtain ⟨v49, _, h⟩ := ax_let_e h
          exact (FS46).tr (ih x21 v49 S46 _ _ h)
        · rw [if_neg c9] at h
          obtain ⟨r53, S50, hq11, h⟩ := ax_bu_e h
          have FS50 : ax_fr w_X12_years S40 S50 := (FS41).tr ((fr_X12_draw hq11).mono (by decide))
          obtain ⟨r57, S54, hq12, h⟩ := ax_bu_e h
          have FS54 : ax_fr w_X12_years S40 S54 := (FS50).tr ((fr_X12_draw hq12).mono (by decide))
          obtain ⟨_, h⟩ := ax_gd_e h
          obtain ⟨S59, eS59, h⟩ := ax_let_e h
          have FS59 : ax_fr w_X12_years S40 S59 := eS59 ▸ (FS54).tr (ax_fr_sai (by decide))
          obtain ⟨S60, hq13, h⟩ := ax_bd_e h
          have FS60 : ax_fr w_X12_years S40 S60 := (FS59).tr ((fr_X12_goDay_55x0 hq13).mono (by decide))
          obtain ⟨v63, _, h⟩ := ax_let_e h
          exact (FS60).tr (ih x21 v63 S60 _ _ h)
set_option maxRecDepth 100000 in
theorem fr_X12_years {a1 : Int32} {a2 : Int64} {S : AS} {Z : AS} {r : Int32} (h : f_X12_years a1 a2 S = some (r, Z)) : ax_fr w_X12_years S Z := by
  unfold f_X12_years at h
  obtain ⟨S1, eS1, h⟩ := ax_let_e h
  have FS1 : ax_fr w_X12_years S S1 := eS1 ▸ (ax_fr.rf).tr (ax_fr_sfi (by decide))
  by_cases c14 : (ax_fi S1 12 0 27) = (0 : Int32)
  · rw [if_pos c14] at h
    cases h
    exact FS1
  · rw [if_neg c14] at h
    obtain ⟨r6, _, h⟩ := ax_bd_e h
    by_cases c16 : r6 = (0 : Int32)
    · rw [if_pos c16] at h
      cases h
      exact FS1
    · rw [if_neg c16] at h
      obtain ⟨_, h⟩ := ax_gd_e h
      by_cases c17 : ((ax_ai S1 55 0 (22 : Int32).toNatClampNeg) + a1) ≤ (999 : Int32)
      · rw [if_pos c17] at h
        obtain ⟨S10, eS10, h⟩ := ax_let_e h
        have FS10 : ax_fr w_X12_years S S10 := eS10 ▸ (FS1).tr (ax_fr_sfl (by decide))
        refine (FS10).tr (fl_X12_years_L49 ?_ _ a1 (0 : Int32) S10 _ _ h)
        · intro S64 r Z h
          obtain ⟨_, h⟩ := ax_gd_e h
          cases h
          exact ax_fr.rf
      · rw [if_neg c17] at h
        cases h
        exact FS1

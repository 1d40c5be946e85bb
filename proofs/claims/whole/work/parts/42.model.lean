/-! METHODS of the reference as functions, by program -/
def f_X12_mostOf (a0 : Int32) (a1 : Int32) (S : AS) : Option (Int32) := (if a0 = (115 : Int32) then (if a1 = (1 : Int32) then some (9 : Int32) else some (99 : Int32)) else (if a0 = (108 : Int32) then some (9 : Int32) else (if a1 = (1 : Int32) then some (5 : Int32) else if a1 = (2 : Int32) then some (3 : Int32) else if a1 = (3 : Int32) then some (30 : Int32) else if a1 = (4 : Int32) then some (9 : Int32) else if a1 = (5 : Int32) then some (3 : Int32) else if a1 = (6 : Int32) then some (99 : Int32) else some (9 : Int32))))
set_option maxRecDepth 100000 in
theorem t_X12_mostOf {l : Launch} {a0 : Int32} {a1 : Int32} {S : AS} {r : Int32} (h : f_X12_mostOf a0 a1 S = some r) : ax_M l 0 ma_X12_mostOf [.inl (.int a0), .inl (.int a1)] S (some (.inl (.int r))) S := by
  unfold f_X12_mostOf at h
  show ax_T l 0 ma_X12_mostOf (0, [some (.inl (.int a0)), some (.inl (.int a1))], [], S) (some (.inl (.int r))) S
  refine ax_Tgo [.iload_n 0, .bipush 115] (pc' := 3) (L' := [some (.inl (.int a0)), some (.inl (.int a1))]) (st' := [.inl (.int (115 : Int32)), .inl (.int a0)]) (S' := S) ok_X12_mostOf.1 (by decide +kernel) rfl rfl ?_
  refine ax_Tic_ne (off := 16) (tgt := 19) (by decide +kernel) (by decide) (fun c1 => ?_) (fun c1 => ?_)
  · rw [if_neg c1] at h
    refine ax_Tgo [.iload_n 0, .bipush 108] (pc' := 22) (L' := [some (.inl (.int a0)), some (.inl (.int a1))]) (st' := [.inl (.int (108 : Int32)), .inl (.int a0)]) (S' := S) ok_X12_mostOf.1 (by decide +kernel) rfl rfl ?_
    refine ax_Tic_ne (off := 6) (tgt := 28) (by decide +kernel) (by decide) (fun c2 => ?_) (fun c2 => ?_)
    · rw [if_neg c2] at h
      refine ax_Tgo [.iload_n 1] (pc' := 29) (L' := [some (.inl (.int a0)), some (.inl (.int a1))]) (st' := [.inl (.int a1)]) (S' := S) ok_X12_mostOf.1 (by decide +kernel) rfl rfl ?_
      by_cases c3 : a1 = (1 : Int32)
      · rw [if_pos c3] at h
        refine ax_TtIn (dflt := 51) (lo := 1) (hi := 6) (offs := #[39, 41, 43, 51, 46, 48]) (len := 39) (off := 39) (tgt := 68) (by decide +kernel) (by rw [c3]; decide) (by rw [c3]; decide) (by rw [c3]; rfl) (by decide) ?_
        refine ax_Tgo [.iconst 5] (pc' := 69) (L' := [some (.inl (.int a0)), some (.inl (.int a1))]) (st' := [.inl (.int (5 : Int32))]) (S' := S) ok_X12_mostOf.1 (by decide +kernel) rfl rfl ?_
        cases h
        exact ax_Treti (by decide +kernel) rfl rfl
      · rw [if_neg c3] at h
        by_cases c4 : a1 = (2 : Int32)
        · rw [if_pos c4] at h
          refine ax_TtIn (dflt := 51) (lo := 1) (hi := 6) (offs := #[39, 41, 43, 51, 46, 48]) (len := 39) (off := 41) (tgt := 70) (by decide +kernel) (by rw [c4]; decide) (by rw [c4]; decide) (by rw [c4]; rfl) (by decide) ?_
          refine ax_Tgo [.iconst 3] (pc' := 71) (L' := [some (.inl (.int a0)), some (.inl (.int a1))]) (st' := [.inl (.int (3 : Int32))]) (S' := S) ok_X12_mostOf.1 (by decide +kernel) rfl rfl ?_
          cases h
          exact ax_Treti (by decide +kernel) rfl rfl
        · rw [if_neg c4] at h
          by_cases c5 : a1 = (3 : Int32)
          · rw [if_pos c5] at h
            refine ax_TtIn (dflt := 51) (lo := 1) (hi := 6) (offs := #[39, 41, 43, 51, 46, 48]) (len := 39) (off := 43) (tgt := 72) (by decide +kernel) (by rw [c5]; decide) (by rw [c5]; decide) (by rw [c5]; rfl) (by decide) ?_
            refine ax_Tgo [.bipush 30] (pc' := 74) (L' := [some (.inl (.int a0)), some (.inl (.int a1))]) (st' := [.inl (.int (30 : Int32))]) (S' := S) ok_X12_mostOf.1 (by decide +kernel) rfl rfl ?_
            cases h
            exact ax_Treti (by decide +kernel) rfl rfl
          · rw [if_neg c5] at h
            by_cases c6 : a1 = (4 : Int32)
            · rw [if_pos c6] at h
              refine ax_TtIn (dflt := 51) (lo := 1) (hi := 6) (offs := #[39, 41, 43, 51, 46, 48]) (len := 39) (off := 51) (tgt := 80) (by decide +kernel) (by rw [c6]; decide) (by rw [c6]; decide) (by rw [c6]; rfl) (by decide) ?_
              refine ax_Tgo [.bipush 9] (pc' := 82) (L' := [some (.inl (.int a0)), some (.inl (.int a1))]) (st' := [.inl (.int (9 : Int32))]) (S' := S) ok_X12_mostOf.1 (by decide +kernel) rfl rfl ?_
              cases h
              exact ax_Treti (by decide +kernel) rfl rfl
            · rw [if_neg c6] at h
              by_cases c7 : a1 = (5 : Int32)
              · rw [if_pos c7] at h
                refine ax_TtIn (dflt := 51) (lo := 1) (hi := 6) (offs := #[39, 41, 43, 51, 46, 48]) (len := 39) (off := 46) (tgt := 75) (by decide +kernel) (by rw [c7]; decide) (by rw [c7]; decide) (by rw [c7]; rfl) (by decide) ?_
                refine ax_Tgo [.iconst 3] (pc' := 76) (L' := [some (.inl (.int a0)), some (.inl (.int a1))]) (st' := [.inl (.int (3 : Int32))]) (S' := S) ok_X12_mostOf.1 (by decide +kernel) rfl rfl ?_
                cases h
                exact ax_Treti (by decide +kernel) rfl rfl
              · rw [if_neg c7] at h
                by_cases c8 : a1 = (6 : Int32)
                · rw [if_pos c8] at h
                  refine ax_TtIn (dflt := 51) (lo := 1) (hi := 6) (offs := #[39, 41, 43, 51, 46, 48]) (len := 39) (off := 48) (tgt := 77) (by decide +kernel) (by rw [c8]; decide) (by rw [c8]; decide) (by rw [c8]; rfl) (by decide) ?_
                  refine ax_Tgo [.bipush 99] (pc' := 79) (L' := [some (.inl (.int a0)), some (.inl (.int a1))]) (st' := [.inl (.int (99 : Int32))]) (S' := S) ok_X12_mostOf.1 (by decide +kernel) rfl rfl ?_
                  cases h
                  exact ax_Treti (by decide +kernel) rfl rfl
                · rw [if_neg c8] at h
                  refine ax_TtOut (dflt := 51) (lo := 1) (hi := 6) (offs := #[39, 41, 43, 51, 46, 48]) (len := 39) (tgt := 80) (by decide +kernel) (by have zc3 := lv_neT (a := 1) c3 rfl; have zc4 := lv_neT (a := 2) c4 rfl; have zc5 := lv_neT (a := 3) c5 rfl; have zc6 := lv_neT (a := 4) c6 rfl; have zc7 := lv_neT (a := 5) c7 rfl; have zc8 := lv_neT (a := 6) c8 rfl; omega) (by decide) ?_
                  refine ax_Tgo [.bipush 9] (pc' := 82) (L' := [some (.inl (.int a0)), some (.inl (.int a1))]) (st' := [.inl (.int (9 : Int32))]) (S' := S) ok_X12_mostOf.1 (by decide +kernel) rfl rfl ?_
                  cases h
                  exact ax_Treti (by decide +kernel) rfl rfl
    · rw [if_pos c2] at h
      refine ax_Tgo [.bipush 9] (pc' := 27) (L' := [some (.inl (.int a0)), some (.inl (.int a1))]) (st' := [.inl (.int (9 : Int32))]) (S' := S) ok_X12_mostOf.1 (by decide +kernel) rfl rfl ?_
      cases h
      exact ax_Treti (by decide +kernel) rfl rfl
  · rw [if_pos c1] at h
    refine ax_Tgo [.iload_n 1, .iconst 1] (pc' := 8) (L' := [some (.inl (.int a0)), some (.inl (.int a1))]) (st' := [.inl (.int (1 : Int32)), .inl (.int a1)]) (S' := S) ok_X12_mostOf.1 (by decide +kernel) rfl rfl ?_
    refine ax_Tic_ne (off := 8) (tgt := 16) (by decide +kernel) (by decide) (fun c9 => ?_) (fun c9 => ?_)
    · rw [if_neg c9] at h
      refine ax_Tgo [.bipush 99] (pc' := 18) (L' := [some (.inl (.int a0)), some (.inl (.int a1))]) (st' := [.inl (.int (99 : Int32))]) (S' := S) ok_X12_mostOf.1 (by decide +kernel) rfl rfl ?_
      cases h
      exact ax_Treti (by decide +kernel) rfl rfl
    · rw [if_pos c9] at h
      refine ax_Tgo [.bipush 9] (pc' := 13) (L' := [some (.inl (.int a0)), some (.inl (.int a1))]) (st' := [.inl (.int (9 : Int32))]) (S' := S) ok_X12_mostOf.1 (by decide +kernel) rfl rfl ?_
      refine ax_Tgoto (off := 5) (tgt := 18) (by decide +kernel) (by decide) ?_
      cases h
      exact ax_Treti (by decide +kernel) rfl rfl
def f_X12_here (S : AS) : Option (Int32) := (if (ax_fi S 12 0 9) ≤ (ax_fi S 12 0 10) then some (Int32.ofInt (-1)) else ax_gd (ax_in ((ax_fi S 12 0 8) + (ax_fi S 12 0 10)) (ax_ln S 44 (ax_fx S 12 0 5))) (some ((ax_ai S 44 (ax_fx S 12 0 5) ((ax_fi S 12 0 8) + (ax_fi S 12 0 10)).toNatClampNeg) &&& (255 : Int32))))
set_option maxRecDepth 100000 in
theorem t_X12_here {l : Launch} {S : AS} {r : Int32} (h : f_X12_here S = some r) : ax_M l 0 ma_X12_here [.inr (12, 0)] S (some (.inl (.int r))) S := by
  unfold f_X12_here at h
  show ax_T l 0 ma_X12_here (0, [some (.inr (12, 0))], [], S) (some (.inl (.int r))) S
  refine ax_Tgo [.aload_n 0, .getfield 116, .aload_n 0, .getfield 119] (pc' := 8) (L' := [some (.inr (12, 0))]) (st' := [.inl (.int (ax_fi S 12 0 9)), .inl (.int (ax_fi S 12 0 10))]) (S' := S) ok_X12_here.1 (by decide +kernel) rfl rfl ?_
  refine ax_Tic_ge (off := 24) (tgt := 32) (by decide +kernel) (by decide) (fun c1 => ?_) (fun c1 => ?_)
  · rw [if_pos c1] at h
    refine ax_Tgo [.iconst (-1)] (pc' := 33) (L' := [some (.inr (12, 0))]) (st' := [.inl (.int (Int32.ofInt (-1)))]) (S' := S) ok_X12_here.1 (by decide +kernel) rfl rfl ?_
    cases h
    exact ax_Treti (by decide +kernel) rfl rfl
  · rw [if_neg c1] at h
    refine ax_Tgo [.aload_n 0, .getfield 23, .aload_n 0, .getfield 122, .aload_n 0, .getfield 116, .iadd] (pc' := 24) (L' := [some (.inr (12, 0))]) (st' := [.inl (.int ((ax_fi S 12 0 8) + (ax_fi S 12 0 10))), .inr (44, (ax_fx S 12 0 5))]) (S' := S) ok_X12_here.1 (by decide +kernel) rfl rfl ?_
    obtain ⟨g2, h⟩ := ax_gd_e h
    refine ax_Talb (n := (ax_ln S 44 (ax_fx S 12 0 5))) ok_X12_here.1 (by decide +kernel) (by decide) rfl g2 ?_
    refine ax_Tgo [.sipush 255, .iand] (pc' := 29) (L' := [some (.inr (12, 0))]) (st' := [.inl (.int ((ax_ai S 44 (ax_fx S 12 0 5) ((ax_fi S 12 0 8) + (ax_fi S 12 0 10)).toNatClampNeg) &&& (255 : Int32)))]) (S' := S) ok_X12_here.1 (by decide +kernel) rfl rfl ?_
    refine ax_Tgoto (off := 4) (tgt := 33) (by decide +kernel) (by decide) ?_
    cases h
    exact ax_Treti (by decide +kernel) rfl rfl
def f_X12_number (a1 : Int32) (a2 : Int32) (S : AS) : Option (Int32 × AS) := ax_bu (f_X12_look S) (fun (r4 : Int32) (S1 : AS) => (f_X12_isDigit S1).bind (fun (r8 : Int32) => (if r8 = (0 : Int32) then ax_bu (f_X12_fails S1) (fun (r48 : Int32) (S45 : AS) => some ((0 : Int32), S45)) else ax_let (r4 - (48 : Int32)) (fun (v10 : Int32) => ax_let (ax_sfi S1 12 0 10 ((ax_fi S1 12 0 10) + (1 : Int32))) (fun (S11 : AS) => (f_X12_isDigit S11).bind (fun (r15 : Int32) => ax_let (fun (x16 : Int32) (S17 : AS) => (f_X12_isDigit S17).bind (fun (r22 : Int32) => (if r22 = (0 : Int32) then (f_X12_isIn (x16.toInt64) (a1.toInt64) (a2.toInt64) S17).bind (fun (r27 : Int32) => (if r27 = (0 : Int32) then ax_let (ax_sfi S17 12 0 10 ((ax_fi S17 12 0 10) - (1 : Int32))) (fun (S29 : AS) => ax_bu (f_X12_fails S29) (fun (r33 : Int32) (S30 : AS) => some (x16, S30))) else some (x16, S17))) else ax_bu (f_X12_fails S17) (fun (r37 : Int32) (S34 : AS) => some ((0 : Int32), S34))))) (fun J18 => (if r15 = (0 : Int32) then J18 v10 S11 else (f_X12_here S11).bind (fun (r42 : Int32) => ax_let ((((10 : Int32) * v10) + r42) - (48 : Int32)) (fun (v43 : Int32) => ax_let (ax_sfi S11 12 0 10 ((ax_fi S11 12 0 10) + (1 : Int32))) (fun (S44 : AS) => J18 v43 S44)))))))))))
set_option maxRecDepth 100000 in
theorem t_X12_number {l : Launch} {a1 : Int32} {a2 : Int32} {S Z : AS} {r : Int32} (h : f_X12_number a1 a2 S = some (r, Z)) : ax_M l 1 ma_X12_number [.inr (12, 0), .inl (.int a1), .inl (.int a2)] S (some (.inl (.int r))) Z := by
  unfold f_X12_number at h
  show ax_T l 1 ma_X12_number (0, [some (.inr (12, 0)), some (.inl (.int a1)), some (.inl (.int a2)), none, none], [], S) (some (.inl (.int r))) Z
  refine ax_Tgo [.aload_n 0] (pc' := 1) (L' := [some (.inr (12, 0)), some (.inl (.int a1)), some (.inl (.int a2)), none, none]) (st' := [.inr (12, 0)]) (S' := S) ok_X12_number.1 (by decide +kernel) rfl rfl ?_
  obtain ⟨r4, S1, hq2, h⟩ := ax_bu_e h
  refine ax_TVi (d := 0) (ka := 12) (i := 0) [] [] lk_X12_135 (by decide +kernel) rfl (by decide) rfl (Nat.le_of_ble_eq_true rfl) (Nat.le_of_ble_eq_true rfl) ((t_X12_look hq2).up (by decide)) ?_
  refine ax_Tgo [.istore_n 3, .aload_n 0] (pc' := 6) (L' := [some (.inr (12, 0)), some (.inl (.int a1)), some (.inl (.int a2)), some (.inl (.int r4)), none]) (st' := [.inr (12, 0)]) (S' := S1) ok_X12_number.1 (by decide +kernel) rfl rfl ?_
  obtain ⟨r8, hq6, h⟩ := ax_bd_e h
  refine ax_TVi (d := 0) (ka := 12) (i := 0) [] [] lk_X12_165 (by decide +kernel) rfl (by decide) rfl (Nat.le_of_ble_eq_true rfl) (Nat.le_of_ble_eq_true rfl) ((t_X12_isDigit hq6).up (by decide)) ?_
  refine ax_Tif_ne (off := 10) (tgt := 19) (by decide +kernel) (by decide) (fun c9 => ?_) (fun c9 => ?_)
  · rw [if_neg c9] at h
    refine ax_Tgo [.iload_n 3, .bipush 48, .isub, .istore 4] (pc' := 25) (L' := [some (.inr (12, 0)), some (.inl (.int a1)), some (.inl (.int a2)), some (.inl (.int r4)), some (.inl (.int (r4 - (48 : Int32))))]) (st' := []) (S' := S1) ok_X12_number.1 (by decide +kernel) rfl rfl ?_
    obtain ⟨v10, ev10, h⟩ := ax_let_e h
    rw [ev10]
    refine ax_Tgo [.aload_n 0, .dup, .getfield 116, .iconst 1, .iadd, .putfield 116] (pc' := 35) (L' := [some (.inr (12, 0)), some (.inl (.int a1)), some (.inl (.int a2)), some (.inl (.int r4)), some (.inl (.int v10))]) (st' := []) (S' := (ax_sfi S1 12 0 10 ((ax_fi S1 12 0 10) + (1 : Int32)))) ok_X12_number.1 (by decide +kernel) rfl rfl ?_
    obtain ⟨S11, eS11, h⟩ := ax_let_e h
    rw [eS11]
    refine ax_Tgo [.aload_n 0] (pc' := 36) (L' := [some (.inr (12, 0)), some (.inl (.int a1)), some (.inl (.int a2)), some (.inl (.int r4)), some (.inl (.int v10))]) (st' := [.inr (12, 0)]) (S' := S11) ok_X12_number.1 (by decide +kernel) rfl rfl ?_
    obtain ⟨r15, hq13, h⟩ := ax_bd_e h
    refine ax_TVi (d := 0) (ka := 12) (i := 0) [] [] lk_X12_165 (by decide +kernel) rfl (by decide) rfl (Nat.le_of_ble_eq_true rfl) (Nat.le_of_ble_eq_true rfl) ((t_X12_isDigit hq13).up (by decide)) ?_
    obtain ⟨J18, eJ18, h⟩ := ax_let_e h
    have hJ18 : ∀ (x16 : Int32) (S17 : AS) r Z, J18 x16 S17 = some (r, Z) → ax_T l 1 ma_X12_number (67, [some (.inr (12, 0)), some (.inl (.int a1)), some (.inl (.int a2)), none, some (.inl (.int x16))], [], S17) (some (.inl (.int r))) Z := by
      intro x16 S17 r Z h
      rw [← eJ18] at h
      try dsimp only at h
      refine ax_Tgo [.aload_n 0] (pc' := 68) (L' := [some (.inr (12, 0)), some (.inl (.int a1)), some (.inl (.int a2)), none, some (.inl (.int x16))]) (st' := [.inr (12, 0)]) (S' := S17) ok_X12_number.1 (by decide +kernel) rfl rfl ?_
      obtain ⟨r22, hq20, h⟩ := ax_bd_e h
      refine ax_TVi (d := 0) (ka := 12) (i := 0) [] [] lk_X12_165 (by decide +kernel) rfl (by decide) rfl (Nat.le_of_ble_eq_true rfl) (Nat.le_of_ble_eq_true rfl) ((t_X12_isDigit hq20).up (by decide)) ?_
      refine ax_Tif_eq (off := 10) (tgt := 81) (by decide +kernel) (by decide) (fun c23 => ?_) (fun c23 => ?_)
      · rw [if_pos c23] at h
        refine ax_Tgo [.iload 4, .i2l, .iload_n 1, .i2l, .iload_n 2, .i2l] (pc' := 88) (L' := [some (.inr (12, 0)), some (.inl (.int a1)), some (.inl (.int a2)), none, some (.inl (.int x16))]) (st' := [.inl (.long a2.toInt64), .inl (.long a1.toInt64), .inl (.long x16.toInt64)]) (S' := S17) ok_X12_number.1 (by decide +kernel) rfl rfl ?_
        obtain ⟨r27, hq25, h⟩ := ax_bd_e h
        refine ax_TSi (d := 0) [.inl (.long x16.toInt64), .inl (.long a1.toInt64), .inl (.long a2.toInt64)] [] lk_X12_214 (by decide +kernel) rfl rfl (Nat.le_of_ble_eq_true rfl) (Nat.le_of_ble_eq_true rfl) ((t_X12_isIn hq25).up (by decide)) ?_
        refine ax_Tif_ne (off := 18) (tgt := 109) (by decide +kernel) (by decide) (fun c28 => ?_) (fun c28 => ?_)
        · rw [if_neg c28] at h
          refine ax_Tgo [.iload 4] (pc' := 111) (L' := [some (.inr (12, 0)), some (.inl (.int a1)), some (.inl (.int a2)), none, some (.inl (.int x16))]) (st' := [.inl (.int x16)]) (S' := S17) ok_X12_number.1 (by decide +kernel) rfl rfl ?_
          cases h
          exact ax_Treti (by decide +kernel) rfl rfl
        · rw [if_pos c28] at h
          refine ax_Tgo [.aload_n 0, .dup, .getfield 116, .iconst 1, .isub, .putfield 116] (pc' := 104) (L' := [some (.inr (12, 0)), some (.inl (.int a1)), some (.inl (.int a2)), none, some (.inl (.int x16))]) (st' := []) (S' := (ax_sfi S17 12 0 10 ((ax_fi S17 12 0 10) - (1 : Int32)))) ok_X12_number.1 (by decide +kernel) rfl rfl ?_
          obtain ⟨S29, eS29, h⟩ := ax_let_e h
          rw [eS29]
          refine ax_Tgo [.aload_n 0] (pc' := 105) (L' := [some (.inr (12, 0)), some (.inl (.int a1)), some (.inl (.int a2)), none, some (.inl (.int x16))]) (st' := [.inr (12, 0)]) (S' := S29) ok_X12_number.1 (by decide +kernel) rfl rfl ?_
          obtain ⟨r33, S30, hq31, h⟩ := ax_bu_e h
          refine ax_TVi (d := 0) (ka := 12) (i := 0) [] [] lk_X12_131 (by decide +kernel) rfl (by decide) rfl (Nat.le_of_ble_eq_true rfl) (Nat.le_of_ble_eq_true rfl) ((t_X12_fails hq31).up (by decide)) ?_
          refine ax_Tgo [.pop, .iload 4] (pc' := 111) (L' := [some (.inr (12, 0)), some (.inl (.int a1)), some (.inl (.int a2)), none, some (.inl (.int x16))]) (st' := [.inl (.int x16)]) (S' := S30) ok_X12_number.1 (by decide +kernel) rfl rfl ?_
          cases h
          exact ax_Treti (by decide +kernel) rfl rfl
      · rw [if_neg c23] at h
        refine ax_Tgo [.aload_n 0] (pc' := 75) (L' := [some (.inr (12, 0)), some (.inl (.int a1)), some (.inl (.int a2)), none, some (.inl (.int x16))]) (st' := [.inr (12, 0)]) (S' := S17) ok_X12_number.1 (by decide +kernel) rfl rfl ?_
        obtain ⟨r37, S34, hq35, h⟩ := ax_bu_e h
        refine ax_TVi (d := 0) (ka := 12) (i := 0) [] [] lk_X12_131 (by decide +kernel) rfl (by decide) rfl (Nat.le_of_ble_eq_true rfl) (Nat.le_of_ble_eq_true rfl) ((t_X12_fails hq35).up (by decide)) ?_
        refine ax_Tgo [.pop, .iconst 0] (pc' := 80) (L' := [some (.inr (12, 0)), some (.inl (.int a1)), some (.inl (.int a2)), none, some (.inl (.int x16))]) (st' := [.inl (.int (0 : Int32))]) (S' := S34) ok_X12_number.1 (by decide +kernel) rfl rfl ?_
        cases h
        exact ax_Treti (by decide +kernel) rfl rfl
    refine ax_Tif_eq (off := 28) (tgt := 67) (by decide +kernel) (by decide) (fun c38 => ?_) (fun c38 => ?_)
    · rw [if_pos c38] at h
      refine ax_Tdrop [true, true, true, false, true] (L' := [some (.inr (12, 0)), some (.inl (.int a1)), some (.inl (.int a2)), none, some (.inl (.int v10))]) rfl ?_
      exact hJ18 v10 S11 _ _ h
    · rw [if_neg c38] at h
      refine ax_Tgo [.bipush 10, .iload 4, .imul, .aload_n 0] (pc' := 48) (L' := [some (.inr (12, 0)), some (.inl (.int a1)), some (.inl (.int a2)), some (.inl (.int r4)), some (.inl (.int v10))]) (st' := [.inr (12, 0), .inl (.int ((10 : Int32) * v10))]) (S' := S11) ok_X12_number.1 (by decide +kernel) rfl rfl ?_
      obtain ⟨r42, hq40, h⟩ := ax_bd_e h
      refine ax_TVi (d := 0) (ka := 12) (i := 0) [] [.inl (.int ((10 : Int32) * v10))] lk_X12_211 (by decide +kernel) rfl (by decide) rfl (Nat.le_of_ble_eq_true rfl) (Nat.le_of_ble_eq_true rfl) ((t_X12_here hq40).up (by decide)) ?_
      refine ax_Tgo [.iadd, .bipush 48, .isub, .istore 4] (pc' := 57) (L' := [some (.inr (12, 0)), some (.inl (.int a1)), some (.inl (.int a2)), some (.inl (.int r4)), some (.inl (.int ((((10 : Int32) * v10) + r42) - (48 : Int32))))]) (st' := []) (S' := S11) ok_X12_number.1 (by decide +kernel) rfl rfl ?_
      obtain ⟨v43, ev43, h⟩ := ax_let_e h
      rw [ev43]
      refine ax_Tgo [.aload_n 0, .dup, .getfield 116, .iconst 1, .iadd, .putfield 116] (pc' := 67) (L' := [some (.inr (12, 0)), some (.inl (.int a1)), some (.inl (.int a2)), some (.inl (.int r4)), some (.inl (.int v43))]) (st' := []) (S' := (ax_sfi S11 12 0 10 ((ax_fi S11 12 0 10) + (1 : Int32)))) ok_X12_number.1 (by decide +kernel) rfl rfl ?_
      obtain ⟨S44, eS44, h⟩ := ax_let_e h
      rw [eS44]
      refine ax_Tdrop [true, true, true, false, true] (L' := [some (.inr (12, 0)), some (.inl (.int a1)), some (.inl (.int a2)), none, some (.inl (.int v43))]) rfl ?_
      exact hJ18 v43 S44 _ _ h
  · rw [if_pos c9] at h
    refine ax_Tgo [.aload_n 0] (pc' := 13) (L' := [some (.inr (12, 0)), some (.inl (.int a1)), some (.inl (.int a2)), some (.inl (.int r4)), none]) (st' := [.inr (12, 0)]) (S' := S1) ok_X12_number.1 (by decide +kernel) rfl rfl ?_
    obtain ⟨r48, S45, hq46, h⟩ := ax_bu_e h
    refine ax_TVi (d := 0) (ka := 12) (i := 0) [] [] lk_X12_131 (by decide +kernel) rfl (by decide) rfl (Nat.le_of_ble_eq_true rfl) (Nat.le_of_ble_eq_true rfl) ((t_X12_fails hq46).up (by decide)) ?_
    refine ax_Tgo [.pop, .iconst 0] (pc' := 18) (L' := [some (.inr (12, 0)), some (.inl (.int a1)), some (.inl (.int a2)), some (.inl (.int r4)), none]) (st' := [.inl (.int (0 : Int32))]) (S' := S45) ok_X12_number.1 (by decide +kernel) rfl rfl ?_
    cases h
    exact ax_Treti (by decide +kernel) rfl rfl
def f_X12_readItems_52x0_64x2_L3 (K31 : Int32 → Int32 → AS → Option (AS)) : Nat → Int32 → Int32 → Int32 → AS → Option (AS)
  | 0, _, _, _, _ => none
  | n + 1, x1, x2, x3, S6 => (if ((Int32.ofNat 7) >>> ((0 : Int32) &&& 31)) ≤ x3 then K31 x1 x2 S6 else (f_X12_usual x1 x3 S6).bind (fun (r14 : Int32) => ax_gd (ax_in (x2 + x3) 42) (ax_let (ax_sai S6 52 0 (x2 + x3).toNatClampNeg r14) (fun (S16 : AS) => ax_let (x3 + (1 : Int32)) (fun (v17 : Int32) => f_X12_readItems_52x0_64x2_L3 K31 n x1 x2 v17 S16)))))
def f_X12_readItems_52x0_64x2_L45 : Nat → Int32 → Int32 → Int32 → Int32 → AS → Option (AS)
  | 0, _, _, _, _, _ => none
  | n + 1, x27, x28, x29, x30, S31 => (if x30 = (Int32.ofInt (-1)) then some S31 else (if (ax_fi S31 12 0 11) = (Int32.ofInt (-1)) then (f_X12_has x29 x30 S31).bind (fun (r37 : Int32) => (if r37 = (0 : Int32) then ax_let (x29 ||| ((1 : Int32) <<< (x30 &&& 31))) (fun (v39 : Int32) => ax_let (ax_sfi S31 12 0 10 ((ax_fi S31 12 0 10) + (1 : Int32))) (fun (S40 : AS) => (f_X12_leastOf x27 x30 S40).bind (fun (r44 : Int32) => (f_X12_mostOf x27 x30 S40).bind (fun (r48 : Int32) => ax_bu (f_X12_number r44 r48 S40) (fun (r52 : Int32) (S49 : AS) => ax_gd (ax_in (x28 + x30) 42) (ax_let (ax_sai S49 52 0 (x28 + x30).toNatClampNeg r52) (fun (S54 : AS) => (if (ax_fi S54 12 0 11) = (Int32.ofInt (-1)) then ax_bu (f_X12_look S54) (fun (r59 : Int32) (S56 : AS) => (f_X12_spotOf_64x2 r59 S56).bind (fun (r63 : Int32) => f_X12_readItems_52x0_64x2_L45 n x27 x28 v39 r63 S56)) else f_X12_readItems_52x0_64x2_L45 n x27 x28 v39 x30 S54)))))))) else ax_bu (f_X12_fails S31) (fun (r67 : Int32) (S64 : AS) => some S64))) else some S31))
def f_X12_readItems_52x0_64x2 (a1 : Int32) (a3 : Int32) (S : AS) : Option (AS) := f_X12_readItems_52x0_64x2_L3 (fun (x4 : Int32) (x5 : Int32) (S18 : AS) => ax_bu (f_X12_look S18) (fun (r22 : Int32) (S19 : AS) => (f_X12_spotOf_64x2 r22 S19).bind (fun (r26 : Int32) => f_X12_readItems_52x0_64x2_L45 ax_F x4 x5 (0 : Int32) r26 S19))) ax_F a1 a3 (0 : Int32) S
set_option maxRecDepth 100000 in
theorem t_X12_readItems_52x0_64x2_L3 {l : Launch} {K31 : Int32 → Int32 → AS → Option (AS)} (hK31 : ∀ (x4 : Int32) (x5 : Int32) (S : AS) Z, K31 x4 x5 S = some Z → ax_T l 5 ma_X12_readItems (31, [some (.inr (12, 0)), some (.inl (.int x4)), some (.inr (52, 0)), some (.inl (.int x5)), some (.inr (64, 2)), none, none], [], S) none Z) : ∀ (n : Nat) (x1 : Int32) (x2 : Int32) (x3 : Int32) (S6 : AS) Z, f_X12_readItems_52x0_64x2_L3 K31 n x1 x2 x3 S6 = some Z → ax_T l 5 ma_X12_readItems (3, [some (.inr (12, 0)), some (.inl (.int x1)), some (.inr (52, 0)), some (.inl (.int x2)), some (.inr (64, 2)), some (.inl (.int x3)), none], [], S6) none Z := by
  intro n
  induction n with
  | zero =>
    intro x1 x2 x3 S6 Z h
    cases h
  | succ n ih =>
    intro x1 x2 x3 S6 Z h
    unfold f_X12_readItems_52x0_64x2_L3 at h
    refine ax_Tgo [.iload 5, .aload 4] (pc' := 7) (L' := [some (.inr (12, 0)), some (.inl (.int x1)), some (.inr (52, 0)), some (.inl (.int x2)), some (.inr (64, 2)), some (.inl (.int x3)), none]) (st' := [.inr (64, 2), .inl (.int x3)]) (S' := S6) ok_X12_readItems.1 (by decide +kernel) rfl rfl ?_
    refine ax_TVi (d := 4) (ka := 64) (i := 2) [] [.inl (.int x3)] lk_X12_96 (by decide +kernel) rfl (by decide) rfl (Nat.le_of_ble_eq_true rfl) (Nat.le_of_ble_eq_true rfl) ((t_J0_length_8abf5_64x2 rfl).up (by decide)) ?_
    refine ax_Tic_ge (off := 21) (tgt := 31) (by decide +kernel) (by decide) (fun c10 => ?_) (fun c10 => ?_)
    · rw [if_pos c10] at h
      refine ax_Tdrop [true, true, true, true, true, false, true] (L' := [some (.inr (12, 0)), some (.inl (.int x1)), some (.inr (52, 0)), some (.inl (.int x2)), some (.inr (64, 2)), none, none]) rfl ?_
      exact hK31 x1 x2 S6 _ h
    · rw [if_neg c10] at h
      refine ax_Tgo [.aload_n 2, .iload_n 3, .iload 5, .iadd, .iload_n 1, .iload 5] (pc' := 21) (L' := [some (.inr (12, 0)), some (.inl (.int x1)), some (.inr (52, 0)), some (.inl (.int x2)), some (.inr (64, 2)), some (.inl (.int x3)), none]) (st' := [.inl (.int x3), .inl (.int x1), .inl (.int (x2 + x3)), .inr (52, 0)]) (S' := S6) ok_X12_readItems.1 (by decide +kernel) rfl rfl ?_
      obtain ⟨r14, hq12, h⟩ := ax_bd_e h
      refine ax_TSi (d := 4) [.inl (.int x1), .inl (.int x3)] [.inl (.int (x2 + x3)), .inr (52, 0)] lk_X12_218 (by decide +kernel) rfl rfl (Nat.le_of_ble_eq_true rfl) (Nat.le_of_ble_eq_true rfl) ((t_X12_usual hq12).up (by decide)) ?_
      obtain ⟨g15, h⟩ := ax_gd_e h
      refine ax_Tasi (n := 42) ok_X12_readItems.1 (by decide +kernel) (by decide) rfl g15 ?_
      obtain ⟨S16, eS16, h⟩ := ax_let_e h
      rw [eS16]
      refine ax_Tgo [.iinc 5 1] (pc' := 28) (L' := [some (.inr (12, 0)), some (.inl (.int x1)), some (.inr (52, 0)), some (.inl (.int x2)), some (.inr (64, 2)), some (.inl (.int (x3 + (1 : Int32)))), none]) (st' := []) (S' := S16) ok_X12_readItems.1 (by decide +kernel) rfl rfl ?_
      obtain ⟨v17, ev17, h⟩ := ax_let_e h
      rw [ev17]
      refine ax_Tgoto (off := (-25)) (tgt := 3) (by decide +kernel) (by decide) ?_
      exact ih x1 x2 v17 S16 _ h
set_option maxRecDepth 100000 in
theorem t_X12_readItems_52x0_64x2_L45 {l : Launch} : ∀ (n : Nat) (x27 : Int32) (x28 : Int32) (x29 : Int32) (x30 : Int32) (S31 : AS) Z, f_X12_readItems_52x0_64x2_L45 n x27 x28 x29 x30 S31 = some Z → ax_T l 5 ma_X12_readItems (45, [some (.inr (12, 0)), some (.inl (.int x27)), some (.inr (52, 0)), some (.inl (.int x28)), some (.inr (64, 2)), some (.inl (.int x29)), some (.inl (.int x30))], [], S31) none Z := by
  intro n
  induction n with
  | zero =>
    intro x27 x28 x29 x30 S31 Z h
    cases h
  | succ n ih =>
    intro x27 x28 x29 x30 S31 Z h
    unfold f_X12_readItems_52x0_64x2_L45 at h
    refine ax_Tgo [.iload 6, .iconst (-1)] (pc' := 48) (L' := [some (.inr (12, 0)), some (.inl (.int x27)), some (.inr (52, 0)), some (.inl (.int x28)), some (.inr (64, 2)), some (.inl (.int x29)), some (.inl (.int x30))]) (st' := [.inl (.int (Int32.ofInt (-1))), .inl (.int x30)]) (S' := S31) ok_X12_readItems.1 (by decide +kernel) rfl rfl ?_
    refine ax_Tic_eq (off := 90) (tgt := 138) (by decide +kernel) (by decide) (fun c32 => ?_) (fun c32 => ?_)
    · rw [if_pos c32] at h
      cases h
      exact ax_Tretv (by decide +kernel) rfl
    · rw [if_neg c32] at h
      refine ax_Tgo [.aload_n 0, .getfield 125, .iconst (-1)] (pc' := 56) (L' := [some (.inr (12, 0)), some (.inl (.int x27)), some (.inr (52, 0)), some (.inl (.int x28)), some (.inr (64, 2)), some (.inl (.int x29)), some (.inl (.int x30))]) (st' := [.inl (.int (Int32.ofInt (-1))), .inl (.int (ax_fi S31 12 0 11))]) (S' := S31) ok_X12_readItems.1 (by decide +kernel) rfl rfl ?_
      refine ax_Tic_ne (off := 82) (tgt := 138) (by decide +kernel) (by decide) (fun c33 => ?_) (fun c33 => ?_)
      · rw [if_neg c33] at h
        cases h
        exact ax_Tretv (by decide +kernel) rfl
      · rw [if_pos c33] at h
        refine ax_Tgo [.iload 5, .iload 6] (pc' := 63) (L' := [some (.inr (12, 0)), some (.inl (.int x27)), some (.inr (52, 0)), some (.inl (.int x28)), some (.inr (64, 2)), some (.inl (.int x29)), some (.inl (.int x30))]) (st' := [.inl (.int x30), .inl (.int x29)]) (S' := S31) ok_X12_readItems.1 (by decide +kernel) rfl rfl ?_
        obtain ⟨r37, hq35, h⟩ := ax_bd_e h
        refine ax_TSi (d := 4) [.inl (.int x29), .inl (.int x30)] [] lk_X12_226 (by decide +kernel) rfl rfl (Nat.le_of_ble_eq_true rfl) (Nat.le_of_ble_eq_true rfl) ((t_X12_has hq35).up (by decide)) ?_
        refine ax_Tif_eq (off := 9) (tgt := 75) (by decide +kernel) (by decide) (fun c38 => ?_) (fun c38 => ?_)
        · rw [if_pos c38] at h
          refine ax_Tgo [.iload 5, .iconst 1, .iload 6, .ishl, .ior, .istore 5] (pc' := 84) (L' := [some (.inr (12, 0)), some (.inl (.int x27)), some (.inr (52, 0)), some (.inl (.int x28)), some (.inr (64, 2)), some (.inl (.int (x29 ||| ((1 : Int32) <<< (x30 &&& 31))))), some (.inl (.int x30))]) (st' := []) (S' := S31) ok_X12_readItems.1 (by decide +kernel) rfl rfl ?_
          obtain ⟨v39, ev39, h⟩ := ax_let_e h
          rw [ev39]
          refine ax_Tgo [.aload_n 0, .dup, .getfield 116, .iconst 1, .iadd, .putfield 116] (pc' := 94) (L' := [some (.inr (12, 0)), some (.inl (.int x27)), some (.inr (52, 0)), some (.inl (.int x28)), some (.inr (64, 2)), some (.inl (.int v39)), some (.inl (.int x30))]) (st' := []) (S' := (ax_sfi S31 12 0 10 ((ax_fi S31 12 0 10) + (1 : Int32)))) ok_X12_readItems.1 (by decide +kernel) rfl rfl ?_
          obtain ⟨S40, eS40, h⟩ := ax_let_e h
          rw [eS40]
          refine ax_Tgo [.aload_n 2, .iload_n 3, .iload 6, .iadd, .aload_n 0, .iload_n 1, .iload 6] (pc' := 103) (L' := [some (.inr (12, 0)), some (.inl (.int x27)), some (.inr (52, 0)), some (.inl (.int x28)), some (.inr (64, 2)), some (.inl (.int v39)), some (.inl (.int x30))]) (st' := [.inl (.int x30), .inl (.int x27), .inr (12, 0), .inl (.int (x28 + x30)), .inr (52, 0)]) (S' := S40) ok_X12_readItems.1 (by decide +kernel) rfl rfl ?_
          obtain ⟨r44, hq42, h⟩ := ax_bd_e h
          refine ax_TSi (d := 4) [.inl (.int x27), .inl (.int x30)] [.inr (12, 0), .inl (.int (x28 + x30)), .inr (52, 0)] lk_X12_230 (by decide +kernel) rfl rfl (Nat.le_of_ble_eq_true rfl) (Nat.le_of_ble_eq_true rfl) ((t_X12_leastOf hq42).up (by decide)) ?_
          refine ax_Tgo [.iload_n 1, .iload 6] (pc' := 109) (L' := [some (.inr (12, 0)), some (.inl (.int x27)), some (.inr (52, 0)), some (.inl (.int x28)), some (.inr (64, 2)), some (.inl (.int v39)), some (.inl (.int x30))]) (st' := [.inl (.int x30), .inl (.int x27), .inl (.int r44), .inr (12, 0), .inl (.int (x28 + x30)), .inr (52, 0)]) (S' := S40) ok_X12_readItems.1 (by decide +kernel) rfl rfl ?_
          obtain ⟨r48, hq46, h⟩ := ax_bd_e h
          refine ax_TSi (d := 4) [.inl (.int x27), .inl (.int x30)] [.inl (.int r44), .inr (12, 0), .inl (.int (x28 + x30)), .inr (52, 0)] lk_X12_233 (by decide +kernel) rfl rfl (Nat.le_of_ble_eq_true rfl) (Nat.le_of_ble_eq_true rfl) ((t_X12_mostOf hq46).up (by decide)) ?_
          obtain ⟨r52, S49, hq50, h⟩ := ax_bu_e h
          refine ax_TVi (d := 4) (ka := 12) (i := 0) [.inl (.int r44), .inl (.int r48)] [.inl (.int (x28 + x30)), .inr (52, 0)] lk_X12_236 (by decide +kernel) rfl (by decide) rfl (Nat.le_of_ble_eq_true rfl) (Nat.le_of_ble_eq_true rfl) ((t_X12_number hq50).up (by decide)) ?_
          obtain ⟨g53, h⟩ := ax_gd_e h
          refine ax_Tasi (n := 42) ok_X12_readItems.1 (by decide +kernel) (by decide) rfl g53 ?_
          obtain ⟨S54, eS54, h⟩ := ax_let_e h
          rw [eS54]
          refine ax_Tgo [.aload_n 0, .getfield 125, .iconst (-1)] (pc' := 121) (L' := [some (.inr (12, 0)), some (.inl (.int x27)), some (.inr (52, 0)), some (.inl (.int x28)), some (.inr (64, 2)), some (.inl (.int v39)), some (.inl (.int x30))]) (st' := [.inl (.int (Int32.ofInt (-1))), .inl (.int (ax_fi S54 12 0 11))]) (S' := S54) ok_X12_readItems.1 (by decide +kernel) rfl rfl ?_
          refine ax_Tic_ne (off := (-76)) (tgt := 45) (by decide +kernel) (by decide) (fun c55 => ?_) (fun c55 => ?_)
          · rw [if_neg c55] at h
            exact ih x27 x28 v39 x30 S54 _ h
          · rw [if_pos c55] at h
            refine ax_Tgo [.aload 4, .aload_n 0] (pc' := 127) (L' := [some (.inr (12, 0)), some (.inl (.int x27)), some (.inr (52, 0)), some (.inl (.int x28)), some (.inr (64, 2)), some (.inl (.int v39)), some (.inl (.int x30))]) (st' := [.inr (12, 0), .inr (64, 2)]) (S' := S54) ok_X12_readItems.1 (by decide +kernel) rfl rfl ?_
            obtain ⟨r59, S56, hq57, h⟩ := ax_bu_e h
            refine ax_TVi (d := 4) (ka := 12) (i := 0) [] [.inr (64, 2)] lk_X12_135 (by decide +kernel) rfl (by decide) rfl (Nat.le_of_ble_eq_true rfl) (Nat.le_of_ble_eq_true rfl) ((t_X12_look hq57).up (by decide)) ?_
            obtain ⟨r63, hq61, h⟩ := ax_bd_e h
            refine ax_TSi (d := 4) [.inr (64, 2), .inl (.int r59)] [] lk_X12_222 (by decide +kernel) rfl rfl (Nat.le_of_ble_eq_true rfl) (Nat.le_of_ble_eq_true rfl) ((t_X12_spotOf_64x2 hq61).up (by decide)) ?_
            refine ax_Tgo [.istore 6] (pc' := 135) (L' := [some (.inr (12, 0)), some (.inl (.int x27)), some (.inr (52, 0)), some (.inl (.int x28)), some (.inr (64, 2)), some (.inl (.int v39)), some (.inl (.int r63))]) (st' := []) (S' := S56) ok_X12_readItems.1 (by decide +kernel) rfl rfl ?_
            refine ax_Tgoto (off := (-90)) (tgt := 45) (by decide +kernel) (by decide) ?_
            exact ih x27 x28 v39 r63 S56 _ h
        · rw [if_neg c38] at h
          refine ax_Tgo [.aload_n 0] (pc' := 70) (L' := [some (.inr (12, 0)), some (.inl (.int x27)), some (.inr (52, 0)), some (.inl (.int x28)), some (.inr (64, 2)), some (.inl (.int x29)), some (.inl (.int x30))]) (st' := [.inr (12, 0)]) (S' := S31) ok_X12_readItems.1 (by decide +kernel) rfl rfl ?_
          obtain ⟨r67, S64, hq65, h⟩ := ax_bu_e h
          refine ax_TVi (d := 4) (ka := 12) (i := 0) [] [] lk_X12_131 (by decide +kernel) rfl (by decide) rfl (Nat.le_of_ble_eq_true rfl) (Nat.le_of_ble_eq_true rfl) ((t_X12_fails hq65).up (by decide)) ?_
          refine ax_Tgo [.pop] (pc' := 74) (L' := [some (.inr (12, 0)), some (.inl (.int x27)), some (.inr (52, 0)), some (.inl (.int x28)), some (.inr (64, 2)), some (.inl (.int x29)), some (.inl (.int x30))]) (st' := []) (S' := S64) ok_X12_readItems.1 (by decide +kernel) rfl rfl ?_
          cases h
          exact ax_Tretv (by decide +kernel) rfl
set_option maxRecDepth 100000 in
theorem t_X12_readItems_52x0_64x2 {l : Launch} {a1 : Int32} {a3 : Int32} {S Z : AS} (h : f_X12_readItems_52x0_64x2 a1 a3 S = some Z) : ax_M l 5 ma_X12_readItems [.inr (12, 0), .inl (.int a1), .inr (52, 0), .inl (.int a3), .inr (64, 2)] S none Z := by
  unfold f_X12_readItems_52x0_64x2 at h
  show ax_T l 5 ma_X12_readItems (0, [some (.inr (12, 0)), some (.inl (.int a1)), some (.inr (52, 0)), some (.inl (.int a3)), some (.inr (64, 2)), none, none], [], S) none Z
  refine ax_Tgo [.iconst 0, .istore 5] (pc' := 3) (L' := [some (.inr (12, 0)), some (.inl (.int a1)), some (.inr (52, 0)), some (.inl (.int a3)), some (.inr (64, 2)), some (.inl (.int (0 : Int32))), none]) (st' := []) (S' := S) ok_X12_readItems.1 (by decide +kernel) rfl rfl ?_
  refine t_X12_readItems_52x0_64x2_L3 ?_ _ a1 a3 (0 : Int32) S _ h
  · intro x4 x5 S18 Z h
    refine ax_Tgo [.iconst 0, .istore 5, .aload 4, .aload_n 0] (pc' := 37) (L' := [some (.inr (12, 0)), some (.inl (.int x4)), some (.inr (52, 0)), some (.inl (.int x5)), some (.inr (64, 2)), some (.inl (.int (0 : Int32))), none]) (st' := [.inr (12, 0), .inr (64, 2)]) (S' := S18) ok_X12_readItems.1 (by decide +kernel) rfl rfl ?_
    obtain ⟨r22, S19, hq20, h⟩ := ax_bu_e h
    refine ax_TVi (d := 4) (ka := 12) (i := 0) [] [.inr (64, 2)] lk_X12_135 (by decide +kernel) rfl (by decide) rfl (Nat.le_of_ble_eq_true rfl) (Nat.le_of_ble_eq_true rfl) ((t_X12_look hq20).up (by decide)) ?_
    obtain ⟨r26, hq24, h⟩ := ax_bd_e h
    refine ax_TSi (d := 4) [.inr (64, 2), .inl (.int r22)] [] lk_X12_222 (by decide +kernel) rfl rfl (Nat.le_of_ble_eq_true rfl) (Nat.le_of_ble_eq_true rfl) ((t_X12_spotOf_64x2 hq24).up (by decide)) ?_
    refine ax_Tgo [.istore 6] (pc' := 45) (L' := [some (.inr (12, 0)), some (.inl (.int x4)), some (.inr (52, 0)), some (.inl (.int x5)), some (.inr (64, 2)), some (.inl (.int (0 : Int32))), some (.inl (.int r26))]) (st' := []) (S' := S19) ok_X12_readItems.1 (by decide +kernel) rfl rfl ?_
    refine t_X12_readItems_52x0_64x2_L45 _ x4 x5 (0 : Int32) r26 S19 _ h
def f_J0_charAt_5068e_64x1 (a1 : Int32) (S : AS) : Option (Int32) := (f_J1_charAt_3b067_65 1 a1 S).bind (fun (r8 : Int32) => ax_gd (ax_nc r8) (some r8))
set_option maxRecDepth 100000 in
theorem t_J0_charAt_5068e_64x1 {l : Launch} {a1 : Int32} {S : AS} {r : Int32} (h : f_J0_charAt_5068e_64x1 a1 S = some r) : ax_M l 3 ma_J0_charAt_5068e [.inr (64, 1), .inl (.int a1)] S (some (.inl (.int r))) S := by
  unfold f_J0_charAt_5068e_64x1 at h
  show ax_T l 3 ma_J0_charAt_5068e (0, [some (.inr (64, 1)), some (.inl (.int a1))], [], S) (some (.inl (.int r))) S
  refine ax_Tgo [.aload_n 0] (pc' := 1) (L' := [some (.inr (64, 1)), some (.inl (.int a1))]) (st' := [.inr (64, 1)]) (S' := S) ok_J0_charAt_5068e.1 (by decide +kernel) rfl rfl ?_
  refine ax_TVi (d := 2) (ka := 64) (i := 1) [] [] lk_J0_492 (by decide +kernel) rfl (by decide) rfl (Nat.le_of_ble_eq_true rfl) (Nat.le_of_ble_eq_true rfl) ((t_J0_isLatin1_aae02_64x1 rfl).up (by decide)) ?_
  refine ax_Tif_eq (off := 12) (tgt := 16) (by decide +kernel) (by decide) (fun c4 => absurd c4 (by decide)) (fun _ => ?_)
  refine ax_Tgo [.aload_n 0, .getfield 9, .iload_n 1] (pc' := 12) (L' := [some (.inr (64, 1)), some (.inl (.int a1))]) (st' := [.inl (.int a1), .inr (65, 1)]) (S' := S) ok_J0_charAt_5068e.1 (by decide +kernel) rfl rfl ?_
  obtain ⟨r8, hq6, h⟩ := ax_bd_e h
  refine ax_TSi (d := 2) [.inr (65, 1), .inl (.int a1)] [] lk_J0_495 (by decide +kernel) rfl rfl (Nat.le_of_ble_eq_true rfl) (Nat.le_of_ble_eq_true rfl) ((t_J1_charAt_3b067_65 hq6).up (by decide)) ?_
  obtain ⟨g9, h⟩ := ax_gd_e h
  cases h
  exact ax_Treti (by decide +kernel) rfl (ax_nc_e g9)
def f_X12_spotOf_64x1_L2 (S : AS) : Nat → Int32 → Int32 → Option (Int32)
  | 0, _, _ => none
  | n + 1, x1, x2 => (if ((Int32.ofNat 2) >>> ((0 : Int32) &&& 31)) ≤ x2 then some (Int32.ofInt (-1)) else (f_J0_charAt_5068e_64x1 x2 S).bind (fun (r10 : Int32) => (if r10 = x1 then some x2 else ax_let (x2 + (1 : Int32)) (fun (v12 : Int32) => f_X12_spotOf_64x1_L2 S n x1 v12))))
def f_X12_spotOf_64x1 (a1 : Int32) (S : AS) : Option (Int32) := f_X12_spotOf_64x1_L2 S ax_F a1 (0 : Int32)
set_option maxRecDepth 100000 in
theorem t_X12_spotOf_64x1_L2 {l : Launch} {S : AS} : ∀ (n : Nat) (x1 : Int32) (x2 : Int32) r, f_X12_spotOf_64x1_L2 S n x1 x2  = some r → ax_T l 4 ma_X12_spotOf (2, [some (.inr (64, 1)), some (.inl (.int x1)), some (.inl (.int x2))], [], S) (some (.inl (.int r))) S := by
  intro n
  induction n with
  | zero =>
    intro x1 x2  r h
    cases h
  | succ n ih =>
    intro x1 x2  r h
    unfold f_X12_spotOf_64x1_L2 at h
    refine ax_Tgo [.iload_n 2, .aload_n 0] (pc' := 4) (L' := [some (.inr (64, 1)), some (.inl (.int x1)), some (.inl (.int x2))]) (st' := [.inr (64, 1), .inl (.int x2)]) (S' := S) ok_X12_spotOf.1 (by decide +kernel) rfl rfl ?_
    refine ax_TVi (d := 3) (ka := 64) (i := 1) [] [.inl (.int x2)] lk_X12_96 (by decide +kernel) rfl (by decide) rfl (Nat.le_of_ble_eq_true rfl) (Nat.le_of_ble_eq_true rfl) ((t_J0_length_8abf5_64x1 rfl).up (by decide)) ?_
    refine ax_Tic_ge (off := 20) (tgt := 27) (by decide +kernel) (by decide) (fun c6 => ?_) (fun c6 => ?_)
    · rw [if_pos c6] at h
      refine ax_Tgo [.iconst (-1)] (pc' := 28) (L' := [some (.inr (64, 1)), some (.inl (.int x1)), some (.inl (.int x2))]) (st' := [.inl (.int (Int32.ofInt (-1)))]) (S' := S) ok_X12_spotOf.1 (by decide +kernel) rfl rfl ?_
      cases h
      exact ax_Treti (by decide +kernel) rfl rfl
    · rw [if_neg c6] at h
      refine ax_Tgo [.aload_n 0, .iload_n 2] (pc' := 12) (L' := [some (.inr (64, 1)), some (.inl (.int x1)), some (.inl (.int x2))]) (st' := [.inl (.int x2), .inr (64, 1)]) (S' := S) ok_X12_spotOf.1 (by decide +kernel) rfl rfl ?_
      obtain ⟨r10, hq8, h⟩ := ax_bd_e h
      refine ax_TVi (d := 3) (ka := 64) (i := 1) [.inl (.int x2)] [] lk_X12_102 (by decide +kernel) rfl (by decide) rfl (Nat.le_of_ble_eq_true rfl) (Nat.le_of_ble_eq_true rfl) ((t_J0_charAt_5068e_64x1 hq8).up (by decide)) ?_
      refine ax_Tgo [.iload_n 1] (pc' := 16) (L' := [some (.inr (64, 1)), some (.inl (.int x1)), some (.inl (.int x2))]) (st' := [.inl (.int x1), .inl (.int r10)]) (S' := S) ok_X12_spotOf.1 (by decide +kernel) rfl rfl ?_
      refine ax_Tic_ne (off := 5) (tgt := 21) (by decide +kernel) (by decide) (fun c11 => ?_) (fun c11 => ?_)
      · rw [if_neg c11] at h
        refine ax_Tgo [.iinc 2 1] (pc' := 24) (L' := [some (.inr (64, 1)), some (.inl (.int x1)), some (.inl (.int (x2 + (1 : Int32))))]) (st' := []) (S' := S) ok_X12_spotOf.1 (by decide +kernel) rfl rfl ?_
        obtain ⟨v12, ev12, h⟩ := ax_let_e h
        rw [ev12]
        refine ax_Tgoto (off := (-22)) (tgt := 2) (by decide +kernel) (by decide) ?_
        exact ih x1 v12 _ h
      · rw [if_pos c11] at h
        refine ax_Tgo [.iload_n 2] (pc' := 20) (L' := [some (.inr (64, 1)), some (.inl (.int x1)), some (.inl (.int x2))]) (st' := [.inl (.int x2)]) (S' := S) ok_X12_spotOf.1 (by decide +kernel) rfl rfl ?_
        cases h
        exact ax_Treti (by decide +kernel) rfl rfl
set_option maxRecDepth 100000 in
theorem t_X12_spotOf_64x1 {l : Launch} {a1 : Int32} {S : AS} {r : Int32} (h : f_X12_spotOf_64x1 a1 S = some r) : ax_M l 4 ma_X12_spotOf [.inr (64, 1), .inl (.int a1)] S (some (.inl (.int r))) S := by
  unfold f_X12_spotOf_64x1 at h
  show ax_T l 4 ma_X12_spotOf (0, [some (.inr (64, 1)), some (.inl (.int a1)), none], [], S) (some (.inl (.int r))) S
  refine ax_Tgo [.iconst 0, .istore_n 2] (pc' := 2) (L' := [some (.inr (64, 1)), some (.inl (.int a1)), some (.inl (.int (0 : Int32)))]) (st' := []) (S' := S) ok_X12_spotOf.1 (by decide +kernel) rfl rfl ?_
  refine t_X12_spotOf_64x1_L2 _ a1 (0 : Int32) _ h
def f_X12_readItems_50x0_64x1_L3 (K31 : Int32 → Int32 → AS → Option (AS)) : Nat → Int32 → Int32 → Int32 → AS → Option (AS)
  | 0, _, _, _, _ => none
  | n + 1, x1, x2, x3, S6 => (if ((Int32.ofNat 2) >>> ((0 : Int32) &&& 31)) ≤ x3 then K31 x1 x2 S6 else (f_X12_usual x1 x3 S6).bind (fun (r14 : Int32) => ax_gd (ax_in (x2 + x3) 8) (ax_let (ax_sai S6 50 0 (x2 + x3).toNatClampNeg r14) (fun (S16 : AS) => ax_let (x3 + (1 : Int32)) (fun (v17 : Int32) => f_X12_readItems_50x0_64x1_L3 K31 n x1 x2 v17 S16)))))
def f_X12_readItems_50x0_64x1_L45 : Nat → Int32 → Int32 → Int32 → Int32 → AS → Option (AS)
  | 0, _, _, _, _, _ => none
  | n + 1, x27, x28, x29, x30, S31 => (if x30 = (Int32.ofInt (-1)) then some S31 else (if (ax_fi S31 12 0 11) = (Int32.ofInt (-1)) then (f_X12_has x29 x30 S31).bind (fun (r37 : Int32) => (if r37 = (0 : Int32) then ax_let (x29 ||| ((1 : Int32) <<< (x30 &&& 31))) (fun (v39 : Int32) => ax_let (ax_sfi S31 12 0 10 ((ax_fi S31 12 0 10) + (1 : Int32))) (fun (S40 : AS) => (f_X12_leastOf x27 x30 S40).bind (fun (r44 : Int32) => (f_X12_mostOf x27 x30 S40).bind (fun (r48 : Int32) => ax_bu (f_X12_number r44 r48 S40) (fun (r52 : Int32) (S49 : AS) => ax_gd (ax_in (x28 + x30) 8) (ax_let (ax_sai S49 50 0 (x28 + x30).toNatClampNeg r52) (fun (S54 : AS) => (if (ax_fi S54 12 0 11) = (Int32.ofInt (-1)) then ax_bu (f_X12_look S54) (fun (r59 : Int32) (S56 : AS) => (f_X12_spotOf_64x1 r59 S56).bind (fun (r63 : Int32) => f_X12_readItems_50x0_64x1_L45 n x27 x28 v39 r63 S56)) else f_X12_readItems_50x0_64x1_L45 n x27 x28 v39 x30 S54)))))))) else ax_bu (f_X12_fails S31) (fun (r67 : Int32) (S64 : AS) => some S64))) else some S31))
def f_X12_readItems_50x0_64x1 (a1 : Int32) (a3 : Int32) (S : AS) : Option (AS) := f_X12_readItems_50x0_64x1_L3 (fun (x4 : Int32) (x5 : Int32) (S18 : AS) => ax_bu (f_X12_look S18) (fun (r22 : Int32) (S19 : AS) => (f_X12_spotOf_64x1 r22 S19).bind (fun (r26 : Int32) => f_X12_readItems_50x0_64x1_L45 ax_F x4 x5 (0 : Int32) r26 S19))) ax_F a1 a3 (0 : Int32) S
set_option maxRecDepth 100000 in
theorem t_X12_readItems_50x0_64x1_L3 {l : Launch} {K31 : Int32 → Int32 → AS → Option (AS)} (hK31 : ∀ (x4 : Int32) (x5 : Int32) (S : AS) Z, K31 x4 x5 S = some Z → ax_T l 5 ma_X12_readItems (31, [some (.inr (12, 0)), some (.inl (.int x4)), some (.inr (50, 0)), some (.inl (.int x5)), some (.inr (64, 1)), none, none], [], S) none Z) : ∀ (n : Nat) (x1 : Int32) (x2 : Int32) (x3 : Int32) (S6 : AS) Z, f_X12_readItems_50x0_64x1_L3 K31 n x1 x2 x3 S6 = some Z → ax_T l 5 ma_X12_readItems (3, [some (.inr (12, 0)), some (.inl (.int x1)), some (.inr (50, 0)), some (.inl (.int x2)), some (.inr (64, 1)), some (.inl (.int x3)), none], [], S6) none Z := by
  intro n
  induction n with
  | zero =>
    intro x1 x2 x3 S6 Z h
    cases h
  | succ n ih =>
    intro x1 x2 x3 S6 Z h
    unfold f_X12_readItems_50x0_64x1_L3 at h
    refine ax_Tgo [.iload 5, .aload 4] (pc' := 7) (L' := [some (.inr (12, 0)), some (.inl (.int x1)), some (.inr (50, 0)), some (.inl (.int x2)), some (.inr (64, 1)), some (.inl (.int x3)), none]) (st' := [.inr (64, 1), .inl (.int x3)]) (S' := S6) ok_X12_readItems.1 (by decide +kernel) rfl rfl ?_
    refine ax_TVi (d := 4) (ka := 64) (i := 1) [] [.inl (.int x3)] lk_X12_96 (by decide +kernel) rfl (by decide) rfl (Nat.le_of_ble_eq_true rfl) (Nat.le_of_ble_eq_true rfl) ((t_J0_length_8abf5_64x1 rfl).up (by decide)) ?_
    refine ax_Tic_ge (off := 21) (tgt := 31) (by decide +kernel) (by decide) (fun c10 => ?_) (fun c10 => ?_)
    · rw [if_pos c10] at h
      refine ax_Tdrop [true, true, true, true, true, false, true] (L' := [some (.inr (12, 0)), some (.inl (.int x1)), some (.inr (50, 0)), some (.inl (.int x2)), some (.inr (64, 1)), none, none]) rfl ?_
      exact hK31 x1 x2 S6 _ h
    · rw [if_neg c10] at h
      refine ax_Tgo [.aload_n 2, .iload_n 3, .iload 5, .iadd, .iload_n 1, .iload 5] (pc' := 21) (L' := [some (.inr (12, 0)), some (.inl (.int x1)), some (.inr (50, 0)), some (.inl (.int x2)), some (.inr (64, 1)), some (.inl (.int x3)), none]) (st' := [.inl (.int x3), .inl (.int x1), .inl (.int (x2 + x3)), .inr (50, 0)]) (S' := S6) ok_X12_readItems.1 (by decide +kernel) rfl rfl ?_
      obtain ⟨r14, hq12, h⟩ := ax_bd_e h
      refine ax_TSi (d := 4) [.inl (.int x1), .inl (.int x3)] [.inl (.int (x2 + x3)), .inr (50, 0)] lk_X12_218 (by decide +kernel) rfl rfl (Nat.le_of_ble_eq_true rfl) (Nat.le_of_ble_eq_true rfl) ((t_X12_usual hq12).up (by decide)) ?_
      obtain ⟨g15, h⟩ := ax_gd_e h
      refine ax_Tasi (n := 8) ok_X12_readItems.1 (by decide +kernel) (by decide) rfl g15 ?_
      obtain ⟨S16, eS16, h⟩ := ax_let_e h
      rw [eS16]
      refine ax_Tgo [.iinc 5 1] (pc' := 28) (L' := [some (.inr (12, 0)), some (.inl (.int x1)), some (.inr (50, 0)), some (.inl (.int x2)), some (.inr (64, 1)), some (.inl (.int (x3 + (1 : Int32)))), none]) (st' := []) (S' := S16) ok_X12_readItems.1 (by decide +kernel) rfl rfl ?_
      obtain ⟨v17, ev17, h⟩ := ax_let_e h
      rw [ev17]
      refine ax_Tgoto (off := (-25)) (tgt := 3) (by decide +kernel) (by decide) ?_
      exact ih x1 x2 v17 S16 _ h
set_option maxRecDepth 100000 in
theorem t_X12_readItems_50x0_64x1_L45 {l : Launch} : ∀ (n : Nat) (x27 : Int32) (x28 : Int32) (x29 : Int32) (x30 : Int32) (S31 : AS) Z, f_X12_readItems_50x0_64x1_L45 n x27 x28 x29 x30 S31 = some Z → ax_T l 5 ma_X12_readItems (45, [some (.inr (12, 0)), some (.inl (.int x27)), some (.inr (50, 0)), some (.inl (.int x28)), some (.inr (64, 1)), some (.inl (.int x29)), some (.inl (.int x30))], [], S31) none Z := by
  intro n
  induction n with
  | zero =>
    intro x27 x28 x29 x30 S31 Z h
    cases h
  | succ n ih =>
    intro x27 x28 x29 x30 S31 Z h
    unfold f_X12_readItems_50x0_64x1_L45 at h
    refine ax_Tgo [.iload 6, .iconst (-1)] (pc' := 48) (L' := [some (.inr (12, 0)), some (.inl (.int x27)), some (.inr (50, 0)), some (.inl (.int x28)), some (.inr (64, 1)), some (.inl (.int x29)), some (.inl (.int x30))]) (st' := [.inl (.int (Int32.ofInt (-1))), .inl (.int x30)]) (S' := S31) ok_X12_readItems.1 (by decide +kernel) rfl rfl ?_
    refine ax_Tic_eq (off := 90) (tgt := 138) (by decide +kernel) (by decide) (fun c32 => ?_) (fun c32 => ?_)
    · rw [if_pos c32] at h
      cases h
      exact ax_Tretv (by decide +kernel) rfl
    · rw [if_neg c32] at h
      refine ax_Tgo [.aload_n 0, .getfield 125, .iconst (-1)] (pc' := 56) (L' := [some (.inr (12, 0)), some (.inl (.int x27)), some (.inr (50, 0)), some (.inl (.int x28)), some (.inr (64, 1)), some (.inl (.int x29)), some (.inl (.int x30))]) (st' := [.inl (.int (Int32.ofInt (-1))), .inl (.int (ax_fi S31 12 0 11))]) (S' := S31) ok_X12_readItems.1 (by decide +kernel) rfl rfl ?_
      refine ax_Tic_ne (off := 82) (tgt := 138) (by decide +kernel) (by decide) (fun c33 => ?_) (fun c33 => ?_)
      · rw [if_neg c33] at h
        cases h
        exact ax_Tretv (by decide +kernel) rfl
      · rw [if_pos c33] at h
        refine ax_Tgo [.iload 5, .iload 6] (pc' := 63) (L' := [some (.inr (12, 0)), some (.inl (.int x27)), some (.inr (50, 0)), some (.inl (.int x28)), some (.inr (64, 1)), some (.inl (.int x29)), some (.inl (.int x30))]) (st' := [.inl (.int x30), .inl (.int x29)]) (S' := S31) ok_X12_readItems.1 (by decide +kernel) rfl rfl ?_
        obtain ⟨r37, hq35, h⟩ := ax_bd_e h
        refine ax_TSi (d := 4) [.inl (.int x29), .inl (.int x30)] [] lk_X12_226 (by decide +kernel) rfl rfl (Nat.le_of_ble_eq_true rfl) (Nat.le_of_ble_eq_true rfl) ((t_X12_has hq35).up (by decide)) ?_
        refine ax_Tif_eq (off := 9) (tgt := 75) (by decide +kernel) (by decide) (fun c38 => ?_) (fun c38 => ?_)
        · rw [if_pos c38] at h
          refine ax_Tgo [.iload 5, .iconst 1, .iload 6, .ishl, .ior, .istore 5] (pc' := 84) (L' := [some (.inr (12, 0)), some (.inl (.int x27)), some (.inr (50, 0)), some (.inl (.int x28)), some (.inr (64, 1)), some (.inl (.int (x29 ||| ((1 : Int32) <<< (x30 &&& 31))))), some (.inl (.int x30))]) (st' := []) (S' := S31) ok_X12_readItems.1 (by decide +kernel) rfl rfl ?_
          obtain ⟨v39, ev39, h⟩ := ax_let_e h
          rw [ev39]
          refine ax_Tgo [.aload_n 0, .dup, .getfield 116, .iconst 1, .iadd, .putfield 116] (pc' := 94) (L' := [some (.inr (12, 0)), some (.inl (.int x27)), some (.inr (50, 0)), some (.inl (.int x28)), some (.inr (64, 1)), some (.inl (.int v39)), some (.inl (.int x30))]) (st' := []) (S' := (ax_sfi S31 12 0 10 ((ax_fi S31 12 0 10) + (1 : Int32)))) ok_X12_readItems.1 (by decide +kernel) rfl rfl ?_
          obtain ⟨S40, eS40, h⟩ := ax_let_e h
          rw [eS40]
          refine ax_Tgo [.aload_n 2, .iload_n 3, .iload 6, .iadd, .aload_n 0, .iload_n 1, .iload 6] (pc' := 103) (L' := [some (.inr (12, 0)), some (.inl (.int x27)), some (.inr (50, 0)), some (.inl (.int x28)), some (.inr (64, 1)), some (.inl (.int v39)), some (.inl (.int x30))]) (st' := [.inl (.int x30), .inl (.int x27), .inr (12, 0), .inl (.int (x28 + x30)), .inr (50, 0)]) (S' := S40) ok_X12_readItems.1 (by decide +kernel) rfl rfl ?_
          obtain ⟨r44, hq42, h⟩ := ax_bd_e h
          refine ax_TSi (d := 4) [.inl (.int x27), .inl (.int x30)] [.inr (12, 0), .inl (.int (x28 + x30)), .inr (50, 0)] lk_X12_230 (by decide +kernel) rfl rfl (Nat.le_of_ble_eq_true rfl) (Nat.le_of_ble_eq_true rfl) ((t_X12_leastOf hq42).up (by decide)) ?_
          refine ax_Tgo [.iload_n 1, .iload 6] (pc' := 109) (L' := [some (.inr (12, 0)), some (.inl (.int x27)), some (.inr (50, 0)), some (.inl (.int x28)), some (.inr (64, 1)), some (.inl (.int v39)), some (.inl (.int x30))]) (st' := [.inl (.int x30), .inl (.int x27), .inl (.int r44), .inr (12, 0), .inl (.int (x28 + x30)), .inr (50, 0)]) (S' := S40) ok_X12_readItems.1 (by decide +kernel) rfl rfl ?_
          obtain ⟨r48, hq46, h⟩ := ax_bd_e h
          refine ax_TSi (d := 4) [.inl (.int x27), .inl (.int x30)] [.inl (.int r44), .inr (12, 0), .inl (.int (x28 + x30)), .inr (50, 0)] lk_X12_233 (by decide +kernel) rfl rfl (Nat.le_of_ble_eq_true rfl) (Nat.le_of_ble_eq_true rfl) ((t_X12_mostOf hq46).up (by decide)) ?_
          obtain ⟨r52, S49, hq50, h⟩ := ax_bu_e h
          refine ax_TVi (d := 4) (ka := 12) (i := 0) [.inl (.int r44), .inl (.int r48)] [.inl (.int (x28 + x30)), .inr (50, 0)] lk_X12_236 (by decide +kernel) rfl (by decide) rfl (Nat.le_of_ble_eq_true rfl) (Nat.le_of_ble_eq_true rfl) ((t_X12_number hq50).up (by decide)) ?_
          obtain ⟨g53, h⟩ := ax_gd_e h
          refine ax_Tasi (n := 8) ok_X12_readItems.1 (by decide +kernel) (by decide) rfl g53 ?_
          obtain ⟨S54, eS54, h⟩ := ax_let_e h
          rw [eS54]
          refine ax_Tgo [.aload_n 0, .getfield 125, .iconst (-1)] (pc' := 121) (L' := [some (.inr (12, 0)), some (.inl (.int x27)), some (.inr (50, 0)), some (.inl (.int x28)), some (.inr (64, 1)), some (.inl (.int v39)), some (.inl (.int x30))]) (st' := [.inl (.int (Int32.ofInt (-1))), .inl (.int (ax_fi S54 12 0 11))]) (S' := S54) ok_X12_readItems.1 (by decide +kernel) rfl rfl ?_
          refine ax_Tic_ne (off := (-76)) (tgt := 45) (by decide +kernel) (by decide) (fun c55 => ?_) (fun c55 => ?_)
          · rw [if_neg c55] at h
            exact ih x27 x28 v39 x30 S54 _ h
          · rw [if_pos c55] at h
            refine ax_Tgo [.aload 4, .aload_n 0] (pc' := 127) (L' := [some (.inr (12, 0)), some (.inl (.int x27)), some (.inr (50, 0)), some (.inl (.int x28)), some (.inr (64, 1)), some (.inl (.int v39)), some (.inl (.int x30))]) (st' := [.inr (12, 0), .inr (64, 1)]) (S' := S54) ok_X12_readItems.1 (by decide +kernel) rfl rfl ?_
            obtain ⟨r59, S56, hq57, h⟩ := ax_bu_e h
            refine ax_TVi (d := 4) (ka := 12) (i := 0) [] [.inr (64, 1)] lk_X12_135 (by decide +kernel) rfl (by decide) rfl (Nat.le_of_ble_eq_true rfl) (Nat.le_of_ble_eq_true rfl) ((t_X12_look hq57).up (by decide)) ?_
            obtain ⟨r63, hq61, h⟩ := ax_bd_e h
            refine ax_TSi (d := 4) [.inr (64, 1), .inl (.int r59)] [] lk_X12_222 (by decide +kernel) rfl rfl (Nat.le_of_ble_eq_true rfl) (Nat.le_of_ble_eq_true rfl) ((t_X12_spotOf_64x1 hq61).up (by decide)) ?_
            refine ax_Tgo [.istore 6] (pc' := 135) (L' := [some (.inr (12, 0)), some (.inl (.int x27)), some (.inr (50, 0)), some (.inl (.int x28)), some (.inr (64, 1)), some (.inl (.int v39)), some (.inl (.int r63))]) (st' := []) (S' := S56) ok_X12_readItems.1 (by decide +kernel) rfl rfl ?_
            refine ax_Tgoto (off := (-90)) (tgt := 45) (by decide +kernel) (by decide) ?_
            exact ih x27 x28 v39 r63 S56 _ h
        · rw [if_neg c38] at h
          refine ax_Tgo [.aload_n 0] (pc' := 70) (L' := [some (.inr (12, 0)), some (.inl (.int x27)), some (.inr (50, 0)), some (.inl (.int x28)), some (.inr (64, 1)), some (.inl (.int x29)), some (.inl (.int x30))]) (st' := [.inr (12, 0)]) (S' := S31) ok_X12_readItems.1 (by decide +kernel) rfl rfl ?_
          obtain ⟨r67, S64, hq65, h⟩ := ax_bu_e h
          refine ax_TVi (d := 4) (ka := 12) (i := 0) [] [] lk_X12_131 (by decide +kernel) rfl (by decide) rfl (Nat.le_of_ble_eq_true rfl) (Nat.le_of_ble_eq_true rfl) ((t_X12_fails hq65).up (by decide)) ?_
          refine ax_Tgo [.pop] (pc' := 74) (L' := [some (.inr (12, 0)), some (.inl (.int x27)), some (.inr (50, 0)), some (.inl (.int x28)), some (.inr (64, 1)), some (.inl (.int x29)), some (.inl (.int x30))]) (st' := []) (S' := S64) ok_X12_readItems.1 (by decide +kernel) rfl rfl ?_
          cases h
          exact ax_Tretv (by decide +kernel) rfl
set_option maxRecDepth 100000 in
theorem t_X12_readItems_50x0_64x1 {l : Launch} {a1 : Int32} {a3 : Int32} {S Z : AS} (h : f_X12_readItems_50x0_64x1 a1 a3 S = some Z) : ax_M l 5 ma_X12_readItems [.inr (12, 0), .inl (.int a1), .inr (50, 0), .inl (.int a3), .inr (64, 1)] S none Z := by
  unfold f_X12_readItems_50x0_64x1 at h
  show ax_T l 5 ma_X12_readItems (0, [some (.inr (12, 0)), some (.inl (.int a1)), some (.inr (50, 0)), some (.inl (.int a3)), some (.inr (64, 1)), none, none], [], S) none Z
  refine ax_Tgo [.iconst 0, .istore 5] (pc' := 3) (L' := [some (.inr (12, 0)), some (.inl (.int a1)), some (.inr (50, 0)), some (.inl (.int a3)), some (.inr (64, 1)), some (.inl (.int (0 : Int32))), none]) (st' := []) (S' := S) ok_X12_readItems.1 (by decide +kernel) rfl rfl ?_
  refine t_X12_readItems_50x0_64x1_L3 ?_ _ a1 a3 (0 : Int32) S _ h
  · intro x4 x5 S18 Z h
    refine ax_Tgo [.iconst 0, .istore 5, .aload 4, .aload_n 0] (pc' := 37) (L' := [some (.inr (12, 0)), some (.inl (.int x4)), some (.inr (50, 0)), some (.inl (.int x5)), some (.inr (64, 1)), some (.inl (.int (0 : Int32))), none]) (st' := [.inr (12, 0), .inr (64, 1)]) (S' := S18) ok_X12_readItems.1 (by decide +kernel) rfl rfl ?_
    obtain ⟨r22, S19, hq20, h⟩ := ax_bu_e h
    refine ax_TVi (d := 4) (ka := 12) (i := 0) [] [.inr (64, 1)] lk_X12_135 (by decide +kernel) rfl (by decide) rfl (Nat.le_of_ble_eq_true rfl) (Nat.le_of_ble_eq_true rfl) ((t_X12_look hq20).up (by decide)) ?_
    obtain ⟨r26, hq24, h⟩ := ax_bd_e h
    refine ax_TSi (d := 4) [.inr (64, 1), .inl (.int r22)] [] lk_X12_222 (by decide +kernel) rfl rfl (Nat.le_of_ble_eq_true rfl) (Nat.le_of_ble_eq_true rfl) ((t_X12_spotOf_64x1 hq24).up (by decide)) ?_
    refine ax_Tgo [.istore 6] (pc' := 45) (L' := [some (.inr (12, 0)), some (.inl (.int x4)), some (.inr (50, 0)), some (.inl (.int x5)), some (.inr (64, 1)), some (.inl (.int (0 : Int32))), some (.inl (.int r26))]) (st' := []) (S' := S19) ok_X12_readItems.1 (by decide +kernel) rfl rfl ?_
    refine t_X12_readItems_50x0_64x1_L45 _ x4 x5 (0 : Int32) r26 S19 _ h
def f_J0_charAt_5068e_64x0 (a1 : Int32) (S : AS) : Option (Int32) := (f_J1_charAt_3b067_65 0 a1 S).bind (fun (r8 : Int32) => ax_gd (ax_nc r8) (some r8))
set_option maxRecDepth 100000 in
theorem t_J0_charAt_5068e_64x0 {l : Launch} {a1 : Int32} {S : AS} {r : Int32} (h : f_J0_charAt_5068e_64x0 a1 S = some r) : ax_M l 3 ma_J0_charAt_5068e [.inr (64, 0), .inl (.int a1)] S (some (.inl (.int r))) S := by
  unfold f_J0_charAt_5068e_64x0 at h
  show ax_T l 3 ma_J0_charAt_5068e (0, [some (.inr (64, 0)), some (.inl (.int a1))], [], S) (some (.inl (.int r))) S
  refine ax_Tgo [.aload_n 0] (pc' := 1) (L' := [some (.inr (64, 0)), some (.inl (.int a1))]) (st' := [.inr (64, 0)]) (S' := S) ok_J0_charAt_5068e.1 (by decide +kernel) rfl rfl ?_
  refine ax_TVi (d := 2) (ka := 64) (i := 0) [] [] lk_J0_492 (by decide +kernel) rfl (by decide) rfl (Nat.le_of_ble_eq_true rfl) (Nat.le_of_ble_eq_true rfl) ((t_J0_isLatin1_aae02_64x0 rfl).up (by decide)) ?_
  refine ax_Tif_eq (off := 12) (tgt := 16) (by decide +kernel) (by decide) (fun c4 => absurd c4 (by decide)) (fun _ => ?_)
  refine ax_Tgo [.aload_n 0, .getfield 9, .iload_n 1] (pc' := 12) (L' := [some (.inr (64, 0)), some (.inl (.int a1))]) (st' := [.inl (.int a1), .inr (65, 0)]) (S' := S) ok_J0_charAt_5068e.1 (by decide +kernel) rfl rfl ?_
  obtain ⟨r8, hq6, h⟩ := ax_bd_e h
  refine ax_TSi (d := 2) [.inr (65, 0), .inl (.int a1)] [] lk_J0_495 (by decide +kernel) rfl rfl (Nat.le_of_ble_eq_true rfl) (Nat.le_of_ble_eq_true rfl) ((t_J1_charAt_3b067_65 hq6).up (by decide)) ?_
  obtain ⟨g9, h⟩ := ax_gd_e h
  cases h
  exact ax_Treti (by decide +kernel) rfl (ax_nc_e g9)
def f_X12_spotOf_64x0_L2 (S : AS) : Nat → Int32 → Int32 → Option (Int32)
  | 0, _, _ => none
  | n + 1, x1, x2 => (if ((Int32.ofNat 3) >>> ((0 : Int32) &&& 31)) ≤ x2 then some (Int32.ofInt (-1)) else (f_J0_charAt_5068e_64x0 x2 S).bind (fun (r10 : Int32) => (if r10 = x1 then some x2 else ax_let (x2 + (1 : Int32)) (fun (v12 : Int32) => f_X12_spotOf_64x0_L2 S n x1 v12))))
def f_X12_spotOf_64x0 (a1 : Int32) (S : AS) : Option (Int32) := f_X12_spotOf_64x0_L2 S ax_F a1 (0 : Int32)
set_option maxRecDepth 100000 in
theorem t_X12_spotOf_64x0_L2 {l : Launch} {S : AS} : ∀ (n : Nat) (x1 : Int32) (x2 : Int32) r, f_X12_spotOf_64x0_L2 S n x1 x2  = some r → ax_T l 4 ma_X12_spotOf (2, [some (.inr (64, 0)), some (.inl (.int x1)), some (.inl (.int x2))], [], S) (some (.inl (.int r))) S := by
  intro n
  induction n with
  | zero =>
    intro x1 x2  r h
    cases h
  | succ n ih =>
    intro x1 x2  r h
    unfold f_X12_spotOf_64x0_L2 at h
    refine ax_Tgo [.iload_n 2, .aload_n 0] (pc' := 4) (L' := [some (.inr (64, 0)), some (.inl (.int x1)), some (.inl (.int x2))]) (st' := [.inr (64, 0), .inl (.int x2)]) (S' := S) ok_X12_spotOf.1 (by decide +kernel) rfl rfl ?_
    refine ax_TVi (d := 3) (ka := 64) (i := 0) [] [.inl (.int x2)] lk_X12_96 (by decide +kernel) rfl (by decide) rfl (Nat.le_of_ble_eq_true rfl) (Nat.le_of_ble_eq_true rfl) ((t_J0_length_8abf5_64x0 rfl).up (by decide)) ?_
    refine ax_Tic_ge (off := 20) (tgt := 27) (by decide +kernel) (by decide) (fun c6 => ?_) (fun c6 => ?_)
    · rw [if_pos c6] at h
      refine ax_Tgo [.iconst (-1)] (pc' := 28) (L' := [some (.inr (64, 0)), some (.inl (.int x1)), some (.inl (.int x2))]) (st' := [.inl (.int (Int32.ofInt (-1)))]) (S' := S) ok_X12_spotOf.1 (by decide +kernel) rfl rfl ?_
      cases h
      exact ax_Treti (by decide +kernel) rfl rfl
    · rw [if_neg c6] at h
      refine ax_Tgo [.aload_n 0, .iload_n 2] (pc' := 12) (L' := [some (.inr (64, 0)), some (.inl (.int x1)), some (.inl (.int x2))]) (st' := [.inl (.int x2), .inr (64, 0)]) (S' := S) ok_X12_spotOf.1 (by decide +kernel) rfl rfl ?_
      obtain ⟨r10, hq8, h⟩ := ax_bd_e h
      refine ax_TVi (d := 3) (ka := 64) (i := 0) [.inl (.int x2)] [] lk_X12_102 (by decide +kernel) rfl (by decide) rfl (Nat.le_of_ble_eq_true rfl) (Nat.le_of_ble_eq_true rfl) ((t_J0_charAt_5068e_64x0 hq8).up (by decide)) ?_
      refine ax_Tgo [.iload_n 1] (pc' := 16) (L' := [some (.inr (64, 0)), some (.inl (.int x1)), some (.inl (.int x2))]) (st' := [.inl (.int x1), .inl (.int r10)]) (S' := S) ok_X12_spotOf.1 (by decide +kernel) rfl rfl ?_
      refine ax_Tic_ne (off := 5) (tgt := 21) (by decide +kernel) (by decide) (fun c11 => ?_) (fun c11 => ?_)
      · rw [if_neg c11] at h
        refine ax_Tgo [.iinc 2 1] (pc' := 24) (L' := [some (.inr (64, 0)), some (.inl (.int x1)), some (.inl (.int (x2 + (1 : Int32))))]) (st' := []) (S' := S) ok_X12_spotOf.1 (by decide +kernel) rfl rfl ?_
        obtain ⟨v12, ev12, h⟩ := ax_let_e h
        rw [ev12]
        refine ax_Tgoto (off := (-22)) (tgt := 2) (by decide +kernel) (by decide) ?_
        exact ih x1 v12 _ h
      · rw [if_pos c11] at h
        refine ax_Tgo [.iload_n 2] (pc' := 20) (L' := [some (.inr (64, 0)), some (.inl (.int x1)), some (.inl (.int x2))]) (st' := [.inl (.int x2)]) (S' := S) ok_X12_spotOf.1 (by decide +kernel) rfl rfl ?_
        cases h
        exact ax_Treti (by decide +kernel) rfl rfl
set_option maxRecDepth 100000 in
theorem t_X12_spotOf_64x0 {l : Launch} {a1 : Int32} {S : AS} {r : Int32} (h : f_X12_spotOf_64x0 a1 S = some r) : ax_M l 4 ma_X12_spotOf [.inr (64, 0), .inl (.int a1)] S (some (.inl (.int r))) S := by
  unfold f_X12_spotOf_64x0 at h
  show ax_T l 4 ma_X12_spotOf (0, [some (.inr (64, 0)), some (.inl (.int a1)), none], [], S) (some (.inl (.int r))) S
  refine ax_Tgo [.iconst 0, .istore_n 2] (pc' := 2) (L' := [some (.inr (64, 0)), some (.inl (.int a1)), some (.inl (.int (0 : Int32)))]) (st' := []) (S' := S) ok_X12_spotOf.1 (by decide +kernel) rfl rfl ?_
  refine t_X12_spotOf_64x0_L2 _ a1 (0 : Int32) _ h
def f_X12_readItems_48x0_64x0_L3 (K31 : Int32 → Int32 → AS → Option (AS)) : Nat → Int32 → Int32 → Int32 → AS → Option (AS)
  | 0, _, _, _, _ => none
  | n + 1, x1, x2, x3, S6 => (if ((Int32.ofNat 3) >>> ((0 : Int32) &&& 31)) ≤ x3 then K31 x1 x2 S6 else (f_X12_usual x1 x3 S6).bind (fun (r14 : Int32) => ax_gd (ax_in (x2 + x3) 3) (ax_let (ax_sai S6 48 0 (x2 + x3).toNatClampNeg r14) (fun (S16 : AS) => ax_let (x3 + (1 : Int32)) (fun (v17 : Int32) => f_X12_readItems_48x0_64x0_L3 K31 n x1 x2 v17 S16)))))
def f_X12_readItems_48x0_64x0_L45 : Nat → Int32 → Int32 → Int32 → Int32 → AS → Option (AS)
  | 0, _, _, _, _, _ => none
  | n + 1, x27, x28, x29, x30, S31 => (if x30 = (Int32.ofInt (-1)) then some S31 else (if (ax_fi S31 12 0 11) = (Int32.ofInt (-1)) then (f_X12_has x29 x30 S31).bind (fun (r37 : Int32) => (if r37 = (0 : Int32) then ax_let (x29 ||| ((1 : Int32) <<< (x30 &&& 31))) (fun (v39 : Int32) => ax_let (ax_sfi S31 12 0 10 ((ax_fi S31 12 0 10) + (1 : Int32))) (fun (S40 : AS) => (f_X12_leastOf x27 x30 S40).bind (fun (r44 : Int32) => (f_X12_mostOf x27 x30 S40).bind (fun (r48 : Int32) => ax_bu (f_X12_number r44 r48 S40) (fun (r52 : Int32) (S49 : AS) => ax_gd (ax_in (x28 + x30) 3) (ax_let (ax_sai S49 48 0 (x28 + x30).toNatClampNeg r52) (fun (S54 : AS) => (if (ax_fi S54 12 0 11) = (Int32.ofInt (-1)) then ax_bu (f_X12_look S54) (fun (r59 : Int32) (S56 : AS) => (f_X12_spotOf_64x0 r59 S56).bind (fun (r63 : Int32) => f_X12_readItems_48x0_64x0_L45 n x27 x28 v39 r63 S56)) else f_X12_readItems_48x0_64x0_L45 n x27 x28 v39 x30 S54)))))))) else ax_bu (f_X12_fails S31) (fun (r67 : Int32) (S64 : AS) => some S64))) else some S31))
def f_X12_readItems_48x0_64x0 (a1 : Int32) (a3 : Int32) (S : AS) : Option (AS) := f_X12_readItems_48x0_64x0_L3 (fun (x4 : Int32) (x5 : Int32) (S18 : AS) => ax_bu (f_X12_look S18) (fun (r22 : Int32) (S19 : AS) => (f_X12_spotOf_64x0 r22 S19).bind (fun (r26 : Int32) => f_X12_readItems_48x0_64x0_L45 ax_F x4 x5 (0 : Int32) r26 S19))) ax_F a1 a3 (0 : Int32) S
set_option maxRecDepth 100000 in
theorem t_X12_readItems_48x0_64x0_L3 {l : Launch} {K31 : Int32 → Int32 → AS → Option (AS)} (hK31 : ∀ (x4 : Int32) (x5 : Int32) (S : AS) Z, K31 x4 x5 S = some Z → ax_T l 5 ma_X12_readItems (31, [some (.inr (12, 0)), some (.inl (.int x4)), some (.inr (48, 0)), some (.inl (.int x5)), some (.inr (64, 0)), none, none], [], S) none Z) : ∀ (n : Nat) (x1 : Int32) (x2 : Int32) (x3 : Int32) (S6 : AS) Z, f_X12_readItems_48x0_64x0_L3 K31 n x1 x2 x3 S6 = some Z → ax_T l 5 ma_X12_readItems (3, [some (.inr (12, 0)), some (.inl (.int x1)), some (.inr (48, 0)), some (.inl (.int x2)), some (.inr (64, 0)), some (.inl (.int x3)), none], [], S6) none Z := by
  intro n
  induction n with
  | zero =>
    intro x1 x2 x3 S6 Z h
    cases h
  | succ n ih =>
    intro x1 x2 x3 S6 Z h
    unfold f_X12_readItems_48x0_64x0_L3 at h
    refine ax_Tgo [.iload 5, .aload 4] (pc' := 7) (L' := [some (.inr (12, 0)), some (.inl (.int x1)), some (.inr (48, 0)), some (.inl (.int x2)), some (.inr (64, 0)), some (.inl (.int x3)), none]) (st' := [.inr (64, 0), .inl (.int x3)]) (S' := S6) ok_X12_readItems.1 (by decide +kernel) rfl rfl ?_
    refine ax_TVi (d := 4) (ka := 64) (i := 0) [] [.inl (.int x3)] lk_X12_96 (by decide +kernel) rfl (by decide) rfl (Nat.le_of_ble_eq_true rfl) (Nat.le_of_ble_eq_true rfl) ((t_J0_length_8abf5_64x0 rfl).up (by decide)) ?_
    refine ax_Tic_ge (off := 21) (tgt := 31) (by decide +kernel) (by decide) (fun c10 => ?_) (fun c10 => ?_)
    · rw [if_pos c10] at h
      refine ax_Tdrop [true, true, true, true, true, false, true] (L' := [some (.inr (12, 0)), some (.inl (.int x1)), some (.inr (48, 0)), some (.inl (.int x2)), some (.inr (64, 0)), none, none]) rfl ?_
      exact hK31 x1 x2 S6 _ h
    · rw [if_neg c10] at h
      refine ax_Tgo [.aload_n 2, .iload_n 3, .iload 5, .iadd, .iload_n 1, .iload 5] (pc' := 21) (L' := [some (.inr (12, 0)), some (.inl (.int x1)), some (.inr (48, 0)), some (.inl (.int x2)), some (.inr (64, 0)), some (.inl (.int x3)), none]) (st' := [.inl (.int x3), .inl (.int x1), .inl (.int (x2 + x3)), .inr (48, 0)]) (S' := S6) ok_X12_readItems.1 (by decide +kernel) rfl rfl ?_
      obtain ⟨r14, hq12, h⟩ := ax_bd_e h
      refine ax_TSi (d := 4) [.inl (.int x1), .inl (.int x3)] [.inl (.int (x2 + x3)), .inr (48, 0)] lk_X12_218 (by decide +kernel) rfl rfl (Nat.le_of_ble_eq_true rfl) (Nat.le_of_ble_eq_true rfl) ((t_X12_usual hq12).up (by decide)) ?_
      obtain ⟨g15, h⟩ := ax_gd_e h
      refine ax_Tasi (n := 3) ok_X12_readItems.1 (by decide +kernel) (by decide) rfl g15 ?_
      obtain ⟨S16, eS16, h⟩ := ax_let_e h
      rw [eS16]
      refine ax_Tgo [.iinc 5 1] (pc' := 28) (L' := [some (.inr (12, 0)), some (.inl (.int x1)), some (.inr (48, 0)), some (.inl (.int x2)), some (.inr (64, 0)), some (.inl (.int (x3 + (1 : Int32)))), none]) (st' := []) (S' := S16) ok_X12_readItems.1 (by decide +kernel) rfl rfl ?_
      obtain ⟨v17, ev17, h⟩ := ax_let_e h
      rw [ev17]
      refine ax_Tgoto (off := (-25)) (tgt := 3) (by decide +kernel) (by decide) ?_
      exact ih x1 x2 v17 S16 _ h
set_option maxRecDepth 100000 in
theorem t_X12_readItems_48x0_64x0_L45 {l : Launch} : ∀ (n : Nat) (x27 : Int32) (x28 : Int32) (x29 : Int32) (x30 : Int32) (S31 : AS) Z, f_X12_readItems_48x0_64x0_L45 n x27 x28 x29 x30 S31 = some Z → ax_T l 5 ma_X12_readItems (45, [some (.inr (12, 0)), some (.inl (.int x27)), some (.inr (48, 0)), some (.inl (.int x28)), some (.inr (64, 0)), some (.inl (.int x29)), some (.inl (.int x30))], [], S31) none Z := by
  intro n
  induction n with
  | zero =>
    intro x27 x28 x29 x30 S31 Z h
    cases h
  | succ n ih =>
    intro x27 x28 x29 x30 S31 Z h
    unfold f_X12_readItems_48x0_64x0_L45 at h
    refine ax_Tgo [.iload 6, .iconst (-1)] (pc' := 48) (L' := [some (.inr (12, 0)), some (.inl (.int x27)), some (.inr (48, 0)), some (.inl (.int x28)), some (.inr (64, 0)), some (.inl (.int x29)), some (.inl (.int x30))]) (st' := [.inl (.int (Int32.ofInt (-1))), .inl (.int x30)]) (S' := S31) ok_X12_readItems.1 (by decide +kernel) rfl rfl ?_
    refine ax_Tic_eq (off := 90) (tgt := 138) (by decide +kernel) (by decide) (fun c32 => ?_) (fun c32 => ?_)
    · rw [if_pos c32] at h
      cases h
      exact ax_Tretv (by decide +kernel) rfl
    · rw [if_neg c32] at h
      refine ax_Tgo [.aload_n 0, .getfield 125, .iconst (-1)] (pc' := 56) (L' := [some (.inr (12, 0)), some (.inl (.int x27)), some (.inr (48, 0)), some (.inl (.int x28)), some (.inr (64, 0)), some (.inl (.int x29)), some (.inl (.int x30))]) (st' := [.inl (.int (Int32.ofInt (-1))), .inl (.int (ax_fi S31 12 0 11))]) (S' := S31) ok_X12_readItems.1 (by decide +kernel) rfl rfl ?_
      refine ax_Tic_ne (off := 82) (tgt := 138) (by decide +kernel) (by decide) (fun c33 => ?_) (fun c33 => ?_)
      · rw [if_neg c33] at h
        cases h
        exact ax_Tretv (by decide +kernel) rfl
      · rw [if_pos c33] at h
        refine ax_Tgo [.iload 5, .iload 6] (pc' := 63) (L' := [some (.inr (12, 0)), some (.inl (.int x27)), some (.inr (48, 0)), some (.inl (.int x28)), some (.inr (64, 0)), some (.inl (.int x29)), some (.inl (.int x30))]) (st' := [.inl (.int x30), .inl (.int x29)]) (S' := S31) ok_X12_readItems.1 (by decide +kernel) rfl rfl ?_
        obtain ⟨r37, hq35, h⟩ := ax_bd_e h
        refine ax_TSi (d := 4) [.inl (.int x29), .inl (.int x30)] [] lk_X12_226 (by decide +kernel) rfl rfl (Nat.le_of_ble_eq_true rfl) (Nat.le_of_ble_eq_true rfl) ((t_X12_has hq35).up (by decide)) ?_
        refine ax_Tif_eq (off := 9) (tgt := 75) (by decide +kernel) (by decide) (fun c38 => ?_) (fun c38 => ?_)
        · rw [if_pos c38] at h
          refine ax_Tgo [.iload 5, .iconst 1, .iload 6, .ishl, .ior, .istore 5] (pc' := 84) (L' := [some (.inr (12, 0)), some (.inl (.int x27)), some (.inr (48, 0)), some (.inl (.int x28)), some (.inr (64, 0)), some (.inl (.int (x29 ||| ((1 : Int32) <<< (x30 &&& 31))))), some (.inl (.int x30))]) (st' := []) (S' := S31) ok_X12_readItems.1 (by decide +kernel) rfl rfl ?_
          obtain ⟨v39, ev39, h⟩ := ax_let_e h
          rw [ev39]
          refine ax_Tgo [.aload_n 0, .dup, .getfield 116, .iconst 1, .iadd, .putfield 116] (pc' := 94) (L' := [some (.inr (12, 0)), some (.inl (.int x27)), some (.inr (48, 0)), some (.inl (.int x28)), some (.inr (64, 0)), some (.inl (.int v39)), some (.inl (.int x30))]) (st' := []) (S' := (ax_sfi S31 12 0 10 ((ax_fi S31 12 0 10) + (1 : Int32)))) ok_X12_readItems.1 (by decide +kernel) rfl rfl ?_
          obtain ⟨S40, eS40, h⟩ := ax_let_e h
          rw [eS40]
          refine ax_Tgo [.aload_n 2, .iload_n 3, .iload 6, .iadd, .aload_n 0, .iload_n 1, .iload 6] (pc' := 103) (L' := [some (.inr (12, 0)), some (.inl (.int x27)), some (.inr (48, 0)), some (.inl (.int x28)), some (.inr (64, 0)), some (.inl (.int v39)), some (.inl (.int x30))]) (st' := [.inl (.int x30), .inl (.int x27), .inr (12, 0), .inl (.int (x28 + x30)), .inr (48, 0)]) (S' := S40) ok_X12_readItems.1 (by decide +kernel) rfl rfl ?_
          obtain ⟨r44, hq42, h⟩ := ax_bd_e h
          refine ax_TSi (d := 4) [.inl (.int x27), .inl (.int x30)] [.inr (12, 0), .inl (.int (x28 + x30)), .inr (48, 0)] lk_X12_230 (by decide +kernel) rfl rfl (Nat.le_of_ble_eq_true rfl) (Nat.le_of_ble_eq_true rfl) ((t_X12_leastOf hq42).up (by decide)) ?_
          refine ax_Tgo [.iload_n 1, .iload 6] (pc' := 109) (L' := [some (.inr (12, 0)), some (.inl (.int x27)), some (.inr (48, 0)), some (.inl (.int x28)), some (.inr (64, 0)), some (.inl (.int v39)), some (.inl (.int x30))]) (st' := [.inl (.int x30), .inl (.int x27), .inl (.int r44), .inr (12, 0), .inl (.int (x28 + x30)), .inr (48, 0)]) (S' := S40) ok_X12_readItems.1 (by decide +kernel) rfl rfl ?_
          obtain ⟨r48, hq46, h⟩ := ax_bd_e h
          refine ax_TSi (d := 4) [.inl (.int x27), .inl (.int x30)] [.inl (.int r44), .inr (12, 0), .inl (.int (x28 + x30)), .inr (48, 0)] lk_X12_233 (by decide +kernel) rfl rfl (Nat.le_of_ble_eq_true rfl) (Nat.le_of_ble_eq_true rfl) ((t_X12_mostOf hq46).up (by decide)) ?_
          obtain ⟨r52, S49, hq50, h⟩ := ax_bu_e h
          refine ax_TVi (d := 4) (ka := 12) (i := 0) [.inl (.int r44), .inl (.int r48)] [.inl (.int (x28 + x30)), .inr (48, 0)] lk_X12_236 (by decide +kernel) rfl (by decide) rfl (Nat.le_of_ble_eq_true rfl) (Nat.le_of_ble_eq_true rfl) ((t_X12_number hq50).up (by decide)) ?_
          obtain ⟨g53, h⟩ := ax_gd_e h
          refine ax_Tasi (n := 3) ok_X12_readItems.1 (by decide +kernel) (by decide) rfl g53 ?_
          obtain ⟨S54, eS54, h⟩ := ax_let_e h
          rw [eS54]
          refine ax_Tgo [.aload_n 0, .getfield 125, .iconst (-1)] (pc' := 121) (L' := [some (.inr (12, 0)), some (.inl (.int x27)), some (.inr (48, 0)), some (.inl (.int x28)), some (.inr (64, 0)), some (.inl (.int v39)), some (.inl (.int x30))]) (st' := [.inl (.int (Int32.ofInt (-1))), .inl (.int (ax_fi S54 12 0 11))]) (S' := S54) ok_X12_readItems.1 (by decide +kernel) rfl rfl ?_
          refine ax_Tic_ne (off := (-76)) (tgt := 45) (by decide +kernel) (by decide) (fun c55 => ?_) (fun c55 => ?_)
          · rw [if_neg c55] at h
            exact ih x27 x28 v39 x30 S54 _ h
          · rw [if_pos c55] at h
            refine ax_Tgo [.aload 4, .aload_n 0] (pc' := 127) (L' := [some (.inr (12, 0)), some (.inl (.int x27)), some (.inr (48, 0)), some (.inl (.int x28)), some (.inr (64, 0)), some (.inl (.int v39)), some (.inl (.int x30))]) (st' := [.inr (12, 0), .inr (64, 0)]) (S' := S54) ok_X12_readItems.1 (by decide +kernel) rfl rfl ?_
            obtain ⟨r59, S56, hq57, h⟩ := ax_bu_e h
            refine ax_TVi (d := 4) (ka := 12) (i := 0) [] [.inr (64, 0)] lk_X12_135 (by decide +kernel) rfl (by decide) rfl (Nat.le_of_ble_eq_true rfl) (Nat.le_of_ble_eq_true rfl) ((t_X12_look hq57).up (by decide)) ?_
            obtain ⟨r63, hq61, h⟩ := ax_bd_e h
            refine ax_TSi (d := 4) [.inr (64, 0), .inl (.int r59)] [] lk_X12_222 (by decide +kernel) rfl rfl (Nat.le_of_ble_eq_true rfl) (Nat.le_of_ble_eq_true rfl) ((t_X12_spotOf_64x0 hq61).up (by decide)) ?_
            refine ax_Tgo [.istore 6] (pc' := 135) (L' := [some (.inr (12, 0)), some (.inl (.int x27)), some (.inr (48, 0)), some (.inl (.int x28)), some (.inr (64, 0)), some (.inl (.int v39)), some (.inl (.int r63))]) (st' := []) (S' := S56) ok_X12_readItems.1 (by decide +kernel) rfl rfl ?_
            refine ax_Tgoto (off := (-90)) (tgt := 45) (by decide +kernel) (by decide) ?_
            exact ih x27 x28 v39 r63 S56 _ h
        · rw [if_neg c38] at h
          refine ax_Tgo [.aload_n 0] (pc' := 70) (L' := [some (.inr (12, 0)), some (.inl (.int x27)), some (.inr (48, 0)), some (.inl (.int x28)), some (.inr (64, 0)), some (.inl (.int x29)), some (.inl (.int x30))]) (st' := [.inr (12, 0)]) (S' := S31) ok_X12_readItems.1 (by decide +kernel) rfl rfl ?_
          obtain ⟨r67, S64, hq65, h⟩ := ax_bu_e h
          refine ax_TVi (d := 4) (ka := 12) (i := 0) [] [] lk_X12_131 (by decide +kernel) rfl (by decide) rfl (Nat.le_of_ble_eq_true rfl) (Nat.le_of_ble_eq_true rfl) ((t_X12_fails hq65).up (by decide)) ?_
          refine ax_Tgo [.pop] (pc' := 74) (L' := [some (.inr (12, 0)), some (.inl (.int x27)), some (.inr (48, 0)), some (.inl (.int x28)), some (.inr (64, 0)), some (.inl (.int x29)), some (.inl (.int x30))]) (st' := []) (S' := S64) ok_X12_readItems.1 (by decide +kernel) rfl rfl ?_
          cases h
          exact ax_Tretv (by decide +kernel) rfl
set_option maxRecDepth 100000 in
theorem t_X12_readItems_48x0_64x0 {l : Launch} {a1 : Int32} {a3 : Int32} {S Z : AS} (h : f_X12_readItems_48x0_64x0 a1 a3 S = some Z) : ax_M l 5 ma_X12_readItems [.inr (12, 0), .inl (.int a1), .inr (48, 0), .inl (.int a3), .inr (64, 0)] S none Z := by
  unfold f_X12_readItems_48x0_64x0 at h
  show ax_T l 5 ma_X12_readItems (0, [some (.inr (12, 0)), some (.inl (.int a1)), some (.inr (48, 0)), some (.inl (.int a3)), some (.inr (64, 0)), none, none], [], S) none Z
  refine ax_Tgo [.iconst 0, .istore 5] (pc' := 3) (L' := [some (.inr (12, 0)), some (.inl (.int a1)), some (.inr (48, 0)), some (.inl (.int a3)), some (.inr (64, 0)), some (.inl (.int (0 : Int32))), none]) (st' := []) (S' := S) ok_X12_readItems.1 (by decide +kernel) rfl rfl ?_
  refine t_X12_readItems_48x0_64x0_L3 ?_ _ a1 a3 (0 : Int32) S _ h
  · intro x4 x5 S18 Z h
    refine ax_Tgo [.iconst 0, .istore 5, .aload 4, .aload_n 0] (pc' := 37) (L' := [some (.inr (12, 0)), some (.inl (.int x4)), some (.inr (48, 0)), some (.inl (.int x5)), some (.inr (64, 0)), some (.inl (.int (0 : Int32))), none]) (st' := [.inr (12, 0), .inr (64, 0)]) (S' := S18) ok_X12_readItems.1 (by decide +kernel) rfl rfl ?_
    obtain ⟨r22, S19, hq20, h⟩ := ax_bu_e h
    refine ax_TVi (d := 4) (ka := 12) (i := 0) [] [.inr (64, 0)] lk_X12_135 (by decide +kernel) rfl (by decide) rfl (Nat.le_of_ble_eq_true rfl) (Nat.le_of_ble_eq_true rfl) ((t_X12_look hq20).up (by decide)) ?_
    obtain ⟨r26, hq24, h⟩ := ax_bd_e h
    refine ax_TSi (d := 4) [.inr (64, 0), .inl (.int r22)] [] lk_X12_222 (by decide +kernel) rfl rfl (Nat.le_of_ble_eq_true rfl) (Nat.le_of_ble_eq_true rfl) ((t_X12_spotOf_64x0 hq24).up (by decide)) ?_
    refine ax_Tgo [.istore 6] (pc' := 45) (L' := [some (.inr (12, 0)), some (.inl (.int x4)), some (.inr (48, 0)), some (.inl (.int x5)), some (.inr (64, 0)), some (.inl (.int (0 : Int32))), some (.inl (.int r26))]) (st' := []) (S' := S19) ok_X12_readItems.1 (by decide +kernel) rfl rfl ?_
    refine t_X12_readItems_48x0_64x0_L45 _ x4 x5 (0 : Int32) r26 S19 _ h
def f_X12_readClause (S : AS) : Option (AS) := ax_bu (f_X12_look S) (fun (r4 : Int32) (S1 : AS) => ax_let (fun (x5 : Int32) (S6 : AS) => (if x5 = (0 : Int32) then ax_bu (f_X12_fails S6) (fun (r27 : Int32) (S24 : AS) => some S24) else ax_let (ax_sfi S6 12 0 10 ((ax_fi S6 12 0 10) + (1 : Int32))) (fun (S9 : AS) => (if r4 = (115 : Int32) then ax_let (ax_sfi S9 12 0 31 (1 : Int32)) (fun (S20 : AS) => (f_X12_readItems_48x0_64x0 r4 (0 : Int32) S20).bind (fun (S21 : AS) => some S21)) else (if r4 = (108 : Int32) then ax_let (ax_sfi S9 12 0 28 ((ax_fi S9 12 0 28) + (1 : Int32))) (fun (S16 : AS) => (f_X12_readItems_50x0_64x1 r4 ((2 : Int32) * ((ax_fi S16 12 0 28) - (1 : Int32))) S16).bind (fun (S17 : AS) => some S17)) else ax_let (ax_sfi S9 12 0 29 ((ax_fi S9 12 0 29) + (1 : Int32))) (fun (S12 : AS) => (f_X12_readItems_52x0_64x2 r4 ((7 : Int32) * ((ax_fi S12 12 0 29) - (1 : Int32))) S12).bind (fun (S13 : AS) => some S13))))))) (fun J7 => (if r4 = (115 : Int32) then (if (ax_fi S1 12 0 31) = (0 : Int32) then J7 (1 : Int32) S1 else (if r4 = (108 : Int32) then (if (ax_fi S1 12 0 28) < (4 : Int32) then J7 (1 : Int32) S1 else (if r4 = (118 : Int32) then (if (6 : Int32) ≤ (ax_fi S1 12 0 29) then J7 (0 : Int32) S1 else J7 (1 : Int32) S1) else J7 (0 : Int32) S1)) else (if r4 = (118 : Int32) then (if (6 : Int32) ≤ (ax_fi S1 12 0 29) then J7 (0 : Int32) S1 else J7 (1 : Int32) S1) else J7 (0 : Int32) S1))) else (if r4 = (108 : Int32) then (if (ax_fi S1 12 0 28) < (4 : Int32) then J7 (1 : Int32) S1 else (if r4 = (118 : Int32) then (if (6 : Int32) ≤ (ax_fi S1 12 0 29) then J7 (0 : Int32) S1 else J7 (1 : Int32) S1) else J7 (0 : Int32) S1)) else (if r4 = (118 : Int32) then (if (6 : Int32) ≤ (ax_fi S1 12 0 29) then J7 (0 : Int32) S1 else J7 (1 : Int32) S1) else J7 (0 : Int32) S1)))))
set_option maxRecDepth 100000 in
theorem t_X12_readClause {l : Launch} {S Z : AS} (h : f_X12_readClause S = some Z) : ax_M l 6 ma_X12_readClause [.inr (12, 0)] S none Z := by
  unfold f_X12_readClause at h
  show ax_T l 6 ma_X12_readClause (0, [some (.inr (12, 0)), none, none], [], S) none Z
  refine ax_Tgo [.aload_n 0] (pc' := 1) (L' := [some (.inr (12, 0)), none, none]) (st' := [.inr (12, 0)]) (S' := S) ok_X12_readClause.1 (by decide +kernel) rfl rfl ?_
  obtain ⟨r4, S1, hq2, h⟩ := ax_bu_e h
  refine ax_TVi (d := 5) (ka := 12) (i := 0) [] [] lk_X12_135 (by decide +kernel) rfl (by decide) rfl (Nat.le_of_ble_eq_true rfl) (Nat.le_of_ble_eq_true rfl) ((t_X12_look hq2).up (by decide)) ?_
  refine ax_Tgo [.istore_n 1, .iload_n 1, .bipush 115] (pc' := 8) (L' := [some (.inr (12, 0)), some (.inl (.int r4)), none]) (st' := [.inl (.int (115 : Int32)), .inl (.int r4)]) (S' := S1) ok_X12_readClause.1 (by decide +kernel) rfl rfl ?_
  obtain ⟨J7, eJ7, h⟩ := ax_let_e h
  have hJ7 : ∀ (x5 : Int32) (S6 : AS) Z, J7 x5 S6 = some Z → ax_T l 6 ma_X12_readClause (52, [some (.inr (12, 0)), some (.inl (.int r4)), none], [.inl (.int x5)], S6) none Z := by
    intro x5 S6 Z h
    rw [← eJ7] at h
    try dsimp only at h
    refine ax_Tgo [.istore_n 2, .iload_n 2] (pc' := 54) (L' := [some (.inr (12, 0)), some (.inl (.int r4)), some (.inl (.int x5))]) (st' := [.inl (.int x5)]) (S' := S6) ok_X12_readClause.1 (by decide +kernel) rfl rfl ?_
    refine ax_Tif_ne (off := 9) (tgt := 63) (by decide +kernel) (by decide) (fun c8 => ?_) (fun c8 => ?_)
    · rw [if_neg c8] at h
      refine ax_Tgo [.aload_n 0, .dup, .getfield 116, .iconst 1, .iadd, .putfield 116] (pc' := 73) (L' := [some (.inr (12, 0)), some (.inl (.int r4)), some (.inl (.int x5))]) (st' := []) (S' := (ax_sfi S6 12 0 10 ((ax_fi S6 12 0 10) + (1 : Int32)))) ok_X12_readClause.1 (by decide +kernel) rfl rfl ?_
      obtain ⟨S9, eS9, h⟩ := ax_let_e h
      rw [eS9]
      refine ax_Tgo [.iload_n 1, .bipush 115] (pc' := 76) (L' := [some (.inr (12, 0)), some (.inl (.int r4)), some (.inl (.int x5))]) (st' := [.inl (.int (115 : Int32)), .inl (.int r4)]) (S' := S9) ok_X12_readClause.1 (by decide +kernel) rfl rfl ?_
      refine ax_Tic_ne (off := 23) (tgt := 99) (by decide +kernel) (by decide) (fun c10 => ?_) (fun c10 => ?_)
      · rw [if_neg c10] at h
        refine ax_Tgo [.iload_n 1, .bipush 108] (pc' := 102) (L' := [some (.inr (12, 0)), some (.inl (.int r4)), some (.inl (.int x5))]) (st' := [.inl (.int (108 : Int32)), .inl (.int r4)]) (S' := S9) ok_X12_readClause.1 (by decide +kernel) rfl rfl ?_
        refine ax_Tic_ne (off := 35) (tgt := 137) (by decide +kernel) (by decide) (fun c11 => ?_) (fun c11 => ?_)
        · rw [if_neg c11] at h
          refine ax_Tgo [.aload_n 0, .dup, .getfield 245, .iconst 1, .iadd, .putfield 245] (pc' := 147) (L' := [some (.inr (12, 0)), some (.inl (.int r4)), some (.inl (.int x5))]) (st' := []) (S' := (ax_sfi S9 12 0 29 ((ax_fi S9 12 0 29) + (1 : Int32)))) ok_X12_readClause.1 (by decide +kernel) rfl rfl ?_
          obtain ⟨S12, eS12, h⟩ := ax_let_e h
          rw [eS12]
          refine ax_Tgo [.aload_n 0, .iload_n 1, .aload_n 0, .getfield 52, .bipush 7, .aload_n 0, .getfield 245, .iconst 1, .isub, .imul, .ldc_w 256] (pc' := 165) (L' := [some (.inr (12, 0)), some (.inl (.int r4)), some (.inl (.int x5))]) (st' := [.inr (64, 2), .inl (.int ((7 : Int32) * ((ax_fi S12 12 0 29) - (1 : Int32)))), .inr (52, 0), .inl (.int r4), .inr (12, 0)]) (S' := S12) ok_X12_readClause.1 (by decide +kernel) rfl rfl ?_
          obtain ⟨S13, hq14, h⟩ := ax_bd_e h
          refine ax_TVv (d := 5) (ka := 12) (i := 0) [.inl (.int r4), .inr (52, 0), .inl (.int ((7 : Int32) * ((ax_fi S12 12 0 29) - (1 : Int32)))), .inr (64, 2)] [] lk_X12_250 (by decide +kernel) rfl (by decide) rfl (Nat.le_of_ble_eq_true rfl) (Nat.le_of_ble_eq_true rfl) ((t_X12_readItems_52x0_64x2 hq14).up (by decide)) ?_
          cases h
          exact ax_Tretv (by decide +kernel) rfl
        · rw [if_pos c11] at h
          refine ax_Tgo [.aload_n 0, .dup, .getfield 242, .iconst 1, .iadd, .putfield 242] (pc' := 115) (L' := [some (.inr (12, 0)), some (.inl (.int r4)), some (.inl (.int x5))]) (st' := []) (S' := (ax_sfi S9 12 0 28 ((ax_fi S9 12 0 28) + (1 : Int32)))) ok_X12_readClause.1 (by decide +kernel) rfl rfl ?_
          obtain ⟨S16, eS16, h⟩ := ax_let_e h
          rw [eS16]
          refine ax_Tgo [.aload_n 0, .iload_n 1, .aload_n 0, .getfield 46, .iconst 2, .aload_n 0, .getfield 242, .iconst 1, .isub, .imul, .ldc 254] (pc' := 131) (L' := [some (.inr (12, 0)), some (.inl (.int r4)), some (.inl (.int x5))]) (st' := [.inr (64, 1), .inl (.int ((2 : Int32) * ((ax_fi S16 12 0 28) - (1 : Int32)))), .inr (50, 0), .inl (.int r4), .inr (12, 0)]) (S' := S16) ok_X12_readClause.1 (by decide +kernel) rfl rfl ?_
          obtain ⟨S17, hq18, h⟩ := ax_bd_e h
          refine ax_TVv (d := 5) (ka := 12) (i := 0) [.inl (.int r4), .inr (50, 0), .inl (.int ((2 : Int32) * ((ax_fi S16 12 0 28) - (1 : Int32)))), .inr (64, 1)] [] lk_X12_250 (by decide +kernel) rfl (by decide) rfl (Nat.le_of_ble_eq_true rfl) (Nat.le_of_ble_eq_true rfl) ((t_X12_readItems_50x0_64x1 hq18).up (by decide)) ?_
          refine ax_Tgoto (off := 34) (tgt := 168) (by decide +kernel) (by decide) ?_
          cases h
          exact ax_Tretv (by decide +kernel) rfl
      · rw [if_pos c10] at h
        refine ax_Tgo [.aload_n 0, .iconst 1, .putfield 239] (pc' := 84) (L' := [some (.inr (12, 0)), some (.inl (.int r4)), some (.inl (.int x5))]) (st' := []) (S' := (ax_sfi S9 12 0 31 (1 : Int32))) ok_X12_readClause.1 (by decide +kernel) rfl rfl ?_
        obtain ⟨S20, eS20, h⟩ := ax_let_e h
        rw [eS20]
        refine ax_Tgo [.aload_n 0, .iload_n 1, .aload_n 0, .getfield 40, .iconst 0, .ldc 248] (pc' := 93) (L' := [some (.inr (12, 0)), some (.inl (.int r4)), some (.inl (.int x5))]) (st' := [.inr (64, 0), .inl (.int (0 : Int32)), .inr (48, 0), .inl (.int r4), .inr (12, 0)]) (S' := S20) ok_X12_readClause.1 (by decide +kernel) rfl rfl ?_
        obtain ⟨S21, hq22, h⟩ := ax_bd_e h
        refine ax_TVv (d := 5) (ka := 12) (i := 0) [.inl (.int r4), .inr (48, 0), .inl (.int (0 : Int32)), .inr (64, 0)] [] lk_X12_250 (by decide +kernel) rfl (by decide) rfl (Nat.le_of_ble_eq_true rfl) (Nat.le_of_ble_eq_true rfl) ((t_X12_readItems_48x0_64x0 hq22).up (by decide)) ?_
        refine ax_Tgoto (off := 72) (tgt := 168) (by decide +kernel) (by decide) ?_
        cases h
        exact ax_Tretv (by decide +kernel) rfl
    · rw [if_pos c8] at h
      refine ax_Tgo [.aload_n 0] (pc' := 58) (L' := [some (.inr (12, 0)), some (.inl (.int r4)), some (.inl (.int x5))]) (st' := [.inr (12, 0)]) (S' := S6) ok_X12_readClause.1 (by decide +kernel) rfl rfl ?_
      obtain ⟨r27, S24, hq25, h⟩ := ax_bu_e h
      refine ax_TVi (d := 5) (ka := 12) (i := 0) [] [] lk_X12_131 (by decide +kernel) rfl (by decide) rfl (Nat.le_of_ble_eq_true rfl) (Nat.le_of_ble_eq_true rfl) ((t_X12_fails hq25).up (by decide)) ?_
      refine ax_Tgo [.pop] (pc' := 62) (L' := [some (.inr (12, 0)), some (.inl (.int r4)), some (.inl (.int x5))]) (st' := []) (S' := S24) ok_X12_readClause.1 (by decide +kernel) rfl rfl ?_
      cases h
      exact ax_Tretv (by decide +kernel) rfl
  refine ax_Tic_ne (off := 10) (tgt := 18) (by decide +kernel) (by decide) (fun c28 => ?_) (fun c28 => ?_)
  · rw [if_neg c28] at h
    refine ax_Tgo [.iload_n 1, .bipush 108] (pc' := 21) (L' := [some (.inr (12, 0)), some (.inl (.int r4)), none]) (st' := [.inl (.int (108 : Int32)), .inl (.int r4)]) (S' := S1) ok_X12_readClause.1 (by decide +kernel) rfl rfl ?_
    refine ax_Tic_ne (off := 11) (tgt := 32) (by decide +kernel) (by decide) (fun c29 => ?_) (fun c29 => ?_)
    · rw [if_neg c29] at h
      refine ax_Tgo [.iload_n 1, .bipush 118] (pc' := 35) (L' := [some (.inr (12, 0)), some (.inl (.int r4)), none]) (st' := [.inl (.int (118 : Int32)), .inl (.int r4)]) (S' := S1) ok_X12_readClause.1 (by decide +kernel) rfl rfl ?_
      refine ax_Tic_ne (off := 16) (tgt := 51) (by decide +kernel) (by decide) (fun c30 => ?_) (fun c30 => ?_)
      · rw [if_neg c30] at h
        refine ax_Tgo [.iconst 0] (pc' := 52) (L' := [some (.inr (12, 0)), some (.inl (.int r4)), none]) (st' := [.inl (.int (0 : Int32))]) (S' := S1) ok_X12_readClause.1 (by decide +kernel) rfl rfl ?_
        exact hJ7 (0 : Int32) S1 _ h
      · rw [if_pos c30] at h
        refine ax_Tgo [.aload_n 0, .getfield 245, .bipush 6] (pc' := 44) (L' := [some (.inr (12, 0)), some (.inl (.int r4)), none]) (st' := [.inl (.int (6 : Int32)), .inl (.int (ax_fi S1 12 0 29))]) (S' := S1) ok_X12_readClause.1 (by decide +kernel) rfl rfl ?_
        refine ax_Tic_ge (off := 7) (tgt := 51) (by decide +kernel) (by decide) (fun c31 => ?_) (fun c31 => ?_)
        · rw [if_pos c31] at h
          refine ax_Tgo [.iconst 0] (pc' := 52) (L' := [some (.inr (12, 0)), some (.inl (.int r4)), none]) (st' := [.inl (.int (0 : Int32))]) (S' := S1) ok_X12_readClause.1 (by decide +kernel) rfl rfl ?_
          exact hJ7 (0 : Int32) S1 _ h
        · rw [if_neg c31] at h
          refine ax_Tgo [.iconst 1] (pc' := 48) (L' := [some (.inr (12, 0)), some (.inl (.int r4)), none]) (st' := [.inl (.int (1 : Int32))]) (S' := S1) ok_X12_readClause.1 (by decide +kernel) rfl rfl ?_
          refine ax_Tgoto (off := 4) (tgt := 52) (by decide +kernel) (by decide) ?_
          exact hJ7 (1 : Int32) S1 _ h
    · rw [if_pos c29] at h
      refine ax_Tgo [.aload_n 0, .getfield 242, .iconst 4] (pc' := 29) (L' := [some (.inr (12, 0)), some (.inl (.int r4)), none]) (st' := [.inl (.int (4 : Int32)), .inl (.int (ax_fi S1 12 0 28))]) (S' := S1) ok_X12_readClause.1 (by decide +kernel) rfl rfl ?_
      refine ax_Tic_lt (off := 18) (tgt := 47) (by decide +kernel) (by decide) (fun c32 => ?_) (fun c32 => ?_)
      · rw [if_pos c32] at h
        refine ax_Tgo [.iconst 1] (pc' := 48) (L' := [some (.inr (12, 0)), some (.inl (.int r4)), none]) (st' := [.inl (.int (1 : Int32))]) (S' := S1) ok_X12_readClause.1 (by decide +kernel) rfl rfl ?_
        refine ax_Tgoto (off := 4) (tgt := 52) (by decide +kernel) (by decide) ?_
        exact hJ7 (1 : Int32) S1 _ h
      · rw [if_neg c32] at h
        refine ax_Tgo [.iload_n 1, .bipush 118] (pc' := 35) (L' := [some (.inr (12, 0)), some (.inl (.int r4)), none]) (st' := [.inl (.int (118 : Int32)), .inl (.int r4)]) (S' := S1) ok_X12_readClause.1 (by decide +kernel) rfl rfl ?_
        refine ax_Tic_ne (off := 16) (tgt := 51) (by decide +kernel) (by decide) (fun c33 => ?_) (fun c33 => ?_)
        · rw [if_neg c33] at h
          refine ax_Tgo [.iconst 0] (pc' := 52) (L' := [some (.inr (12, 0)), some (.inl (.int r4)), none]) (st' := [.inl (.int (0 : Int32))]) (S' := S1) ok_X12_readClause.1 (by decide +kernel) rfl rfl ?_
          exact hJ7 (0 : Int32) S1 _ h
        · rw [if_pos c33] at h
          refine ax_Tgo [.aload_n 0, .getfield 245, .bipush 6] (pc' := 44) (L' := [some (.inr (12, 0)), some (.inl (.int r4)), none]) (st' := [.inl (.int (6 : Int32)), .inl (.int (ax_fi S1 12 0 29))]) (S' := S1) ok_X12_readClause.1 (by decide +kernel) rfl rfl ?_
          refine ax_Tic_ge (off := 7) (tgt := 51) (by decide +kernel) (by decide) (fun c34 => ?_) (fun c34 => ?_)
          · rw [if_pos c34] at h
            refine ax_Tgo [.iconst 0] (pc' := 52) (L' := [some (.inr (12, 0)), some (.inl (.int r4)), none]) (st' := [.inl (.int (0 : Int32))]) (S' := S1) ok_X12_readClause.1 (by decide +kernel) rfl rfl ?_
            exact hJ7 (0 : Int32) S1 _ h
          · rw [if_neg c34] at h
            refine ax_Tgo [.iconst 1] (pc' := 48) (L' := [some (.inr (12, 0)), some (.inl (.int r4)), none]) (st' := [.inl (.int (1 : Int32))]) (S' := S1) ok_X12_readClause.1 (by decide +kernel) rfl rfl ?_
            refine ax_Tgoto (off := 4) (tgt := 52) (by decide +kernel) (by decide) ?_
            exact hJ7 (1 : Int32) S1 _ h
  · rw [if_pos c28] at h
    refine ax_Tgo [.aload_n 0, .getfield 239] (pc' := 15) (L' := [some (.inr (12, 0)), some (.inl (.int r4)), none]) (st' := [.inl (.int (ax_fi S1 12 0 31))]) (S' := S1) ok_X12_readClause.1 (by decide +kernel) rfl rfl ?_
    refine ax_Tif_eq (off := 32) (tgt := 47) (by decide +kernel) (by decide) (fun c35 => ?_) (fun c35 => ?_)
    · rw [if_pos c35] at h
      refine ax_Tgo [.iconst 1] (pc' := 48) (L' := [some (.inr (12, 0)), some (.inl (.int r4)), none]) (st' := [.inl (.int (1 : Int32))]) (S' := S1) ok_X12_readClause.1 (by decide +kernel) rfl rfl ?_
      refine ax_Tgoto (off := 4) (tgt := 52) (by decide +kernel) (by decide) ?_
      exact hJ7 (1 : Int32) S1 _ h
    · rw [if_neg c35] at h
      refine ax_Tgo [.iload_n 1, .bipush 108] (pc' := 21) (L' := [some (.inr (12, 0)), some (.inl (.int r4)), none]) (st' := [.inl (.int (108 : Int32)), .inl (.int r4)]) (S' := S1) ok_X12_readClause.1 (by decide +kernel) rfl rfl ?_
      refine ax_Tic_ne (off := 11) (tgt := 32) (by decide +kernel) (by decide) (fun c36 => ?_) (fun c36 => ?_)
      · rw [if_neg c36] at h
        refine ax_Tgo [.iload_n 1, .bipush 118] (pc' := 35) (L' := [some (.inr (12, 0)), some (.inl (.int r4)), none]) (st' := [.inl (.int (118 : Int32)), .inl (.int r4)]) (S' := S1) ok_X12_readClause.1 (by decide +kernel) rfl rfl ?_
        refine ax_Tic_ne (off := 16) (tgt := 51) (by decide +kernel) (by decide) (fun c37 => ?_) (fun c37 => ?_)
        · rw [if_neg c37] at h
          refine ax_Tgo [.iconst 0] (pc' := 52) (L' := [some (.inr (12, 0)), some (.inl (.int r4)), none]) (st' := [.inl (.int (0 : Int32))]) (S' := S1) ok_X12_readClause.1 (by decide +kernel) rfl rfl ?_
          exact hJ7 (0 : Int32) S1 _ h
        · rw [if_pos c37] at h
          refine ax_Tgo [.aload_n 0, .getfield 245, .bipush 6] (pc' := 44) (L' := [some (.inr (12, 0)), some (.inl (.int r4)), none]) (st' := [.inl (.int (6 : Int32)), .inl (.int (ax_fi S1 12 0 29))]) (S' := S1) ok_X12_readClause.1 (by decide +kernel) rfl rfl ?_
          refine ax_Tic_ge (off := 7) (tgt := 51) (by decide +kernel) (by decide) (fun c38 => ?_) (fun c38 => ?_)
          · rw [if_pos c38] at h
            refine ax_Tgo [.iconst 0] (pc' := 52) (L' := [some (.inr (12, 0)), some (.inl (.int r4)), none]) (st' := [.inl (.int (0 : Int32))]) (S' := S1) ok_X12_readClause.1 (by decide +kernel) rfl rfl ?_
            exact hJ7 (0 : Int32) S1 _ h
          · rw [if_neg c38] at h
            refine ax_Tgo [.iconst 1] (pc' := 48) (L' := [some (.inr (12, 0)), some (.inl (.int r4)), none]) (st' := [.inl (.int (1 : Int32))]) (S' := S1) ok_X12_readClause.1 (by decide +kernel) rfl rfl ?_
            refine ax_Tgoto (off := 4) (tgt := 52) (by decide +kernel) (by decide) ?_
            exact hJ7 (1 : Int32) S1 _ h
      · rw [if_pos c36] at h
        refine ax_Tgo [.aload_n 0, .getfield 242, .iconst 4] (pc' := 29) (L' := [some (.inr (12, 0)), some (.inl (.int r4)), none]) (st' := [.inl (.int (4 : Int32)), .inl (.int (ax_fi S1 12 0 28))]) (S' := S1) ok_X12_readClause.1 (by decide +kernel) rfl rfl ?_
        refine ax_Tic_lt (off := 18) (tgt := 47) (by decide +kernel) (by decide) (fun c39 => ?_) (fun c39 => ?_)
        · rw [if_pos c39] at h
          refine ax_Tgo [.iconst 1] (pc' := 48) (L' := [some (.inr (12, 0)), some (.inl (.int r4)), none]) (st' := [.inl (.int (1 : Int32))]) (S' := S1) ok_X12_readClause.1 (by decide +kernel) rfl rfl ?_
          refine ax_Tgoto (off := 4) (tgt := 52) (by decide +kernel) (by decide) ?_
          exact hJ7 (1 : Int32) S1 _ h
        · rw [if_neg c39] at h
          refine ax_Tgo [.iload_n 1, .bipush 118] (pc' := 35) (L' := [some (.inr (12, 0)), some (.inl (.int r4)), none]) (st' := [.inl (.int (118 : Int32)), .inl (.int r4)]) (S' := S1) ok_X12_readClause.1 (by decide +kernel) rfl rfl ?_
          refine ax_Tic_ne (off := 16) (tgt := 51) (by decide +kernel) (by decide) (fun c40 => ?_) (fun c40 => ?_)
          · rw [if_neg c40] at h
            refine ax_Tgo [.iconst 0] (pc' := 52) (L' := [some (.inr (12, 0)), some (.inl (.int r4)), none]) (st' := [.inl (.int (0 : Int32))]) (S' := S1) ok_X12_readClause.1 (by decide +kernel) rfl rfl ?_
            exact hJ7 (0 : Int32) S1 _ h
          · rw [if_pos c40] at h
            refine ax_Tgo [.aload_n 0, .getfield 245, .bipush 6] (pc' := 44) (L' := [some (.inr (12, 0)), some (.inl (.int r4)), none]) (st' := [.inl (.int (6 : Int32)), .inl (.int (ax_fi S1 12 0 29))]) (S' := S1) ok_X12_readClause.1 (by decide +kernel) rfl rfl ?_
            refine ax_Tic_ge (off := 7) (tgt := 51) (by decide +kernel) (by decide) (fun c41 => ?_) (fun c41 => ?_)
            · rw [if_pos c41] at h
              refine ax_Tgo [.iconst 0] (pc' := 52) (L' := [some (.inr (12, 0)), some (.inl (.int r4)), none]) (st' := [.inl (.int (0 : Int32))]) (S' := S1) ok_X12_readClause.1 (by decide +kernel) rfl rfl ?_
              exact hJ7 (0 : Int32) S1 _ h
            · rw [if_neg c41] at h
              refine ax_Tgo [.iconst 1] (pc' := 48) (L' := [some (.inr (12, 0)), some (.inl (.int r4)), none]) (st' := [.inl (.int (1 : Int32))]) (S' := S1) ok_X12_readClause.1 (by decide +kernel) rfl rfl ?_
              refine ax_Tgoto (off := 4) (tgt := 52) (by decide +kernel) (by decide) ?_
              exact hJ7 (1 : Int32) S1 _ h
def f_X12_isWhole_L2 (S : AS) (K36 : Option (Int32)) : Nat → Int32 → Option (Int32)
  | 0, _ => none
  | n + 1, x1 => (if (ax_fi S 12 0 29) ≤ x1 then K36 else ax_gd (ax_in (((7 : Int32) * x1) + (5 : Int32)) 42) ((if (ax_ai S 52 0 (((7 : Int32) * x1) + (5 : Int32)).toNatClampNeg) < (ax_fi S 12 0 28) then ax_let (x1 + (1 : Int32)) (fun (v5 : Int32) => f_X12_isWhole_L2 S K36 n v5) else some (0 : Int32))))
def f_X12_isWhole (S : AS) : Option (Int32) := f_X12_isWhole_L2 S ((if (ax_fi S 12 0 28) ≤ (0 : Int32) then some (0 : Int32) else (if (ax_fi S 12 0 29) ≤ (0 : Int32) then some (0 : Int32) else some (1 : Int32)))) ax_F (0 : Int32)
set_option maxRecDepth 100000 in
theorem t_X12_isWhole_L2 {l : Launch} {S : AS} {K36 : Option (Int32)} (hK36 : ∀ r, K36  = some r → ax_T l 0 ma_X12_isWhole (36, [some (.inr (12, 0)), none], [], S) (some (.inl (.int r))) S) : ∀ (n : Nat) (x1 : Int32) r, f_X12_isWhole_L2 S K36 n x1  = some r → ax_T l 0 ma_X12_isWhole (2, [some (.inr (12, 0)), some (.inl (.int x1))], [], S) (some (.inl (.int r))) S := by
  intro n
  induction n with
  | zero =>
    intro x1  r h
    cases h
  | succ n ih =>
    intro x1  r h
    unfold f_X12_isWhole_L2 at h
    refine ax_Tgo [.iload_n 1, .aload_n 0, .getfield 245] (pc' := 7) (L' := [some (.inr (12, 0)), some (.inl (.int x1))]) (st' := [.inl (.int (ax_fi S 12 0 29)), .inl (.int x1)]) (S' := S) ok_X12_isWhole.1 (by decide +kernel) rfl rfl ?_
    refine ax_Tic_ge (off := 29) (tgt := 36) (by decide +kernel) (by decide) (fun c2 => ?_) (fun c2 => ?_)
    · rw [if_pos c2] at h
      refine ax_Tdrop [true, false] (L' := [some (.inr (12, 0)), none]) rfl ?_
      exact hK36 _ h
    · rw [if_neg c2] at h
      refine ax_Tgo [.aload_n 0, .getfield 52, .bipush 7, .iload_n 1, .imul, .iconst 5, .iadd] (pc' := 20) (L' := [some (.inr (12, 0)), some (.inl (.int x1))]) (st' := [.inl (.int (((7 : Int32) * x1) + (5 : Int32))), .inr (52, 0)]) (S' := S) ok_X12_isWhole.1 (by decide +kernel) rfl rfl ?_
      obtain ⟨g3, h⟩ := ax_gd_e h
      refine ax_Tali (n := 42) ok_X12_isWhole.1 (by decide +kernel) (by decide) rfl g3 ?_
      refine ax_Tgo [.aload_n 0, .getfield 242] (pc' := 25) (L' := [some (.inr (12, 0)), some (.inl (.int x1))]) (st' := [.inl (.int (ax_fi S 12 0 28)), .inl (.int (ax_ai S 52 0 (((7 : Int32) * x1) + (5 : Int32)).toNatClampNeg))]) (S' := S) ok_X12_isWhole.1 (by decide +kernel) rfl rfl ?_
      refine ax_Tic_lt (off := 5) (tgt := 30) (by decide +kernel) (by decide) (fun c4 => ?_) (fun c4 => ?_)
      · rw [if_pos c4] at h
        refine ax_Tgo [.iinc 1 1] (pc' := 33) (L' := [some (.inr (12, 0)), some (.inl (.int (x1 + (1 : Int32))))]) (st' := []) (S' := S) ok_X12_isWhole.1 (by decide +kernel) rfl rfl ?_
        obtain ⟨v5, ev5, h⟩ := ax_let_e h
        rw [ev5]
        refine ax_Tgoto (off := (-31)) (tgt := 2) (by decide +kernel) (by decide) ?_
        exact ih v5 _ h
      · rw [if_neg c4] at h
        refine ax_Tgo [.iconst 0] (pc' := 29) (L' := [some (.inr (12, 0)), some (.inl (.int x1))]) (st' := [.inl (.int (0 : Int32))]) (S' := S) ok_X12_isWhole.1 (by decide +kernel) rfl rfl ?_
        cases h
        exact ax_Treti (by decide +kernel) rfl rfl
set_option maxRecDepth 100000 in
theorem t_X12_isWhole {l : Launch} {S : AS} {r : Int32} (h : f_X12_isWhole S = some r) : ax_M l 0 ma_X12_isWhole [.inr (12, 0)] S (some (.inl (.int r))) S := by
  unfold f_X12_isWhole at h
  show ax_T l 0 ma_X12_isWhole (0, [some (.inr (12, 0)), none], [], S) (some (.inl (.int r))) S
  refine ax_Tgo [.iconst 0, .istore_n 1] (pc' := 2) (L' := [some (.inr (12, 0)), some (.inl (.int (0 : Int32)))]) (st' := []) (S' := S) ok_X12_isWhole.1 (by decide +kernel) rfl rfl ?_
  refine t_X12_isWhole_L2 ?_ _ (0 : Int32) _ h
  · intro  r h
    refine ax_Tgo [.aload_n 0, .getfield 242] (pc' := 40) (L' := [some (.inr (12, 0)), none]) (st' := [.inl (.int (ax_fi S 12 0 28))]) (S' := S) ok_X12_isWhole.1 (by decide +kernel) rfl rfl ?_
    refine ax_Tif_le (off := 14) (tgt := 54) (by decide +kernel) (by decide) (fun c6 => ?_) (fun c6 => ?_)
    · rw [if_pos c6] at h
      refine ax_Tgo [.iconst 0] (pc' := 55) (L' := [some (.inr (12, 0)), none]) (st' := [.inl (.int (0 : Int32))]) (S' := S) ok_X12_isWhole.1 (by decide +kernel) rfl rfl ?_
      cases h
      exact ax_Treti (by decide +kernel) rfl rfl
    · rw [if_neg c6] at h
      refine ax_Tgo [.aload_n 0, .getfield 245] (pc' := 47) (L' := [some (.inr (12, 0)), none]) (st' := [.inl (.int (ax_fi S 12 0 29))]) (S' := S) ok_X12_isWhole.1 (by decide +kernel) rfl rfl ?_
      refine ax_Tif_le (off := 7) (tgt := 54) (by decide +kernel) (by decide) (fun c7 => ?_) (fun c7 => ?_)
      · rw [if_pos c7] at h
        refine ax_Tgo [.iconst 0] (pc' := 55) (L' := [some (.inr (12, 0)), none]) (st' := [.inl (.int (0 : Int32))]) (S' := S) ok_X12_isWhole.1 (by decide +kernel) rfl rfl ?_
        cases h
        exact ax_Treti (by decide +kernel) rfl rfl
      · rw [if_neg c7] at h
        refine ax_Tgo [.iconst 1] (pc' := 51) (L' := [some (.inr (12, 0)), none]) (st' := [.inl (.int (1 : Int32))]) (S' := S) ok_X12_isWhole.1 (by decide +kernel) rfl rfl ?_
        refine ax_Tgoto (off := 4) (tgt := 55) (by decide +kernel) (by decide) ?_
        cases h
        exact ax_Treti (by decide +kernel) rfl rfl
def f_X12_readHouse_L30 (K53 : AS → Option (AS)) : Nat → Int32 → AS → Option (AS)
  | 0, _, _ => none
  | n + 1, x7, S8 => (if (3 : Int32) ≤ x7 then K53 S8 else (f_X12_usual (115 : Int32) x7 S8).bind (fun (r13 : Int32) => ax_gd (ax_in x7 3) (ax_let (ax_sai S8 48 0 x7.toNatClampNeg r13) (fun (S15 : AS) => ax_let (x7 + (1 : Int32)) (fun (v16 : Int32) => f_X12_readHouse_L30 K53 n v16 S15)))))
def f_X12_readHouse_L55 (K111 : AS → Option (AS)) : Nat → Int32 → AS → Option (AS)
  | 0, _, _ => none
  | n + 1, x18, S19 => (if x18 = (0 : Int32) then K111 S19 else (if (ax_fi S19 12 0 11) = (Int32.ofInt (-1)) then (f_X12_readClause S19).bind (fun (S22 : AS) => ax_let (fun (x25 : Int32) (S26 : AS) => (if x25 = (0 : Int32) then f_X12_readHouse_L55 K111 n x25 S26 else ax_let (ax_sfi S26 12 0 10 ((ax_fi S26 12 0 10) + (1 : Int32))) (fun (S29 : AS) => f_X12_readHouse_L55 K111 n x25 S29))) (fun J27 => (if (ax_fi S22 12 0 11) = (Int32.ofInt (-1)) then ax_bu (f_X12_look S22) (fun (r34 : Int32) (S31 : AS) => (if r34 = (59 : Int32) then J27 (1 : Int32) S31 else J27 (0 : Int32) S31)) else J27 (0 : Int32) S22))) else K111 S19))
def f_X12_readHouse (S : AS) : Option (AS) := (f_X12_starts_44 0 (0 : Int32) (ax_fi S 12 0 6) S).bind (fun (S1 : AS) => ax_let (ax_sfi S1 12 0 28 (0 : Int32)) (fun (S4 : AS) => ax_let (ax_sfi S4 12 0 29 (0 : Int32)) (fun (S5 : AS) => ax_let (ax_sfi S5 12 0 31 (0 : Int32)) (fun (S6 : AS) => f_X12_readHouse_L30 (fun (S17 : AS) => f_X12_readHouse_L55 (fun (S36 : AS) => (if (ax_fi S36 12 0 11) = (Int32.ofInt (-1)) then ax_bu (f_X12_look S36) (fun (r41 : Int32) (S38 : AS) => (if r41 = (Int32.ofInt (-1)) then (f_X12_isWhole S38).bind (fun (r50 : Int32) => (if r50 = (0 : Int32) then ax_bu (f_X12_fails S38) (fun (r55 : Int32) (S52 : AS) => some S52) else some S38)) else ax_bu (f_X12_fails S38) (fun (r46 : Int32) (S43 : AS) => some S43))) else some S36)) ax_F (1 : Int32) S17) ax_F (0 : Int32) S6))))
set_option maxRecDepth 100000 in
theorem t_X12_readHouse_L30 {l : Launch} {K53 : AS → Option (AS)} (hK53 : ∀ (S : AS) Z, K53 S = some Z → ax_T l 7 ma_X12_readHouse (53, [some (.inr (12, 0)), none], [], S) none Z) : ∀ (n : Nat) (x7 : Int32) (S8 : AS) Z, f_X12_readHouse_L30 K53 n x7 S8 = some Z → ax_T l 7 ma_X12_readHouse (30, [some (.inr (12, 0)), some (.inl (.int x7))], [], S8) none Z := by
  intro n
  induction n with
  | zero =>
    intro x7 S8 Z h
    cases h
  | succ n ih =>
    intro x7 S8 Z h
    unfold f_X12_readHouse_L30 at h
    refine ax_Tgo [.iload_n 1, .iconst 3] (pc' := 32) (L' := [some (.inr (12, 0)), some (.inl (.int x7))]) (st' := [.inl (.int (3 : Int32)), .inl (.int x7)]) (S' := S8) ok_X12_readHouse.1 (by decide +kernel) rfl rfl ?_
    refine ax_Tic_ge (off := 21) (tgt := 53) (by decide +kernel) (by decide) (fun c9 => ?_) (fun c9 => ?_)
    · rw [if_pos c9] at h
      refine ax_Tdrop [true, false] (L' := [some (.inr (12, 0)), none]) rfl ?_
      exact hK53 S8 _ h
    · rw [if_neg c9] at h
      refine ax_Tgo [.aload_n 0, .getfield 40, .iload_n 1, .bipush 115, .iload_n 1] (pc' := 43) (L' := [some (.inr (12, 0)), some (.inl (.int x7))]) (st' := [.inl (.int x7), .inl (.int (115 : Int32)), .inl (.int x7), .inr (48, 0)]) (S' := S8) ok_X12_readHouse.1 (by decide +kernel) rfl rfl ?_
      obtain ⟨r13, hq11, h⟩ := ax_bd_e h
      refine ax_TSi (d := 6) [.inl (.int (115 : Int32)), .inl (.int x7)] [.inl (.int x7), .inr (48, 0)] lk_X12_218 (by decide +kernel) rfl rfl (Nat.le_of_ble_eq_true rfl) (Nat.le_of_ble_eq_true rfl) ((t_X12_usual hq11).up (by decide)) ?_
      obtain ⟨g14, h⟩ := ax_gd_e h
      refine ax_Tasi (n := 3) ok_X12_readHouse.1 (by decide +kernel) (by decide) rfl g14 ?_
      obtain ⟨S15, eS15, h⟩ := ax_let_e h
      rw [eS15]
      refine ax_Tgo [.iinc 1 1] (pc' := 50) (L' := [some (.inr (12, 0)), some (.inl (.int (x7 + (1 : Int32))))]) (st' := []) (S' := S15) ok_X12_readHouse.1 (by decide +kernel) rfl rfl ?_
      obtain ⟨v16, ev16, h⟩ := ax_let_e h
      rw [ev16]
      refine ax_Tgoto (off := (-20)) (tgt := 30) (by decide +kernel) (by decide) ?_
      exact ih v16 S15 _ h
set_option maxRecDepth 100000 in
theorem t_X12_readHouse_L55 {l : Launch} {K111 : AS → Option (AS)} (hK111 : ∀ (S : AS) Z, K111 S = some Z → ax_T l 7 ma_X12_readHouse (111, [some (.inr (12, 0)), none], [], S) none Z) : ∀ (n : Nat) (x18 : Int32) (S19 : AS) Z, f_X12_readHouse_L55 K111 n x18 S19 = some Z → ax_T l 7 ma_X12_readHouse (55, [some (.inr (12, 0)), some (.inl (.int x18))], [], S19) none Z := by
  intro n
  induction n with
  | zero =>
    intro x18 S19 Z h
    cases h
  | succ n ih =>
    intro x18 S19 Z h
    unfold f_X12_readHouse_L55 at h
    refine ax_Tgo [.iload_n 1] (pc' := 56) (L' := [some (.inr (12, 0)), some (.inl (.int x18))]) (st' := [.inl (.int x18)]) (S' := S19) ok_X12_readHouse.1 (by decide +kernel) rfl rfl ?_
    refine ax_Tif_eq (off := 55) (tgt := 111) (by decide +kernel) (by decide) (fun c20 => ?_) (fun c20 => ?_)
    · rw [if_pos c20] at h
      refine ax_Tdrop [true, false] (L' := [some (.inr (12, 0)), none]) rfl ?_
      exact hK111 S19 _ h
    · rw [if_neg c20] at h
      refine ax_Tgo [.aload_n 0, .getfield 125, .iconst (-1)] (pc' := 64) (L' := [some (.inr (12, 0)), some (.inl (.int x18))]) (st' := [.inl (.int (Int32.ofInt (-1))), .inl (.int (ax_fi S19 12 0 11))]) (S' := S19) ok_X12_readHouse.1 (by decide +kernel) rfl rfl ?_
      refine ax_Tic_ne (off := 47) (tgt := 111) (by decide +kernel) (by decide) (fun c21 => ?_) (fun c21 => ?_)
      · rw [if_neg c21] at h
        refine ax_Tdrop [true, false] (L' := [some (.inr (12, 0)), none]) rfl ?_
        exact hK111 S19 _ h
      · rw [if_pos c21] at h
        refine ax_Tgo [.aload_n 0] (pc' := 68) (L' := [some (.inr (12, 0)), some (.inl (.int x18))]) (st' := [.inr (12, 0)]) (S' := S19) ok_X12_readHouse.1 (by decide +kernel) rfl rfl ?_
        obtain ⟨S22, hq23, h⟩ := ax_bd_e h
        refine ax_TVv (d := 6) (ka := 12) (i := 0) [] [] lk_X12_258 (by decide +kernel) rfl (by decide) rfl (Nat.le_of_ble_eq_true rfl) (Nat.le_of_ble_eq_true rfl) ((t_X12_readClause hq23).up (by decide)) ?_
        refine ax_Tgo [.aload_n 0, .getfield 125, .iconst (-1)] (pc' := 76) (L' := [some (.inr (12, 0)), some (.inl (.int x18))]) (st' := [.inl (.int (Int32.ofInt (-1))), .inl (.int (ax_fi S22 12 0 11))]) (S' := S22) ok_X12_readHouse.1 (by decide +kernel) rfl rfl ?_
        obtain ⟨J27, eJ27, h⟩ := ax_let_e h
        have hJ27 : ∀ (x25 : Int32) (S26 : AS) Z, J27 x25 S26 = some Z → ax_T l 7 ma_X12_readHouse (93, [some (.inr (12, 0)), none], [.inl (.int x25)], S26) none Z := by
          intro x25 S26 Z h
          rw [← eJ27] at h
          try dsimp only at h
          refine ax_Tgo [.istore_n 1, .iload_n 1] (pc' := 95) (L' := [some (.inr (12, 0)), some (.inl (.int x25))]) (st' := [.inl (.int x25)]) (S' := S26) ok_X12_readHouse.1 (by decide +kernel) rfl rfl ?_
          refine ax_Tif_eq (off := (-40)) (tgt := 55) (by decide +kernel) (by decide) (fun c28 => ?_) (fun c28 => ?_)
          · rw [if_pos c28] at h
            exact ih x25 S26 _ h
          · rw [if_neg c28] at h
            refine ax_Tgo [.aload_n 0, .dup, .getfield 116, .iconst 1, .iadd, .putfield 116] (pc' := 108) (L' := [some (.inr (12, 0)), some (.inl (.int x25))]) (st' := []) (S' := (ax_sfi S26 12 0 10 ((ax_fi S26 12 0 10) + (1 : Int32)))) ok_X12_readHouse.1 (by decide +kernel) rfl rfl ?_
            obtain ⟨S29, eS29, h⟩ := ax_let_e h
            rw [eS29]
            refine ax_Tgoto (off := (-53)) (tgt := 55) (by decide +kernel) (by decide) ?_
            exact ih x25 S29 _ h
        refine ax_Tic_ne (off := 16) (tgt := 92) (by decide +kernel) (by decide) (fun c30 => ?_) (fun c30 => ?_)
        · rw [if_neg c30] at h
          refine ax_Tgo [.iconst 0] (pc' := 93) (L' := [some (.inr (12, 0)), some (.inl (.int x18))]) (st' := [.inl (.int (0 : Int32))]) (S' := S22) ok_X12_readHouse.1 (by decide +kernel) rfl rfl ?_
          refine ax_Tdrop [true, false] (L' := [some (.inr (12, 0)), none]) rfl ?_
          exact hJ27 (0 : Int32) S22 _ h
        · rw [if_pos c30] at h
          refine ax_Tgo [.aload_n 0] (pc' := 80) (L' := [some (.inr (12, 0)), some (.inl (.int x18))]) (st' := [.inr (12, 0)]) (S' := S22) ok_X12_readHouse.1 (by decide +kernel) rfl rfl ?_
          obtain ⟨r34, S31, hq32, h⟩ := ax_bu_e h
          refine ax_TVi (d := 6) (ka := 12) (i := 0) [] [] lk_X12_135 (by decide +kernel) rfl (by decide) rfl (Nat.le_of_ble_eq_true rfl) (Nat.le_of_ble_eq_true rfl) ((t_X12_look hq32).up (by decide)) ?_
          refine ax_Tgo [.bipush 59] (pc' := 85) (L' := [some (.inr (12, 0)), some (.inl (.int x18))]) (st' := [.inl (.int (59 : Int32)), .inl (.int r34)]) (S' := S31) ok_X12_readHouse.1 (by decide +kernel) rfl rfl ?_
          refine ax_Tic_ne (off := 7) (tgt := 92) (by decide +kernel) (by decide) (fun c35 => ?_) (fun c35 => ?_)
          · rw [if_neg c35] at h
            refine ax_Tgo [.iconst 0] (pc' := 93) (L' := [some (.inr (12, 0)), some (.inl (.int x18))]) (st' := [.inl (.int (0 : Int32))]) (S' := S31) ok_X12_readHouse.1 (by decide +kernel) rfl rfl ?_
            refine ax_Tdrop [true, false] (L' := [some (.inr (12, 0)), none]) rfl ?_
            exact hJ27 (0 : Int32) S31 _ h
          · rw [if_pos c35] at h
            refine ax_Tgo [.iconst 1] (pc' := 89) (L' := [some (.inr (12, 0)), some (.inl (.int x18))]) (st' := [.inl (.int (1 : Int32))]) (S' := S31) ok_X12_readHouse.1 (by decide +kernel) rfl rfl ?_
            refine ax_Tgoto (off := 4) (tgt := 93) (by decide +kernel) (by decide) ?_
            refine ax_Tdrop [true, false] (L' := [some (.inr (12, 0)), none]) rfl ?_
            exact hJ27 (1 : Int32) S31 _ h
set_option maxRecDepth 100000 in
theorem t_X12_readHouse {l : Launch} {S Z : AS} (h : f_X12_readHouse S = some Z) : ax_M l 7 ma_X12_readHouse [.inr (12, 0)] S none Z := by
  unfold f_X12_readHouse at h
  show ax_T l 7 ma_X12_readHouse (0, [some (.inr (12, 0)), none], [], S) none Z
  refine ax_Tgo [.aload_n 0, .aload_n 0, .getfield 9, .iconst 0, .aload_n 0, .getfield 106] (pc' := 10) (L' := [some (.inr (12, 0)), none]) (st' := [.inl (.int (ax_fi S 12 0 6)), .inl (.int (0 : Int32)), .inr (44, 0), .inr (12, 0)]) (S' := S) ok_X12_readHouse.1 (by decide +kernel) rfl rfl ?_
  obtain ⟨S1, hq2, h⟩ := ax_bd_e h
  refine ax_TVv (d := 6) (ka := 12) (i := 0) [.inr (44, 0), .inl (.int (0 : Int32)), .inl (.int (ax_fi S 12 0 6))] [] lk_X12_204 (by decide +kernel) rfl (by decide) rfl (Nat.le_of_ble_eq_true rfl) (Nat.le_of_ble_eq_true rfl) ((t_X12_starts_44 hq2).up (by decide)) ?_
  refine ax_Tgo [.aload_n 0, .iconst 0, .putfield 242] (pc' := 18) (L' := [some (.inr (12, 0)), none]) (st' := []) (S' := (ax_sfi S1 12 0 28 (0 : Int32))) ok_X12_readHouse.1 (by decide +kernel) rfl rfl ?_
  obtain ⟨S4, eS4, h⟩ := ax_let_e h
  rw [eS4]
  refine ax_Tgo [.aload_n 0, .iconst 0, .putfield 245] (pc' := 23) (L' := [some (.inr (12, 0)), none]) (st' := []) (S' := (ax_sfi S4 12 0 29 (0 : Int32))) ok_X12_readHouse.1 (by decide +kernel) rfl rfl ?_
  obtain ⟨S5, eS5, h⟩ := ax_let_e h
  rw [eS5]
  refine ax_Tgo [.aload_n 0, .iconst 0, .putfield 239] (pc' := 28) (L' := [some (.inr (12, 0)), none]) (st' := []) (S' := (ax_sfi S5 12 0 31 (0 : Int32))) ok_X12_readHouse.1 (by decide +kernel) rfl rfl ?_
  obtain ⟨S6, eS6, h⟩ := ax_let_e h
  rw [eS6]
  refine ax_Tgo [.iconst 0, .istore_n 1] (pc' := 30) (L' := [some (.inr (12, 0)), some (.inl (.int (0 : Int32)))]) (st' := []) (S' := S6) ok_X12_readHouse.1 (by decide +kernel) rfl rfl ?_
  refine t_X12_readHouse_L30 ?_ _ (0 : Int32) S6 _ h
  · intro S17 Z h
    refine ax_Tgo [.iconst 1, .istore_n 1] (pc' := 55) (L' := [some (.inr (12, 0)), some (.inl (.int (1 : Int32)))]) (st' := []) (S' := S17) ok_X12_readHouse.1 (by decide +kernel) rfl rfl ?_
    refine t_X12_readHouse_L55 ?_ _ (1 : Int32) S17 _ h
    · intro S36 Z h
      refine ax_Tgo [.aload_n 0, .getfield 125, .iconst (-1)] (pc' := 116) (L' := [some (.inr (12, 0)), none]) (st' := [.inl (.int (Int32.ofInt (-1))), .inl (.int (ax_fi S36 12 0 11))]) (S' := S36) ok_X12_readHouse.1 (by decide +kernel) rfl rfl ?_
      refine ax_Tic_ne (off := 23) (tgt := 139) (by decide +kernel) (by decide) (fun c37 => ?_) (fun c37 => ?_)
      · rw [if_neg c37] at h
        cases h
        exact ax_Tretv (by decide +kernel) rfl
      · rw [if_pos c37] at h
        refine ax_Tgo [.aload_n 0] (pc' := 120) (L' := [some (.inr (12, 0)), none]) (st' := [.inr (12, 0)]) (S' := S36) ok_X12_readHouse.1 (by decide +kernel) rfl rfl ?_
        obtain ⟨r41, S38, hq39, h⟩ := ax_bu_e h
        refine ax_TVi (d := 6) (ka := 12) (i := 0) [] [] lk_X12_135 (by decide +kernel) rfl (by decide) rfl (Nat.le_of_ble_eq_true rfl) (Nat.le_of_ble_eq_true rfl) ((t_X12_look hq39).up (by decide)) ?_
        refine ax_Tgo [.iconst (-1)] (pc' := 124) (L' := [some (.inr (12, 0)), none]) (st' := [.inl (.int (Int32.ofInt (-1))), .inl (.int r41)]) (S' := S38) ok_X12_readHouse.1 (by decide +kernel) rfl rfl ?_
        refine ax_Tic_ne (off := 10) (tgt := 134) (by decide +kernel) (by decide) (fun c42 => ?_) (fun c42 => ?_)
        · rw [if_neg c42] at h
          refine ax_Tgo [.aload_n 0] (pc' := 135) (L' := [some (.inr (12, 0)), none]) (st' := [.inr (12, 0)]) (S' := S38) ok_X12_readHouse.1 (by decide +kernel) rfl rfl ?_
          obtain ⟨r46, S43, hq44, h⟩ := ax_bu_e h
          refine ax_TVi (d := 6) (ka := 12) (i := 0) [] [] lk_X12_131 (by decide +kernel) rfl (by decide) rfl (Nat.le_of_ble_eq_true rfl) (Nat.le_of_ble_eq_true rfl) ((t_X12_fails hq44).up (by decide)) ?_
          refine ax_Tgo [.pop] (pc' := 139) (L' := [some (.inr (12, 0)), none]) (st' := []) (S' := S43) ok_X12_readHouse.1 (by decide +kernel) rfl rfl ?_
          cases h
          exact ax_Tretv (by decide +kernel) rfl
        · rw [if_pos c42] at h
          refine ax_Tgo [.aload_n 0] (pc' := 128) (L' := [some (.inr (12, 0)), none]) (st' := [.inr (12, 0)]) (S' := S38) ok_X12_readHouse.1 (by decide +kernel) rfl rfl ?_
          obtain ⟨r50, hq48, h⟩ := ax_bd_e h
          refine ax_TVi (d := 6) (ka := 12) (i := 0) [] [] lk_X12_261 (by decide +kernel) rfl (by decide) rfl (Nat.le_of_ble_eq_true rfl) (Nat.le_of_ble_eq_true rfl) ((t_X12_isWhole hq48).up (by decide)) ?_
          refine ax_Tif_ne (off := 8) (tgt := 139) (by decide +kernel) (by decide) (fun c51 => ?_) (fun c51 => ?_)
          · rw [if_neg c51] at h
            cases h
            exact ax_Tretv (by decide +kernel) rfl
          · rw [if_pos c51] at h
            refine ax_Tgo [.aload_n 0] (pc' := 135) (L' := [some (.inr (12, 0)), none]) (st' := [.inr (12, 0)]) (S' := S38) ok_X12_readHouse.1 (by decide +kernel) rfl rfl ?_
            obtain ⟨r55, S52, hq53, h⟩ := ax_bu_e h
            refine ax_TVi (d := 6) (ka := 12) (i := 0) [] [] lk_X12_131 (by decide +kernel) rfl (by decide) rfl (Nat.le_of_ble_eq_true rfl) (Nat.le_of_ble_eq_true rfl) ((t_X12_fails hq53).up (by decide)) ?_
            refine ax_Tgo [.pop] (pc' := 139) (L' := [some (.inr (12, 0)), none]) (st' := []) (S' := S52) ok_X12_readHouse.1 (by decide +kernel) rfl rfl ?_
            cases h
            exact ax_Tretv (by decide +kernel) rfl
def f_X12_fault (a1 : Int32) (S : AS) : Option (Int32 × AS) := ax_let (ax_sfi S 12 0 0 (0 : Int32)) (fun (S1 : AS) => (f_X12_isIn (a1.toInt64) (0 : Int64) (2 : Int64) S1).bind (fun (r5 : Int32) => (if r5 = (0 : Int32) then some (((Int8.ofInt (-2)).toInt32), S1) else ax_let (fun (S7 : AS) => (if a1 = (1 : Int32) then (f_X12_goThrough_44 0 (0 : Int32) (ax_fi S7 12 0 6) S7).bind (fun (S14 : AS) => (if a1 = (2 : Int32) then (f_X12_readPlan S14).bind (fun (S18 : AS) => some ((ax_fi S18 12 0 11), S18)) else some ((ax_fi S14 12 0 11), S14))) else (if a1 = (2 : Int32) then (f_X12_readPlan S7).bind (fun (S11 : AS) => some ((ax_fi S11 12 0 11), S11)) else some ((ax_fi S7 12 0 11), S7)))) (fun J8 => (if a1 = (0 : Int32) then (f_X12_readHouse S1).bind (fun (S22 : AS) => J8 S22) else J8 S1)))))
set_option maxRecDepth 100000 in
theorem t_X12_fault {l : Launch} {a1 : Int32} {S Z : AS} {r : Int32} (h : f_X12_fault a1 S = some (r, Z)) : ax_M l 72 ma_X12_fault [.inr (12, 0), .inl (.int a1)] S (some (.inl (.int r))) Z := by
  unfold f_X12_fault at h
  show ax_T l 72 ma_X12_fault (0, [some (.inr (12, 0)), some (.inl (.int a1))], [], S) (some (.inl (.int r))) Z
  refine ax_Tgo [.aload_n 0, .iconst 0, .putfield 93] (pc' := 5) (L' := [some (.inr (12, 0)), some (.inl (.int a1))]) (st' := []) (S' := (ax_sfi S 12 0 0 (0 : Int32))) ok_X12_fault.1 (by decide +kernel) rfl rfl ?_
  obtain ⟨S1, eS1, h⟩ := ax_let_e h
  rw [eS1]
  refine ax_Tgo [.iload_n 1, .i2l, .lconst 0, .ldc2_w 269] (pc' := 11) (L' := [some (.inr (12, 0)), some (.inl (.int a1))]) (st' := [.inl (.long (2 : Int64)), .inl (.long (0 : Int64)), .inl (.long a1.toInt64)]) (S' := S1) ok_X12_fault.1 (by decide +kernel) rfl rfl ?_
  obtain ⟨r5, hq3, h⟩ := ax_bd_e h
  refine ax_TSi (d := 71) [.inl (.long a1.toInt64), .inl (.long (0 : Int64)), .inl (.long (2 : Int64))] [] lk_X12_214 (by decide +kernel) rfl rfl (Nat.le_of_ble_eq_true rfl) (Nat.le_of_ble_eq_true rfl) ((t_X12_isIn hq3).up (by decide)) ?_
  refine ax_Tif_ne (off := 6) (tgt := 20) (by decide +kernel) (by decide) (fun c6 => ?_) (fun c6 => ?_)
  · rw [if_neg c6] at h
    refine ax_Tgo [.iload_n 1] (pc' := 21) (L' := [some (.inr (12, 0)), some (.inl (.int a1))]) (st' := [.inl (.int a1)]) (S' := S1) ok_X12_fault.1 (by decide +kernel) rfl rfl ?_
    obtain ⟨J8, eJ8, h⟩ := ax_let_e h
    have hJ8 : ∀ (S7 : AS) r Z, J8 S7 = some (r, Z) → ax_T l 72 ma_X12_fault (28, [some (.inr (12, 0)), some (.inl (.int a1))], [], S7) (some (.inl (.int r))) Z := by
      intro S7 r Z h
      rw [← eJ8] at h
      try dsimp only at h
      refine ax_Tgo [.iload_n 1, .iconst 1] (pc' := 30) (L' := [some (.inr (12, 0)), some (.inl (.int a1))]) (st' := [.inl (.int (1 : Int32)), .inl (.int a1)]) (S' := S7) ok_X12_fault.1 (by decide +kernel) rfl rfl ?_
      refine ax_Tic_ne (off := 16) (tgt := 46) (by decide +kernel) (by decide) (fun c9 => ?_) (fun c9 => ?_)
      · rw [if_neg c9] at h
        refine ax_Tgo [.iload_n 1, .iconst 2] (pc' := 48) (L' := [some (.inr (12, 0)), some (.inl (.int a1))]) (st' := [.inl (.int (2 : Int32)), .inl (.int a1)]) (S' := S7) ok_X12_fault.1 (by decide +kernel) rfl rfl ?_
        refine ax_Tic_ne (off := 7) (tgt := 55) (by decide +kernel) (by decide) (fun c10 => ?_) (fun c10 => ?_)
        · rw [if_neg c10] at h
          refine ax_Tgo [.aload_n 0, .getfield 125] (pc' := 59) (L' := [some (.inr (12, 0)), some (.inl (.int a1))]) (st' := [.inl (.int (ax_fi S7 12 0 11))]) (S' := S7) ok_X12_fault.1 (by decide +kernel) rfl rfl ?_
          cases h
          exact ax_Treti (by decide +kernel) rfl rfl
        · rw [if_pos c10] at h
          refine ax_Tgo [.aload_n 0] (pc' := 52) (L' := [some (.inr (12, 0)), some (.inl (.int a1))]) (st' := [.inr (12, 0)]) (S' := S7) ok_X12_fault.1 (by decide +kernel) rfl rfl ?_
          obtain ⟨S11, hq12, h⟩ := ax_bd_e h
          refine ax_TVv (d := 71) (ka := 12) (i := 0) [] [] lk_X12_277 (by decide +kernel) rfl (by decide) rfl (Nat.le_of_ble_eq_true rfl) (Nat.le_of_ble_eq_true rfl) ((t_X12_readPlan hq12).up (by decide)) ?_
          refine ax_Tgo [.aload_n 0, .getfield 125] (pc' := 59) (L' := [some (.inr (12, 0)), some (.inl (.int a1))]) (st' := [.inl (.int (ax_fi S11 12 0 11))]) (S' := S11) ok_X12_fault.1 (by decide +kernel) rfl rfl ?_
          cases h
          exact ax_Treti (by decide +kernel) rfl rfl
      · rw [if_pos c9] at h
        refine ax_Tgo [.aload_n 0, .aload_n 0, .getfield 9, .iconst 0, .aload_n 0, .getfield 106] (pc' := 43) (L' := [some (.inr (12, 0)), some (.inl (.int a1))]) (st' := [.inl (.int (ax_fi S7 12 0 6)), .inl (.int (0 : Int32)), .inr (44, 0), .inr (12, 0)]) (S' := S7) ok_X12_fault.1 (by decide +kernel) rfl rfl ?_
        obtain ⟨S14, hq15, h⟩ := ax_bd_e h
        refine ax_TVv (d := 71) (ka := 12) (i := 0) [.inr (44, 0), .inl (.int (0 : Int32)), .inl (.int (ax_fi S7 12 0 6))] [] lk_X12_274 (by decide +kernel) rfl (by decide) rfl (Nat.le_of_ble_eq_true rfl) (Nat.le_of_ble_eq_true rfl) ((t_X12_goThrough_44 hq15).up (by decide)) ?_
        refine ax_Tgo [.iload_n 1, .iconst 2] (pc' := 48) (L' := [some (.inr (12, 0)), some (.inl (.int a1))]) (st' := [.inl (.int (2 : Int32)), .inl (.int a1)]) (S' := S14) ok_X12_fault.1 (by decide +kernel) rfl rfl ?_
        refine ax_Tic_ne (off := 7) (tgt := 55) (by decide +kernel) (by decide) (fun c17 => ?_) (fun c17 => ?_)
        · rw [if_neg c17] at h
          refine ax_Tgo [.aload_n 0, .getfield 125] (pc' := 59) (L' := [some (.inr (12, 0)), some (.inl (.int a1))]) (st' := [.inl (.int (ax_fi S14 12 0 11))]) (S' := S14) ok_X12_fault.1 (by decide +kernel) rfl rfl ?_
          cases h
          exact ax_Treti (by decide +kernel) rfl rfl
        · rw [if_pos c17] at h
          refine ax_Tgo [.aload_n 0] (pc' := 52) (L' := [some (.inr (12, 0)), some (.inl (.int a1))]) (st' := [.inr (12, 0)]) (S' := S14) ok_X12_fault.1 (by decide +kernel) rfl rfl ?_
          obtain ⟨S18, hq19, h⟩ := ax_bd_e h
          refine ax_TVv (d := 71) (ka := 12) (i := 0) [] [] lk_X12_277 (by decide +kernel) rfl (by decide) rfl (Nat.le_of_ble_eq_true rfl) (Nat.le_of_ble_eq_true rfl) ((t_X12_readPlan hq19).up (by decide)) ?_
          refine ax_Tgo [.aload_n 0, .getfield 125] (pc' := 59) (L' := [some (.inr (12, 0)), some (.inl (.int a1))]) (st' := [.inl (.int (ax_fi S18 12 0 11))]) (S' := S18) ok_X12_fault.1 (by decide +kernel) rfl rfl ?_
          cases h
          exact ax_Treti (by decide +kernel) rfl rfl
    refine ax_Tif_ne (off := 7) (tgt := 28) (by decide +kernel) (by decide) (fun c21 => ?_) (fun c21 => ?_)
    · rw [if_neg c21] at h
      exact hJ8 S1 _ _ h
    · rw [if_pos c21] at h
      refine ax_Tgo [.aload_n 0] (pc' := 25) (L' := [some (.inr (12, 0)), some (.inl (.int a1))]) (st' := [.inr (12, 0)]) (S' := S1) ok_X12_fault.1 (by decide +kernel) rfl rfl ?_
      obtain ⟨S22, hq23, h⟩ := ax_bd_e h
      refine ax_TVv (d := 71) (ka := 12) (i := 0) [] [] lk_X12_271 (by decide +kernel) rfl (by decide) rfl (Nat.le_of_ble_eq_true rfl) (Nat.le_of_ble_eq_true rfl) ((t_X12_readHouse hq23).up (by decide)) ?_
      exact hJ8 S22 _ _ h
  · rw [if_pos c6] at h
    refine ax_Tgo [.bipush (-2)] (pc' := 19) (L' := [some (.inr (12, 0)), some (.inl (.int a1))]) (st' := [.inl (.int ((Int8.ofInt (-2)).toInt32))]) (S' := S1) ok_X12_fault.1 (by decide +kernel) rfl rfl ?_
    cases h
    exact ax_Treti (by decide +kernel) rfl rfl
def f_X12_put_L3 (K49 : AS → Option (AS)) : Nat → Int32 → Int32 → AS → Option (AS)
  | 0, _, _, _ => none
  | n + 1, x1, x2, S3 => (if x2 < (0 : Int32) then K49 S3 else (if ((x1 >>> (x2 &&& 31)) &&& (255 : Int32)) = (0 : Int32) then ax_let (x2 + (Int32.ofInt (-8))) (fun (v10 : Int32) => f_X12_put_L3 K49 n x1 v10 S3) else ax_gd (ax_in (ax_fi S3 12 0 6) 240) (ax_let (ax_sai S3 44 0 (ax_fi S3 12 0 6).toNatClampNeg (vp_nar .byte (x1 >>> (x2 &&& 31)).toInt8.toInt32)) (fun (S7 : AS) => ax_let (ax_sfi S7 12 0 6 ((ax_fi S7 12 0 6) + (1 : Int32))) (fun (S8 : AS) => ax_let (x2 + (Int32.ofInt (-8))) (fun (v9 : Int32) => f_X12_put_L3 K49 n x1 v9 S8))))))
def f_X12_put (a1 : Int32) (S : AS) : Option (AS) := f_X12_put_L3 (fun (S11 : AS) => some S11) ax_F a1 (24 : Int32) S
set_option maxRecDepth 100000 in
theorem t_X12_put_L3 {l : Launch} {K49 : AS → Option (AS)} (hK49 : ∀ (S : AS) Z, K49 S = some Z → ax_T l 0 ma_X12_put (49, [none, none, none], [], S) none Z) : ∀ (n : Nat) (x1 : Int32) (x2 : Int32) (S3 : AS) Z, f_X12_put_L3 K49 n x1 x2 S3 = some Z → ax_T l 0 ma_X12_put (3, [some (.inr (12, 0)), some (.inl (.int x1)), some (.inl (.int x2))], [], S3) none Z := by
  intro n
  induction n with
  | zero =>
    intro x1 x2 S3 Z h
    cases h
  | succ n ih =>
    intro x1 x2 S3 Z h
    unfold f_X12_put_L3 at h
    refine ax_Tgo [.iload_n 2] (pc' := 4) (L' := [some (.inr (12, 0)), some (.inl (.int x1)), some (.inl (.int x2))]) (st' := [.inl (.int x2)]) (S' := S3) ok_X12_put.1 (by decide +kernel) rfl rfl ?_
    refine ax_Tif_lt (off := 45) (tgt := 49) (by decide +kernel) (by decide) (fun c4 => ?_) (fun c4 => ?_)
    · rw [if_pos c4] at h
      refine ax_Tdrop [false, false, false] (L' := [none, none, none]) rfl ?_
      exact hK49 S3 _ h
    · rw [if_neg c4] at h
      refine ax_Tgo [.iload_n 1, .iload_n 2, .ishr, .sipush 255, .iand] (pc' := 14) (L' := [some (.inr (12, 0)), some (.inl (.int x1)), some (.inl (.int x2))]) (st' := [.inl (.int ((x1 >>> (x2 &&& 31)) &&& (255 : Int32)))]) (S' := S3) ok_X12_put.1 (by decide +kernel) rfl rfl ?_
      refine ax_Tif_ne (off := 6) (tgt := 20) (by decide +kernel) (by decide) (fun c5 => ?_) (fun c5 => ?_)
      · rw [if_neg c5] at h
        refine ax_Tgo [.aload_n 0, .getfield 9, .aload_n 0, .getfield 106, .iload_n 1, .iload_n 2, .ishr, .i2b] (pc' := 32) (L' := [some (.inr (12, 0)), some (.inl (.int x1)), some (.inl (.int x2))]) (st' := [.inl (.int (x1 >>> (x2 &&& 31)).toInt8.toInt32), .inl (.int (ax_fi S3 12 0 6)), .inr (44, 0)]) (S' := S3) ok_X12_put.1 (by decide +kernel) rfl rfl ?_
        obtain ⟨g6, h⟩ := ax_gd_e h
        refine ax_Tasb (n := 240) ok_X12_put.1 (by decide +kernel) (by decide) rfl g6 ?_
        obtain ⟨S7, eS7, h⟩ := ax_let_e h
        rw [eS7]
        refine ax_Tgo [.aload_n 0, .dup, .getfield 106, .iconst 1, .iadd, .putfield 106] (pc' := 43) (L' := [some (.inr (12, 0)), some (.inl (.int x1)), some (.inl (.int x2))]) (st' := []) (S' := (ax_sfi S7 12 0 6 ((ax_fi S7 12 0 6) + (1 : Int32)))) ok_X12_put.1 (by decide +kernel) rfl rfl ?_
        obtain ⟨S8, eS8, h⟩ := ax_let_e h
        rw [eS8]
        refine ax_Tgo [.iinc 2 (-8)] (pc' := 46) (L' := [some (.inr (12, 0)), some (.inl (.int x1)), some (.inl (.int (x2 + (Int32.ofInt (-8)))))]) (st' := []) (S' := S8) ok_X12_put.1 (by decide +kernel) rfl rfl ?_
        obtain ⟨v9, ev9, h⟩ := ax_let_e h
        rw [ev9]
        refine ax_Tgoto (off := (-43)) (tgt := 3) (by decide +kernel) (by decide) ?_
        exact ih x1 v9 S8 _ h
      · rw [if_pos c5] at h
        refine ax_Tgoto (off := 26) (tgt := 43) (by decide +kernel) (by decide) ?_
        refine ax_Tgo [.iinc 2 (-8)] (pc' := 46) (L' := [some (.inr (12, 0)), some (.inl (.int x1)), some (.inl (.int (x2 + (Int32.ofInt (-8)))))]) (st' := []) (S' := S3) ok_X12_put.1 (by decide +kernel) rfl rfl ?_
        obtain ⟨v10, ev10, h⟩ := ax_let_e h
        rw [ev10]
        refine ax_Tgoto (off := (-43)) (tgt := 3) (by decide +kernel) (by decide) ?_
        exact ih x1 v10 S3 _ h
set_option maxRecDepth 100000 in
theorem t_X12_put {l : Launch} {a1 : Int32} {S Z : AS} (h : f_X12_put a1 S = some Z) : ax_M l 0 ma_X12_put [.inr (12, 0), .inl (.int a1)] S none Z := by
  unfold f_X12_put at h
  show ax_T l 0 ma_X12_put (0, [some (.inr (12, 0)), some (.inl (.int a1)), none], [], S) none Z
  refine ax_Tgo [.bipush 24, .istore_n 2] (pc' := 3) (L' := [some (.inr (12, 0)), some (.inl (.int a1)), some (.inl (.int (24 : Int32)))]) (st' := []) (S' := S) ok_X12_put.1 (by decide +kernel) rfl rfl ?_
  refine t_X12_put_L3 ?_ _ a1 (24 : Int32) S _ h
  · intro S11 Z h
    cases h
    exact ax_Tretv (by decide +kernel) rfl
def f_X12_feed (a1 : Int32) (a2 : Int32) (a3 : Int32) (a4 : Int32) (a5 : Int32) (S : AS) : Option (Int32 × AS) := ax_let (ax_sfi S 12 0 0 (0 : Int32)) (fun (S1 : AS) => (f_X12_bytesIn a1 S1).bind (fun (r5 : Int32) => (f_X12_bytesIn a2 S1).bind (fun (r9 : Int32) => (f_X12_bytesIn a3 S1).bind (fun (r13 : Int32) => (f_X12_bytesIn a4 S1).bind (fun (r17 : Int32) => (f_X12_bytesIn a5 S1).bind (fun (r21 : Int32) => (if ((((((ax_fi S1 12 0 6) + r5) + r9) + r13) + r17) + r21) ≤ (240 : Int32) then (f_X12_put a1 S1).bind (fun (S23 : AS) => (f_X12_put a2 S23).bind (fun (S26 : AS) => (f_X12_put a3 S26).bind (fun (S29 : AS) => (f_X12_put a4 S29).bind (fun (S32 : AS) => (f_X12_put a5 S32).bind (fun (S35 : AS) => some ((ax_fi S35 12 0 6), S35)))))) else some ((Int32.ofInt (-1)), S1))))))))
set_option maxRecDepth 100000 in
theorem t_X12_feed {l : Launch} {a1 : Int32} {a2 : Int32} {a3 : Int32} {a4 : Int32} {a5 : Int32} {S Z : AS} {r : Int32} (h : f_X12_feed a1 a2 a3 a4 a5 S = some (r, Z)) : ax_M l 1 ma_X12_feed [.inr (12, 0), .inl (.int a1), .inl (.int a2), .inl (.int a3), .inl (.int a4), .inl (.int a5)] S (some (.inl (.int r))) Z := by
  unfold f_X12_feed at h
  show ax_T l 1 ma_X12_feed (0, [some (.inr (12, 0)), some (.inl (.int a1)), some (.inl (.int a2)), some (.inl (.int a3)), some (.inl (.int a4)), some (.inl (.int a5))], [], S) (some (.inl (.int r))) Z
  refine ax_Tgo [.aload_n 0, .iconst 0, .putfield 93] (pc' := 5) (L' := [some (.inr (12, 0)), some (.inl (.int a1)), some (.inl (.int a2)), some (.inl (.int a3)), some (.inl (.int a4)), some (.inl (.int a5))]) (st' := []) (S' := (ax_sfi S 12 0 0 (0 : Int32))) ok_X12_feed.1 (by decide +kernel) rfl rfl ?_
  obtain ⟨S1, eS1, h⟩ := ax_let_e h
  rw [eS1]
  refine ax_Tgo [.aload_n 0, .getfield 106, .iload_n 1] (pc' := 10) (L' := [some (.inr (12, 0)), some (.inl (.int a1)), some (.inl (.int a2)), some (.inl (.int a3)), some (.inl (.int a4)), some (.inl (.int a5))]) (st' := [.inl (.int a1), .inl (.int (ax_fi S1 12 0 6))]) (S' := S1) ok_X12_feed.1 (by decide +kernel) rfl rfl ?_
  obtain ⟨r5, hq3, h⟩ := ax_bd_e h
  refine ax_TSi (d := 0) [.inl (.int a1)] [.inl (.int (ax_fi S1 12 0 6))] lk_X12_108 (by decide +kernel) rfl rfl (Nat.le_of_ble_eq_true rfl) (Nat.le_of_ble_eq_true rfl) ((t_X12_bytesIn hq3).up (by decide)) ?_
  refine ax_Tgo [.iadd, .iload_n 2] (pc' := 15) (L' := [some (.inr (12, 0)), some (.inl (.int a1)), some (.inl (.int a2)), some (.inl (.int a3)), some (.inl (.int a4)), some (.inl (.int a5))]) (st' := [.inl (.int a2), .inl (.int ((ax_fi S1 12 0 6) + r5))]) (S' := S1) ok_X12_feed.1 (by decide +kernel) rfl rfl ?_
  obtain ⟨r9, hq7, h⟩ := ax_bd_e h
  refine ax_TSi (d := 0) [.inl (.int a2)] [.inl (.int ((ax_fi S1 12 0 6) + r5))] lk_X12_108 (by decide +kernel) rfl rfl (Nat.le_of_ble_eq_true rfl) (Nat.le_of_ble_eq_true rfl) ((t_X12_bytesIn hq7).up (by decide)) ?_
  refine ax_Tgo [.iadd, .iload_n 3] (pc' := 20) (L' := [some (.inr (12, 0)), some (.inl (.int a1)), some (.inl (.int a2)), some (.inl (.int a3)), some (.inl (.int a4)), some (.inl (.int a5))]) (st' := [.inl (.int a3), .inl (.int (((ax_fi S1 12 0 6) + r5) + r9))]) (S' := S1) ok_X12_feed.1 (by decide +kernel) rfl rfl ?_
  obtain ⟨r13, hq11, h⟩ := ax_bd_e h
  refine ax_TSi (d := 0) [.inl (.int a3)] [.inl (.int (((ax_fi S1 12 0 6) + r5) + r9))] lk_X12_108 (by decide +kernel) rfl rfl (Nat.le_of_ble_eq_true rfl) (Nat.le_of_ble_eq_true rfl) ((t_X12_bytesIn hq11).up (by decide)) ?_
  refine ax_Tgo [.iadd, .iload 4] (pc' := 26) (L' := [some (.inr (12, 0)), some (.inl (.int a1)), some (.inl (.int a2)), some (.inl (.int a3)), some (.inl (.int a4)), some (.inl (.int a5))]) (st' := [.inl (.int a4), .inl (.int ((((ax_fi S1 12 0 6) + r5) + r9) + r13))]) (S' := S1) ok_X12_feed.1 (by decide +kernel) rfl rfl ?_
  obtain ⟨r17, hq15, h⟩ := ax_bd_e h
  refine ax_TSi (d := 0) [.inl (.int a4)] [.inl (.int ((((ax_fi S1 12 0 6) + r5) + r9) + r13))] lk_X12_108 (by decide +kernel) rfl rfl (Nat.le_of_ble_eq_true rfl) (Nat.le_of_ble_eq_true rfl) ((t_X12_bytesIn hq15).up (by decide)) ?_
  refine ax_Tgo [.iadd, .iload 5] (pc' := 32) (L' := [some (.inr (12, 0)), some (.inl (.int a1)), some (.inl (.int a2)), some (.inl (.int a3)), some (.inl (.int a4)), some (.inl (.int a5))]) (st' := [.inl (.int a5), .inl (.int (((((ax_fi S1 12 0 6) + r5) + r9) + r13) + r17))]) (S' := S1) ok_X12_feed.1 (by decide +kernel) rfl rfl ?_
  obtain ⟨r21, hq19, h⟩ := ax_bd_e h
  refine ax_TSi (d := 0) [.inl (.int a5)] [.inl (.int (((((ax_fi S1 12 0 6) + r5) + r9) + r13) + r17))] lk_X12_108 (by decide +kernel) rfl rfl (Nat.le_of_ble_eq_true rfl) (Nat.le_of_ble_eq_true rfl) ((t_X12_bytesIn hq19).up (by decide)) ?_
  refine ax_Tgo [.iadd, .sipush 240] (pc' := 39) (L' := [some (.inr (12, 0)), some (.inl (.int a1)), some (.inl (.int a2)), some (.inl (.int a3)), some (.inl (.int a4)), some (.inl (.int a5))]) (st' := [.inl (.int (240 : Int32)), .inl (.int ((((((ax_fi S1 12 0 6) + r5) + r9) + r13) + r17) + r21))]) (S' := S1) ok_X12_feed.1 (by decide +kernel) rfl rfl ?_
  refine ax_Tic_le (off := 5) (tgt := 44) (by decide +kernel) (by decide) (fun c22 => ?_) (fun c22 => ?_)
  · rw [if_pos c22] at h
    refine ax_Tgo [.aload_n 0, .iload_n 1] (pc' := 46) (L' := [some (.inr (12, 0)), some (.inl (.int a1)), some (.inl (.int a2)), some (.inl (.int a3)), some (.inl (.int a4)), some (.inl (.int a5))]) (st' := [.inl (.int a1), .inr (12, 0)]) (S' := S1) ok_X12_feed.1 (by decide +kernel) rfl rfl ?_
    obtain ⟨S23, hq24, h⟩ := ax_bd_e h
    refine ax_TVv (d := 0) (ka := 12) (i := 0) [.inl (.int a1)] [] lk_X12_112 (by decide +kernel) rfl (by decide) rfl (Nat.le_of_ble_eq_true rfl) (Nat.le_of_ble_eq_true rfl) ((t_X12_put hq24).up (by decide)) ?_
    refine ax_Tgo [.aload_n 0, .iload_n 2] (pc' := 51) (L' := [some (.inr (12, 0)), some (.inl (.int a1)), some (.inl (.int a2)), some (.inl (.int a3)), some (.inl (.int a4)), some (.inl (.int a5))]) (st' := [.inl (.int a2), .inr (12, 0)]) (S' := S23) ok_X12_feed.1 (by decide +kernel) rfl rfl ?_
    obtain ⟨S26, hq27, h⟩ := ax_bd_e h
    refine ax_TVv (d := 0) (ka := 12) (i := 0) [.inl (.int a2)] [] lk_X12_112 (by decide +kernel) rfl (by decide) rfl (Nat.le_of_ble_eq_true rfl) (Nat.le_of_ble_eq_true rfl) ((t_X12_put hq27).up (by decide)) ?_
    refine ax_Tgo [.aload_n 0, .iload_n 3] (pc' := 56) (L' := [some (.inr (12, 0)), some (.inl (.int a1)), some (.inl (.int a2)), some (.inl (.int a3)), some (.inl (.int a4)), some (.inl (.int a5))]) (st' := [.inl (.int a3), .inr (12, 0)]) (S' := S26) ok_X12_feed.1 (by decide +kernel) rfl rfl ?_
    obtain ⟨S29, hq30, h⟩ := ax_bd_e h
    refine ax_TVv (d := 0) (ka := 12) (i := 0) [.inl (.int a3)] [] lk_X12_112 (by decide +kernel) rfl (by decide) rfl (Nat.le_of_ble_eq_true rfl) (Nat.le_of_ble_eq_true rfl) ((t_X12_put hq30).up (by decide)) ?_
    refine ax_Tgo [.aload_n 0, .iload 4] (pc' := 62) (L' := [some (.inr (12, 0)), some (.inl (.int a1)), some (.inl (.int a2)), some (.inl (.int a3)), some (.inl (.int a4)), some (.inl (.int a5))]) (st' := [.inl (.int a4), .inr (12, 0)]) (S' := S29) ok_X12_feed.1 (by decide +kernel) rfl rfl ?_
    obtain ⟨S32, hq33, h⟩ := ax_bd_e h
    refine ax_TVv (d := 0) (ka := 12) (i := 0) [.inl (.int a4)] [] lk_X12_112 (by decide +kernel) rfl (by decide) rfl (Nat.le_of_ble_eq_true rfl) (Nat.le_of_ble_eq_true rfl) ((t_X12_put hq33).up (by decide)) ?_
    refine ax_Tgo [.aload_n 0, .iload 5] (pc' := 68) (L' := [some (.inr (12, 0)), some (.inl (.int a1)), some (.inl (.int a2)), some (.inl (.int a3)), some (.inl (.int a4)), some (.inl (.int a5))]) (st' := [.inl (.int a5), .inr (12, 0)]) (S' := S32) ok_X12_feed.1 (by decide +kernel) rfl rfl ?_
    obtain ⟨S35, hq36, h⟩ := ax_bd_e h
    refine ax_TVv (d := 0) (ka := 12) (i := 0) [.inl (.int a5)] [] lk_X12_112 (by decide +kernel) rfl (by decide) rfl (Nat.le_of_ble_eq_true rfl) (Nat.le_of_ble_eq_true rfl) ((t_X12_put hq36).up (by decide)) ?_
    refine ax_Tgo [.aload_n 0, .getfield 106] (pc' := 75) (L' := [some (.inr (12, 0)), some (.inl (.int a1)), some (.inl (.int a2)), some (.inl (.int a3)), some (.inl (.int a4)), some (.inl (.int a5))]) (st' := [.inl (.int (ax_fi S35 12 0 6))]) (S' := S35) ok_X12_feed.1 (by decide +kernel) rfl rfl ?_
    cases h
    exact ax_Treti (by decide +kernel) rfl rfl
  · rw [if_neg c22] at h
    refine ax_Tgo [.iconst (-1)] (pc' := 43) (L' := [some (.inr (12, 0)), some (.inl (.int a1)), some (.inl (.int a2)), some (.inl (.int a3)), some (.inl (.int a4)), some (.inl (.int a5))]) (st' := [.inl (.int (Int32.ofInt (-1)))]) (S' := S1) ok_X12_feed.1 (by decide +kernel) rfl rfl ?_
    cases h
    exact ax_Treti (by decide +kernel) rfl rfl
def f_X12_isGame (a1 : Int32) (a2 : Int32) (S : AS) : Option (Int32) := (f_X12_isCaller a1 S).bind (fun (r4 : Int32) => (if r4 = (0 : Int32) then some (0 : Int32) else (f_X12_isCaller a2 S).bind (fun (r9 : Int32) => (if r9 = (0 : Int32) then some (0 : Int32) else (if a1 = a2 then some (0 : Int32) else some (1 : Int32))))))
set_option maxRecDepth 100000 in
theorem t_X12_isGame {l : Launch} {a1 : Int32} {a2 : Int32} {S : AS} {r : Int32} (h : f_X12_isGame a1 a2 S = some r) : ax_M l 1 ma_X12_isGame [.inr (12, 0), .inl (.int a1), .inl (.int a2)] S (some (.inl (.int r))) S := by
  unfold f_X12_isGame at h
  show ax_T l 1 ma_X12_isGame (0, [some (.inr (12, 0)), some (.inl (.int a1)), some (.inl (.int a2))], [], S) (some (.inl (.int r))) S
  refine ax_Tgo [.aload_n 0, .iload_n 1] (pc' := 2) (L' := [some (.inr (12, 0)), some (.inl (.int a1)), some (.inl (.int a2))]) (st' := [.inl (.int a1), .inr (12, 0)]) (S' := S) ok_X12_isGame.1 (by decide +kernel) rfl rfl ?_
  obtain ⟨r4, hq2, h⟩ := ax_bd_e h
  refine ax_TVi (d := 0) (ka := 12) (i := 0) [.inl (.int a1)] [] lk_X12_324 (by decide +kernel) rfl (by decide) rfl (Nat.le_of_ble_eq_true rfl) (Nat.le_of_ble_eq_true rfl) ((t_X12_isCaller hq2).up (by decide)) ?_
  refine ax_Tif_eq (off := 20) (tgt := 25) (by decide +kernel) (by decide) (fun c5 => ?_) (fun c5 => ?_)
  · rw [if_pos c5] at h
    refine ax_Tgo [.iconst 0] (pc' := 26) (L' := [some (.inr (12, 0)), some (.inl (.int a1)), some (.inl (.int a2))]) (st' := [.inl (.int (0 : Int32))]) (S' := S) ok_X12_isGame.1 (by decide +kernel) rfl rfl ?_
    cases h
    exact ax_Treti (by decide +kernel) rfl rfl
  · rw [if_neg c5] at h
    refine ax_Tgo [.aload_n 0, .iload_n 2] (pc' := 10) (L' := [some (.inr (12, 0)), some (.inl (.int a1)), some (.inl (.int a2))]) (st' := [.inl (.int a2), .inr (12, 0)]) (S' := S) ok_X12_isGame.1 (by decide +kernel) rfl rfl ?_
    obtain ⟨r9, hq7, h⟩ := ax_bd_e h
    refine ax_TVi (d := 0) (ka := 12) (i := 0) [.inl (.int a2)] [] lk_X12_324 (by decide +kernel) rfl (by decide) rfl (Nat.le_of_ble_eq_true rfl) (Nat.le_of_ble_eq_true rfl) ((t_X12_isCaller hq7).up (by decide)) ?_
    refine ax_Tif_eq (off := 12) (tgt := 25) (by decide +kernel) (by decide) (fun c10 => ?_) (fun c10 => ?_)
    · rw [if_pos c10] at h
      refine ax_Tgo [.iconst 0] (pc' := 26) (L' := [some (.inr (12, 0)), some (.inl (.int a1)), some (.inl (.int a2))]) (st' := [.inl (.int (0 : Int32))]) (S' := S) ok_X12_isGame.1 (by decide +kernel) rfl rfl ?_
      cases h
      exact ax_Treti (by decide +kernel) rfl rfl
    · rw [if_neg c10] at h
      refine ax_Tgo [.iload_n 1, .iload_n 2] (pc' := 18) (L' := [some (.inr (12, 0)), some (.inl (.int a1)), some (.inl (.int a2))]) (st' := [.inl (.int a2), .inl (.int a1)]) (S' := S) ok_X12_isGame.1 (by decide +kernel) rfl rfl ?_
      refine ax_Tic_eq (off := 7) (tgt := 25) (by decide +kernel) (by decide) (fun c11 => ?_) (fun c11 => ?_)
      · rw [if_pos c11] at h
        refine ax_Tgo [.iconst 0] (pc' := 26) (L' := [some (.inr (12, 0)), some (.inl (.int a1)), some (.inl (.int a2))]) (st' := [.inl (.int (0 : Int32))]) (S' := S) ok_X12_isGame.1 (by decide +kernel) rfl rfl ?_
        cases h
        exact ax_Treti (by decide +kernel) rfl rfl
      · rw [if_neg c11] at h
        refine ax_Tgo [.iconst 1] (pc' := 22) (L' := [some (.inr (12, 0)), some (.inl (.int a1)), some (.inl (.int a2))]) (st' := [.inl (.int (1 : Int32))]) (S' := S) ok_X12_isGame.1 (by decide +kernel) rfl rfl ?_
        refine ax_Tgoto (off := 4) (tgt := 26) (by decide +kernel) (by decide) ?_
        cases h
        exact ax_Treti (by decide +kernel) rfl rfl
def f_X12_gameOf (a1 : Int32) (a2 : Int32) (a3 : Int32) (a4 : Int32) (a5 : Int32) (S : AS) : Option (Int32 × AS) := ax_let (fun (x1 : Int32) (S2 : AS) => ax_let (fun (x4 : Int32) (S5 : AS) => ax_let (fun (x7 : Int32) (S8 : AS) => ax_gd (ax_in (17 : Int32) 204) (ax_bu (f_X12_takesTitled x1 x4 ((ax_ai S8 55 0 (17 : Int32).toNatClampNeg) + a5) S8) (fun (r14 : Int32) (S11 : AS) => (f_X12_of x1 (3 : Int32) S11).bind (fun (r18 : Int32) => ax_let (fun (x19 : Int32) (S20 : AS) => (if x7 ≤ x4 then some (((x19 - x4) - (0 : Int32)), S20) else some (((x19 - x4) - (2 : Int32)), S20))) (fun J21 => (if r14 < r18 then J21 (0 : Int32) S11 else (f_X12_of x1 (4 : Int32) S11).bind (fun (r27 : Int32) => J21 r27 S11))))))) (fun J9 => (if a5 = (0 : Int32) then J9 a4 S5 else J9 a3 S5))) (fun J6 => (if a5 = (0 : Int32) then J6 a3 S2 else J6 a4 S2))) (fun J3 => (if a5 = (0 : Int32) then J3 a1 S else J3 a2 S))
set_option maxRecDepth 100000 in
theorem t_X12_gameOf {l : Launch} {a1 : Int32} {a2 : Int32} {a3 : Int32} {a4 : Int32} {a5 : Int32} {S Z : AS} {r : Int32} (h : f_X12_gameOf a1 a2 a3 a4 a5 S = some (r, Z)) : ax_M l 75 ma_X12_gameOf [.inr (12, 0), .inl (.int a1), .inl (.int a2), .inl (.int a3), .inl (.int a4), .inl (.int a5)] S (some (.inl (.int r))) Z := by
  unfold f_X12_gameOf at h
  show ax_T l 75 ma_X12_gameOf (0, [some (.inr (12, 0)), some (.inl (.int a1)), some (.inl (.int a2)), some (.inl (.int a3)), some (.inl (.int a4)), some (.inl (.int a5)), none, none, none, none], [], S) (some (.inl (.int r))) Z
  refine ax_Tgo [.iload 5] (pc' := 2) (L' := [some (.inr (12, 0)), some (.inl (.int a1)), some (.inl (.int a2)), some (.inl (.int a3)), some (.inl (.int a4)), some (.inl (.int a5)), none, none, none, none]) (st' := [.inl (.int a5)]) (S' := S) ok_X12_gameOf.1 (by decide +kernel) rfl rfl ?_
  obtain ⟨J3, eJ3, h⟩ := ax_let_e h
  have hJ3 : ∀ (x1 : Int32) (S2 : AS) r Z, J3 x1 S2 = some (r, Z) → ax_T l 75 ma_X12_gameOf (10, [some (.inr (12, 0)), none, none, some (.inl (.int a3)), some (.inl (.int a4)), some (.inl (.int a5)), none, none, none, none], [.inl (.int x1)], S2) (some (.inl (.int r))) Z := by
    intro x1 S2 r Z h
    rw [← eJ3] at h
    try dsimp only at h
    refine ax_Tgo [.istore 6, .iload 5] (pc' := 14) (L' := [some (.inr (12, 0)), none, none, some (.inl (.int a3)), some (.inl (.int a4)), some (.inl (.int a5)), some (.inl (.int x1)), none, none, none]) (st' := [.inl (.int a5)]) (S' := S2) ok_X12_gameOf.1 (by decide +kernel) rfl rfl ?_
    obtain ⟨J6, eJ6, h⟩ := ax_let_e h
    have hJ6 : ∀ (x4 : Int32) (S5 : AS) r Z, J6 x4 S5 = some (r, Z) → ax_T l 75 ma_X12_gameOf (23, [some (.inr (12, 0)), none, none, some (.inl (.int a3)), some (.inl (.int a4)), some (.inl (.int a5)), some (.inl (.int x1)), none, none, none], [.inl (.int x4)], S5) (some (.inl (.int r))) Z := by
      intro x4 S5 r Z h
      rw [← eJ6] at h
      try dsimp only at h
      refine ax_Tgo [.istore 7, .iload 5] (pc' := 27) (L' := [some (.inr (12, 0)), none, none, some (.inl (.int a3)), some (.inl (.int a4)), some (.inl (.int a5)), some (.inl (.int x1)), some (.inl (.int x4)), none, none]) (st' := [.inl (.int a5)]) (S' := S5) ok_X12_gameOf.1 (by decide +kernel) rfl rfl ?_
      obtain ⟨J9, eJ9, h⟩ := ax_let_e h
      have hJ9 : ∀ (x7 : Int32) (S8 : AS) r Z, J9 x7 S8 = some (r, Z) → ax_T l 75 ma_X12_gameOf (36, [some (.inr (12, 0)), none, none, none, none, some (.inl (.int a5)), some (.inl (.int x1)), some (.inl (.int x4)), none, none], [.inl (.int x7)], S8) (some (.inl (.int r))) Z := by
        intro x7 S8 r Z h
        rw [← eJ9] at h
        try dsimp only at h
        refine ax_Tgo [.istore 8, .aload_n 0, .iload 6, .iload 7, .aload_n 0, .getfield 61, .bipush 17] (pc' := 49) (L' := [some (.inr (12, 0)), none, none, none, none, some (.inl (.int a5)), some (.inl (.int x1)), some (.inl (.int x4)), some (.inl (.int x7)), none]) (st' := [.inl (.int (17 : Int32)), .inr (55, 0), .inl (.int x4), .inl (.int x1), .inr (12, 0)]) (S' := S8) ok_X12_gameOf.1 (by decide +kernel) rfl rfl ?_
        obtain ⟨g10, h⟩ := ax_gd_e h
        refine ax_Tali (n := 204) ok_X12_gameOf.1 (by decide +kernel) (by decide) rfl g10 ?_
        refine ax_Tgo [.iload 5, .iadd] (pc' := 53) (L' := [some (.inr (12, 0)), none, none, none, none, some (.inl (.int a5)), some (.inl (.int x1)), some (.inl (.int x4)), some (.inl (.int x7)), none]) (st' := [.inl (.int ((ax_ai S8 55 0 (17 : Int32).toNatClampNeg) + a5)), .inl (.int x4), .inl (.int x1), .inr (12, 0)]) (S' := S8) ok_X12_gameOf.1 (by decide +kernel) rfl rfl ?_
        obtain ⟨r14, S11, hq12, h⟩ := ax_bu_e h
        refine ax_TVi (d := 74) (ka := 12) (i := 0) [.inl (.int x1), .inl (.int x4), .inl (.int ((ax_ai S8 55 0 (17 : Int32).toNatClampNeg) + a5))] [] lk_X12_418 (by decide +kernel) rfl (by decide) rfl (Nat.le_of_ble_eq_true rfl) (Nat.le_of_ble_eq_true rfl) ((t_X12_takesTitled hq12).up (by decide)) ?_
        refine ax_Tgo [.istore 9, .iload 9, .aload_n 0, .iload 6, .iconst 3] (pc' := 64) (L' := [some (.inr (12, 0)), none, none, none, none, some (.inl (.int a5)), some (.inl (.int x1)), some (.inl (.int x4)), some (.inl (.int x7)), some (.inl (.int r14))]) (st' := [.inl (.int (3 : Int32)), .inl (.int x1), .inr (12, 0), .inl (.int r14)]) (S' := S11) ok_X12_gameOf.1 (by decide +kernel) rfl rfl ?_
        obtain ⟨r18, hq16, h⟩ := ax_bd_e h
        refine ax_TVi (d := 74) (ka := 12) (i := 0) [.inl (.int x1), .inl (.int (3 : Int32))] [.inl (.int r14)] lk_X12_311 (by decide +kernel) rfl (by decide) rfl (Nat.le_of_ble_eq_true rfl) (Nat.le_of_ble_eq_true rfl) ((t_X12_of hq16).up (by decide)) ?_
        obtain ⟨J21, eJ21, h⟩ := ax_let_e h
        have hJ21 : ∀ (x19 : Int32) (S20 : AS) r Z, J21 x19 S20 = some (r, Z) → ax_T l 75 ma_X12_gameOf (81, [none, none, none, none, none, none, none, some (.inl (.int x4)), some (.inl (.int x7)), none], [.inl (.int x19)], S20) (some (.inl (.int r))) Z := by
          intro x19 S20 r Z h
          rw [← eJ21] at h
          try dsimp only at h
          refine ax_Tgo [.iload 7, .isub, .iload 8, .iload 7] (pc' := 88) (L' := [none, none, none, none, none, none, none, some (.inl (.int x4)), some (.inl (.int x7)), none]) (st' := [.inl (.int x4), .inl (.int x7), .inl (.int (x19 - x4))]) (S' := S20) ok_X12_gameOf.1 (by decide +kernel) rfl rfl ?_
          refine ax_Tic_le (off := 7) (tgt := 95) (by decide +kernel) (by decide) (fun c22 => ?_) (fun c22 => ?_)
          · rw [if_pos c22] at h
            refine ax_Tgo [.iconst 0, .isub] (pc' := 97) (L' := [none, none, none, none, none, none, none, some (.inl (.int x4)), some (.inl (.int x7)), none]) (st' := [.inl (.int ((x19 - x4) - (0 : Int32)))]) (S' := S20) ok_X12_gameOf.1 (by decide +kernel) rfl rfl ?_
            cases h
            exact ax_Treti (by decide +kernel) rfl rfl
          · rw [if_neg c22] at h
            refine ax_Tgo [.iconst 2] (pc' := 92) (L' := [none, none, none, none, none, none, none, some (.inl (.int x4)), some (.inl (.int x7)), none]) (st' := [.inl (.int (2 : Int32)), .inl (.int (x19 - x4))]) (S' := S20) ok_X12_gameOf.1 (by decide +kernel) rfl rfl ?_
            refine ax_Tgoto (off := 4) (tgt := 96) (by decide +kernel) (by decide) ?_
            refine ax_Tgo [.isub] (pc' := 97) (L' := [none, none, none, none, none, none, none, some (.inl (.int x4)), some (.inl (.int x7)), none]) (st' := [.inl (.int ((x19 - x4) - (2 : Int32)))]) (S' := S20) ok_X12_gameOf.1 (by decide +kernel) rfl rfl ?_
            cases h
            exact ax_Treti (by decide +kernel) rfl rfl
        refine ax_Tic_lt (off := 13) (tgt := 80) (by decide +kernel) (by decide) (fun c23 => ?_) (fun c23 => ?_)
        · rw [if_pos c23] at h
          refine ax_Tgo [.iconst 0] (pc' := 81) (L' := [some (.inr (12, 0)), none, none, none, none, some (.inl (.int a5)), some (.inl (.int x1)), some (.inl (.int x4)), some (.inl (.int x7)), some (.inl (.int r14))]) (st' := [.inl (.int (0 : Int32))]) (S' := S11) ok_X12_gameOf.1 (by decide +kernel) rfl rfl ?_
          refine ax_Tdrop [false, true, true, true, true, false, false, true, true, false] (L' := [none, none, none, none, none, none, none, some (.inl (.int x4)), some (.inl (.int x7)), none]) rfl ?_
          exact hJ21 (0 : Int32) S11 _ _ h
        · rw [if_neg c23] at h
          refine ax_Tgo [.aload_n 0, .iload 6, .iconst 4] (pc' := 74) (L' := [some (.inr (12, 0)), none, none, none, none, some (.inl (.int a5)), some (.inl (.int x1)), some (.inl (.int x4)), some (.inl (.int x7)), some (.inl (.int r14))]) (st' := [.inl (.int (4 : Int32)), .inl (.int x1), .inr (12, 0)]) (S' := S11) ok_X12_gameOf.1 (by decide +kernel) rfl rfl ?_
          obtain ⟨r27, hq25, h⟩ := ax_bd_e h
          refine ax_TVi (d := 74) (ka := 12) (i := 0) [.inl (.int x1), .inl (.int (4 : Int32))] [] lk_X12_311 (by decide +kernel) rfl (by decide) rfl (Nat.le_of_ble_eq_true rfl) (Nat.le_of_ble_eq_true rfl) ((t_X12_of hq25).up (by decide)) ?_
          refine ax_Tgoto (off := 4) (tgt := 81) (by decide +kernel) (by decide) ?_
          refine ax_Tdrop [false, true, true, true, true, false, false, true, true, false] (L' := [none, none, none, none, none, none, none, some (.inl (.int x4)), some (.inl (.int x7)), none]) rfl ?_
          exact hJ21 r27 S11 _ _ h
      refine ax_Tif_ne (off := 8) (tgt := 35) (by decide +kernel) (by decide) (fun c28 => ?_) (fun c28 => ?_)
      · rw [if_neg c28] at h
        refine ax_Tgo [.iload_n 3] (pc' := 36) (L' := [some (.inr (12, 0)), none, none, some (.inl (.int a3)), some (.inl (.int a4)), some (.inl (.int a5)), some (.inl (.int x1)), some (.inl (.int x4)), none, none]) (st' := [.inl (.int a3)]) (S' := S5) ok_X12_gameOf.1 (by decide +kernel) rfl rfl ?_
        refine ax_Tdrop [true, true, true, false, false, true, true, true, true, true] (L' := [some (.inr (12, 0)), none, none, none, none, some (.inl (.int a5)), some (.inl (.int x1)), some (.inl (.int x4)), none, none]) rfl ?_
        exact hJ9 a3 S5 _ _ h
      · rw [if_pos c28] at h
        refine ax_Tgo [.iload 4] (pc' := 32) (L' := [some (.inr (12, 0)), none, none, some (.inl (.int a3)), some (.inl (.int a4)), some (.inl (.int a5)), some (.inl (.int x1)), some (.inl (.int x4)), none, none]) (st' := [.inl (.int a4)]) (S' := S5) ok_X12_gameOf.1 (by decide +kernel) rfl rfl ?_
        refine ax_Tgoto (off := 4) (tgt := 36) (by decide +kernel) (by decide) ?_
        refine ax_Tdrop [true, true, true, false, false, true, true, true, true, true] (L' := [some (.inr (12, 0)), none, none, none, none, some (.inl (.int a5)), some (.inl (.int x1)), some (.inl (.int x4)), none, none]) rfl ?_
        exact hJ9 a4 S5 _ _ h
    refine ax_Tif_ne (off := 7) (tgt := 21) (by decide +kernel) (by decide) (fun c29 => ?_) (fun c29 => ?_)
    · rw [if_neg c29] at h
      refine ax_Tgo [.iload 4] (pc' := 23) (L' := [some (.inr (12, 0)), none, none, some (.inl (.int a3)), some (.inl (.int a4)), some (.inl (.int a5)), some (.inl (.int x1)), none, none, none]) (st' := [.inl (.int a4)]) (S' := S2) ok_X12_gameOf.1 (by decide +kernel) rfl rfl ?_
      exact hJ6 a4 S2 _ _ h
    · rw [if_pos c29] at h
      refine ax_Tgo [.iload_n 3] (pc' := 18) (L' := [some (.inr (12, 0)), none, none, some (.inl (.int a3)), some (.inl (.int a4)), some (.inl (.int a5)), some (.inl (.int x1)), none, none, none]) (st' := [.inl (.int a3)]) (S' := S2) ok_X12_gameOf.1 (by decide +kernel) rfl rfl ?_
      refine ax_Tgoto (off := 5) (tgt := 23) (by decide +kernel) (by decide) ?_
      exact hJ6 a3 S2 _ _ h
  refine ax_Tif_ne (off := 7) (tgt := 9) (by decide +kernel) (by decide) (fun c30 => ?_) (fun c30 => ?_)
  · rw [if_neg c30] at h
    refine ax_Tgo [.iload_n 2] (pc' := 10) (L' := [some (.inr (12, 0)), some (.inl (.int a1)), some (.inl (.int a2)), some (.inl (.int a3)), some (.inl (.int a4)), some (.inl (.int a5)), none, none, none, none]) (st' := [.inl (.int a2)]) (S' := S) ok_X12_gameOf.1 (by decide +kernel) rfl rfl ?_
    refine ax_Tdrop [true, false, false, true, true, true, true, true, true, true] (L' := [some (.inr (12, 0)), none, none, some (.inl (.int a3)), some (.inl (.int a4)), some (.inl (.int a5)), none, none, none, none]) rfl ?_
    exact hJ3 a2 S _ _ h
  · rw [if_pos c30] at h
    refine ax_Tgo [.iload_n 1] (pc' := 6) (L' := [some (.inr (12, 0)), some (.inl (.int a1)), some (.inl (.int a2)), some (.inl (.int a3)), some (.inl (.int a4)), some (.inl (.int a5)), none, none, none, none]) (st' := [.inl (.int a1)]) (S' := S) ok_X12_gameOf.1 (by decide +kernel) rfl rfl ?_
    refine ax_Tgoto (off := 4) (tgt := 10) (by decide +kernel) (by decide) ?_
    refine ax_Tdrop [true, false, false, true, true, true, true, true, true, true] (L' := [some (.inr (12, 0)), none, none, some (.inl (.int a3)), some (.inl (.int a4)), some (.inl (.int a5)), none, none, none, none]) rfl ?_
    exact hJ3 a1 S _ _ h
def f_X12_game (a1 : Int32) (a2 : Int32) (a3 : Int32) (a4 : Int32) (a5 : Int32) (S : AS) : Option (Int32 × AS) := ax_let (ax_sfi S 12 0 0 (0 : Int32)) (fun (S1 : AS) => (f_X12_isGame a1 a2 S1).bind (fun (r5 : Int32) => (if r5 = (0 : Int32) then some ((-1000000 : Int32), S1) else (f_X12_isIn (a3.toInt64) (0 : Int64) (3 : Int64) S1).bind (fun (r10 : Int32) => (if r10 = (0 : Int32) then some ((-1000000 : Int32), S1) else (f_X12_isIn (a4.toInt64) (0 : Int64) (3 : Int64) S1).bind (fun (r15 : Int32) => (if r15 = (0 : Int32) then some ((-1000000 : Int32), S1) else (f_X12_isIn (a5.toInt64) (0 : Int64) (1 : Int64) S1).bind (fun (r20 : Int32) => (if r20 = (0 : Int32) then some ((-1000000 : Int32), S1) else ax_bu (f_X12_gameOf a1 a2 a3 a4 a5 S1) (fun (r25 : Int32) (S22 : AS) => some (r25, S22)))))))))))
set_option maxRecDepth 100000 in
theorem t_X12_game {l : Launch} {a1 : Int32} {a2 : Int32} {a3 : Int32} {a4 : Int32} {a5 : Int32} {S Z : AS} {r : Int32} (h : f_X12_game a1 a2 a3 a4 a5 S = some (r, Z)) : ax_M l 76 ma_X12_game [.inr (12, 0), .inl (.int a1), .inl (.int a2), .inl (.int a3), .inl (.int a4), .inl (.int a5)] S (some (.inl (.int r))) Z := by
  unfold f_X12_game at h
  show ax_T l 76 ma_X12_game (0, [some (.inr (12, 0)), some (.inl (.int a1)), some (.inl (.int a2)), some (.inl (.int a3)), some (.inl (.int a4)), some (.inl (.int a5))], [], S) (some (.inl (.int r))) Z
  refine ax_Tgo [.aload_n 0, .iconst 0, .putfield 93] (pc' := 5) (L' := [some (.inr (12, 0)), some (.inl (.int a1)), some (.inl (.int a2)), some (.inl (.int a3)), some (.inl (.int a4)), some (.inl (.int a5))]) (st' := []) (S' := (ax_sfi S 12 0 0 (0 : Int32))) ok_X12_game.1 (by decide +kernel) rfl rfl ?_
  obtain ⟨S1, eS1, h⟩ := ax_let_e h
  rw [eS1]
  refine ax_Tgo [.aload_n 0, .iload_n 1, .iload_n 2] (pc' := 8) (L' := [some (.inr (12, 0)), some (.inl (.int a1)), some (.inl (.int a2)), some (.inl (.int a3)), some (.inl (.int a4)), some (.inl (.int a5))]) (st' := [.inl (.int a2), .inl (.int a1), .inr (12, 0)]) (S' := S1) ok_X12_game.1 (by decide +kernel) rfl rfl ?_
  obtain ⟨r5, hq3, h⟩ := ax_bd_e h
  refine ax_TVi (d := 75) (ka := 12) (i := 0) [.inl (.int a1), .inl (.int a2)] [] lk_X12_442 (by decide +kernel) rfl (by decide) rfl (Nat.le_of_ble_eq_true rfl) (Nat.le_of_ble_eq_true rfl) ((t_X12_isGame hq3).up (by decide)) ?_
  refine ax_Tif_eq (off := 53) (tgt := 64) (by decide +kernel) (by decide) (fun c6 => ?_) (fun c6 => ?_)
  · rw [if_pos c6] at h
    refine ax_Tgo [.ldc_w 388] (pc' := 67) (L' := [some (.inr (12, 0)), some (.inl (.int a1)), some (.inl (.int a2)), some (.inl (.int a3)), some (.inl (.int a4)), some (.inl (.int a5))]) (st' := [.inl (.int (-1000000 : Int32))]) (S' := S1) ok_X12_game.1 (by decide +kernel) rfl rfl ?_
    cases h
    exact ax_Treti (by decide +kernel) rfl rfl
  · rw [if_neg c6] at h
    refine ax_Tgo [.iload_n 3, .i2l, .lconst 0, .ldc2_w 445] (pc' := 20) (L' := [some (.inr (12, 0)), some (.inl (.int a1)), some (.inl (.int a2)), some (.inl (.int a3)), some (.inl (.int a4)), some (.inl (.int a5))]) (st' := [.inl (.long (3 : Int64)), .inl (.long (0 : Int64)), .inl (.long a3.toInt64)]) (S' := S1) ok_X12_game.1 (by decide +kernel) rfl rfl ?_
    obtain ⟨r10, hq8, h⟩ := ax_bd_e h
    refine ax_TSi (d := 75) [.inl (.long a3.toInt64), .inl (.long (0 : Int64)), .inl (.long (3 : Int64))] [] lk_X12_214 (by decide +kernel) rfl rfl (Nat.le_of_ble_eq_true rfl) (Nat.le_of_ble_eq_true rfl) ((t_X12_isIn hq8).up (by decide)) ?_
    refine ax_Tif_eq (off := 41) (tgt := 64) (by decide +kernel) (by decide) (fun c11 => ?_) (fun c11 => ?_)
    · rw [if_pos c11] at h
      refine ax_Tgo [.ldc_w 388] (pc' := 67) (L' := [some (.inr (12, 0)), some (.inl (.int a1)), some (.inl (.int a2)), some (.inl (.int a3)), some (.inl (.int a4)), some (.inl (.int a5))]) (st' := [.inl (.int (-1000000 : Int32))]) (S' := S1) ok_X12_game.1 (by decide +kernel) rfl rfl ?_
      cases h
      exact ax_Treti (by decide +kernel) rfl rfl
    · rw [if_neg c11] at h
      refine ax_Tgo [.iload 4, .i2l, .lconst 0, .ldc2_w 445] (pc' := 33) (L' := [some (.inr (12, 0)), some (.inl (.int a1)), some (.inl (.int a2)), some (.inl (.int a3)), some (.inl (.int a4)), some (.inl (.int a5))]) (st' := [.inl (.long (3 : Int64)), .inl (.long (0 : Int64)), .inl (.long a4.toInt64)]) (S' := S1) ok_X12_game.1 (by decide +kernel) rfl rfl ?_
      obtain ⟨r15, hq13, h⟩ := ax_bd_e h
      refine ax_TSi (d := 75) [.inl (.long a4.toInt64), .inl (.long (0 : Int64)), .inl (.long (3 : Int64))] [] lk_X12_214 (by decide +kernel) rfl rfl (Nat.le_of_ble_eq_true rfl) (Nat.le_of_ble_eq_true rfl) ((t_X12_isIn hq13).up (by decide)) ?_
      refine ax_Tif_eq (off := 28) (tgt := 64) (by decide +kernel) (by decide) (fun c16 => ?_) (fun c16 => ?_)
      · rw [if_pos c16] at h
        refine ax_Tgo [.ldc_w 388] (pc' := 67) (L' := [some (.inr (12, 0)), some (.inl (.int a1)), some (.inl (.int a2)), some (.inl (.int a3)), some (.inl (.int a4)), some (.inl (.int a5))]) (st' := [.inl (.int (-1000000 : Int32))]) (S' := S1) ok_X12_game.1 (by decide +kernel) rfl rfl ?_
        cases h
        exact ax_Treti (by decide +kernel) rfl rfl
      · rw [if_neg c16] at h
        refine ax_Tgo [.iload 5, .i2l, .lconst 0, .lconst 1] (pc' := 44) (L' := [some (.inr (12, 0)), some (.inl (.int a1)), some (.inl (.int a2)), some (.inl (.int a3)), some (.inl (.int a4)), some (.inl (.int a5))]) (st' := [.inl (.long (1 : Int64)), .inl (.long (0 : Int64)), .inl (.long a5.toInt64)]) (S' := S1) ok_X12_game.1 (by decide +kernel) rfl rfl ?_
        obtain ⟨r20, hq18, h⟩ := ax_bd_e h
        refine ax_TSi (d := 75) [.inl (.long a5.toInt64), .inl (.long (0 : Int64)), .inl (.long (1 : Int64))] [] lk_X12_214 (by decide +kernel) rfl rfl (Nat.le_of_ble_eq_true rfl) (Nat.le_of_ble_eq_true rfl) ((t_X12_isIn hq18).up (by decide)) ?_
        refine ax_Tif_eq (off := 17) (tgt := 64) (by decide +kernel) (by decide) (fun c21 => ?_) (fun c21 => ?_)
        · rw [if_pos c21] at h
          refine ax_Tgo [.ldc_w 388] (pc' := 67) (L' := [some (.inr (12, 0)), some (.inl (.int a1)), some (.inl (.int a2)), some (.inl (.int a3)), some (.inl (.int a4)), some (.inl (.int a5))]) (st' := [.inl (.int (-1000000 : Int32))]) (S' := S1) ok_X12_game.1 (by decide +kernel) rfl rfl ?_
          cases h
          exact ax_Treti (by decide +kernel) rfl rfl
        · rw [if_neg c21] at h
          refine ax_Tgo [.aload_n 0, .iload_n 1, .iload_n 2, .iload_n 3, .iload 4, .iload 5] (pc' := 58) (L' := [some (.inr (12, 0)), some (.inl (.int a1)), some (.inl (.int a2)), some (.inl (.int a3)), some (.inl (.int a4)), some (.inl (.int a5))]) (st' := [.inl (.int a5), .inl (.int a4), .inl (.int a3), .inl (.int a2), .inl (.int a1), .inr (12, 0)]) (S' := S1) ok_X12_game.1 (by decide +kernel) rfl rfl ?_
          obtain ⟨r25, S22, hq23, h⟩ := ax_bu_e h
          refine ax_TVi (d := 75) (ka := 12) (i := 0) [.inl (.int a1), .inl (.int a2), .inl (.int a3), .inl (.int a4), .inl (.int a5)] [] lk_X12_447 (by decide +kernel) rfl (by decide) rfl (Nat.le_of_ble_eq_true rfl) (Nat.le_of_ble_eq_true rfl) ((t_X12_gameOf hq23).up (by decide)) ?_
          refine ax_Tgoto (off := 6) (tgt := 67) (by decide +kernel) (by decide) ?_
          cases h
          exact ax_Treti (by decide +kernel) rfl rfl
def f_X12_hards (a1 : Int32) (S : AS) : Option (Int32 × AS) := ax_let (ax_sfi S 12 0 0 (0 : Int32)) (fun (S1 : AS) => (f_X12_isCaller a1 S1).bind (fun (r5 : Int32) => (if r5 = (0 : Int32) then some ((Int32.ofInt (-1)), S1) else ax_bu (f_X12_hardBits a1 S1) (fun (r10 : Int32) (S7 : AS) => some (r10, S7)))))
set_option maxRecDepth 100000 in
theorem t_X12_hards {l : Launch} {a1 : Int32} {S Z : AS} {r : Int32} (h : f_X12_hards a1 S = some (r, Z)) : ax_M l 76 ma_X12_hards [.inr (12, 0), .inl (.int a1)] S (some (.inl (.int r))) Z := by
  unfold f_X12_hards at h
  show ax_T l 76 ma_X12_hards (0, [some (.inr (12, 0)), some (.inl (.int a1))], [], S) (some (.inl (.int r))) Z
  refine ax_Tgo [.aload_n 0, .iconst 0, .putfield 93] (pc' := 5) (L' := [some (.inr (12, 0)), some (.inl (.int a1))]) (st' := []) (S' := (ax_sfi S 12 0 0 (0 : Int32))) ok_X12_hards.1 (by decide +kernel) rfl rfl ?_
  obtain ⟨S1, eS1, h⟩ := ax_let_e h
  rw [eS1]
  refine ax_Tgo [.aload_n 0, .iload_n 1] (pc' := 7) (L' := [some (.inr (12, 0)), some (.inl (.int a1))]) (st' := [.inl (.int a1), .inr (12, 0)]) (S' := S1) ok_X12_hards.1 (by decide +kernel) rfl rfl ?_
  obtain ⟨r5, hq3, h⟩ := ax_bd_e h
  refine ax_TVi (d := 75) (ka := 12) (i := 0) [.inl (.int a1)] [] lk_X12_324 (by decide +kernel) rfl (by decide) rfl (Nat.le_of_ble_eq_true rfl) (Nat.le_of_ble_eq_true rfl) ((t_X12_isCaller hq3).up (by decide)) ?_
  refine ax_Tif_eq (off := 11) (tgt := 21) (by decide +kernel) (by decide) (fun c6 => ?_) (fun c6 => ?_)
  · rw [if_pos c6] at h
    refine ax_Tgo [.iconst (-1)] (pc' := 22) (L' := [some (.inr (12, 0)), some (.inl (.int a1))]) (st' := [.inl (.int (Int32.ofInt (-1)))]) (S' := S1) ok_X12_hards.1 (by decide +kernel) rfl rfl ?_
    cases h
    exact ax_Treti (by decide +kernel) rfl rfl
  · rw [if_neg c6] at h
    refine ax_Tgo [.aload_n 0, .iload_n 1] (pc' := 15) (L' := [some (.inr (12, 0)), some (.inl (.int a1))]) (st' := [.inl (.int a1), .inr (12, 0)]) (S' := S1) ok_X12_hards.1 (by decide +kernel) rfl rfl ?_
    obtain ⟨r10, S7, hq8, h⟩ := ax_bu_e h
    refine ax_TVi (d := 75) (ka := 12) (i := 0) [.inl (.int a1)] [] lk_X12_428 (by decide +kernel) rfl (by decide) rfl (Nat.le_of_ble_eq_true rfl) (Nat.le_of_ble_eq_true rfl) ((t_X12_hardBits hq8).up (by decide)) ?_
    refine ax_Tgoto (off := 4) (tgt := 22) (by decide +kernel) (by decide) ?_
    cases h
    exact ax_Treti (by decide +kernel) rfl rfl
def f_X12_heard (a1 : Int32) (a2 : Int32) (a3 : Int32) (S : AS) : Option (Int32 × AS) := ax_let (ax_sfi S 12 0 0 (0 : Int32)) (fun (S1 : AS) => (f_X12_isCaller a1 S1).bind (fun (r5 : Int32) => (if r5 = (0 : Int32) then some ((Int32.ofInt (-1)), S1) else (f_X12_isIn (a2.toInt64) (1 : Int64) (60 : Int64) S1).bind (fun (r10 : Int32) => (if r10 = (0 : Int32) then some ((Int32.ofInt (-1)), S1) else (if (ax_fi S1 12 0 47) = (10 : Int32) then some ((Int32.ofInt (-1)), S1) else ax_gd (ax_in ((3 : Int32) * (ax_fi S1 12 0 47)) 30) (ax_let (ax_sai S1 61 0 ((3 : Int32) * (ax_fi S1 12 0 47)).toNatClampNeg a1) (fun (S14 : AS) => ax_gd (ax_in (((3 : Int32) * (ax_fi S14 12 0 47)) + (1 : Int32)) 30) (ax_let (ax_sai S14 61 0 (((3 : Int32) * (ax_fi S14 12 0 47)) + (1 : Int32)).toNatClampNeg a2) (fun (S16 : AS) => ax_let (fun (x17 : Int32) (S18 : AS) => ax_gd (ax_in (((3 : Int32) * (ax_fi S16 12 0 47)) + (2 : Int32)) 30) (ax_let (ax_sai S18 61 0 (((3 : Int32) * (ax_fi S16 12 0 47)) + (2 : Int32)).toNatClampNeg x17) (fun (S21 : AS) => ax_let (ax_sfi S21 12 0 47 ((ax_fi S21 12 0 47) + (1 : Int32))) (fun (S22 : AS) => some ((ax_fi S22 12 0 47), S22))))) (fun J19 => (if a3 = (0 : Int32) then J19 (0 : Int32) S16 else J19 (1 : Int32) S16))))))))))))
set_option maxRecDepth 100000 in
theorem t_X12_heard {l : Launch} {a1 : Int32} {a2 : Int32} {a3 : Int32} {S Z : AS} {r : Int32} (h : f_X12_heard a1 a2 a3 S = some (r, Z)) : ax_M l 1 ma_X12_heard [.inr (12, 0), .inl (.int a1), .inl (.int a2), .inl (.int a3)] S (some (.inl (.int r))) Z := by
  unfold f_X12_heard at h
  show ax_T l 1 ma_X12_heard (0, [some (.inr (12, 0)), some (.inl (.int a1)), some (.inl (.int a2)), some (.inl (.int a3))], [], S) (some (.inl (.int r))) Z
  refine ax_Tgo [.aload_n 0, .iconst 0, .putfield 93] (pc' := 5) (L' := [some (.inr (12, 0)), some (.inl (.int a1)), some (.inl (.int a2)), some (.inl (.int a3))]) (st' := []) (S' := (ax_sfi S 12 0 0 (0 : Int32))) ok_X12_heard.1 (by decide +kernel) rfl rfl ?_
  obtain ⟨S1, eS1, h⟩ := ax_let_e h
  rw [eS1]
  refine ax_Tgo [.aload_n 0, .iload_n 1] (pc' := 7) (L' := [some (.inr (12, 0)), some (.inl (.int a1)), some (.inl (.int a2)), some (.inl (.int a3))]) (st' := [.inl (.int a1), .inr (12, 0)]) (S' := S1) ok_X12_heard.1 (by decide +kernel) rfl rfl ?_
  obtain ⟨r5, hq3, h⟩ := ax_bd_e h
  refine ax_TVi (d := 0) (ka := 12) (i := 0) [.inl (.int a1)] [] lk_X12_324 (by decide +kernel) rfl (by decide) rfl (Nat.le_of_ble_eq_true rfl) (Nat.le_of_ble_eq_true rfl) ((t_X12_isCaller hq3).up (by decide)) ?_
  refine ax_Tif_eq (off := 24) (tgt := 34) (by decide +kernel) (by decide) (fun c6 => ?_) (fun c6 => ?_)
  · rw [if_pos c6] at h
    refine ax_Tgo [.iconst (-1)] (pc' := 35) (L' := [some (.inr (12, 0)), some (.inl (.int a1)), some (.inl (.int a2)), some (.inl (.int a3))]) (st' := [.inl (.int (Int32.ofInt (-1)))]) (S' := S1) ok_X12_heard.1 (by decide +kernel) rfl rfl ?_
    cases h
    exact ax_Treti (by decide +kernel) rfl rfl
  · rw [if_neg c6] at h
    refine ax_Tgo [.iload_n 2, .i2l, .lconst 1, .ldc2_w 422] (pc' := 19) (L' := [some (.inr (12, 0)), some (.inl (.int a1)), some (.inl (.int a2)), some (.inl (.int a3))]) (st' := [.inl (.long (60 : Int64)), .inl (.long (1 : Int64)), .inl (.long a2.toInt64)]) (S' := S1) ok_X12_heard.1 (by decide +kernel) rfl rfl ?_
    obtain ⟨r10, hq8, h⟩ := ax_bd_e h
    refine ax_TSi (d := 0) [.inl (.long a2.toInt64), .inl (.long (1 : Int64)), .inl (.long (60 : Int64))] [] lk_X12_214 (by decide +kernel) rfl rfl (Nat.le_of_ble_eq_true rfl) (Nat.le_of_ble_eq_true rfl) ((t_X12_isIn hq8).up (by decide)) ?_
    refine ax_Tif_eq (off := 12) (tgt := 34) (by decide +kernel) (by decide) (fun c11 => ?_) (fun c11 => ?_)
    · rw [if_pos c11] at h
      refine ax_Tgo [.iconst (-1)] (pc' := 35) (L' := [some (.inr (12, 0)), some (.inl (.int a1)), some (.inl (.int a2)), some (.inl (.int a3))]) (st' := [.inl (.int (Int32.ofInt (-1)))]) (S' := S1) ok_X12_heard.1 (by decide +kernel) rfl rfl ?_
      cases h
      exact ax_Treti (by decide +kernel) rfl rfl
    · rw [if_neg c11] at h
      refine ax_Tgo [.aload_n 0, .getfield 294, .bipush 10] (pc' := 31) (L' := [some (.inr (12, 0)), some (.inl (.int a1)), some (.inl (.int a2)), some (.inl (.int a3))]) (st' := [.inl (.int (10 : Int32)), .inl (.int (ax_fi S1 12 0 47))]) (S' := S1) ok_X12_heard.1 (by decide +kernel) rfl rfl ?_
      refine ax_Tic_ne (off := 5) (tgt := 36) (by decide +kernel) (by decide) (fun c12 => ?_) (fun c12 => ?_)
      · rw [if_neg c12] at h
        refine ax_Tgo [.aload_n 0, .getfield 87, .iconst 3, .aload_n 0, .getfield 294, .imul, .iload_n 1] (pc' := 47) (L' := [some (.inr (12, 0)), some (.inl (.int a1)), some (.inl (.int a2)), some (.inl (.int a3))]) (st' := [.inl (.int a1), .inl (.int ((3 : Int32) * (ax_fi S1 12 0 47))), .inr (61, 0)]) (S' := S1) ok_X12_heard.1 (by decide +kernel) rfl rfl ?_
        obtain ⟨g13, h⟩ := ax_gd_e h
        refine ax_Tasi (n := 30) ok_X12_heard.1 (by decide +kernel) (by decide) rfl g13 ?_
        obtain ⟨S14, eS14, h⟩ := ax_let_e h
        rw [eS14]
        refine ax_Tgo [.aload_n 0, .getfield 87, .iconst 3, .aload_n 0, .getfield 294, .imul, .iconst 1, .iadd, .iload_n 2] (pc' := 61) (L' := [some (.inr (12, 0)), some (.inl (.int a1)), some (.inl (.int a2)), some (.inl (.int a3))]) (st' := [.inl (.int a2), .inl (.int (((3 : Int32) * (ax_fi S14 12 0 47)) + (1 : Int32))), .inr (61, 0)]) (S' := S14) ok_X12_heard.1 (by decide +kernel) rfl rfl ?_
        obtain ⟨g15, h⟩ := ax_gd_e h
        refine ax_Tasi (n := 30) ok_X12_heard.1 (by decide +kernel) (by decide) rfl g15 ?_
        obtain ⟨S16, eS16, h⟩ := ax_let_e h
        rw [eS16]
        refine ax_Tgo [.aload_n 0, .getfield 87, .iconst 3, .aload_n 0, .getfield 294, .imul, .iconst 2, .iadd, .iload_n 3] (pc' := 75) (L' := [some (.inr (12, 0)), some (.inl (.int a1)), some (.inl (.int a2)), some (.inl (.int a3))]) (st' := [.inl (.int a3), .inl (.int (((3 : Int32) * (ax_fi S16 12 0 47)) + (2 : Int32))), .inr (61, 0)]) (S' := S16) ok_X12_heard.1 (by decide +kernel) rfl rfl ?_
        obtain ⟨J19, eJ19, h⟩ := ax_let_e h
        have hJ19 : ∀ (x17 : Int32) (S18 : AS) r Z, J19 x17 S18 = some (r, Z) → ax_T l 1 ma_X12_heard (83, [some (.inr (12, 0)), none, none, none], [.inl (.int x17), .inl (.int (((3 : Int32) * (ax_fi S16 12 0 47)) + (2 : Int32))), .inr (61, 0)], S18) (some (.inl (.int r))) Z := by
          intro x17 S18 r Z h
          rw [← eJ19] at h
          try dsimp only at h
          obtain ⟨g20, h⟩ := ax_gd_e h
          refine ax_Tasi (n := 30) ok_X12_heard.1 (by decide +kernel) (by decide) rfl g20 ?_
          obtain ⟨S21, eS21, h⟩ := ax_let_e h
          rw [eS21]
          refine ax_Tgo [.aload_n 0, .dup, .getfield 294, .iconst 1, .iadd, .putfield 294] (pc' := 94) (L' := [some (.inr (12, 0)), none, none, none]) (st' := []) (S' := (ax_sfi S21 12 0 47 ((ax_fi S21 12 0 47) + (1 : Int32)))) ok_X12_heard.1 (by decide +kernel) rfl rfl ?_
          obtain ⟨S22, eS22, h⟩ := ax_let_e h
          rw [eS22]
          refine ax_Tgo [.aload_n 0, .getfield 294] (pc' := 98) (L' := [some (.inr (12, 0)), none, none, none]) (st' := [.inl (.int (ax_fi S22 12 0 47))]) (S' := S22) ok_X12_heard.1 (by decide +kernel) rfl rfl ?_
          cases h
          exact ax_Treti (by decide +kernel) rfl rfl
        refine ax_Tif_eq (off := 7) (tgt := 82) (by decide +kernel) (by decide) (fun c23 => ?_) (fun c23 => ?_)
        · rw [if_pos c23] at h
          refine ax_Tgo [.iconst 0] (pc' := 83) (L' := [some (.inr (12, 0)), some (.inl (.int a1)), some (.inl (.int a2)), some (.inl (.int a3))]) (st' := [.inl (.int (0 : Int32)), .inl (.int (((3 : Int32) * (ax_fi S16 12 0 47)) + (2 : Int32))), .inr (61, 0)]) (S' := S16) ok_X12_heard.1 (by decide +kernel) rfl rfl ?_
          refine ax_Tdrop [true, false, false, false] (L' := [some (.inr (12, 0)), none, none, none]) rfl ?_
          exact hJ19 (0 : Int32) S16 _ _ h
        · rw [if_neg c23] at h
          refine ax_Tgo [.iconst 1] (pc' := 79) (L' := [some (.inr (12, 0)), some (.inl (.int a1)), some (.inl (.int a2)), some (.inl (.int a3))]) (st' := [.inl (.int (1 : Int32)), .inl (.int (((3 : Int32) * (ax_fi S16 12 0 47)) + (2 : Int32))), .inr (61, 0)]) (S' := S16) ok_X12_heard.1 (by decide +kernel) rfl rfl ?_
          refine ax_Tgoto (off := 4) (tgt := 83) (by decide +kernel) (by decide) ?_
          refine ax_Tdrop [true, false, false, false] (L' := [some (.inr (12, 0)), none, none, none]) rfl ?_
          exact hJ19 (1 : Int32) S16 _ _ h
      · rw [if_pos c12] at h
        refine ax_Tgo [.iconst (-1)] (pc' := 35) (L' := [some (.inr (12, 0)), some (.inl (.int a1)), some (.inl (.int a2)), some (.inl (.int a3))]) (st' := [.inl (.int (Int32.ofInt (-1)))]) (S' := S1) ok_X12_heard.1 (by decide +kernel) rfl rfl ?_
        cases h
        exact ax_Treti (by decide +kernel) rfl rfl
def f_X12_canHold_55x0 (a2 : Int32) (S : AS) : Option (Int32) := (f_X12_isIn (a2.toInt64) (1 : Int64) (20 : Int64) S).bind (fun (r4 : Int32) => (if r4 = (0 : Int32) then some (0 : Int32) else ax_gd (ax_in (16 : Int32) 204) (ax_gd (ax_in (0 : Int32) 3) ((if (ax_ai S 47 0 (0 : Int32).toNatClampNeg) < ((ax_ai S 55 0 (16 : Int32).toNatClampNeg) + a2) then some (0 : Int32) else some (1 : Int32))))))
set_option maxRecDepth 100000 in
theorem t_X12_canHold_55x0 {l : Launch} {a2 : Int32} {S : AS} {r : Int32} (h : f_X12_canHold_55x0 a2 S = some r) : ax_M l 1 ma_X12_canHold [.inr (12, 0), .inr (55, 0), .inl (.int a2)] S (some (.inl (.int r))) S := by
  unfold f_X12_canHold_55x0 at h
  show ax_T l 1 ma_X12_canHold (0, [some (.inr (12, 0)), some (.inr (55, 0)), some (.inl (.int a2))], [], S) (some (.inl (.int r))) S
  refine ax_Tgo [.iload_n 2, .i2l, .lconst 1, .ldc2_w 305] (pc' := 6) (L' := [some (.inr (12, 0)), some (.inr (55, 0)), some (.inl (.int a2))]) (st' := [.inl (.long (20 : Int64)), .inl (.long (1 : Int64)), .inl (.long a2.toInt64)]) (S' := S) ok_X12_canHold.1 (by decide +kernel) rfl rfl ?_
  obtain ⟨r4, hq2, h⟩ := ax_bd_e h
  refine ax_TSi (d := 0) [.inl (.long a2.toInt64), .inl (.long (1 : Int64)), .inl (.long (20 : Int64))] [] lk_X12_214 (by decide +kernel) rfl rfl (Nat.le_of_ble_eq_true rfl) (Nat.le_of_ble_eq_true rfl) ((t_X12_isIn hq2).up (by decide)) ?_
  refine ax_Tif_eq (off := 22) (tgt := 31) (by decide +kernel) (by decide) (fun c5 => ?_) (fun c5 => ?_)
  · rw [if_pos c5] at h
    refine ax_Tgo [.iconst 0] (pc' := 32) (L' := [some (.inr (12, 0)), some (.inr (55, 0)), some (.inl (.int a2))]) (st' := [.inl (.int (0 : Int32))]) (S' := S) ok_X12_canHold.1 (by decide +kernel) rfl rfl ?_
    cases h
    exact ax_Treti (by decide +kernel) rfl rfl
  · rw [if_neg c5] at h
    refine ax_Tgo [.aload_n 1, .bipush 16] (pc' := 15) (L' := [some (.inr (12, 0)), some (.inr (55, 0)), some (.inl (.int a2))]) (st' := [.inl (.int (16 : Int32)), .inr (55, 0)]) (S' := S) ok_X12_canHold.1 (by decide +kernel) rfl rfl ?_
    obtain ⟨g6, h⟩ := ax_gd_e h
    refine ax_Tali (n := 204) ok_X12_canHold.1 (by decide +kernel) (by decide) rfl g6 ?_
    refine ax_Tgo [.iload_n 2, .iadd, .aload_n 0, .getfield 37, .iconst 0] (pc' := 23) (L' := [some (.inr (12, 0)), some (.inr (55, 0)), some (.inl (.int a2))]) (st' := [.inl (.int (0 : Int32)), .inr (47, 0), .inl (.int ((ax_ai S 55 0 (16 : Int32).toNatClampNeg) + a2))]) (S' := S) ok_X12_canHold.1 (by decide +kernel) rfl rfl ?_
    obtain ⟨g7, h⟩ := ax_gd_e h
    refine ax_Tali (n := 3) ok_X12_canHold.1 (by decide +kernel) (by decide) rfl g7 ?_
    refine ax_Tic_gt (off := 7) (tgt := 31) (by decide +kernel) (by decide) (fun c8 => ?_) (fun c8 => ?_)
    · rw [if_pos c8] at h
      refine ax_Tgo [.iconst 0] (pc' := 32) (L' := [some (.inr (12, 0)), some (.inr (55, 0)), some (.inl (.int a2))]) (st' := [.inl (.int (0 : Int32))]) (S' := S) ok_X12_canHold.1 (by decide +kernel) rfl rfl ?_
      cases h
      exact ax_Treti (by decide +kernel) rfl rfl
    · rw [if_neg c8] at h
      refine ax_Tgo [.iconst 1] (pc' := 28) (L' := [some (.inr (12, 0)), some (.inr (55, 0)), some (.inl (.int a2))]) (st' := [.inl (.int (1 : Int32))]) (S' := S) ok_X12_canHold.1 (by decide +kernel) rfl rfl ?_
      refine ax_Tgoto (off := 4) (tgt := 32) (by decide +kernel) (by decide) ?_
      cases h
      exact ax_Treti (by decide +kernel) rfl rfl
def f_X12_hold (a1 : Int32) (S : AS) : Option (Int32 × AS) := ax_let (ax_sfi S 12 0 0 (0 : Int32)) (fun (S1 : AS) => (if (ax_fi S1 12 0 27) = (0 : Int32) then some ((Int32.ofInt (-1)), S1) else (f_X12_canHold_55x0 a1 S1).bind (fun (r6 : Int32) => (if r6 = (0 : Int32) then some ((Int32.ofInt (-1)), S1) else (f_X12_remember S1).bind (fun (S8 : AS) => ax_gd (ax_in (16 : Int32) 204) (ax_gd (ax_in (16 : Int32) 204) (ax_let (ax_sai S8 55 0 (16 : Int32).toNatClampNeg ((ax_ai S8 55 0 (16 : Int32).toNatClampNeg) + a1)) (fun (S13 : AS) => ax_gd (ax_in (16 : Int32) 204) (some ((ax_ai S13 55 0 (16 : Int32).toNatClampNeg), S13))))))))))
set_option maxRecDepth 100000 in
theorem t_X12_hold {l : Launch} {a1 : Int32} {S Z : AS} {r : Int32} (h : f_X12_hold a1 S = some (r, Z)) : ax_M l 2 ma_X12_hold [.inr (12, 0), .inl (.int a1)] S (some (.inl (.int r))) Z := by
  unfold f_X12_hold at h
  show ax_T l 2 ma_X12_hold (0, [some (.inr (12, 0)), some (.inl (.int a1))], [], S) (some (.inl (.int r))) Z
  refine ax_Tgo [.aload_n 0, .iconst 0, .putfield 93] (pc' := 5) (L' := [some (.inr (12, 0)), some (.inl (.int a1))]) (st' := []) (S' := (ax_sfi S 12 0 0 (0 : Int32))) ok_X12_hold.1 (by decide +kernel) rfl rfl ?_
  obtain ⟨S1, eS1, h⟩ := ax_let_e h
  rw [eS1]
  refine ax_Tgo [.aload_n 0, .getfield 291] (pc' := 9) (L' := [some (.inr (12, 0)), some (.inl (.int a1))]) (st' := [.inl (.int (ax_fi S1 12 0 27))]) (S' := S1) ok_X12_hold.1 (by decide +kernel) rfl rfl ?_
  refine ax_Tif_eq (off := 15) (tgt := 24) (by decide +kernel) (by decide) (fun c2 => ?_) (fun c2 => ?_)
  · rw [if_pos c2] at h
    refine ax_Tgo [.iconst (-1)] (pc' := 25) (L' := [some (.inr (12, 0)), some (.inl (.int a1))]) (st' := [.inl (.int (Int32.ofInt (-1)))]) (S' := S1) ok_X12_hold.1 (by decide +kernel) rfl rfl ?_
    cases h
    exact ax_Treti (by decide +kernel) rfl rfl
  · rw [if_neg c2] at h
    refine ax_Tgo [.aload_n 0, .aload_n 0, .getfield 61, .iload_n 1] (pc' := 18) (L' := [some (.inr (12, 0)), some (.inl (.int a1))]) (st' := [.inl (.int a1), .inr (55, 0), .inr (12, 0)]) (S' := S1) ok_X12_hold.1 (by decide +kernel) rfl rfl ?_
    obtain ⟨r6, hq4, h⟩ := ax_bd_e h
    refine ax_TVi (d := 1) (ka := 12) (i := 0) [.inr (55, 0), .inl (.int a1)] [] lk_X12_365 (by decide +kernel) rfl (by decide) rfl (Nat.le_of_ble_eq_true rfl) (Nat.le_of_ble_eq_true rfl) ((t_X12_canHold_55x0 hq4).up (by decide)) ?_
    refine ax_Tif_ne (off := 5) (tgt := 26) (by decide +kernel) (by decide) (fun c7 => ?_) (fun c7 => ?_)
    · rw [if_neg c7] at h
      refine ax_Tgo [.aload_n 0] (pc' := 27) (L' := [some (.inr (12, 0)), some (.inl (.int a1))]) (st' := [.inr (12, 0)]) (S' := S1) ok_X12_hold.1 (by decide +kernel) rfl rfl ?_
      obtain ⟨S8, hq9, h⟩ := ax_bd_e h
      refine ax_TVv (d := 1) (ka := 12) (i := 0) [] [] lk_X12_352 (by decide +kernel) rfl (by decide) rfl (Nat.le_of_ble_eq_true rfl) (Nat.le_of_ble_eq_true rfl) ((t_X12_remember hq9).up (by decide)) ?_
      refine ax_Tgo [.aload_n 0, .getfield 61, .bipush 16, .dup2] (pc' := 37) (L' := [some (.inr (12, 0)), some (.inl (.int a1))]) (st' := [.inl (.int (16 : Int32)), .inr (55, 0), .inl (.int (16 : Int32)), .inr (55, 0)]) (S' := S8) ok_X12_hold.1 (by decide +kernel) rfl rfl ?_
      obtain ⟨g11, h⟩ := ax_gd_e h
      refine ax_Tali (n := 204) ok_X12_hold.1 (by decide +kernel) (by decide) rfl g11 ?_
      refine ax_Tgo [.iload_n 1, .iadd] (pc' := 40) (L' := [some (.inr (12, 0)), some (.inl (.int a1))]) (st' := [.inl (.int ((ax_ai S8 55 0 (16 : Int32).toNatClampNeg) + a1)), .inl (.int (16 : Int32)), .inr (55, 0)]) (S' := S8) ok_X12_hold.1 (by decide +kernel) rfl rfl ?_
      obtain ⟨g12, h⟩ := ax_gd_e h
      refine ax_Tasi (n := 204) ok_X12_hold.1 (by decide +kernel) (by decide) rfl g12 ?_
      obtain ⟨S13, eS13, h⟩ := ax_let_e h
      rw [eS13]
      refine ax_Tgo [.aload_n 0, .getfield 61, .bipush 16] (pc' := 47) (L' := [some (.inr (12, 0)), some (.inl (.int a1))]) (st' := [.inl (.int (16 : Int32)), .inr (55, 0)]) (S' := S13) ok_X12_hold.1 (by decide +kernel) rfl rfl ?_
      obtain ⟨g14, h⟩ := ax_gd_e h
      refine ax_Tali (n := 204) ok_X12_hold.1 (by decide +kernel) (by decide) rfl g14 ?_
      cases h
      exact ax_Treti (by decide +kernel) rfl rfl
    · rw [if_pos c7] at h
      refine ax_Tgo [.iconst (-1)] (pc' := 25) (L' := [some (.inr (12, 0)), some (.inl (.int a1))]) (st' := [.inl (.int (Int32.ofInt (-1)))]) (S' := S1) ok_X12_hold.1 (by decide +kernel) rfl rfl ?_
      cases h
      exact ax_Treti (by decide +kernel) rfl rfl
def f_X12_image_L16 (K41 : AS → Option (Int32 × AS)) : Nat → Int32 → AS → Option (Int32 × AS)
  | 0, _, _ => none
  | n + 1, x3, S4 => (if (204 : Int32) ≤ x3 then K41 S4 else ax_gd (ax_in x3 204) (ax_gd (ax_in x3 204) (ax_let (ax_sai S4 62 0 x3.toNatClampNeg (ax_ai S4 55 0 x3.toNatClampNeg)) (fun (S8 : AS) => ax_let (x3 + (1 : Int32)) (fun (v9 : Int32) => f_X12_image_L16 K41 n v9 S8)))))
def f_X12_image (S : AS) : Option (Int32 × AS) := ax_let (ax_sfi S 12 0 0 (0 : Int32)) (fun (S1 : AS) => (if (ax_fi S1 12 0 27) = (0 : Int32) then some ((Int32.ofInt (-1)), S1) else f_X12_image_L16 (fun (S10 : AS) => ax_let (ax_sfi S10 12 0 49 (1 : Int32)) (fun (S11 : AS) => ax_gd (ax_in (22 : Int32) 204) (some ((ax_ai S11 55 0 (22 : Int32).toNatClampNeg), S11)))) ax_F (0 : Int32) S1))
set_option maxRecDepth 100000 in
theorem t_X12_image_L16 {l : Launch} {K41 : AS → Option (Int32 × AS)} (hK41 : ∀ (S : AS) r Z, K41 S = some (r, Z) → ax_T l 0 ma_X12_image (41, [some (.inr (12, 0)), none], [], S) (some (.inl (.int r))) Z) : ∀ (n : Nat) (x3 : Int32) (S4 : AS) r Z, f_X12_image_L16 K41 n x3 S4 = some (r, Z) → ax_T l 0 ma_X12_image (16, [some (.inr (12, 0)), some (.inl (.int x3))], [], S4) (some (.inl (.int r))) Z := by
  intro n
  induction n with
  | zero =>
    intro x3 S4 r Z h
    cases h
  | succ n ih =>
    intro x3 S4 r Z h
    unfold f_X12_image_L16 at h
    refine ax_Tgo [.iload_n 1, .sipush 204] (pc' := 20) (L' := [some (.inr (12, 0)), some (.inl (.int x3))]) (st' := [.inl (.int (204 : Int32)), .inl (.int x3)]) (S' := S4) ok_X12_image.1 (by decide +kernel) rfl rfl ?_
    refine ax_Tic_ge (off := 21) (tgt := 41) (by decide +kernel) (by decide) (fun c5 => ?_) (fun c5 => ?_)
    · rw [if_pos c5] at h
      refine ax_Tdrop [true, false] (L' := [some (.inr (12, 0)), none]) rfl ?_
      exact hK41 S4 _ _ h
    · rw [if_neg c5] at h
      refine ax_Tgo [.aload_n 0, .getfield 90, .iload_n 1, .aload_n 0, .getfield 61, .iload_n 1] (pc' := 33) (L' := [some (.inr (12, 0)), some (.inl (.int x3))]) (st' := [.inl (.int x3), .inr (55, 0), .inl (.int x3), .inr (62, 0)]) (S' := S4) ok_X12_image.1 (by decide +kernel) rfl rfl ?_
      obtain ⟨g6, h⟩ := ax_gd_e h
      refine ax_Tali (n := 204) ok_X12_image.1 (by decide +kernel) (by decide) rfl g6 ?_
      obtain ⟨g7, h⟩ := ax_gd_e h
      refine ax_Tasi (n := 204) ok_X12_image.1 (by decide +kernel) (by decide) rfl g7 ?_
      obtain ⟨S8, eS8, h⟩ := ax_let_e h
      rw [eS8]
      refine ax_Tgo [.iinc 1 1] (pc' := 38) (L' := [some (.inr (12, 0)), some (.inl (.int (x3 + (1 : Int32))))]) (st' := []) (S' := S8) ok_X12_image.1 (by decide +kernel) rfl rfl ?_
      obtain ⟨v9, ev9, h⟩ := ax_let_e h
      rw [ev9]
      refine ax_Tgoto (off := (-22)) (tgt := 16) (by decide +kernel) (by decide) ?_
      exact ih v9 S8 _ _ h
set_option maxRecDepth 100000 in
theorem t_X12_image {l : Launch} {S Z : AS} {r : Int32} (h : f_X12_image S = some (r, Z)) : ax_M l 0 ma_X12_image [.inr (12, 0)] S (some (.inl (.int r))) Z := by
  unfold f_X12_image at h
  show ax_T l 0 ma_X12_image (0, [some (.inr (12, 0)), none], [], S) (some (.inl (.int r))) Z
  refine ax_Tgo [.aload_n 0, .iconst 0, .putfield 93] (pc' := 5) (L' := [some (.inr (12, 0)), none]) (st' := []) (S' := (ax_sfi S 12 0 0 (0 : Int32))) ok_X12_image.1 (by decide +kernel) rfl rfl ?_
  obtain ⟨S1, eS1, h⟩ := ax_let_e h
  rw [eS1]
  refine ax_Tgo [.aload_n 0, .getfield 291] (pc' := 9) (L' := [some (.inr (12, 0)), none]) (st' := [.inl (.int (ax_fi S1 12 0 27))]) (S' := S1) ok_X12_image.1 (by decide +kernel) rfl rfl ?_
  refine ax_Tif_ne (off := 5) (tgt := 14) (by decide +kernel) (by decide) (fun c2 => ?_) (fun c2 => ?_)
  · rw [if_neg c2] at h
    refine ax_Tgo [.iconst 0, .istore_n 1] (pc' := 16) (L' := [some (.inr (12, 0)), some (.inl (.int (0 : Int32)))]) (st' := []) (S' := S1) ok_X12_image.1 (by decide +kernel) rfl rfl ?_
    refine t_X12_image_L16 ?_ _ (0 : Int32) S1 _ _ h
    · intro S10 r Z h
      refine ax_Tgo [.aload_n 0, .iconst 1, .putfield 300] (pc' := 46) (L' := [some (.inr (12, 0)), none]) (st' := []) (S' := (ax_sfi S10 12 0 49 (1 : Int32))) ok_X12_image.1 (by decide +kernel) rfl rfl ?_
      obtain ⟨S11, eS11, h⟩ := ax_let_e h
      rw [eS11]
      refine ax_Tgo [.aload_n 0, .getfield 61, .bipush 22] (pc' := 52) (L' := [some (.inr (12, 0)), none]) (st' := [.inl (.int (22 : Int32)), .inr (55, 0)]) (S' := S11) ok_X12_image.1 (by decide +kernel) rfl rfl ?_
      obtain ⟨g12, h⟩ := ax_gd_e h
      refine ax_Tali (n := 204) ok_X12_image.1 (by decide +kernel) (by decide) rfl g12 ?_
      cases h
      exact ax_Treti (by decide +kernel) rfl rfl
  · rw [if_pos c2] at h
    refine ax_Tgo [.iconst (-1)] (pc' := 13) (L' := [some (.inr (12, 0)), none]) (st' := [.inl (.int (Int32.ofInt (-1)))]) (S' := S1) ok_X12_image.1 (by decide +kernel) rfl rfl ?_
    cases h
    exact ax_Treti (by decide +kernel) rfl rfl
def f_X12_isLodger (a1 : Int32) (S : AS) : Option (Int32) := (if a1 < (0 : Int32) then some (0 : Int32) else (if (ax_fi S 12 0 26) ≤ a1 then some (0 : Int32) else some (1 : Int32)))
set_option maxRecDepth 100000 in
theorem t_X12_isLodger {l : Launch} {a1 : Int32} {S : AS} {r : Int32} (h : f_X12_isLodger a1 S = some r) : ax_M l 0 ma_X12_isLodger [.inr (12, 0), .inl (.int a1)] S (some (.inl (.int r))) S := by
  unfold f_X12_isLodger at h
  show ax_T l 0 ma_X12_isLodger (0, [some (.inr (12, 0)), some (.inl (.int a1))], [], S) (some (.inl (.int r))) S
  refine ax_Tgo [.iload_n 1] (pc' := 1) (L' := [some (.inr (12, 0)), some (.inl (.int a1))]) (st' := [.inl (.int a1)]) (S' := S) ok_X12_isLodger.1 (by decide +kernel) rfl rfl ?_
  refine ax_Tif_lt (off := 15) (tgt := 16) (by decide +kernel) (by decide) (fun c1 => ?_) (fun c1 => ?_)
  · rw [if_pos c1] at h
    refine ax_Tgo [.iconst 0] (pc' := 17) (L' := [some (.inr (12, 0)), some (.inl (.int a1))]) (st' := [.inl (.int (0 : Int32))]) (S' := S) ok_X12_isLodger.1 (by decide +kernel) rfl rfl ?_
    cases h
    exact ax_Treti (by decide +kernel) rfl rfl
  · rw [if_neg c1] at h
    refine ax_Tgo [.iload_n 1, .aload_n 0, .getfield 288] (pc' := 9) (L' := [some (.inr (12, 0)), some (.inl (.int a1))]) (st' := [.inl (.int (ax_fi S 12 0 26)), .inl (.int a1)]) (S' := S) ok_X12_isLodger.1 (by decide +kernel) rfl rfl ?_
    refine ax_Tic_ge (off := 7) (tgt := 16) (by decide +kernel) (by decide) (fun c2 => ?_) (fun c2 => ?_)
    · rw [if_pos c2] at h
      refine ax_Tgo [.iconst 0] (pc' := 17) (L' := [some (.inr (12, 0)), some (.inl (.int a1))]) (st' := [.inl (.int (0 : Int32))]) (S' := S) ok_X12_isLodger.1 (by decide +kernel) rfl rfl ?_
      cases h
      exact ax_Treti (by decide +kernel) rfl rfl
    · rw [if_neg c2] at h
      refine ax_Tgo [.iconst 1] (pc' := 13) (L' := [some (.inr (12, 0)), some (.inl (.int a1))]) (st' := [.inl (.int (1 : Int32))]) (S' := S) ok_X12_isLodger.1 (by decide +kernel) rfl rfl ?_
      refine ax_Tgoto (off := 4) (tgt := 17) (by decide +kernel) (by decide) ?_
      cases h
      exact ax_Treti (by decide +kernel) rfl rfl
def f_X12_isPlan (a1 : Int32) (S : AS) : Option (Int32) := (if a1 < (0 : Int32) then some (0 : Int32) else (if (ax_fi S 12 0 30) ≤ a1 then some (0 : Int32) else some (1 : Int32)))
set_option maxRecDepth 100000 in
theorem t_X12_isPlan {l : Launch} {a1 : Int32} {S : AS} {r : Int32} (h : f_X12_isPlan a1 S = some r) : ax_M l 0 ma_X12_isPlan [.inr (12, 0), .inl (.int a1)] S (some (.inl (.int r))) S := by
  unfold f_X12_isPlan at h
  show ax_T l 0 ma_X12_isPlan (0, [some (.inr (12, 0)), some (.inl (.int a1))], [], S) (some (.inl (.int r))) S
  refine ax_Tgo [.iload_n 1] (pc' := 1) (L' := [some (.inr (12, 0)), some (.inl (.int a1))]) (st' := [.inl (.int a1)]) (S' := S) ok_X12_isPlan.1 (by decide +kernel) rfl rfl ?_
  refine ax_Tif_lt (off := 15) (tgt := 16) (by decide +kernel) (by decide) (fun c1 => ?_) (fun c1 => ?_)
  · rw [if_pos c1] at h
    refine ax_Tgo [.iconst 0] (pc' := 17) (L' := [some (.inr (12, 0)), some (.inl (.int a1))]) (st' := [.inl (.int (0 : Int32))]) (S' := S) ok_X12_isPlan.1 (by decide +kernel) rfl rfl ?_
    cases h
    exact ax_Treti (by decide +kernel) rfl rfl
  · rw [if_neg c1] at h
    refine ax_Tgo [.iload_n 1, .aload_n 0, .getfield 283] (pc' := 9) (L' := [some (.inr (12, 0)), some (.inl (.int a1))]) (st' := [.inl (.int (ax_fi S 12 0 30)), .inl (.int a1)]) (S' := S) ok_X12_isPlan.1 (by decide +kernel) rfl rfl ?_
    refine ax_Tic_ge (off := 7) (tgt := 16) (by decide +kernel) (by decide) (fun c2 => ?_) (fun c2 => ?_)
    · rw [if_pos c2] at h
      refine ax_Tgo [.iconst 0] (pc' := 17) (L' := [some (.inr (12, 0)), some (.inl (.int a1))]) (st' := [.inl (.int (0 : Int32))]) (S' := S) ok_X12_isPlan.1 (by decide +kernel) rfl rfl ?_
      cases h
      exact ax_Treti (by decide +kernel) rfl rfl
    · rw [if_neg c2] at h
      refine ax_Tgo [.iconst 1] (pc' := 13) (L' := [some (.inr (12, 0)), some (.inl (.int a1))]) (st' := [.inl (.int (1 : Int32))]) (S' := S) ok_X12_isPlan.1 (by decide +kernel) rfl rfl ?_
      refine ax_Tgoto (off := 4) (tgt := 17) (by decide +kernel) (by decide) ?_
      cases h
      exact ax_Treti (by decide +kernel) rfl rfl
def f_X12_law (a1 : Int32) (S : AS) : Option (Int32 × AS) := ax_let (ax_sfi S 12 0 0 (0 : Int32)) (fun (S1 : AS) => (if a1 = (Int32.ofInt (-1)) then ax_let (ax_sfi S1 12 0 34 a1) (fun (S3 : AS) => some ((1 : Int32), S3)) else (f_X12_isIn (a1.toInt64) (0 : Int64) ((ax_fi S1 12 0 7) - (1 : Int32)).toInt64 S1).bind (fun (r7 : Int32) => (if r7 = (0 : Int32) then some ((0 : Int32), S1) else ax_let (ax_sfi S1 12 0 34 a1) (fun (S9 : AS) => some ((1 : Int32), S9))))))
set_option maxRecDepth 100000 in
theorem t_X12_law {l : Launch} {a1 : Int32} {S Z : AS} {r : Int32} (h : f_X12_law a1 S = some (r, Z)) : ax_M l 1 ma_X12_law [.inr (12, 0), .inl (.int a1)] S (some (.inl (.int r))) Z := by
  unfold f_X12_law at h
  show ax_T l 1 ma_X12_law (0, [some (.inr (12, 0)), some (.inl (.int a1))], [], S) (some (.inl (.int r))) Z
  refine ax_Tgo [.aload_n 0, .iconst 0, .putfield 93] (pc' := 5) (L' := [some (.inr (12, 0)), some (.inl (.int a1))]) (st' := []) (S' := (ax_sfi S 12 0 0 (0 : Int32))) ok_X12_law.1 (by decide +kernel) rfl rfl ?_
  obtain ⟨S1, eS1, h⟩ := ax_let_e h
  rw [eS1]
  refine ax_Tgo [.iload_n 1, .iconst (-1)] (pc' := 7) (L' := [some (.inr (12, 0)), some (.inl (.int a1))]) (st' := [.inl (.int (Int32.ofInt (-1))), .inl (.int a1)]) (S' := S1) ok_X12_law.1 (by decide +kernel) rfl rfl ?_
  refine ax_Tic_eq (off := 21) (tgt := 28) (by decide +kernel) (by decide) (fun c2 => ?_) (fun c2 => ?_)
  · rw [if_pos c2] at h
    refine ax_Tgo [.aload_n 0, .iload_n 1, .putfield 67] (pc' := 33) (L' := [some (.inr (12, 0)), some (.inl (.int a1))]) (st' := []) (S' := (ax_sfi S1 12 0 34 a1)) ok_X12_law.1 (by decide +kernel) rfl rfl ?_
    obtain ⟨S3, eS3, h⟩ := ax_let_e h
    rw [eS3]
    refine ax_Tgo [.iconst 1] (pc' := 34) (L' := [some (.inr (12, 0)), some (.inl (.int a1))]) (st' := [.inl (.int (1 : Int32))]) (S' := S3) ok_X12_law.1 (by decide +kernel) rfl rfl ?_
    cases h
    exact ax_Treti (by decide +kernel) rfl rfl
  · rw [if_neg c2] at h
    refine ax_Tgo [.iload_n 1, .i2l, .lconst 0, .aload_n 0, .getfield 280, .iconst 1, .isub, .i2l] (pc' := 20) (L' := [some (.inr (12, 0)), some (.inl (.int a1))]) (st' := [.inl (.long ((ax_fi S1 12 0 7) - (1 : Int32)).toInt64), .inl (.long (0 : Int64)), .inl (.long a1.toInt64)]) (S' := S1) ok_X12_law.1 (by decide +kernel) rfl rfl ?_
    obtain ⟨r7, hq5, h⟩ := ax_bd_e h
    refine ax_TSi (d := 0) [.inl (.long a1.toInt64), .inl (.long (0 : Int64)), .inl (.long ((ax_fi S1 12 0 7) - (1 : Int32)).toInt64)] [] lk_X12_214 (by decide +kernel) rfl rfl (Nat.le_of_ble_eq_true rfl) (Nat.le_of_ble_eq_true rfl) ((t_X12_isIn hq5).up (by decide)) ?_
    refine ax_Tif_ne (off := 5) (tgt := 28) (by decide +kernel) (by decide) (fun c8 => ?_) (fun c8 => ?_)
    · rw [if_neg c8] at h
      refine ax_Tgo [.aload_n 0, .iload_n 1, .putfield 67] (pc' := 33) (L' := [some (.inr (12, 0)), some (.inl (.int a1))]) (st' := []) (S' := (ax_sfi S1 12 0 34 a1)) ok_X12_law.1 (by decide +kernel) rfl rfl ?_
      obtain ⟨S9, eS9, h⟩ := ax_let_e h
      rw [eS9]
      refine ax_Tgo [.iconst 1] (pc' := 34) (L' := [some (.inr (12, 0)), some (.inl (.int a1))]) (st' := [.inl (.int (1 : Int32))]) (S' := S9) ok_X12_law.1 (by decide +kernel) rfl rfl ?_
      cases h
      exact ax_Treti (by decide +kernel) rfl rfl
    · rw [if_pos c8] at h
      refine ax_Tgo [.iconst 0] (pc' := 27) (L' := [some (.inr (12, 0)), some (.inl (.int a1))]) (st' := [.inl (.int (0 : Int32))]) (S' := S1) ok_X12_law.1 (by decide +kernel) rfl rfl ?_
      cases h
      exact ax_Treti (by decide +kernel) rfl rfl
def f_X12_room_55x0 (a2 : Int32) (S : AS) : Option (Int32) := ax_gd (ax_in (((2 : Int32) * a2) + (1 : Int32)) 8) (ax_gd (ax_in ((12 : Int32) + a2) 204) (some ((ax_ai S 49 0 (((2 : Int32) * a2) + (1 : Int32)).toNatClampNeg) - (ax_ai S 55 0 ((12 : Int32) + a2).toNatClampNeg))))
set_option maxRecDepth 100000 in
theorem t_X12_room_55x0 {l : Launch} {a2 : Int32} {S : AS} {r : Int32} (h : f_X12_room_55x0 a2 S = some r) : ax_M l 0 ma_X12_room [.inr (12, 0), .inr (55, 0), .inl (.int a2)] S (some (.inl (.int r))) S := by
  unfold f_X12_room_55x0 at h
  show ax_T l 0 ma_X12_room (0, [some (.inr (12, 0)), some (.inr (55, 0)), some (.inl (.int a2))], [], S) (some (.inl (.int r))) S
  refine ax_Tgo [.aload_n 0, .getfield 43, .iconst 2, .iload_n 2, .imul, .iconst 1, .iadd] (pc' := 9) (L' := [some (.inr (12, 0)), some (.inr (55, 0)), some (.inl (.int a2))]) (st' := [.inl (.int (((2 : Int32) * a2) + (1 : Int32))), .inr (49, 0)]) (S' := S) ok_X12_room.1 (by decide +kernel) rfl rfl ?_
  obtain ⟨g1, h⟩ := ax_gd_e h
  refine ax_Tali (n := 8) ok_X12_room.1 (by decide +kernel) (by decide) rfl g1 ?_
  refine ax_Tgo [.aload_n 1, .bipush 12, .iload_n 2, .iadd] (pc' := 15) (L' := [some (.inr (12, 0)), some (.inr (55, 0)), some (.inl (.int a2))]) (st' := [.inl (.int ((12 : Int32) + a2)), .inr (55, 0), .inl (.int (ax_ai S 49 0 (((2 : Int32) * a2) + (1 : Int32)).toNatClampNeg))]) (S' := S) ok_X12_room.1 (by decide +kernel) rfl rfl ?_
  obtain ⟨g2, h⟩ := ax_gd_e h
  refine ax_Tali (n := 204) ok_X12_room.1 (by decide +kernel) (by decide) rfl g2 ?_
  refine ax_Tgo [.isub] (pc' := 17) (L' := [some (.inr (12, 0)), some (.inr (55, 0)), some (.inl (.int a2))]) (st' := [.inl (.int ((ax_ai S 49 0 (((2 : Int32) * a2) + (1 : Int32)).toNatClampNeg) - (ax_ai S 55 0 ((12 : Int32) + a2).toNatClampNeg)))]) (S' := S) ok_X12_room.1 (by decide +kernel) rfl rfl ?_
  cases h
  exact ax_Treti (by decide +kernel) rfl rfl
def f_X12_lodger (a1 : Int32) (a2 : Int32) (S : AS) : Option (Int32 × AS) := ax_let (ax_sfi S 12 0 0 (0 : Int32)) (fun (S1 : AS) => (f_X12_isLodger a1 S1).bind (fun (r5 : Int32) => (if r5 = (0 : Int32) then some ((Int32.ofInt (-1)), S1) else (f_X12_isIn (a2.toInt64) (0 : Int64) (2 : Int64) S1).bind (fun (r10 : Int32) => (if r10 = (0 : Int32) then some ((Int32.ofInt (-1)), S1) else (if a2 = (2 : Int32) then (f_X12_room_55x0 a1 S1).bind (fun (r17 : Int32) => some (r17, S1)) else ax_gd (ax_in (((2 : Int32) * a1) + a2) 8) (some ((ax_ai S1 49 0 (((2 : Int32) * a1) + a2).toNatClampNeg), S1))))))))
set_option maxRecDepth 100000 in
theorem t_X12_lodger {l : Launch} {a1 : Int32} {a2 : Int32} {S Z : AS} {r : Int32} (h : f_X12_lodger a1 a2 S = some (r, Z)) : ax_M l 1 ma_X12_lodger [.inr (12, 0), .inl (.int a1), .inl (.int a2)] S (some (.inl (.int r))) Z := by
  unfold f_X12_lodger at h
  show ax_T l 1 ma_X12_lodger (0, [some (.inr (12, 0)), some (.inl (.int a1)), some (.inl (.int a2))], [], S) (some (.inl (.int r))) Z
  refine ax_Tgo [.aload_n 0, .iconst 0, .putfield 93] (pc' := 5) (L' := [some (.inr (12, 0)), some (.inl (.int a1)), some (.inl (.int a2))]) (st' := []) (S' := (ax_sfi S 12 0 0 (0 : Int32))) ok_X12_lodger.1 (by decide +kernel) rfl rfl ?_
  obtain ⟨S1, eS1, h⟩ := ax_let_e h
  rw [eS1]
  refine ax_Tgo [.aload_n 0, .iload_n 1] (pc' := 7) (L' := [some (.inr (12, 0)), some (.inl (.int a1)), some (.inl (.int a2))]) (st' := [.inl (.int a1), .inr (12, 0)]) (S' := S1) ok_X12_lodger.1 (by decide +kernel) rfl rfl ?_
  obtain ⟨r5, hq3, h⟩ := ax_bd_e h
  refine ax_TVi (d := 0) (ka := 12) (i := 0) [.inl (.int a1)] [] lk_X12_338 (by decide +kernel) rfl (by decide) rfl (Nat.le_of_ble_eq_true rfl) (Nat.le_of_ble_eq_true rfl) ((t_X12_isLodger hq3).up (by decide)) ?_
  refine ax_Tif_eq (off := 15) (tgt := 25) (by decide +kernel) (by decide) (fun c6 => ?_) (fun c6 => ?_)
  · rw [if_pos c6] at h
    refine ax_Tgo [.iconst (-1)] (pc' := 26) (L' := [some (.inr (12, 0)), some (.inl (.int a1)), some (.inl (.int a2))]) (st' := [.inl (.int (Int32.ofInt (-1)))]) (S' := S1) ok_X12_lodger.1 (by decide +kernel) rfl rfl ?_
    cases h
    exact ax_Treti (by decide +kernel) rfl rfl
  · rw [if_neg c6] at h
    refine ax_Tgo [.iload_n 2, .i2l, .lconst 0, .ldc2_w 269] (pc' := 19) (L' := [some (.inr (12, 0)), some (.inl (.int a1)), some (.inl (.int a2))]) (st' := [.inl (.long (2 : Int64)), .inl (.long (0 : Int64)), .inl (.long a2.toInt64)]) (S' := S1) ok_X12_lodger.1 (by decide +kernel) rfl rfl ?_
    obtain ⟨r10, hq8, h⟩ := ax_bd_e h
    refine ax_TSi (d := 0) [.inl (.long a2.toInt64), .inl (.long (0 : Int64)), .inl (.long (2 : Int64))] [] lk_X12_214 (by decide +kernel) rfl rfl (Nat.le_of_ble_eq_true rfl) (Nat.le_of_ble_eq_true rfl) ((t_X12_isIn hq8).up (by decide)) ?_
    refine ax_Tif_ne (off := 5) (tgt := 27) (by decide +kernel) (by decide) (fun c11 => ?_) (fun c11 => ?_)
    · rw [if_neg c11] at h
      refine ax_Tgo [.iload_n 2, .iconst 2] (pc' := 29) (L' := [some (.inr (12, 0)), some (.inl (.int a1)), some (.inl (.int a2))]) (st' := [.inl (.int (2 : Int32)), .inl (.int a2)]) (S' := S1) ok_X12_lodger.1 (by decide +kernel) rfl rfl ?_
      refine ax_Tic_ne (off := 15) (tgt := 44) (by decide +kernel) (by decide) (fun c12 => ?_) (fun c12 => ?_)
      · rw [if_neg c12] at h
        refine ax_Tgo [.aload_n 0, .getfield 43, .iconst 2, .iload_n 1, .imul, .iload_n 2, .iadd] (pc' := 53) (L' := [some (.inr (12, 0)), some (.inl (.int a1)), some (.inl (.int a2))]) (st' := [.inl (.int (((2 : Int32) * a1) + a2)), .inr (49, 0)]) (S' := S1) ok_X12_lodger.1 (by decide +kernel) rfl rfl ?_
        obtain ⟨g13, h⟩ := ax_gd_e h
        refine ax_Tali (n := 8) ok_X12_lodger.1 (by decide +kernel) (by decide) rfl g13 ?_
        cases h
        exact ax_Treti (by decide +kernel) rfl rfl
      · rw [if_pos c12] at h
        refine ax_Tgo [.aload_n 0, .aload_n 0, .getfield 61, .iload_n 1] (pc' := 38) (L' := [some (.inr (12, 0)), some (.inl (.int a1)), some (.inl (.int a2))]) (st' := [.inl (.int a1), .inr (55, 0), .inr (12, 0)]) (S' := S1) ok_X12_lodger.1 (by decide +kernel) rfl rfl ?_
        obtain ⟨r17, hq15, h⟩ := ax_bd_e h
        refine ax_TVi (d := 0) (ka := 12) (i := 0) [.inr (55, 0), .inl (.int a1)] [] lk_X12_341 (by decide +kernel) rfl (by decide) rfl (Nat.le_of_ble_eq_true rfl) (Nat.le_of_ble_eq_true rfl) ((t_X12_room_55x0 hq15).up (by decide)) ?_
        refine ax_Tgoto (off := 13) (tgt := 54) (by decide +kernel) (by decide) ?_
        cases h
        exact ax_Treti (by decide +kernel) rfl rfl
    · rw [if_pos c11] at h
      refine ax_Tgo [.iconst (-1)] (pc' := 26) (L' := [some (.inr (12, 0)), some (.inl (.int a1)), some (.inl (.int a2))]) (st' := [.inl (.int (Int32.ofInt (-1)))]) (S' := S1) ok_X12_lodger.1 (by decide +kernel) rfl rfl ?_
      cases h
      exact ax_Treti (by decide +kernel) rfl rfl
def f_X12_log (a1 : Int32) (a2 : Int32) (S : AS) : Option (Int32 × AS) := ax_let (ax_sfi S 12 0 0 (0 : Int32)) (fun (S1 : AS) => ax_gd (ax_in (23 : Int32) 204) ((f_X12_isIn (a1.toInt64) (0 : Int64) ((ax_ai S1 55 0 (23 : Int32).toNatClampNeg) - (1 : Int32)).toInt64 S1).bind (fun (r6 : Int32) => (if r6 = (0 : Int32) then some ((Int32.ofInt (-1)), S1) else (f_X12_isIn (a2.toInt64) (0 : Int64) (2 : Int64) S1).bind (fun (r11 : Int32) => (if r11 = (0 : Int32) then some ((Int32.ofInt (-1)), S1) else ax_gd (ax_in (23 : Int32) 204) (ax_gd (ax_in (((24 : Int32) + ((3 : Int32) * (((ax_ai S1 55 0 (23 : Int32).toNatClampNeg) - (1 : Int32)) - a1))) + a2) 204) (some ((ax_ai S1 55 0 (((24 : Int32) + ((3 : Int32) * (((ax_ai S1 55 0 (23 : Int32).toNatClampNeg) - (1 : Int32)) - a1))) + a2).toNatClampNeg), S1)))))))))
set_option maxRecDepth 100000 in
theorem t_X12_log {l : Launch} {a1 : Int32} {a2 : Int32} {S Z : AS} {r : Int32} (h : f_X12_log a1 a2 S = some (r, Z)) : ax_M l 1 ma_X12_log [.inr (12, 0), .inl (.int a1), .inl (.int a2)] S (some (.inl (.int r))) Z := by
  unfold f_X12_log at h
  show ax_T l 1 ma_X12_log (0, [some (.inr (12, 0)), some (.inl (.int a1)), some (.inl (.int a2))], [], S) (some (.inl (.int r))) Z
  refine ax_Tgo [.aload_n 0, .iconst 0, .putfield 93] (pc' := 5) (L' := [some (.inr (12, 0)), some (.inl (.int a1)), some (.inl (.int a2))]) (st' := []) (S' := (ax_sfi S 12 0 0 (0 : Int32))) ok_X12_log.1 (by decide +kernel) rfl rfl ?_
  obtain ⟨S1, eS1, h⟩ := ax_let_e h
  rw [eS1]
  refine ax_Tgo [.iload_n 1, .i2l, .lconst 0, .aload_n 0, .getfield 61, .bipush 23] (pc' := 14) (L' := [some (.inr (12, 0)), some (.inl (.int a1)), some (.inl (.int a2))]) (st' := [.inl (.int (23 : Int32)), .inr (55, 0), .inl (.long (0 : Int64)), .inl (.long a1.toInt64)]) (S' := S1) ok_X12_log.1 (by decide +kernel) rfl rfl ?_
  obtain ⟨g2, h⟩ := ax_gd_e h
  refine ax_Tali (n := 204) ok_X12_log.1 (by decide +kernel) (by decide) rfl g2 ?_
  refine ax_Tgo [.iconst 1, .isub, .i2l] (pc' := 18) (L' := [some (.inr (12, 0)), some (.inl (.int a1)), some (.inl (.int a2))]) (st' := [.inl (.long ((ax_ai S1 55 0 (23 : Int32).toNatClampNeg) - (1 : Int32)).toInt64), .inl (.long (0 : Int64)), .inl (.long a1.toInt64)]) (S' := S1) ok_X12_log.1 (by decide +kernel) rfl rfl ?_
  obtain ⟨r6, hq4, h⟩ := ax_bd_e h
  refine ax_TSi (d := 0) [.inl (.long a1.toInt64), .inl (.long (0 : Int64)), .inl (.long ((ax_ai S1 55 0 (23 : Int32).toNatClampNeg) - (1 : Int32)).toInt64)] [] lk_X12_214 (by decide +kernel) rfl rfl (Nat.le_of_ble_eq_true rfl) (Nat.le_of_ble_eq_true rfl) ((t_X12_isIn hq4).up (by decide)) ?_
  refine ax_Tif_eq (off := 41) (tgt := 62) (by decide +kernel) (by decide) (fun c7 => ?_) (fun c7 => ?_)
  · rw [if_pos c7] at h
    refine ax_Tgo [.iconst (-1)] (pc' := 63) (L' := [some (.inr (12, 0)), some (.inl (.int a1)), some (.inl (.int a2))]) (st' := [.inl (.int (Int32.ofInt (-1)))]) (S' := S1) ok_X12_log.1 (by decide +kernel) rfl rfl ?_
    cases h
    exact ax_Treti (by decide +kernel) rfl rfl
  · rw [if_neg c7] at h
    refine ax_Tgo [.iload_n 2, .i2l, .lconst 0, .ldc2_w 269] (pc' := 30) (L' := [some (.inr (12, 0)), some (.inl (.int a1)), some (.inl (.int a2))]) (st' := [.inl (.long (2 : Int64)), .inl (.long (0 : Int64)), .inl (.long a2.toInt64)]) (S' := S1) ok_X12_log.1 (by decide +kernel) rfl rfl ?_
    obtain ⟨r11, hq9, h⟩ := ax_bd_e h
    refine ax_TSi (d := 0) [.inl (.long a2.toInt64), .inl (.long (0 : Int64)), .inl (.long (2 : Int64))] [] lk_X12_214 (by decide +kernel) rfl rfl (Nat.le_of_ble_eq_true rfl) (Nat.le_of_ble_eq_true rfl) ((t_X12_isIn hq9).up (by decide)) ?_
    refine ax_Tif_eq (off := 29) (tgt := 62) (by decide +kernel) (by decide) (fun c12 => ?_) (fun c12 => ?_)
    · rw [if_pos c12] at h
      refine ax_Tgo [.iconst (-1)] (pc' := 63) (L' := [some (.inr (12, 0)), some (.inl (.int a1)), some (.inl (.int a2))]) (st' := [.inl (.int (Int32.ofInt (-1)))]) (S' := S1) ok_X12_log.1 (by decide +kernel) rfl rfl ?_
      cases h
      exact ax_Treti (by decide +kernel) rfl rfl
    · rw [if_neg c12] at h
      refine ax_Tgo [.aload_n 0, .getfield 61, .bipush 24, .iconst 3, .aload_n 0, .getfield 61, .bipush 23] (pc' := 49) (L' := [some (.inr (12, 0)), some (.inl (.int a1)), some (.inl (.int a2))]) (st' := [.inl (.int (23 : Int32)), .inr (55, 0), .inl (.int (3 : Int32)), .inl (.int (24 : Int32)), .inr (55, 0)]) (S' := S1) ok_X12_log.1 (by decide +kernel) rfl rfl ?_
      obtain ⟨g13, h⟩ := ax_gd_e h
      refine ax_Tali (n := 204) ok_X12_log.1 (by decide +kernel) (by decide) rfl g13 ?_
      refine ax_Tgo [.iconst 1, .isub, .iload_n 1, .isub, .imul, .iadd, .iload_n 2, .iadd] (pc' := 58) (L' := [some (.inr (12, 0)), some (.inl (.int a1)), some (.inl (.int a2))]) (st' := [.inl (.int (((24 : Int32) + ((3 : Int32) * (((ax_ai S1 55 0 (23 : Int32).toNatClampNeg) - (1 : Int32)) - a1))) + a2)), .inr (55, 0)]) (S' := S1) ok_X12_log.1 (by decide +kernel) rfl rfl ?_
      obtain ⟨g14, h⟩ := ax_gd_e h
      refine ax_Tali (n := 204) ok_X12_log.1 (by decide +kernel) (by decide) rfl g14 ?_
      refine ax_Tgoto (off := 4) (tgt := 63) (by decide +kernel) (by decide) ?_
      cases h
      exact ax_Treti (by decide +kernel) rfl rfl
def f_X12_takesHard (a1 : Int32) (a2 : Int32) (S : AS) : Option (Int32 × AS) := ax_gd (ax_in (((2 : Int32) * a1) + (0 : Int32)) 204) (ax_gd (ax_in (17 : Int32) 204) (ax_gd (ax_in (18 : Int32) 204) (ax_gd (ax_in (22 : Int32) 204) (ax_bu (f_X12_takes_ a1 a2 (ax_ai S 55 0 (((2 : Int32) * a1) + (0 : Int32)).toNatClampNeg) (ax_ai S 55 0 (17 : Int32).toNatClampNeg) (ax_ai S 55 0 (18 : Int32).toNatClampNeg) (ax_ai S 55 0 (22 : Int32).toNatClampNeg) S) (fun (r8 : Int32) (S5 : AS) => some (r8, S5))))))
set_option maxRecDepth 100000 in
theorem t_X12_takesHard {l : Launch} {a1 : Int32} {a2 : Int32} {S Z : AS} {r : Int32} (h : f_X12_takesHard a1 a2 S = some (r, Z)) : ax_M l 74 ma_X12_takesHard [.inr (12, 0), .inl (.int a1), .inl (.int a2)] S (some (.inl (.int r))) Z := by
  unfold f_X12_takesHard at h
  show ax_T l 74 ma_X12_takesHard (0, [some (.inr (12, 0)), some (.inl (.int a1)), some (.inl (.int a2))], [], S) (some (.inl (.int r))) Z
  refine ax_Tgo [.aload_n 0, .iload_n 1, .iload_n 2, .aload_n 0, .getfield 61, .iconst 2, .iload_n 1, .imul, .iconst 0, .iadd] (pc' := 12) (L' := [some (.inr (12, 0)), some (.inl (.int a1)), some (.inl (.int a2))]) (st' := [.inl (.int (((2 : Int32) * a1) + (0 : Int32))), .inr (55, 0), .inl (.int a2), .inl (.int a1), .inr (12, 0)]) (S' := S) ok_X12_takesHard.1 (by decide +kernel) rfl rfl ?_
  obtain ⟨g1, h⟩ := ax_gd_e h
  refine ax_Tali (n := 204) ok_X12_takesHard.1 (by decide +kernel) (by decide) rfl g1 ?_
  refine ax_Tgo [.aload_n 0, .getfield 61, .bipush 17] (pc' := 19) (L' := [some (.inr (12, 0)), some (.inl (.int a1)), some (.inl (.int a2))]) (st' := [.inl (.int (17 : Int32)), .inr (55, 0), .inl (.int (ax_ai S 55 0 (((2 : Int32) * a1) + (0 : Int32)).toNatClampNeg)), .inl (.int a2), .inl (.int a1), .inr (12, 0)]) (S' := S) ok_X12_takesHard.1 (by decide +kernel) rfl rfl ?_
  obtain ⟨g2, h⟩ := ax_gd_e h
  refine ax_Tali (n := 204) ok_X12_takesHard.1 (by decide +kernel) (by decide) rfl g2 ?_
  refine ax_Tgo [.aload_n 0, .getfield 61, .bipush 18] (pc' := 26) (L' := [some (.inr (12, 0)), some (.inl (.int a1)), some (.inl (.int a2))]) (st' := [.inl (.int (18 : Int32)), .inr (55, 0), .inl (.int (ax_ai S 55 0 (17 : Int32).toNatClampNeg)), .inl (.int (ax_ai S 55 0 (((2 : Int32) * a1) + (0 : Int32)).toNatClampNeg)), .inl (.int a2), .inl (.int a1), .inr (12, 0)]) (S' := S) ok_X12_takesHard.1 (by decide +kernel) rfl rfl ?_
  obtain ⟨g3, h⟩ := ax_gd_e h
  refine ax_Tali (n := 204) ok_X12_takesHard.1 (by decide +kernel) (by decide) rfl g3 ?_
  refine ax_Tgo [.aload_n 0, .getfield 61, .bipush 22] (pc' := 33) (L' := [some (.inr (12, 0)), some (.inl (.int a1)), some (.inl (.int a2))]) (st' := [.inl (.int (22 : Int32)), .inr (55, 0), .inl (.int (ax_ai S 55 0 (18 : Int32).toNatClampNeg)), .inl (.int (ax_ai S 55 0 (17 : Int32).toNatClampNeg)), .inl (.int (ax_ai S 55 0 (((2 : Int32) * a1) + (0 : Int32)).toNatClampNeg)), .inl (.int a2), .inl (.int a1), .inr (12, 0)]) (S' := S) ok_X12_takesHard.1 (by decide +kernel) rfl rfl ?_
  obtain ⟨g4, h⟩ := ax_gd_e h
  refine ax_Tali (n := 204) ok_X12_takesHard.1 (by decide +kernel) (by decide) rfl g4 ?_
  obtain ⟨r8, S5, hq6, h⟩ := ax_bu_e h
  refine ax_TVi (d := 73) (ka := 12) (i := 0) [.inl (.int a1), .inl (.int a2), .inl (.int (ax_ai S 55 0 (((2 : Int32) * a1) + (0 : Int32)).toNatClampNeg)), .inl (.int (ax_ai S 55 0 (17 : Int32).toNatClampNeg)), .inl (.int (ax_ai S 55 0 (18 : Int32).toNatClampNeg)), .inl (.int (ax_ai S 55 0 (22 : Int32).toNatClampNeg))] [] lk_X12_322 (by decide +kernel) rfl (by decide) rfl (Nat.le_of_ble_eq_true rfl) (Nat.le_of_ble_eq_true rfl) ((t_X12_takes_ hq6).up (by decide)) ?_
  cases h
  exact ax_Treti (by decide +kernel) rfl rfl
def f_X12_mean_L19 (K40 : Int32 → AS → Option (Int32 × AS)) : Nat → Int32 → Int32 → Int32 → AS → Option (Int32 × AS)
  | 0, _, _, _, _ => none
  | n + 1, x7, x8, x9, S11 => (if (6 : Int32) ≤ x9 then K40 x8 S11 else ax_bu (f_X12_takesHard x7 x9 S11) (fun (r16 : Int32) (S13 : AS) => ax_let (x8 + r16) (fun (v17 : Int32) => ax_let (x9 + (1 : Int32)) (fun (v18 : Int32) => f_X12_mean_L19 K40 n x7 v17 v18 S13))))
def f_X12_mean (a1 : Int32) (S : AS) : Option (Int32 × AS) := ax_let (ax_sfi S 12 0 0 (0 : Int32)) (fun (S1 : AS) => (f_X12_isCaller a1 S1).bind (fun (r5 : Int32) => (if r5 = (0 : Int32) then some ((Int32.ofInt (-1)), S1) else f_X12_mean_L19 (fun (x10 : Int32) (S19 : AS) => some ((((100 : Int32) * x10) / (6 : Int32)), S19)) ax_F a1 (0 : Int32) (0 : Int32) S1)))
set_option maxRecDepth 100000 in
theorem t_X12_mean_L19 {l : Launch} {K40 : Int32 → AS → Option (Int32 × AS)} (hK40 : ∀ (x10 : Int32) (S : AS) r Z, K40 x10 S = some (r, Z) → ax_T l 75 ma_X12_mean (40, [none, none, some (.inl (.int x10)), none], [], S) (some (.inl (.int r))) Z) : ∀ (n : Nat) (x7 : Int32) (x8 : Int32) (x9 : Int32) (S11 : AS) r Z, f_X12_mean_L19 K40 n x7 x8 x9 S11 = some (r, Z) → ax_T l 75 ma_X12_mean (19, [some (.inr (12, 0)), some (.inl (.int x7)), some (.inl (.int x8)), some (.inl (.int x9))], [], S11) (some (.inl (.int r))) Z := by
  intro n
  induction n with
  | zero =>
    intro x7 x8 x9 S11 r Z h
    cases h
  | succ n ih =>
    intro x7 x8 x9 S11 r Z h
    unfold f_X12_mean_L19 at h
    refine ax_Tgo [.iload_n 3, .bipush 6] (pc' := 22) (L' := [some (.inr (12, 0)), some (.inl (.int x7)), some (.inl (.int x8)), some (.inl (.int x9))]) (st' := [.inl (.int (6 : Int32)), .inl (.int x9)]) (S' := S11) ok_X12_mean.1 (by decide +kernel) rfl rfl ?_
    refine ax_Tic_ge (off := 18) (tgt := 40) (by decide +kernel) (by decide) (fun c12 => ?_) (fun c12 => ?_)
    · rw [if_pos c12] at h
      refine ax_Tdrop [false, false, true, false] (L' := [none, none, some (.inl (.int x8)), none]) rfl ?_
      exact hK40 x8 S11 _ _ h
    · rw [if_neg c12] at h
      refine ax_Tgo [.iload_n 2, .aload_n 0, .iload_n 1, .iload_n 3] (pc' := 29) (L' := [some (.inr (12, 0)), some (.inl (.int x7)), some (.inl (.int x8)), some (.inl (.int x9))]) (st' := [.inl (.int x9), .inl (.int x7), .inr (12, 0), .inl (.int x8)]) (S' := S11) ok_X12_mean.1 (by decide +kernel) rfl rfl ?_
      obtain ⟨r16, S13, hq14, h⟩ := ax_bu_e h
      refine ax_TVi (d := 74) (ka := 12) (i := 0) [.inl (.int x7), .inl (.int x9)] [.inl (.int x8)] lk_X12_451 (by decide +kernel) rfl (by decide) rfl (Nat.le_of_ble_eq_true rfl) (Nat.le_of_ble_eq_true rfl) ((t_X12_takesHard hq14).up (by decide)) ?_
      refine ax_Tgo [.iadd, .istore_n 2] (pc' := 34) (L' := [some (.inr (12, 0)), some (.inl (.int x7)), some (.inl (.int (x8 + r16))), some (.inl (.int x9))]) (st' := []) (S' := S13) ok_X12_mean.1 (by decide +kernel) rfl rfl ?_
      obtain ⟨v17, ev17, h⟩ := ax_let_e h
      rw [ev17]
      refine ax_Tgo [.iinc 3 1] (pc' := 37) (L' := [some (.inr (12, 0)), some (.inl (.int x7)), some (.inl (.int v17)), some (.inl (.int (x9 + (1 : Int32))))]) (st' := []) (S' := S13) ok_X12_mean.1 (by decide +kernel) rfl rfl ?_
      obtain ⟨v18, ev18, h⟩ := ax_let_e h
      rw [ev18]
      refine ax_Tgoto (off := (-18)) (tgt := 19) (by decide +kernel) (by decide) ?_
      exact ih x7 v17 v18 S13 _ _ h
set_option maxRecDepth 100000 in
theorem t_X12_mean {l : Launch} {a1 : Int32} {S Z : AS} {r : Int32} (h : f_X12_mean a1 S = some (r, Z)) : ax_M l 75 ma_X12_mean [.inr (12, 0), .inl (.int a1)] S (some (.inl (.int r))) Z := by
  unfold f_X12_mean at h
  show ax_T l 75 ma_X12_mean (0, [some (.inr (12, 0)), some (.inl (.int a1)), none, none], [], S) (some (.inl (.int r))) Z
  refine ax_Tgo [.aload_n 0, .iconst 0, .putfield 93] (pc' := 5) (L' := [some (.inr (12, 0)), some (.inl (.int a1)), none, none]) (st' := []) (S' := (ax_sfi S 12 0 0 (0 : Int32))) ok_X12_mean.1 (by decide +kernel) rfl rfl ?_
  obtain ⟨S1, eS1, h⟩ := ax_let_e h
  rw [eS1]
  refine ax_Tgo [.aload_n 0, .iload_n 1] (pc' := 7) (L' := [some (.inr (12, 0)), some (.inl (.int a1)), none, none]) (st' := [.inl (.int a1), .inr (12, 0)]) (S' := S1) ok_X12_mean.1 (by decide +kernel) rfl rfl ?_
  obtain ⟨r5, hq3, h⟩ := ax_bd_e h
  refine ax_TVi (d := 74) (ka := 12) (i := 0) [.inl (.int a1)] [] lk_X12_324 (by decide +kernel) rfl (by decide) rfl (Nat.le_of_ble_eq_true rfl) (Nat.le_of_ble_eq_true rfl) ((t_X12_isCaller hq3).up (by decide)) ?_
  refine ax_Tif_ne (off := 5) (tgt := 15) (by decide +kernel) (by decide) (fun c6 => ?_) (fun c6 => ?_)
  · rw [if_neg c6] at h
    refine ax_Tgo [.iconst 0, .istore_n 2, .iconst 0, .istore_n 3] (pc' := 19) (L' := [some (.inr (12, 0)), some (.inl (.int a1)), some (.inl (.int (0 : Int32))), some (.inl (.int (0 : Int32)))]) (st' := []) (S' := S1) ok_X12_mean.1 (by decide +kernel) rfl rfl ?_
    refine t_X12_mean_L19 ?_ _ a1 (0 : Int32) (0 : Int32) S1 _ _ h
    · intro x10 S19 r Z h
      refine ax_Tgo [.bipush 100, .iload_n 2, .imul, .bipush 6] (pc' := 46) (L' := [none, none, some (.inl (.int x10)), none]) (st' := [.inl (.int (6 : Int32)), .inl (.int ((100 : Int32) * x10))]) (S' := S19) ok_X12_mean.1 (by decide +kernel) rfl rfl ?_
      refine ax_Tidiv ok_X12_mean.1 (by decide +kernel) (by decide) ?_
      cases h
      exact ax_Treti (by decide +kernel) rfl rfl
  · rw [if_pos c6] at h
    refine ax_Tgo [.iconst (-1)] (pc' := 14) (L' := [some (.inr (12, 0)), some (.inl (.int a1)), none, none]) (st' := [.inl (.int (Int32.ofInt (-1)))]) (S' := S1) ok_X12_mean.1 (by decide +kernel) rfl rfl ?_
    cases h
    exact ax_Treti (by decide +kernel) rfl rfl
def f_X12_name (a1 : Int32) (a2 : Int32) (S : AS) : Option (Int32 × AS) := ax_let (ax_sfi S 12 0 0 (0 : Int32)) (fun (S1 : AS) => (f_X12_isCaller a1 S1).bind (fun (r5 : Int32) => (if r5 = (0 : Int32) then some ((Int32.ofInt (-1)), S1) else (f_X12_isIn (a2.toInt64) (0 : Int64) (1 : Int64) S1).bind (fun (r10 : Int32) => (if r10 = (0 : Int32) then some ((Int32.ofInt (-1)), S1) else (if a2 = (0 : Int32) then ax_bu (f_X12_takesIn_55x0 a1 S1) (fun (r21 : Int32) (S18 : AS) => some (r21, S18)) else ax_bu (f_X12_would a1 S1) (fun (r16 : Int32) (S13 : AS) => (if r16 = (0 : Int32) then some ((0 : Int32), S13) else some ((1 : Int32), S13)))))))))
set_option maxRecDepth 100000 in
theorem t_X12_name {l : Launch} {a1 : Int32} {a2 : Int32} {S Z : AS} {r : Int32} (h : f_X12_name a1 a2 S = some (r, Z)) : ax_M l 76 ma_X12_name [.inr (12, 0), .inl (.int a1), .inl (.int a2)] S (some (.inl (.int r))) Z := by
  unfold f_X12_name at h
  show ax_T l 76 ma_X12_name (0, [some (.inr (12, 0)), some (.inl (.int a1)), some (.inl (.int a2))], [], S) (some (.inl (.int r))) Z
  refine ax_Tgo [.aload_n 0, .iconst 0, .putfield 93] (pc' := 5) (L' := [some (.inr (12, 0)), some (.inl (.int a1)), some (.inl (.int a2))]) (st' := []) (S' := (ax_sfi S 12 0 0 (0 : Int32))) ok_X12_name.1 (by decide +kernel) rfl rfl ?_
  obtain ⟨S1, eS1, h⟩ := ax_let_e h
  rw [eS1]
  refine ax_Tgo [.aload_n 0, .iload_n 1] (pc' := 7) (L' := [some (.inr (12, 0)), some (.inl (.int a1)), some (.inl (.int a2))]) (st' := [.inl (.int a1), .inr (12, 0)]) (S' := S1) ok_X12_name.1 (by decide +kernel) rfl rfl ?_
  obtain ⟨r5, hq3, h⟩ := ax_bd_e h
  refine ax_TVi (d := 75) (ka := 12) (i := 0) [.inl (.int a1)] [] lk_X12_324 (by decide +kernel) rfl (by decide) rfl (Nat.le_of_ble_eq_true rfl) (Nat.le_of_ble_eq_true rfl) ((t_X12_isCaller hq3).up (by decide)) ?_
  refine ax_Tif_eq (off := 13) (tgt := 23) (by decide +kernel) (by decide) (fun c6 => ?_) (fun c6 => ?_)
  · rw [if_pos c6] at h
    refine ax_Tgo [.iconst (-1)] (pc' := 24) (L' := [some (.inr (12, 0)), some (.inl (.int a1)), some (.inl (.int a2))]) (st' := [.inl (.int (Int32.ofInt (-1)))]) (S' := S1) ok_X12_name.1 (by decide +kernel) rfl rfl ?_
    cases h
    exact ax_Treti (by decide +kernel) rfl rfl
  · rw [if_neg c6] at h
    refine ax_Tgo [.iload_n 2, .i2l, .lconst 0, .lconst 1] (pc' := 17) (L' := [some (.inr (12, 0)), some (.inl (.int a1)), some (.inl (.int a2))]) (st' := [.inl (.long (1 : Int64)), .inl (.long (0 : Int64)), .inl (.long a2.toInt64)]) (S' := S1) ok_X12_name.1 (by decide +kernel) rfl rfl ?_
    obtain ⟨r10, hq8, h⟩ := ax_bd_e h
    refine ax_TSi (d := 75) [.inl (.long a2.toInt64), .inl (.long (0 : Int64)), .inl (.long (1 : Int64))] [] lk_X12_214 (by decide +kernel) rfl rfl (Nat.le_of_ble_eq_true rfl) (Nat.le_of_ble_eq_true rfl) ((t_X12_isIn hq8).up (by decide)) ?_
    refine ax_Tif_ne (off := 5) (tgt := 25) (by decide +kernel) (by decide) (fun c11 => ?_) (fun c11 => ?_)
    · rw [if_neg c11] at h
      refine ax_Tgo [.iload_n 2] (pc' := 26) (L' := [some (.inr (12, 0)), some (.inl (.int a1)), some (.inl (.int a2))]) (st' := [.inl (.int a2)]) (S' := S1) ok_X12_name.1 (by decide +kernel) rfl rfl ?_
      refine ax_Tif_ne (off := 15) (tgt := 41) (by decide +kernel) (by decide) (fun c12 => ?_) (fun c12 => ?_)
      · rw [if_neg c12] at h
        refine ax_Tgo [.aload_n 0, .iload_n 1] (pc' := 43) (L' := [some (.inr (12, 0)), some (.inl (.int a1)), some (.inl (.int a2))]) (st' := [.inl (.int a1), .inr (12, 0)]) (S' := S1) ok_X12_name.1 (by decide +kernel) rfl rfl ?_
        obtain ⟨r16, S13, hq14, h⟩ := ax_bu_e h
        refine ax_TVi (d := 75) (ka := 12) (i := 0) [.inl (.int a1)] [] lk_X12_399 (by decide +kernel) rfl (by decide) rfl (Nat.le_of_ble_eq_true rfl) (Nat.le_of_ble_eq_true rfl) ((t_X12_would hq14).up (by decide)) ?_
        refine ax_Tif_eq (off := 7) (tgt := 53) (by decide +kernel) (by decide) (fun c17 => ?_) (fun c17 => ?_)
        · rw [if_pos c17] at h
          refine ax_Tgo [.iconst 0] (pc' := 54) (L' := [some (.inr (12, 0)), some (.inl (.int a1)), some (.inl (.int a2))]) (st' := [.inl (.int (0 : Int32))]) (S' := S13) ok_X12_name.1 (by decide +kernel) rfl rfl ?_
          cases h
          exact ax_Treti (by decide +kernel) rfl rfl
        · rw [if_neg c17] at h
          refine ax_Tgo [.iconst 1] (pc' := 50) (L' := [some (.inr (12, 0)), some (.inl (.int a1)), some (.inl (.int a2))]) (st' := [.inl (.int (1 : Int32))]) (S' := S13) ok_X12_name.1 (by decide +kernel) rfl rfl ?_
          refine ax_Tgoto (off := 4) (tgt := 54) (by decide +kernel) (by decide) ?_
          cases h
          exact ax_Treti (by decide +kernel) rfl rfl
      · rw [if_pos c12] at h
        refine ax_Tgo [.aload_n 0, .aload_n 0, .getfield 61, .iload_n 1] (pc' := 35) (L' := [some (.inr (12, 0)), some (.inl (.int a1)), some (.inl (.int a2))]) (st' := [.inl (.int a1), .inr (55, 0), .inr (12, 0)]) (S' := S1) ok_X12_name.1 (by decide +kernel) rfl rfl ?_
        obtain ⟨r21, S18, hq19, h⟩ := ax_bu_e h
        refine ax_TVi (d := 75) (ka := 12) (i := 0) [.inr (55, 0), .inl (.int a1)] [] lk_X12_327 (by decide +kernel) rfl (by decide) rfl (Nat.le_of_ble_eq_true rfl) (Nat.le_of_ble_eq_true rfl) ((t_X12_takesIn_55x0 hq19).up (by decide)) ?_
        refine ax_Tgoto (off := 16) (tgt := 54) (by decide +kernel) (by decide) ?_
        cases h
        exact ax_Treti (by decide +kernel) rfl rfl
    · rw [if_pos c11] at h
      refine ax_Tgo [.iconst (-1)] (pc' := 24) (L' := [some (.inr (12, 0)), some (.inl (.int a1)), some (.inl (.int a2))]) (st' := [.inl (.int (Int32.ofInt (-1)))]) (S' := S1) ok_X12_name.1 (by decide +kernel) rfl rfl ?_
      cases h
      exact ax_Treti (by decide +kernel) rfl rfl
def f_X12_needs_L17 : Nat → Int32 → Int32 → AS → Option (Int32 × AS)
  | 0, _, _, _ => none
  | n + 1, x7, x8, S9 => (if (4 : Int32) ≤ x8 then some ((Int32.ofInt (-1)), S9) else ax_gd (ax_in (17 : Int32) 204) (ax_bu (f_X12_takesTitled x7 x8 (ax_ai S9 55 0 (17 : Int32).toNatClampNeg) S9) (fun (r15 : Int32) (S12 : AS) => (f_X12_of x7 (3 : Int32) S12).bind (fun (r19 : Int32) => (if r15 < r19 then ax_let (x8 + (1 : Int32)) (fun (v21 : Int32) => f_X12_needs_L17 n x7 v21 S12) else some (x8, S12))))))
def f_X12_needs (a1 : Int32) (S : AS) : Option (Int32 × AS) := ax_let (ax_sfi S 12 0 0 (0 : Int32)) (fun (S1 : AS) => (f_X12_isCaller a1 S1).bind (fun (r5 : Int32) => (if r5 = (0 : Int32) then some ((Int32.ofInt (-1)), S1) else f_X12_needs_L17 ax_F a1 (0 : Int32) S1)))
set_option maxRecDepth 100000 in
theorem t_X12_needs_L17 {l : Launch} : ∀ (n : Nat) (x7 : Int32) (x8 : Int32) (S9 : AS) r Z, f_X12_needs_L17 n x7 x8 S9 = some (r, Z) → ax_T l 75 ma_X12_needs (17, [some (.inr (12, 0)), some (.inl (.int x7)), some (.inl (.int x8))], [], S9) (some (.inl (.int r))) Z := by
  intro n
  induction n with
  | zero =>
    intro x7 x8 S9 r Z h
    cases h
  | succ n ih =>
    intro x7 x8 S9 r Z h
    unfold f_X12_needs_L17 at h
    refine ax_Tgo [.iload_n 2, .iconst 4] (pc' := 19) (L' := [some (.inr (12, 0)), some (.inl (.int x7)), some (.inl (.int x8))]) (st' := [.inl (.int (4 : Int32)), .inl (.int x8)]) (S' := S9) ok_X12_needs.1 (by decide +kernel) rfl rfl ?_
    refine ax_Tic_ge (off := 33) (tgt := 52) (by decide +kernel) (by decide) (fun c10 => ?_) (fun c10 => ?_)
    · rw [if_pos c10] at h
      refine ax_Tgo [.iconst (-1)] (pc' := 53) (L' := [some (.inr (12, 0)), some (.inl (.int x7)), some (.inl (.int x8))]) (st' := [.inl (.int (Int32.ofInt (-1)))]) (S' := S9) ok_X12_needs.1 (by decide +kernel) rfl rfl ?_
      cases h
      exact ax_Treti (by decide +kernel) rfl rfl
    · rw [if_neg c10] at h
      refine ax_Tgo [.aload_n 0, .iload_n 1, .iload_n 2, .aload_n 0, .getfield 61, .bipush 17] (pc' := 31) (L' := [some (.inr (12, 0)), some (.inl (.int x7)), some (.inl (.int x8))]) (st' := [.inl (.int (17 : Int32)), .inr (55, 0), .inl (.int x8), .inl (.int x7), .inr (12, 0)]) (S' := S9) ok_X12_needs.1 (by decide +kernel) rfl rfl ?_
      obtain ⟨g11, h⟩ := ax_gd_e h
      refine ax_Tali (n := 204) ok_X12_needs.1 (by decide +kernel) (by decide) rfl g11 ?_
      obtain ⟨r15, S12, hq13, h⟩ := ax_bu_e h
      refine ax_TVi (d := 74) (ka := 12) (i := 0) [.inl (.int x7), .inl (.int x8), .inl (.int (ax_ai S9 55 0 (17 : Int32).toNatClampNeg))] [] lk_X12_418 (by decide +kernel) rfl (by decide) rfl (Nat.le_of_ble_eq_true rfl) (Nat.le_of_ble_eq_true rfl) ((t_X12_takesTitled hq13).up (by decide)) ?_
      refine ax_Tgo [.aload_n 0, .iload_n 1, .iconst 3] (pc' := 38) (L' := [some (.inr (12, 0)), some (.inl (.int x7)), some (.inl (.int x8))]) (st' := [.inl (.int (3 : Int32)), .inl (.int x7), .inr (12, 0), .inl (.int r15)]) (S' := S12) ok_X12_needs.1 (by decide +kernel) rfl rfl ?_
      obtain ⟨r19, hq17, h⟩ := ax_bd_e h
      refine ax_TVi (d := 74) (ka := 12) (i := 0) [.inl (.int x7), .inl (.int (3 : Int32))] [.inl (.int r15)] lk_X12_311 (by decide +kernel) rfl (by decide) rfl (Nat.le_of_ble_eq_true rfl) (Nat.le_of_ble_eq_true rfl) ((t_X12_of hq17).up (by decide)) ?_
      refine ax_Tic_lt (off := 5) (tgt := 46) (by decide +kernel) (by decide) (fun c20 => ?_) (fun c20 => ?_)
      · rw [if_pos c20] at h
        refine ax_Tgo [.iinc 2 1] (pc' := 49) (L' := [some (.inr (12, 0)), some (.inl (.int x7)), some (.inl (.int (x8 + (1 : Int32))))]) (st' := []) (S' := S12) ok_X12_needs.1 (by decide +kernel) rfl rfl ?_
        obtain ⟨v21, ev21, h⟩ := ax_let_e h
        rw [ev21]
        refine ax_Tgoto (off := (-32)) (tgt := 17) (by decide +kernel) (by decide) ?_
        exact ih x7 v21 S12 _ _ h
      · rw [if_neg c20] at h
        refine ax_Tgo [.iload_n 2] (pc' := 45) (L' := [some (.inr (12, 0)), some (.inl (.int x7)), some (.inl (.int x8))]) (st' := [.inl (.int x8)]) (S' := S12) ok_X12_needs.1 (by decide +kernel) rfl rfl ?_
        cases h
        exact ax_Treti (by decide +kernel) rfl rfl
set_option maxRecDepth 100000 in
theorem t_X12_needs {l : Launch} {a1 : Int32} {S Z : AS} {r : Int32} (h : f_X12_needs a1 S = some (r, Z)) : ax_M l 75 ma_X12_needs [.inr (12, 0), .inl (.int a1)] S (some (.inl (.int r))) Z := by
  unfold f_X12_needs at h
  show ax_T l 75 ma_X12_needs (0, [some (.inr (12, 0)), some (.inl (.int a1)), none], [], S) (some (.inl (.int r))) Z
  refine ax_Tgo [.aload_n 0, .iconst 0, .putfield 93] (pc' := 5) (L' := [some (.inr (12, 0)), some (.inl (.int a1)), none]) (st' := []) (S' := (ax_sfi S 12 0 0 (0 : Int32))) ok_X12_needs.1 (by decide +kernel) rfl rfl ?_
  obtain ⟨S1, eS1, h⟩ := ax_let_e h
  rw [eS1]
  refine ax_Tgo [.aload_n 0, .iload_n 1] (pc' := 7) (L' := [some (.inr (12, 0)), some (.inl (.int a1)), none]) (st' := [.inl (.int a1), .inr (12, 0)]) (S' := S1) ok_X12_needs.1 (by decide +kernel) rfl rfl ?_
  obtain ⟨r5, hq3, h⟩ := ax_bd_e h
  refine ax_TVi (d := 74) (ka := 12) (i := 0) [.inl (.int a1)] [] lk_X12_324 (by decide +kernel) rfl (by decide) rfl (Nat.le_of_ble_eq_true rfl) (Nat.le_of_ble_eq_true rfl) ((t_X12_isCaller hq3).up (by decide)) ?_
  refine ax_Tif_ne (off := 5) (tgt := 15) (by decide +kernel) (by decide) (fun c6 => ?_) (fun c6 => ?_)
  · rw [if_neg c6] at h
    refine ax_Tgo [.iconst 0, .istore_n 2] (pc' := 17) (L' := [some (.inr (12, 0)), some (.inl (.int a1)), some (.inl (.int (0 : Int32)))]) (st' := []) (S' := S1) ok_X12_needs.1 (by decide +kernel) rfl rfl ?_
    refine t_X12_needs_L17 _ a1 (0 : Int32) S1 _ _ h
  · rw [if_pos c6] at h
    refine ax_Tgo [.iconst (-1)] (pc' := 14) (L' := [some (.inr (12, 0)), some (.inl (.int a1)), none]) (st' := [.inl (.int (Int32.ofInt (-1)))]) (S' := S1) ok_X12_needs.1 (by decide +kernel) rfl rfl ?_
    cases h
    exact ax_Treti (by decide +kernel) rfl rfl
def b_X12_oddsFrom (rec : Nat → Int32 → Int32 → Int32 → Int32 → Int32 → AS → Option (Int32 × AS)) (a1 : Int32) (a2 : Int32) (a3 : Int32) (a4 : Int32) (a5 : Int32) (S : AS) : Option (Int32 × AS) := (if a2 = (0 : Int32) then ax_bu (f_X12_takesHard a1 a3 S) (fun (r15 : Int32) (S12 : AS) => (f_X12_of a1 (3 : Int32) S12).bind (fun (r19 : Int32) => (if r15 < r19 then some ((0 : Int32), S12) else some (a5, S12)))) else ax_let ((a5.toInt64 * a4.toInt64) / (100 : Int64)).toInt32 (fun (v3 : Int32) => ax_bu (rec 0 a1 (a2 - (1 : Int32)) a3 a4 v3 S) (fun (r7 : Int32) (S4 : AS) => ax_bu (rec 0 a1 (a2 - (1 : Int32)) (a3 + (1 : Int32)) a4 (a5 - v3) S4) (fun (r11 : Int32) (S8 : AS) => some ((r7 + r11), S8)))))
def g_Odds : Nat → Nat → Int32 → Int32 → Int32 → Int32 → Int32 → AS → Option (Int32 × AS)
  | 0, _, _, _, _, _, _, _ => none
  | n + 1, 0, b0, b1, b2, b3, b4, S => b_X12_oddsFrom (g_Odds n) b0 b1 b2 b3 b4 S
  | _ + 1, _ + 1, _, _, _, _, _, _ => none
set_option maxRecDepth 100000 in
theorem tb_X12_oddsFrom {l : Launch} {d : Nat} (hd : 75 ≤ d) {rec : Nat → Int32 → Int32 → Int32 → Int32 → Int32 → AS → Option (Int32 × AS)} (hrec_0 : ∀ {a1 : Int32} {a2 : Int32} {a3 : Int32} {a4 : Int32} {a5 : Int32} {S Z : AS} {r : Int32}, rec 0 a1 a2 a3 a4 a5 S = some (r, Z) → ax_M l d ma_X12_oddsFrom [.inr (12, 0), .inl (.int a1), .inl (.int a2), .inl (.int a3), .inl (.int a4), .inl (.int a5)] S (some (.inl (.int r))) Z) {a1 : Int32} {a2 : Int32} {a3 : Int32} {a4 : Int32} {a5 : Int32} {S Z : AS} {r : Int32} (h : b_X12_oddsFrom rec a1 a2 a3 a4 a5 S = some (r, Z)) : ax_M l (d + 1) ma_X12_oddsFrom [.inr (12, 0), .inl (.int a1), .inl (.int a2), .inl (.int a3), .inl (.int a4), .inl (.int a5)] S (some (.inl (.int r))) Z := by
  unfold b_X12_oddsFrom at h
  show ax_T l (d + 1) ma_X12_oddsFrom (0, [some (.inr (12, 0)), some (.inl (.int a1)), some (.inl (.int a2)), some (.inl (.int a3)), some (.inl (.int a4)), some (.inl (.int a5)), none], [], S) (some (.inl (.int r))) Z
  refine ax_Tgo [.iload_n 2] (pc' := 1) (L' := [some (.inr (12, 0)), some (.inl (.int a1)), some (.inl (.int a2)), some (.inl (.int a3)), some (.inl (.int a4)), some (.inl (.int a5)), none]) (st' := [.inl (.int a2)]) (S' := S) ok_X12_oddsFrom.1 (by decide +kernel) rfl rfl ?_
  refine ax_Tif_ne (off := 25) (tgt := 26) (by decide +kernel) (by decide) (fun c1 => ?_) (fun c1 => ?_)
  · rw [if_neg c1] at h
    refine ax_Tgo [.iload 5, .i2l, .iload 4, .i2l, .lmul, .ldc2_w 454] (pc' := 36) (L' := [some (.inr (12, 0)), some (.inl (.int a1)), some (.inl (.int a2)), some (.inl (.int a3)), some (.inl (.int a4)), some (.inl (.int a5)), none]) (st' := [.inl (.long (100 : Int64)), .inl (.long (a5.toInt64 * a4.toInt64))]) (S' := S) ok_X12_oddsFrom.1 (by decide +kernel) rfl rfl ?_
    refine ax_Tldiv ok_X12_oddsFrom.1 (by decide +kernel) (by decide) ?_
    refine ax_Tgo [.l2i, .istore 6] (pc' := 40) (L' := [some (.inr (12, 0)), some (.inl (.int a1)), some (.inl (.int a2)), some (.inl (.int a3)), some (.inl (.int a4)), some (.inl (.int a5)), some (.inl (.int ((a5.toInt64 * a4.toInt64) / (100 : Int64)).toInt32))]) (st' := []) (S' := S) ok_X12_oddsFrom.1 (by decide +kernel) rfl rfl ?_
    obtain ⟨v3, ev3, h⟩ := ax_let_e h
    rw [ev3]
    refine ax_Tgo [.aload_n 0, .iload_n 1, .iload_n 2, .iconst 1, .isub, .iload_n 3, .iload 4, .iload 6] (pc' := 50) (L' := [some (.inr (12, 0)), some (.inl (.int a1)), some (.inl (.int a2)), some (.inl (.int a3)), some (.inl (.int a4)), some (.inl (.int a5)), some (.inl (.int v3))]) (st' := [.inl (.int v3), .inl (.int a4), .inl (.int a3), .inl (.int (a2 - (1 : Int32))), .inl (.int a1), .inr (12, 0)]) (S' := S) ok_X12_oddsFrom.1 (by decide +kernel) rfl rfl ?_
    obtain ⟨r7, S4, hq5, h⟩ := ax_bu_e h
    refine ax_TVi (d := d) (ka := 12) (i := 0) [.inl (.int a1), .inl (.int (a2 - (1 : Int32))), .inl (.int a3), .inl (.int a4), .inl (.int v3)] [] lk_X12_456 (by decide +kernel) rfl (by decide) rfl (Nat.le_of_ble_eq_true rfl) (Nat.le_of_ble_eq_true rfl) (hrec_0 hq5) ?_
    refine ax_Tgo [.aload_n 0, .iload_n 1, .iload_n 2, .iconst 1, .isub, .iload_n 3, .iconst 1, .iadd, .iload 4, .iload 5, .iload 6, .isub] (pc' := 68) (L' := [some (.inr (12, 0)), some (.inl (.int a1)), some (.inl (.int a2)), some (.inl (.int a3)), some (.inl (.int a4)), some (.inl (.int a5)), some (.inl (.int v3))]) (st' := [.inl (.int (a5 - v3)), .inl (.int a4), .inl (.int (a3 + (1 : Int32))), .inl (.int (a2 - (1 : Int32))), .inl (.int a1), .inr (12, 0), .inl (.int r7)]) (S' := S4) ok_X12_oddsFrom.1 (by decide +kernel) rfl rfl ?_
    obtain ⟨r11, S8, hq9, h⟩ := ax_bu_e h
    refine ax_TVi (d := d) (ka := 12) (i := 0) [.inl (.int a1), .inl (.int (a2 - (1 : Int32))), .inl (.int (a3 + (1 : Int32))), .inl (.int a4), .inl (.int (a5 - v3))] [.inl (.int r7)] lk_X12_456 (by decide +kernel) rfl (by decide) rfl (Nat.le_of_ble_eq_true rfl) (Nat.le_of_ble_eq_true rfl) (hrec_0 hq9) ?_
    refine ax_Tgo [.iadd] (pc' := 72) (L' := [some (.inr (12, 0)), some (.inl (.int a1)), some (.inl (.int a2)), some (.inl (.int a3)), some (.inl (.int a4)), some (.inl (.int a5)), some (.inl (.int v3))]) (st' := [.inl (.int (r7 + r11))]) (S' := S8) ok_X12_oddsFrom.1 (by decide +kernel) rfl rfl ?_
    cases h
    exact ax_Treti (by decide +kernel) rfl rfl
  · rw [if_pos c1] at h
    refine ax_Tgo [.aload_n 0, .iload_n 1, .iload_n 3] (pc' := 7) (L' := [some (.inr (12, 0)), some (.inl (.int a1)), some (.inl (.int a2)), some (.inl (.int a3)), some (.inl (.int a4)), some (.inl (.int a5)), none]) (st' := [.inl (.int a3), .inl (.int a1), .inr (12, 0)]) (S' := S) ok_X12_oddsFrom.1 (by decide +kernel) rfl rfl ?_
    obtain ⟨r15, S12, hq13, h⟩ := ax_bu_e h
    refine ax_TVi (d := d) (ka := 12) (i := 0) [.inl (.int a1), .inl (.int a3)] [] lk_X12_451 (by decide +kernel) rfl (by decide) rfl (Nat.le_of_ble_eq_true rfl) (Nat.le_of_ble_eq_true rfl) ((t_X12_takesHard hq13).up (by omega)) ?_
    refine ax_Tgo [.aload_n 0, .iload_n 1, .iconst 3] (pc' := 13) (L' := [some (.inr (12, 0)), some (.inl (.int a1)), some (.inl (.int a2)), some (.inl (.int a3)), some (.inl (.int a4)), some (.inl (.int a5)), none]) (st' := [.inl (.int (3 : Int32)), .inl (.int a1), .inr (12, 0), .inl (.int r15)]) (S' := S12) ok_X12_oddsFrom.1 (by decide +kernel) rfl rfl ?_
    obtain ⟨r19, hq17, h⟩ := ax_bd_e h
    refine ax_TVi (d := d) (ka := 12) (i := 0) [.inl (.int a1), .inl (.int (3 : Int32))] [.inl (.int r15)] lk_X12_311 (by decide +kernel) rfl (by decide) rfl (Nat.le_of_ble_eq_true rfl) (Nat.le_of_ble_eq_true rfl) ((t_X12_of hq17).up (by omega)) ?_
    refine ax_Tic_lt (off := 8) (tgt := 24) (by decide +kernel) (by decide) (fun c20 => ?_) (fun c20 => ?_)
    · rw [if_pos c20] at h
      refine ax_Tgo [.iconst 0] (pc' := 25) (L' := [some (.inr (12, 0)), some (.inl (.int a1)), some (.inl (.int a2)), some (.inl (.int a3)), some (.inl (.int a4)), some (.inl (.int a5)), none]) (st' := [.inl (.int (0 : Int32))]) (S' := S12) ok_X12_oddsFrom.1 (by decide +kernel) rfl rfl ?_
      cases h
      exact ax_Treti (by decide +kernel) rfl rfl
    · rw [if_neg c20] at h
      refine ax_Tgo [.iload 5] (pc' := 21) (L' := [some (.inr (12, 0)), some (.inl (.int a1)), some (.inl (.int a2)), some (.inl (.int a3)), some (.inl (.int a4)), some (.inl (.int a5)), none]) (st' := [.inl (.int a5)]) (S' := S12) ok_X12_oddsFrom.1 (by decide +kernel) rfl rfl ?_
      refine ax_Tgoto (off := 4) (tgt := 25) (by decide +kernel) (by decide) ?_
      cases h
      exact ax_Treti (by decide +kernel) rfl rfl
theorem tg_Odds {l : Launch} : ∀ (n : Nat), (∀ {a1 : Int32} {a2 : Int32} {a3 : Int32} {a4 : Int32} {a5 : Int32} {S Z : AS} {r : Int32}, g_Odds n 0 a1 a2 a3 a4 a5 S = some (r, Z) → ax_M l (n + 75) ma_X12_oddsFrom [.inr (12, 0), .inl (.int a1), .inl (.int a2), .inl (.int a3), .inl (.int a4), .inl (.int a5)] S (some (.inl (.int r))) Z) := by
  intro n
  induction n with
  | zero =>
    intros; rename_i h; cases h
  | succ n ih =>
    have q0 := @ih
    have hd : 75 ≤ n + 75 := by omega
    rw [show n + 1 + 75 = n + 75 + 1 by omega]
    · intro a1 a2 a3 a4 a5 S Z r h
      exact tb_X12_oddsFrom hd q0 h
theorem tg_Odds_0 {l : Launch} : ∀ {a1 : Int32} {a2 : Int32} {a3 : Int32} {a4 : Int32} {a5 : Int32} {S Z : AS} {r : Int32}, g_Odds ax_D 0 a1 a2 a3 a4 a5 S = some (r, Z) → ax_M l 139 ma_X12_oddsFrom [.inr (12, 0), .inl (.int a1), .inl (.int a2), .inl (.int a3), .inl (.int a4), .inl (.int a5)] S (some (.inl (.int r))) Z := (tg_Odds ax_D)
def f_X12_odds (a1 : Int32) (a2 : Int32) (S : AS) : Option (Int32 × AS) := ax_let (ax_sfi S 12 0 0 (0 : Int32)) (fun (S1 : AS) => (f_X12_isCaller a1 S1).bind (fun (r5 : Int32) => (if r5 = (0 : Int32) then some ((Int32.ofInt (-1)), S1) else (f_X12_isIn (a2.toInt64) (0 : Int64) (100 : Int64) S1).bind (fun (r10 : Int32) => (if r10 = (0 : Int32) then some ((Int32.ofInt (-1)), S1) else (f_X12_of a1 (1 : Int32) S1).bind (fun (r15 : Int32) => ax_bu (g_Odds ax_D 0 a1 r15 (0 : Int32) a2 (1000000000 : Int32) S1) (fun (r19 : Int32) (S16 : AS) => some (r19, S16))))))))
set_option maxRecDepth 100000 in
theorem t_X12_odds {l : Launch} {a1 : Int32} {a2 : Int32} {S Z : AS} {r : Int32} (h : f_X12_odds a1 a2 S = some (r, Z)) : ax_M l 140 ma_X12_odds [.inr (12, 0), .inl (.int a1), .inl (.int a2)] S (some (.inl (.int r))) Z := by
  unfold f_X12_odds at h
  show ax_T l 140 ma_X12_odds (0, [some (.inr (12, 0)), some (.inl (.int a1)), some (.inl (.int a2))], [], S) (some (.inl (.int r))) Z
  refine ax_Tgo [.aload_n 0, .iconst 0, .putfield 93] (pc' := 5) (L' := [some (.inr (12, 0)), some (.inl (.int a1)), some (.inl (.int a2))]) (st' := []) (S' := (ax_sfi S 12 0 0 (0 : Int32))) ok_X12_odds.1 (by decide +kernel) rfl rfl ?_
  obtain ⟨S1, eS1, h⟩ := ax_let_e h
  rw [eS1]
  refine ax_Tgo [.aload_n 0, .iload_n 1] (pc' := 7) (L' := [some (.inr (12, 0)), some (.inl (.int a1)), some (.inl (.int a2))]) (st' := [.inl (.int a1), .inr (12, 0)]) (S' := S1) ok_X12_odds.1 (by decide +kernel) rfl rfl ?_
  obtain ⟨r5, hq3, h⟩ := ax_bd_e h
  refine ax_TVi (d := 139) (ka := 12) (i := 0) [.inl (.int a1)] [] lk_X12_324 (by decide +kernel) rfl (by decide) rfl (Nat.le_of_ble_eq_true rfl) (Nat.le_of_ble_eq_true rfl) ((t_X12_isCaller hq3).up (by decide)) ?_
  refine ax_Tif_eq (off := 34) (tgt := 44) (by decide +kernel) (by decide) (fun c6 => ?_) (fun c6 => ?_)
  · rw [if_pos c6] at h
    refine ax_Tgo [.iconst (-1)] (pc' := 45) (L' := [some (.inr (12, 0)), some (.inl (.int a1)), some (.inl (.int a2))]) (st' := [.inl (.int (Int32.ofInt (-1)))]) (S' := S1) ok_X12_odds.1 (by decide +kernel) rfl rfl ?_
    cases h
    exact ax_Treti (by decide +kernel) rfl rfl
  · rw [if_neg c6] at h
    refine ax_Tgo [.iload_n 2, .i2l, .lconst 0, .ldc2_w 454] (pc' := 19) (L' := [some (.inr (12, 0)), some (.inl (.int a1)), some (.inl (.int a2))]) (st' := [.inl (.long (100 : Int64)), .inl (.long (0 : Int64)), .inl (.long a2.toInt64)]) (S' := S1) ok_X12_odds.1 (by decide +kernel) rfl rfl ?_
    obtain ⟨r10, hq8, h⟩ := ax_bd_e h
    refine ax_TSi (d := 139) [.inl (.long a2.toInt64), .inl (.long (0 : Int64)), .inl (.long (100 : Int64))] [] lk_X12_214 (by decide +kernel) rfl rfl (Nat.le_of_ble_eq_true rfl) (Nat.le_of_ble_eq_true rfl) ((t_X12_isIn hq8).up (by decide)) ?_
    refine ax_Tif_eq (off := 22) (tgt := 44) (by decide +kernel) (by decide) (fun c11 => ?_) (fun c11 => ?_)
    · rw [if_pos c11] at h
      refine ax_Tgo [.iconst (-1)] (pc' := 45) (L' := [some (.inr (12, 0)), some (.inl (.int a1)), some (.inl (.int a2))]) (st' := [.inl (.int (Int32.ofInt (-1)))]) (S' := S1) ok_X12_odds.1 (by decide +kernel) rfl rfl ?_
      cases h
      exact ax_Treti (by decide +kernel) rfl rfl
    · rw [if_neg c11] at h
      refine ax_Tgo [.aload_n 0, .iload_n 1, .aload_n 0, .iload_n 1, .iconst 1] (pc' := 30) (L' := [some (.inr (12, 0)), some (.inl (.int a1)), some (.inl (.int a2))]) (st' := [.inl (.int (1 : Int32)), .inl (.int a1), .inr (12, 0), .inl (.int a1), .inr (12, 0)]) (S' := S1) ok_X12_odds.1 (by decide +kernel) rfl rfl ?_
      obtain ⟨r15, hq13, h⟩ := ax_bd_e h
      refine ax_TVi (d := 139) (ka := 12) (i := 0) [.inl (.int a1), .inl (.int (1 : Int32))] [.inl (.int a1), .inr (12, 0)] lk_X12_311 (by decide +kernel) rfl (by decide) rfl (Nat.le_of_ble_eq_true rfl) (Nat.le_of_ble_eq_true rfl) ((t_X12_of hq13).up (by decide)) ?_
      refine ax_Tgo [.iconst 0, .iload_n 2, .ldc_w 459] (pc' := 38) (L' := [some (.inr (12, 0)), some (.inl (.int a1)), some (.inl (.int a2))]) (st' := [.inl (.int (1000000000 : Int32)), .inl (.int a2), .inl (.int (0 : Int32)), .inl (.int r15), .inl (.int a1), .inr (12, 0)]) (S' := S1) ok_X12_odds.1 (by decide +kernel) rfl rfl ?_
      obtain ⟨r19, S16, hq17, h⟩ := ax_bu_e h
      refine ax_TVi (d := 139) (ka := 12) (i := 0) [.inl (.int a1), .inl (.int r15), .inl (.int (0 : Int32)), .inl (.int a2), .inl (.int (1000000000 : Int32))] [] lk_X12_456 (by decide +kernel) rfl (by decide) rfl (Nat.le_of_ble_eq_true rfl) (Nat.le_of_ble_eq_true rfl) ((tg_Odds_0 hq17).up (by decide)) ?_
      refine ax_Tgoto (off := 4) (tgt := 45) (by decide +kernel) (by decide) ?_
      cases h
      exact ax_Treti (by decide +kernel) rfl rfl
def f_X12_copy_55x0_56x0_L2 (K20 : AS → Option (AS)) : Nat → Int32 → AS → Option (AS)
  | 0, _, _ => none
  | n + 1, x1, S2 => (if (23 : Int32) ≤ x1 then K20 S2 else ax_gd (ax_in x1 204) (ax_gd (ax_in x1 204) (ax_let (ax_sai S2 56 0 x1.toNatClampNeg (ax_ai S2 55 0 x1.toNatClampNeg)) (fun (S6 : AS) => ax_let (x1 + (1 : Int32)) (fun (v7 : Int32) => f_X12_copy_55x0_56x0_L2 K20 n v7 S6)))))
def f_X12_copy_55x0_56x0 (S : AS) : Option (AS) := f_X12_copy_55x0_56x0_L2 (fun (S8 : AS) => ax_gd (ax_in (23 : Int32) 204) (ax_let (ax_sai S8 56 0 (23 : Int32).toNatClampNeg (0 : Int32)) (fun (S10 : AS) => some S10))) ax_F (0 : Int32) S
set_option maxRecDepth 100000 in
theorem t_X12_copy_55x0_56x0_L2 {l : Launch} {K20 : AS → Option (AS)} (hK20 : ∀ (S : AS) Z, K20 S = some Z → ax_T l 0 ma_X12_copy (20, [none, some (.inr (56, 0)), none], [], S) none Z) : ∀ (n : Nat) (x1 : Int32) (S2 : AS) Z, f_X12_copy_55x0_56x0_L2 K20 n x1 S2 = some Z → ax_T l 0 ma_X12_copy (2, [some (.inr (55, 0)), some (.inr (56, 0)), some (.inl (.int x1))], [], S2) none Z := by
  intro n
  induction n with
  | zero =>
    intro x1 S2 Z h
    cases h
  | succ n ih =>
    intro x1 S2 Z h
    unfold f_X12_copy_55x0_56x0_L2 at h
    refine ax_Tgo [.iload_n 2, .bipush 23] (pc' := 5) (L' := [some (.inr (55, 0)), some (.inr (56, 0)), some (.inl (.int x1))]) (st' := [.inl (.int (23 : Int32)), .inl (.int x1)]) (S' := S2) ok_X12_copy.1 (by decide +kernel) rfl rfl ?_
    refine ax_Tic_ge (off := 15) (tgt := 20) (by decide +kernel) (by decide) (fun c3 => ?_) (fun c3 => ?_)
    · rw [if_pos c3] at h
      refine ax_Tdrop [false, true, false] (L' := [none, some (.inr (56, 0)), none]) rfl ?_
      exact hK20 S2 _ h
    · rw [if_neg c3] at h
      refine ax_Tgo [.aload_n 1, .iload_n 2, .aload_n 0, .iload_n 2] (pc' := 12) (L' := [some (.inr (55, 0)), some (.inr (56, 0)), some (.inl (.int x1))]) (st' := [.inl (.int x1), .inr (55, 0), .inl (.int x1), .inr (56, 0)]) (S' := S2) ok_X12_copy.1 (by decide +kernel) rfl rfl ?_
      obtain ⟨g4, h⟩ := ax_gd_e h
      refine ax_Tali (n := 204) ok_X12_copy.1 (by decide +kernel) (by decide) rfl g4 ?_
      obtain ⟨g5, h⟩ := ax_gd_e h
      refine ax_Tasi (n := 204) ok_X12_copy.1 (by decide +kernel) (by decide) rfl g5 ?_
      obtain ⟨S6, eS6, h⟩ := ax_let_e h
      rw [eS6]
      refine ax_Tgo [.iinc 2 1] (pc' := 17) (L' := [some (.inr (55, 0)), some (.inr (56, 0)), some (.inl (.int (x1 + (1 : Int32))))]) (st' := []) (S' := S6) ok_X12_copy.1 (by decide +kernel) rfl rfl ?_
      obtain ⟨v7, ev7, h⟩ := ax_let_e h
      rw [ev7]
      refine ax_Tgoto (off := (-15)) (tgt := 2) (by decide +kernel) (by decide) ?_
      exact ih v7 S6 _ h
set_option maxRecDepth 100000 in
theorem t_X12_copy_55x0_56x0 {l : Launch} {S Z : AS} (h : f_X12_copy_55x0_56x0 S = some Z) : ax_M l 0 ma_X12_copy [.inr (55, 0), .inr (56, 0)] S none Z := by
  unfold f_X12_copy_55x0_56x0 at h
  show ax_T l 0 ma_X12_copy (0, [some (.inr (55, 0)), some (.inr (56, 0)), none], [], S) none Z
  refine ax_Tgo [.iconst 0, .istore_n 2] (pc' := 2) (L' := [some (.inr (55, 0)), some (.inr (56, 0)), some (.inl (.int (0 : Int32)))]) (st' := []) (S' := S) ok_X12_copy.1 (by decide +kernel) rfl rfl ?_
  refine t_X12_copy_55x0_56x0_L2 ?_ _ (0 : Int32) S _ h
  · intro S8 Z h
    refine ax_Tgo [.aload_n 1, .bipush 23, .iconst 0] (pc' := 24) (L' := [none, some (.inr (56, 0)), none]) (st' := [.inl (.int (0 : Int32)), .inl (.int (23 : Int32)), .inr (56, 0)]) (S' := S8) ok_X12_copy.1 (by decide +kernel) rfl rfl ?_
    obtain ⟨g9, h⟩ := ax_gd_e h
    refine ax_Tasi (n := 204) ok_X12_copy.1 (by decide +kernel) (by decide) rfl g9 ?_
    obtain ⟨S10, eS10, h⟩ := ax_let_e h
    rw [eS10]
    cases h
    exact ax_Tretv (by decide +kernel) rfl
def f_X12_takesIn_56x0 (a2 : Int32) (S : AS) : Option (Int32 × AS) := (f_X12_of a2 (1 : Int32) S).bind (fun (r4 : Int32) => ax_gd (ax_in (((2 : Int32) * a2) + (0 : Int32)) 204) (ax_gd (ax_in (17 : Int32) 204) (ax_gd (ax_in (18 : Int32) 204) (ax_gd (ax_in (22 : Int32) 204) (ax_bu (f_X12_takes_ a2 r4 (ax_ai S 56 0 (((2 : Int32) * a2) + (0 : Int32)).toNatClampNeg) (ax_ai S 56 0 (17 : Int32).toNatClampNeg) (ax_ai S 56 0 (18 : Int32).toNatClampNeg) (ax_ai S 56 0 (22 : Int32).toNatClampNeg) S) (fun (r12 : Int32) (S9 : AS) => some (r12, S9)))))))
set_option maxRecDepth 100000 in
theorem t_X12_takesIn_56x0 {l : Launch} {a2 : Int32} {S Z : AS} {r : Int32} (h : f_X12_takesIn_56x0 a2 S = some (r, Z)) : ax_M l 74 ma_X12_takesIn [.inr (12, 0), .inr (56, 0), .inl (.int a2)] S (some (.inl (.int r))) Z := by
  unfold f_X12_takesIn_56x0 at h
  show ax_T l 74 ma_X12_takesIn (0, [some (.inr (12, 0)), some (.inr (56, 0)), some (.inl (.int a2))], [], S) (some (.inl (.int r))) Z
  refine ax_Tgo [.aload_n 0, .iload_n 2, .aload_n 0, .iload_n 2, .iconst 1] (pc' := 5) (L' := [some (.inr (12, 0)), some (.inr (56, 0)), some (.inl (.int a2))]) (st' := [.inl (.int (1 : Int32)), .inl (.int a2), .inr (12, 0), .inl (.int a2), .inr (12, 0)]) (S' := S) ok_X12_takesIn.1 (by decide +kernel) rfl rfl ?_
  obtain ⟨r4, hq2, h⟩ := ax_bd_e h
  refine ax_TVi (d := 73) (ka := 12) (i := 0) [.inl (.int a2), .inl (.int (1 : Int32))] [.inl (.int a2), .inr (12, 0)] lk_X12_311 (by decide +kernel) rfl (by decide) rfl (Nat.le_of_ble_eq_true rfl) (Nat.le_of_ble_eq_true rfl) ((t_X12_of hq2).up (by decide)) ?_
  refine ax_Tgo [.aload_n 1, .iconst 2, .iload_n 2, .imul, .iconst 0, .iadd] (pc' := 14) (L' := [some (.inr (12, 0)), some (.inr (56, 0)), some (.inl (.int a2))]) (st' := [.inl (.int (((2 : Int32) * a2) + (0 : Int32))), .inr (56, 0), .inl (.int r4), .inl (.int a2), .inr (12, 0)]) (S' := S) ok_X12_takesIn.1 (by decide +kernel) rfl rfl ?_
  obtain ⟨g5, h⟩ := ax_gd_e h
  refine ax_Tali (n := 204) ok_X12_takesIn.1 (by decide +kernel) (by decide) rfl g5 ?_
  refine ax_Tgo [.aload_n 1, .bipush 17] (pc' := 18) (L' := [some (.inr (12, 0)), some (.inr (56, 0)), some (.inl (.int a2))]) (st' := [.inl (.int (17 : Int32)), .inr (56, 0), .inl (.int (ax_ai S 56 0 (((2 : Int32) * a2) + (0 : Int32)).toNatClampNeg)), .inl (.int r4), .inl (.int a2), .inr (12, 0)]) (S' := S) ok_X12_takesIn.1 (by decide +kernel) rfl rfl ?_
  obtain ⟨g6, h⟩ := ax_gd_e h
  refine ax_Tali (n := 204) ok_X12_takesIn.1 (by decide +kernel) (by decide) rfl g6 ?_
  refine ax_Tgo [.aload_n 1, .bipush 18] (pc' := 22) (L' := [some (.inr (12, 0)), some (.inr (56, 0)), some (.inl (.int a2))]) (st' := [.inl (.int (18 : Int32)), .inr (56, 0), .inl (.int (ax_ai S 56 0 (17 : Int32).toNatClampNeg)), .inl (.int (ax_ai S 56 0 (((2 : Int32) * a2) + (0 : Int32)).toNatClampNeg)), .inl (.int r4), .inl (.int a2), .inr (12, 0)]) (S' := S) ok_X12_takesIn.1 (by decide +kernel) rfl rfl ?_
  obtain ⟨g7, h⟩ := ax_gd_e h
  refine ax_Tali (n := 204) ok_X12_takesIn.1 (by decide +kernel) (by decide) rfl g7 ?_
  refine ax_Tgo [.aload_n 1, .bipush 22] (pc' := 26) (L' := [some (.inr (12, 0)), some (.inr (56, 0)), some (.inl (.int a2))]) (st' := [.inl (.int (22 : Int32)), .inr (56, 0), .inl (.int (ax_ai S 56 0 (18 : Int32).toNatClampNeg)), .inl (.int (ax_ai S 56 0 (17 : Int32).toNatClampNeg)), .inl (.int (ax_ai S 56 0 (((2 : Int32) * a2) + (0 : Int32)).toNatClampNeg)), .inl (.int r4), .inl (.int a2), .inr (12, 0)]) (S' := S) ok_X12_takesIn.1 (by decide +kernel) rfl rfl ?_
  obtain ⟨g8, h⟩ := ax_gd_e h
  refine ax_Tali (n := 204) ok_X12_takesIn.1 (by decide +kernel) (by decide) rfl g8 ?_
  obtain ⟨r12, S9, hq10, h⟩ := ax_bu_e h
  refine ax_TVi (d := 73) (ka := 12) (i := 0) [.inl (.int a2), .inl (.int r4), .inl (.int (ax_ai S 56 0 (((2 : Int32) * a2) + (0 : Int32)).toNatClampNeg)), .inl (.int (ax_ai S 56 0 (17 : Int32).toNatClampNeg)), .inl (.int (ax_ai S 56 0 (18 : Int32).toNatClampNeg)), .inl (.int (ax_ai S 56 0 (22 : Int32).toNatClampNeg))] [] lk_X12_322 (by decide +kernel) rfl (by decide) rfl (Nat.le_of_ble_eq_true rfl) (Nat.le_of_ble_eq_true rfl) ((t_X12_takes_ hq10).up (by decide)) ?_
  cases h
  exact ax_Treti (by decide +kernel) rfl rfl
def f_X12_canCall_56x0 (a2 : Int32) (S : AS) : Option (Int32 × AS) := (f_X12_isCaller a2 S).bind (fun (r4 : Int32) => (if r4 = (0 : Int32) then some ((0 : Int32), S) else ax_gd (ax_in (((2 : Int32) * a2) + (1 : Int32)) 204) ((if (ax_ai S 56 0 (((2 : Int32) * a2) + (1 : Int32)).toNatClampNeg) = (1 : Int32) then some ((0 : Int32), S) else (f_X12_of a2 (5 : Int32) S).bind (fun (r11 : Int32) => ax_gd (ax_in ((12 : Int32) + r11) 204) (ax_gd (ax_in (((2 : Int32) * r11) + (1 : Int32)) 8) ((if (ax_ai S 49 0 (((2 : Int32) * r11) + (1 : Int32)).toNatClampNeg) ≤ (ax_ai S 56 0 ((12 : Int32) + r11).toNatClampNeg) then some ((0 : Int32), S) else ax_gd (ax_in (16 : Int32) 204) (ax_bu (f_X12_takesIn_56x0 a2 S) (fun (r19 : Int32) (S16 : AS) => ax_gd (ax_in (0 : Int32) 3) ((if (ax_ai S16 47 0 (0 : Int32).toNatClampNeg) < ((ax_ai S 56 0 (16 : Int32).toNatClampNeg) + r19) then some ((0 : Int32), S16) else some ((1 : Int32), S16)))))))))))))
set_option maxRecDepth 100000 in
theorem t_X12_canCall_56x0 {l : Launch} {a2 : Int32} {S Z : AS} {r : Int32} (h : f_X12_canCall_56x0 a2 S = some (r, Z)) : ax_M l 75 ma_X12_canCall [.inr (12, 0), .inr (56, 0), .inl (.int a2)] S (some (.inl (.int r))) Z := by
  unfold f_X12_canCall_56x0 at h
  show ax_T l 75 ma_X12_canCall (0, [some (.inr (12, 0)), some (.inr (56, 0)), some (.inl (.int a2)), none], [], S) (some (.inl (.int r))) Z
  refine ax_Tgo [.aload_n 0, .iload_n 2] (pc' := 2) (L' := [some (.inr (12, 0)), some (.inr (56, 0)), some (.inl (.int a2)), none]) (st' := [.inl (.int a2), .inr (12, 0)]) (S' := S) ok_X12_canCall.1 (by decide +kernel) rfl rfl ?_
  obtain ⟨r4, hq2, h⟩ := ax_bd_e h
  refine ax_TVi (d := 74) (ka := 12) (i := 0) [.inl (.int a2)] [] lk_X12_324 (by decide +kernel) rfl (by decide) rfl (Nat.le_of_ble_eq_true rfl) (Nat.le_of_ble_eq_true rfl) ((t_X12_isCaller hq2).up (by decide)) ?_
  refine ax_Tif_eq (off := 14) (tgt := 19) (by decide +kernel) (by decide) (fun c5 => ?_) (fun c5 => ?_)
  · rw [if_pos c5] at h
    refine ax_Tgo [.iconst 0] (pc' := 20) (L' := [some (.inr (12, 0)), some (.inr (56, 0)), some (.inl (.int a2)), none]) (st' := [.inl (.int (0 : Int32))]) (S' := S) ok_X12_canCall.1 (by decide +kernel) rfl rfl ?_
    cases h
    exact ax_Treti (by decide +kernel) rfl rfl
  · rw [if_neg c5] at h
    refine ax_Tgo [.aload_n 1, .iconst 2, .iload_n 2, .imul, .iconst 1, .iadd] (pc' := 14) (L' := [some (.inr (12, 0)), some (.inr (56, 0)), some (.inl (.int a2)), none]) (st' := [.inl (.int (((2 : Int32) * a2) + (1 : Int32))), .inr (56, 0)]) (S' := S) ok_X12_canCall.1 (by decide +kernel) rfl rfl ?_
    obtain ⟨g6, h⟩ := ax_gd_e h
    refine ax_Tali (n := 204) ok_X12_canCall.1 (by decide +kernel) (by decide) rfl g6 ?_
    refine ax_Tgo [.iconst 1] (pc' := 16) (L' := [some (.inr (12, 0)), some (.inr (56, 0)), some (.inl (.int a2)), none]) (st' := [.inl (.int (1 : Int32)), .inl (.int (ax_ai S 56 0 (((2 : Int32) * a2) + (1 : Int32)).toNatClampNeg))]) (S' := S) ok_X12_canCall.1 (by decide +kernel) rfl rfl ?_
    refine ax_Tic_ne (off := 5) (tgt := 21) (by decide +kernel) (by decide) (fun c7 => ?_) (fun c7 => ?_)
    · rw [if_neg c7] at h
      refine ax_Tgo [.aload_n 0, .iload_n 2, .iconst 5] (pc' := 24) (L' := [some (.inr (12, 0)), some (.inr (56, 0)), some (.inl (.int a2)), none]) (st' := [.inl (.int (5 : Int32)), .inl (.int a2), .inr (12, 0)]) (S' := S) ok_X12_canCall.1 (by decide +kernel) rfl rfl ?_
      obtain ⟨r11, hq9, h⟩ := ax_bd_e h
      refine ax_TVi (d := 74) (ka := 12) (i := 0) [.inl (.int a2), .inl (.int (5 : Int32))] [] lk_X12_311 (by decide +kernel) rfl (by decide) rfl (Nat.le_of_ble_eq_true rfl) (Nat.le_of_ble_eq_true rfl) ((t_X12_of hq9).up (by decide)) ?_
      refine ax_Tgo [.istore_n 3, .aload_n 1, .bipush 12, .iload_n 3, .iadd] (pc' := 33) (L' := [some (.inr (12, 0)), some (.inr (56, 0)), some (.inl (.int a2)), some (.inl (.int r11))]) (st' := [.inl (.int ((12 : Int32) + r11)), .inr (56, 0)]) (S' := S) ok_X12_canCall.1 (by decide +kernel) rfl rfl ?_
      obtain ⟨g12, h⟩ := ax_gd_e h
      refine ax_Tali (n := 204) ok_X12_canCall.1 (by decide +kernel) (by decide) rfl g12 ?_
      refine ax_Tgo [.aload_n 0, .getfield 43, .iconst 2, .iload_n 3, .imul, .iconst 1, .iadd] (pc' := 43) (L' := [some (.inr (12, 0)), some (.inr (56, 0)), some (.inl (.int a2)), some (.inl (.int r11))]) (st' := [.inl (.int (((2 : Int32) * r11) + (1 : Int32))), .inr (49, 0), .inl (.int (ax_ai S 56 0 ((12 : Int32) + r11).toNatClampNeg))]) (S' := S) ok_X12_canCall.1 (by decide +kernel) rfl rfl ?_
      obtain ⟨g13, h⟩ := ax_gd_e h
      refine ax_Tali (n := 8) ok_X12_canCall.1 (by decide +kernel) (by decide) rfl g13 ?_
      refine ax_Tic_ge (off := 27) (tgt := 71) (by decide +kernel) (by decide) (fun c14 => ?_) (fun c14 => ?_)
      · rw [if_pos c14] at h
        refine ax_Tgo [.iconst 0] (pc' := 72) (L' := [some (.inr (12, 0)), some (.inr (56, 0)), some (.inl (.int a2)), some (.inl (.int r11))]) (st' := [.inl (.int (0 : Int32))]) (S' := S) ok_X12_canCall.1 (by decide +kernel) rfl rfl ?_
        cases h
        exact ax_Treti (by decide +kernel) rfl rfl
      · rw [if_neg c14] at h
        refine ax_Tgo [.aload_n 1, .bipush 16] (pc' := 50) (L' := [some (.inr (12, 0)), some (.inr (56, 0)), some (.inl (.int a2)), some (.inl (.int r11))]) (st' := [.inl (.int (16 : Int32)), .inr (56, 0)]) (S' := S) ok_X12_canCall.1 (by decide +kernel) rfl rfl ?_
        obtain ⟨g15, h⟩ := ax_gd_e h
        refine ax_Tali (n := 204) ok_X12_canCall.1 (by decide +kernel) (by decide) rfl g15 ?_
        refine ax_Tgo [.aload_n 0, .aload_n 1, .iload_n 2] (pc' := 54) (L' := [some (.inr (12, 0)), some (.inr (56, 0)), some (.inl (.int a2)), some (.inl (.int r11))]) (st' := [.inl (.int a2), .inr (56, 0), .inr (12, 0), .inl (.int (ax_ai S 56 0 (16 : Int32).toNatClampNeg))]) (S' := S) ok_X12_canCall.1 (by decide +kernel) rfl rfl ?_
        obtain ⟨r19, S16, hq17, h⟩ := ax_bu_e h
        refine ax_TVi (d := 74) (ka := 12) (i := 0) [.inr (56, 0), .inl (.int a2)] [.inl (.int (ax_ai S 56 0 (16 : Int32).toNatClampNeg))] lk_X12_327 (by decide +kernel) rfl (by decide) rfl (Nat.le_of_ble_eq_true rfl) (Nat.le_of_ble_eq_true rfl) ((t_X12_takesIn_56x0 hq17).up (by decide)) ?_
        refine ax_Tgo [.iadd, .aload_n 0, .getfield 37, .iconst 0] (pc' := 63) (L' := [some (.inr (12, 0)), some (.inr (56, 0)), some (.inl (.int a2)), some (.inl (.int r11))]) (st' := [.inl (.int (0 : Int32)), .inr (47, 0), .inl (.int ((ax_ai S 56 0 (16 : Int32).toNatClampNeg) + r19))]) (S' := S16) ok_X12_canCall.1 (by decide +kernel) rfl rfl ?_
        obtain ⟨g20, h⟩ := ax_gd_e h
        refine ax_Tali (n := 3) ok_X12_canCall.1 (by decide +kernel) (by decide) rfl g20 ?_
        refine ax_Tic_gt (off := 7) (tgt := 71) (by decide +kernel) (by decide) (fun c21 => ?_) (fun c21 => ?_)
        · rw [if_pos c21] at h
          refine ax_Tgo [.iconst 0] (pc' := 72) (L' := [some (.inr (12, 0)), some (.inr (56, 0)), some (.inl (.int a2)), some (.inl (.int r11))]) (st' := [.inl (.int (0 : Int32))]) (S' := S16) ok_X12_canCall.1 (by decide +kernel) rfl rfl ?_
          cases h
          exact ax_Treti (by decide +kernel) rfl rfl
        · rw [if_neg c21] at h
          refine ax_Tgo [.iconst 1] (pc' := 68) (L' := [some (.inr (12, 0)), some (.inr (56, 0)), some (.inl (.int a2)), some (.inl (.int r11))]) (st' := [.inl (.int (1 : Int32))]) (S' := S16) ok_X12_canCall.1 (by decide +kernel) rfl rfl ?_
          refine ax_Tgoto (off := 4) (tgt := 72) (by decide +kernel) (by decide) ?_
          cases h
          exact ax_Treti (by decide +kernel) rfl rfl
    · rw [if_pos c7] at h
      refine ax_Tgo [.iconst 0] (pc' := 20) (L' := [some (.inr (12, 0)), some (.inr (56, 0)), some (.inl (.int a2)), none]) (st' := [.inl (.int (0 : Int32))]) (S' := S) ok_X12_canCall.1 (by decide +kernel) rfl rfl ?_
      cases h
      exact ax_Treti (by decide +kernel) rfl rfl

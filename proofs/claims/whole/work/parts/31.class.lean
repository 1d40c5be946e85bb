/-! METHODS of the class as functions, by program -/
def f_X11_all (a1 : Int32) (S : AS) : Option (Int32 × AS) := (f_X11_noHouse S).bind (fun (r4 : Int32) => (if r4 = (0 : Int32) then (if a1 = (0 : Int32) then (f_X6_beatsLeft 0 S).bind (fun (r10 : Int32) => some (r10, S)) else if a1 = (1 : Int32) then ax_bu (f_X11_foremost a1 S) (fun (r15 : Int32) (S12 : AS) => some (r15, S12)) else if a1 = (2 : Int32) then ax_bu (f_X11_foremost a1 S) (fun (r20 : Int32) (S17 : AS) => some (r20, S17)) else if a1 = (3 : Int32) then ax_bu (f_X11_foremost a1 S) (fun (r25 : Int32) (S22 : AS) => some (r25, S22)) else if a1 = (4 : Int32) then ax_bu (f_X11_foremost a1 S) (fun (r30 : Int32) (S27 : AS) => some (r30, S27)) else if a1 = (5 : Int32) then ax_bu (f_X11_foremost a1 S) (fun (r35 : Int32) (S32 : AS) => some (r35, S32)) else if a1 = (6 : Int32) then (f_X11_keenest S).bind (fun (r40 : Int32) => some (r40, S)) else if a1 = (7 : Int32) then ax_bu (f_X11_dueCallers S) (fun (r45 : Int32) (S42 : AS) => some (r45, S42)) else if a1 = (8 : Int32) then ax_bu (f_X11_readyCallers S) (fun (r50 : Int32) (S47 : AS) => some (r50, S47)) else if a1 = (9 : Int32) then ax_bu (f_X11_beatsOfAll S) (fun (r55 : Int32) (S52 : AS) => some (r55, S52)) else some ((Int32.ofInt (-1)), S)) else some ((Int32.ofInt (-1)), S)))
set_option maxRecDepth 100000 in
theorem t_X11_all {l : Launch} {a1 : Int32} {S Z : AS} {r : Int32} (h : f_X11_all a1 S = some (r, Z)) : ax_M l 7 ma_X11_all [.inr (11, 0), .inl (.int a1)] S (some (.inl (.int r))) Z := by
  unfold f_X11_all at h
  show ax_T l 7 ma_X11_all (0, [some (.inr (11, 0)), some (.inl (.int a1))], [], S) (some (.inl (.int r))) Z
  refine ax_Tgo [.aload_n 0] (pc' := 1) (L' := [some (.inr (11, 0)), some (.inl (.int a1))]) (st' := [.inr (11, 0)]) (S' := S) ok_X11_all.1 (by decide +kernel) rfl rfl ?_
  obtain ⟨r4, hq2, h⟩ := ax_bd_e h
  refine ax_TVi (d := 6) (ka := 11) (i := 0) [] [] lk_X11_161 (by decide +kernel) rfl (by decide) rfl (Nat.le_of_ble_eq_true rfl) (Nat.le_of_ble_eq_true rfl) ((t_X11_noHouse hq2).up (by decide)) ?_
  refine ax_Tif_eq (off := 5) (tgt := 9) (by decide +kernel) (by decide) (fun c5 => ?_) (fun c5 => ?_)
  · rw [if_pos c5] at h
    refine ax_Tgo [.iload_n 1] (pc' := 10) (L' := [some (.inr (11, 0)), some (.inl (.int a1))]) (st' := [.inl (.int a1)]) (S' := S) ok_X11_all.1 (by decide +kernel) rfl rfl ?_
    by_cases c6 : a1 = (0 : Int32)
    · rw [if_pos c6] at h
      refine ax_TtIn (dflt := 92) (lo := 0) (hi := 9) (offs := #[54, 66, 66, 66, 66, 66, 72, 77, 82, 87]) (len := 54) (off := 54) (tgt := 64) (by decide +kernel) (by rw [c6]; decide) (by rw [c6]; decide) (by rw [c6]; rfl) (by decide) ?_
      refine ax_Tgo [.aload_n 0, .getfield 31, .aload_n 0, .getfield 69] (pc' := 72) (L' := [some (.inr (11, 0)), some (.inl (.int a1))]) (st' := [.inr (9, 0), .inr (6, 0)]) (S' := S) ok_X11_all.1 (by decide +kernel) rfl rfl ?_
      obtain ⟨r10, hq8, h⟩ := ax_bd_e h
      refine ax_TVi (d := 6) (ka := 6) (i := 0) [.inr (9, 0)] [] lk_X11_375 (by decide +kernel) rfl (by decide) rfl (Nat.le_of_ble_eq_true rfl) (Nat.le_of_ble_eq_true rfl) ((t_X6_beatsLeft hq8).up (by decide)) ?_
      cases h
      exact ax_Treti (by decide +kernel) rfl rfl
    · rw [if_neg c6] at h
      by_cases c11 : a1 = (1 : Int32)
      · rw [if_pos c11] at h
        refine ax_TtIn (dflt := 92) (lo := 0) (hi := 9) (offs := #[54, 66, 66, 66, 66, 66, 72, 77, 82, 87]) (len := 54) (off := 66) (tgt := 76) (by decide +kernel) (by rw [c11]; decide) (by rw [c11]; decide) (by rw [c11]; rfl) (by decide) ?_
        refine ax_Tgo [.aload_n 0, .iload_n 1] (pc' := 78) (L' := [some (.inr (11, 0)), some (.inl (.int a1))]) (st' := [.inl (.int a1), .inr (11, 0)]) (S' := S) ok_X11_all.1 (by decide +kernel) rfl rfl ?_
        obtain ⟨r15, S12, hq13, h⟩ := ax_bu_e h
        refine ax_TVi (d := 6) (ka := 11) (i := 0) [.inl (.int a1)] [] lk_X11_379 (by decide +kernel) rfl (by decide) rfl (Nat.le_of_ble_eq_true rfl) (Nat.le_of_ble_eq_true rfl) ((t_X11_foremost hq13).up (by decide)) ?_
        cases h
        exact ax_Treti (by decide +kernel) rfl rfl
      · rw [if_neg c11] at h
        by_cases c16 : a1 = (2 : Int32)
        · rw [if_pos c16] at h
          refine ax_TtIn (dflt := 92) (lo := 0) (hi := 9) (offs := #[54, 66, 66, 66, 66, 66, 72, 77, 82, 87]) (len := 54) (off := 66) (tgt := 76) (by decide +kernel) (by rw [c16]; decide) (by rw [c16]; decide) (by rw [c16]; rfl) (by decide) ?_
          refine ax_Tgo [.aload_n 0, .iload_n 1] (pc' := 78) (L' := [some (.inr (11, 0)), some (.inl (.int a1))]) (st' := [.inl (.int a1), .inr (11, 0)]) (S' := S) ok_X11_all.1 (by decide +kernel) rfl rfl ?_
          obtain ⟨r20, S17, hq18, h⟩ := ax_bu_e h
          refine ax_TVi (d := 6) (ka := 11) (i := 0) [.inl (.int a1)] [] lk_X11_379 (by decide +kernel) rfl (by decide) rfl (Nat.le_of_ble_eq_true rfl) (Nat.le_of_ble_eq_true rfl) ((t_X11_foremost hq18).up (by decide)) ?_
          cases h
          exact ax_Treti (by decide +kernel) rfl rfl
        · rw [if_neg c16] at h
          by_cases c21 : a1 = (3 : Int32)
          · rw [if_pos c21] at h
            refine ax_TtIn (dflt := 92) (lo := 0) (hi := 9) (offs := #[54, 66, 66, 66, 66, 66, 72, 77, 82, 87]) (len := 54) (off := 66) (tgt := 76) (by decide +kernel) (by rw [c21]; decide) (by rw [c21]; decide) (by rw [c21]; rfl) (by decide) ?_
            refine ax_Tgo [.aload_n 0, .iload_n 1] (pc' := 78) (L' := [some (.inr (11, 0)), some (.inl (.int a1))]) (st' := [.inl (.int a1), .inr (11, 0)]) (S' := S) ok_X11_all.1 (by decide +kernel) rfl rfl ?_
            obtain ⟨r25, S22, hq23, h⟩ := ax_bu_e h
            refine ax_TVi (d := 6) (ka := 11) (i := 0) [.inl (.int a1)] [] lk_X11_379 (by decide +kernel) rfl (by decide) rfl (Nat.le_of_ble_eq_true rfl) (Nat.le_of_ble_eq_true rfl) ((t_X11_foremost hq23).up (by decide)) ?_
            cases h
            exact ax_Treti (by decide +kernel) rfl rfl
          · rw [if_neg c21] at h
            by_cases c26 : a1 = (4 : Int32)
            · rw [if_pos c26] at h
              refine ax_TtIn (dflt := 92) (lo := 0) (hi := 9) (offs := #[54, 66, 66, 66, 66, 66, 72, 77, 82, 87]) (len := 54) (off := 66) (tgt := 76) (by decide +kernel) (by rw [c26]; decide) (by rw [c26]; decide) (by rw [c26]; rfl) (by decide) ?_
              refine ax_Tgo [.aload_n 0, .iload_n 1] (pc' := 78) (L' := [some (.inr (11, 0)), some (.inl (.int a1))]) (st' := [.inl (.int a1), .inr (11, 0)]) (S' := S) ok_X11_all.1 (by decide +kernel) rfl rfl ?_
              obtain ⟨r30, S27, hq28, h⟩ := ax_bu_e h
              refine ax_TVi (d := 6) (ka := 11) (i := 0) [.inl (.int a1)] [] lk_X11_379 (by decide +kernel) rfl (by decide) rfl (Nat.le_of_ble_eq_true rfl) (Nat.le_of_ble_eq_true rfl) ((t_X11_foremost hq28).up (by decide)) ?_
              cases h
              exact ax_Treti (by decide +kernel) rfl rfl
            · rw [if_neg c26] at h
              by_cases c31 : a1 = (5 : Int32)
              · rw [if_pos c31] at h
                refine ax_TtIn (dflt := 92) (lo := 0) (hi := 9) (offs := #[54, 66, 66, 66, 66, 66, 72, 77, 82, 87]) (len := 54) (off := 66) (tgt := 76) (by decide +kernel) (by rw [c31]; decide) (by rw [c31]; decide) (by rw [c31]; rfl) (by decide) ?_
                refine ax_Tgo [.aload_n 0, .iload_n 1] (pc' := 78) (L' := [some (.inr (11, 0)), some (.inl (.int a1))]) (st' := [.inl (.int a1), .inr (11, 0)]) (S' := S) ok_X11_all.1 (by decide +kernel) rfl rfl ?_
                obtain ⟨r35, S32, hq33, h⟩ := ax_bu_e h
                refine ax_TVi (d := 6) (ka := 11) (i := 0) [.inl (.int a1)] [] lk_X11_379 (by decide +kernel) rfl (by decide) rfl (Nat.le_of_ble_eq_true rfl) (Nat.le_of_ble_eq_true rfl) ((t_X11_foremost hq33).up (by decide)) ?_
                cases h
                exact ax_Treti (by decide +kernel) rfl rfl
              · rw [if_neg c31] at h
                by_cases c36 : a1 = (6 : Int32)
                · rw [if_pos c36] at h
                  refine ax_TtIn (dflt := 92) (lo := 0) (hi := 9) (offs := #[54, 66, 66, 66, 66, 66, 72, 77, 82, 87]) (len := 54) (off := 72) (tgt := 82) (by decide +kernel) (by rw [c36]; decide) (by rw [c36]; decide) (by rw [c36]; rfl) (by decide) ?_
                  refine ax_Tgo [.aload_n 0] (pc' := 83) (L' := [some (.inr (11, 0)), some (.inl (.int a1))]) (st' := [.inr (11, 0)]) (S' := S) ok_X11_all.1 (by decide +kernel) rfl rfl ?_
                  obtain ⟨r40, hq38, h⟩ := ax_bd_e h
                  refine ax_TVi (d := 6) (ka := 11) (i := 0) [] [] lk_X11_382 (by decide +kernel) rfl (by decide) rfl (Nat.le_of_ble_eq_true rfl) (Nat.le_of_ble_eq_true rfl) ((t_X11_keenest hq38).up (by decide)) ?_
                  cases h
                  exact ax_Treti (by decide +kernel) rfl rfl
                · rw [if_neg c36] at h
                  by_cases c41 : a1 = (7 : Int32)
                  · rw [if_pos c41] at h
                    refine ax_TtIn (dflt := 92) (lo := 0) (hi := 9) (offs := #[54, 66, 66, 66, 66, 66, 72, 77, 82, 87]) (len := 54) (off := 77) (tgt := 87) (by decide +kernel) (by rw [c41]; decide) (by rw [c41]; decide) (by rw [c41]; rfl) (by decide) ?_
                    refine ax_Tgo [.aload_n 0] (pc' := 88) (L' := [some (.inr (11, 0)), some (.inl (.int a1))]) (st' := [.inr (11, 0)]) (S' := S) ok_X11_all.1 (by decide +kernel) rfl rfl ?_
                    obtain ⟨r45, S42, hq43, h⟩ := ax_bu_e h
                    refine ax_TVi (d := 6) (ka := 11) (i := 0) [] [] lk_X11_385 (by decide +kernel) rfl (by decide) rfl (Nat.le_of_ble_eq_true rfl) (Nat.le_of_ble_eq_true rfl) ((t_X11_dueCallers hq43).up (by decide)) ?_
                    cases h
                    exact ax_Treti (by decide +kernel) rfl rfl
                  · rw [if_neg c41] at h
                    by_cases c46 : a1 = (8 : Int32)
                    · rw [if_pos c46] at h
                      refine ax_TtIn (dflt := 92) (lo := 0) (hi := 9) (offs := #[54, 66, 66, 66, 66, 66, 72, 77, 82, 87]) (len := 54) (off := 82) (tgt := 92) (by decide +kernel) (by rw [c46]; decide) (by rw [c46]; decide) (by rw [c46]; rfl) (by decide) ?_
                      refine ax_Tgo [.aload_n 0] (pc' := 93) (L' := [some (.inr (11, 0)), some (.inl (.int a1))]) (st' := [.inr (11, 0)]) (S' := S) ok_X11_all.1 (by decide +kernel) rfl rfl ?_
                      obtain ⟨r50, S47, hq48, h⟩ := ax_bu_e h
                      refine ax_TVi (d := 6) (ka := 11) (i := 0) [] [] lk_X11_388 (by decide +kernel) rfl (by decide) rfl (Nat.le_of_ble_eq_true rfl) (Nat.le_of_ble_eq_true rfl) ((t_X11_readyCallers hq48).up (by decide)) ?_
                      cases h
                      exact ax_Treti (by decide +kernel) rfl rfl
                    · rw [if_neg c46] at h
                      by_cases c51 : a1 = (9 : Int32)
                      · rw [if_pos c51] at h
                        refine ax_TtIn (dflt := 92) (lo := 0) (hi := 9) (offs := #[54, 66, 66, 66, 66, 66, 72, 77, 82, 87]) (len := 54) (off := 87) (tgt := 97) (by decide +kernel) (by rw [c51]; decide) (by rw [c51]; decide) (by rw [c51]; rfl) (by decide) ?_
                        refine ax_Tgo [.aload_n 0] (pc' := 98) (L' := [some (.inr (11, 0)), some (.inl (.int a1))]) (st' := [.inr (11, 0)]) (S' := S) ok_X11_all.1 (by decide +kernel) rfl rfl ?_
                        obtain ⟨r55, S52, hq53, h⟩ := ax_bu_e h
                        refine ax_TVi (d := 6) (ka := 11) (i := 0) [] [] lk_X11_391 (by decide +kernel) rfl (by decide) rfl (Nat.le_of_ble_eq_true rfl) (Nat.le_of_ble_eq_true rfl) ((t_X11_beatsOfAll hq53).up (by decide)) ?_
                        cases h
                        exact ax_Treti (by decide +kernel) rfl rfl
                      · rw [if_neg c51] at h
                        refine ax_TtOut (dflt := 92) (lo := 0) (hi := 9) (offs := #[54, 66, 66, 66, 66, 66, 72, 77, 82, 87]) (len := 54) (tgt := 102) (by decide +kernel) (by have zc6 := lv_neT (a := 0) c6 rfl; have zc11 := lv_neT (a := 1) c11 rfl; have zc16 := lv_neT (a := 2) c16 rfl; have zc21 := lv_neT (a := 3) c21 rfl; have zc26 := lv_neT (a := 4) c26 rfl; have zc31 := lv_neT (a := 5) c31 rfl; have zc36 := lv_neT (a := 6) c36 rfl; have zc41 := lv_neT (a := 7) c41 rfl; have zc46 := lv_neT (a := 8) c46 rfl; have zc51 := lv_neT (a := 9) c51 rfl; omega) (by decide) ?_
                        refine ax_Tgo [.iconst (-1)] (pc' := 103) (L' := [some (.inr (11, 0)), some (.inl (.int a1))]) (st' := [.inl (.int (Int32.ofInt (-1)))]) (S' := S) ok_X11_all.1 (by decide +kernel) rfl rfl ?_
                        cases h
                        exact ax_Treti (by decide +kernel) rfl rfl
  · rw [if_neg c5] at h
    refine ax_Tgo [.iconst (-1)] (pc' := 8) (L' := [some (.inr (11, 0)), some (.inl (.int a1))]) (st' := [.inl (.int (Int32.ofInt (-1)))]) (S' := S) ok_X11_all.1 (by decide +kernel) rfl rfl ?_
    cases h
    exact ax_Treti (by decide +kernel) rfl rfl
def f_X11_soundsOf (a1 : Int32) (a2 : Int32) (S : AS) : Option (Int32) := (f_X4_traitOf (ax_fx S 11 0 14) a1 (6 : Int32) S).bind (fun (r4 : Int32) => (if a2 = (10 : Int32) then some (r4 / (10 : Int32)) else some r4))
set_option maxRecDepth 100000 in
theorem t_X11_soundsOf {l : Launch} {a1 : Int32} {a2 : Int32} {S : AS} {r : Int32} (h : f_X11_soundsOf a1 a2 S = some r) : ax_M l 1 ma_X11_soundsOf [.inr (11, 0), .inl (.int a1), .inl (.int a2)] S (some (.inl (.int r))) S := by
  unfold f_X11_soundsOf at h
  show ax_T l 1 ma_X11_soundsOf (0, [some (.inr (11, 0)), some (.inl (.int a1)), some (.inl (.int a2)), none], [], S) (some (.inl (.int r))) S
  refine ax_Tgo [.aload_n 0, .getfield 93, .iload_n 1, .bipush 6] (pc' := 7) (L' := [some (.inr (11, 0)), some (.inl (.int a1)), some (.inl (.int a2)), none]) (st' := [.inl (.int (6 : Int32)), .inl (.int a1), .inr (4, (ax_fx S 11 0 14))]) (S' := S) ok_X11_soundsOf.1 (by decide +kernel) rfl rfl ?_
  obtain ⟨r4, hq2, h⟩ := ax_bd_e h
  refine ax_TVi (d := 0) (ka := 4) (i := (ax_fx S 11 0 14)) [.inl (.int a1), .inl (.int (6 : Int32))] [] lk_X11_195 (by decide +kernel) rfl (by decide) rfl (Nat.le_of_ble_eq_true rfl) (Nat.le_of_ble_eq_true rfl) ((t_X4_traitOf hq2).up (by decide)) ?_
  refine ax_Tgo [.istore_n 3, .iload_n 2, .bipush 10] (pc' := 14) (L' := [some (.inr (11, 0)), some (.inl (.int a1)), some (.inl (.int a2)), some (.inl (.int r4))]) (st' := [.inl (.int (10 : Int32)), .inl (.int a2)]) (S' := S) ok_X11_soundsOf.1 (by decide +kernel) rfl rfl ?_
  refine ax_Tic_ne (off := 10) (tgt := 24) (by decide +kernel) (by decide) (fun c5 => ?_) (fun c5 => ?_)
  · rw [if_neg c5] at h
    refine ax_Tgo [.iload_n 3] (pc' := 25) (L' := [some (.inr (11, 0)), some (.inl (.int a1)), some (.inl (.int a2)), some (.inl (.int r4))]) (st' := [.inl (.int r4)]) (S' := S) ok_X11_soundsOf.1 (by decide +kernel) rfl rfl ?_
    cases h
    exact ax_Treti (by decide +kernel) rfl rfl
  · rw [if_pos c5] at h
    refine ax_Tgo [.iload_n 3, .bipush 10] (pc' := 20) (L' := [some (.inr (11, 0)), some (.inl (.int a1)), some (.inl (.int a2)), some (.inl (.int r4))]) (st' := [.inl (.int (10 : Int32)), .inl (.int r4)]) (S' := S) ok_X11_soundsOf.1 (by decide +kernel) rfl rfl ?_
    refine ax_Tidiv ok_X11_soundsOf.1 (by decide +kernel) (by decide) ?_
    refine ax_Tgoto (off := 4) (tgt := 25) (by decide +kernel) (by decide) ?_
    cases h
    exact ax_Treti (by decide +kernel) rfl rfl
def f_X11_allUnlike_L16 (S : AS) (K75 : Int32 → Int32 → Int32 → Option (Int32)) : Nat → Int32 → Int32 → Int32 → Int32 → Option (Int32)
  | 0, _, _, _, _ => none
  | n + 1, x8, x9, x10, x11 => (if x10 ≤ x11 then K75 x8 x9 x10 else ax_let (fun (x16 : Int32)  => (if x16 = (0 : Int32) then ax_let (x11 + (1 : Int32)) (fun (v19 : Int32) => f_X11_allUnlike_L16 S K75 n x8 x9 x10 v19) else (f_X11_soundsOf x10 x9 S).bind (fun (r23 : Int32) => (f_X11_soundsOf x11 x9 S).bind (fun (r27 : Int32) => (if r23 = r27 then some (0 : Int32) else ax_let (x11 + (1 : Int32)) (fun (v29 : Int32) => f_X11_allUnlike_L16 S K75 n x8 x9 x10 v29)))))) (fun J17 => (if ((x8 >>> (x10 &&& 31)) &&& (1 : Int32)) = (0 : Int32) then J17 (0 : Int32) else (if ((x8 >>> (x11 &&& 31)) &&& (1 : Int32)) = (0 : Int32) then J17 (0 : Int32) else J17 (1 : Int32)))))
def f_X11_allUnlike_L2 (S : AS) : Nat → Int32 → Int32 → Int32 → Option (Int32)
  | 0, _, _, _ => none
  | n + 1, x1, x2, x3 => (if (ax_fi S 4 (ax_fx S 11 0 14) 5) ≤ x3 then some (1 : Int32) else f_X11_allUnlike_L16 S (fun (x12 : Int32) (x13 : Int32) (x14 : Int32)  => ax_let (x14 + (1 : Int32)) (fun (v32 : Int32) => f_X11_allUnlike_L2 S n x12 x13 v32)) ax_F x1 x2 x3 (0 : Int32))
def f_X11_allUnlike (a1 : Int32) (a2 : Int32) (S : AS) : Option (Int32) := f_X11_allUnlike_L2 S ax_F a1 a2 (0 : Int32)
set_option maxRecDepth 100000 in
theorem t_X11_allUnlike_L16 {l : Launch} {S : AS} {K75 : Int32 → Int32 → Int32 → Option (Int32)} (hK75 : ∀ (x12 : Int32) (x13 : Int32) (x14 : Int32) r, K75 x12 x13 x14  = some r → ax_T l 2 ma_X11_allUnlike (75, [some (.inr (11, 0)), some (.inl (.int x12)), some (.inl (.int x13)), some (.inl (.int x14)), none, none], [], S) (some (.inl (.int r))) S) : ∀ (n : Nat) (x8 : Int32) (x9 : Int32) (x10 : Int32) (x11 : Int32) r, f_X11_allUnlike_L16 S K75 n x8 x9 x10 x11  = some r → ax_T l 2 ma_X11_allUnlike (16, [some (.inr (11, 0)), some (.inl (.int x8)), some (.inl (.int x9)), some (.inl (.int x10)), some (.inl (.int x11)), none], [], S) (some (.inl (.int r))) S := by
  intro n
  induction n with
  | zero =>
    intro x8 x9 x10 x11  r h
    cases h
  | succ n ih =>
    intro x8 x9 x10 x11  r h
    unfold f_X11_allUnlike_L16 at h
    refine ax_Tgo [.iload 4, .iload_n 3] (pc' := 19) (L' := [some (.inr (11, 0)), some (.inl (.int x8)), some (.inl (.int x9)), some (.inl (.int x10)), some (.inl (.int x11)), none]) (st' := [.inl (.int x10), .inl (.int x11)]) (S' := S) ok_X11_allUnlike.1 (by decide +kernel) rfl rfl ?_
    refine ax_Tic_ge (off := 56) (tgt := 75) (by decide +kernel) (by decide) (fun c15 => ?_) (fun c15 => ?_)
    · rw [if_pos c15] at h
      refine ax_Tdrop [true, true, true, true, false, true] (L' := [some (.inr (11, 0)), some (.inl (.int x8)), some (.inl (.int x9)), some (.inl (.int x10)), none, none]) rfl ?_
      exact hK75 x8 x9 x10 _ h
    · rw [if_neg c15] at h
      refine ax_Tgo [.iload_n 1, .iload_n 3, .ishr, .iconst 1, .iand] (pc' := 27) (L' := [some (.inr (11, 0)), some (.inl (.int x8)), some (.inl (.int x9)), some (.inl (.int x10)), some (.inl (.int x11)), none]) (st' := [.inl (.int ((x8 >>> (x10 &&& 31)) &&& (1 : Int32)))]) (S' := S) ok_X11_allUnlike.1 (by decide +kernel) rfl rfl ?_
      obtain ⟨J17, eJ17, h⟩ := ax_let_e h
      have hJ17 : ∀ (x16 : Int32)  r, J17 x16  = some r → ax_T l 2 ma_X11_allUnlike (44, [some (.inr (11, 0)), some (.inl (.int x8)), some (.inl (.int x9)), some (.inl (.int x10)), some (.inl (.int x11)), none], [.inl (.int x16)], S) (some (.inl (.int r))) S := by
        intro x16  r h
        rw [← eJ17] at h
        try dsimp only at h
        refine ax_Tgo [.istore 5, .iload 5] (pc' := 48) (L' := [some (.inr (11, 0)), some (.inl (.int x8)), some (.inl (.int x9)), some (.inl (.int x10)), some (.inl (.int x11)), some (.inl (.int x16))]) (st' := [.inl (.int x16)]) (S' := S) ok_X11_allUnlike.1 (by decide +kernel) rfl rfl ?_
        refine ax_Tif_eq (off := 21) (tgt := 69) (by decide +kernel) (by decide) (fun c18 => ?_) (fun c18 => ?_)
        · rw [if_pos c18] at h
          refine ax_Tgo [.iinc 4 1] (pc' := 72) (L' := [some (.inr (11, 0)), some (.inl (.int x8)), some (.inl (.int x9)), some (.inl (.int x10)), some (.inl (.int (x11 + (1 : Int32)))), some (.inl (.int x16))]) (st' := []) (S' := S) ok_X11_allUnlike.1 (by decide +kernel) rfl rfl ?_
          obtain ⟨v19, ev19, h⟩ := ax_let_e h
          rw [ev19]
          refine ax_Tgoto (off := (-56)) (tgt := 16) (by decide +kernel) (by decide) ?_
          refine ax_Tdrop [true, true, true, true, true, false] (L' := [some (.inr (11, 0)), some (.inl (.int x8)), some (.inl (.int x9)), some (.inl (.int x10)), some (.inl (.int v19)), none]) rfl ?_
          exact ih x8 x9 x10 v19 _ h
        · rw [if_neg c18] at h
          refine ax_Tgo [.aload_n 0, .iload_n 3, .iload_n 2] (pc' := 54) (L' := [some (.inr (11, 0)), some (.inl (.int x8)), some (.inl (.int x9)), some (.inl (.int x10)), some (.inl (.int x11)), some (.inl (.int x16))]) (st' := [.inl (.int x9), .inl (.int x10), .inr (11, 0)]) (S' := S) ok_X11_allUnlike.1 (by decide +kernel) rfl rfl ?_
          obtain ⟨r23, hq21, h⟩ := ax_bd_e h
          refine ax_TVi (d := 1) (ka := 11) (i := 0) [.inl (.int x10), .inl (.int x9)] [] lk_X11_342 (by decide +kernel) rfl (by decide) rfl (Nat.le_of_ble_eq_true rfl) (Nat.le_of_ble_eq_true rfl) ((t_X11_soundsOf hq21).up (by decide)) ?_
          refine ax_Tgo [.aload_n 0, .iload 4, .iload_n 2] (pc' := 61) (L' := [some (.inr (11, 0)), some (.inl (.int x8)), some (.inl (.int x9)), some (.inl (.int x10)), some (.inl (.int x11)), some (.inl (.int x16))]) (st' := [.inl (.int x9), .inl (.int x11), .inr (11, 0), .inl (.int r23)]) (S' := S) ok_X11_allUnlike.1 (by decide +kernel) rfl rfl ?_
          obtain ⟨r27, hq25, h⟩ := ax_bd_e h
          refine ax_TVi (d := 1) (ka := 11) (i := 0) [.inl (.int x11), .inl (.int x9)] [.inl (.int r23)] lk_X11_342 (by decide +kernel) rfl (by decide) rfl (Nat.le_of_ble_eq_true rfl) (Nat.le_of_ble_eq_true rfl) ((t_X11_soundsOf hq25).up (by decide)) ?_
          refine ax_Tic_ne (off := 5) (tgt := 69) (by decide +kernel) (by decide) (fun c28 => ?_) (fun c28 => ?_)
          · rw [if_neg c28] at h
            refine ax_Tgo [.iinc 4 1] (pc' := 72) (L' := [some (.inr (11, 0)), some (.inl (.int x8)), some (.inl (.int x9)), some (.inl (.int x10)), some (.inl (.int (x11 + (1 : Int32)))), some (.inl (.int x16))]) (st' := []) (S' := S) ok_X11_allUnlike.1 (by decide +kernel) rfl rfl ?_
            obtain ⟨v29, ev29, h⟩ := ax_let_e h
            rw [ev29]
            refine ax_Tgoto (off := (-56)) (tgt := 16) (by decide +kernel) (by decide) ?_
            refine ax_Tdrop [true, true, true, true, true, false] (L' := [some (.inr (11, 0)), some (.inl (.int x8)), some (.inl (.int x9)), some (.inl (.int x10)), some (.inl (.int v29)), none]) rfl ?_
            exact ih x8 x9 x10 v29 _ h
          · rw [if_pos c28] at h
            refine ax_Tgo [.iconst 0] (pc' := 68) (L' := [some (.inr (11, 0)), some (.inl (.int x8)), some (.inl (.int x9)), some (.inl (.int x10)), some (.inl (.int x11)), some (.inl (.int x16))]) (st' := [.inl (.int (0 : Int32))]) (S' := S) ok_X11_allUnlike.1 (by decide +kernel) rfl rfl ?_
            cases h
            exact ax_Treti (by decide +kernel) rfl rfl
      refine ax_Tif_eq (off := 16) (tgt := 43) (by decide +kernel) (by decide) (fun c30 => ?_) (fun c30 => ?_)
      · rw [if_pos c30] at h
        refine ax_Tgo [.iconst 0] (pc' := 44) (L' := [some (.inr (11, 0)), some (.inl (.int x8)), some (.inl (.int x9)), some (.inl (.int x10)), some (.inl (.int x11)), none]) (st' := [.inl (.int (0 : Int32))]) (S' := S) ok_X11_allUnlike.1 (by decide +kernel) rfl rfl ?_
        exact hJ17 (0 : Int32) _ h
      · rw [if_neg c30] at h
        refine ax_Tgo [.iload_n 1, .iload 4, .ishr, .iconst 1, .iand] (pc' := 36) (L' := [some (.inr (11, 0)), some (.inl (.int x8)), some (.inl (.int x9)), some (.inl (.int x10)), some (.inl (.int x11)), none]) (st' := [.inl (.int ((x8 >>> (x11 &&& 31)) &&& (1 : Int32)))]) (S' := S) ok_X11_allUnlike.1 (by decide +kernel) rfl rfl ?_
        refine ax_Tif_eq (off := 7) (tgt := 43) (by decide +kernel) (by decide) (fun c31 => ?_) (fun c31 => ?_)
        · rw [if_pos c31] at h
          refine ax_Tgo [.iconst 0] (pc' := 44) (L' := [some (.inr (11, 0)), some (.inl (.int x8)), some (.inl (.int x9)), some (.inl (.int x10)), some (.inl (.int x11)), none]) (st' := [.inl (.int (0 : Int32))]) (S' := S) ok_X11_allUnlike.1 (by decide +kernel) rfl rfl ?_
          exact hJ17 (0 : Int32) _ h
        · rw [if_neg c31] at h
          refine ax_Tgo [.iconst 1] (pc' := 40) (L' := [some (.inr (11, 0)), some (.inl (.int x8)), some (.inl (.int x9)), some (.inl (.int x10)), some (.inl (.int x11)), none]) (st' := [.inl (.int (1 : Int32))]) (S' := S) ok_X11_allUnlike.1 (by decide +kernel) rfl rfl ?_
          refine ax_Tgoto (off := 4) (tgt := 44) (by decide +kernel) (by decide) ?_
          exact hJ17 (1 : Int32) _ h
set_option maxRecDepth 100000 in
theorem t_X11_allUnlike_L2 {l : Launch} {S : AS} : ∀ (n : Nat) (x1 : Int32) (x2 : Int32) (x3 : Int32) r, f_X11_allUnlike_L2 S n x1 x2 x3  = some r → ax_T l 2 ma_X11_allUnlike (2, [some (.inr (11, 0)), some (.inl (.int x1)), some (.inl (.int x2)), some (.inl (.int x3)), none, none], [], S) (some (.inl (.int r))) S := by
  intro n
  induction n with
  | zero =>
    intro x1 x2 x3  r h
    cases h
  | succ n ih =>
    intro x1 x2 x3  r h
    unfold f_X11_allUnlike_L2 at h
    refine ax_Tgo [.iload_n 3, .aload_n 0, .getfield 93] (pc' := 7) (L' := [some (.inr (11, 0)), some (.inl (.int x1)), some (.inl (.int x2)), some (.inl (.int x3)), none, none]) (st' := [.inr (4, (ax_fx S 11 0 14)), .inl (.int x3)]) (S' := S) ok_X11_allUnlike.1 (by decide +kernel) rfl rfl ?_
    refine ax_TVi (d := 1) (ka := 4) (i := (ax_fx S 11 0 14)) [] [.inl (.int x3)] lk_X11_147 (by decide +kernel) rfl (by decide) rfl (Nat.le_of_ble_eq_true rfl) (Nat.le_of_ble_eq_true rfl) ((t_X4_callers rfl).up (by decide)) ?_
    refine ax_Tic_ge (off := 71) (tgt := 81) (by decide +kernel) (by decide) (fun c7 => ?_) (fun c7 => ?_)
    · rw [if_pos c7] at h
      refine ax_Tgo [.iconst 1] (pc' := 82) (L' := [some (.inr (11, 0)), some (.inl (.int x1)), some (.inl (.int x2)), some (.inl (.int x3)), none, none]) (st' := [.inl (.int (1 : Int32))]) (S' := S) ok_X11_allUnlike.1 (by decide +kernel) rfl rfl ?_
      cases h
      exact ax_Treti (by decide +kernel) rfl rfl
    · rw [if_neg c7] at h
      refine ax_Tgo [.iconst 0, .istore 4] (pc' := 16) (L' := [some (.inr (11, 0)), some (.inl (.int x1)), some (.inl (.int x2)), some (.inl (.int x3)), some (.inl (.int (0 : Int32))), none]) (st' := []) (S' := S) ok_X11_allUnlike.1 (by decide +kernel) rfl rfl ?_
      refine t_X11_allUnlike_L16 ?_ _ x1 x2 x3 (0 : Int32) _ h
      · intro x12 x13 x14  r h
        refine ax_Tgo [.iinc 3 1] (pc' := 78) (L' := [some (.inr (11, 0)), some (.inl (.int x12)), some (.inl (.int x13)), some (.inl (.int (x14 + (1 : Int32)))), none, none]) (st' := []) (S' := S) ok_X11_allUnlike.1 (by decide +kernel) rfl rfl ?_
        obtain ⟨v32, ev32, h⟩ := ax_let_e h
        rw [ev32]
        refine ax_Tgoto (off := (-76)) (tgt := 2) (by decide +kernel) (by decide) ?_
        exact ih x12 x13 v32 _ h
set_option maxRecDepth 100000 in
theorem t_X11_allUnlike {l : Launch} {a1 : Int32} {a2 : Int32} {S : AS} {r : Int32} (h : f_X11_allUnlike a1 a2 S = some r) : ax_M l 2 ma_X11_allUnlike [.inr (11, 0), .inl (.int a1), .inl (.int a2)] S (some (.inl (.int r))) S := by
  unfold f_X11_allUnlike at h
  show ax_T l 2 ma_X11_allUnlike (0, [some (.inr (11, 0)), some (.inl (.int a1)), some (.inl (.int a2)), none, none, none], [], S) (some (.inl (.int r))) S
  refine ax_Tgo [.iconst 0, .istore_n 3] (pc' := 2) (L' := [some (.inr (11, 0)), some (.inl (.int a1)), some (.inl (.int a2)), some (.inl (.int (0 : Int32))), none, none]) (st' := []) (S' := S) ok_X11_allUnlike.1 (by decide +kernel) rfl rfl ?_
  refine t_X11_allUnlike_L2 _ a1 a2 (0 : Int32) _ h
def f_X11_announce (a1 : Int32) (S : AS) : Option (Int32 × AS) := ax_let (ax_fi S 9 0 2) (fun (v1 : Int32) => ax_bu (f_X11_act (0 : Int32) a1 S) (fun (r5 : Int32) (S2 : AS) => (if r5 = (0 : Int32) then some ((Int32.ofInt (-1)), S2) else some (((ax_fi S2 9 0 2) - v1), S2))))
set_option maxRecDepth 100000 in
theorem t_X11_announce {l : Launch} {a1 : Int32} {S Z : AS} {r : Int32} (h : f_X11_announce a1 S = some (r, Z)) : ax_M l 7 ma_X11_announce [.inr (11, 0), .inl (.int a1)] S (some (.inl (.int r))) Z := by
  unfold f_X11_announce at h
  show ax_T l 7 ma_X11_announce (0, [some (.inr (11, 0)), some (.inl (.int a1)), none], [], S) (some (.inl (.int r))) Z
  refine ax_Tgo [.aload_n 0, .getfield 69, .getfield 206, .istore_n 2] (pc' := 8) (L' := [some (.inr (11, 0)), some (.inl (.int a1)), some (.inl (.int (ax_fi S 9 0 2)))]) (st' := []) (S' := S) ok_X11_announce.1 (by decide +kernel) rfl rfl ?_
  obtain ⟨v1, ev1, h⟩ := ax_let_e h
  rw [ev1]
  refine ax_Tgo [.aload_n 0, .iconst 0, .iload_n 1] (pc' := 11) (L' := [some (.inr (11, 0)), some (.inl (.int a1)), some (.inl (.int v1))]) (st' := [.inl (.int a1), .inl (.int (0 : Int32)), .inr (11, 0)]) (S' := S) ok_X11_announce.1 (by decide +kernel) rfl rfl ?_
  obtain ⟨r5, S2, hq3, h⟩ := ax_bu_e h
  refine ax_TVi (d := 6) (ka := 11) (i := 0) [.inl (.int (0 : Int32)), .inl (.int a1)] [] lk_X11_209 (by decide +kernel) rfl (by decide) rfl (Nat.le_of_ble_eq_true rfl) (Nat.le_of_ble_eq_true rfl) ((t_X11_act hq3).up (by decide)) ?_
  refine ax_Tif_eq (off := 15) (tgt := 29) (by decide +kernel) (by decide) (fun c6 => ?_) (fun c6 => ?_)
  · rw [if_pos c6] at h
    refine ax_Tgo [.iconst (-1)] (pc' := 30) (L' := [some (.inr (11, 0)), some (.inl (.int a1)), some (.inl (.int v1))]) (st' := [.inl (.int (Int32.ofInt (-1)))]) (S' := S2) ok_X11_announce.1 (by decide +kernel) rfl rfl ?_
    cases h
    exact ax_Treti (by decide +kernel) rfl rfl
  · rw [if_neg c6] at h
    refine ax_Tgo [.aload_n 0, .getfield 69, .getfield 206, .iload_n 2, .isub] (pc' := 26) (L' := [some (.inr (11, 0)), some (.inl (.int a1)), some (.inl (.int v1))]) (st' := [.inl (.int ((ax_fi S2 9 0 2) - v1))]) (S' := S2) ok_X11_announce.1 (by decide +kernel) rfl rfl ?_
    refine ax_Tgoto (off := 4) (tgt := 30) (by decide +kernel) (by decide) ?_
    cases h
    exact ax_Treti (by decide +kernel) rfl rfl
def f_J6_bitCount_0f7a4 (a0 : Int32) (S : AS) : Option (Int32) := ax_let (a0 - ((a0.toUInt32 >>> ((1 : Int32).toUInt32 &&& Int32.toUInt32 31)).toInt32 &&& (1431655765 : Int32))) (fun (v1 : Int32) => ax_let ((v1 &&& (858993459 : Int32)) + ((v1.toUInt32 >>> ((2 : Int32).toUInt32 &&& Int32.toUInt32 31)).toInt32 &&& (858993459 : Int32))) (fun (v2 : Int32) => ax_let ((v2 + (v2.toUInt32 >>> ((4 : Int32).toUInt32 &&& Int32.toUInt32 31)).toInt32) &&& (252645135 : Int32)) (fun (v3 : Int32) => ax_let (v3 + (v3.toUInt32 >>> ((8 : Int32).toUInt32 &&& Int32.toUInt32 31)).toInt32) (fun (v4 : Int32) => ax_let (v4 + (v4.toUInt32 >>> ((16 : Int32).toUInt32 &&& Int32.toUInt32 31)).toInt32) (fun (v5 : Int32) => some (v5 &&& (63 : Int32)))))))
set_option maxRecDepth 100000 in
theorem t_J6_bitCount_0f7a4 {l : Launch} {a0 : Int32} {S : AS} {r : Int32} (h : f_J6_bitCount_0f7a4 a0 S = some r) : ax_M l 0 ma_J6_bitCount_0f7a4 [.inl (.int a0)] S (some (.inl (.int r))) S := by
  unfold f_J6_bitCount_0f7a4 at h
  show ax_T l 0 ma_J6_bitCount_0f7a4 (0, [some (.inl (.int a0))], [], S) (some (.inl (.int r))) S
  refine ax_Tgo [.iload_n 0, .iload_n 0, .iconst 1, .iushr, .ldc_w 265, .iand, .isub, .istore_n 0] (pc' := 10) (L' := [some (.inl (.int (a0 - ((a0.toUInt32 >>> ((1 : Int32).toUInt32 &&& Int32.toUInt32 31)).toInt32 &&& (1431655765 : Int32)))))]) (st' := []) (S' := S) ok_J6_bitCount_0f7a4.1 (by decide +kernel) rfl rfl ?_
  obtain ⟨v1, ev1, h⟩ := ax_let_e h
  rw [ev1]
  refine ax_Tgo [.iload_n 0, .ldc_w 266, .iand, .iload_n 0, .iconst 2, .iushr, .ldc_w 266, .iand, .iadd, .istore_n 0] (pc' := 24) (L' := [some (.inl (.int ((v1 &&& (858993459 : Int32)) + ((v1.toUInt32 >>> ((2 : Int32).toUInt32 &&& Int32.toUInt32 31)).toInt32 &&& (858993459 : Int32)))))]) (st' := []) (S' := S) ok_J6_bitCount_0f7a4.1 (by decide +kernel) rfl rfl ?_
  obtain ⟨v2, ev2, h⟩ := ax_let_e h
  rw [ev2]
  refine ax_Tgo [.iload_n 0, .iload_n 0, .iconst 4, .iushr, .iadd, .ldc_w 267, .iand, .istore_n 0] (pc' := 34) (L' := [some (.inl (.int ((v2 + (v2.toUInt32 >>> ((4 : Int32).toUInt32 &&& Int32.toUInt32 31)).toInt32) &&& (252645135 : Int32))))]) (st' := []) (S' := S) ok_J6_bitCount_0f7a4.1 (by decide +kernel) rfl rfl ?_
  obtain ⟨v3, ev3, h⟩ := ax_let_e h
  rw [ev3]
  refine ax_Tgo [.iload_n 0, .iload_n 0, .bipush 8, .iushr, .iadd, .istore_n 0] (pc' := 41) (L' := [some (.inl (.int (v3 + (v3.toUInt32 >>> ((8 : Int32).toUInt32 &&& Int32.toUInt32 31)).toInt32)))]) (st' := []) (S' := S) ok_J6_bitCount_0f7a4.1 (by decide +kernel) rfl rfl ?_
  obtain ⟨v4, ev4, h⟩ := ax_let_e h
  rw [ev4]
  refine ax_Tgo [.iload_n 0, .iload_n 0, .bipush 16, .iushr, .iadd, .istore_n 0] (pc' := 48) (L' := [some (.inl (.int (v4 + (v4.toUInt32 >>> ((16 : Int32).toUInt32 &&& Int32.toUInt32 31)).toInt32)))]) (st' := []) (S' := S) ok_J6_bitCount_0f7a4.1 (by decide +kernel) rfl rfl ?_
  obtain ⟨v5, ev5, h⟩ := ax_let_e h
  rw [ev5]
  refine ax_Tgo [.iload_n 0, .bipush 63, .iand] (pc' := 52) (L' := [some (.inl (.int v5))]) (st' := [.inl (.int (v5 &&& (63 : Int32)))]) (S' := S) ok_J6_bitCount_0f7a4.1 (by decide +kernel) rfl rfl ?_
  cases h
  exact ax_Treti (by decide +kernel) rfl rfl
def f_X11_apart (a1 : Int32) (S : AS) : Option (Int32) := (f_X11_noHouse S).bind (fun (r4 : Int32) => (if r4 = (0 : Int32) then (if a1 < (0 : Int32) then some (Int32.ofInt (-1)) else (if ((1 : Int32) <<< ((ax_fi S 4 (ax_fx S 11 0 14) 5) &&& 31)) ≤ a1 then some (Int32.ofInt (-1)) else (f_J6_bitCount_0f7a4 a1 S).bind (fun (r14 : Int32) => (if (2 : Int32) ≤ r14 then (f_X11_allUnlike a1 (10 : Int32) S).bind (fun (r19 : Int32) => (if r19 = (0 : Int32) then (f_X11_allUnlike a1 (1 : Int32) S).bind (fun (r24 : Int32) => (if r24 = (0 : Int32) then some (Int32.ofInt (-1)) else some (2 : Int32))) else some (1 : Int32))) else some (Int32.ofInt (-1)))))) else some (Int32.ofInt (-1))))
set_option maxRecDepth 100000 in
theorem t_X11_apart {l : Launch} {a1 : Int32} {S : AS} {r : Int32} (h : f_X11_apart a1 S = some r) : ax_M l 3 ma_X11_apart [.inr (11, 0), .inl (.int a1)] S (some (.inl (.int r))) S := by
  unfold f_X11_apart at h
  show ax_T l 3 ma_X11_apart (0, [some (.inr (11, 0)), some (.inl (.int a1))], [], S) (some (.inl (.int r))) S
  refine ax_Tgo [.aload_n 0] (pc' := 1) (L' := [some (.inr (11, 0)), some (.inl (.int a1))]) (st' := [.inr (11, 0)]) (S' := S) ok_X11_apart.1 (by decide +kernel) rfl rfl ?_
  obtain ⟨r4, hq2, h⟩ := ax_bd_e h
  refine ax_TVi (d := 2) (ka := 11) (i := 0) [] [] lk_X11_161 (by decide +kernel) rfl (by decide) rfl (Nat.le_of_ble_eq_true rfl) (Nat.le_of_ble_eq_true rfl) ((t_X11_noHouse hq2).up (by decide)) ?_
  refine ax_Tif_ne (off := 28) (tgt := 32) (by decide +kernel) (by decide) (fun c5 => ?_) (fun c5 => ?_)
  · rw [if_neg c5] at h
    refine ax_Tgo [.iconst (-1)] (pc' := 33) (L' := [some (.inr (11, 0)), some (.inl (.int a1))]) (st' := [.inl (.int (Int32.ofInt (-1)))]) (S' := S) ok_X11_apart.1 (by decide +kernel) rfl rfl ?_
    cases h
    exact ax_Treti (by decide +kernel) rfl rfl
  · rw [if_pos c5] at h
    refine ax_Tgo [.iload_n 1] (pc' := 8) (L' := [some (.inr (11, 0)), some (.inl (.int a1))]) (st' := [.inl (.int a1)]) (S' := S) ok_X11_apart.1 (by decide +kernel) rfl rfl ?_
    refine ax_Tif_lt (off := 24) (tgt := 32) (by decide +kernel) (by decide) (fun c6 => ?_) (fun c6 => ?_)
    · rw [if_pos c6] at h
      refine ax_Tgo [.iconst (-1)] (pc' := 33) (L' := [some (.inr (11, 0)), some (.inl (.int a1))]) (st' := [.inl (.int (Int32.ofInt (-1)))]) (S' := S) ok_X11_apart.1 (by decide +kernel) rfl rfl ?_
      cases h
      exact ax_Treti (by decide +kernel) rfl rfl
    · rw [if_neg c6] at h
      refine ax_Tgo [.iload_n 1, .iconst 1, .aload_n 0, .getfield 93] (pc' := 17) (L' := [some (.inr (11, 0)), some (.inl (.int a1))]) (st' := [.inr (4, (ax_fx S 11 0 14)), .inl (.int (1 : Int32)), .inl (.int a1)]) (S' := S) ok_X11_apart.1 (by decide +kernel) rfl rfl ?_
      refine ax_TVi (d := 2) (ka := 4) (i := (ax_fx S 11 0 14)) [] [.inl (.int (1 : Int32)), .inl (.int a1)] lk_X11_147 (by decide +kernel) rfl (by decide) rfl (Nat.le_of_ble_eq_true rfl) (Nat.le_of_ble_eq_true rfl) ((t_X4_callers rfl).up (by decide)) ?_
      refine ax_Tgo [.ishl] (pc' := 21) (L' := [some (.inr (11, 0)), some (.inl (.int a1))]) (st' := [.inl (.int ((1 : Int32) <<< ((ax_fi S 4 (ax_fx S 11 0 14) 5) &&& 31))), .inl (.int a1)]) (S' := S) ok_X11_apart.1 (by decide +kernel) rfl rfl ?_
      refine ax_Tic_ge (off := 11) (tgt := 32) (by decide +kernel) (by decide) (fun c10 => ?_) (fun c10 => ?_)
      · rw [if_pos c10] at h
        refine ax_Tgo [.iconst (-1)] (pc' := 33) (L' := [some (.inr (11, 0)), some (.inl (.int a1))]) (st' := [.inl (.int (Int32.ofInt (-1)))]) (S' := S) ok_X11_apart.1 (by decide +kernel) rfl rfl ?_
        cases h
        exact ax_Treti (by decide +kernel) rfl rfl
      · rw [if_neg c10] at h
        refine ax_Tgo [.iload_n 1] (pc' := 25) (L' := [some (.inr (11, 0)), some (.inl (.int a1))]) (st' := [.inl (.int a1)]) (S' := S) ok_X11_apart.1 (by decide +kernel) rfl rfl ?_
        obtain ⟨r14, hq12, h⟩ := ax_bd_e h
        refine ax_TSi (d := 2) [.inl (.int a1)] [] lk_X11_334 (by decide +kernel) rfl rfl (Nat.le_of_ble_eq_true rfl) (Nat.le_of_ble_eq_true rfl) ((t_J6_bitCount_0f7a4 hq12).up (by decide)) ?_
        refine ax_Tgo [.iconst 2] (pc' := 29) (L' := [some (.inr (11, 0)), some (.inl (.int a1))]) (st' := [.inl (.int (2 : Int32)), .inl (.int r14)]) (S' := S) ok_X11_apart.1 (by decide +kernel) rfl rfl ?_
        refine ax_Tic_ge (off := 5) (tgt := 34) (by decide +kernel) (by decide) (fun c15 => ?_) (fun c15 => ?_)
        · rw [if_pos c15] at h
          refine ax_Tgo [.aload_n 0, .iload_n 1, .bipush 10] (pc' := 38) (L' := [some (.inr (11, 0)), some (.inl (.int a1))]) (st' := [.inl (.int (10 : Int32)), .inl (.int a1), .inr (11, 0)]) (S' := S) ok_X11_apart.1 (by decide +kernel) rfl rfl ?_
          obtain ⟨r19, hq17, h⟩ := ax_bd_e h
          refine ax_TVi (d := 2) (ka := 11) (i := 0) [.inl (.int a1), .inl (.int (10 : Int32))] [] lk_X11_339 (by decide +kernel) rfl (by decide) rfl (Nat.le_of_ble_eq_true rfl) (Nat.le_of_ble_eq_true rfl) ((t_X11_allUnlike hq17).up (by decide)) ?_
          refine ax_Tif_eq (off := 5) (tgt := 46) (by decide +kernel) (by decide) (fun c20 => ?_) (fun c20 => ?_)
          · rw [if_pos c20] at h
            refine ax_Tgo [.aload_n 0, .iload_n 1, .iconst 1] (pc' := 49) (L' := [some (.inr (11, 0)), some (.inl (.int a1))]) (st' := [.inl (.int (1 : Int32)), .inl (.int a1), .inr (11, 0)]) (S' := S) ok_X11_apart.1 (by decide +kernel) rfl rfl ?_
            obtain ⟨r24, hq22, h⟩ := ax_bd_e h
            refine ax_TVi (d := 2) (ka := 11) (i := 0) [.inl (.int a1), .inl (.int (1 : Int32))] [] lk_X11_339 (by decide +kernel) rfl (by decide) rfl (Nat.le_of_ble_eq_true rfl) (Nat.le_of_ble_eq_true rfl) ((t_X11_allUnlike hq22).up (by decide)) ?_
            refine ax_Tif_eq (off := 7) (tgt := 59) (by decide +kernel) (by decide) (fun c25 => ?_) (fun c25 => ?_)
            · rw [if_pos c25] at h
              refine ax_Tgo [.iconst (-1)] (pc' := 60) (L' := [some (.inr (11, 0)), some (.inl (.int a1))]) (st' := [.inl (.int (Int32.ofInt (-1)))]) (S' := S) ok_X11_apart.1 (by decide +kernel) rfl rfl ?_
              cases h
              exact ax_Treti (by decide +kernel) rfl rfl
            · rw [if_neg c25] at h
              refine ax_Tgo [.iconst 2] (pc' := 56) (L' := [some (.inr (11, 0)), some (.inl (.int a1))]) (st' := [.inl (.int (2 : Int32))]) (S' := S) ok_X11_apart.1 (by decide +kernel) rfl rfl ?_
              refine ax_Tgoto (off := 4) (tgt := 60) (by decide +kernel) (by decide) ?_
              cases h
              exact ax_Treti (by decide +kernel) rfl rfl
          · rw [if_neg c20] at h
            refine ax_Tgo [.iconst 1] (pc' := 45) (L' := [some (.inr (11, 0)), some (.inl (.int a1))]) (st' := [.inl (.int (1 : Int32))]) (S' := S) ok_X11_apart.1 (by decide +kernel) rfl rfl ?_
            cases h
            exact ax_Treti (by decide +kernel) rfl rfl
        · rw [if_neg c15] at h
          refine ax_Tgo [.iconst (-1)] (pc' := 33) (L' := [some (.inr (11, 0)), some (.inl (.int a1))]) (st' := [.inl (.int (Int32.ofInt (-1)))]) (S' := S) ok_X11_apart.1 (by decide +kernel) rfl rfl ?_
          cases h
          exact ax_Treti (by decide +kernel) rfl rfl
def f_X11_outOfBeats (a0 : Int32) (S : AS) : Option (Int32) := (if a0 < (1 : Int32) then some (1 : Int32) else (if a0 ≤ (60 : Int32) then some (0 : Int32) else some (1 : Int32)))
set_option maxRecDepth 100000 in
theorem t_X11_outOfBeats {l : Launch} {a0 : Int32} {S : AS} {r : Int32} (h : f_X11_outOfBeats a0 S = some r) : ax_M l 0 ma_X11_outOfBeats [.inl (.int a0)] S (some (.inl (.int r))) S := by
  unfold f_X11_outOfBeats at h
  show ax_T l 0 ma_X11_outOfBeats (0, [some (.inl (.int a0))], [], S) (some (.inl (.int r))) S
  refine ax_Tgo [.iload_n 0, .iconst 1] (pc' := 2) (L' := [some (.inl (.int a0))]) (st' := [.inl (.int (1 : Int32)), .inl (.int a0)]) (S' := S) ok_X11_outOfBeats.1 (by decide +kernel) rfl rfl ?_
  refine ax_Tic_lt (off := 9) (tgt := 11) (by decide +kernel) (by decide) (fun c1 => ?_) (fun c1 => ?_)
  · rw [if_pos c1] at h
    refine ax_Tgo [.iconst 1] (pc' := 12) (L' := [some (.inl (.int a0))]) (st' := [.inl (.int (1 : Int32))]) (S' := S) ok_X11_outOfBeats.1 (by decide +kernel) rfl rfl ?_
    refine ax_Tgoto (off := 4) (tgt := 16) (by decide +kernel) (by decide) ?_
    cases h
    exact ax_Treti (by decide +kernel) rfl rfl
  · rw [if_neg c1] at h
    refine ax_Tgo [.iload_n 0, .bipush 60] (pc' := 8) (L' := [some (.inl (.int a0))]) (st' := [.inl (.int (60 : Int32)), .inl (.int a0)]) (S' := S) ok_X11_outOfBeats.1 (by decide +kernel) rfl rfl ?_
    refine ax_Tic_le (off := 7) (tgt := 15) (by decide +kernel) (by decide) (fun c2 => ?_) (fun c2 => ?_)
    · rw [if_pos c2] at h
      refine ax_Tgo [.iconst 0] (pc' := 16) (L' := [some (.inl (.int a0))]) (st' := [.inl (.int (0 : Int32))]) (S' := S) ok_X11_outOfBeats.1 (by decide +kernel) rfl rfl ?_
      cases h
      exact ax_Treti (by decide +kernel) rfl rfl
    · rw [if_neg c2] at h
      refine ax_Tgo [.iconst 1] (pc' := 12) (L' := [some (.inl (.int a0))]) (st' := [.inl (.int (1 : Int32))]) (S' := S) ok_X11_outOfBeats.1 (by decide +kernel) rfl rfl ?_
      refine ax_Tgoto (off := 4) (tgt := 16) (by decide +kernel) (by decide) ?_
      cases h
      exact ax_Treti (by decide +kernel) rfl rfl
def f_X6_beatsHeard (a1 : Int32) (a2 : Int32) (S : AS) : Option (Int32 × AS) := ax_bu (f_X6_beats a1 a2 (0 : Int32) (0 : Int32) (0 : Int32) (0 : Int32) S) (fun (r4 : Int32) (S1 : AS) => some (r4, S1))
set_option maxRecDepth 100000 in
theorem t_X6_beatsHeard {l : Launch} {a1 : Int32} {a2 : Int32} {S Z : AS} {r : Int32} (h : f_X6_beatsHeard a1 a2 S = some (r, Z)) : ax_M l 3 ma_X6_beatsHeard [.inr (6, 0), .inl (.int a1), .inl (.int a2)] S (some (.inl (.int r))) Z := by
  unfold f_X6_beatsHeard at h
  show ax_T l 3 ma_X6_beatsHeard (0, [some (.inr (6, 0)), some (.inl (.int a1)), some (.inl (.int a2))], [], S) (some (.inl (.int r))) Z
  refine ax_Tgo [.aload_n 0, .iload_n 1, .iload_n 2, .iconst 0, .iconst 0, .iconst 0, .iconst 0] (pc' := 7) (L' := [some (.inr (6, 0)), some (.inl (.int a1)), some (.inl (.int a2))]) (st' := [.inl (.int (0 : Int32)), .inl (.int (0 : Int32)), .inl (.int (0 : Int32)), .inl (.int (0 : Int32)), .inl (.int a2), .inl (.int a1), .inr (6, 0)]) (S' := S) ok_X6_beatsHeard.1 (by decide +kernel) rfl rfl ?_
  obtain ⟨r4, S1, hq2, h⟩ := ax_bu_e h
  refine ax_TVi (d := 2) (ka := 6) (i := 0) [.inl (.int a1), .inl (.int a2), .inl (.int (0 : Int32)), .inl (.int (0 : Int32)), .inl (.int (0 : Int32)), .inl (.int (0 : Int32))] [] lk_X6_42 (by decide +kernel) rfl (by decide) rfl (Nat.le_of_ble_eq_true rfl) (Nat.le_of_ble_eq_true rfl) ((t_X6_beats hq2).up (by decide)) ?_
  cases h
  exact ax_Treti (by decide +kernel) rfl rfl
def f_X3_fits_L2 (S : AS) : Nat → Int32 → Int32 → Int32 → Option (Int32)
  | 0, _, _, _ => none
  | n + 1, x1, x2, x3 => (if (ax_fi S 3 0 3) ≤ x3 then some (1 : Int32) else ax_gd (ax_in x3 10) ((if (ax_ai S 24 0 x3.toNatClampNeg) = x1 then ax_gd (ax_in x3 10) (ax_let (fun (x9 : Int32)  => ax_gd (ax_in x3 10) ((if x9 = (ax_ai S 26 0 x3.toNatClampNeg) then ax_let (x3 + (1 : Int32)) (fun (v13 : Int32) => f_X3_fits_L2 S n x1 x2 v13) else some (0 : Int32)))) (fun J10 => (if x2 < (ax_ai S 25 0 x3.toNatClampNeg) then J10 (0 : Int32) else J10 (1 : Int32)))) else ax_let (x3 + (1 : Int32)) (fun (v7 : Int32) => f_X3_fits_L2 S n x1 x2 v7))))
def f_X3_fits (a1 : Int32) (a2 : Int32) (S : AS) : Option (Int32) := f_X3_fits_L2 S ax_F a1 a2 (0 : Int32)
set_option maxRecDepth 100000 in
theorem t_X3_fits_L2 {l : Launch} {S : AS} : ∀ (n : Nat) (x1 : Int32) (x2 : Int32) (x3 : Int32) r, f_X3_fits_L2 S n x1 x2 x3  = some r → ax_T l 0 ma_X3_fits (2, [some (.inr (3, 0)), some (.inl (.int x1)), some (.inl (.int x2)), some (.inl (.int x3))], [], S) (some (.inl (.int r))) S := by
  intro n
  induction n with
  | zero =>
    intro x1 x2 x3  r h
    cases h
  | succ n ih =>
    intro x1 x2 x3  r h
    unfold f_X3_fits_L2 at h
    refine ax_Tgo [.iload_n 3, .aload_n 0, .getfield 20] (pc' := 7) (L' := [some (.inr (3, 0)), some (.inl (.int x1)), some (.inl (.int x2)), some (.inl (.int x3))]) (st' := [.inl (.int (ax_fi S 3 0 3)), .inl (.int x3)]) (S' := S) ok_X3_fits.1 (by decide +kernel) rfl rfl ?_
    refine ax_Tic_ge (off := 45) (tgt := 52) (by decide +kernel) (by decide) (fun c4 => ?_) (fun c4 => ?_)
    · rw [if_pos c4] at h
      refine ax_Tgo [.iconst 1] (pc' := 53) (L' := [some (.inr (3, 0)), some (.inl (.int x1)), some (.inl (.int x2)), some (.inl (.int x3))]) (st' := [.inl (.int (1 : Int32))]) (S' := S) ok_X3_fits.1 (by decide +kernel) rfl rfl ?_
      cases h
      exact ax_Treti (by decide +kernel) rfl rfl
    · rw [if_neg c4] at h
      refine ax_Tgo [.aload_n 0, .getfield 9, .iload_n 3] (pc' := 15) (L' := [some (.inr (3, 0)), some (.inl (.int x1)), some (.inl (.int x2)), some (.inl (.int x3))]) (st' := [.inl (.int x3), .inr (24, 0)]) (S' := S) ok_X3_fits.1 (by decide +kernel) rfl rfl ?_
      obtain ⟨g5, h⟩ := ax_gd_e h
      refine ax_Tali (n := 10) ok_X3_fits.1 (by decide +kernel) (by decide) rfl g5 ?_
      refine ax_Tgo [.iload_n 1] (pc' := 17) (L' := [some (.inr (3, 0)), some (.inl (.int x1)), some (.inl (.int x2)), some (.inl (.int x3))]) (st' := [.inl (.int x1), .inl (.int (ax_ai S 24 0 x3.toNatClampNeg))]) (S' := S) ok_X3_fits.1 (by decide +kernel) rfl rfl ?_
      refine ax_Tic_ne (off := 29) (tgt := 46) (by decide +kernel) (by decide) (fun c6 => ?_) (fun c6 => ?_)
      · rw [if_neg c6] at h
        refine ax_Tgo [.iinc 3 1] (pc' := 49) (L' := [some (.inr (3, 0)), some (.inl (.int x1)), some (.inl (.int x2)), some (.inl (.int (x3 + (1 : Int32))))]) (st' := []) (S' := S) ok_X3_fits.1 (by decide +kernel) rfl rfl ?_
        obtain ⟨v7, ev7, h⟩ := ax_let_e h
        rw [ev7]
        refine ax_Tgoto (off := (-47)) (tgt := 2) (by decide +kernel) (by decide) ?_
        exact ih x1 x2 v7 _ h
      · rw [if_pos c6] at h
        refine ax_Tgo [.iload_n 2, .aload_n 0, .getfield 13, .iload_n 3] (pc' := 26) (L' := [some (.inr (3, 0)), some (.inl (.int x1)), some (.inl (.int x2)), some (.inl (.int x3))]) (st' := [.inl (.int x3), .inr (25, 0), .inl (.int x2)]) (S' := S) ok_X3_fits.1 (by decide +kernel) rfl rfl ?_
        obtain ⟨g8, h⟩ := ax_gd_e h
        refine ax_Tali (n := 10) ok_X3_fits.1 (by decide +kernel) (by decide) rfl g8 ?_
        obtain ⟨J10, eJ10, h⟩ := ax_let_e h
        have hJ10 : ∀ (x9 : Int32)  r, J10 x9  = some r → ax_T l 0 ma_X3_fits (35, [some (.inr (3, 0)), some (.inl (.int x1)), some (.inl (.int x2)), some (.inl (.int x3))], [.inl (.int x9)], S) (some (.inl (.int r))) S := by
          intro x9  r h
          rw [← eJ10] at h
          try dsimp only at h
          refine ax_Tgo [.aload_n 0, .getfield 16, .iload_n 3] (pc' := 40) (L' := [some (.inr (3, 0)), some (.inl (.int x1)), some (.inl (.int x2)), some (.inl (.int x3))]) (st' := [.inl (.int x3), .inr (26, 0), .inl (.int x9)]) (S' := S) ok_X3_fits.1 (by decide +kernel) rfl rfl ?_
          obtain ⟨g11, h⟩ := ax_gd_e h
          refine ax_Talb (n := 10) ok_X3_fits.1 (by decide +kernel) (by decide) rfl g11 ?_
          refine ax_Tic_eq (off := 5) (tgt := 46) (by decide +kernel) (by decide) (fun c12 => ?_) (fun c12 => ?_)
          · rw [if_pos c12] at h
            refine ax_Tgo [.iinc 3 1] (pc' := 49) (L' := [some (.inr (3, 0)), some (.inl (.int x1)), some (.inl (.int x2)), some (.inl (.int (x3 + (1 : Int32))))]) (st' := []) (S' := S) ok_X3_fits.1 (by decide +kernel) rfl rfl ?_
            obtain ⟨v13, ev13, h⟩ := ax_let_e h
            rw [ev13]
            refine ax_Tgoto (off := (-47)) (tgt := 2) (by decide +kernel) (by decide) ?_
            exact ih x1 x2 v13 _ h
          · rw [if_neg c12] at h
            refine ax_Tgo [.iconst 0] (pc' := 45) (L' := [some (.inr (3, 0)), some (.inl (.int x1)), some (.inl (.int x2)), some (.inl (.int x3))]) (st' := [.inl (.int (0 : Int32))]) (S' := S) ok_X3_fits.1 (by decide +kernel) rfl rfl ?_
            cases h
            exact ax_Treti (by decide +kernel) rfl rfl
        refine ax_Tic_lt (off := 7) (tgt := 34) (by decide +kernel) (by decide) (fun c14 => ?_) (fun c14 => ?_)
        · rw [if_pos c14] at h
          refine ax_Tgo [.iconst 0] (pc' := 35) (L' := [some (.inr (3, 0)), some (.inl (.int x1)), some (.inl (.int x2)), some (.inl (.int x3))]) (st' := [.inl (.int (0 : Int32))]) (S' := S) ok_X3_fits.1 (by decide +kernel) rfl rfl ?_
          exact hJ10 (0 : Int32) _ h
        · rw [if_neg c14] at h
          refine ax_Tgo [.iconst 1] (pc' := 31) (L' := [some (.inr (3, 0)), some (.inl (.int x1)), some (.inl (.int x2)), some (.inl (.int x3))]) (st' := [.inl (.int (1 : Int32))]) (S' := S) ok_X3_fits.1 (by decide +kernel) rfl rfl ?_
          refine ax_Tgoto (off := 4) (tgt := 35) (by decide +kernel) (by decide) ?_
          exact hJ10 (1 : Int32) _ h
set_option maxRecDepth 100000 in
theorem t_X3_fits {l : Launch} {a1 : Int32} {a2 : Int32} {S : AS} {r : Int32} (h : f_X3_fits a1 a2 S = some r) : ax_M l 0 ma_X3_fits [.inr (3, 0), .inl (.int a1), .inl (.int a2)] S (some (.inl (.int r))) S := by
  unfold f_X3_fits at h
  show ax_T l 0 ma_X3_fits (0, [some (.inr (3, 0)), some (.inl (.int a1)), some (.inl (.int a2)), none], [], S) (some (.inl (.int r))) S
  refine ax_Tgo [.iconst 0, .istore_n 3] (pc' := 2) (L' := [some (.inr (3, 0)), some (.inl (.int a1)), some (.inl (.int a2)), some (.inl (.int (0 : Int32)))]) (st' := []) (S' := S) ok_X3_fits.1 (by decide +kernel) rfl rfl ?_
  refine t_X3_fits_L2 _ a1 a2 (0 : Int32) _ h
def f_X11_fittingHards_L4 (K41 : Int32 → AS → Option (Int32 × AS)) : Nat → Int32 → Int32 → Int32 → AS → Option (Int32 × AS)
  | 0, _, _, _, _ => none
  | n + 1, x1, x2, x3, S5 => (if (5 : Int32) < x3 then K41 x2 S5 else ax_bu (f_X6_beatsHeard x1 x3 S5) (fun (r10 : Int32) (S7 : AS) => (f_X3_fits x1 r10 S7).bind (fun (r14 : Int32) => (if r14 = (0 : Int32) then ax_let (x3 + (1 : Int32)) (fun (v16 : Int32) => f_X11_fittingHards_L4 K41 n x1 x2 v16 S7) else ax_let (x2 ||| ((1 : Int32) <<< (x3 &&& 31))) (fun (v17 : Int32) => ax_let (x3 + (1 : Int32)) (fun (v18 : Int32) => f_X11_fittingHards_L4 K41 n x1 v17 v18 S7))))))
def f_X11_fittingHards (a1 : Int32) (S : AS) : Option (Int32 × AS) := f_X11_fittingHards_L4 (fun (x4 : Int32) (S19 : AS) => some (x4, S19)) ax_F a1 (0 : Int32) (0 : Int32) S
set_option maxRecDepth 100000 in
theorem t_X11_fittingHards_L4 {l : Launch} {K41 : Int32 → AS → Option (Int32 × AS)} (hK41 : ∀ (x4 : Int32) (S : AS) r Z, K41 x4 S = some (r, Z) → ax_T l 4 ma_X11_fittingHards (41, [none, none, some (.inl (.int x4)), none], [], S) (some (.inl (.int r))) Z) : ∀ (n : Nat) (x1 : Int32) (x2 : Int32) (x3 : Int32) (S5 : AS) r Z, f_X11_fittingHards_L4 K41 n x1 x2 x3 S5 = some (r, Z) → ax_T l 4 ma_X11_fittingHards (4, [some (.inr (11, 0)), some (.inl (.int x1)), some (.inl (.int x2)), some (.inl (.int x3))], [], S5) (some (.inl (.int r))) Z := by
  intro n
  induction n with
  | zero =>
    intro x1 x2 x3 S5 r Z h
    cases h
  | succ n ih =>
    intro x1 x2 x3 S5 r Z h
    unfold f_X11_fittingHards_L4 at h
    refine ax_Tgo [.iload_n 3, .iconst 5] (pc' := 6) (L' := [some (.inr (11, 0)), some (.inl (.int x1)), some (.inl (.int x2)), some (.inl (.int x3))]) (st' := [.inl (.int (5 : Int32)), .inl (.int x3)]) (S' := S5) ok_X11_fittingHards.1 (by decide +kernel) rfl rfl ?_
    refine ax_Tic_gt (off := 35) (tgt := 41) (by decide +kernel) (by decide) (fun c6 => ?_) (fun c6 => ?_)
    · rw [if_pos c6] at h
      refine ax_Tdrop [false, false, true, false] (L' := [none, none, some (.inl (.int x2)), none]) rfl ?_
      exact hK41 x2 S5 _ _ h
    · rw [if_neg c6] at h
      refine ax_Tgo [.aload_n 0, .getfield 55, .iload_n 1, .aload_n 0, .getfield 31, .iload_n 1, .iload_n 3] (pc' := 20) (L' := [some (.inr (11, 0)), some (.inl (.int x1)), some (.inl (.int x2)), some (.inl (.int x3))]) (st' := [.inl (.int x3), .inl (.int x1), .inr (6, 0), .inl (.int x1), .inr (3, 0)]) (S' := S5) ok_X11_fittingHards.1 (by decide +kernel) rfl rfl ?_
      obtain ⟨r10, S7, hq8, h⟩ := ax_bu_e h
      refine ax_TVi (d := 3) (ka := 6) (i := 0) [.inl (.int x1), .inl (.int x3)] [.inl (.int x1), .inr (3, 0)] lk_X11_323 (by decide +kernel) rfl (by decide) rfl (Nat.le_of_ble_eq_true rfl) (Nat.le_of_ble_eq_true rfl) ((t_X6_beatsHeard hq8).up (by decide)) ?_
      obtain ⟨r14, hq12, h⟩ := ax_bd_e h
      refine ax_TVi (d := 3) (ka := 3) (i := 0) [.inl (.int x1), .inl (.int r10)] [] lk_X11_326 (by decide +kernel) rfl (by decide) rfl (Nat.le_of_ble_eq_true rfl) (Nat.le_of_ble_eq_true rfl) ((t_X3_fits hq12).up (by decide)) ?_
      refine ax_Tif_eq (off := 9) (tgt := 35) (by decide +kernel) (by decide) (fun c15 => ?_) (fun c15 => ?_)
      · rw [if_pos c15] at h
        refine ax_Tgo [.iinc 3 1] (pc' := 38) (L' := [some (.inr (11, 0)), some (.inl (.int x1)), some (.inl (.int x2)), some (.inl (.int (x3 + (1 : Int32))))]) (st' := []) (S' := S7) ok_X11_fittingHards.1 (by decide +kernel) rfl rfl ?_
        obtain ⟨v16, ev16, h⟩ := ax_let_e h
        rw [ev16]
        refine ax_Tgoto (off := (-34)) (tgt := 4) (by decide +kernel) (by decide) ?_
        exact ih x1 x2 v16 S7 _ _ h
      · rw [if_neg c15] at h
        refine ax_Tgo [.iload_n 2, .iconst 1, .iload_n 3, .ishl, .ior, .istore_n 2] (pc' := 35) (L' := [some (.inr (11, 0)), some (.inl (.int x1)), some (.inl (.int (x2 ||| ((1 : Int32) <<< (x3 &&& 31))))), some (.inl (.int x3))]) (st' := []) (S' := S7) ok_X11_fittingHards.1 (by decide +kernel) rfl rfl ?_
        obtain ⟨v17, ev17, h⟩ := ax_let_e h
        rw [ev17]
        refine ax_Tgo [.iinc 3 1] (pc' := 38) (L' := [some (.inr (11, 0)), some (.inl (.int x1)), some (.inl (.int v17)), some (.inl (.int (x3 + (1 : Int32))))]) (st' := []) (S' := S7) ok_X11_fittingHards.1 (by decide +kernel) rfl rfl ?_
        obtain ⟨v18, ev18, h⟩ := ax_let_e h
        rw [ev18]
        refine ax_Tgoto (off := (-34)) (tgt := 4) (by decide +kernel) (by decide) ?_
        exact ih x1 v17 v18 S7 _ _ h
set_option maxRecDepth 100000 in
theorem t_X11_fittingHards {l : Launch} {a1 : Int32} {S Z : AS} {r : Int32} (h : f_X11_fittingHards a1 S = some (r, Z)) : ax_M l 4 ma_X11_fittingHards [.inr (11, 0), .inl (.int a1)] S (some (.inl (.int r))) Z := by
  unfold f_X11_fittingHards at h
  show ax_T l 4 ma_X11_fittingHards (0, [some (.inr (11, 0)), some (.inl (.int a1)), none, none], [], S) (some (.inl (.int r))) Z
  refine ax_Tgo [.iconst 0, .istore_n 2, .iconst 0, .istore_n 3] (pc' := 4) (L' := [some (.inr (11, 0)), some (.inl (.int a1)), some (.inl (.int (0 : Int32))), some (.inl (.int (0 : Int32)))]) (st' := []) (S' := S) ok_X11_fittingHards.1 (by decide +kernel) rfl rfl ?_
  refine t_X11_fittingHards_L4 ?_ _ a1 (0 : Int32) (0 : Int32) S _ _ h
  · intro x4 S19 r Z h
    refine ax_Tgo [.iload_n 2] (pc' := 42) (L' := [none, none, some (.inl (.int x4)), none]) (st' := [.inl (.int x4)]) (S' := S19) ok_X11_fittingHards.1 (by decide +kernel) rfl rfl ?_
    cases h
    exact ax_Treti (by decide +kernel) rfl rfl
def f_J9_abs_0f7a4 (a0 : Int32) (S : AS) : Option (Int32) := (if (0 : Int32) ≤ a0 then some a0 else some (-a0))
set_option maxRecDepth 100000 in
theorem t_J9_abs_0f7a4 {l : Launch} {a0 : Int32} {S : AS} {r : Int32} (h : f_J9_abs_0f7a4 a0 S = some r) : ax_M l 0 ma_J9_abs_0f7a4 [.inl (.int a0)] S (some (.inl (.int r))) S := by
  unfold f_J9_abs_0f7a4 at h
  show ax_T l 0 ma_J9_abs_0f7a4 (0, [some (.inl (.int a0))], [], S) (some (.inl (.int r))) S
  refine ax_Tgo [.iload_n 0] (pc' := 1) (L' := [some (.inl (.int a0))]) (st' := [.inl (.int a0)]) (S' := S) ok_J9_abs_0f7a4.1 (by decide +kernel) rfl rfl ?_
  refine ax_Tif_ge (off := 8) (tgt := 9) (by decide +kernel) (by decide) (fun c1 => ?_) (fun c1 => ?_)
  · rw [if_pos c1] at h
    refine ax_Tgo [.iload_n 0] (pc' := 10) (L' := [some (.inl (.int a0))]) (st' := [.inl (.int a0)]) (S' := S) ok_J9_abs_0f7a4.1 (by decide +kernel) rfl rfl ?_
    cases h
    exact ax_Treti (by decide +kernel) rfl rfl
  · rw [if_neg c1] at h
    refine ax_Tgo [.iload_n 0, .ineg] (pc' := 6) (L' := [some (.inl (.int a0))]) (st' := [.inl (.int (-a0))]) (S' := S) ok_J9_abs_0f7a4.1 (by decide +kernel) rfl rfl ?_
    refine ax_Tgoto (off := 4) (tgt := 10) (by decide +kernel) (by decide) ?_
    cases h
    exact ax_Treti (by decide +kernel) rfl rfl
def f_X11_howFarApart_L6 (K51 : Int32 → AS → Option (Int32 × AS)) : Nat → Int32 → Int32 → Int32 → Int32 → Int32 → AS → Option (Int32 × AS)
  | 0, _, _, _, _, _, _ => none
  | n + 1, x1, x2, x3, x4, x5, S7 => (if (5 : Int32) < x5 then K51 x4 S7 else (if ((x2 >>> (x5 &&& 31)) &&& (1 : Int32)) = (0 : Int32) then ax_let (x5 + (1 : Int32)) (fun (v10 : Int32) => f_X11_howFarApart_L6 K51 n x1 x2 x3 x4 v10 S7) else ax_bu (f_X6_beatsHeard x1 x5 S7) (fun (r14 : Int32) (S11 : AS) => (if r14 < x3 then ax_let (x4 + (Int32.ofInt (-1))) (fun (v16 : Int32) => ax_let (x5 + (1 : Int32)) (fun (v17 : Int32) => f_X11_howFarApart_L6 K51 n x1 x2 x3 v16 v17 S11)) else ax_let (x4 + (1 : Int32)) (fun (v18 : Int32) => ax_let (x5 + (1 : Int32)) (fun (v19 : Int32) => f_X11_howFarApart_L6 K51 n x1 x2 x3 v18 v19 S11))))))
def f_X11_howFarApart (a1 : Int32) (a2 : Int32) (a3 : Int32) (S : AS) : Option (Int32 × AS) := f_X11_howFarApart_L6 (fun (x6 : Int32) (S20 : AS) => (f_J9_abs_0f7a4 x6 S20).bind (fun (r24 : Int32) => some (r24, S20))) ax_F a1 a2 a3 (0 : Int32) (0 : Int32) S
set_option maxRecDepth 100000 in
theorem t_X11_howFarApart_L6 {l : Launch} {K51 : Int32 → AS → Option (Int32 × AS)} (hK51 : ∀ (x6 : Int32) (S : AS) r Z, K51 x6 S = some (r, Z) → ax_T l 4 ma_X11_howFarApart (51, [none, none, none, none, some (.inl (.int x6)), none], [], S) (some (.inl (.int r))) Z) : ∀ (n : Nat) (x1 : Int32) (x2 : Int32) (x3 : Int32) (x4 : Int32) (x5 : Int32) (S7 : AS) r Z, f_X11_howFarApart_L6 K51 n x1 x2 x3 x4 x5 S7 = some (r, Z) → ax_T l 4 ma_X11_howFarApart (6, [some (.inr (11, 0)), some (.inl (.int x1)), some (.inl (.int x2)), some (.inl (.int x3)), some (.inl (.int x4)), some (.inl (.int x5))], [], S7) (some (.inl (.int r))) Z := by
  intro n
  induction n with
  | zero =>
    intro x1 x2 x3 x4 x5 S7 r Z h
    cases h
  | succ n ih =>
    intro x1 x2 x3 x4 x5 S7 r Z h
    unfold f_X11_howFarApart_L6 at h
    refine ax_Tgo [.iload 5, .iconst 5] (pc' := 9) (L' := [some (.inr (11, 0)), some (.inl (.int x1)), some (.inl (.int x2)), some (.inl (.int x3)), some (.inl (.int x4)), some (.inl (.int x5))]) (st' := [.inl (.int (5 : Int32)), .inl (.int x5)]) (S' := S7) ok_X11_howFarApart.1 (by decide +kernel) rfl rfl ?_
    refine ax_Tic_gt (off := 42) (tgt := 51) (by decide +kernel) (by decide) (fun c8 => ?_) (fun c8 => ?_)
    · rw [if_pos c8] at h
      refine ax_Tdrop [false, false, false, false, true, false] (L' := [none, none, none, none, some (.inl (.int x4)), none]) rfl ?_
      exact hK51 x4 S7 _ _ h
    · rw [if_neg c8] at h
      refine ax_Tgo [.iload_n 2, .iload 5, .ishr, .iconst 1, .iand] (pc' := 18) (L' := [some (.inr (11, 0)), some (.inl (.int x1)), some (.inl (.int x2)), some (.inl (.int x3)), some (.inl (.int x4)), some (.inl (.int x5))]) (st' := [.inl (.int ((x2 >>> (x5 &&& 31)) &&& (1 : Int32)))]) (S' := S7) ok_X11_howFarApart.1 (by decide +kernel) rfl rfl ?_
      refine ax_Tif_eq (off := 27) (tgt := 45) (by decide +kernel) (by decide) (fun c9 => ?_) (fun c9 => ?_)
      · rw [if_pos c9] at h
        refine ax_Tgo [.iinc 5 1] (pc' := 48) (L' := [some (.inr (11, 0)), some (.inl (.int x1)), some (.inl (.int x2)), some (.inl (.int x3)), some (.inl (.int x4)), some (.inl (.int (x5 + (1 : Int32))))]) (st' := []) (S' := S7) ok_X11_howFarApart.1 (by decide +kernel) rfl rfl ?_
        obtain ⟨v10, ev10, h⟩ := ax_let_e h
        rw [ev10]
        refine ax_Tgoto (off := (-42)) (tgt := 6) (by decide +kernel) (by decide) ?_
        exact ih x1 x2 x3 x4 v10 S7 _ _ h
      · rw [if_neg c9] at h
        refine ax_Tgo [.iload 4, .aload_n 0, .getfield 31, .iload_n 1, .iload 5] (pc' := 30) (L' := [some (.inr (11, 0)), some (.inl (.int x1)), some (.inl (.int x2)), some (.inl (.int x3)), some (.inl (.int x4)), some (.inl (.int x5))]) (st' := [.inl (.int x5), .inl (.int x1), .inr (6, 0), .inl (.int x4)]) (S' := S7) ok_X11_howFarApart.1 (by decide +kernel) rfl rfl ?_
        obtain ⟨r14, S11, hq12, h⟩ := ax_bu_e h
        refine ax_TVi (d := 3) (ka := 6) (i := 0) [.inl (.int x1), .inl (.int x5)] [.inl (.int x4)] lk_X11_323 (by decide +kernel) rfl (by decide) rfl (Nat.le_of_ble_eq_true rfl) (Nat.le_of_ble_eq_true rfl) ((t_X6_beatsHeard hq12).up (by decide)) ?_
        refine ax_Tgo [.iload_n 3] (pc' := 34) (L' := [some (.inr (11, 0)), some (.inl (.int x1)), some (.inl (.int x2)), some (.inl (.int x3)), some (.inl (.int x4)), some (.inl (.int x5))]) (st' := [.inl (.int x3), .inl (.int r14), .inl (.int x4)]) (S' := S11) ok_X11_howFarApart.1 (by decide +kernel) rfl rfl ?_
        refine ax_Tic_lt (off := 7) (tgt := 41) (by decide +kernel) (by decide) (fun c15 => ?_) (fun c15 => ?_)
        · rw [if_pos c15] at h
          refine ax_Tgo [.iconst (-1), .iadd, .istore 4] (pc' := 45) (L' := [some (.inr (11, 0)), some (.inl (.int x1)), some (.inl (.int x2)), some (.inl (.int x3)), some (.inl (.int (x4 + (Int32.ofInt (-1))))), some (.inl (.int x5))]) (st' := []) (S' := S11) ok_X11_howFarApart.1 (by decide +kernel) rfl rfl ?_
          obtain ⟨v16, ev16, h⟩ := ax_let_e h
          rw [ev16]
          refine ax_Tgo [.iinc 5 1] (pc' := 48) (L' := [some (.inr (11, 0)), some (.inl (.int x1)), some (.inl (.int x2)), some (.inl (.int x3)), some (.inl (.int v16)), some (.inl (.int (x5 + (1 : Int32))))]) (st' := []) (S' := S11) ok_X11_howFarApart.1 (by decide +kernel) rfl rfl ?_
          obtain ⟨v17, ev17, h⟩ := ax_let_e h
          rw [ev17]
          refine ax_Tgoto (off := (-42)) (tgt := 6) (by decide +kernel) (by decide) ?_
          exact ih x1 x2 x3 v16 v17 S11 _ _ h
        · rw [if_neg c15] at h
          refine ax_Tgo [.iconst 1] (pc' := 38) (L' := [some (.inr (11, 0)), some (.inl (.int x1)), some (.inl (.int x2)), some (.inl (.int x3)), some (.inl (.int x4)), some (.inl (.int x5))]) (st' := [.inl (.int (1 : Int32)), .inl (.int x4)]) (S' := S11) ok_X11_howFarApart.1 (by decide +kernel) rfl rfl ?_
          refine ax_Tgoto (off := 4) (tgt := 42) (by decide +kernel) (by decide) ?_
          refine ax_Tgo [.iadd, .istore 4] (pc' := 45) (L' := [some (.inr (11, 0)), some (.inl (.int x1)), some (.inl (.int x2)), some (.inl (.int x3)), some (.inl (.int (x4 + (1 : Int32)))), some (.inl (.int x5))]) (st' := []) (S' := S11) ok_X11_howFarApart.1 (by decide +kernel) rfl rfl ?_
          obtain ⟨v18, ev18, h⟩ := ax_let_e h
          rw [ev18]
          refine ax_Tgo [.iinc 5 1] (pc' := 48) (L' := [some (.inr (11, 0)), some (.inl (.int x1)), some (.inl (.int x2)), some (.inl (.int x3)), some (.inl (.int v18)), some (.inl (.int (x5 + (1 : Int32))))]) (st' := []) (S' := S11) ok_X11_howFarApart.1 (by decide +kernel) rfl rfl ?_
          obtain ⟨v19, ev19, h⟩ := ax_let_e h
          rw [ev19]
          refine ax_Tgoto (off := (-42)) (tgt := 6) (by decide +kernel) (by decide) ?_
          exact ih x1 x2 x3 v18 v19 S11 _ _ h
set_option maxRecDepth 100000 in
theorem t_X11_howFarApart {l : Launch} {a1 : Int32} {a2 : Int32} {a3 : Int32} {S Z : AS} {r : Int32} (h : f_X11_howFarApart a1 a2 a3 S = some (r, Z)) : ax_M l 4 ma_X11_howFarApart [.inr (11, 0), .inl (.int a1), .inl (.int a2), .inl (.int a3)] S (some (.inl (.int r))) Z := by
  unfold f_X11_howFarApart at h
  show ax_T l 4 ma_X11_howFarApart (0, [some (.inr (11, 0)), some (.inl (.int a1)), some (.inl (.int a2)), some (.inl (.int a3)), none, none], [], S) (some (.inl (.int r))) Z
  refine ax_Tgo [.iconst 0, .istore 4, .iconst 0, .istore 5] (pc' := 6) (L' := [some (.inr (11, 0)), some (.inl (.int a1)), some (.inl (.int a2)), some (.inl (.int a3)), some (.inl (.int (0 : Int32))), some (.inl (.int (0 : Int32)))]) (st' := []) (S' := S) ok_X11_howFarApart.1 (by decide +kernel) rfl rfl ?_
  refine t_X11_howFarApart_L6 ?_ _ a1 a2 a3 (0 : Int32) (0 : Int32) S _ _ h
  · intro x6 S20 r Z h
    refine ax_Tgo [.iload 4] (pc' := 53) (L' := [none, none, none, none, some (.inl (.int x6)), none]) (st' := [.inl (.int x6)]) (S' := S20) ok_X11_howFarApart.1 (by decide +kernel) rfl rfl ?_
    obtain ⟨r24, hq22, h⟩ := ax_bd_e h
    refine ax_TSi (d := 3) [.inl (.int x6)] [] lk_X11_329 (by decide +kernel) rfl rfl (Nat.le_of_ble_eq_true rfl) (Nat.le_of_ble_eq_true rfl) ((t_J9_abs_0f7a4 hq22).up (by decide)) ?_
    cases h
    exact ax_Treti (by decide +kernel) rfl rfl
def f_X11_ask_L24 (K78 : Int32 → AS → Option (Int32 × AS)) : Nat → Int32 → Int32 → Int32 → Int32 → AS → Option (Int32 × AS)
  | 0, _, _, _, _, _ => none
  | n + 1, x11, x12, x13, x14, S16 => (if (ax_fi S16 4 (ax_fx S16 11 0 14) 5) ≤ x14 then K78 x12 S16 else ax_bu (f_X11_fittingHards x14 S16) (fun (r24 : Int32) (S21 : AS) => ax_bu (f_X11_howFarApart x14 r24 x11 S21) (fun (r28 : Int32) (S25 : AS) => (if r24 = (0 : Int32) then ax_let (x14 + (1 : Int32)) (fun (v30 : Int32) => f_X11_ask_L24 K78 n x11 x12 x13 v30 S25) else (if x13 ≤ r28 then ax_let (x14 + (1 : Int32)) (fun (v32 : Int32) => f_X11_ask_L24 K78 n x11 x12 x13 v32 S25) else ax_let (x14 + (1 : Int32)) (fun (v33 : Int32) => f_X11_ask_L24 K78 n x11 x14 r28 v33 S25))))))
def f_X11_ask (a1 : Int32) (S : AS) : Option (Int32 × AS) := (f_X11_noHouse S).bind (fun (r4 : Int32) => (if r4 = (0 : Int32) then (f_X11_outOfBeats a1 S).bind (fun (r9 : Int32) => (if r9 = (0 : Int32) then f_X11_ask_L24 (fun (x15 : Int32) (S34 : AS) => some (x15, S34)) ax_F a1 (Int32.ofInt (-1)) (7 : Int32) (0 : Int32) S else some ((Int32.ofInt (-1)), S))) else some ((Int32.ofInt (-1)), S)))
set_option maxRecDepth 100000 in
theorem t_X11_ask_L24 {l : Launch} {K78 : Int32 → AS → Option (Int32 × AS)} (hK78 : ∀ (x15 : Int32) (S : AS) r Z, K78 x15 S = some (r, Z) → ax_T l 5 ma_X11_ask (78, [none, none, some (.inl (.int x15)), none, none, none, none], [], S) (some (.inl (.int r))) Z) : ∀ (n : Nat) (x11 : Int32) (x12 : Int32) (x13 : Int32) (x14 : Int32) (S16 : AS) r Z, f_X11_ask_L24 K78 n x11 x12 x13 x14 S16 = some (r, Z) → ax_T l 5 ma_X11_ask (24, [some (.inr (11, 0)), some (.inl (.int x11)), some (.inl (.int x12)), some (.inl (.int x13)), some (.inl (.int x14)), none, none], [], S16) (some (.inl (.int r))) Z := by
  intro n
  induction n with
  | zero =>
    intro x11 x12 x13 x14 S16 r Z h
    cases h
  | succ n ih =>
    intro x11 x12 x13 x14 S16 r Z h
    unfold f_X11_ask_L24 at h
    refine ax_Tgo [.iload 4, .aload_n 0, .getfield 93] (pc' := 30) (L' := [some (.inr (11, 0)), some (.inl (.int x11)), some (.inl (.int x12)), some (.inl (.int x13)), some (.inl (.int x14)), none, none]) (st' := [.inr (4, (ax_fx S16 11 0 14)), .inl (.int x14)]) (S' := S16) ok_X11_ask.1 (by decide +kernel) rfl rfl ?_
    refine ax_TVi (d := 4) (ka := 4) (i := (ax_fx S16 11 0 14)) [] [.inl (.int x14)] lk_X11_147 (by decide +kernel) rfl (by decide) rfl (Nat.le_of_ble_eq_true rfl) (Nat.le_of_ble_eq_true rfl) ((t_X4_callers rfl).up (by decide)) ?_
    refine ax_Tic_ge (off := 45) (tgt := 78) (by decide +kernel) (by decide) (fun c20 => ?_) (fun c20 => ?_)
    · rw [if_pos c20] at h
      refine ax_Tdrop [false, false, true, false, false, true, true] (L' := [none, none, some (.inl (.int x12)), none, none, none, none]) rfl ?_
      exact hK78 x12 S16 _ _ h
    · rw [if_neg c20] at h
      refine ax_Tgo [.aload_n 0, .iload 4] (pc' := 39) (L' := [some (.inr (11, 0)), some (.inl (.int x11)), some (.inl (.int x12)), some (.inl (.int x13)), some (.inl (.int x14)), none, none]) (st' := [.inl (.int x14), .inr (11, 0)]) (S' := S16) ok_X11_ask.1 (by decide +kernel) rfl rfl ?_
      obtain ⟨r24, S21, hq22, h⟩ := ax_bu_e h
      refine ax_TVi (d := 4) (ka := 11) (i := 0) [.inl (.int x14)] [] lk_X11_316 (by decide +kernel) rfl (by decide) rfl (Nat.le_of_ble_eq_true rfl) (Nat.le_of_ble_eq_true rfl) ((t_X11_fittingHards hq22).up (by decide)) ?_
      refine ax_Tgo [.istore 5, .aload_n 0, .iload 4, .iload 5, .iload_n 1] (pc' := 50) (L' := [some (.inr (11, 0)), some (.inl (.int x11)), some (.inl (.int x12)), some (.inl (.int x13)), some (.inl (.int x14)), some (.inl (.int r24)), none]) (st' := [.inl (.int x11), .inl (.int r24), .inl (.int x14), .inr (11, 0)]) (S' := S21) ok_X11_ask.1 (by decide +kernel) rfl rfl ?_
      obtain ⟨r28, S25, hq26, h⟩ := ax_bu_e h
      refine ax_TVi (d := 4) (ka := 11) (i := 0) [.inl (.int x14), .inl (.int r24), .inl (.int x11)] [] lk_X11_319 (by decide +kernel) rfl (by decide) rfl (Nat.le_of_ble_eq_true rfl) (Nat.le_of_ble_eq_true rfl) ((t_X11_howFarApart hq26).up (by decide)) ?_
      refine ax_Tgo [.istore 6, .iload 5] (pc' := 57) (L' := [some (.inr (11, 0)), some (.inl (.int x11)), some (.inl (.int x12)), some (.inl (.int x13)), some (.inl (.int x14)), some (.inl (.int r24)), some (.inl (.int r28))]) (st' := [.inl (.int r24)]) (S' := S25) ok_X11_ask.1 (by decide +kernel) rfl rfl ?_
      refine ax_Tif_eq (off := 15) (tgt := 72) (by decide +kernel) (by decide) (fun c29 => ?_) (fun c29 => ?_)
      · rw [if_pos c29] at h
        refine ax_Tgo [.iinc 4 1] (pc' := 75) (L' := [some (.inr (11, 0)), some (.inl (.int x11)), some (.inl (.int x12)), some (.inl (.int x13)), some (.inl (.int (x14 + (1 : Int32)))), some (.inl (.int r24)), some (.inl (.int r28))]) (st' := []) (S' := S25) ok_X11_ask.1 (by decide +kernel) rfl rfl ?_
        obtain ⟨v30, ev30, h⟩ := ax_let_e h
        rw [ev30]
        refine ax_Tgoto (off := (-51)) (tgt := 24) (by decide +kernel) (by decide) ?_
        refine ax_Tdrop [true, true, true, true, true, false, false] (L' := [some (.inr (11, 0)), some (.inl (.int x11)), some (.inl (.int x12)), some (.inl (.int x13)), some (.inl (.int v30)), none, none]) rfl ?_
        exact ih x11 x12 x13 v30 S25 _ _ h
      · rw [if_neg c29] at h
        refine ax_Tgo [.iload 6, .iload_n 3] (pc' := 63) (L' := [some (.inr (11, 0)), some (.inl (.int x11)), some (.inl (.int x12)), some (.inl (.int x13)), some (.inl (.int x14)), some (.inl (.int r24)), some (.inl (.int r28))]) (st' := [.inl (.int x13), .inl (.int r28)]) (S' := S25) ok_X11_ask.1 (by decide +kernel) rfl rfl ?_
        refine ax_Tic_ge (off := 9) (tgt := 72) (by decide +kernel) (by decide) (fun c31 => ?_) (fun c31 => ?_)
        · rw [if_pos c31] at h
          refine ax_Tgo [.iinc 4 1] (pc' := 75) (L' := [some (.inr (11, 0)), some (.inl (.int x11)), some (.inl (.int x12)), some (.inl (.int x13)), some (.inl (.int (x14 + (1 : Int32)))), some (.inl (.int r24)), some (.inl (.int r28))]) (st' := []) (S' := S25) ok_X11_ask.1 (by decide +kernel) rfl rfl ?_
          obtain ⟨v32, ev32, h⟩ := ax_let_e h
          rw [ev32]
          refine ax_Tgoto (off := (-51)) (tgt := 24) (by decide +kernel) (by decide) ?_
          refine ax_Tdrop [true, true, true, true, true, false, false] (L' := [some (.inr (11, 0)), some (.inl (.int x11)), some (.inl (.int x12)), some (.inl (.int x13)), some (.inl (.int v32)), none, none]) rfl ?_
          exact ih x11 x12 x13 v32 S25 _ _ h
        · rw [if_neg c31] at h
          refine ax_Tgo [.iload 4, .istore_n 2, .iload 6, .istore_n 3, .iinc 4 1] (pc' := 75) (L' := [some (.inr (11, 0)), some (.inl (.int x11)), some (.inl (.int x14)), some (.inl (.int r28)), some (.inl (.int (x14 + (1 : Int32)))), some (.inl (.int r24)), some (.inl (.int r28))]) (st' := []) (S' := S25) ok_X11_ask.1 (by decide +kernel) rfl rfl ?_
          obtain ⟨v33, ev33, h⟩ := ax_let_e h
          rw [ev33]
          refine ax_Tgoto (off := (-51)) (tgt := 24) (by decide +kernel) (by decide) ?_
          refine ax_Tdrop [true, true, true, true, true, false, false] (L' := [some (.inr (11, 0)), some (.inl (.int x11)), some (.inl (.int x14)), some (.inl (.int r28)), some (.inl (.int v33)), none, none]) rfl ?_
          exact ih x11 x14 r28 v33 S25 _ _ h
set_option maxRecDepth 100000 in
theorem t_X11_ask {l : Launch} {a1 : Int32} {S Z : AS} {r : Int32} (h : f_X11_ask a1 S = some (r, Z)) : ax_M l 5 ma_X11_ask [.inr (11, 0), .inl (.int a1)] S (some (.inl (.int r))) Z := by
  unfold f_X11_ask at h
  show ax_T l 5 ma_X11_ask (0, [some (.inr (11, 0)), some (.inl (.int a1)), none, none, none, none, none], [], S) (some (.inl (.int r))) Z
  refine ax_Tgo [.aload_n 0] (pc' := 1) (L' := [some (.inr (11, 0)), some (.inl (.int a1)), none, none, none, none, none]) (st' := [.inr (11, 0)]) (S' := S) ok_X11_ask.1 (by decide +kernel) rfl rfl ?_
  obtain ⟨r4, hq2, h⟩ := ax_bd_e h
  refine ax_TVi (d := 4) (ka := 11) (i := 0) [] [] lk_X11_161 (by decide +kernel) rfl (by decide) rfl (Nat.le_of_ble_eq_true rfl) (Nat.le_of_ble_eq_true rfl) ((t_X11_noHouse hq2).up (by decide)) ?_
  refine ax_Tif_ne (off := 10) (tgt := 14) (by decide +kernel) (by decide) (fun c5 => ?_) (fun c5 => ?_)
  · rw [if_neg c5] at h
    refine ax_Tgo [.iconst (-1)] (pc' := 15) (L' := [some (.inr (11, 0)), some (.inl (.int a1)), none, none, none, none, none]) (st' := [.inl (.int (Int32.ofInt (-1)))]) (S' := S) ok_X11_ask.1 (by decide +kernel) rfl rfl ?_
    cases h
    exact ax_Treti (by decide +kernel) rfl rfl
  · rw [if_pos c5] at h
    refine ax_Tgo [.iload_n 1] (pc' := 8) (L' := [some (.inr (11, 0)), some (.inl (.int a1)), none, none, none, none, none]) (st' := [.inl (.int a1)]) (S' := S) ok_X11_ask.1 (by decide +kernel) rfl rfl ?_
    obtain ⟨r9, hq7, h⟩ := ax_bd_e h
    refine ax_TSi (d := 4) [.inl (.int a1)] [] lk_X11_308 (by decide +kernel) rfl rfl (Nat.le_of_ble_eq_true rfl) (Nat.le_of_ble_eq_true rfl) ((t_X11_outOfBeats hq7).up (by decide)) ?_
    refine ax_Tif_eq (off := 5) (tgt := 16) (by decide +kernel) (by decide) (fun c10 => ?_) (fun c10 => ?_)
    · rw [if_pos c10] at h
      refine ax_Tgo [.iconst (-1), .istore_n 2, .bipush 7, .istore_n 3, .iconst 0, .istore 4] (pc' := 24) (L' := [some (.inr (11, 0)), some (.inl (.int a1)), some (.inl (.int (Int32.ofInt (-1)))), some (.inl (.int (7 : Int32))), some (.inl (.int (0 : Int32))), none, none]) (st' := []) (S' := S) ok_X11_ask.1 (by decide +kernel) rfl rfl ?_
      refine t_X11_ask_L24 ?_ _ a1 (Int32.ofInt (-1)) (7 : Int32) (0 : Int32) S _ _ h
      · intro x15 S34 r Z h
        refine ax_Tgo [.iload_n 2] (pc' := 79) (L' := [none, none, some (.inl (.int x15)), none, none, none, none]) (st' := [.inl (.int x15)]) (S' := S34) ok_X11_ask.1 (by decide +kernel) rfl rfl ?_
        cases h
        exact ax_Treti (by decide +kernel) rfl rfl
    · rw [if_neg c10] at h
      refine ax_Tgo [.iconst (-1)] (pc' := 15) (L' := [some (.inr (11, 0)), some (.inl (.int a1)), none, none, none, none, none]) (st' := [.inl (.int (Int32.ofInt (-1)))]) (S' := S) ok_X11_ask.1 (by decide +kernel) rfl rfl ?_
      cases h
      exact ax_Treti (by decide +kernel) rfl rfl
def f_X9_copyFrom (i0 : Nat) (i1 : Nat) (S : AS) : Option (AS) := ax_let (ax_sfi S 9 i0 0 (ax_fi S 9 i1 0)) (fun (S1 : AS) => ax_let (ax_sfi S1 9 i0 1 (ax_fi S1 9 i1 1)) (fun (S2 : AS) => ax_let (ax_sfi S2 9 i0 2 (ax_fi S2 9 i1 2)) (fun (S3 : AS) => ax_let (ax_sfi S3 9 i0 3 (ax_fi S3 9 i1 3)) (fun (S4 : AS) => ax_let (ax_sfi S4 9 i0 4 (ax_fi S4 9 i1 4)) (fun (S5 : AS) => ax_let (ax_sfi S5 9 i0 5 (ax_fi S5 9 i1 5)) (fun (S6 : AS) => ax_let (ax_sfi S6 9 i0 6 (ax_fi S6 9 i1 6)) (fun (S7 : AS) => ax_let (ax_sfi S7 9 i0 7 (ax_fi S7 9 i1 7)) (fun (S8 : AS) => ax_gd (!decide ((0 : Int32) < 0) && !decide ((0 : Int32) < 0) && !decide ((4 : Int32) < 0) && decide ((0 : Int32).toNatClampNeg + (4 : Int32).toNatClampNeg ≤ ax_ln S8 38 i1) && decide ((0 : Int32).toNatClampNeg + (4 : Int32).toNatClampNeg ≤ ax_ln S8 38 i0)) (ax_let (ax_cpy S8 38 i0 (ax_rd S8 38 i1) (0 : Int32).toNatClampNeg (0 : Int32).toNatClampNeg (4 : Int32).toNatClampNeg) (fun (S10 : AS) => ax_gd (!decide ((0 : Int32) < 0) && !decide ((0 : Int32) < 0) && !decide ((6 : Int32) < 0) && decide ((0 : Int32).toNatClampNeg + (6 : Int32).toNatClampNeg ≤ ax_ln S10 39 i1) && decide ((0 : Int32).toNatClampNeg + (6 : Int32).toNatClampNeg ≤ ax_ln S10 39 i0)) (ax_let (ax_cpy S10 39 i0 (ax_rd S10 39 i1) (0 : Int32).toNatClampNeg (0 : Int32).toNatClampNeg (6 : Int32).toNatClampNeg) (fun (S12 : AS) => some S12))))))))))))
set_option maxRecDepth 100000 in
theorem t_X9_copyFrom {l : Launch} {i0 : Nat} {i1 : Nat} {S Z : AS} (h : f_X9_copyFrom i0 i1 S = some Z) : ax_M l 1 ma_X9_copyFrom [.inr (9, i0), .inr (9, i1)] S none Z := by
  unfold f_X9_copyFrom at h
  show ax_T l 1 ma_X9_copyFrom (0, [some (.inr (9, i0)), some (.inr (9, i1))], [], S) none Z
  refine ax_Tgo [.aload_n 0, .aload_n 1, .getfield 11, .putfield 11] (pc' := 8) (L' := [some (.inr (9, i0)), some (.inr (9, i1))]) (st' := []) (S' := (ax_sfi S 9 i0 0 (ax_fi S 9 i1 0))) ok_X9_copyFrom.1 (by decide +kernel) rfl rfl ?_
  obtain ⟨S1, eS1, h⟩ := ax_let_e h
  rw [eS1]
  refine ax_Tgo [.aload_n 0, .aload_n 1, .getfield 15, .putfield 15] (pc' := 16) (L' := [some (.inr (9, i0)), some (.inr (9, i1))]) (st' := []) (S' := (ax_sfi S1 9 i0 1 (ax_fi S1 9 i1 1))) ok_X9_copyFrom.1 (by decide +kernel) rfl rfl ?_
  obtain ⟨S2, eS2, h⟩ := ax_let_e h
  rw [eS2]
  refine ax_Tgo [.aload_n 0, .aload_n 1, .getfield 18, .putfield 18] (pc' := 24) (L' := [some (.inr (9, i0)), some (.inr (9, i1))]) (st' := []) (S' := (ax_sfi S2 9 i0 2 (ax_fi S2 9 i1 2))) ok_X9_copyFrom.1 (by decide +kernel) rfl rfl ?_
  obtain ⟨S3, eS3, h⟩ := ax_let_e h
  rw [eS3]
  refine ax_Tgo [.aload_n 0, .aload_n 1, .getfield 21, .putfield 21] (pc' := 32) (L' := [some (.inr (9, i0)), some (.inr (9, i1))]) (st' := []) (S' := (ax_sfi S3 9 i0 3 (ax_fi S3 9 i1 3))) ok_X9_copyFrom.1 (by decide +kernel) rfl rfl ?_
  obtain ⟨S4, eS4, h⟩ := ax_let_e h
  rw [eS4]
  refine ax_Tgo [.aload_n 0, .aload_n 1, .getfield 24, .putfield 24] (pc' := 40) (L' := [some (.inr (9, i0)), some (.inr (9, i1))]) (st' := []) (S' := (ax_sfi S4 9 i0 4 (ax_fi S4 9 i1 4))) ok_X9_copyFrom.1 (by decide +kernel) rfl rfl ?_
  obtain ⟨S5, eS5, h⟩ := ax_let_e h
  rw [eS5]
  refine ax_Tgo [.aload_n 0, .aload_n 1, .getfield 27, .putfield 27] (pc' := 48) (L' := [some (.inr (9, i0)), some (.inr (9, i1))]) (st' := []) (S' := (ax_sfi S5 9 i0 5 (ax_fi S5 9 i1 5))) ok_X9_copyFrom.1 (by decide +kernel) rfl rfl ?_
  obtain ⟨S6, eS6, h⟩ := ax_let_e h
  rw [eS6]
  refine ax_Tgo [.aload_n 0, .aload_n 1, .getfield 30, .putfield 30] (pc' := 56) (L' := [some (.inr (9, i0)), some (.inr (9, i1))]) (st' := []) (S' := (ax_sfi S6 9 i0 6 (ax_fi S6 9 i1 6))) ok_X9_copyFrom.1 (by decide +kernel) rfl rfl ?_
  obtain ⟨S7, eS7, h⟩ := ax_let_e h
  rw [eS7]
  refine ax_Tgo [.aload_n 0, .aload_n 1, .getfield 33, .putfield 33] (pc' := 64) (L' := [some (.inr (9, i0)), some (.inr (9, i1))]) (st' := []) (S' := (ax_sfi S7 9 i0 7 (ax_fi S7 9 i1 7))) ok_X9_copyFrom.1 (by decide +kernel) rfl rfl ?_
  obtain ⟨S8, eS8, h⟩ := ax_let_e h
  rw [eS8]
  refine ax_Tgo [.aload_n 1, .getfield 36, .iconst 0, .aload_n 0, .getfield 36, .iconst 0, .iconst 4] (pc' := 75) (L' := [some (.inr (9, i0)), some (.inr (9, i1))]) (st' := [.inl (.int (4 : Int32)), .inl (.int (0 : Int32)), .inr (38, i0), .inl (.int (0 : Int32)), .inr (38, i1)]) (S' := S8) ok_X9_copyFrom.1 (by decide +kernel) rfl rfl ?_
  obtain ⟨g9, h⟩ := ax_gd_e h
  refine ax_Tacopy (d := 0) (by decide +kernel) lkc_X9_55 (by decide) (by decide) g9 (Nat.le_of_ble_eq_true rfl) ?_
  obtain ⟨S10, eS10, h⟩ := ax_let_e h
  rw [eS10]
  refine ax_Tgo [.aload_n 1, .getfield 40, .iconst 0, .aload_n 0, .getfield 40, .iconst 0, .bipush 6] (pc' := 90) (L' := [some (.inr (9, i0)), some (.inr (9, i1))]) (st' := [.inl (.int (6 : Int32)), .inl (.int (0 : Int32)), .inr (39, i0), .inl (.int (0 : Int32)), .inr (39, i1)]) (S' := S10) ok_X9_copyFrom.1 (by decide +kernel) rfl rfl ?_
  obtain ⟨g11, h⟩ := ax_gd_e h
  refine ax_Tacopy (d := 0) (by decide +kernel) lkc_X9_55 (by decide) (by decide) g11 (Nat.le_of_ble_eq_true rfl) ?_
  obtain ⟨S12, eS12, h⟩ := ax_let_e h
  rw [eS12]
  cases h
  exact ax_Tretv (by decide +kernel) rfl
def f_X2_copyFrom (i0 : Nat) (i1 : Nat) (S : AS) : Option (AS) := ax_gd (!decide ((0 : Int32) < 0) && !decide ((0 : Int32) < 0) && !decide ((Int32.ofNat 300) < 0) && decide ((0 : Int32).toNatClampNeg + (Int32.ofNat 300).toNatClampNeg ≤ ax_ln S 23 i1) && decide ((0 : Int32).toNatClampNeg + (Int32.ofNat 300).toNatClampNeg ≤ ax_ln S 23 i0)) (ax_let (ax_cpy S 23 i0 (ax_rd S 23 i1) (0 : Int32).toNatClampNeg (0 : Int32).toNatClampNeg (Int32.ofNat 300).toNatClampNeg) (fun (S2 : AS) => some S2))
set_option maxRecDepth 100000 in
theorem t_X2_copyFrom {l : Launch} {i0 : Nat} {i1 : Nat} {S Z : AS} (h : f_X2_copyFrom i0 i1 S = some Z) : ax_M l 1 ma_X2_copyFrom [.inr (2, i0), .inr (2, i1)] S none Z := by
  unfold f_X2_copyFrom at h
  show ax_T l 1 ma_X2_copyFrom (0, [some (.inr (2, i0)), some (.inr (2, i1))], [], S) none Z
  refine ax_Tgo [.aload_n 1, .getfield 13, .iconst 0, .aload_n 0, .getfield 13, .iconst 0, .aload_n 0, .getfield 13, .arraylength] (pc' := 15) (L' := [some (.inr (2, i0)), some (.inr (2, i1))]) (st' := [.inl (.int (Int32.ofNat 300)), .inl (.int (0 : Int32)), .inr (23, i0), .inl (.int (0 : Int32)), .inr (23, i1)]) (S' := S) ok_X2_copyFrom.1 (by decide +kernel) rfl rfl ?_
  obtain ⟨g1, h⟩ := ax_gd_e h
  refine ax_Tacopy (d := 0) (by decide +kernel) lkc_X2_41 (by decide) (by decide) g1 (Nat.le_of_ble_eq_true rfl) ?_
  obtain ⟨S2, eS2, h⟩ := ax_let_e h
  rw [eS2]
  cases h
  exact ax_Tretv (by decide +kernel) rfl
def f_X7_forget (S : AS) : Option (AS) := ax_let (ax_sfi S 7 0 1 (0 : Int32)) (fun (S1 : AS) => ax_let (ax_sfi S1 7 0 2 (0 : Int32)) (fun (S2 : AS) => some S2))
set_option maxRecDepth 100000 in
theorem t_X7_forget {l : Launch} {S Z : AS} (h : f_X7_forget S = some Z) : ax_M l 0 ma_X7_forget [.inr (7, 0)] S none Z := by
  unfold f_X7_forget at h
  show ax_T l 0 ma_X7_forget (0, [some (.inr (7, 0))], [], S) none Z
  refine ax_Tgo [.aload_n 0, .iconst 0, .putfield 15] (pc' := 5) (L' := [some (.inr (7, 0))]) (st' := []) (S' := (ax_sfi S 7 0 1 (0 : Int32))) ok_X7_forget.1 (by decide +kernel) rfl rfl ?_
  obtain ⟨S1, eS1, h⟩ := ax_let_e h
  rw [eS1]
  refine ax_Tgo [.aload_n 0, .iconst 0, .putfield 19] (pc' := 10) (L' := [some (.inr (7, 0))]) (st' := []) (S' := (ax_sfi S1 7 0 2 (0 : Int32))) ok_X7_forget.1 (by decide +kernel) rfl rfl ?_
  obtain ⟨S2, eS2, h⟩ := ax_let_e h
  rw [eS2]
  cases h
  exact ax_Tretv (by decide +kernel) rfl
def f_X11_back (S : AS) : Option (Int32 × AS) := (if (ax_fi S 11 0 19) = (0 : Int32) then some ((Int32.ofInt (-1)), S) else (f_X9_copyFrom 0 2 S).bind (fun (S2 : AS) => (f_X2_copyFrom 0 1 S2).bind (fun (S5 : AS) => (f_X7_forget S5).bind (fun (S8 : AS) => some ((ax_fi S8 9 0 7), S8)))))
set_option maxRecDepth 100000 in
theorem t_X11_back {l : Launch} {S Z : AS} {r : Int32} (h : f_X11_back S = some (r, Z)) : ax_M l 2 ma_X11_back [.inr (11, 0)] S (some (.inl (.int r))) Z := by
  unfold f_X11_back at h
  show ax_T l 2 ma_X11_back (0, [some (.inr (11, 0))], [], S) (some (.inl (.int r))) Z
  refine ax_Tgo [.aload_n 0, .getfield 110] (pc' := 4) (L' := [some (.inr (11, 0))]) (st' := [.inl (.int (ax_fi S 11 0 19))]) (S' := S) ok_X11_back.1 (by decide +kernel) rfl rfl ?_
  refine ax_Tif_ne (off := 5) (tgt := 9) (by decide +kernel) (by decide) (fun c1 => ?_) (fun c1 => ?_)
  · rw [if_neg c1] at h
    refine ax_Tgo [.aload_n 0, .getfield 69, .aload_n 0, .getfield 76] (pc' := 17) (L' := [some (.inr (11, 0))]) (st' := [.inr (9, 2), .inr (9, 0)]) (S' := S) ok_X11_back.1 (by decide +kernel) rfl rfl ?_
    obtain ⟨S2, hq3, h⟩ := ax_bd_e h
    refine ax_TVv (d := 1) (ka := 9) (i := 0) [.inr (9, 2)] [] lk_X11_278 (by decide +kernel) rfl (by decide) rfl (Nat.le_of_ble_eq_true rfl) (Nat.le_of_ble_eq_true rfl) ((t_X9_copyFrom hq3).up (by decide)) ?_
    refine ax_Tgo [.aload_n 0, .getfield 45, .aload_n 0, .getfield 49] (pc' := 28) (L' := [some (.inr (11, 0))]) (st' := [.inr (2, 1), .inr (2, 0)]) (S' := S2) ok_X11_back.1 (by decide +kernel) rfl rfl ?_
    obtain ⟨S5, hq6, h⟩ := ax_bd_e h
    refine ax_TVv (d := 1) (ka := 2) (i := 0) [.inr (2, 1)] [] lk_X11_409 (by decide +kernel) rfl (by decide) rfl (Nat.le_of_ble_eq_true rfl) (Nat.le_of_ble_eq_true rfl) ((t_X2_copyFrom hq6).up (by decide)) ?_
    refine ax_Tgo [.aload_n 0, .getfield 38] (pc' := 35) (L' := [some (.inr (11, 0))]) (st' := [.inr (7, 0)]) (S' := S5) ok_X11_back.1 (by decide +kernel) rfl rfl ?_
    obtain ⟨S8, hq9, h⟩ := ax_bd_e h
    refine ax_TVv (d := 1) (ka := 7) (i := 0) [] [] lk_X11_157 (by decide +kernel) rfl (by decide) rfl (Nat.le_of_ble_eq_true rfl) (Nat.le_of_ble_eq_true rfl) ((t_X7_forget hq9).up (by decide)) ?_
    refine ax_Tgo [.aload_n 0, .getfield 69, .getfield 222] (pc' := 45) (L' := [some (.inr (11, 0))]) (st' := [.inl (.int (ax_fi S8 9 0 7))]) (S' := S8) ok_X11_back.1 (by decide +kernel) rfl rfl ?_
    cases h
    exact ax_Treti (by decide +kernel) rfl rfl
  · rw [if_pos c1] at h
    refine ax_Tgo [.iconst (-1)] (pc' := 8) (L' := [some (.inr (11, 0))]) (st' := [.inl (.int (Int32.ofInt (-1)))]) (S' := S) ok_X11_back.1 (by decide +kernel) rfl rfl ?_
    cases h
    exact ax_Treti (by decide +kernel) rfl rfl
def f_X11_breath (S : AS) : Option (Int32 × AS) := ax_bu (f_X11_act (6 : Int32) (0 : Int32) S) (fun (r4 : Int32) (S1 : AS) => (if r4 = (0 : Int32) then some ((Int32.ofInt (-1)), S1) else some ((ax_fi S1 9 0 3), S1)))
set_option maxRecDepth 100000 in
theorem t_X11_breath {l : Launch} {S Z : AS} {r : Int32} (h : f_X11_breath S = some (r, Z)) : ax_M l 7 ma_X11_breath [.inr (11, 0)] S (some (.inl (.int r))) Z := by
  unfold f_X11_breath at h
  show ax_T l 7 ma_X11_breath (0, [some (.inr (11, 0))], [], S) (some (.inl (.int r))) Z
  refine ax_Tgo [.aload_n 0, .bipush 6, .iconst 0] (pc' := 4) (L' := [some (.inr (11, 0))]) (st' := [.inl (.int (0 : Int32)), .inl (.int (6 : Int32)), .inr (11, 0)]) (S' := S) ok_X11_breath.1 (by decide +kernel) rfl rfl ?_
  obtain ⟨r4, S1, hq2, h⟩ := ax_bu_e h
  refine ax_TVi (d := 6) (ka := 11) (i := 0) [.inl (.int (6 : Int32)), .inl (.int (0 : Int32))] [] lk_X11_209 (by decide +kernel) rfl (by decide) rfl (Nat.le_of_ble_eq_true rfl) (Nat.le_of_ble_eq_true rfl) ((t_X11_act hq2).up (by decide)) ?_
  refine ax_Tif_eq (off := 13) (tgt := 20) (by decide +kernel) (by decide) (fun c5 => ?_) (fun c5 => ?_)
  · rw [if_pos c5] at h
    refine ax_Tgo [.iconst (-1)] (pc' := 21) (L' := [some (.inr (11, 0))]) (st' := [.inl (.int (Int32.ofInt (-1)))]) (S' := S1) ok_X11_breath.1 (by decide +kernel) rfl rfl ?_
    cases h
    exact ax_Treti (by decide +kernel) rfl rfl
  · rw [if_neg c5] at h
    refine ax_Tgo [.aload_n 0, .getfield 69, .getfield 216] (pc' := 17) (L' := [some (.inr (11, 0))]) (st' := [.inl (.int (ax_fi S1 9 0 3))]) (S' := S1) ok_X11_breath.1 (by decide +kernel) rfl rfl ?_
    refine ax_Tgoto (off := 4) (tgt := 21) (by decide +kernel) (by decide) ?_
    cases h
    exact ax_Treti (by decide +kernel) rfl rfl
def f_X11_noSuchCaller (a1 : Int32) (S : AS) : Option (Int32) := (if a1 < (0 : Int32) then some (1 : Int32) else (if a1 < (ax_fi S 4 (ax_fx S 11 0 14) 5) then some (0 : Int32) else some (1 : Int32)))
set_option maxRecDepth 100000 in
theorem t_X11_noSuchCaller {l : Launch} {a1 : Int32} {S : AS} {r : Int32} (h : f_X11_noSuchCaller a1 S = some r) : ax_M l 1 ma_X11_noSuchCaller [.inr (11, 0), .inl (.int a1)] S (some (.inl (.int r))) S := by
  unfold f_X11_noSuchCaller at h
  show ax_T l 1 ma_X11_noSuchCaller (0, [some (.inr (11, 0)), some (.inl (.int a1))], [], S) (some (.inl (.int r))) S
  refine ax_Tgo [.iload_n 1] (pc' := 1) (L' := [some (.inr (11, 0)), some (.inl (.int a1))]) (st' := [.inl (.int a1)]) (S' := S) ok_X11_noSuchCaller.1 (by decide +kernel) rfl rfl ?_
  refine ax_Tif_lt (off := 14) (tgt := 15) (by decide +kernel) (by decide) (fun c1 => ?_) (fun c1 => ?_)
  · rw [if_pos c1] at h
    refine ax_Tgo [.iconst 1] (pc' := 16) (L' := [some (.inr (11, 0)), some (.inl (.int a1))]) (st' := [.inl (.int (1 : Int32))]) (S' := S) ok_X11_noSuchCaller.1 (by decide +kernel) rfl rfl ?_
    refine ax_Tgoto (off := 4) (tgt := 20) (by decide +kernel) (by decide) ?_
    cases h
    exact ax_Treti (by decide +kernel) rfl rfl
  · rw [if_neg c1] at h
    refine ax_Tgo [.iload_n 1, .aload_n 0, .getfield 93] (pc' := 9) (L' := [some (.inr (11, 0)), some (.inl (.int a1))]) (st' := [.inr (4, (ax_fx S 11 0 14)), .inl (.int a1)]) (S' := S) ok_X11_noSuchCaller.1 (by decide +kernel) rfl rfl ?_
    refine ax_TVi (d := 0) (ka := 4) (i := (ax_fx S 11 0 14)) [] [.inl (.int a1)] lk_X11_147 (by decide +kernel) rfl (by decide) rfl (Nat.le_of_ble_eq_true rfl) (Nat.le_of_ble_eq_true rfl) ((t_X4_callers rfl).up (by decide)) ?_
    refine ax_Tic_lt (off := 7) (tgt := 19) (by decide +kernel) (by decide) (fun c5 => ?_) (fun c5 => ?_)
    · rw [if_pos c5] at h
      refine ax_Tgo [.iconst 0] (pc' := 20) (L' := [some (.inr (11, 0)), some (.inl (.int a1))]) (st' := [.inl (.int (0 : Int32))]) (S' := S) ok_X11_noSuchCaller.1 (by decide +kernel) rfl rfl ?_
      cases h
      exact ax_Treti (by decide +kernel) rfl rfl
    · rw [if_neg c5] at h
      refine ax_Tgo [.iconst 1] (pc' := 16) (L' := [some (.inr (11, 0)), some (.inl (.int a1))]) (st' := [.inl (.int (1 : Int32))]) (S' := S) ok_X11_noSuchCaller.1 (by decide +kernel) rfl rfl ?_
      refine ax_Tgoto (off := 4) (tgt := 20) (by decide +kernel) (by decide) ?_
      cases h
      exact ax_Treti (by decide +kernel) rfl rfl
def f_X11_caller (a1 : Int32) (a2 : Int32) (S : AS) : Option (Int32) := (f_X11_noSuchCaller a1 S).bind (fun (r4 : Int32) => (if r4 = (0 : Int32) then (if a2 < (0 : Int32) then none else (if a2 ≤ (7 : Int32) then (if a2 = (2 : Int32) then (f_X9_titlesOf 0 a1 S).bind (fun (r22 : Int32) => some r22) else (if a2 = (7 : Int32) then (f_X9_wasAnnounced 0 a1 S).bind (fun (r17 : Int32) => (if r17 = (0 : Int32) then some (0 : Int32) else some (1 : Int32))) else (f_X4_traitOf (ax_fx S 11 0 14) a1 a2 S).bind (fun (r13 : Int32) => some r13))) else none)) else none))
set_option maxRecDepth 100000 in
theorem t_X11_caller {l : Launch} {a1 : Int32} {a2 : Int32} {S : AS} {r : Int32} (h : f_X11_caller a1 a2 S = some r) : ax_M l 2 ma_X11_caller [.inr (11, 0), .inl (.int a1), .inl (.int a2)] S (some (.inl (.int r))) S := by
  unfold f_X11_caller at h
  show ax_T l 2 ma_X11_caller (0, [some (.inr (11, 0)), some (.inl (.int a1)), some (.inl (.int a2))], [], S) (some (.inl (.int r))) S
  refine ax_Tgo [.aload_n 0, .iload_n 1] (pc' := 2) (L' := [some (.inr (11, 0)), some (.inl (.int a1)), some (.inl (.int a2))]) (st' := [.inl (.int a1), .inr (11, 0)]) (S' := S) ok_X11_caller.1 (by decide +kernel) rfl rfl ?_
  obtain ⟨r4, hq2, h⟩ := ax_bd_e h
  refine ax_TVi (d := 1) (ka := 11) (i := 0) [.inl (.int a1)] [] lk_X11_183 (by decide +kernel) rfl (by decide) rfl (Nat.le_of_ble_eq_true rfl) (Nat.le_of_ble_eq_true rfl) ((t_X11_noSuchCaller hq2).up (by decide)) ?_
  refine ax_Tif_ne (off := 13) (tgt := 18) (by decide +kernel) (by decide) (fun c5 => ?_) (fun c5 => ?_)
  · rw [if_neg c5] at h
    cases h
  · rw [if_pos c5] at h
    refine ax_Tgo [.iload_n 2] (pc' := 9) (L' := [some (.inr (11, 0)), some (.inl (.int a1)), some (.inl (.int a2))]) (st' := [.inl (.int a2)]) (S' := S) ok_X11_caller.1 (by decide +kernel) rfl rfl ?_
    refine ax_Tif_lt (off := 9) (tgt := 18) (by decide +kernel) (by decide) (fun c6 => ?_) (fun c6 => ?_)
    · rw [if_pos c6] at h
      cases h
    · rw [if_neg c6] at h
      refine ax_Tgo [.iload_n 2, .bipush 7] (pc' := 15) (L' := [some (.inr (11, 0)), some (.inl (.int a1)), some (.inl (.int a2))]) (st' := [.inl (.int (7 : Int32)), .inl (.int a2)]) (S' := S) ok_X11_caller.1 (by decide +kernel) rfl rfl ?_
      refine ax_Tic_le (off := 11) (tgt := 26) (by decide +kernel) (by decide) (fun c7 => ?_) (fun c7 => ?_)
      · rw [if_pos c7] at h
        refine ax_Tgo [.iload_n 2, .iconst 2] (pc' := 28) (L' := [some (.inr (11, 0)), some (.inl (.int a1)), some (.inl (.int a2))]) (st' := [.inl (.int (2 : Int32)), .inl (.int a2)]) (S' := S) ok_X11_caller.1 (by decide +kernel) rfl rfl ?_
        refine ax_Tic_ne (off := 12) (tgt := 40) (by decide +kernel) (by decide) (fun c8 => ?_) (fun c8 => ?_)
        · rw [if_neg c8] at h
          refine ax_Tgo [.iload_n 2, .bipush 7] (pc' := 43) (L' := [some (.inr (11, 0)), some (.inl (.int a1)), some (.inl (.int a2))]) (st' := [.inl (.int (7 : Int32)), .inl (.int a2)]) (S' := S) ok_X11_caller.1 (by decide +kernel) rfl rfl ?_
          refine ax_Tic_ne (off := 20) (tgt := 63) (by decide +kernel) (by decide) (fun c9 => ?_) (fun c9 => ?_)
          · rw [if_neg c9] at h
            refine ax_Tgo [.aload_n 0, .getfield 93, .iload_n 1, .iload_n 2] (pc' := 69) (L' := [some (.inr (11, 0)), some (.inl (.int a1)), some (.inl (.int a2))]) (st' := [.inl (.int a2), .inl (.int a1), .inr (4, (ax_fx S 11 0 14))]) (S' := S) ok_X11_caller.1 (by decide +kernel) rfl rfl ?_
            obtain ⟨r13, hq11, h⟩ := ax_bd_e h
            refine ax_TVi (d := 1) (ka := 4) (i := (ax_fx S 11 0 14)) [.inl (.int a1), .inl (.int a2)] [] lk_X11_195 (by decide +kernel) rfl (by decide) rfl (Nat.le_of_ble_eq_true rfl) (Nat.le_of_ble_eq_true rfl) ((t_X4_traitOf hq11).up (by decide)) ?_
            cases h
            exact ax_Treti (by decide +kernel) rfl rfl
          · rw [if_pos c9] at h
            refine ax_Tgo [.aload_n 0, .getfield 69, .iload_n 1] (pc' := 51) (L' := [some (.inr (11, 0)), some (.inl (.int a1)), some (.inl (.int a2))]) (st' := [.inl (.int a1), .inr (9, 0)]) (S' := S) ok_X11_caller.1 (by decide +kernel) rfl rfl ?_
            obtain ⟨r17, hq15, h⟩ := ax_bd_e h
            refine ax_TVi (d := 1) (ka := 9) (i := 0) [.inl (.int a1)] [] lk_X11_192 (by decide +kernel) rfl (by decide) rfl (Nat.le_of_ble_eq_true rfl) (Nat.le_of_ble_eq_true rfl) ((t_X9_wasAnnounced hq15).up (by decide)) ?_
            refine ax_Tif_eq (off := 7) (tgt := 61) (by decide +kernel) (by decide) (fun c18 => ?_) (fun c18 => ?_)
            · rw [if_pos c18] at h
              refine ax_Tgo [.iconst 0] (pc' := 62) (L' := [some (.inr (11, 0)), some (.inl (.int a1)), some (.inl (.int a2))]) (st' := [.inl (.int (0 : Int32))]) (S' := S) ok_X11_caller.1 (by decide +kernel) rfl rfl ?_
              cases h
              exact ax_Treti (by decide +kernel) rfl rfl
            · rw [if_neg c18] at h
              refine ax_Tgo [.iconst 1] (pc' := 58) (L' := [some (.inr (11, 0)), some (.inl (.int a1)), some (.inl (.int a2))]) (st' := [.inl (.int (1 : Int32))]) (S' := S) ok_X11_caller.1 (by decide +kernel) rfl rfl ?_
              refine ax_Tgoto (off := 4) (tgt := 62) (by decide +kernel) (by decide) ?_
              cases h
              exact ax_Treti (by decide +kernel) rfl rfl
        · rw [if_pos c8] at h
          refine ax_Tgo [.aload_n 0, .getfield 69, .iload_n 1] (pc' := 36) (L' := [some (.inr (11, 0)), some (.inl (.int a1)), some (.inl (.int a2))]) (st' := [.inl (.int a1), .inr (9, 0)]) (S' := S) ok_X11_caller.1 (by decide +kernel) rfl rfl ?_
          obtain ⟨r22, hq20, h⟩ := ax_bd_e h
          refine ax_TVi (d := 1) (ka := 9) (i := 0) [.inl (.int a1)] [] lk_X11_189 (by decide +kernel) rfl (by decide) rfl (Nat.le_of_ble_eq_true rfl) (Nat.le_of_ble_eq_true rfl) ((t_X9_titlesOf hq20).up (by decide)) ?_
          cases h
          exact ax_Treti (by decide +kernel) rfl rfl
      · rw [if_neg c7] at h
        cases h
def f_X10_size (S : AS) : Option (Int32) := some (ax_fi S 10 0 1)
set_option maxRecDepth 100000 in
theorem t_X10_size {l : Launch} {S : AS} {r : Int32} (h : f_X10_size S = some r) : ax_M l 0 ma_X10_size [.inr (10, 0)] S (some (.inl (.int r))) S := by
  unfold f_X10_size at h
  show ax_T l 0 ma_X10_size (0, [some (.inr (10, 0))], [], S) (some (.inl (.int r))) S
  refine ax_Tgo [.aload_n 0, .getfield 15] (pc' := 4) (L' := [some (.inr (10, 0))]) (st' := [.inl (.int (ax_fi S 10 0 1))]) (S' := S) ok_X10_size.1 (by decide +kernel) rfl rfl ?_
  cases h
  exact ax_Treti (by decide +kernel) rfl rfl
def f_X3_size (S : AS) : Option (Int32) := some (ax_fi S 3 0 3)
set_option maxRecDepth 100000 in
theorem t_X3_size {l : Launch} {S : AS} {r : Int32} (h : f_X3_size S = some r) : ax_M l 0 ma_X3_size [.inr (3, 0)] S (some (.inl (.int r))) S := by
  unfold f_X3_size at h
  show ax_T l 0 ma_X3_size (0, [some (.inr (3, 0))], [], S) (some (.inl (.int r))) S
  refine ax_Tgo [.aload_n 0, .getfield 20] (pc' := 4) (L' := [some (.inr (3, 0))]) (st' := [.inl (.int (ax_fi S 3 0 3))]) (S' := S) ok_X3_size.1 (by decide +kernel) rfl rfl ?_
  cases h
  exact ax_Treti (by decide +kernel) rfl rfl
def f_X2_lengthOn (a0 : Int32) (S : AS) : Option (Int32) := (f_J9_min_7cf53 (60 : Int32) a0 S).bind (fun (r4 : Int32) => some r4)
set_option maxRecDepth 100000 in
theorem t_X2_lengthOn {l : Launch} {a0 : Int32} {S : AS} {r : Int32} (h : f_X2_lengthOn a0 S = some r) : ax_M l 1 ma_X2_lengthOn [.inl (.int a0)] S (some (.inl (.int r))) S := by
  unfold f_X2_lengthOn at h
  show ax_T l 1 ma_X2_lengthOn (0, [some (.inl (.int a0))], [], S) (some (.inl (.int r))) S
  refine ax_Tgo [.bipush 60, .iload_n 0] (pc' := 3) (L' := [some (.inl (.int a0))]) (st' := [.inl (.int a0), .inl (.int (60 : Int32))]) (S' := S) ok_X2_lengthOn.1 (by decide +kernel) rfl rfl ?_
  obtain ⟨r4, hq2, h⟩ := ax_bd_e h
  refine ax_TSi (d := 0) [.inl (.int (60 : Int32)), .inl (.int a0)] [] lk_X2_17 (by decide +kernel) rfl rfl (Nat.le_of_ble_eq_true rfl) (Nat.le_of_ble_eq_true rfl) ((t_J9_min_7cf53 hq2).up (by decide)) ?_
  cases h
  exact ax_Treti (by decide +kernel) rfl rfl
def f_X7_size (S : AS) : Option (Int32) := some (ax_fi S 7 0 2)
set_option maxRecDepth 100000 in
theorem t_X7_size {l : Launch} {S : AS} {r : Int32} (h : f_X7_size S = some r) : ax_M l 0 ma_X7_size [.inr (7, 0)] S (some (.inl (.int r))) S := by
  unfold f_X7_size at h
  show ax_T l 0 ma_X7_size (0, [some (.inr (7, 0))], [], S) (some (.inl (.int r))) S
  refine ax_Tgo [.aload_n 0, .getfield 19] (pc' := 4) (L' := [some (.inr (7, 0))]) (st' := [.inl (.int (ax_fi S 7 0 2))]) (S' := S) ok_X7_size.1 (by decide +kernel) rfl rfl ?_
  cases h
  exact ax_Treti (by decide +kernel) rfl rfl
def f_X11_count (a1 : Int32) (S : AS) : Option (Int32) := (if a1 = (0 : Int32) then some (ax_fi S 4 (ax_fx S 11 0 14) 5) else if a1 = (1 : Int32) then some (ax_fi S 4 (ax_fx S 11 0 14) 4) else if a1 = (2 : Int32) then some (ax_fi S 11 0 16) else if a1 = (3 : Int32) then some (ax_fi S 11 0 17) else if a1 = (4 : Int32) then some (ax_fi S 10 0 1) else if a1 = (5 : Int32) then some (ax_fi S 11 0 18) else if a1 = (6 : Int32) then some (ax_fi S 9 0 7) else if a1 = (7 : Int32) then some (ax_fi S 9 0 0) else if a1 = (8 : Int32) then some (ax_fi S 9 0 3) else if a1 = (9 : Int32) then some (ax_fi S 9 0 4) else if a1 = (10 : Int32) then some (ax_fi S 9 0 5) else if a1 = (11 : Int32) then some (ax_fi S 9 0 2) else if a1 = (12 : Int32) then some (ax_fi S 1 0 2) else if a1 = (13 : Int32) then some (ax_fi S 3 0 3) else if a1 = (14 : Int32) then (f_X2_lengthOn (ax_fi S 9 0 7) S).bind (fun (r31 : Int32) => some r31) else if a1 = (15 : Int32) then some (ax_fi S 7 0 2) else some (-1000000 : Int32))
set_option maxRecDepth 100000 in
theorem t_X11_count {l : Launch} {a1 : Int32} {S : AS} {r : Int32} (h : f_X11_count a1 S = some r) : ax_M l 2 ma_X11_count [.inr (11, 0), .inl (.int a1)] S (some (.inl (.int r))) S := by
  unfold f_X11_count at h
  show ax_T l 2 ma_X11_count (0, [some (.inr (11, 0)), some (.inl (.int a1))], [], S) (some (.inl (.int r))) S
  refine ax_Tgo [.iload_n 1] (pc' := 1) (L' := [some (.inr (11, 0)), some (.inl (.int a1))]) (st' := [.inl (.int a1)]) (S' := S) ok_X11_count.1 (by decide +kernel) rfl rfl ?_
  by_cases c1 : a1 = (0 : Int32)
  · rw [if_pos c1] at h
    refine ax_TtIn (dflt := 201) (lo := 0) (hi := 15) (offs := #[79, 87, 95, 100, 105, 113, 118, 126, 134, 142, 150, 158, 166, 174, 182, 193]) (len := 79) (off := 79) (tgt := 80) (by decide +kernel) (by rw [c1]; decide) (by rw [c1]; decide) (by rw [c1]; rfl) (by decide) ?_
    refine ax_Tgo [.aload_n 0, .getfield 93] (pc' := 84) (L' := [some (.inr (11, 0)), some (.inl (.int a1))]) (st' := [.inr (4, (ax_fx S 11 0 14))]) (S' := S) ok_X11_count.1 (by decide +kernel) rfl rfl ?_
    refine ax_TVi (d := 1) (ka := 4) (i := (ax_fx S 11 0 14)) [] [] lk_X11_147 (by decide +kernel) rfl (by decide) rfl (Nat.le_of_ble_eq_true rfl) (Nat.le_of_ble_eq_true rfl) ((t_X4_callers rfl).up (by decide)) ?_
    cases h
    exact ax_Treti (by decide +kernel) rfl rfl
  · rw [if_neg c1] at h
    by_cases c5 : a1 = (1 : Int32)
    · rw [if_pos c5] at h
      refine ax_TtIn (dflt := 201) (lo := 0) (hi := 15) (offs := #[79, 87, 95, 100, 105, 113, 118, 126, 134, 142, 150, 158, 166, 174, 182, 193]) (len := 79) (off := 87) (tgt := 88) (by decide +kernel) (by rw [c5]; decide) (by rw [c5]; decide) (by rw [c5]; rfl) (by decide) ?_
      refine ax_Tgo [.aload_n 0, .getfield 93] (pc' := 92) (L' := [some (.inr (11, 0)), some (.inl (.int a1))]) (st' := [.inr (4, (ax_fx S 11 0 14))]) (S' := S) ok_X11_count.1 (by decide +kernel) rfl rfl ?_
      refine ax_TVi (d := 1) (ka := 4) (i := (ax_fx S 11 0 14)) [] [] lk_X11_397 (by decide +kernel) rfl (by decide) rfl (Nat.le_of_ble_eq_true rfl) (Nat.le_of_ble_eq_true rfl) ((t_X4_lodgers rfl).up (by decide)) ?_
      cases h
      exact ax_Treti (by decide +kernel) rfl rfl
    · rw [if_neg c5] at h
      by_cases c9 : a1 = (2 : Int32)
      · rw [if_pos c9] at h
        refine ax_TtIn (dflt := 201) (lo := 0) (hi := 15) (offs := #[79, 87, 95, 100, 105, 113, 118, 126, 134, 142, 150, 158, 166, 174, 182, 193]) (len := 79) (off := 95) (tgt := 96) (by decide +kernel) (by rw [c9]; decide) (by rw [c9]; decide) (by rw [c9]; rfl) (by decide) ?_
        refine ax_Tgo [.aload_n 0, .getfield 100] (pc' := 100) (L' := [some (.inr (11, 0)), some (.inl (.int a1))]) (st' := [.inl (.int (ax_fi S 11 0 16))]) (S' := S) ok_X11_count.1 (by decide +kernel) rfl rfl ?_
        cases h
        exact ax_Treti (by decide +kernel) rfl rfl
      · rw [if_neg c9] at h
        by_cases c10 : a1 = (3 : Int32)
        · rw [if_pos c10] at h
          refine ax_TtIn (dflt := 201) (lo := 0) (hi := 15) (offs := #[79, 87, 95, 100, 105, 113, 118, 126, 134, 142, 150, 158, 166, 174, 182, 193]) (len := 79) (off := 100) (tgt := 101) (by decide +kernel) (by rw [c10]; decide) (by rw [c10]; decide) (by rw [c10]; rfl) (by decide) ?_
          refine ax_Tgo [.aload_n 0, .getfield 104] (pc' := 105) (L' := [some (.inr (11, 0)), some (.inl (.int a1))]) (st' := [.inl (.int (ax_fi S 11 0 17))]) (S' := S) ok_X11_count.1 (by decide +kernel) rfl rfl ?_
          cases h
          exact ax_Treti (by decide +kernel) rfl rfl
        · rw [if_neg c10] at h
          by_cases c11 : a1 = (4 : Int32)
          · rw [if_pos c11] at h
            refine ax_TtIn (dflt := 201) (lo := 0) (hi := 15) (offs := #[79, 87, 95, 100, 105, 113, 118, 126, 134, 142, 150, 158, 166, 174, 182, 193]) (len := 79) (off := 105) (tgt := 106) (by decide +kernel) (by rw [c11]; decide) (by rw [c11]; decide) (by rw [c11]; rfl) (by decide) ?_
            refine ax_Tgo [.aload_n 0, .getfield 10] (pc' := 110) (L' := [some (.inr (11, 0)), some (.inl (.int a1))]) (st' := [.inr (10, 0)]) (S' := S) ok_X11_count.1 (by decide +kernel) rfl rfl ?_
            refine ax_TVi (d := 1) (ka := 10) (i := 0) [] [] lk_X11_128 (by decide +kernel) rfl (by decide) rfl (Nat.le_of_ble_eq_true rfl) (Nat.le_of_ble_eq_true rfl) ((t_X10_size rfl).up (by decide)) ?_
            cases h
            exact ax_Treti (by decide +kernel) rfl rfl
          · rw [if_neg c11] at h
            by_cases c15 : a1 = (5 : Int32)
            · rw [if_pos c15] at h
              refine ax_TtIn (dflt := 201) (lo := 0) (hi := 15) (offs := #[79, 87, 95, 100, 105, 113, 118, 126, 134, 142, 150, 158, 166, 174, 182, 193]) (len := 79) (off := 113) (tgt := 114) (by decide +kernel) (by rw [c15]; decide) (by rw [c15]; decide) (by rw [c15]; rfl) (by decide) ?_
              refine ax_Tgo [.aload_n 0, .getfield 107] (pc' := 118) (L' := [some (.inr (11, 0)), some (.inl (.int a1))]) (st' := [.inl (.int (ax_fi S 11 0 18))]) (S' := S) ok_X11_count.1 (by decide +kernel) rfl rfl ?_
              cases h
              exact ax_Treti (by decide +kernel) rfl rfl
            · rw [if_neg c15] at h
              by_cases c16 : a1 = (6 : Int32)
              · rw [if_pos c16] at h
                refine ax_TtIn (dflt := 201) (lo := 0) (hi := 15) (offs := #[79, 87, 95, 100, 105, 113, 118, 126, 134, 142, 150, 158, 166, 174, 182, 193]) (len := 79) (off := 118) (tgt := 119) (by decide +kernel) (by rw [c16]; decide) (by rw [c16]; decide) (by rw [c16]; rfl) (by decide) ?_
                refine ax_Tgo [.aload_n 0, .getfield 69, .getfield 222] (pc' := 126) (L' := [some (.inr (11, 0)), some (.inl (.int a1))]) (st' := [.inl (.int (ax_fi S 9 0 7))]) (S' := S) ok_X11_count.1 (by decide +kernel) rfl rfl ?_
                cases h
                exact ax_Treti (by decide +kernel) rfl rfl
              · rw [if_neg c16] at h
                by_cases c17 : a1 = (7 : Int32)
                · rw [if_pos c17] at h
                  refine ax_TtIn (dflt := 201) (lo := 0) (hi := 15) (offs := #[79, 87, 95, 100, 105, 113, 118, 126, 134, 142, 150, 158, 166, 174, 182, 193]) (len := 79) (off := 126) (tgt := 127) (by decide +kernel) (by rw [c17]; decide) (by rw [c17]; decide) (by rw [c17]; rfl) (by decide) ?_
                  refine ax_Tgo [.aload_n 0, .getfield 69, .getfield 219] (pc' := 134) (L' := [some (.inr (11, 0)), some (.inl (.int a1))]) (st' := [.inl (.int (ax_fi S 9 0 0))]) (S' := S) ok_X11_count.1 (by decide +kernel) rfl rfl ?_
                  cases h
                  exact ax_Treti (by decide +kernel) rfl rfl
                · rw [if_neg c17] at h
                  by_cases c18 : a1 = (8 : Int32)
                  · rw [if_pos c18] at h
                    refine ax_TtIn (dflt := 201) (lo := 0) (hi := 15) (offs := #[79, 87, 95, 100, 105, 113, 118, 126, 134, 142, 150, 158, 166, 174, 182, 193]) (len := 79) (off := 134) (tgt := 135) (by decide +kernel) (by rw [c18]; decide) (by rw [c18]; decide) (by rw [c18]; rfl) (by decide) ?_
                    refine ax_Tgo [.aload_n 0, .getfield 69, .getfield 216] (pc' := 142) (L' := [some (.inr (11, 0)), some (.inl (.int a1))]) (st' := [.inl (.int (ax_fi S 9 0 3))]) (S' := S) ok_X11_count.1 (by decide +kernel) rfl rfl ?_
                    cases h
                    exact ax_Treti (by decide +kernel) rfl rfl
                  · rw [if_neg c18] at h
                    by_cases c19 : a1 = (9 : Int32)
                    · rw [if_pos c19] at h
                      refine ax_TtIn (dflt := 201) (lo := 0) (hi := 15) (offs := #[79, 87, 95, 100, 105, 113, 118, 126, 134, 142, 150, 158, 166, 174, 182, 193]) (len := 79) (off := 142) (tgt := 143) (by decide +kernel) (by rw [c19]; decide) (by rw [c19]; decide) (by rw [c19]; rfl) (by decide) ?_
                      refine ax_Tgo [.aload_n 0, .getfield 69, .getfield 213] (pc' := 150) (L' := [some (.inr (11, 0)), some (.inl (.int a1))]) (st' := [.inl (.int (ax_fi S 9 0 4))]) (S' := S) ok_X11_count.1 (by decide +kernel) rfl rfl ?_
                      cases h
                      exact ax_Treti (by decide +kernel) rfl rfl
                    · rw [if_neg c19] at h
                      by_cases c20 : a1 = (10 : Int32)
                      · rw [if_pos c20] at h
                        refine ax_TtIn (dflt := 201) (lo := 0) (hi := 15) (offs := #[79, 87, 95, 100, 105, 113, 118, 126, 134, 142, 150, 158, 166, 174, 182, 193]) (len := 79) (off := 150) (tgt := 151) (by decide +kernel) (by rw [c20]; decide) (by rw [c20]; decide) (by rw [c20]; rfl) (by decide) ?_
                        refine ax_Tgo [.aload_n 0, .getfield 69, .getfield 281] (pc' := 158) (L' := [some (.inr (11, 0)), some (.inl (.int a1))]) (st' := [.inl (.int (ax_fi S 9 0 5))]) (S' := S) ok_X11_count.1 (by decide +kernel) rfl rfl ?_
                        cases h
                        exact ax_Treti (by decide +kernel) rfl rfl
                      · rw [if_neg c20] at h
                        by_cases c21 : a1 = (11 : Int32)
                        · rw [if_pos c21] at h
                          refine ax_TtIn (dflt := 201) (lo := 0) (hi := 15) (offs := #[79, 87, 95, 100, 105, 113, 118, 126, 134, 142, 150, 158, 166, 174, 182, 193]) (len := 79) (off := 158) (tgt := 159) (by decide +kernel) (by rw [c21]; decide) (by rw [c21]; decide) (by rw [c21]; rfl) (by decide) ?_
                          refine ax_Tgo [.aload_n 0, .getfield 69, .getfield 206] (pc' := 166) (L' := [some (.inr (11, 0)), some (.inl (.int a1))]) (st' := [.inl (.int (ax_fi S 9 0 2))]) (S' := S) ok_X11_count.1 (by decide +kernel) rfl rfl ?_
                          cases h
                          exact ax_Treti (by decide +kernel) rfl rfl
                        · rw [if_neg c21] at h
                          by_cases c22 : a1 = (12 : Int32)
                          · rw [if_pos c22] at h
                            refine ax_TtIn (dflt := 201) (lo := 0) (hi := 15) (offs := #[79, 87, 95, 100, 105, 113, 118, 126, 134, 142, 150, 158, 166, 174, 182, 193]) (len := 79) (off := 166) (tgt := 167) (by decide +kernel) (by rw [c22]; decide) (by rw [c22]; decide) (by rw [c22]; rfl) (by decide) ?_
                            refine ax_Tgo [.aload_n 0, .getfield 82, .getfield 203] (pc' := 174) (L' := [some (.inr (11, 0)), some (.inl (.int a1))]) (st' := [.inl (.int (ax_fi S 1 0 2))]) (S' := S) ok_X11_count.1 (by decide +kernel) rfl rfl ?_
                            cases h
                            exact ax_Treti (by decide +kernel) rfl rfl
                          · rw [if_neg c22] at h
                            by_cases c23 : a1 = (13 : Int32)
                            · rw [if_pos c23] at h
                              refine ax_TtIn (dflt := 201) (lo := 0) (hi := 15) (offs := #[79, 87, 95, 100, 105, 113, 118, 126, 134, 142, 150, 158, 166, 174, 182, 193]) (len := 79) (off := 174) (tgt := 175) (by decide +kernel) (by rw [c23]; decide) (by rw [c23]; decide) (by rw [c23]; rfl) (by decide) ?_
                              refine ax_Tgo [.aload_n 0, .getfield 55] (pc' := 179) (L' := [some (.inr (11, 0)), some (.inl (.int a1))]) (st' := [.inr (3, 0)]) (S' := S) ok_X11_count.1 (by decide +kernel) rfl rfl ?_
                              refine ax_TVi (d := 1) (ka := 3) (i := 0) [] [] lk_X11_315 (by decide +kernel) rfl (by decide) rfl (Nat.le_of_ble_eq_true rfl) (Nat.le_of_ble_eq_true rfl) ((t_X3_size rfl).up (by decide)) ?_
                              cases h
                              exact ax_Treti (by decide +kernel) rfl rfl
                            · rw [if_neg c23] at h
                              by_cases c27 : a1 = (14 : Int32)
                              · rw [if_pos c27] at h
                                refine ax_TtIn (dflt := 201) (lo := 0) (hi := 15) (offs := #[79, 87, 95, 100, 105, 113, 118, 126, 134, 142, 150, 158, 166, 174, 182, 193]) (len := 79) (off := 182) (tgt := 183) (by decide +kernel) (by rw [c27]; decide) (by rw [c27]; decide) (by rw [c27]; rfl) (by decide) ?_
                                refine ax_Tgo [.aload_n 0, .getfield 69, .getfield 222] (pc' := 190) (L' := [some (.inr (11, 0)), some (.inl (.int a1))]) (st' := [.inl (.int (ax_fi S 9 0 7))]) (S' := S) ok_X11_count.1 (by decide +kernel) rfl rfl ?_
                                obtain ⟨r31, hq29, h⟩ := ax_bd_e h
                                refine ax_TSi (d := 1) [.inl (.int (ax_fi S 9 0 7))] [] lk_X11_259 (by decide +kernel) rfl rfl (Nat.le_of_ble_eq_true rfl) (Nat.le_of_ble_eq_true rfl) ((t_X2_lengthOn hq29).up (by decide)) ?_
                                cases h
                                exact ax_Treti (by decide +kernel) rfl rfl
                              · rw [if_neg c27] at h
                                by_cases c32 : a1 = (15 : Int32)
                                · rw [if_pos c32] at h
                                  refine ax_TtIn (dflt := 201) (lo := 0) (hi := 15) (offs := #[79, 87, 95, 100, 105, 113, 118, 126, 134, 142, 150, 158, 166, 174, 182, 193]) (len := 79) (off := 193) (tgt := 194) (by decide +kernel) (by rw [c32]; decide) (by rw [c32]; decide) (by rw [c32]; rfl) (by decide) ?_
                                  refine ax_Tgo [.aload_n 0, .getfield 38] (pc' := 198) (L' := [some (.inr (11, 0)), some (.inl (.int a1))]) (st' := [.inr (7, 0)]) (S' := S) ok_X11_count.1 (by decide +kernel) rfl rfl ?_
                                  refine ax_TVi (d := 1) (ka := 7) (i := 0) [] [] lk_X11_236 (by decide +kernel) rfl (by decide) rfl (Nat.le_of_ble_eq_true rfl) (Nat.le_of_ble_eq_true rfl) ((t_X7_size rfl).up (by decide)) ?_
                                  cases h
                                  exact ax_Treti (by decide +kernel) rfl rfl
                                · rw [if_neg c32] at h
                                  refine ax_TtOut (dflt := 201) (lo := 0) (hi := 15) (offs := #[79, 87, 95, 100, 105, 113, 118, 126, 134, 142, 150, 158, 166, 174, 182, 193]) (len := 79) (tgt := 202) (by decide +kernel) (by have zc1 := lv_neT (a := 0) c1 rfl; have zc5 := lv_neT (a := 1) c5 rfl; have zc9 := lv_neT (a := 2) c9 rfl; have zc10 := lv_neT (a := 3) c10 rfl; have zc11 := lv_neT (a := 4) c11 rfl; have zc15 := lv_neT (a := 5) c15 rfl; have zc16 := lv_neT (a := 6) c16 rfl; have zc17 := lv_neT (a := 7) c17 rfl; have zc18 := lv_neT (a := 8) c18 rfl; have zc19 := lv_neT (a := 9) c19 rfl; have zc20 := lv_neT (a := 10) c20 rfl; have zc21 := lv_neT (a := 11) c21 rfl; have zc22 := lv_neT (a := 12) c22 rfl; have zc23 := lv_neT (a := 13) c23 rfl; have zc27 := lv_neT (a := 14) c27 rfl; have zc32 := lv_neT (a := 15) c32 rfl; omega) (by decide) ?_
                                  refine ax_Tgo [.ldc_w 271] (pc' := 205) (L' := [some (.inr (11, 0)), some (.inl (.int a1))]) (st' := [.inl (.int (-1000000 : Int32))]) (S' := S) ok_X11_count.1 (by decide +kernel) rfl rfl ?_
                                  cases h
                                  exact ax_Treti (by decide +kernel) rfl rfl
def f_X11_day (S : AS) : Option (Int32 × AS) := ax_bu (f_X11_act (4 : Int32) (0 : Int32) S) (fun (r4 : Int32) (S1 : AS) => (if r4 = (0 : Int32) then some ((Int32.ofInt (-1)), S1) else some ((ax_fi S1 9 0 7), S1)))
set_option maxRecDepth 100000 in
theorem t_X11_day {l : Launch} {S Z : AS} {r : Int32} (h : f_X11_day S = some (r, Z)) : ax_M l 7 ma_X11_day [.inr (11, 0)] S (some (.inl (.int r))) Z := by
  unfold f_X11_day at h
  show ax_T l 7 ma_X11_day (0, [some (.inr (11, 0))], [], S) (some (.inl (.int r))) Z
  refine ax_Tgo [.aload_n 0, .iconst 4, .iconst 0] (pc' := 3) (L' := [some (.inr (11, 0))]) (st' := [.inl (.int (0 : Int32)), .inl (.int (4 : Int32)), .inr (11, 0)]) (S' := S) ok_X11_day.1 (by decide +kernel) rfl rfl ?_
  obtain ⟨r4, S1, hq2, h⟩ := ax_bu_e h
  refine ax_TVi (d := 6) (ka := 11) (i := 0) [.inl (.int (4 : Int32)), .inl (.int (0 : Int32))] [] lk_X11_209 (by decide +kernel) rfl (by decide) rfl (Nat.le_of_ble_eq_true rfl) (Nat.le_of_ble_eq_true rfl) ((t_X11_act hq2).up (by decide)) ?_
  refine ax_Tif_eq (off := 13) (tgt := 19) (by decide +kernel) (by decide) (fun c5 => ?_) (fun c5 => ?_)
  · rw [if_pos c5] at h
    refine ax_Tgo [.iconst (-1)] (pc' := 20) (L' := [some (.inr (11, 0))]) (st' := [.inl (.int (Int32.ofInt (-1)))]) (S' := S1) ok_X11_day.1 (by decide +kernel) rfl rfl ?_
    cases h
    exact ax_Treti (by decide +kernel) rfl rfl
  · rw [if_neg c5] at h
    refine ax_Tgo [.aload_n 0, .getfield 69, .getfield 222] (pc' := 16) (L' := [some (.inr (11, 0))]) (st' := [.inl (.int (ax_fi S1 9 0 7))]) (S' := S1) ok_X11_day.1 (by decide +kernel) rfl rfl ?_
    refine ax_Tgoto (off := 4) (tgt := 20) (by decide +kernel) (by decide) ?_
    cases h
    exact ax_Treti (by decide +kernel) rfl rfl
def f_X11_drop (a1 : Int32) (S : AS) : Option (Int32 × AS) := ax_bu (f_X11_act (5 : Int32) a1 S) (fun (r4 : Int32) (S1 : AS) => (if r4 = (0 : Int32) then some ((Int32.ofInt (-1)), S1) else (f_X9_titlesOf 0 a1 S1).bind (fun (r9 : Int32) => some (r9, S1))))
set_option maxRecDepth 100000 in
theorem t_X11_drop {l : Launch} {a1 : Int32} {S Z : AS} {r : Int32} (h : f_X11_drop a1 S = some (r, Z)) : ax_M l 7 ma_X11_drop [.inr (11, 0), .inl (.int a1)] S (some (.inl (.int r))) Z := by
  unfold f_X11_drop at h
  show ax_T l 7 ma_X11_drop (0, [some (.inr (11, 0)), some (.inl (.int a1))], [], S) (some (.inl (.int r))) Z
  refine ax_Tgo [.aload_n 0, .iconst 5, .iload_n 1] (pc' := 3) (L' := [some (.inr (11, 0)), some (.inl (.int a1))]) (st' := [.inl (.int a1), .inl (.int (5 : Int32)), .inr (11, 0)]) (S' := S) ok_X11_drop.1 (by decide +kernel) rfl rfl ?_
  obtain ⟨r4, S1, hq2, h⟩ := ax_bu_e h
  refine ax_TVi (d := 6) (ka := 11) (i := 0) [.inl (.int (5 : Int32)), .inl (.int a1)] [] lk_X11_209 (by decide +kernel) rfl (by decide) rfl (Nat.le_of_ble_eq_true rfl) (Nat.le_of_ble_eq_true rfl) ((t_X11_act hq2).up (by decide)) ?_
  refine ax_Tif_eq (off := 14) (tgt := 20) (by decide +kernel) (by decide) (fun c5 => ?_) (fun c5 => ?_)
  · rw [if_pos c5] at h
    refine ax_Tgo [.iconst (-1)] (pc' := 21) (L' := [some (.inr (11, 0)), some (.inl (.int a1))]) (st' := [.inl (.int (Int32.ofInt (-1)))]) (S' := S1) ok_X11_drop.1 (by decide +kernel) rfl rfl ?_
    cases h
    exact ax_Treti (by decide +kernel) rfl rfl
  · rw [if_neg c5] at h
    refine ax_Tgo [.aload_n 0, .getfield 69, .iload_n 1] (pc' := 14) (L' := [some (.inr (11, 0)), some (.inl (.int a1))]) (st' := [.inl (.int a1), .inr (9, 0)]) (S' := S1) ok_X11_drop.1 (by decide +kernel) rfl rfl ?_
    obtain ⟨r9, hq7, h⟩ := ax_bd_e h
    refine ax_TVi (d := 6) (ka := 9) (i := 0) [.inl (.int a1)] [] lk_X11_189 (by decide +kernel) rfl (by decide) rfl (Nat.le_of_ble_eq_true rfl) (Nat.le_of_ble_eq_true rfl) ((t_X9_titlesOf hq7).up (by decide)) ?_
    refine ax_Tgoto (off := 4) (tgt := 21) (by decide +kernel) (by decide) ?_
    cases h
    exact ax_Treti (by decide +kernel) rfl rfl
def f_X10_cut (a1 : Int32) (S : AS) : Option (Int32 × AS) := (if a1 < (0 : Int32) then some ((0 : Int32), S) else (if a1 ≤ (ax_fi S 10 0 1) then ax_let (ax_sfi S 10 0 1 a1) (fun (S3 : AS) => some ((1 : Int32), S3)) else some ((0 : Int32), S)))
set_option maxRecDepth 100000 in
theorem t_X10_cut {l : Launch} {a1 : Int32} {S Z : AS} {r : Int32} (h : f_X10_cut a1 S = some (r, Z)) : ax_M l 0 ma_X10_cut [.inr (10, 0), .inl (.int a1)] S (some (.inl (.int r))) Z := by
  unfold f_X10_cut at h
  show ax_T l 0 ma_X10_cut (0, [some (.inr (10, 0)), some (.inl (.int a1))], [], S) (some (.inl (.int r))) Z
  refine ax_Tgo [.iload_n 1] (pc' := 1) (L' := [some (.inr (10, 0)), some (.inl (.int a1))]) (st' := [.inl (.int a1)]) (S' := S) ok_X10_cut.1 (by decide +kernel) rfl rfl ?_
  refine ax_Tif_lt (off := 11) (tgt := 12) (by decide +kernel) (by decide) (fun c1 => ?_) (fun c1 => ?_)
  · rw [if_pos c1] at h
    refine ax_Tgo [.iconst 0] (pc' := 13) (L' := [some (.inr (10, 0)), some (.inl (.int a1))]) (st' := [.inl (.int (0 : Int32))]) (S' := S) ok_X10_cut.1 (by decide +kernel) rfl rfl ?_
    cases h
    exact ax_Treti (by decide +kernel) rfl rfl
  · rw [if_neg c1] at h
    refine ax_Tgo [.iload_n 1, .aload_n 0, .getfield 15] (pc' := 9) (L' := [some (.inr (10, 0)), some (.inl (.int a1))]) (st' := [.inl (.int (ax_fi S 10 0 1)), .inl (.int a1)]) (S' := S) ok_X10_cut.1 (by decide +kernel) rfl rfl ?_
    refine ax_Tic_le (off := 5) (tgt := 14) (by decide +kernel) (by decide) (fun c2 => ?_) (fun c2 => ?_)
    · rw [if_pos c2] at h
      refine ax_Tgo [.aload_n 0, .iload_n 1, .putfield 15] (pc' := 19) (L' := [some (.inr (10, 0)), some (.inl (.int a1))]) (st' := []) (S' := (ax_sfi S 10 0 1 a1)) ok_X10_cut.1 (by decide +kernel) rfl rfl ?_
      obtain ⟨S3, eS3, h⟩ := ax_let_e h
      rw [eS3]
      refine ax_Tgo [.iconst 1] (pc' := 20) (L' := [some (.inr (10, 0)), some (.inl (.int a1))]) (st' := [.inl (.int (1 : Int32))]) (S' := S3) ok_X10_cut.1 (by decide +kernel) rfl rfl ?_
      cases h
      exact ax_Treti (by decide +kernel) rfl rfl
    · rw [if_neg c2] at h
      refine ax_Tgo [.iconst 0] (pc' := 13) (L' := [some (.inr (10, 0)), some (.inl (.int a1))]) (st' := [.inl (.int (0 : Int32))]) (S' := S) ok_X10_cut.1 (by decide +kernel) rfl rfl ?_
      cases h
      exact ax_Treti (by decide +kernel) rfl rfl
def f_X11_end (a1 : Int32) (S : AS) : Option (Int32 × AS) := ax_bu (f_X10_cut a1 S) (fun (r4 : Int32) (S1 : AS) => ax_gd (ax_bo r4) (some (r4, S1)))
set_option maxRecDepth 100000 in
theorem t_X11_end {l : Launch} {a1 : Int32} {S Z : AS} {r : Int32} (h : f_X11_end a1 S = some (r, Z)) : ax_M l 1 ma_X11_end [.inr (11, 0), .inl (.int a1)] S (some (.inl (.int r))) Z := by
  unfold f_X11_end at h
  show ax_T l 1 ma_X11_end (0, [some (.inr (11, 0)), some (.inl (.int a1))], [], S) (some (.inl (.int r))) Z
  refine ax_Tgo [.aload_n 0, .getfield 10, .iload_n 1] (pc' := 5) (L' := [some (.inr (11, 0)), some (.inl (.int a1))]) (st' := [.inl (.int a1), .inr (10, 0)]) (S' := S) ok_X11_end.1 (by decide +kernel) rfl rfl ?_
  obtain ⟨r4, S1, hq2, h⟩ := ax_bu_e h
  refine ax_TVi (d := 0) (ka := 10) (i := 0) [.inl (.int a1)] [] lk_X11_132 (by decide +kernel) rfl (by decide) rfl (Nat.le_of_ble_eq_true rfl) (Nat.le_of_ble_eq_true rfl) ((t_X10_cut hq2).up (by decide)) ?_
  obtain ⟨g5, h⟩ := ax_gd_e h
  cases h
  exact ax_Tretz (by decide +kernel) rfl g5
def f_X10_rewind (S : AS) : Option (AS) := ax_let (ax_sfi S 10 0 2 (0 : Int32)) (fun (S1 : AS) => ax_let (ax_sfi S1 10 0 3 (Int32.ofInt (-1))) (fun (S2 : AS) => some S2))
set_option maxRecDepth 100000 in
theorem t_X10_rewind {l : Launch} {S Z : AS} (h : f_X10_rewind S = some Z) : ax_M l 0 ma_X10_rewind [.inr (10, 0)] S none Z := by
  unfold f_X10_rewind at h
  show ax_T l 0 ma_X10_rewind (0, [some (.inr (10, 0))], [], S) none Z
  refine ax_Tgo [.aload_n 0, .iconst 0, .putfield 19] (pc' := 5) (L' := [some (.inr (10, 0))]) (st' := []) (S' := (ax_sfi S 10 0 2 (0 : Int32))) ok_X10_rewind.1 (by decide +kernel) rfl rfl ?_
  obtain ⟨S1, eS1, h⟩ := ax_let_e h
  rw [eS1]
  refine ax_Tgo [.aload_n 0, .iconst (-1), .putfield 22] (pc' := 10) (L' := [some (.inr (10, 0))]) (st' := []) (S' := (ax_sfi S1 10 0 3 (Int32.ofInt (-1)))) ok_X10_rewind.1 (by decide +kernel) rfl rfl ?_
  obtain ⟨S2, eS2, h⟩ := ax_let_e h
  rw [eS2]
  cases h
  exact ax_Tretv (by decide +kernel) rfl
def f_X10_peek_L10 (K48 : AS → Option (Int32 × AS)) : Nat → AS → Option (Int32 × AS)
  | 0, _ => none
  | n + 1, S2 => (if (ax_fi S2 10 0 1) ≤ (ax_fi S2 10 0 2) then K48 S2 else ax_gd (ax_in (ax_fi S2 10 0 2) 240) ((if (ax_ai S2 40 0 (ax_fi S2 10 0 2).toNatClampNeg) = (32 : Int32) then ax_let (ax_sfi S2 10 0 2 ((ax_fi S2 10 0 2) + (1 : Int32))) (fun (S6 : AS) => f_X10_peek_L10 K48 n S6) else K48 S2)))
def f_X10_peek (S : AS) : Option (Int32 × AS) := (if (ax_fi S 10 0 3) = (Int32.ofInt (-1)) then f_X10_peek_L10 (fun (S7 : AS) => (if (ax_fi S7 10 0 1) ≤ (ax_fi S7 10 0 2) then some ((0 : Int32), S7) else ax_gd (ax_in (ax_fi S7 10 0 2) 240) (some ((ax_ai S7 40 0 (ax_fi S7 10 0 2).toNatClampNeg), S7)))) ax_F S else some ((0 : Int32), S))
set_option maxRecDepth 100000 in
theorem t_X10_peek_L10 {l : Launch} {K48 : AS → Option (Int32 × AS)} (hK48 : ∀ (S : AS) r Z, K48 S = some (r, Z) → ax_T l 0 ma_X10_peek (48, [some (.inr (10, 0))], [], S) (some (.inl (.int r))) Z) : ∀ (n : Nat) (S2 : AS) r Z, f_X10_peek_L10 K48 n S2 = some (r, Z) → ax_T l 0 ma_X10_peek (10, [some (.inr (10, 0))], [], S2) (some (.inl (.int r))) Z := by
  intro n
  induction n with
  | zero =>
    intro S2 r Z h
    cases h
  | succ n ih =>
    intro S2 r Z h
    unfold f_X10_peek_L10 at h
    refine ax_Tgo [.aload_n 0, .getfield 19, .aload_n 0, .getfield 15] (pc' := 18) (L' := [some (.inr (10, 0))]) (st' := [.inl (.int (ax_fi S2 10 0 1)), .inl (.int (ax_fi S2 10 0 2))]) (S' := S2) ok_X10_peek.1 (by decide +kernel) rfl rfl ?_
    refine ax_Tic_ge (off := 30) (tgt := 48) (by decide +kernel) (by decide) (fun c3 => ?_) (fun c3 => ?_)
    · rw [if_pos c3] at h
      exact hK48 S2 _ _ h
    · rw [if_neg c3] at h
      refine ax_Tgo [.aload_n 0, .getfield 11, .aload_n 0, .getfield 19] (pc' := 29) (L' := [some (.inr (10, 0))]) (st' := [.inl (.int (ax_fi S2 10 0 2)), .inr (40, 0)]) (S' := S2) ok_X10_peek.1 (by decide +kernel) rfl rfl ?_
      obtain ⟨g4, h⟩ := ax_gd_e h
      refine ax_Tali (n := 240) ok_X10_peek.1 (by decide +kernel) (by decide) rfl g4 ?_
      refine ax_Tgo [.bipush 32] (pc' := 32) (L' := [some (.inr (10, 0))]) (st' := [.inl (.int (32 : Int32)), .inl (.int (ax_ai S2 40 0 (ax_fi S2 10 0 2).toNatClampNeg))]) (S' := S2) ok_X10_peek.1 (by decide +kernel) rfl rfl ?_
      refine ax_Tic_ne (off := 16) (tgt := 48) (by decide +kernel) (by decide) (fun c5 => ?_) (fun c5 => ?_)
      · rw [if_neg c5] at h
        exact hK48 S2 _ _ h
      · rw [if_pos c5] at h
        refine ax_Tgo [.aload_n 0, .dup, .getfield 19, .iconst 1, .iadd, .putfield 19] (pc' := 45) (L' := [some (.inr (10, 0))]) (st' := []) (S' := (ax_sfi S2 10 0 2 ((ax_fi S2 10 0 2) + (1 : Int32)))) ok_X10_peek.1 (by decide +kernel) rfl rfl ?_
        obtain ⟨S6, eS6, h⟩ := ax_let_e h
        rw [eS6]
        refine ax_Tgoto (off := (-35)) (tgt := 10) (by decide +kernel) (by decide) ?_
        exact ih S6 _ _ h
set_option maxRecDepth 100000 in
theorem t_X10_peek {l : Launch} {S Z : AS} {r : Int32} (h : f_X10_peek S = some (r, Z)) : ax_M l 0 ma_X10_peek [.inr (10, 0)] S (some (.inl (.int r))) Z := by
  unfold f_X10_peek at h
  show ax_T l 0 ma_X10_peek (0, [some (.inr (10, 0))], [], S) (some (.inl (.int r))) Z
  refine ax_Tgo [.aload_n 0, .getfield 22, .iconst (-1)] (pc' := 5) (L' := [some (.inr (10, 0))]) (st' := [.inl (.int (Int32.ofInt (-1))), .inl (.int (ax_fi S 10 0 3))]) (S' := S) ok_X10_peek.1 (by decide +kernel) rfl rfl ?_
  refine ax_Tic_eq (off := 5) (tgt := 10) (by decide +kernel) (by decide) (fun c1 => ?_) (fun c1 => ?_)
  · rw [if_pos c1] at h
    refine t_X10_peek_L10 ?_ _ S _ _ h
    · intro S7 r Z h
      refine ax_Tgo [.aload_n 0, .getfield 19, .aload_n 0, .getfield 15] (pc' := 56) (L' := [some (.inr (10, 0))]) (st' := [.inl (.int (ax_fi S7 10 0 1)), .inl (.int (ax_fi S7 10 0 2))]) (S' := S7) ok_X10_peek.1 (by decide +kernel) rfl rfl ?_
      refine ax_Tic_ge (off := 15) (tgt := 71) (by decide +kernel) (by decide) (fun c8 => ?_) (fun c8 => ?_)
      · rw [if_pos c8] at h
        refine ax_Tgo [.iconst 0] (pc' := 72) (L' := [some (.inr (10, 0))]) (st' := [.inl (.int (0 : Int32))]) (S' := S7) ok_X10_peek.1 (by decide +kernel) rfl rfl ?_
        cases h
        exact ax_Treti (by decide +kernel) rfl rfl
      · rw [if_neg c8] at h
        refine ax_Tgo [.aload_n 0, .getfield 11, .aload_n 0, .getfield 19] (pc' := 67) (L' := [some (.inr (10, 0))]) (st' := [.inl (.int (ax_fi S7 10 0 2)), .inr (40, 0)]) (S' := S7) ok_X10_peek.1 (by decide +kernel) rfl rfl ?_
        obtain ⟨g9, h⟩ := ax_gd_e h
        refine ax_Tali (n := 240) ok_X10_peek.1 (by decide +kernel) (by decide) rfl g9 ?_
        refine ax_Tgoto (off := 4) (tgt := 72) (by decide +kernel) (by decide) ?_
        cases h
        exact ax_Treti (by decide +kernel) rfl rfl
  · rw [if_neg c1] at h
    refine ax_Tgo [.iconst 0] (pc' := 9) (L' := [some (.inr (10, 0))]) (st' := [.inl (.int (0 : Int32))]) (S' := S) ok_X10_peek.1 (by decide +kernel) rfl rfl ?_
    cases h
    exact ax_Treti (by decide +kernel) rfl rfl
def f_X10_pass (S : AS) : Option (AS) := (if (ax_fi S 10 0 1) ≤ (ax_fi S 10 0 2) then some S else ax_let (ax_sfi S 10 0 2 ((ax_fi S 10 0 2) + (1 : Int32))) (fun (S2 : AS) => some S2))
set_option maxRecDepth 100000 in
theorem t_X10_pass {l : Launch} {S Z : AS} (h : f_X10_pass S = some Z) : ax_M l 0 ma_X10_pass [.inr (10, 0)] S none Z := by
  unfold f_X10_pass at h
  show ax_T l 0 ma_X10_pass (0, [some (.inr (10, 0))], [], S) none Z
  refine ax_Tgo [.aload_n 0, .getfield 19, .aload_n 0, .getfield 15] (pc' := 8) (L' := [some (.inr (10, 0))]) (st' := [.inl (.int (ax_fi S 10 0 1)), .inl (.int (ax_fi S 10 0 2))]) (S' := S) ok_X10_pass.1 (by decide +kernel) rfl rfl ?_
  refine ax_Tic_ge (off := 13) (tgt := 21) (by decide +kernel) (by decide) (fun c1 => ?_) (fun c1 => ?_)
  · rw [if_pos c1] at h
    cases h
    exact ax_Tretv (by decide +kernel) rfl
  · rw [if_neg c1] at h
    refine ax_Tgo [.aload_n 0, .dup, .getfield 19, .iconst 1, .iadd, .putfield 19] (pc' := 21) (L' := [some (.inr (10, 0))]) (st' := []) (S' := (ax_sfi S 10 0 2 ((ax_fi S 10 0 2) + (1 : Int32)))) ok_X10_pass.1 (by decide +kernel) rfl rfl ?_
    obtain ⟨S2, eS2, h⟩ := ax_let_e h
    rw [eS2]
    cases h
    exact ax_Tretv (by decide +kernel) rfl
def f_J0_coder_7d493_64x1 (S : AS) : Option (Int32) := some (0 : Int32)
set_option maxRecDepth 100000 in
theorem t_J0_coder_7d493_64x1 {l : Launch} {S : AS} {r : Int32} (h : f_J0_coder_7d493_64x1 S = some r) : ax_M l 0 ma_J0_coder_7d493 [.inr (64, 1)] S (some (.inl (.int r))) S := by
  unfold f_J0_coder_7d493_64x1 at h
  show ax_T l 0 ma_J0_coder_7d493 (0, [some (.inr (64, 1))], [], S) (some (.inl (.int r))) S
  refine ax_Tgo [.getstatic 38] (pc' := 3) (L' := [some (.inr (64, 1))]) (st' := [.inl (.int (1 : Int32))]) (S' := S) ok_J0_coder_7d493.1 (by decide +kernel) rfl rfl ?_
  refine ax_Tif_eq (off := 10) (tgt := 13) (by decide +kernel) (by decide) (fun c1 => absurd c1 (by decide)) (fun _ => ?_)
  refine ax_Tgo [.aload_n 0, .getfield 15] (pc' := 10) (L' := [some (.inr (64, 1))]) (st' := [.inl (.int (0 : Int32))]) (S' := S) ok_J0_coder_7d493.1 (by decide +kernel) rfl rfl ?_
  refine ax_Tgoto (off := 4) (tgt := 14) (by decide +kernel) (by decide) ?_
  cases h
  exact ax_Treti (by decide +kernel) rfl rfl
def f_J0_length_8abf5_64x1 (S : AS) : Option (Int32) := some ((Int32.ofNat 2) >>> ((0 : Int32) &&& 31))
set_option maxRecDepth 100000 in
theorem t_J0_length_8abf5_64x1 {l : Launch} {S : AS} {r : Int32} (h : f_J0_length_8abf5_64x1 S = some r) : ax_M l 1 ma_J0_length_8abf5 [.inr (64, 1)] S (some (.inl (.int r))) S := by
  unfold f_J0_length_8abf5_64x1 at h
  show ax_T l 1 ma_J0_length_8abf5 (0, [some (.inr (64, 1))], [], S) (some (.inl (.int r))) S
  refine ax_Tgo [.aload_n 0, .getfield 9, .arraylength, .aload_n 0] (pc' := 6) (L' := [some (.inr (64, 1))]) (st' := [.inr (64, 1), .inl (.int (Int32.ofNat 2))]) (S' := S) ok_J0_length_8abf5.1 (by decide +kernel) rfl rfl ?_
  refine ax_TVi (d := 0) (ka := 64) (i := 1) [] [.inl (.int (Int32.ofNat 2))] lk_J0_335 (by decide +kernel) rfl (by decide) rfl (Nat.le_of_ble_eq_true rfl) (Nat.le_of_ble_eq_true rfl) ((t_J0_coder_7d493_64x1 rfl).up (by decide)) ?_
  refine ax_Tgo [.ishr] (pc' := 10) (L' := [some (.inr (64, 1))]) (st' := [.inl (.int ((Int32.ofNat 2) >>> ((0 : Int32) &&& 31)))]) (S' := S) ok_J0_length_8abf5.1 (by decide +kernel) rfl rfl ?_
  cases h
  exact ax_Treti (by decide +kernel) rfl rfl
def f_J0_isLatin1_aae02_64x1 (S : AS) : Option (Int32) := some (1 : Int32)
set_option maxRecDepth 100000 in
theorem t_J0_isLatin1_aae02_64x1 {l : Launch} {S : AS} {r : Int32} (h : f_J0_isLatin1_aae02_64x1 S = some r) : ax_M l 0 ma_J0_isLatin1_aae02 [.inr (64, 1)] S (some (.inl (.int r))) S := by
  unfold f_J0_isLatin1_aae02_64x1 at h
  show ax_T l 0 ma_J0_isLatin1_aae02 (0, [some (.inr (64, 1))], [], S) (some (.inl (.int r))) S
  refine ax_Tgo [.getstatic 38] (pc' := 3) (L' := [some (.inr (64, 1))]) (st' := [.inl (.int (1 : Int32))]) (S' := S) ok_J0_isLatin1_aae02.1 (by decide +kernel) rfl rfl ?_
  refine ax_Tif_eq (off := 14) (tgt := 17) (by decide +kernel) (by decide) (fun c1 => absurd c1 (by decide)) (fun _ => ?_)
  refine ax_Tgo [.aload_n 0, .getfield 15] (pc' := 10) (L' := [some (.inr (64, 1))]) (st' := [.inl (.int (0 : Int32))]) (S' := S) ok_J0_isLatin1_aae02.1 (by decide +kernel) rfl rfl ?_
  refine ax_Tif_ne (off := 7) (tgt := 17) (by decide +kernel) (by decide) (fun c2 => absurd rfl c2) (fun _ => ?_)
  refine ax_Tgo [.iconst 1] (pc' := 14) (L' := [some (.inr (64, 1))]) (st' := [.inl (.int (1 : Int32))]) (S' := S) ok_J0_isLatin1_aae02.1 (by decide +kernel) rfl rfl ?_
  refine ax_Tgoto (off := 4) (tgt := 18) (by decide +kernel) (by decide) ?_
  cases h
  exact ax_Treti (by decide +kernel) rfl rfl
def f_J1_canEncode_9a6ad (a0 : Int32) (S : AS) : Option (Int32) := (if a0 < (0 : Int32) then some (0 : Int32) else (if (255 : Int32) < a0 then some (0 : Int32) else some (1 : Int32)))
set_option maxRecDepth 100000 in
theorem t_J1_canEncode_9a6ad {l : Launch} {a0 : Int32} {S : AS} {r : Int32} (h : f_J1_canEncode_9a6ad a0 S = some r) : ax_M l 0 ma_J1_canEncode_9a6ad [.inl (.int a0)] S (some (.inl (.int r))) S := by
  unfold f_J1_canEncode_9a6ad at h
  show ax_T l 0 ma_J1_canEncode_9a6ad (0, [some (.inl (.int a0))], [], S) (some (.inl (.int r))) S
  refine ax_Tgo [.iload_n 0] (pc' := 1) (L' := [some (.inl (.int a0))]) (st' := [.inl (.int a0)]) (S' := S) ok_J1_canEncode_9a6ad.1 (by decide +kernel) rfl rfl ?_
  refine ax_Tif_lt (off := 14) (tgt := 15) (by decide +kernel) (by decide) (fun c1 => ?_) (fun c1 => ?_)
  · rw [if_pos c1] at h
    refine ax_Tgo [.iconst 0] (pc' := 16) (L' := [some (.inl (.int a0))]) (st' := [.inl (.int (0 : Int32))]) (S' := S) ok_J1_canEncode_9a6ad.1 (by decide +kernel) rfl rfl ?_
    cases h
    exact ax_Treti (by decide +kernel) rfl rfl
  · rw [if_neg c1] at h
    refine ax_Tgo [.iload_n 0, .sipush 255] (pc' := 8) (L' := [some (.inl (.int a0))]) (st' := [.inl (.int (255 : Int32)), .inl (.int a0)]) (S' := S) ok_J1_canEncode_9a6ad.1 (by decide +kernel) rfl rfl ?_
    refine ax_Tic_gt (off := 7) (tgt := 15) (by decide +kernel) (by decide) (fun c2 => ?_) (fun c2 => ?_)
    · rw [if_pos c2] at h
      refine ax_Tgo [.iconst 0] (pc' := 16) (L' := [some (.inl (.int a0))]) (st' := [.inl (.int (0 : Int32))]) (S' := S) ok_J1_canEncode_9a6ad.1 (by decide +kernel) rfl rfl ?_
      cases h
      exact ax_Treti (by decide +kernel) rfl rfl
    · rw [if_neg c2] at h
      refine ax_Tgo [.iconst 1] (pc' := 12) (L' := [some (.inl (.int a0))]) (st' := [.inl (.int (1 : Int32))]) (S' := S) ok_J1_canEncode_9a6ad.1 (by decide +kernel) rfl rfl ?_
      refine ax_Tgoto (off := 4) (tgt := 16) (by decide +kernel) (by decide) ?_
      cases h
      exact ax_Treti (by decide +kernel) rfl rfl
def f_J1_indexOfChar_4cfef_65_L7 (S : AS) : Nat → Nat → Int32 → Int32 → Int32 → Option (Int32)
  | 0, _, _, _, _ => none
  | n + 1, y2, x3, x4, x5 => (if x3 ≤ x5 then some (Int32.ofInt (-1)) else ax_gd (ax_in x5 (ax_ln S 65 y2)) ((if (ax_rd S 65 y2 x5.toNatClampNeg) = x4 then some x5 else ax_let (x5 + (1 : Int32)) (fun (v9 : Int32) => f_J1_indexOfChar_4cfef_65_L7 S n y2 x3 x4 v9))))
def f_J1_indexOfChar_4cfef_65 (i0 : Nat) (a1 : Int32) (a2 : Int32) (a3 : Int32) (S : AS) : Option (Int32) := ax_let (a1.toInt8.toInt32) (fun (v1 : Int32) => f_J1_indexOfChar_4cfef_65_L7 S ax_F i0 a3 v1 a2)
set_option maxRecDepth 100000 in
theorem t_J1_indexOfChar_4cfef_65_L7 {l : Launch} {S : AS} : ∀ (n : Nat) (y2 : Nat) (x3 : Int32) (x4 : Int32) (x5 : Int32) r, f_J1_indexOfChar_4cfef_65_L7 S n y2 x3 x4 x5  = some r → ax_T l 0 ma_J1_indexOfChar_4cfef (7, [some (.inr (65, y2)), none, none, some (.inl (.int x3)), some (.inl (.int x4)), some (.inl (.int x5))], [], S) (some (.inl (.int r))) S := by
  intro n
  induction n with
  | zero =>
    intro y2 x3 x4 x5  r h
    cases h
  | succ n ih =>
    intro y2 x3 x4 x5  r h
    unfold f_J1_indexOfChar_4cfef_65_L7 at h
    refine ax_Tgo [.iload 5, .iload_n 3] (pc' := 10) (L' := [some (.inr (65, y2)), none, none, some (.inl (.int x3)), some (.inl (.int x4)), some (.inl (.int x5))]) (st' := [.inl (.int x3), .inl (.int x5)]) (S' := S) ok_J1_indexOfChar_4cfef.1 (by decide +kernel) rfl rfl ?_
    refine ax_Tic_ge (off := 21) (tgt := 31) (by decide +kernel) (by decide) (fun c6 => ?_) (fun c6 => ?_)
    · rw [if_pos c6] at h
      refine ax_Tgo [.iconst (-1)] (pc' := 32) (L' := [some (.inr (65, y2)), none, none, some (.inl (.int x3)), some (.inl (.int x4)), some (.inl (.int x5))]) (st' := [.inl (.int (Int32.ofInt (-1)))]) (S' := S) ok_J1_indexOfChar_4cfef.1 (by decide +kernel) rfl rfl ?_
      cases h
      exact ax_Treti (by decide +kernel) rfl rfl
    · rw [if_neg c6] at h
      refine ax_Tgo [.aload_n 0, .iload 5] (pc' := 16) (L' := [some (.inr (65, y2)), none, none, some (.inl (.int x3)), some (.inl (.int x4)), some (.inl (.int x5))]) (st' := [.inl (.int x5), .inr (65, y2)]) (S' := S) ok_J1_indexOfChar_4cfef.1 (by decide +kernel) rfl rfl ?_
      obtain ⟨g7, h⟩ := ax_gd_e h
      refine ax_Tabc (n := (ax_ln S 65 y2)) ok_J1_indexOfChar_4cfef.1 (by decide +kernel) (by decide) rfl g7 ?_
      refine ax_Tgo [.iload 4] (pc' := 19) (L' := [some (.inr (65, y2)), none, none, some (.inl (.int x3)), some (.inl (.int x4)), some (.inl (.int x5))]) (st' := [.inl (.int x4), .inl (.int (ax_rd S 65 y2 x5.toNatClampNeg))]) (S' := S) ok_J1_indexOfChar_4cfef.1 (by decide +kernel) rfl rfl ?_
      refine ax_Tic_ne (off := 6) (tgt := 25) (by decide +kernel) (by decide) (fun c8 => ?_) (fun c8 => ?_)
      · rw [if_neg c8] at h
        refine ax_Tgo [.iinc 5 1] (pc' := 28) (L' := [some (.inr (65, y2)), none, none, some (.inl (.int x3)), some (.inl (.int x4)), some (.inl (.int (x5 + (1 : Int32))))]) (st' := []) (S' := S) ok_J1_indexOfChar_4cfef.1 (by decide +kernel) rfl rfl ?_
        obtain ⟨v9, ev9, h⟩ := ax_let_e h
        rw [ev9]
        refine ax_Tgoto (off := (-21)) (tgt := 7) (by decide +kernel) (by decide) ?_
        exact ih y2 x3 x4 v9 _ h
      · rw [if_pos c8] at h
        refine ax_Tgo [.iload 5] (pc' := 24) (L' := [some (.inr (65, y2)), none, none, some (.inl (.int x3)), some (.inl (.int x4)), some (.inl (.int x5))]) (st' := [.inl (.int x5)]) (S' := S) ok_J1_indexOfChar_4cfef.1 (by decide +kernel) rfl rfl ?_
        cases h
        exact ax_Treti (by decide +kernel) rfl rfl
set_option maxRecDepth 100000 in
theorem t_J1_indexOfChar_4cfef_65 {l : Launch} {i0 : Nat} {a1 : Int32} {a2 : Int32} {a3 : Int32} {S : AS} {r : Int32} (h : f_J1_indexOfChar_4cfef_65 i0 a1 a2 a3 S = some r) : ax_M l 0 ma_J1_indexOfChar_4cfef [.inr (65, i0), .inl (.int a1), .inl (.int a2), .inl (.int a3)] S (some (.inl (.int r))) S := by
  unfold f_J1_indexOfChar_4cfef_65 at h
  show ax_T l 0 ma_J1_indexOfChar_4cfef (0, [some (.inr (65, i0)), some (.inl (.int a1)), some (.inl (.int a2)), some (.inl (.int a3)), none, none], [], S) (some (.inl (.int r))) S
  refine ax_Tgo [.iload_n 1, .i2b, .istore 4] (pc' := 4) (L' := [some (.inr (65, i0)), some (.inl (.int a1)), some (.inl (.int a2)), some (.inl (.int a3)), some (.inl (.int a1.toInt8.toInt32)), none]) (st' := []) (S' := S) ok_J1_indexOfChar_4cfef.1 (by decide +kernel) rfl rfl ?_
  obtain ⟨v1, ev1, h⟩ := ax_let_e h
  rw [ev1]
  refine ax_Tgo [.iload_n 2, .istore 5] (pc' := 7) (L' := [some (.inr (65, i0)), some (.inl (.int a1)), some (.inl (.int a2)), some (.inl (.int a3)), some (.inl (.int v1)), some (.inl (.int a2))]) (st' := []) (S' := S) ok_J1_indexOfChar_4cfef.1 (by decide +kernel) rfl rfl ?_
  refine ax_Tdrop [true, false, false, true, true, true] (L' := [some (.inr (65, i0)), none, none, some (.inl (.int a3)), some (.inl (.int v1)), some (.inl (.int a2))]) rfl ?_
  refine t_J1_indexOfChar_4cfef_65_L7 _ i0 a3 v1 a2 _ h
def f_J1_indexOf_4cfef_65 (i0 : Nat) (a1 : Int32) (a2 : Int32) (a3 : Int32) (S : AS) : Option (Int32) := (f_J1_canEncode_9a6ad a1 S).bind (fun (r4 : Int32) => (if r4 = (0 : Int32) then some (Int32.ofInt (-1)) else (f_J9_max_7cf53 a2 (0 : Int32) S).bind (fun (r9 : Int32) => (f_J9_min_7cf53 a3 (Int32.ofNat (ax_ln S 65 i0)) S).bind (fun (r13 : Int32) => (if r9 < r13 then (f_J1_indexOfChar_4cfef_65 i0 a1 r9 r13 S).bind (fun (r18 : Int32) => some r18) else some (Int32.ofInt (-1)))))))
set_option maxRecDepth 100000 in
theorem t_J1_indexOf_4cfef_65 {l : Launch} {i0 : Nat} {a1 : Int32} {a2 : Int32} {a3 : Int32} {S : AS} {r : Int32} (h : f_J1_indexOf_4cfef_65 i0 a1 a2 a3 S = some r) : ax_M l 1 ma_J1_indexOf_4cfef [.inr (65, i0), .inl (.int a1), .inl (.int a2), .inl (.int a3)] S (some (.inl (.int r))) S := by
  unfold f_J1_indexOf_4cfef_65 at h
  show ax_T l 1 ma_J1_indexOf_4cfef (0, [some (.inr (65, i0)), some (.inl (.int a1)), some (.inl (.int a2)), some (.inl (.int a3))], [], S) (some (.inl (.int r))) S
  refine ax_Tgo [.iload_n 1] (pc' := 1) (L' := [some (.inr (65, i0)), some (.inl (.int a1)), some (.inl (.int a2)), some (.inl (.int a3))]) (st' := [.inl (.int a1)]) (S' := S) ok_J1_indexOf_4cfef.1 (by decide +kernel) rfl rfl ?_
  obtain ⟨r4, hq2, h⟩ := ax_bd_e h
  refine ax_TSi (d := 0) [.inl (.int a1)] [] lk_J1_88 (by decide +kernel) rfl rfl (Nat.le_of_ble_eq_true rfl) (Nat.le_of_ble_eq_true rfl) ((t_J1_canEncode_9a6ad hq2).up (by decide)) ?_
  refine ax_Tif_ne (off := 5) (tgt := 9) (by decide +kernel) (by decide) (fun c5 => ?_) (fun c5 => ?_)
  · rw [if_neg c5] at h
    refine ax_Tgo [.iload_n 2, .iconst 0] (pc' := 11) (L' := [some (.inr (65, i0)), some (.inl (.int a1)), some (.inl (.int a2)), some (.inl (.int a3))]) (st' := [.inl (.int (0 : Int32)), .inl (.int a2)]) (S' := S) ok_J1_indexOf_4cfef.1 (by decide +kernel) rfl rfl ?_
    obtain ⟨r9, hq7, h⟩ := ax_bd_e h
    refine ax_TSi (d := 0) [.inl (.int a2), .inl (.int (0 : Int32))] [] lk_J1_92 (by decide +kernel) rfl rfl (Nat.le_of_ble_eq_true rfl) (Nat.le_of_ble_eq_true rfl) ((t_J9_max_7cf53 hq7).up (by decide)) ?_
    refine ax_Tgo [.istore_n 2, .iload_n 3, .aload_n 0, .arraylength] (pc' := 18) (L' := [some (.inr (65, i0)), some (.inl (.int a1)), some (.inl (.int r9)), some (.inl (.int a3))]) (st' := [.inl (.int (Int32.ofNat (ax_ln S 65 i0))), .inl (.int a3)]) (S' := S) ok_J1_indexOf_4cfef.1 (by decide +kernel) rfl rfl ?_
    obtain ⟨r13, hq11, h⟩ := ax_bd_e h
    refine ax_TSi (d := 0) [.inl (.int a3), .inl (.int (Int32.ofNat (ax_ln S 65 i0)))] [] lk_J1_38 (by decide +kernel) rfl rfl (Nat.le_of_ble_eq_true rfl) (Nat.le_of_ble_eq_true rfl) ((t_J9_min_7cf53 hq11).up (by decide)) ?_
    refine ax_Tgo [.istore_n 3, .iload_n 2, .iload_n 3] (pc' := 24) (L' := [some (.inr (65, i0)), some (.inl (.int a1)), some (.inl (.int r9)), some (.inl (.int r13))]) (st' := [.inl (.int r13), .inl (.int r9)]) (S' := S) ok_J1_indexOf_4cfef.1 (by decide +kernel) rfl rfl ?_
    refine ax_Tic_lt (off := 5) (tgt := 29) (by decide +kernel) (by decide) (fun c14 => ?_) (fun c14 => ?_)
    · rw [if_pos c14] at h
      refine ax_Tgo [.aload_n 0, .iload_n 1, .iload_n 2, .iload_n 3] (pc' := 33) (L' := [some (.inr (65, i0)), some (.inl (.int a1)), some (.inl (.int r9)), some (.inl (.int r13))]) (st' := [.inl (.int r13), .inl (.int r9), .inl (.int a1), .inr (65, i0)]) (S' := S) ok_J1_indexOf_4cfef.1 (by decide +kernel) rfl rfl ?_
      obtain ⟨r18, hq16, h⟩ := ax_bd_e h
      refine ax_TSi (d := 0) [.inr (65, i0), .inl (.int a1), .inl (.int r9), .inl (.int r13)] [] lk_J1_95 (by decide +kernel) rfl rfl (Nat.le_of_ble_eq_true rfl) (Nat.le_of_ble_eq_true rfl) ((t_J1_indexOfChar_4cfef_65 hq16).up (by decide)) ?_
      cases h
      exact ax_Treti (by decide +kernel) rfl rfl
    · rw [if_neg c14] at h
      refine ax_Tgo [.iconst (-1)] (pc' := 28) (L' := [some (.inr (65, i0)), some (.inl (.int a1)), some (.inl (.int r9)), some (.inl (.int r13))]) (st' := [.inl (.int (Int32.ofInt (-1)))]) (S' := S) ok_J1_indexOf_4cfef.1 (by decide +kernel) rfl rfl ?_
      cases h
      exact ax_Treti (by decide +kernel) rfl rfl
  · rw [if_pos c5] at h
    refine ax_Tgo [.iconst (-1)] (pc' := 8) (L' := [some (.inr (65, i0)), some (.inl (.int a1)), some (.inl (.int a2)), some (.inl (.int a3))]) (st' := [.inl (.int (Int32.ofInt (-1)))]) (S' := S) ok_J1_indexOf_4cfef.1 (by decide +kernel) rfl rfl ?_
    cases h
    exact ax_Treti (by decide +kernel) rfl rfl
def f_J0_indexOf_7cf53_64x1 (a1 : Int32) (a2 : Int32) (S : AS) : Option (Int32) := (f_J1_indexOf_4cfef_65 1 a1 a2 ((Int32.ofNat 2) >>> ((0 : Int32) &&& 31)) S).bind (fun (r11 : Int32) => some r11)
set_option maxRecDepth 100000 in
theorem t_J0_indexOf_7cf53_64x1 {l : Launch} {a1 : Int32} {a2 : Int32} {S : AS} {r : Int32} (h : f_J0_indexOf_7cf53_64x1 a1 a2 S = some r) : ax_M l 2 ma_J0_indexOf_7cf53 [.inr (64, 1), .inl (.int a1), .inl (.int a2)] S (some (.inl (.int r))) S := by
  unfold f_J0_indexOf_7cf53_64x1 at h
  show ax_T l 2 ma_J0_indexOf_7cf53 (0, [some (.inr (64, 1)), some (.inl (.int a1)), some (.inl (.int a2))], [], S) (some (.inl (.int r))) S
  refine ax_Tgo [.aload_n 0] (pc' := 1) (L' := [some (.inr (64, 1)), some (.inl (.int a1)), some (.inl (.int a2))]) (st' := [.inr (64, 1)]) (S' := S) ok_J0_indexOf_7cf53.1 (by decide +kernel) rfl rfl ?_
  refine ax_TVi (d := 1) (ka := 64) (i := 1) [] [] lk_J0_492 (by decide +kernel) rfl (by decide) rfl (Nat.le_of_ble_eq_true rfl) (Nat.le_of_ble_eq_true rfl) ((t_J0_isLatin1_aae02_64x1 rfl).up (by decide)) ?_
  refine ax_Tif_eq (off := 19) (tgt := 23) (by decide +kernel) (by decide) (fun c4 => absurd c4 (by decide)) (fun _ => ?_)
  refine ax_Tgo [.aload_n 0, .getfield 9, .iload_n 1, .iload_n 2, .aload_n 0] (pc' := 14) (L' := [some (.inr (64, 1)), some (.inl (.int a1)), some (.inl (.int a2))]) (st' := [.inr (64, 1), .inl (.int a2), .inl (.int a1), .inr (65, 1)]) (S' := S) ok_J0_indexOf_7cf53.1 (by decide +kernel) rfl rfl ?_
  refine ax_TVi (d := 1) (ka := 64) (i := 1) [] [.inl (.int a2), .inl (.int a1), .inr (65, 1)] lk_J0_505 (by decide +kernel) rfl (by decide) rfl (Nat.le_of_ble_eq_true rfl) (Nat.le_of_ble_eq_true rfl) ((t_J0_length_8abf5_64x1 rfl).up (by decide)) ?_
  obtain ⟨r11, hq9, h⟩ := ax_bd_e h
  refine ax_TSi (d := 1) [.inr (65, 1), .inl (.int a1), .inl (.int a2), .inl (.int ((Int32.ofNat 2) >>> ((0 : Int32) &&& 31)))] [] lk_J0_637 (by decide +kernel) rfl rfl (Nat.le_of_ble_eq_true rfl) (Nat.le_of_ble_eq_true rfl) ((t_J1_indexOf_4cfef_65 hq9).up (by decide)) ?_
  refine ax_Tgoto (off := 16) (tgt := 36) (by decide +kernel) (by decide) ?_
  cases h
  exact ax_Treti (by decide +kernel) rfl rfl
def f_J0_indexOf_0f7a4_64x1 (a1 : Int32) (S : AS) : Option (Int32) := (f_J0_indexOf_7cf53_64x1 a1 (0 : Int32) S).bind (fun (r4 : Int32) => some r4)
set_option maxRecDepth 100000 in
theorem t_J0_indexOf_0f7a4_64x1 {l : Launch} {a1 : Int32} {S : AS} {r : Int32} (h : f_J0_indexOf_0f7a4_64x1 a1 S = some r) : ax_M l 3 ma_J0_indexOf_0f7a4 [.inr (64, 1), .inl (.int a1)] S (some (.inl (.int r))) S := by
  unfold f_J0_indexOf_0f7a4_64x1 at h
  show ax_T l 3 ma_J0_indexOf_0f7a4 (0, [some (.inr (64, 1)), some (.inl (.int a1))], [], S) (some (.inl (.int r))) S
  refine ax_Tgo [.aload_n 0, .iload_n 1, .iconst 0] (pc' := 3) (L' := [some (.inr (64, 1)), some (.inl (.int a1))]) (st' := [.inl (.int (0 : Int32)), .inl (.int a1), .inr (64, 1)]) (S' := S) ok_J0_indexOf_0f7a4.1 (by decide +kernel) rfl rfl ?_
  obtain ⟨r4, hq2, h⟩ := ax_bd_e h
  refine ax_TVi (d := 2) (ka := 64) (i := 1) [.inl (.int a1), .inl (.int (0 : Int32))] [] lk_J0_633 (by decide +kernel) rfl (by decide) rfl (Nat.le_of_ble_eq_true rfl) (Nat.le_of_ble_eq_true rfl) ((t_J0_indexOf_7cf53_64x1 hq2).up (by decide)) ?_
  cases h
  exact ax_Treti (by decide +kernel) rfl rfl
def f_X10_isDigit (a0 : Int32) (S : AS) : Option (Int32) := (if a0 < (48 : Int32) then some (0 : Int32) else (if (57 : Int32) < a0 then some (0 : Int32) else some (1 : Int32)))
set_option maxRecDepth 100000 in
theorem t_X10_isDigit {l : Launch} {a0 : Int32} {S : AS} {r : Int32} (h : f_X10_isDigit a0 S = some r) : ax_M l 0 ma_X10_isDigit [.inl (.int a0)] S (some (.inl (.int r))) S := by
  unfold f_X10_isDigit at h
  show ax_T l 0 ma_X10_isDigit (0, [some (.inl (.int a0))], [], S) (some (.inl (.int r))) S
  refine ax_Tgo [.iload_n 0, .bipush 48] (pc' := 3) (L' := [some (.inl (.int a0))]) (st' := [.inl (.int (48 : Int32)), .inl (.int a0)]) (S' := S) ok_X10_isDigit.1 (by decide +kernel) rfl rfl ?_
  refine ax_Tic_lt (off := 13) (tgt := 16) (by decide +kernel) (by decide) (fun c1 => ?_) (fun c1 => ?_)
  · rw [if_pos c1] at h
    refine ax_Tgo [.iconst 0] (pc' := 17) (L' := [some (.inl (.int a0))]) (st' := [.inl (.int (0 : Int32))]) (S' := S) ok_X10_isDigit.1 (by decide +kernel) rfl rfl ?_
    cases h
    exact ax_Treti (by decide +kernel) rfl rfl
  · rw [if_neg c1] at h
    refine ax_Tgo [.iload_n 0, .bipush 57] (pc' := 9) (L' := [some (.inl (.int a0))]) (st' := [.inl (.int (57 : Int32)), .inl (.int a0)]) (S' := S) ok_X10_isDigit.1 (by decide +kernel) rfl rfl ?_
    refine ax_Tic_gt (off := 7) (tgt := 16) (by decide +kernel) (by decide) (fun c2 => ?_) (fun c2 => ?_)
    · rw [if_pos c2] at h
      refine ax_Tgo [.iconst 0] (pc' := 17) (L' := [some (.inl (.int a0))]) (st' := [.inl (.int (0 : Int32))]) (S' := S) ok_X10_isDigit.1 (by decide +kernel) rfl rfl ?_
      cases h
      exact ax_Treti (by decide +kernel) rfl rfl
    · rw [if_neg c2] at h
      refine ax_Tgo [.iconst 1] (pc' := 13) (L' := [some (.inl (.int a0))]) (st' := [.inl (.int (1 : Int32))]) (S' := S) ok_X10_isDigit.1 (by decide +kernel) rfl rfl ?_
      refine ax_Tgoto (off := 4) (tgt := 17) (by decide +kernel) (by decide) ?_
      cases h
      exact ax_Treti (by decide +kernel) rfl rfl
def f_X10_here (S : AS) : Option (Int32) := (if (ax_fi S 10 0 1) ≤ (ax_fi S 10 0 2) then some (0 : Int32) else ax_gd (ax_in (ax_fi S 10 0 2) 240) (some (ax_ai S 40 0 (ax_fi S 10 0 2).toNatClampNeg)))
set_option maxRecDepth 100000 in
theorem t_X10_here {l : Launch} {S : AS} {r : Int32} (h : f_X10_here S = some r) : ax_M l 0 ma_X10_here [.inr (10, 0)] S (some (.inl (.int r))) S := by
  unfold f_X10_here at h
  show ax_T l 0 ma_X10_here (0, [some (.inr (10, 0))], [], S) (some (.inl (.int r))) S
  refine ax_Tgo [.aload_n 0, .getfield 19, .aload_n 0, .getfield 15] (pc' := 8) (L' := [some (.inr (10, 0))]) (st' := [.inl (.int (ax_fi S 10 0 1)), .inl (.int (ax_fi S 10 0 2))]) (S' := S) ok_X10_here.1 (by decide +kernel) rfl rfl ?_
  refine ax_Tic_ge (off := 15) (tgt := 23) (by decide +kernel) (by decide) (fun c1 => ?_) (fun c1 => ?_)
  · rw [if_pos c1] at h
    refine ax_Tgo [.iconst 0] (pc' := 24) (L' := [some (.inr (10, 0))]) (st' := [.inl (.int (0 : Int32))]) (S' := S) ok_X10_here.1 (by decide +kernel) rfl rfl ?_
    cases h
    exact ax_Treti (by decide +kernel) rfl rfl
  · rw [if_neg c1] at h
    refine ax_Tgo [.aload_n 0, .getfield 11, .aload_n 0, .getfield 19] (pc' := 19) (L' := [some (.inr (10, 0))]) (st' := [.inl (.int (ax_fi S 10 0 2)), .inr (40, 0)]) (S' := S) ok_X10_here.1 (by decide +kernel) rfl rfl ?_
    obtain ⟨g2, h⟩ := ax_gd_e h
    refine ax_Tali (n := 240) ok_X10_here.1 (by decide +kernel) (by decide) rfl g2 ?_
    refine ax_Tgoto (off := 4) (tgt := 24) (by decide +kernel) (by decide) ?_
    cases h
    exact ax_Treti (by decide +kernel) rfl rfl
def f_X10_fail (S : AS) : Option (AS) := (if (ax_fi S 10 0 3) = (Int32.ofInt (-1)) then ax_let (ax_sfi S 10 0 3 (ax_fi S 10 0 2)) (fun (S2 : AS) => some S2) else some S)
set_option maxRecDepth 100000 in
theorem t_X10_fail {l : Launch} {S Z : AS} (h : f_X10_fail S = some Z) : ax_M l 0 ma_X10_fail [.inr (10, 0)] S none Z := by
  unfold f_X10_fail at h
  show ax_T l 0 ma_X10_fail (0, [some (.inr (10, 0))], [], S) none Z
  refine ax_Tgo [.aload_n 0, .getfield 22, .iconst (-1)] (pc' := 5) (L' := [some (.inr (10, 0))]) (st' := [.inl (.int (Int32.ofInt (-1))), .inl (.int (ax_fi S 10 0 3))]) (S' := S) ok_X10_fail.1 (by decide +kernel) rfl rfl ?_
  refine ax_Tic_ne (off := 11) (tgt := 16) (by decide +kernel) (by decide) (fun c1 => ?_) (fun c1 => ?_)
  · rw [if_neg c1] at h
    cases h
    exact ax_Tretv (by decide +kernel) rfl
  · rw [if_pos c1] at h
    refine ax_Tgo [.aload_n 0, .aload_n 0, .getfield 19, .putfield 22] (pc' := 16) (L' := [some (.inr (10, 0))]) (st' := []) (S' := (ax_sfi S 10 0 3 (ax_fi S 10 0 2))) ok_X10_fail.1 (by decide +kernel) rfl rfl ?_
    obtain ⟨S2, eS2, h⟩ := ax_let_e h
    rw [eS2]
    cases h
    exact ax_Tretv (by decide +kernel) rfl
def f_X10_number_L20 (K64 : Int32 → AS → Option (Int32 × AS)) : Nat → Int32 → Int32 → Int32 → AS → Option (Int32 × AS)
  | 0, _, _, _, _ => none
  | n + 1, x10, x11, x12, S14 => (if x10 ≤ x12 then K64 x11 S14 else (f_X10_here S14).bind (fun (r19 : Int32) => (f_X10_isDigit r19 S14).bind (fun (r23 : Int32) => (if r23 = (0 : Int32) then K64 x11 S14 else (f_X10_here S14).bind (fun (r28 : Int32) => ax_let ((x11 * (10 : Int32)) + (r28 - (48 : Int32))) (fun (v29 : Int32) => ax_let (ax_sfi S14 10 0 2 ((ax_fi S14 10 0 2) + (1 : Int32))) (fun (S30 : AS) => ax_let (x12 + (1 : Int32)) (fun (v31 : Int32) => f_X10_number_L20 K64 n x10 v29 v31 S30))))))))
def f_X10_number (a1 : Int32) (S : AS) : Option (Int32 × AS) := ax_bu (f_X10_peek S) (fun (r4 : Int32) (S1 : AS) => (f_X10_isDigit r4 S1).bind (fun (r8 : Int32) => (if r8 = (0 : Int32) then (f_X10_fail S1).bind (fun (S45 : AS) => some ((0 : Int32), S45)) else f_X10_number_L20 (fun (x13 : Int32) (S32 : AS) => (f_X10_here S32).bind (fun (r36 : Int32) => (f_X10_isDigit r36 S32).bind (fun (r40 : Int32) => (if r40 = (0 : Int32) then some (x13, S32) else (f_X10_fail S32).bind (fun (S42 : AS) => some (x13, S42)))))) ax_F a1 (0 : Int32) (0 : Int32) S1)))
set_option maxRecDepth 100000 in
theorem t_X10_number_L20 {l : Launch} {K64 : Int32 → AS → Option (Int32 × AS)} (hK64 : ∀ (x13 : Int32) (S : AS) r Z, K64 x13 S = some (r, Z) → ax_T l 1 ma_X10_number (64, [some (.inr (10, 0)), none, some (.inl (.int x13)), none], [], S) (some (.inl (.int r))) Z) : ∀ (n : Nat) (x10 : Int32) (x11 : Int32) (x12 : Int32) (S14 : AS) r Z, f_X10_number_L20 K64 n x10 x11 x12 S14 = some (r, Z) → ax_T l 1 ma_X10_number (20, [some (.inr (10, 0)), some (.inl (.int x10)), some (.inl (.int x11)), some (.inl (.int x12))], [], S14) (some (.inl (.int r))) Z := by
  intro n
  induction n with
  | zero =>
    intro x10 x11 x12 S14 r Z h
    cases h
  | succ n ih =>
    intro x10 x11 x12 S14 r Z h
    unfold f_X10_number_L20 at h
    refine ax_Tgo [.iload_n 3, .iload_n 1] (pc' := 22) (L' := [some (.inr (10, 0)), some (.inl (.int x10)), some (.inl (.int x11)), some (.inl (.int x12))]) (st' := [.inl (.int x10), .inl (.int x12)]) (S' := S14) ok_X10_number.1 (by decide +kernel) rfl rfl ?_
    refine ax_Tic_ge (off := 42) (tgt := 64) (by decide +kernel) (by decide) (fun c15 => ?_) (fun c15 => ?_)
    · rw [if_pos c15] at h
      refine ax_Tdrop [true, false, true, false] (L' := [some (.inr (10, 0)), none, some (.inl (.int x11)), none]) rfl ?_
      exact hK64 x11 S14 _ _ h
    · rw [if_neg c15] at h
      refine ax_Tgo [.aload_n 0] (pc' := 26) (L' := [some (.inr (10, 0)), some (.inl (.int x10)), some (.inl (.int x11)), some (.inl (.int x12))]) (st' := [.inr (10, 0)]) (S' := S14) ok_X10_number.1 (by decide +kernel) rfl rfl ?_
      obtain ⟨r19, hq17, h⟩ := ax_bd_e h
      refine ax_TVi (d := 0) (ka := 10) (i := 0) [] [] lk_X10_47 (by decide +kernel) rfl (by decide) rfl (Nat.le_of_ble_eq_true rfl) (Nat.le_of_ble_eq_true rfl) ((t_X10_here hq17).up (by decide)) ?_
      obtain ⟨r23, hq21, h⟩ := ax_bd_e h
      refine ax_TSi (d := 0) [.inl (.int r19)] [] lk_X10_43 (by decide +kernel) rfl rfl (Nat.le_of_ble_eq_true rfl) (Nat.le_of_ble_eq_true rfl) ((t_X10_isDigit hq21).up (by decide)) ?_
      refine ax_Tif_eq (off := 32) (tgt := 64) (by decide +kernel) (by decide) (fun c24 => ?_) (fun c24 => ?_)
      · rw [if_pos c24] at h
        refine ax_Tdrop [true, false, true, false] (L' := [some (.inr (10, 0)), none, some (.inl (.int x11)), none]) rfl ?_
        exact hK64 x11 S14 _ _ h
      · rw [if_neg c24] at h
        refine ax_Tgo [.iload_n 2, .bipush 10, .imul, .aload_n 0] (pc' := 40) (L' := [some (.inr (10, 0)), some (.inl (.int x10)), some (.inl (.int x11)), some (.inl (.int x12))]) (st' := [.inr (10, 0), .inl (.int (x11 * (10 : Int32)))]) (S' := S14) ok_X10_number.1 (by decide +kernel) rfl rfl ?_
        obtain ⟨r28, hq26, h⟩ := ax_bd_e h
        refine ax_TVi (d := 0) (ka := 10) (i := 0) [] [.inl (.int (x11 * (10 : Int32)))] lk_X10_47 (by decide +kernel) rfl (by decide) rfl (Nat.le_of_ble_eq_true rfl) (Nat.le_of_ble_eq_true rfl) ((t_X10_here hq26).up (by decide)) ?_
        refine ax_Tgo [.bipush 48, .isub, .iadd, .istore_n 2] (pc' := 48) (L' := [some (.inr (10, 0)), some (.inl (.int x10)), some (.inl (.int ((x11 * (10 : Int32)) + (r28 - (48 : Int32))))), some (.inl (.int x12))]) (st' := []) (S' := S14) ok_X10_number.1 (by decide +kernel) rfl rfl ?_
        obtain ⟨v29, ev29, h⟩ := ax_let_e h
        rw [ev29]
        refine ax_Tgo [.aload_n 0, .dup, .getfield 19, .iconst 1, .iadd, .putfield 19] (pc' := 58) (L' := [some (.inr (10, 0)), some (.inl (.int x10)), some (.inl (.int v29)), some (.inl (.int x12))]) (st' := []) (S' := (ax_sfi S14 10 0 2 ((ax_fi S14 10 0 2) + (1 : Int32)))) ok_X10_number.1 (by decide +kernel) rfl rfl ?_
        obtain ⟨S30, eS30, h⟩ := ax_let_e h
        rw [eS30]
        refine ax_Tgo [.iinc 3 1] (pc' := 61) (L' := [some (.inr (10, 0)), some (.inl (.int x10)), some (.inl (.int v29)), some (.inl (.int (x12 + (1 : Int32))))]) (st' := []) (S' := S30) ok_X10_number.1 (by decide +kernel) rfl rfl ?_
        obtain ⟨v31, ev31, h⟩ := ax_let_e h
        rw [ev31]
        refine ax_Tgoto (off := (-41)) (tgt := 20) (by decide +kernel) (by decide) ?_
        exact ih x10 v29 v31 S30 _ _ h
set_option maxRecDepth 100000 in
theorem t_X10_number {l : Launch} {a1 : Int32} {S Z : AS} {r : Int32} (h : f_X10_number a1 S = some (r, Z)) : ax_M l 1 ma_X10_number [.inr (10, 0), .inl (.int a1)] S (some (.inl (.int r))) Z := by
  unfold f_X10_number at h
  show ax_T l 1 ma_X10_number (0, [some (.inr (10, 0)), some (.inl (.int a1)), none, none], [], S) (some (.inl (.int r))) Z
  refine ax_Tgo [.aload_n 0] (pc' := 1) (L' := [some (.inr (10, 0)), some (.inl (.int a1)), none, none]) (st' := [.inr (10, 0)]) (S' := S) ok_X10_number.1 (by decide +kernel) rfl rfl ?_
  obtain ⟨r4, S1, hq2, h⟩ := ax_bu_e h
  refine ax_TVi (d := 0) (ka := 10) (i := 0) [] [] lk_X10_25 (by decide +kernel) rfl (by decide) rfl (Nat.le_of_ble_eq_true rfl) (Nat.le_of_ble_eq_true rfl) ((t_X10_peek hq2).up (by decide)) ?_
  obtain ⟨r8, hq6, h⟩ := ax_bd_e h
  refine ax_TSi (d := 0) [.inl (.int r4)] [] lk_X10_43 (by decide +kernel) rfl rfl (Nat.le_of_ble_eq_true rfl) (Nat.le_of_ble_eq_true rfl) ((t_X10_isDigit hq6).up (by decide)) ?_
  refine ax_Tif_ne (off := 9) (tgt := 16) (by decide +kernel) (by decide) (fun c9 => ?_) (fun c9 => ?_)
  · rw [if_neg c9] at h
    refine ax_Tgo [.iconst 0, .istore_n 2, .iconst 0, .istore_n 3] (pc' := 20) (L' := [some (.inr (10, 0)), some (.inl (.int a1)), some (.inl (.int (0 : Int32))), some (.inl (.int (0 : Int32)))]) (st' := []) (S' := S1) ok_X10_number.1 (by decide +kernel) rfl rfl ?_
    refine t_X10_number_L20 ?_ _ a1 (0 : Int32) (0 : Int32) S1 _ _ h
    · intro x13 S32 r Z h
      refine ax_Tgo [.aload_n 0] (pc' := 65) (L' := [some (.inr (10, 0)), none, some (.inl (.int x13)), none]) (st' := [.inr (10, 0)]) (S' := S32) ok_X10_number.1 (by decide +kernel) rfl rfl ?_
      obtain ⟨r36, hq34, h⟩ := ax_bd_e h
      refine ax_TVi (d := 0) (ka := 10) (i := 0) [] [] lk_X10_47 (by decide +kernel) rfl (by decide) rfl (Nat.le_of_ble_eq_true rfl) (Nat.le_of_ble_eq_true rfl) ((t_X10_here hq34).up (by decide)) ?_
      obtain ⟨r40, hq38, h⟩ := ax_bd_e h
      refine ax_TSi (d := 0) [.inl (.int r36)] [] lk_X10_43 (by decide +kernel) rfl rfl (Nat.le_of_ble_eq_true rfl) (Nat.le_of_ble_eq_true rfl) ((t_X10_isDigit hq38).up (by decide)) ?_
      refine ax_Tif_eq (off := 7) (tgt := 78) (by decide +kernel) (by decide) (fun c41 => ?_) (fun c41 => ?_)
      · rw [if_pos c41] at h
        refine ax_Tgo [.iload_n 2] (pc' := 79) (L' := [some (.inr (10, 0)), none, some (.inl (.int x13)), none]) (st' := [.inl (.int x13)]) (S' := S32) ok_X10_number.1 (by decide +kernel) rfl rfl ?_
        cases h
        exact ax_Treti (by decide +kernel) rfl rfl
      · rw [if_neg c41] at h
        refine ax_Tgo [.aload_n 0] (pc' := 75) (L' := [some (.inr (10, 0)), none, some (.inl (.int x13)), none]) (st' := [.inr (10, 0)]) (S' := S32) ok_X10_number.1 (by decide +kernel) rfl rfl ?_
        obtain ⟨S42, hq43, h⟩ := ax_bd_e h
        refine ax_TVv (d := 0) (ka := 10) (i := 0) [] [] lk_X10_32 (by decide +kernel) rfl (by decide) rfl (Nat.le_of_ble_eq_true rfl) (Nat.le_of_ble_eq_true rfl) ((t_X10_fail hq43).up (by decide)) ?_
        refine ax_Tgo [.iload_n 2] (pc' := 79) (L' := [some (.inr (10, 0)), none, some (.inl (.int x13)), none]) (st' := [.inl (.int x13)]) (S' := S42) ok_X10_number.1 (by decide +kernel) rfl rfl ?_
        cases h
        exact ax_Treti (by decide +kernel) rfl rfl
  · rw [if_pos c9] at h
    refine ax_Tgo [.aload_n 0] (pc' := 11) (L' := [some (.inr (10, 0)), some (.inl (.int a1)), none, none]) (st' := [.inr (10, 0)]) (S' := S1) ok_X10_number.1 (by decide +kernel) rfl rfl ?_
    obtain ⟨S45, hq46, h⟩ := ax_bd_e h
    refine ax_TVv (d := 0) (ka := 10) (i := 0) [] [] lk_X10_32 (by decide +kernel) rfl (by decide) rfl (Nat.le_of_ble_eq_true rfl) (Nat.le_of_ble_eq_true rfl) ((t_X10_fail hq46).up (by decide)) ?_
    refine ax_Tgo [.iconst 0] (pc' := 15) (L' := [some (.inr (10, 0)), some (.inl (.int a1)), none, none]) (st' := [.inl (.int (0 : Int32))]) (S' := S45) ok_X10_number.1 (by decide +kernel) rfl rfl ?_
    cases h
    exact ax_Treti (by decide +kernel) rfl rfl
def f_X10_failed (S : AS) : Option (Int32) := (if (ax_fi S 10 0 3) = (Int32.ofInt (-1)) then some (0 : Int32) else some (1 : Int32))
set_option maxRecDepth 100000 in
theorem t_X10_failed {l : Launch} {S : AS} {r : Int32} (h : f_X10_failed S = some r) : ax_M l 0 ma_X10_failed [.inr (10, 0)] S (some (.inl (.int r))) S := by
  unfold f_X10_failed at h
  show ax_T l 0 ma_X10_failed (0, [some (.inr (10, 0))], [], S) (some (.inl (.int r))) S
  refine ax_Tgo [.aload_n 0, .getfield 22, .iconst (-1)] (pc' := 5) (L' := [some (.inr (10, 0))]) (st' := [.inl (.int (Int32.ofInt (-1))), .inl (.int (ax_fi S 10 0 3))]) (S' := S) ok_X10_failed.1 (by decide +kernel) rfl rfl ?_
  refine ax_Tic_eq (off := 7) (tgt := 12) (by decide +kernel) (by decide) (fun c1 => ?_) (fun c1 => ?_)
  · rw [if_pos c1] at h
    refine ax_Tgo [.iconst 0] (pc' := 13) (L' := [some (.inr (10, 0))]) (st' := [.inl (.int (0 : Int32))]) (S' := S) ok_X10_failed.1 (by decide +kernel) rfl rfl ?_
    cases h
    exact ax_Treti (by decide +kernel) rfl rfl
  · rw [if_neg c1] at h
    refine ax_Tgo [.iconst 1] (pc' := 9) (L' := [some (.inr (10, 0))]) (st' := [.inl (.int (1 : Int32))]) (S' := S) ok_X10_failed.1 (by decide +kernel) rfl rfl ?_
    refine ax_Tgoto (off := 4) (tgt := 13) (by decide +kernel) (by decide) ?_
    cases h
    exact ax_Treti (by decide +kernel) rfl rfl
def f_X10_failAtLastDigit (S : AS) : Option (AS) := (if (ax_fi S 10 0 3) = (Int32.ofInt (-1)) then ax_let (ax_sfi S 10 0 3 ((ax_fi S 10 0 2) - (1 : Int32))) (fun (S2 : AS) => some S2) else some S)
set_option maxRecDepth 100000 in
theorem t_X10_failAtLastDigit {l : Launch} {S Z : AS} (h : f_X10_failAtLastDigit S = some Z) : ax_M l 0 ma_X10_failAtLastDigit [.inr (10, 0)] S none Z := by
  unfold f_X10_failAtLastDigit at h
  show ax_T l 0 ma_X10_failAtLastDigit (0, [some (.inr (10, 0))], [], S) none Z
  refine ax_Tgo [.aload_n 0, .getfield 22, .iconst (-1)] (pc' := 5) (L' := [some (.inr (10, 0))]) (st' := [.inl (.int (Int32.ofInt (-1))), .inl (.int (ax_fi S 10 0 3))]) (S' := S) ok_X10_failAtLastDigit.1 (by decide +kernel) rfl rfl ?_
  refine ax_Tic_ne (off := 13) (tgt := 18) (by decide +kernel) (by decide) (fun c1 => ?_) (fun c1 => ?_)
  · rw [if_neg c1] at h
    cases h
    exact ax_Tretv (by decide +kernel) rfl
  · rw [if_pos c1] at h
    refine ax_Tgo [.aload_n 0, .aload_n 0, .getfield 19, .iconst 1, .isub, .putfield 22] (pc' := 18) (L' := [some (.inr (10, 0))]) (st' := []) (S' := (ax_sfi S 10 0 3 ((ax_fi S 10 0 2) - (1 : Int32)))) ok_X10_failAtLastDigit.1 (by decide +kernel) rfl rfl ?_
    obtain ⟨S2, eS2, h⟩ := ax_let_e h
    rw [eS2]
    cases h
    exact ax_Tretv (by decide +kernel) rfl
def f_X4_readItems_64x1_66x4_66x5_28_L6 : Nat → Nat → Int32 → Int32 → Int32 → AS → Option (AS)
  | 0, _, _, _, _, _ => none
  | n + 1, y1, x2, x3, x4, S5 => (if ((Int32.ofNat 2) >>> ((0 : Int32) &&& 31)) < x4 then some S5 else ax_bu (f_X10_peek S5) (fun (r13 : Int32) (S10 : AS) => (f_J0_indexOf_0f7a4_64x1 (r13.toUInt32 % 65536).toInt32 S10).bind (fun (r17 : Int32) => (if (0 : Int32) ≤ r17 then (if ((x3 >>> (r17 &&& 31)) &&& (1 : Int32)) = (0 : Int32) then ax_let (x3 ||| ((1 : Int32) <<< (r17 &&& 31))) (fun (v20 : Int32) => (f_X10_pass S10).bind (fun (S21 : AS) => ax_bu (f_X10_number (2 : Int32) S21) (fun (r27 : Int32) (S24 : AS) => (f_X10_failed S24).bind (fun (r31 : Int32) => (if r31 = (0 : Int32) then ax_gd (ax_in r17 2) ((if r27 < (ax_rd S24 66 4 r17.toNatClampNeg) then (f_X10_failAtLastDigit S24).bind (fun (S35 : AS) => some S35) else ax_gd (ax_in r17 2) ((if r27 ≤ (ax_rd S24 66 5 r17.toNatClampNeg) then ax_gd (ax_in (x2 + r17) 8) (ax_let (ax_sai S24 28 y1 (x2 + r17).toNatClampNeg r27) (fun (S41 : AS) => ax_let (x4 + (1 : Int32)) (fun (v42 : Int32) => f_X4_readItems_64x1_66x4_66x5_28_L6 n y1 x2 v20 v42 S41))) else (f_X10_failAtLastDigit S24).bind (fun (S43 : AS) => some S43))))) else some S24))))) else (f_X10_fail S10).bind (fun (S46 : AS) => some S46)) else some S10))))
def f_X4_readItems_64x1_66x4_66x5_28 (i4 : Nat) (a5 : Int32) (S : AS) : Option (AS) := f_X4_readItems_64x1_66x4_66x5_28_L6 ax_F i4 a5 (0 : Int32) (0 : Int32) S
set_option maxRecDepth 100000 in
theorem t_X4_readItems_64x1_66x4_66x5_28_L6 {l : Launch} : ∀ (n : Nat) (y1 : Nat) (x2 : Int32) (x3 : Int32) (x4 : Int32) (S5 : AS) Z, f_X4_readItems_64x1_66x4_66x5_28_L6 n y1 x2 x3 x4 S5 = some Z → ax_T l 4 ma_X4_readItems (6, [some (.inr (10, 0)), some (.inr (64, 1)), some (.inr (66, 4)), some (.inr (66, 5)), some (.inr (28, y1)), some (.inl (.int x2)), some (.inl (.int x3)), some (.inl (.int x4)), none, none], [], S5) none Z := by
  intro n
  induction n with
  | zero =>
    intro y1 x2 x3 x4 S5 Z h
    cases h
  | succ n ih =>
    intro y1 x2 x3 x4 S5 Z h
    unfold f_X4_readItems_64x1_66x4_66x5_28_L6 at h
    refine ax_Tgo [.iload 7, .aload_n 1] (pc' := 9) (L' := [some (.inr (10, 0)), some (.inr (64, 1)), some (.inr (66, 4)), some (.inr (66, 5)), some (.inr (28, y1)), some (.inl (.int x2)), some (.inl (.int x3)), some (.inl (.int x4)), none, none]) (st' := [.inr (64, 1), .inl (.int x4)]) (S' := S5) ok_X4_readItems.1 (by decide +kernel) rfl rfl ?_
    refine ax_TVi (d := 3) (ka := 64) (i := 1) [] [.inl (.int x4)] lk_X4_123 (by decide +kernel) rfl (by decide) rfl (Nat.le_of_ble_eq_true rfl) (Nat.le_of_ble_eq_true rfl) ((t_J0_length_8abf5_64x1 rfl).up (by decide)) ?_
    refine ax_Tic_gt (off := 102) (tgt := 114) (by decide +kernel) (by decide) (fun c9 => ?_) (fun c9 => ?_)
    · rw [if_pos c9] at h
      cases h
      exact ax_Tretv (by decide +kernel) rfl
    · rw [if_neg c9] at h
      refine ax_Tgo [.aload_n 1, .aload_n 0] (pc' := 17) (L' := [some (.inr (10, 0)), some (.inr (64, 1)), some (.inr (66, 4)), some (.inr (66, 5)), some (.inr (28, y1)), some (.inl (.int x2)), some (.inl (.int x3)), some (.inl (.int x4)), none, none]) (st' := [.inr (10, 0), .inr (64, 1)]) (S' := S5) ok_X4_readItems.1 (by decide +kernel) rfl rfl ?_
      obtain ⟨r13, S10, hq11, h⟩ := ax_bu_e h
      refine ax_TVi (d := 3) (ka := 10) (i := 0) [] [.inr (64, 1)] lk_X4_74 (by decide +kernel) rfl (by decide) rfl (Nat.le_of_ble_eq_true rfl) (Nat.le_of_ble_eq_true rfl) ((t_X10_peek hq11).up (by decide)) ?_
      refine ax_Tgo [.i2c] (pc' := 21) (L' := [some (.inr (10, 0)), some (.inr (64, 1)), some (.inr (66, 4)), some (.inr (66, 5)), some (.inr (28, y1)), some (.inl (.int x2)), some (.inl (.int x3)), some (.inl (.int x4)), none, none]) (st' := [.inl (.int (r13.toUInt32 % 65536).toInt32), .inr (64, 1)]) (S' := S10) ok_X4_readItems.1 (by decide +kernel) rfl rfl ?_
      obtain ⟨r17, hq15, h⟩ := ax_bd_e h
      refine ax_TVi (d := 3) (ka := 64) (i := 1) [.inl (.int (r13.toUInt32 % 65536).toInt32)] [] lk_X4_128 (by decide +kernel) rfl (by decide) rfl (Nat.le_of_ble_eq_true rfl) (Nat.le_of_ble_eq_true rfl) ((t_J0_indexOf_0f7a4_64x1 hq15).up (by decide)) ?_
      refine ax_Tgo [.istore 8, .iload 8] (pc' := 28) (L' := [some (.inr (10, 0)), some (.inr (64, 1)), some (.inr (66, 4)), some (.inr (66, 5)), some (.inr (28, y1)), some (.inl (.int x2)), some (.inl (.int x3)), some (.inl (.int x4)), some (.inl (.int r17)), none]) (st' := [.inl (.int r17)]) (S' := S10) ok_X4_readItems.1 (by decide +kernel) rfl rfl ?_
      refine ax_Tif_ge (off := 4) (tgt := 32) (by decide +kernel) (by decide) (fun c18 => ?_) (fun c18 => ?_)
      · rw [if_pos c18] at h
        refine ax_Tgo [.iload 6, .iload 8, .ishr, .iconst 1, .iand] (pc' := 39) (L' := [some (.inr (10, 0)), some (.inr (64, 1)), some (.inr (66, 4)), some (.inr (66, 5)), some (.inr (28, y1)), some (.inl (.int x2)), some (.inl (.int x3)), some (.inl (.int x4)), some (.inl (.int r17)), none]) (st' := [.inl (.int ((x3 >>> (r17 &&& 31)) &&& (1 : Int32)))]) (S' := S10) ok_X4_readItems.1 (by decide +kernel) rfl rfl ?_
        refine ax_Tif_eq (off := 8) (tgt := 47) (by decide +kernel) (by decide) (fun c19 => ?_) (fun c19 => ?_)
        · rw [if_pos c19] at h
          refine ax_Tgo [.iload 6, .iconst 1, .iload 8, .ishl, .ior, .istore 6] (pc' := 56) (L' := [some (.inr (10, 0)), some (.inr (64, 1)), some (.inr (66, 4)), some (.inr (66, 5)), some (.inr (28, y1)), some (.inl (.int x2)), some (.inl (.int (x3 ||| ((1 : Int32) <<< (r17 &&& 31))))), some (.inl (.int x4)), some (.inl (.int r17)), none]) (st' := []) (S' := S10) ok_X4_readItems.1 (by decide +kernel) rfl rfl ?_
          obtain ⟨v20, ev20, h⟩ := ax_let_e h
          rw [ev20]
          refine ax_Tgo [.aload_n 0] (pc' := 57) (L' := [some (.inr (10, 0)), some (.inr (64, 1)), some (.inr (66, 4)), some (.inr (66, 5)), some (.inr (28, y1)), some (.inl (.int x2)), some (.inl (.int v20)), some (.inl (.int x4)), some (.inl (.int r17)), none]) (st' := [.inr (10, 0)]) (S' := S10) ok_X4_readItems.1 (by decide +kernel) rfl rfl ?_
          obtain ⟨S21, hq22, h⟩ := ax_bd_e h
          refine ax_TVv (d := 3) (ka := 10) (i := 0) [] [] lk_X4_86 (by decide +kernel) rfl (by decide) rfl (Nat.le_of_ble_eq_true rfl) (Nat.le_of_ble_eq_true rfl) ((t_X10_pass hq22).up (by decide)) ?_
          refine ax_Tgo [.aload_n 0, .iconst 2] (pc' := 62) (L' := [some (.inr (10, 0)), some (.inr (64, 1)), some (.inr (66, 4)), some (.inr (66, 5)), some (.inr (28, y1)), some (.inl (.int x2)), some (.inl (.int v20)), some (.inl (.int x4)), some (.inl (.int r17)), none]) (st' := [.inl (.int (2 : Int32)), .inr (10, 0)]) (S' := S21) ok_X4_readItems.1 (by decide +kernel) rfl rfl ?_
          obtain ⟨r27, S24, hq25, h⟩ := ax_bu_e h
          refine ax_TVi (d := 3) (ka := 10) (i := 0) [.inl (.int (2 : Int32))] [] lk_X4_132 (by decide +kernel) rfl (by decide) rfl (Nat.le_of_ble_eq_true rfl) (Nat.le_of_ble_eq_true rfl) ((t_X10_number hq25).up (by decide)) ?_
          refine ax_Tgo [.istore 9, .aload_n 0] (pc' := 68) (L' := [some (.inr (10, 0)), some (.inr (64, 1)), some (.inr (66, 4)), some (.inr (66, 5)), some (.inr (28, y1)), some (.inl (.int x2)), some (.inl (.int v20)), some (.inl (.int x4)), some (.inl (.int r17)), some (.inl (.int r27))]) (st' := [.inr (10, 0)]) (S' := S24) ok_X4_readItems.1 (by decide +kernel) rfl rfl ?_
          obtain ⟨r31, hq29, h⟩ := ax_bd_e h
          refine ax_TVi (d := 3) (ka := 10) (i := 0) [] [] lk_X4_58 (by decide +kernel) rfl (by decide) rfl (Nat.le_of_ble_eq_true rfl) (Nat.le_of_ble_eq_true rfl) ((t_X10_failed hq29).up (by decide)) ?_
          refine ax_Tif_eq (off := 4) (tgt := 75) (by decide +kernel) (by decide) (fun c32 => ?_) (fun c32 => ?_)
          · rw [if_pos c32] at h
            refine ax_Tgo [.iload 9, .aload_n 2, .iload 8] (pc' := 80) (L' := [some (.inr (10, 0)), some (.inr (64, 1)), some (.inr (66, 4)), some (.inr (66, 5)), some (.inr (28, y1)), some (.inl (.int x2)), some (.inl (.int v20)), some (.inl (.int x4)), some (.inl (.int r17)), some (.inl (.int r27))]) (st' := [.inl (.int r17), .inr (66, 4), .inl (.int r27)]) (S' := S24) ok_X4_readItems.1 (by decide +kernel) rfl rfl ?_
            obtain ⟨g33, h⟩ := ax_gd_e h
            refine ax_Talc (n := 2) ok_X4_readItems.1 (by decide +kernel) (by decide) rfl g33 ?_
            refine ax_Tic_lt (off := 12) (tgt := 93) (by decide +kernel) (by decide) (fun c34 => ?_) (fun c34 => ?_)
            · rw [if_pos c34] at h
              refine ax_Tgo [.aload_n 0] (pc' := 94) (L' := [some (.inr (10, 0)), some (.inr (64, 1)), some (.inr (66, 4)), some (.inr (66, 5)), some (.inr (28, y1)), some (.inl (.int x2)), some (.inl (.int v20)), some (.inl (.int x4)), some (.inl (.int r17)), some (.inl (.int r27))]) (st' := [.inr (10, 0)]) (S' := S24) ok_X4_readItems.1 (by decide +kernel) rfl rfl ?_
              obtain ⟨S35, hq36, h⟩ := ax_bd_e h
              refine ax_TVv (d := 3) (ka := 10) (i := 0) [] [] lk_X4_135 (by decide +kernel) rfl (by decide) rfl (Nat.le_of_ble_eq_true rfl) (Nat.le_of_ble_eq_true rfl) ((t_X10_failAtLastDigit hq36).up (by decide)) ?_
              cases h
              exact ax_Tretv (by decide +kernel) rfl
            · rw [if_neg c34] at h
              refine ax_Tgo [.iload 9, .aload_n 3, .iload 8] (pc' := 89) (L' := [some (.inr (10, 0)), some (.inr (64, 1)), some (.inr (66, 4)), some (.inr (66, 5)), some (.inr (28, y1)), some (.inl (.int x2)), some (.inl (.int v20)), some (.inl (.int x4)), some (.inl (.int r17)), some (.inl (.int r27))]) (st' := [.inl (.int r17), .inr (66, 5), .inl (.int r27)]) (S' := S24) ok_X4_readItems.1 (by decide +kernel) rfl rfl ?_
              obtain ⟨g38, h⟩ := ax_gd_e h
              refine ax_Talc (n := 2) ok_X4_readItems.1 (by decide +kernel) (by decide) rfl g38 ?_
              refine ax_Tic_le (off := 8) (tgt := 98) (by decide +kernel) (by decide) (fun c39 => ?_) (fun c39 => ?_)
              · rw [if_pos c39] at h
                refine ax_Tgo [.aload 4, .iload 5, .iload 8, .iadd, .iload 9] (pc' := 107) (L' := [some (.inr (10, 0)), some (.inr (64, 1)), some (.inr (66, 4)), some (.inr (66, 5)), some (.inr (28, y1)), some (.inl (.int x2)), some (.inl (.int v20)), some (.inl (.int x4)), some (.inl (.int r17)), some (.inl (.int r27))]) (st' := [.inl (.int r27), .inl (.int (x2 + r17)), .inr (28, y1)]) (S' := S24) ok_X4_readItems.1 (by decide +kernel) rfl rfl ?_
                obtain ⟨g40, h⟩ := ax_gd_e h
                refine ax_Tasi (n := 8) ok_X4_readItems.1 (by decide +kernel) (by decide) rfl g40 ?_
                obtain ⟨S41, eS41, h⟩ := ax_let_e h
                rw [eS41]
                refine ax_Tgo [.iinc 7 1] (pc' := 111) (L' := [some (.inr (10, 0)), some (.inr (64, 1)), some (.inr (66, 4)), some (.inr (66, 5)), some (.inr (28, y1)), some (.inl (.int x2)), some (.inl (.int v20)), some (.inl (.int (x4 + (1 : Int32)))), some (.inl (.int r17)), some (.inl (.int r27))]) (st' := []) (S' := S41) ok_X4_readItems.1 (by decide +kernel) rfl rfl ?_
                obtain ⟨v42, ev42, h⟩ := ax_let_e h
                rw [ev42]
                refine ax_Tgoto (off := (-105)) (tgt := 6) (by decide +kernel) (by decide) ?_
                refine ax_Tdrop [true, true, true, true, true, true, true, true, false, false] (L' := [some (.inr (10, 0)), some (.inr (64, 1)), some (.inr (66, 4)), some (.inr (66, 5)), some (.inr (28, y1)), some (.inl (.int x2)), some (.inl (.int v20)), some (.inl (.int v42)), none, none]) rfl ?_
                exact ih y1 x2 v20 v42 S41 _ h
              · rw [if_neg c39] at h
                refine ax_Tgo [.aload_n 0] (pc' := 94) (L' := [some (.inr (10, 0)), some (.inr (64, 1)), some (.inr (66, 4)), some (.inr (66, 5)), some (.inr (28, y1)), some (.inl (.int x2)), some (.inl (.int v20)), some (.inl (.int x4)), some (.inl (.int r17)), some (.inl (.int r27))]) (st' := [.inr (10, 0)]) (S' := S24) ok_X4_readItems.1 (by decide +kernel) rfl rfl ?_
                obtain ⟨S43, hq44, h⟩ := ax_bd_e h
                refine ax_TVv (d := 3) (ka := 10) (i := 0) [] [] lk_X4_135 (by decide +kernel) rfl (by decide) rfl (Nat.le_of_ble_eq_true rfl) (Nat.le_of_ble_eq_true rfl) ((t_X10_failAtLastDigit hq44).up (by decide)) ?_
                cases h
                exact ax_Tretv (by decide +kernel) rfl
          · rw [if_neg c32] at h
            cases h
            exact ax_Tretv (by decide +kernel) rfl
        · rw [if_neg c19] at h
          refine ax_Tgo [.aload_n 0] (pc' := 43) (L' := [some (.inr (10, 0)), some (.inr (64, 1)), some (.inr (66, 4)), some (.inr (66, 5)), some (.inr (28, y1)), some (.inl (.int x2)), some (.inl (.int x3)), some (.inl (.int x4)), some (.inl (.int r17)), none]) (st' := [.inr (10, 0)]) (S' := S10) ok_X4_readItems.1 (by decide +kernel) rfl rfl ?_
          obtain ⟨S46, hq47, h⟩ := ax_bd_e h
          refine ax_TVv (d := 3) (ka := 10) (i := 0) [] [] lk_X4_64 (by decide +kernel) rfl (by decide) rfl (Nat.le_of_ble_eq_true rfl) (Nat.le_of_ble_eq_true rfl) ((t_X10_fail hq47).up (by decide)) ?_
          cases h
          exact ax_Tretv (by decide +kernel) rfl
      · rw [if_neg c18] at h
        cases h
        exact ax_Tretv (by decide +kernel) rfl
set_option maxRecDepth 100000 in
theorem t_X4_readItems_64x1_66x4_66x5_28 {l : Launch} {i4 : Nat} {a5 : Int32} {S Z : AS} (h : f_X4_readItems_64x1_66x4_66x5_28 i4 a5 S = some Z) : ax_M l 4 ma_X4_readItems [.inr (10, 0), .inr (64, 1), .inr (66, 4), .inr (66, 5), .inr (28, i4), .inl (.int a5)] S none Z := by
  unfold f_X4_readItems_64x1_66x4_66x5_28 at h
  show ax_T l 4 ma_X4_readItems (0, [some (.inr (10, 0)), some (.inr (64, 1)), some (.inr (66, 4)), some (.inr (66, 5)), some (.inr (28, i4)), some (.inl (.int a5)), none, none, none, none], [], S) none Z
  refine ax_Tgo [.iconst 0, .istore 6, .iconst 0, .istore 7] (pc' := 6) (L' := [some (.inr (10, 0)), some (.inr (64, 1)), some (.inr (66, 4)), some (.inr (66, 5)), some (.inr (28, i4)), some (.inl (.int a5)), some (.inl (.int (0 : Int32))), some (.inl (.int (0 : Int32))), none, none]) (st' := []) (S' := S) ok_X4_readItems.1 (by decide +kernel) rfl rfl ?_
  refine t_X4_readItems_64x1_66x4_66x5_28_L6 _ i4 a5 (0 : Int32) (0 : Int32) S _ h
def f_X4_readLodger (i0 : Nat) (S : AS) : Option (AS) := (if (ax_fi S 4 i0 4) < (4 : Int32) then (f_X10_pass S).bind (fun (S2 : AS) => ax_let ((ax_fi S2 4 i0 4) * (2 : Int32)) (fun (v5 : Int32) => ax_gd (!decide ((0 : Int32) < 0) && !decide (v5 < 0) && !decide ((2 : Int32) < 0) && decide ((0 : Int32).toNatClampNeg + (2 : Int32).toNatClampNeg ≤ ax_ln S2 66 3) && decide (v5.toNatClampNeg + (2 : Int32).toNatClampNeg ≤ ax_ln S2 28 i0)) (ax_let (ax_cpy S2 28 i0 (ax_rd S2 66 3) (0 : Int32).toNatClampNeg v5.toNatClampNeg (2 : Int32).toNatClampNeg) (fun (S7 : AS) => ax_let (ax_sfi S7 4 i0 4 ((ax_fi S7 4 i0 4) + (1 : Int32))) (fun (S8 : AS) => (f_X4_readItems_64x1_66x4_66x5_28 i0 v5 S8).bind (fun (S9 : AS) => some S9)))))) else (f_X10_fail S).bind (fun (S12 : AS) => some S12))
set_option maxRecDepth 100000 in
theorem t_X4_readLodger {l : Launch} {i0 : Nat} {S Z : AS} (h : f_X4_readLodger i0 S = some Z) : ax_M l 5 ma_X4_readLodger [.inr (4, i0), .inr (10, 0)] S none Z := by
  unfold f_X4_readLodger at h
  show ax_T l 5 ma_X4_readLodger (0, [some (.inr (4, i0)), some (.inr (10, 0)), none], [], S) none Z
  refine ax_Tgo [.aload_n 0, .getfield 25, .iconst 4] (pc' := 5) (L' := [some (.inr (4, i0)), some (.inr (10, 0)), none]) (st' := [.inl (.int (4 : Int32)), .inl (.int (ax_fi S 4 i0 4))]) (S' := S) ok_X4_readLodger.1 (by decide +kernel) rfl rfl ?_
  refine ax_Tic_lt (off := 8) (tgt := 13) (by decide +kernel) (by decide) (fun c1 => ?_) (fun c1 => ?_)
  · rw [if_pos c1] at h
    refine ax_Tgo [.aload_n 1] (pc' := 14) (L' := [some (.inr (4, i0)), some (.inr (10, 0)), none]) (st' := [.inr (10, 0)]) (S' := S) ok_X4_readLodger.1 (by decide +kernel) rfl rfl ?_
    obtain ⟨S2, hq3, h⟩ := ax_bd_e h
    refine ax_TVv (d := 4) (ka := 10) (i := 0) [] [] lk_X4_86 (by decide +kernel) rfl (by decide) rfl (Nat.le_of_ble_eq_true rfl) (Nat.le_of_ble_eq_true rfl) ((t_X10_pass hq3).up (by decide)) ?_
    refine ax_Tgo [.aload_n 0, .getfield 25, .iconst 2, .imul, .istore_n 2] (pc' := 24) (L' := [some (.inr (4, i0)), some (.inr (10, 0)), some (.inl (.int ((ax_fi S2 4 i0 4) * (2 : Int32))))]) (st' := []) (S' := S2) ok_X4_readLodger.1 (by decide +kernel) rfl rfl ?_
    obtain ⟨v5, ev5, h⟩ := ax_let_e h
    rw [ev5]
    refine ax_Tgo [.getstatic 101, .iconst 0, .aload_n 0, .getfield 15, .iload_n 2, .iconst 2] (pc' := 34) (L' := [some (.inr (4, i0)), some (.inr (10, 0)), some (.inl (.int v5))]) (st' := [.inl (.int (2 : Int32)), .inl (.int v5), .inr (28, i0), .inl (.int (0 : Int32)), .inr (66, 3)]) (S' := S2) ok_X4_readLodger.1 (by decide +kernel) rfl rfl ?_
    obtain ⟨g6, h⟩ := ax_gd_e h
    refine ax_Tacopy (d := 4) (by decide +kernel) lkc_X4_39 (by decide) (by decide) g6 (Nat.le_of_ble_eq_true rfl) ?_
    obtain ⟨S7, eS7, h⟩ := ax_let_e h
    rw [eS7]
    refine ax_Tgo [.aload_n 0, .dup, .getfield 25, .iconst 1, .iadd, .putfield 25] (pc' := 47) (L' := [some (.inr (4, i0)), some (.inr (10, 0)), some (.inl (.int v5))]) (st' := []) (S' := (ax_sfi S7 4 i0 4 ((ax_fi S7 4 i0 4) + (1 : Int32)))) ok_X4_readLodger.1 (by decide +kernel) rfl rfl ?_
    obtain ⟨S8, eS8, h⟩ := ax_let_e h
    rw [eS8]
    refine ax_Tgo [.aload_n 1, .ldc 104, .getstatic 106, .getstatic 109, .aload_n 0, .getfield 15, .iload_n 2] (pc' := 61) (L' := [some (.inr (4, i0)), some (.inr (10, 0)), some (.inl (.int v5))]) (st' := [.inl (.int v5), .inr (28, i0), .inr (66, 5), .inr (66, 4), .inr (64, 1), .inr (10, 0)]) (S' := S8) ok_X4_readLodger.1 (by decide +kernel) rfl rfl ?_
    obtain ⟨S9, hq10, h⟩ := ax_bd_e h
    refine ax_TSv (d := 4) [.inr (10, 0), .inr (64, 1), .inr (66, 4), .inr (66, 5), .inr (28, i0), .inl (.int v5)] [] lk_X4_97 (by decide +kernel) rfl rfl (Nat.le_of_ble_eq_true rfl) (Nat.le_of_ble_eq_true rfl) ((t_X4_readItems_64x1_66x4_66x5_28 hq10).up (by decide)) ?_
    cases h
    exact ax_Tretv (by decide +kernel) rfl
  · rw [if_neg c1] at h
    refine ax_Tgo [.aload_n 1] (pc' := 9) (L' := [some (.inr (4, i0)), some (.inr (10, 0)), none]) (st' := [.inr (10, 0)]) (S' := S) ok_X4_readLodger.1 (by decide +kernel) rfl rfl ?_
    obtain ⟨S12, hq13, h⟩ := ax_bd_e h
    refine ax_TVv (d := 4) (ka := 10) (i := 0) [] [] lk_X4_64 (by decide +kernel) rfl (by decide) rfl (Nat.le_of_ble_eq_true rfl) (Nat.le_of_ble_eq_true rfl) ((t_X10_fail hq13).up (by decide)) ?_
    cases h
    exact ax_Tretv (by decide +kernel) rfl
def f_J0_coder_7d493_64x0 (S : AS) : Option (Int32) := some (0 : Int32)
set_option maxRecDepth 100000 in
theorem t_J0_coder_7d493_64x0 {l : Launch} {S : AS} {r : Int32} (h : f_J0_coder_7d493_64x0 S = some r) : ax_M l 0 ma_J0_coder_7d493 [.inr (64, 0)] S (some (.inl (.int r))) S := by
  unfold f_J0_coder_7d493_64x0 at h
  show ax_T l 0 ma_J0_coder_7d493 (0, [some (.inr (64, 0))], [], S) (some (.inl (.int r))) S
  refine ax_Tgo [.getstatic 38] (pc' := 3) (L' := [some (.inr (64, 0))]) (st' := [.inl (.int (1 : Int32))]) (S' := S) ok_J0_coder_7d493.1 (by decide +kernel) rfl rfl ?_
  refine ax_Tif_eq (off := 10) (tgt := 13) (by decide +kernel) (by decide) (fun c1 => absurd c1 (by decide)) (fun _ => ?_)
  refine ax_Tgo [.aload_n 0, .getfield 15] (pc' := 10) (L' := [some (.inr (64, 0))]) (st' := [.inl (.int (0 : Int32))]) (S' := S) ok_J0_coder_7d493.1 (by decide +kernel) rfl rfl ?_
  refine ax_Tgoto (off := 4) (tgt := 14) (by decide +kernel) (by decide) ?_
  cases h
  exact ax_Treti (by decide +kernel) rfl rfl
def f_J0_length_8abf5_64x0 (S : AS) : Option (Int32) := some ((Int32.ofNat 3) >>> ((0 : Int32) &&& 31))
set_option maxRecDepth 100000 in
theorem t_J0_length_8abf5_64x0 {l : Launch} {S : AS} {r : Int32} (h : f_J0_length_8abf5_64x0 S = some r) : ax_M l 1 ma_J0_length_8abf5 [.inr (64, 0)] S (some (.inl (.int r))) S := by
  unfold f_J0_length_8abf5_64x0 at h
  show ax_T l 1 ma_J0_length_8abf5 (0, [some (.inr (64, 0))], [], S) (some (.inl (.int r))) S
  refine ax_Tgo [.aload_n 0, .getfield 9, .arraylength, .aload_n 0] (pc' := 6) (L' := [some (.inr (64, 0))]) (st' := [.inr (64, 0), .inl (.int (Int32.ofNat 3))]) (S' := S) ok_J0_length_8abf5.1 (by decide +kernel) rfl rfl ?_
  refine ax_TVi (d := 0) (ka := 64) (i := 0) [] [.inl (.int (Int32.ofNat 3))] lk_J0_335 (by decide +kernel) rfl (by decide) rfl (Nat.le_of_ble_eq_true rfl) (Nat.le_of_ble_eq_true rfl) ((t_J0_coder_7d493_64x0 rfl).up (by decide)) ?_
  refine ax_Tgo [.ishr] (pc' := 10) (L' := [some (.inr (64, 0))]) (st' := [.inl (.int ((Int32.ofNat 3) >>> ((0 : Int32) &&& 31)))]) (S' := S) ok_J0_length_8abf5.1 (by decide +kernel) rfl rfl ?_
  cases h
  exact ax_Treti (by decide +kernel) rfl rfl
def f_J0_isLatin1_aae02_64x0 (S : AS) : Option (Int32) := some (1 : Int32)
set_option maxRecDepth 100000 in
theorem t_J0_isLatin1_aae02_64x0 {l : Launch} {S : AS} {r : Int32} (h : f_J0_isLatin1_aae02_64x0 S = some r) : ax_M l 0 ma_J0_isLatin1_aae02 [.inr (64, 0)] S (some (.inl (.int r))) S := by
  unfold f_J0_isLatin1_aae02_64x0 at h
  show ax_T l 0 ma_J0_isLatin1_aae02 (0, [some (.inr (64, 0))], [], S) (some (.inl (.int r))) S
  refine ax_Tgo [.getstatic 38] (pc' := 3) (L' := [some (.inr (64, 0))]) (st' := [.inl (.int (1 : Int32))]) (S' := S) ok_J0_isLatin1_aae02.1 (by decide +kernel) rfl rfl ?_
  refine ax_Tif_eq (off := 14) (tgt := 17) (by decide +kernel) (by decide) (fun c1 => absurd c1 (by decide)) (fun _ => ?_)
  refine ax_Tgo [.aload_n 0, .getfield 15] (pc' := 10) (L' := [some (.inr (64, 0))]) (st' := [.inl (.int (0 : Int32))]) (S' := S) ok_J0_isLatin1_aae02.1 (by decide +kernel) rfl rfl ?_
  refine ax_Tif_ne (off := 7) (tgt := 17) (by decide +kernel) (by decide) (fun c2 => absurd rfl c2) (fun _ => ?_)
  refine ax_Tgo [.iconst 1] (pc' := 14) (L' := [some (.inr (64, 0))]) (st' := [.inl (.int (1 : Int32))]) (S' := S) ok_J0_isLatin1_aae02.1 (by decide +kernel) rfl rfl ?_
  refine ax_Tgoto (off := 4) (tgt := 18) (by decide +kernel) (by decide) ?_
  cases h
  exact ax_Treti (by decide +kernel) rfl rfl
def f_J0_indexOf_7cf53_64x0 (a1 : Int32) (a2 : Int32) (S : AS) : Option (Int32) := (f_J1_indexOf_4cfef_65 0 a1 a2 ((Int32.ofNat 3) >>> ((0 : Int32) &&& 31)) S).bind (fun (r11 : Int32) => some r11)
set_option maxRecDepth 100000 in
theorem t_J0_indexOf_7cf53_64x0 {l : Launch} {a1 : Int32} {a2 : Int32} {S : AS} {r : Int32} (h : f_J0_indexOf_7cf53_64x0 a1 a2 S = some r) : ax_M l 2 ma_J0_indexOf_7cf53 [.inr (64, 0), .inl (.int a1), .inl (.int a2)] S (some (.inl (.int r))) S := by
  unfold f_J0_indexOf_7cf53_64x0 at h
  show ax_T l 2 ma_J0_indexOf_7cf53 (0, [some (.inr (64, 0)), some (.inl (.int a1)), some (.inl (.int a2))], [], S) (some (.inl (.int r))) S
  refine ax_Tgo [.aload_n 0] (pc' := 1) (L' := [some (.inr (64, 0)), some (.inl (.int a1)), some (.inl (.int a2))]) (st' := [.inr (64, 0)]) (S' := S) ok_J0_indexOf_7cf53.1 (by decide +kernel) rfl rfl ?_
  refine ax_TVi (d := 1) (ka := 64) (i := 0) [] [] lk_J0_492 (by decide +kernel) rfl (by decide) rfl (Nat.le_of_ble_eq_true rfl) (Nat.le_of_ble_eq_true rfl) ((t_J0_isLatin1_aae02_64x0 rfl).up (by decide)) ?_
  refine ax_Tif_eq (off := 19) (tgt := 23) (by decide +kernel) (by decide) (fun c4 => absurd c4 (by decide)) (fun _ => ?_)
  refine ax_Tgo [.aload_n 0, .getfield 9, .iload_n 1, .iload_n 2, .aload_n 0] (pc' := 14) (L' := [some (.inr (64, 0)), some (.inl (.int a1)), some (.inl (.int a2))]) (st' := [.inr (64, 0), .inl (.int a2), .inl (.int a1), .inr (65, 0)]) (S' := S) ok_J0_indexOf_7cf53.1 (by decide +kernel) rfl rfl ?_
  refine ax_TVi (d := 1) (ka := 64) (i := 0) [] [.inl (.int a2), .inl (.int a1), .inr (65, 0)] lk_J0_505 (by decide +kernel) rfl (by decide) rfl (Nat.le_of_ble_eq_true rfl) (Nat.le_of_ble_eq_true rfl) ((t_J0_length_8abf5_64x0 rfl).up (by decide)) ?_
  obtain ⟨r11, hq9, h⟩ := ax_bd_e h
  refine ax_TSi (d := 1) [.inr (65, 0), .inl (.int a1), .inl (.int a2), .inl (.int ((Int32.ofNat 3) >>> ((0 : Int32) &&& 31)))] [] lk_J0_637 (by decide +kernel) rfl rfl (Nat.le_of_ble_eq_true rfl) (Nat.le_of_ble_eq_true rfl) ((t_J1_indexOf_4cfef_65 hq9).up (by decide)) ?_
  refine ax_Tgoto (off := 16) (tgt := 36) (by decide +kernel) (by decide) ?_
  cases h
  exact ax_Treti (by decide +kernel) rfl rfl
def f_J0_indexOf_0f7a4_64x0 (a1 : Int32) (S : AS) : Option (Int32) := (f_J0_indexOf_7cf53_64x0 a1 (0 : Int32) S).bind (fun (r4 : Int32) => some r4)
set_option maxRecDepth 100000 in
theorem t_J0_indexOf_0f7a4_64x0 {l : Launch} {a1 : Int32} {S : AS} {r : Int32} (h : f_J0_indexOf_0f7a4_64x0 a1 S = some r) : ax_M l 3 ma_J0_indexOf_0f7a4 [.inr (64, 0), .inl (.int a1)] S (some (.inl (.int r))) S := by
  unfold f_J0_indexOf_0f7a4_64x0 at h
  show ax_T l 3 ma_J0_indexOf_0f7a4 (0, [some (.inr (64, 0)), some (.inl (.int a1))], [], S) (some (.inl (.int r))) S
  refine ax_Tgo [.aload_n 0, .iload_n 1, .iconst 0] (pc' := 3) (L' := [some (.inr (64, 0)), some (.inl (.int a1))]) (st' := [.inl (.int (0 : Int32)), .inl (.int a1), .inr (64, 0)]) (S' := S) ok_J0_indexOf_0f7a4.1 (by decide +kernel) rfl rfl ?_
  obtain ⟨r4, hq2, h⟩ := ax_bd_e h
  refine ax_TVi (d := 2) (ka := 64) (i := 0) [.inl (.int a1), .inl (.int (0 : Int32))] [] lk_J0_633 (by decide +kernel) rfl (by decide) rfl (Nat.le_of_ble_eq_true rfl) (Nat.le_of_ble_eq_true rfl) ((t_J0_indexOf_7cf53_64x0 hq2).up (by decide)) ?_
  cases h
  exact ax_Treti (by decide +kernel) rfl rfl
def f_X4_readItems_64x0_66x1_66x2_27_L6 : Nat → Nat → Int32 → Int32 → Int32 → AS → Option (AS)
  | 0, _, _, _, _, _ => none
  | n + 1, y1, x2, x3, x4, S5 => (if ((Int32.ofNat 3) >>> ((0 : Int32) &&& 31)) < x4 then some S5 else ax_bu (f_X10_peek S5) (fun (r13 : Int32) (S10 : AS) => (f_J0_indexOf_0f7a4_64x0 (r13.toUInt32 % 65536).toInt32 S10).bind (fun (r17 : Int32) => (if (0 : Int32) ≤ r17 then (if ((x3 >>> (r17 &&& 31)) &&& (1 : Int32)) = (0 : Int32) then ax_let (x3 ||| ((1 : Int32) <<< (r17 &&& 31))) (fun (v20 : Int32) => (f_X10_pass S10).bind (fun (S21 : AS) => ax_bu (f_X10_number (2 : Int32) S21) (fun (r27 : Int32) (S24 : AS) => (f_X10_failed S24).bind (fun (r31 : Int32) => (if r31 = (0 : Int32) then ax_gd (ax_in r17 3) ((if r27 < (ax_rd S24 66 1 r17.toNatClampNeg) then (f_X10_failAtLastDigit S24).bind (fun (S35 : AS) => some S35) else ax_gd (ax_in r17 3) ((if r27 ≤ (ax_rd S24 66 2 r17.toNatClampNeg) then ax_gd (ax_in (x2 + r17) 3) (ax_let (ax_sai S24 27 y1 (x2 + r17).toNatClampNeg r27) (fun (S41 : AS) => ax_let (x4 + (1 : Int32)) (fun (v42 : Int32) => f_X4_readItems_64x0_66x1_66x2_27_L6 n y1 x2 v20 v42 S41))) else (f_X10_failAtLastDigit S24).bind (fun (S43 : AS) => some S43))))) else some S24))))) else (f_X10_fail S10).bind (fun (S46 : AS) => some S46)) else some S10))))
def f_X4_readItems_64x0_66x1_66x2_27 (i4 : Nat) (a5 : Int32) (S : AS) : Option (AS) := f_X4_readItems_64x0_66x1_66x2_27_L6 ax_F i4 a5 (0 : Int32) (0 : Int32) S
set_option maxRecDepth 100000 in
theorem t_X4_readItems_64x0_66x1_66x2_27_L6 {l : Launch} : ∀ (n : Nat) (y1 : Nat) (x2 : Int32) (x3 : Int32) (x4 : Int32) (S5 : AS) Z, f_X4_readItems_64x0_66x1_66x2_27_L6 n y1 x2 x3 x4 S5 = some Z → ax_T l 4 ma_X4_readItems (6, [some (.inr (10, 0)), some (.inr (64, 0)), some (.inr (66, 1)), some (.inr (66, 2)), some (.inr (27, y1)), some (.inl (.int x2)), some (.inl (.int x3)), some (.inl (.int x4)), none, none], [], S5) none Z := by
  intro n
  induction n with
  | zero =>
    intro y1 x2 x3 x4 S5 Z h
    cases h
  | succ n ih =>
    intro y1 x2 x3 x4 S5 Z h
    unfold f_X4_readItems_64x0_66x1_66x2_27_L6 at h
    refine ax_Tgo [.iload 7, .aload_n 1] (pc' := 9) (L' := [some (.inr (10, 0)), some (.inr (64, 0)), some (.inr (66, 1)), some (.inr (66, 2)), some (.inr (27, y1)), some (.inl (.int x2)), some (.inl (.int x3)), some (.inl (.int x4)), none, none]) (st' := [.inr (64, 0), .inl (.int x4)]) (S' := S5) ok_X4_readItems.1 (by decide +kernel) rfl rfl ?_
    refine ax_TVi (d := 3) (ka := 64) (i := 0) [] [.inl (.int x4)] lk_X4_123 (by decide +kernel) rfl (by decide) rfl (Nat.le_of_ble_eq_true rfl) (Nat.le_of_ble_eq_true rfl) ((t_J0_length_8abf5_64x0 rfl).up (by decide)) ?_
    refine ax_Tic_gt (off := 102) (tgt := 114) (by decide +kernel) (by decide) (fun c9 => ?_) (fun c9 => ?_)
    · rw [if_pos c9] at h
      cases h
      exact ax_Tretv (by decide +kernel) rfl
    · rw [if_neg c9] at h
      refine ax_Tgo [.aload_n 1, .aload_n 0] (pc' := 17) (L' := [some (.inr (10, 0)), some (.inr (64, 0)), some (.inr (66, 1)), some (.inr (66, 2)), some (.inr (27, y1)), some (.inl (.int x2)), some (.inl (.int x3)), some (.inl (.int x4)), none, none]) (st' := [.inr (10, 0), .inr (64, 0)]) (S' := S5) ok_X4_readItems.1 (by decide +kernel) rfl rfl ?_
      obtain ⟨r13, S10, hq11, h⟩ := ax_bu_e h
      refine ax_TVi (d := 3) (ka := 10) (i := 0) [] [.inr (64, 0)] lk_X4_74 (by decide +kernel) rfl (by decide) rfl (Nat.le_of_ble_eq_true rfl) (Nat.le_of_ble_eq_true rfl) ((t_X10_peek hq11).up (by decide)) ?_
      refine ax_Tgo [.i2c] (pc' := 21) (L' := [some (.inr (10, 0)), some (.inr (64, 0)), some (.inr (66, 1)), some (.inr (66, 2)), some (.inr (27, y1)), some (.inl (.int x2)), some (.inl (.int x3)), some (.inl (.int x4)), none, none]) (st' := [.inl (.int (r13.toUInt32 % 65536).toInt32), .inr (64, 0)]) (S' := S10) ok_X4_readItems.1 (by decide +kernel) rfl rfl ?_
      obtain ⟨r17, hq15, h⟩ := ax_bd_e h
      refine ax_TVi (d := 3) (ka := 64) (i := 0) [.inl (.int (r13.toUInt32 % 65536).toInt32)] [] lk_X4_128 (by decide +kernel) rfl (by decide) rfl (Nat.le_of_ble_eq_true rfl) (Nat.le_of_ble_eq_true rfl) ((t_J0_indexOf_0f7a4_64x0 hq15).up (by decide)) ?_
      refine ax_Tgo [.istore 8, .iload 8] (pc' := 28) (L' := [some (.inr (10, 0)), some (.inr (64, 0)), some (.inr (66, 1)), some (.inr (66, 2)), some (.inr (27, y1)), some (.inl (.int x2)), some (.inl (.int x3)), some (.inl (.int x4)), some (.inl (.int r17)), none]) (st' := [.inl (.int r17)]) (S' := S10) ok_X4_readItems.1 (by decide +kernel) rfl rfl ?_
      refine ax_Tif_ge (off := 4) (tgt := 32) (by decide +kernel) (by decide) (fun c18 => ?_) (fun c18 => ?_)
      · rw [if_pos c18] at h
        refine ax_Tgo [.iload 6, .iload 8, .ishr, .iconst 1, .iand] (pc' := 39) (L' := [some (.inr (10, 0)), some (.inr (64, 0)), some (.inr (66, 1)), some (.inr (66, 2)), some (.inr (27, y1)), some (.inl (.int x2)), some (.inl (.int x3)), some (.inl (.int x4)), some (.inl (.int r17)), none]) (st' := [.inl (.int ((x3 >>> (r17 &&& 31)) &&& (1 : Int32)))]) (S' := S10) ok_X4_readItems.1 (by decide +kernel) rfl rfl ?_
        refine ax_Tif_eq (off := 8) (tgt := 47) (by decide +kernel) (by decide) (fun c19 => ?_) (fun c19 => ?_)
        · rw [if_pos c19] at h
          refine ax_Tgo [.iload 6, .iconst 1, .iload 8, .ishl, .ior, .istore 6] (pc' := 56) (L' := [some (.inr (10, 0)), some (.inr (64, 0)), some (.inr (66, 1)), some (.inr (66, 2)), some (.inr (27, y1)), some (.inl (.int x2)), some (.inl (.int (x3 ||| ((1 : Int32) <<< (r17 &&& 31))))), some (.inl (.int x4)), some (.inl (.int r17)), none]) (st' := []) (S' := S10) ok_X4_readItems.1 (by decide +kernel) rfl rfl ?_
          obtain ⟨v20, ev20, h⟩ := ax_let_e h
          rw [ev20]
          refine ax_Tgo [.aload_n 0] (pc' := 57) (L' := [some (.inr (10, 0)), some (.inr (64, 0)), some (.inr (66, 1)), some (.inr (66, 2)), some (.inr (27, y1)), some (.inl (.int x2)), some (.inl (.int v20)), some (.inl (.int x4)), some (.inl (.int r17)), none]) (st' := [.inr (10, 0)]) (S' := S10) ok_X4_readItems.1 (by decide +kernel) rfl rfl ?_
          obtain ⟨S21, hq22, h⟩ := ax_bd_e h
          refine ax_TVv (d := 3) (ka := 10) (i := 0) [] [] lk_X4_86 (by decide +kernel) rfl (by decide) rfl (Nat.le_of_ble_eq_true rfl) (Nat.le_of_ble_eq_true rfl) ((t_X10_pass hq22).up (by decide)) ?_
          refine ax_Tgo [.aload_n 0, .iconst 2] (pc' := 62) (L' := [some (.inr (10, 0)), some (.inr (64, 0)), some (.inr (66, 1)), some (.inr (66, 2)), some (.inr (27, y1)), some (.inl (.int x2)), some (.inl (.int v20)), some (.inl (.int x4)), some (.inl (.int r17)), none]) (st' := [.inl (.int (2 : Int32)), .inr (10, 0)]) (S' := S21) ok_X4_readItems.1 (by decide +kernel) rfl rfl ?_
          obtain ⟨r27, S24, hq25, h⟩ := ax_bu_e h
          refine ax_TVi (d := 3) (ka := 10) (i := 0) [.inl (.int (2 : Int32))] [] lk_X4_132 (by decide +kernel) rfl (by decide) rfl (Nat.le_of_ble_eq_true rfl) (Nat.le_of_ble_eq_true rfl) ((t_X10_number hq25).up (by decide)) ?_
          refine ax_Tgo [.istore 9, .aload_n 0] (pc' := 68) (L' := [some (.inr (10, 0)), some (.inr (64, 0)), some (.inr (66, 1)), some (.inr (66, 2)), some (.inr (27, y1)), some (.inl (.int x2)), some (.inl (.int v20)), some (.inl (.int x4)), some (.inl (.int r17)), some (.inl (.int r27))]) (st' := [.inr (10, 0)]) (S' := S24) ok_X4_readItems.1 (by decide +kernel) rfl rfl ?_
          obtain ⟨r31, hq29, h⟩ := ax_bd_e h
          refine ax_TVi (d := 3) (ka := 10) (i := 0) [] [] lk_X4_58 (by decide +kernel) rfl (by decide) rfl (Nat.le_of_ble_eq_true rfl) (Nat.le_of_ble_eq_true rfl) ((t_X10_failed hq29).up (by decide)) ?_
          refine ax_Tif_eq (off := 4) (tgt := 75) (by decide +kernel) (by decide) (fun c32 => ?_) (fun c32 => ?_)
          · rw [if_pos c32] at h
            refine ax_Tgo [.iload 9, .aload_n 2, .iload 8] (pc' := 80) (L' := [some (.inr (10, 0)), some (.inr (64, 0)), some (.inr (66, 1)), some (.inr (66, 2)), some (.inr (27, y1)), some (.inl (.int x2)), some (.inl (.int v20)), some (.inl (.int x4)), some (.inl (.int r17)), some (.inl (.int r27))]) (st' := [.inl (.int r17), .inr (66, 1), .inl (.int r27)]) (S' := S24) ok_X4_readItems.1 (by decide +kernel) rfl rfl ?_
            obtain ⟨g33, h⟩ := ax_gd_e h
            refine ax_Talc (n := 3) ok_X4_readItems.1 (by decide +kernel) (by decide) rfl g33 ?_
            refine ax_Tic_lt (off := 12) (tgt := 93) (by decide +kernel) (by decide) (fun c34 => ?_) (fun c34 => ?_)
            · rw [if_pos c34] at h
              refine ax_Tgo [.aload_n 0] (pc' := 94) (L' := [some (.inr (10, 0)), some (.inr (64, 0)), some (.inr (66, 1)), some (.inr (66, 2)), some (.inr (27, y1)), some (.inl (.int x2)), some (.inl (.int v20)), some (.inl (.int x4)), some (.inl (.int r17)), some (.inl (.int r27))]) (st' := [.inr (10, 0)]) (S' := S24) ok_X4_readItems.1 (by decide +kernel) rfl rfl ?_
              obtain ⟨S35, hq36, h⟩ := ax_bd_e h
              refine ax_TVv (d := 3) (ka := 10) (i := 0) [] [] lk_X4_135 (by decide +kernel) rfl (by decide) rfl (Nat.le_of_ble_eq_true rfl) (Nat.le_of_ble_eq_true rfl) ((t_X10_failAtLastDigit hq36).up (by decide)) ?_
              cases h
              exact ax_Tretv (by decide +kernel) rfl
            · rw [if_neg c34] at h
              refine ax_Tgo [.iload 9, .aload_n 3, .iload 8] (pc' := 89) (L' := [some (.inr (10, 0)), some (.inr (64, 0)), some (.inr (66, 1)), some (.inr (66, 2)), some (.inr (27, y1)), some (.inl (.int x2)), some (.inl (.int v20)), some (.inl (.int x4)), some (.inl (.int r17)), some (.inl (.int r27))]) (st' := [.inl (.int r17), .inr (66, 2), .inl (.int r27)]) (S' := S24) ok_X4_readItems.1 (by decide +kernel) rfl rfl ?_
              obtain ⟨g38, h⟩ := ax_gd_e h
              refine ax_Talc (n := 3) ok_X4_readItems.1 (by decide +kernel) (by decide) rfl g38 ?_
              refine ax_Tic_le (off := 8) (tgt := 98) (by decide +kernel) (by decide) (fun c39 => ?_) (fun c39 => ?_)
              · rw [if_pos c39] at h
                refine ax_Tgo [.aload 4, .iload 5, .iload 8, .iadd, .iload 9] (pc' := 107) (L' := [some (.inr (10, 0)), some (.inr (64, 0)), some (.inr (66, 1)), some (.inr (66, 2)), some (.inr (27, y1)), some (.inl (.int x2)), some (.inl (.int v20)), some (.inl (.int x4)), some (.inl (.int r17)), some (.inl (.int r27))]) (st' := [.inl (.int r27), .inl (.int (x2 + r17)), .inr (27, y1)]) (S' := S24) ok_X4_readItems.1 (by decide +kernel) rfl rfl ?_
                obtain ⟨g40, h⟩ := ax_gd_e h
                refine ax_Tasi (n := 3) ok_X4_readItems.1 (by decide +kernel) (by decide) rfl g40 ?_
                obtain ⟨S41, eS41, h⟩ := ax_let_e h
                rw [eS41]
                refine ax_Tgo [.iinc 7 1] (pc' := 111) (L' := [some (.inr (10, 0)), some (.inr (64, 0)), some (.inr (66, 1)), some (.inr (66, 2)), some (.inr (27, y1)), some (.inl (.int x2)), some (.inl (.int v20)), some (.inl (.int (x4 + (1 : Int32)))), some (.inl (.int r17)), some (.inl (.int r27))]) (st' := []) (S' := S41) ok_X4_readItems.1 (by decide +kernel) rfl rfl ?_
                obtain ⟨v42, ev42, h⟩ := ax_let_e h
                rw [ev42]
                refine ax_Tgoto (off := (-105)) (tgt := 6) (by decide +kernel) (by decide) ?_
                refine ax_Tdrop [true, true, true, true, true, true, true, true, false, false] (L' := [some (.inr (10, 0)), some (.inr (64, 0)), some (.inr (66, 1)), some (.inr (66, 2)), some (.inr (27, y1)), some (.inl (.int x2)), some (.inl (.int v20)), some (.inl (.int v42)), none, none]) rfl ?_
                exact ih y1 x2 v20 v42 S41 _ h
              · rw [if_neg c39] at h
                refine ax_Tgo [.aload_n 0] (pc' := 94) (L' := [some (.inr (10, 0)), some (.inr (64, 0)), some (.inr (66, 1)), some (.inr (66, 2)), some (.inr (27, y1)), some (.inl (.int x2)), some (.inl (.int v20)), some (.inl (.int x4)), some (.inl (.int r17)), some (.inl (.int r27))]) (st' := [.inr (10, 0)]) (S' := S24) ok_X4_readItems.1 (by decide +kernel) rfl rfl ?_
                obtain ⟨S43, hq44, h⟩ := ax_bd_e h
                refine ax_TVv (d := 3) (ka := 10) (i := 0) [] [] lk_X4_135 (by decide +kernel) rfl (by decide) rfl (Nat.le_of_ble_eq_true rfl) (Nat.le_of_ble_eq_true rfl) ((t_X10_failAtLastDigit hq44).up (by decide)) ?_
                cases h
                exact ax_Tretv (by decide +kernel) rfl
          · rw [if_neg c32] at h
            cases h
            exact ax_Tretv (by decide +kernel) rfl
        · rw [if_neg c19] at h
          refine ax_Tgo [.aload_n 0] (pc' := 43) (L' := [some (.inr (10, 0)), some (.inr (64, 0)), some (.inr (66, 1)), some (.inr (66, 2)), some (.inr (27, y1)), some (.inl (.int x2)), some (.inl (.int x3)), some (.inl (.int x4)), some (.inl (.int r17)), none]) (st' := [.inr (10, 0)]) (S' := S10) ok_X4_readItems.1 (by decide +kernel) rfl rfl ?_
          obtain ⟨S46, hq47, h⟩ := ax_bd_e h
          refine ax_TVv (d := 3) (ka := 10) (i := 0) [] [] lk_X4_64 (by decide +kernel) rfl (by decide) rfl (Nat.le_of_ble_eq_true rfl) (Nat.le_of_ble_eq_true rfl) ((t_X10_fail hq47).up (by decide)) ?_
          cases h
          exact ax_Tretv (by decide +kernel) rfl
      · rw [if_neg c18] at h
        cases h
        exact ax_Tretv (by decide +kernel) rfl
set_option maxRecDepth 100000 in
theorem t_X4_readItems_64x0_66x1_66x2_27 {l : Launch} {i4 : Nat} {a5 : Int32} {S Z : AS} (h : f_X4_readItems_64x0_66x1_66x2_27 i4 a5 S = some Z) : ax_M l 4 ma_X4_readItems [.inr (10, 0), .inr (64, 0), .inr (66, 1), .inr (66, 2), .inr (27, i4), .inl (.int a5)] S none Z := by
  unfold f_X4_readItems_64x0_66x1_66x2_27 at h
  show ax_T l 4 ma_X4_readItems (0, [some (.inr (10, 0)), some (.inr (64, 0)), some (.inr (66, 1)), some (.inr (66, 2)), some (.inr (27, i4)), some (.inl (.int a5)), none, none, none, none], [], S) none Z
  refine ax_Tgo [.iconst 0, .istore 6, .iconst 0, .istore 7] (pc' := 6) (L' := [some (.inr (10, 0)), some (.inr (64, 0)), some (.inr (66, 1)), some (.inr (66, 2)), some (.inr (27, i4)), some (.inl (.int a5)), some (.inl (.int (0 : Int32))), some (.inl (.int (0 : Int32))), none, none]) (st' := []) (S' := S) ok_X4_readItems.1 (by decide +kernel) rfl rfl ?_
  refine t_X4_readItems_64x0_66x1_66x2_27_L6 _ i4 a5 (0 : Int32) (0 : Int32) S _ h
def f_X4_readRules (i0 : Nat) (S : AS) : Option (AS) := (if (ax_fi S 4 i0 3) = (0 : Int32) then ax_let (ax_sfi S 4 i0 3 (1 : Int32)) (fun (S2 : AS) => (f_X10_pass S2).bind (fun (S3 : AS) => (f_X4_readItems_64x0_66x1_66x2_27 i0 (0 : Int32) S3).bind (fun (S6 : AS) => some S6))) else (f_X10_fail S).bind (fun (S9 : AS) => some S9))
set_option maxRecDepth 100000 in
theorem t_X4_readRules {l : Launch} {i0 : Nat} {S Z : AS} (h : f_X4_readRules i0 S = some Z) : ax_M l 5 ma_X4_readRules [.inr (4, i0), .inr (10, 0)] S none Z := by
  unfold f_X4_readRules at h
  show ax_T l 5 ma_X4_readRules (0, [some (.inr (4, i0)), some (.inr (10, 0))], [], S) none Z
  refine ax_Tgo [.aload_n 0, .getfield 21] (pc' := 4) (L' := [some (.inr (4, i0)), some (.inr (10, 0))]) (st' := [.inl (.int (ax_fi S 4 i0 3))]) (S' := S) ok_X4_readRules.1 (by decide +kernel) rfl rfl ?_
  refine ax_Tif_eq (off := 8) (tgt := 12) (by decide +kernel) (by decide) (fun c1 => ?_) (fun c1 => ?_)
  · rw [if_pos c1] at h
    refine ax_Tgo [.aload_n 0, .iconst 1, .putfield 21] (pc' := 17) (L' := [some (.inr (4, i0)), some (.inr (10, 0))]) (st' := []) (S' := (ax_sfi S 4 i0 3 (1 : Int32))) ok_X4_readRules.1 (by decide +kernel) rfl rfl ?_
    obtain ⟨S2, eS2, h⟩ := ax_let_e h
    rw [eS2]
    refine ax_Tgo [.aload_n 1] (pc' := 18) (L' := [some (.inr (4, i0)), some (.inr (10, 0))]) (st' := [.inr (10, 0)]) (S' := S2) ok_X4_readRules.1 (by decide +kernel) rfl rfl ?_
    obtain ⟨S3, hq4, h⟩ := ax_bd_e h
    refine ax_TVv (d := 4) (ka := 10) (i := 0) [] [] lk_X4_86 (by decide +kernel) rfl (by decide) rfl (Nat.le_of_ble_eq_true rfl) (Nat.le_of_ble_eq_true rfl) ((t_X10_pass hq4).up (by decide)) ?_
    refine ax_Tgo [.aload_n 1, .ldc 89, .getstatic 91, .getstatic 94, .aload_n 0, .getfield 11, .iconst 0] (pc' := 35) (L' := [some (.inr (4, i0)), some (.inr (10, 0))]) (st' := [.inl (.int (0 : Int32)), .inr (27, i0), .inr (66, 2), .inr (66, 1), .inr (64, 0), .inr (10, 0)]) (S' := S3) ok_X4_readRules.1 (by decide +kernel) rfl rfl ?_
    obtain ⟨S6, hq7, h⟩ := ax_bd_e h
    refine ax_TSv (d := 4) [.inr (10, 0), .inr (64, 0), .inr (66, 1), .inr (66, 2), .inr (27, i0), .inl (.int (0 : Int32))] [] lk_X4_97 (by decide +kernel) rfl rfl (Nat.le_of_ble_eq_true rfl) (Nat.le_of_ble_eq_true rfl) ((t_X4_readItems_64x0_66x1_66x2_27 hq7).up (by decide)) ?_
    cases h
    exact ax_Tretv (by decide +kernel) rfl
  · rw [if_neg c1] at h
    refine ax_Tgo [.aload_n 1] (pc' := 8) (L' := [some (.inr (4, i0)), some (.inr (10, 0))]) (st' := [.inr (10, 0)]) (S' := S) ok_X4_readRules.1 (by decide +kernel) rfl rfl ?_
    obtain ⟨S9, hq10, h⟩ := ax_bd_e h
    refine ax_TVv (d := 4) (ka := 10) (i := 0) [] [] lk_X4_64 (by decide +kernel) rfl (by decide) rfl (Nat.le_of_ble_eq_true rfl) (Nat.le_of_ble_eq_true rfl) ((t_X10_fail hq10).up (by decide)) ?_
    cases h
    exact ax_Tretv (by decide +kernel) rfl
def f_J0_coder_7d493_64x2 (S : AS) : Option (Int32) := some (0 : Int32)
set_option maxRecDepth 100000 in
theorem t_J0_coder_7d493_64x2 {l : Launch} {S : AS} {r : Int32} (h : f_J0_coder_7d493_64x2 S = some r) : ax_M l 0 ma_J0_coder_7d493 [.inr (64, 2)] S (some (.inl (.int r))) S := by
  unfold f_J0_coder_7d493_64x2 at h
  show ax_T l 0 ma_J0_coder_7d493 (0, [some (.inr (64, 2))], [], S) (some (.inl (.int r))) S
  refine ax_Tgo [.getstatic 38] (pc' := 3) (L' := [some (.inr (64, 2))]) (st' := [.inl (.int (1 : Int32))]) (S' := S) ok_J0_coder_7d493.1 (by decide +kernel) rfl rfl ?_
  refine ax_Tif_eq (off := 10) (tgt := 13) (by decide +kernel) (by decide) (fun c1 => absurd c1 (by decide)) (fun _ => ?_)
  refine ax_Tgo [.aload_n 0, .getfield 15] (pc' := 10) (L' := [some (.inr (64, 2))]) (st' := [.inl (.int (0 : Int32))]) (S' := S) ok_J0_coder_7d493.1 (by decide +kernel) rfl rfl ?_
  refine ax_Tgoto (off := 4) (tgt := 14) (by decide +kernel) (by decide) ?_
  cases h
  exact ax_Treti (by decide +kernel) rfl rfl
def f_J0_length_8abf5_64x2 (S : AS) : Option (Int32) := some ((Int32.ofNat 7) >>> ((0 : Int32) &&& 31))
set_option maxRecDepth 100000 in
theorem t_J0_length_8abf5_64x2 {l : Launch} {S : AS} {r : Int32} (h : f_J0_length_8abf5_64x2 S = some r) : ax_M l 1 ma_J0_length_8abf5 [.inr (64, 2)] S (some (.inl (.int r))) S := by
  unfold f_J0_length_8abf5_64x2 at h
  show ax_T l 1 ma_J0_length_8abf5 (0, [some (.inr (64, 2))], [], S) (some (.inl (.int r))) S
  refine ax_Tgo [.aload_n 0, .getfield 9, .arraylength, .aload_n 0] (pc' := 6) (L' := [some (.inr (64, 2))]) (st' := [.inr (64, 2), .inl (.int (Int32.ofNat 7))]) (S' := S) ok_J0_length_8abf5.1 (by decide +kernel) rfl rfl ?_
  refine ax_TVi (d := 0) (ka := 64) (i := 2) [] [.inl (.int (Int32.ofNat 7))] lk_J0_335 (by decide +kernel) rfl (by decide) rfl (Nat.le_of_ble_eq_true rfl) (Nat.le_of_ble_eq_true rfl) ((t_J0_coder_7d493_64x2 rfl).up (by decide)) ?_
  refine ax_Tgo [.ishr] (pc' := 10) (L' := [some (.inr (64, 2))]) (st' := [.inl (.int ((Int32.ofNat 7) >>> ((0 : Int32) &&& 31)))]) (S' := S) ok_J0_length_8abf5.1 (by decide +kernel) rfl rfl ?_
  cases h
  exact ax_Treti (by decide +kernel) rfl rfl
def f_J0_isLatin1_aae02_64x2 (S : AS) : Option (Int32) := some (1 : Int32)
set_option maxRecDepth 100000 in
theorem t_J0_isLatin1_aae02_64x2 {l : Launch} {S : AS} {r : Int32} (h : f_J0_isLatin1_aae02_64x2 S = some r) : ax_M l 0 ma_J0_isLatin1_aae02 [.inr (64, 2)] S (some (.inl (.int r))) S := by
  unfold f_J0_isLatin1_aae02_64x2 at h
  show ax_T l 0 ma_J0_isLatin1_aae02 (0, [some (.inr (64, 2))], [], S) (some (.inl (.int r))) S
  refine ax_Tgo [.getstatic 38] (pc' := 3) (L' := [some (.inr (64, 2))]) (st' := [.inl (.int (1 : Int32))]) (S' := S) ok_J0_isLatin1_aae02.1 (by decide +kernel) rfl rfl ?_
  refine ax_Tif_eq (off := 14) (tgt := 17) (by decide +kernel) (by decide) (fun c1 => absurd c1 (by decide)) (fun _ => ?_)
  refine ax_Tgo [.aload_n 0, .getfield 15] (pc' := 10) (L' := [some (.inr (64, 2))]) (st' := [.inl (.int (0 : Int32))]) (S' := S) ok_J0_isLatin1_aae02.1 (by decide +kernel) rfl rfl ?_
  refine ax_Tif_ne (off := 7) (tgt := 17) (by decide +kernel) (by decide) (fun c2 => absurd rfl c2) (fun _ => ?_)
  refine ax_Tgo [.iconst 1] (pc' := 14) (L' := [some (.inr (64, 2))]) (st' := [.inl (.int (1 : Int32))]) (S' := S) ok_J0_isLatin1_aae02.1 (by decide +kernel) rfl rfl ?_
  refine ax_Tgoto (off := 4) (tgt := 18) (by decide +kernel) (by decide) ?_
  cases h
  exact ax_Treti (by decide +kernel) rfl rfl
def f_J0_indexOf_7cf53_64x2 (a1 : Int32) (a2 : Int32) (S : AS) : Option (Int32) := (f_J1_indexOf_4cfef_65 2 a1 a2 ((Int32.ofNat 7) >>> ((0 : Int32) &&& 31)) S).bind (fun (r11 : Int32) => some r11)
set_option maxRecDepth 100000 in
theorem t_J0_indexOf_7cf53_64x2 {l : Launch} {a1 : Int32} {a2 : Int32} {S : AS} {r : Int32} (h : f_J0_indexOf_7cf53_64x2 a1 a2 S = some r) : ax_M l 2 ma_J0_indexOf_7cf53 [.inr (64, 2), .inl (.int a1), .inl (.int a2)] S (some (.inl (.int r))) S := by
  unfold f_J0_indexOf_7cf53_64x2 at h
  show ax_T l 2 ma_J0_indexOf_7cf53 (0, [some (.inr (64, 2)), some (.inl (.int a1)), some (.inl (.int a2))], [], S) (some (.inl (.int r))) S
  refine ax_Tgo [.aload_n 0] (pc' := 1) (L' := [some (.inr (64, 2)), some (.inl (.int a1)), some (.inl (.int a2))]) (st' := [.inr (64, 2)]) (S' := S) ok_J0_indexOf_7cf53.1 (by decide +kernel) rfl rfl ?_
  refine ax_TVi (d := 1) (ka := 64) (i := 2) [] [] lk_J0_492 (by decide +kernel) rfl (by decide) rfl (Nat.le_of_ble_eq_true rfl) (Nat.le_of_ble_eq_true rfl) ((t_J0_isLatin1_aae02_64x2 rfl).up (by decide)) ?_
  refine ax_Tif_eq (off := 19) (tgt := 23) (by decide +kernel) (by decide) (fun c4 => absurd c4 (by decide)) (fun _ => ?_)
  refine ax_Tgo [.aload_n 0, .getfield 9, .iload_n 1, .iload_n 2, .aload_n 0] (pc' := 14) (L' := [some (.inr (64, 2)), some (.inl (.int a1)), some (.inl (.int a2))]) (st' := [.inr (64, 2), .inl (.int a2), .inl (.int a1), .inr (65, 2)]) (S' := S) ok_J0_indexOf_7cf53.1 (by decide +kernel) rfl rfl ?_
  refine ax_TVi (d := 1) (ka := 64) (i := 2) [] [.inl (.int a2), .inl (.int a1), .inr (65, 2)] lk_J0_505 (by decide +kernel) rfl (by decide) rfl (Nat.le_of_ble_eq_true rfl) (Nat.le_of_ble_eq_true rfl) ((t_J0_length_8abf5_64x2 rfl).up (by decide)) ?_
  obtain ⟨r11, hq9, h⟩ := ax_bd_e h
  refine ax_TSi (d := 1) [.inr (65, 2), .inl (.int a1), .inl (.int a2), .inl (.int ((Int32.ofNat 7) >>> ((0 : Int32) &&& 31)))] [] lk_J0_637 (by decide +kernel) rfl rfl (Nat.le_of_ble_eq_true rfl) (Nat.le_of_ble_eq_true rfl) ((t_J1_indexOf_4cfef_65 hq9).up (by decide)) ?_
  refine ax_Tgoto (off := 16) (tgt := 36) (by decide +kernel) (by decide) ?_
  cases h
  exact ax_Treti (by decide +kernel) rfl rfl
def f_J0_indexOf_0f7a4_64x2 (a1 : Int32) (S : AS) : Option (Int32) := (f_J0_indexOf_7cf53_64x2 a1 (0 : Int32) S).bind (fun (r4 : Int32) => some r4)
set_option maxRecDepth 100000 in
theorem t_J0_indexOf_0f7a4_64x2 {l : Launch} {a1 : Int32} {S : AS} {r : Int32} (h : f_J0_indexOf_0f7a4_64x2 a1 S = some r) : ax_M l 3 ma_J0_indexOf_0f7a4 [.inr (64, 2), .inl (.int a1)] S (some (.inl (.int r))) S := by
  unfold f_J0_indexOf_0f7a4_64x2 at h
  show ax_T l 3 ma_J0_indexOf_0f7a4 (0, [some (.inr (64, 2)), some (.inl (.int a1))], [], S) (some (.inl (.int r))) S
  refine ax_Tgo [.aload_n 0, .iload_n 1, .iconst 0] (pc' := 3) (L' := [some (.inr (64, 2)), some (.inl (.int a1))]) (st' := [.inl (.int (0 : Int32)), .inl (.int a1), .inr (64, 2)]) (S' := S) ok_J0_indexOf_0f7a4.1 (by decide +kernel) rfl rfl ?_
  obtain ⟨r4, hq2, h⟩ := ax_bd_e h
  refine ax_TVi (d := 2) (ka := 64) (i := 2) [.inl (.int a1), .inl (.int (0 : Int32))] [] lk_J0_633 (by decide +kernel) rfl (by decide) rfl (Nat.le_of_ble_eq_true rfl) (Nat.le_of_ble_eq_true rfl) ((t_J0_indexOf_7cf53_64x2 hq2).up (by decide)) ?_
  cases h
  exact ax_Treti (by decide +kernel) rfl rfl
def f_X4_readItems_64x2_66x7_66x8_29_L6 : Nat → Nat → Int32 → Int32 → Int32 → AS → Option (AS)
  | 0, _, _, _, _, _ => none
  | n + 1, y1, x2, x3, x4, S5 => (if ((Int32.ofNat 7) >>> ((0 : Int32) &&& 31)) < x4 then some S5 else ax_bu (f_X10_peek S5) (fun (r13 : Int32) (S10 : AS) => (f_J0_indexOf_0f7a4_64x2 (r13.toUInt32 % 65536).toInt32 S10).bind (fun (r17 : Int32) => (if (0 : Int32) ≤ r17 then (if ((x3 >>> (r17 &&& 31)) &&& (1 : Int32)) = (0 : Int32) then ax_let (x3 ||| ((1 : Int32) <<< (r17 &&& 31))) (fun (v20 : Int32) => (f_X10_pass S10).bind (fun (S21 : AS) => ax_bu (f_X10_number (2 : Int32) S21) (fun (r27 : Int32) (S24 : AS) => (f_X10_failed S24).bind (fun (r31 : Int32) => (if r31 = (0 : Int32) then ax_gd (ax_in r17 7) ((if r27 < (ax_rd S24 66 7 r17.toNatClampNeg) then (f_X10_failAtLastDigit S24).bind (fun (S35 : AS) => some S35) else ax_gd (ax_in r17 7) ((if r27 ≤ (ax_rd S24 66 8 r17.toNatClampNeg) then ax_gd (ax_in (x2 + r17) 42) (ax_let (ax_sai S24 29 y1 (x2 + r17).toNatClampNeg r27) (fun (S41 : AS) => ax_let (x4 + (1 : Int32)) (fun (v42 : Int32) => f_X4_readItems_64x2_66x7_66x8_29_L6 n y1 x2 v20 v42 S41))) else (f_X10_failAtLastDigit S24).bind (fun (S43 : AS) => some S43))))) else some S24))))) else (f_X10_fail S10).bind (fun (S46 : AS) => some S46)) else some S10))))
def f_X4_readItems_64x2_66x7_66x8_29 (i4 : Nat) (a5 : Int32) (S : AS) : Option (AS) := f_X4_readItems_64x2_66x7_66x8_29_L6 ax_F i4 a5 (0 : Int32) (0 : Int32) S
set_option maxRecDepth 100000 in
theorem t_X4_readItems_64x2_66x7_66x8_29_L6 {l : Launch} : ∀ (n : Nat) (y1 : Nat) (x2 : Int32) (x3 : Int32) (x4 : Int32) (S5 : AS) Z, f_X4_readItems_64x2_66x7_66x8_29_L6 n y1 x2 x3 x4 S5 = some Z → ax_T l 4 ma_X4_readItems (6, [some (.inr (10, 0)), some (.inr (64, 2)), some (.inr (66, 7)), some (.inr (66, 8)), some (.inr (29, y1)), some (.inl (.int x2)), some (.inl (.int x3)), some (.inl (.int x4)), none, none], [], S5) none Z := by
  intro n
  induction n with
  | zero =>
    intro y1 x2 x3 x4 S5 Z h
    cases h
  | succ n ih =>
    intro y1 x2 x3 x4 S5 Z h
    unfold f_X4_readItems_64x2_66x7_66x8_29_L6 at h
    refine ax_Tgo [.iload 7, .aload_n 1] (pc' := 9) (L' := [some (.inr (10, 0)), some (.inr (64, 2)), some (.inr (66, 7)), some (.inr (66, 8)), some (.inr (29, y1)), some (.inl (.int x2)), some (.inl (.int x3)), some (.inl (.int x4)), none, none]) (st' := [.inr (64, 2), .inl (.int x4)]) (S' := S5) ok_X4_readItems.1 (by decide +kernel) rfl rfl ?_
    refine ax_TVi (d := 3) (ka := 64) (i := 2) [] [.inl (.int x4)] lk_X4_123 (by decide +kernel) rfl (by decide) rfl (Nat.le_of_ble_eq_true rfl) (Nat.le_of_ble_eq_true rfl) ((t_J0_length_8abf5_64x2 rfl).up (by decide)) ?_
    refine ax_Tic_gt (off := 102) (tgt := 114) (by decide +kernel) (by decide) (fun c9 => ?_) (fun c9 => ?_)
    · rw [if_pos c9] at h
      cases h
      exact ax_Tretv (by decide +kernel) rfl
    · rw [if_neg c9] at h
      refine ax_Tgo [.aload_n 1, .aload_n 0] (pc' := 17) (L' := [some (.inr (10, 0)), some (.inr (64, 2)), some (.inr (66, 7)), some (.inr (66, 8)), some (.inr (29, y1)), some (.inl (.int x2)), some (.inl (.int x3)), some (.inl (.int x4)), none, none]) (st' := [.inr (10, 0), .inr (64, 2)]) (S' := S5) ok_X4_readItems.1 (by decide +kernel) rfl rfl ?_
      obtain ⟨r13, S10, hq11, h⟩ := ax_bu_e h
      refine ax_TVi (d := 3) (ka := 10) (i := 0) [] [.inr (64, 2)] lk_X4_74 (by decide +kernel) rfl (by decide) rfl (Nat.le_of_ble_eq_true rfl) (Nat.le_of_ble_eq_true rfl) ((t_X10_peek hq11).up (by decide)) ?_
      refine ax_Tgo [.i2c] (pc' := 21) (L' := [some (.inr (10, 0)), some (.inr (64, 2)), some (.inr (66, 7)), some (.inr (66, 8)), some (.inr (29, y1)), some (.inl (.int x2)), some (.inl (.int x3)), some (.inl (.int x4)), none, none]) (st' := [.inl (.int (r13.toUInt32 % 65536).toInt32), .inr (64, 2)]) (S' := S10) ok_X4_readItems.1 (by decide +kernel) rfl rfl ?_
      obtain ⟨r17, hq15, h⟩ := ax_bd_e h
      refine ax_TVi (d := 3) (ka := 64) (i := 2) [.inl (.int (r13.toUInt32 % 65536).toInt32)] [] lk_X4_128 (by decide +kernel) rfl (by decide) rfl (Nat.le_of_ble_eq_true rfl) (Nat.le_of_ble_eq_true rfl) ((t_J0_indexOf_0f7a4_64x2 hq15).up (by decide)) ?_
      refine ax_Tgo [.istore 8, .iload 8] (pc' := 28) (L' := [some (.inr (10, 0)), some (.inr (64, 2)), some (.inr (66, 7)), some (.inr (66, 8)), some (.inr (29, y1)), some (.inl (.int x2)), some (.inl (.int x3)), some (.inl (.int x4)), some (.inl (.int r17)), none]) (st' := [.inl (.int r17)]) (S' := S10) ok_X4_readItems.1 (by decide +kernel) rfl rfl ?_
      refine ax_Tif_ge (off := 4) (tgt := 32) (by decide +kernel) (by decide) (fun c18 => ?_) (fun c18 => ?_)
      · rw [if_pos c18] at h
        refine ax_Tgo [.iload 6, .iload 8, .ishr, .iconst 1, .iand] (pc' := 39) (L' := [some (.inr (10, 0)), some (.inr (64, 2)), some (.inr (66, 7)), some (.inr (66, 8)), some (.inr (29, y1)), some (.inl (.int x2)), some (.inl (.int x3)), some (.inl (.int x4)), some (.inl (.int r17)), none]) (st' := [.inl (.int ((x3 >>> (r17 &&& 31)) &&& (1 : Int32)))]) (S' := S10) ok_X4_readItems.1 (by decide +kernel) rfl rfl ?_
        refine ax_Tif_eq (off := 8) (tgt := 47) (by decide +kernel) (by decide) (fun c19 => ?_) (fun c19 => ?_)
        · rw [if_pos c19] at h
          refine ax_Tgo [.iload 6, .iconst 1, .iload 8, .ishl, .ior, .istore 6] (pc' := 56) (L' := [some (.inr (10, 0)), some (.inr (64, 2)), some (.inr (66, 7)), some (.inr (66, 8)), some (.inr (29, y1)), some (.inl (.int x2)), some (.inl (.int (x3 ||| ((1 : Int32) <<< (r17 &&& 31))))), some (.inl (.int x4)), some (.inl (.int r17)), none]) (st' := []) (S' := S10) ok_X4_readItems.1 (by decide +kernel) rfl rfl ?_
          obtain ⟨v20, ev20, h⟩ := ax_let_e h
          rw [ev20]
          refine ax_Tgo [.aload_n 0] (pc' := 57) (L' := [some (.inr (10, 0)), some (.inr (64, 2)), some (.inr (66, 7)), some (.inr (66, 8)), some (.inr (29, y1)), some (.inl (.int x2)), some (.inl (.int v20)), some (.inl (.int x4)), some (.inl (.int r17)), none]) (st' := [.inr (10, 0)]) (S' := S10) ok_X4_readItems.1 (by decide +kernel) rfl rfl ?_
          obtain ⟨S21, hq22, h⟩ := ax_bd_e h
          refine ax_TVv (d := 3) (ka := 10) (i := 0) [] [] lk_X4_86 (by decide +kernel) rfl (by decide) rfl (Nat.le_of_ble_eq_true rfl) (Nat.le_of_ble_eq_true rfl) ((t_X10_pass hq22).up (by decide)) ?_
          refine ax_Tgo [.aload_n 0, .iconst 2] (pc' := 62) (L' := [some (.inr (10, 0)), some (.inr (64, 2)), some (.inr (66, 7)), some (.inr (66, 8)), some (.inr (29, y1)), some (.inl (.int x2)), some (.inl (.int v20)), some (.inl (.int x4)), some (.inl (.int r17)), none]) (st' := [.inl (.int (2 : Int32)), .inr (10, 0)]) (S' := S21) ok_X4_readItems.1 (by decide +kernel) rfl rfl ?_
          obtain ⟨r27, S24, hq25, h⟩ := ax_bu_e h
          refine ax_TVi (d := 3) (ka := 10) (i := 0) [.inl (.int (2 : Int32))] [] lk_X4_132 (by decide +kernel) rfl (by decide) rfl (Nat.le_of_ble_eq_true rfl) (Nat.le_of_ble_eq_true rfl) ((t_X10_number hq25).up (by decide)) ?_
          refine ax_Tgo [.istore 9, .aload_n 0] (pc' := 68) (L' := [some (.inr (10, 0)), some (.inr (64, 2)), some (.inr (66, 7)), some (.inr (66, 8)), some (.inr (29, y1)), some (.inl (.int x2)), some (.inl (.int v20)), some (.inl (.int x4)), some (.inl (.int r17)), some (.inl (.int r27))]) (st' := [.inr (10, 0)]) (S' := S24) ok_X4_readItems.1 (by decide +kernel) rfl rfl ?_
          obtain ⟨r31, hq29, h⟩ := ax_bd_e h
          refine ax_TVi (d := 3) (ka := 10) (i := 0) [] [] lk_X4_58 (by decide +kernel) rfl (by decide) rfl (Nat.le_of_ble_eq_true rfl) (Nat.le_of_ble_eq_true rfl) ((t_X10_failed hq29).up (by decide)) ?_
          refine ax_Tif_eq (off := 4) (tgt := 75) (by decide +kernel) (by decide) (fun c32 => ?_) (fun c32 => ?_)
          · rw [if_pos c32] at h
            refine ax_Tgo [.iload 9, .aload_n 2, .iload 8] (pc' := 80) (L' := [some (.inr (10, 0)), some (.inr (64, 2)), some (.inr (66, 7)), some (.inr (66, 8)), some (.inr (29, y1)), some (.inl (.int x2)), some (.inl (.int v20)), some (.inl (.int x4)), some (.inl (.int r17)), some (.inl (.int r27))]) (st' := [.inl (.int r17), .inr (66, 7), .inl (.int r27)]) (S' := S24) ok_X4_readItems.1 (by decide +kernel) rfl rfl ?_
            obtain ⟨g33, h⟩ := ax_gd_e h
            refine ax_Talc (n := 7) ok_X4_readItems.1 (by decide +kernel) (by decide) rfl g33 ?_
            refine ax_Tic_lt (off := 12) (tgt := 93) (by decide +kernel) (by decide) (fun c34 => ?_) (fun c34 => ?_)
            · rw [if_pos c34] at h
              refine ax_Tgo [.aload_n 0] (pc' := 94) (L' := [some (.inr (10, 0)), some (.inr (64, 2)), some (.inr (66, 7)), some (.inr (66, 8)), some (.inr (29, y1)), some (.inl (.int x2)), some (.inl (.int v20)), some (.inl (.int x4)), some (.inl (.int r17)), some (.inl (.int r27))]) (st' := [.inr (10, 0)]) (S' := S24) ok_X4_readItems.1 (by decide +kernel) rfl rfl ?_
              obtain ⟨S35, hq36, h⟩ := ax_bd_e h
              refine ax_TVv (d := 3) (ka := 10) (i := 0) [] [] lk_X4_135 (by decide +kernel) rfl (by decide) rfl (Nat.le_of_ble_eq_true rfl) (Nat.le_of_ble_eq_true rfl) ((t_X10_failAtLastDigit hq36).up (by decide)) ?_
              cases h
              exact ax_Tretv (by decide +kernel) rfl
            · rw [if_neg c34] at h
              refine ax_Tgo [.iload 9, .aload_n 3, .iload 8] (pc' := 89) (L' := [some (.inr (10, 0)), some (.inr (64, 2)), some (.inr (66, 7)), some (.inr (66, 8)), some (.inr (29, y1)), some (.inl (.int x2)), some (.inl (.int v20)), some (.inl (.int x4)), some (.inl (.int r17)), some (.inl (.int r27))]) (st' := [.inl (.int r17), .inr (66, 8), .inl (.int r27)]) (S' := S24) ok_X4_readItems.1 (by decide +kernel) rfl rfl ?_
              obtain ⟨g38, h⟩ := ax_gd_e h
              refine ax_Talc (n := 7) ok_X4_readItems.1 (by decide +kernel) (by decide) rfl g38 ?_
              refine ax_Tic_le (off := 8) (tgt := 98) (by decide +kernel) (by decide) (fun c39 => ?_) (fun c39 => ?_)
              · rw [if_pos c39] at h
                refine ax_Tgo [.aload 4, .iload 5, .iload 8, .iadd, .iload 9] (pc' := 107) (L' := [some (.inr (10, 0)), some (.inr (64, 2)), some (.inr (66, 7)), some (.inr (66, 8)), some (.inr (29, y1)), some (.inl (.int x2)), some (.inl (.int v20)), some (.inl (.int x4)), some (.inl (.int r17)), some (.inl (.int r27))]) (st' := [.inl (.int r27), .inl (.int (x2 + r17)), .inr (29, y1)]) (S' := S24) ok_X4_readItems.1 (by decide +kernel) rfl rfl ?_
                obtain ⟨g40, h⟩ := ax_gd_e h
                refine ax_Tasi (n := 42) ok_X4_readItems.1 (by decide +kernel) (by decide) rfl g40 ?_
                obtain ⟨S41, eS41, h⟩ := ax_let_e h
                rw [eS41]
                refine ax_Tgo [.iinc 7 1] (pc' := 111) (L' := [some (.inr (10, 0)), some (.inr (64, 2)), some (.inr (66, 7)), some (.inr (66, 8)), some (.inr (29, y1)), some (.inl (.int x2)), some (.inl (.int v20)), some (.inl (.int (x4 + (1 : Int32)))), some (.inl (.int r17)), some (.inl (.int r27))]) (st' := []) (S' := S41) ok_X4_readItems.1 (by decide +kernel) rfl rfl ?_
                obtain ⟨v42, ev42, h⟩ := ax_let_e h
                rw [ev42]
                refine ax_Tgoto (off := (-105)) (tgt := 6) (by decide +kernel) (by decide) ?_
                refine ax_Tdrop [true, true, true, true, true, true, true, true, false, false] (L' := [some (.inr (10, 0)), some (.inr (64, 2)), some (.inr (66, 7)), some (.inr (66, 8)), some (.inr (29, y1)), some (.inl (.int x2)), some (.inl (.int v20)), some (.inl (.int v42)), none, none]) rfl ?_
                exact ih y1 x2 v20 v42 S41 _ h
              · rw [if_neg c39] at h
                refine ax_Tgo [.aload_n 0] (pc' := 94) (L' := [some (.inr (10, 0)), some (.inr (64, 2)), some (.inr (66, 7)), some (.inr (66, 8)), some (.inr (29, y1)), some (.inl (.int x2)), some (.inl (.int v20)), some (.inl (.int x4)), some (.inl (.int r17)), some (.inl (.int r27))]) (st' := [.inr (10, 0)]) (S' := S24) ok_X4_readItems.1 (by decide +kernel) rfl rfl ?_
                obtain ⟨S43, hq44, h⟩ := ax_bd_e h
                refine ax_TVv (d := 3) (ka := 10) (i := 0) [] [] lk_X4_135 (by decide +kernel) rfl (by decide) rfl (Nat.le_of_ble_eq_true rfl) (Nat.le_of_ble_eq_true rfl) ((t_X10_failAtLastDigit hq44).up (by decide)) ?_
                cases h
                exact ax_Tretv (by decide +kernel) rfl
          · rw [if_neg c32] at h
            cases h
            exact ax_Tretv (by decide +kernel) rfl
        · rw [if_neg c19] at h
          refine ax_Tgo [.aload_n 0] (pc' := 43) (L' := [some (.inr (10, 0)), some (.inr (64, 2)), some (.inr (66, 7)), some (.inr (66, 8)), some (.inr (29, y1)), some (.inl (.int x2)), some (.inl (.int x3)), some (.inl (.int x4)), some (.inl (.int r17)), none]) (st' := [.inr (10, 0)]) (S' := S10) ok_X4_readItems.1 (by decide +kernel) rfl rfl ?_
          obtain ⟨S46, hq47, h⟩ := ax_bd_e h
          refine ax_TVv (d := 3) (ka := 10) (i := 0) [] [] lk_X4_64 (by decide +kernel) rfl (by decide) rfl (Nat.le_of_ble_eq_true rfl) (Nat.le_of_ble_eq_true rfl) ((t_X10_fail hq47).up (by decide)) ?_
          cases h
          exact ax_Tretv (by decide +kernel) rfl
      · rw [if_neg c18] at h
        cases h
        exact ax_Tretv (by decide +kernel) rfl
set_option maxRecDepth 100000 in
theorem t_X4_readItems_64x2_66x7_66x8_29 {l : Launch} {i4 : Nat} {a5 : Int32} {S Z : AS} (h : f_X4_readItems_64x2_66x7_66x8_29 i4 a5 S = some Z) : ax_M l 4 ma_X4_readItems [.inr (10, 0), .inr (64, 2), .inr (66, 7), .inr (66, 8), .inr (29, i4), .inl (.int a5)] S none Z := by
  unfold f_X4_readItems_64x2_66x7_66x8_29 at h
  show ax_T l 4 ma_X4_readItems (0, [some (.inr (10, 0)), some (.inr (64, 2)), some (.inr (66, 7)), some (.inr (66, 8)), some (.inr (29, i4)), some (.inl (.int a5)), none, none, none, none], [], S) none Z
  refine ax_Tgo [.iconst 0, .istore 6, .iconst 0, .istore 7] (pc' := 6) (L' := [some (.inr (10, 0)), some (.inr (64, 2)), some (.inr (66, 7)), some (.inr (66, 8)), some (.inr (29, i4)), some (.inl (.int a5)), some (.inl (.int (0 : Int32))), some (.inl (.int (0 : Int32))), none, none]) (st' := []) (S' := S) ok_X4_readItems.1 (by decide +kernel) rfl rfl ?_
  refine t_X4_readItems_64x2_66x7_66x8_29_L6 _ i4 a5 (0 : Int32) (0 : Int32) S _ h
def f_X4_readCaller (i0 : Nat) (S : AS) : Option (AS) := (if (ax_fi S 4 i0 5) < (6 : Int32) then (f_X10_pass S).bind (fun (S2 : AS) => ax_let ((ax_fi S2 4 i0 5) * (7 : Int32)) (fun (v5 : Int32) => ax_gd (!decide ((0 : Int32) < 0) && !decide (v5 < 0) && !decide ((7 : Int32) < 0) && decide ((0 : Int32).toNatClampNeg + (7 : Int32).toNatClampNeg ≤ ax_ln S2 66 6) && decide (v5.toNatClampNeg + (7 : Int32).toNatClampNeg ≤ ax_ln S2 29 i0)) (ax_let (ax_cpy S2 29 i0 (ax_rd S2 66 6) (0 : Int32).toNatClampNeg v5.toNatClampNeg (7 : Int32).toNatClampNeg) (fun (S7 : AS) => ax_let (ax_sfi S7 4 i0 5 ((ax_fi S7 4 i0 5) + (1 : Int32))) (fun (S8 : AS) => (f_X4_readItems_64x2_66x7_66x8_29 i0 v5 S8).bind (fun (S9 : AS) => some S9)))))) else (f_X10_fail S).bind (fun (S12 : AS) => some S12))
set_option maxRecDepth 100000 in
theorem t_X4_readCaller {l : Launch} {i0 : Nat} {S Z : AS} (h : f_X4_readCaller i0 S = some Z) : ax_M l 5 ma_X4_readCaller [.inr (4, i0), .inr (10, 0)] S none Z := by
  unfold f_X4_readCaller at h
  show ax_T l 5 ma_X4_readCaller (0, [some (.inr (4, i0)), some (.inr (10, 0)), none], [], S) none Z
  refine ax_Tgo [.aload_n 0, .getfield 29, .bipush 6] (pc' := 6) (L' := [some (.inr (4, i0)), some (.inr (10, 0)), none]) (st' := [.inl (.int (6 : Int32)), .inl (.int (ax_fi S 4 i0 5))]) (S' := S) ok_X4_readCaller.1 (by decide +kernel) rfl rfl ?_
  refine ax_Tic_lt (off := 8) (tgt := 14) (by decide +kernel) (by decide) (fun c1 => ?_) (fun c1 => ?_)
  · rw [if_pos c1] at h
    refine ax_Tgo [.aload_n 1] (pc' := 15) (L' := [some (.inr (4, i0)), some (.inr (10, 0)), none]) (st' := [.inr (10, 0)]) (S' := S) ok_X4_readCaller.1 (by decide +kernel) rfl rfl ?_
    obtain ⟨S2, hq3, h⟩ := ax_bd_e h
    refine ax_TVv (d := 4) (ka := 10) (i := 0) [] [] lk_X4_86 (by decide +kernel) rfl (by decide) rfl (Nat.le_of_ble_eq_true rfl) (Nat.le_of_ble_eq_true rfl) ((t_X10_pass hq3).up (by decide)) ?_
    refine ax_Tgo [.aload_n 0, .getfield 29, .bipush 7, .imul, .istore_n 2] (pc' := 26) (L' := [some (.inr (4, i0)), some (.inr (10, 0)), some (.inl (.int ((ax_fi S2 4 i0 5) * (7 : Int32))))]) (st' := []) (S' := S2) ok_X4_readCaller.1 (by decide +kernel) rfl rfl ?_
    obtain ⟨v5, ev5, h⟩ := ax_let_e h
    rw [ev5]
    refine ax_Tgo [.getstatic 112, .iconst 0, .aload_n 0, .getfield 18, .iload_n 2, .bipush 7] (pc' := 37) (L' := [some (.inr (4, i0)), some (.inr (10, 0)), some (.inl (.int v5))]) (st' := [.inl (.int (7 : Int32)), .inl (.int v5), .inr (29, i0), .inl (.int (0 : Int32)), .inr (66, 6)]) (S' := S2) ok_X4_readCaller.1 (by decide +kernel) rfl rfl ?_
    obtain ⟨g6, h⟩ := ax_gd_e h
    refine ax_Tacopy (d := 4) (by decide +kernel) lkc_X4_39 (by decide) (by decide) g6 (Nat.le_of_ble_eq_true rfl) ?_
    obtain ⟨S7, eS7, h⟩ := ax_let_e h
    rw [eS7]
    refine ax_Tgo [.aload_n 0, .dup, .getfield 29, .iconst 1, .iadd, .putfield 29] (pc' := 50) (L' := [some (.inr (4, i0)), some (.inr (10, 0)), some (.inl (.int v5))]) (st' := []) (S' := (ax_sfi S7 4 i0 5 ((ax_fi S7 4 i0 5) + (1 : Int32)))) ok_X4_readCaller.1 (by decide +kernel) rfl rfl ?_
    obtain ⟨S8, eS8, h⟩ := ax_let_e h
    rw [eS8]
    refine ax_Tgo [.aload_n 1, .ldc 115, .getstatic 117, .getstatic 120, .aload_n 0, .getfield 18, .iload_n 2] (pc' := 64) (L' := [some (.inr (4, i0)), some (.inr (10, 0)), some (.inl (.int v5))]) (st' := [.inl (.int v5), .inr (29, i0), .inr (66, 8), .inr (66, 7), .inr (64, 2), .inr (10, 0)]) (S' := S8) ok_X4_readCaller.1 (by decide +kernel) rfl rfl ?_
    obtain ⟨S9, hq10, h⟩ := ax_bd_e h
    refine ax_TSv (d := 4) [.inr (10, 0), .inr (64, 2), .inr (66, 7), .inr (66, 8), .inr (29, i0), .inl (.int v5)] [] lk_X4_97 (by decide +kernel) rfl rfl (Nat.le_of_ble_eq_true rfl) (Nat.le_of_ble_eq_true rfl) ((t_X4_readItems_64x2_66x7_66x8_29 hq10).up (by decide)) ?_
    cases h
    exact ax_Tretv (by decide +kernel) rfl
  · rw [if_neg c1] at h
    refine ax_Tgo [.aload_n 1] (pc' := 10) (L' := [some (.inr (4, i0)), some (.inr (10, 0)), none]) (st' := [.inr (10, 0)]) (S' := S) ok_X4_readCaller.1 (by decide +kernel) rfl rfl ?_
    obtain ⟨S12, hq13, h⟩ := ax_bd_e h
    refine ax_TVv (d := 4) (ka := 10) (i := 0) [] [] lk_X4_64 (by decide +kernel) rfl (by decide) rfl (Nat.le_of_ble_eq_true rfl) (Nat.le_of_ble_eq_true rfl) ((t_X10_fail hq13).up (by decide)) ?_
    cases h
    exact ax_Tretv (by decide +kernel) rfl
def f_X4_readClause (i0 : Nat) (S : AS) : Option (AS) := ax_bu (f_X10_peek S) (fun (r4 : Int32) (S1 : AS) => (if r4 = (108 : Int32) then (f_X4_readLodger i0 S1).bind (fun (S6 : AS) => some S6) else if r4 = (115 : Int32) then (f_X4_readRules i0 S1).bind (fun (S10 : AS) => some S10) else if r4 = (118 : Int32) then (f_X4_readCaller i0 S1).bind (fun (S14 : AS) => some S14) else (f_X10_fail S1).bind (fun (S17 : AS) => some S17)))
set_option maxRecDepth 100000 in
theorem t_X4_readClause {l : Launch} {i0 : Nat} {S Z : AS} (h : f_X4_readClause i0 S = some Z) : ax_M l 6 ma_X4_readClause [.inr (4, i0), .inr (10, 0)] S none Z := by
  unfold f_X4_readClause at h
  show ax_T l 6 ma_X4_readClause (0, [some (.inr (4, i0)), some (.inr (10, 0))], [], S) none Z
  refine ax_Tgo [.aload_n 1] (pc' := 1) (L' := [some (.inr (4, i0)), some (.inr (10, 0))]) (st' := [.inr (10, 0)]) (S' := S) ok_X4_readClause.1 (by decide +kernel) rfl rfl ?_
  obtain ⟨r4, S1, hq2, h⟩ := ax_bu_e h
  refine ax_TVi (d := 5) (ka := 10) (i := 0) [] [] lk_X4_74 (by decide +kernel) rfl (by decide) rfl (Nat.le_of_ble_eq_true rfl) (Nat.le_of_ble_eq_true rfl) ((t_X10_peek hq2).up (by decide)) ?_
  by_cases c5 : r4 = (108 : Int32)
  · rw [if_pos c5] at h
    refine ax_Tlsw (dflt := 60) (ps := #[(108, 44), (115, 36), (118, 52)]) (len := 36) (off := 44) (tgt := 48) (by decide +kernel) (by decide) (by rw [c5]; rfl) (by decide) ?_
    refine ax_Tgo [.aload_n 0, .aload_n 1] (pc' := 50) (L' := [some (.inr (4, i0)), some (.inr (10, 0))]) (st' := [.inr (10, 0), .inr (4, i0)]) (S' := S1) ok_X4_readClause.1 (by decide +kernel) rfl rfl ?_
    obtain ⟨S6, hq7, h⟩ := ax_bd_e h
    refine ax_TVv (d := 5) (ka := 4) (i := i0) [.inr (10, 0)] [] lk_X4_80 (by decide +kernel) rfl (by decide) rfl (Nat.le_of_ble_eq_true rfl) (Nat.le_of_ble_eq_true rfl) ((t_X4_readLodger hq7).up (by decide)) ?_
    refine ax_Tgoto (off := 15) (tgt := 68) (by decide +kernel) (by decide) ?_
    cases h
    exact ax_Tretv (by decide +kernel) rfl
  · rw [if_neg c5] at h
    by_cases c9 : r4 = (115 : Int32)
    · rw [if_pos c9] at h
      refine ax_Tlsw (dflt := 60) (ps := #[(108, 44), (115, 36), (118, 52)]) (len := 36) (off := 36) (tgt := 40) (by decide +kernel) (by decide) (by rw [c9]; rfl) (by decide) ?_
      refine ax_Tgo [.aload_n 0, .aload_n 1] (pc' := 42) (L' := [some (.inr (4, i0)), some (.inr (10, 0))]) (st' := [.inr (10, 0), .inr (4, i0)]) (S' := S1) ok_X4_readClause.1 (by decide +kernel) rfl rfl ?_
      obtain ⟨S10, hq11, h⟩ := ax_bd_e h
      refine ax_TVv (d := 5) (ka := 4) (i := i0) [.inr (10, 0)] [] lk_X4_77 (by decide +kernel) rfl (by decide) rfl (Nat.le_of_ble_eq_true rfl) (Nat.le_of_ble_eq_true rfl) ((t_X4_readRules hq11).up (by decide)) ?_
      refine ax_Tgoto (off := 23) (tgt := 68) (by decide +kernel) (by decide) ?_
      cases h
      exact ax_Tretv (by decide +kernel) rfl
    · rw [if_neg c9] at h
      by_cases c13 : r4 = (118 : Int32)
      · rw [if_pos c13] at h
        refine ax_Tlsw (dflt := 60) (ps := #[(108, 44), (115, 36), (118, 52)]) (len := 36) (off := 52) (tgt := 56) (by decide +kernel) (by decide) (by rw [c13]; rfl) (by decide) ?_
        refine ax_Tgo [.aload_n 0, .aload_n 1] (pc' := 58) (L' := [some (.inr (4, i0)), some (.inr (10, 0))]) (st' := [.inr (10, 0), .inr (4, i0)]) (S' := S1) ok_X4_readClause.1 (by decide +kernel) rfl rfl ?_
        obtain ⟨S14, hq15, h⟩ := ax_bd_e h
        refine ax_TVv (d := 5) (ka := 4) (i := i0) [.inr (10, 0)] [] lk_X4_83 (by decide +kernel) rfl (by decide) rfl (Nat.le_of_ble_eq_true rfl) (Nat.le_of_ble_eq_true rfl) ((t_X4_readCaller hq15).up (by decide)) ?_
        refine ax_Tgoto (off := 7) (tgt := 68) (by decide +kernel) (by decide) ?_
        cases h
        exact ax_Tretv (by decide +kernel) rfl
      · rw [if_neg c13] at h
        refine ax_Tlsw (dflt := 60) (ps := #[(108, 44), (115, 36), (118, 52)]) (len := 36) (off := 60) (tgt := 64) (by decide +kernel) (by decide) (by show Op.lookupswitch.offset [(108, 44), (115, 36), (118, 52)] 60 r4.toInt = 60; rw [lv_osw (a := 108) c5 rfl]; rw [lv_osw (a := 115) c9 rfl]; rw [lv_osw (a := 118) c13 rfl]; rfl) (by decide) ?_
        refine ax_Tgo [.aload_n 1] (pc' := 65) (L' := [some (.inr (4, i0)), some (.inr (10, 0))]) (st' := [.inr (10, 0)]) (S' := S1) ok_X4_readClause.1 (by decide +kernel) rfl rfl ?_
        obtain ⟨S17, hq18, h⟩ := ax_bd_e h
        refine ax_TVv (d := 5) (ka := 10) (i := 0) [] [] lk_X4_64 (by decide +kernel) rfl (by decide) rfl (Nat.le_of_ble_eq_true rfl) (Nat.le_of_ble_eq_true rfl) ((t_X10_fail hq18).up (by decide)) ?_
        cases h
        exact ax_Tretv (by decide +kernel) rfl
def f_X10_demand (a1 : Int32) (S : AS) : Option (AS) := ax_bu (f_X10_peek S) (fun (r4 : Int32) (S1 : AS) => (if r4 = a1 then (f_X10_pass S1).bind (fun (S9 : AS) => some S9) else (f_X10_fail S1).bind (fun (S6 : AS) => some S6)))
set_option maxRecDepth 100000 in
theorem t_X10_demand {l : Launch} {a1 : Int32} {S Z : AS} (h : f_X10_demand a1 S = some Z) : ax_M l 1 ma_X10_demand [.inr (10, 0), .inl (.int a1)] S none Z := by
  unfold f_X10_demand at h
  show ax_T l 1 ma_X10_demand (0, [some (.inr (10, 0)), some (.inl (.int a1))], [], S) none Z
  refine ax_Tgo [.aload_n 0] (pc' := 1) (L' := [some (.inr (10, 0)), some (.inl (.int a1))]) (st' := [.inr (10, 0)]) (S' := S) ok_X10_demand.1 (by decide +kernel) rfl rfl ?_
  obtain ⟨r4, S1, hq2, h⟩ := ax_bu_e h
  refine ax_TVi (d := 0) (ka := 10) (i := 0) [] [] lk_X10_25 (by decide +kernel) rfl (by decide) rfl (Nat.le_of_ble_eq_true rfl) (Nat.le_of_ble_eq_true rfl) ((t_X10_peek hq2).up (by decide)) ?_
  refine ax_Tgo [.iload_n 1] (pc' := 5) (L' := [some (.inr (10, 0)), some (.inl (.int a1))]) (st' := [.inl (.int a1), .inl (.int r4)]) (S' := S1) ok_X10_demand.1 (by decide +kernel) rfl rfl ?_
  refine ax_Tic_ne (off := 10) (tgt := 15) (by decide +kernel) (by decide) (fun c5 => ?_) (fun c5 => ?_)
  · rw [if_neg c5] at h
    refine ax_Tgo [.aload_n 0] (pc' := 16) (L' := [some (.inr (10, 0)), some (.inl (.int a1))]) (st' := [.inr (10, 0)]) (S' := S1) ok_X10_demand.1 (by decide +kernel) rfl rfl ?_
    obtain ⟨S6, hq7, h⟩ := ax_bd_e h
    refine ax_TVv (d := 0) (ka := 10) (i := 0) [] [] lk_X10_32 (by decide +kernel) rfl (by decide) rfl (Nat.le_of_ble_eq_true rfl) (Nat.le_of_ble_eq_true rfl) ((t_X10_fail hq7).up (by decide)) ?_
    cases h
    exact ax_Tretv (by decide +kernel) rfl
  · rw [if_pos c5] at h
    refine ax_Tgo [.aload_n 0] (pc' := 9) (L' := [some (.inr (10, 0)), some (.inl (.int a1))]) (st' := [.inr (10, 0)]) (S' := S1) ok_X10_demand.1 (by decide +kernel) rfl rfl ?_
    obtain ⟨S9, hq10, h⟩ := ax_bd_e h
    refine ax_TVv (d := 0) (ka := 10) (i := 0) [] [] lk_X10_29 (by decide +kernel) rfl (by decide) rfl (Nat.le_of_ble_eq_true rfl) (Nat.le_of_ble_eq_true rfl) ((t_X10_pass hq10).up (by decide)) ?_
    refine ax_Tgoto (off := 7) (tgt := 19) (by decide +kernel) (by decide) ?_
    cases h
    exact ax_Tretv (by decide +kernel) rfl
def f_X10_goesOn (S : AS) : Option (Int32 × AS) := ax_bu (f_X10_peek S) (fun (r4 : Int32) (S1 : AS) => (if r4 = (0 : Int32) then some ((0 : Int32), S1) else (f_X10_demand (59 : Int32) S1).bind (fun (S6 : AS) => (f_X10_failed S6).bind (fun (r12 : Int32) => (if r12 = (0 : Int32) then some ((1 : Int32), S6) else some ((0 : Int32), S6))))))
set_option maxRecDepth 100000 in
theorem t_X10_goesOn {l : Launch} {S Z : AS} {r : Int32} (h : f_X10_goesOn S = some (r, Z)) : ax_M l 2 ma_X10_goesOn [.inr (10, 0)] S (some (.inl (.int r))) Z := by
  unfold f_X10_goesOn at h
  show ax_T l 2 ma_X10_goesOn (0, [some (.inr (10, 0)), none], [], S) (some (.inl (.int r))) Z
  refine ax_Tgo [.aload_n 0] (pc' := 1) (L' := [some (.inr (10, 0)), none]) (st' := [.inr (10, 0)]) (S' := S) ok_X10_goesOn.1 (by decide +kernel) rfl rfl ?_
  obtain ⟨r4, S1, hq2, h⟩ := ax_bu_e h
  refine ax_TVi (d := 1) (ka := 10) (i := 0) [] [] lk_X10_25 (by decide +kernel) rfl (by decide) rfl (Nat.le_of_ble_eq_true rfl) (Nat.le_of_ble_eq_true rfl) ((t_X10_peek hq2).up (by decide)) ?_
  refine ax_Tgo [.istore_n 1, .iload_n 1] (pc' := 6) (L' := [some (.inr (10, 0)), some (.inl (.int r4))]) (st' := [.inl (.int r4)]) (S' := S1) ok_X10_goesOn.1 (by decide +kernel) rfl rfl ?_
  refine ax_Tif_ne (off := 5) (tgt := 11) (by decide +kernel) (by decide) (fun c5 => ?_) (fun c5 => ?_)
  · rw [if_neg c5] at h
    refine ax_Tgo [.aload_n 0, .bipush 59] (pc' := 14) (L' := [some (.inr (10, 0)), some (.inl (.int r4))]) (st' := [.inl (.int (59 : Int32)), .inr (10, 0)]) (S' := S1) ok_X10_goesOn.1 (by decide +kernel) rfl rfl ?_
    obtain ⟨S6, hq7, h⟩ := ax_bd_e h
    refine ax_TVv (d := 1) (ka := 10) (i := 0) [.inl (.int (59 : Int32))] [] lk_X10_35 (by decide +kernel) rfl (by decide) rfl (Nat.le_of_ble_eq_true rfl) (Nat.le_of_ble_eq_true rfl) ((t_X10_demand hq7).up (by decide)) ?_
    refine ax_Tgo [.aload_n 0] (pc' := 18) (L' := [some (.inr (10, 0)), some (.inl (.int r4))]) (st' := [.inr (10, 0)]) (S' := S6) ok_X10_goesOn.1 (by decide +kernel) rfl rfl ?_
    obtain ⟨r12, hq10, h⟩ := ax_bd_e h
    refine ax_TVi (d := 1) (ka := 10) (i := 0) [] [] lk_X10_39 (by decide +kernel) rfl (by decide) rfl (Nat.le_of_ble_eq_true rfl) (Nat.le_of_ble_eq_true rfl) ((t_X10_failed hq10).up (by decide)) ?_
    refine ax_Tif_ne (off := 7) (tgt := 28) (by decide +kernel) (by decide) (fun c13 => ?_) (fun c13 => ?_)
    · rw [if_neg c13] at h
      refine ax_Tgo [.iconst 0] (pc' := 29) (L' := [some (.inr (10, 0)), some (.inl (.int r4))]) (st' := [.inl (.int (0 : Int32))]) (S' := S6) ok_X10_goesOn.1 (by decide +kernel) rfl rfl ?_
      cases h
      exact ax_Treti (by decide +kernel) rfl rfl
    · rw [if_pos c13] at h
      refine ax_Tgo [.iconst 1] (pc' := 25) (L' := [some (.inr (10, 0)), some (.inl (.int r4))]) (st' := [.inl (.int (1 : Int32))]) (S' := S6) ok_X10_goesOn.1 (by decide +kernel) rfl rfl ?_
      refine ax_Tgoto (off := 4) (tgt := 29) (by decide +kernel) (by decide) ?_
      cases h
      exact ax_Treti (by decide +kernel) rfl rfl
  · rw [if_pos c5] at h
    refine ax_Tgo [.iconst 0] (pc' := 10) (L' := [some (.inr (10, 0)), some (.inl (.int r4))]) (st' := [.inl (.int (0 : Int32))]) (S' := S1) ok_X10_goesOn.1 (by decide +kernel) rfl rfl ?_
    cases h
    exact ax_Treti (by decide +kernel) rfl rfl
def f_X10_faultFound (S : AS) : Option (Int32) := some (ax_fi S 10 0 3)
set_option maxRecDepth 100000 in
theorem t_X10_faultFound {l : Launch} {S : AS} {r : Int32} (h : f_X10_faultFound S = some r) : ax_M l 0 ma_X10_faultFound [.inr (10, 0)] S (some (.inl (.int r))) S := by
  unfold f_X10_faultFound at h
  show ax_T l 0 ma_X10_faultFound (0, [some (.inr (10, 0))], [], S) (some (.inl (.int r))) S
  refine ax_Tgo [.aload_n 0, .getfield 22] (pc' := 4) (L' := [some (.inr (10, 0))]) (st' := [.inl (.int (ax_fi S 10 0 3))]) (S' := S) ok_X10_faultFound.1 (by decide +kernel) rfl rfl ?_
  cases h
  exact ax_Treti (by decide +kernel) rfl rfl
def f_X4_isWhole_L2 (S : AS) (K31 : Nat → Option (Int32)) : Nat → Nat → Int32 → Option (Int32)
  | 0, _, _ => none
  | n + 1, y1, x2 => (if (ax_fi S 4 y1 5) ≤ x2 then K31 y1 else (f_X4_traitOf y1 x2 (5 : Int32) S).bind (fun (r8 : Int32) => (if r8 < (ax_fi S 4 y1 4) then ax_let (x2 + (1 : Int32)) (fun (v10 : Int32) => f_X4_isWhole_L2 S K31 n y1 v10) else some (0 : Int32))))
def f_X4_isWhole (i0 : Nat) (S : AS) : Option (Int32) := f_X4_isWhole_L2 S (fun (x3 : Nat)  => (if (ax_fi S 4 x3 4) ≤ (0 : Int32) then some (0 : Int32) else (if (ax_fi S 4 x3 5) ≤ (0 : Int32) then some (0 : Int32) else some (1 : Int32)))) ax_F i0 (0 : Int32)
set_option maxRecDepth 100000 in
theorem t_X4_isWhole_L2 {l : Launch} {S : AS} {K31 : Nat → Option (Int32)} (hK31 : ∀ (x3 : Nat) r, K31 x3  = some r → ax_T l 1 ma_X4_isWhole (31, [some (.inr (4, x3)), none], [], S) (some (.inl (.int r))) S) : ∀ (n : Nat) (y1 : Nat) (x2 : Int32) r, f_X4_isWhole_L2 S K31 n y1 x2  = some r → ax_T l 1 ma_X4_isWhole (2, [some (.inr (4, y1)), some (.inl (.int x2))], [], S) (some (.inl (.int r))) S := by
  intro n
  induction n with
  | zero =>
    intro y1 x2  r h
    cases h
  | succ n ih =>
    intro y1 x2  r h
    unfold f_X4_isWhole_L2 at h
    refine ax_Tgo [.iload_n 1, .aload_n 0, .getfield 29] (pc' := 7) (L' := [some (.inr (4, y1)), some (.inl (.int x2))]) (st' := [.inl (.int (ax_fi S 4 y1 5)), .inl (.int x2)]) (S' := S) ok_X4_isWhole.1 (by decide +kernel) rfl rfl ?_
    refine ax_Tic_ge (off := 24) (tgt := 31) (by decide +kernel) (by decide) (fun c4 => ?_) (fun c4 => ?_)
    · rw [if_pos c4] at h
      refine ax_Tdrop [true, false] (L' := [some (.inr (4, y1)), none]) rfl ?_
      exact hK31 y1 _ h
    · rw [if_neg c4] at h
      refine ax_Tgo [.aload_n 0, .iload_n 1, .iconst 5] (pc' := 13) (L' := [some (.inr (4, y1)), some (.inl (.int x2))]) (st' := [.inl (.int (5 : Int32)), .inl (.int x2), .inr (4, y1)]) (S' := S) ok_X4_isWhole.1 (by decide +kernel) rfl rfl ?_
      obtain ⟨r8, hq6, h⟩ := ax_bd_e h
      refine ax_TVi (d := 0) (ka := 4) (i := y1) [.inl (.int x2), .inl (.int (5 : Int32))] [] lk_X4_71 (by decide +kernel) rfl (by decide) rfl (Nat.le_of_ble_eq_true rfl) (Nat.le_of_ble_eq_true rfl) ((t_X4_traitOf hq6).up (by decide)) ?_
      refine ax_Tgo [.aload_n 0, .getfield 25] (pc' := 20) (L' := [some (.inr (4, y1)), some (.inl (.int x2))]) (st' := [.inl (.int (ax_fi S 4 y1 4)), .inl (.int r8)]) (S' := S) ok_X4_isWhole.1 (by decide +kernel) rfl rfl ?_
      refine ax_Tic_lt (off := 5) (tgt := 25) (by decide +kernel) (by decide) (fun c9 => ?_) (fun c9 => ?_)
      · rw [if_pos c9] at h
        refine ax_Tgo [.iinc 1 1] (pc' := 28) (L' := [some (.inr (4, y1)), some (.inl (.int (x2 + (1 : Int32))))]) (st' := []) (S' := S) ok_X4_isWhole.1 (by decide +kernel) rfl rfl ?_
        obtain ⟨v10, ev10, h⟩ := ax_let_e h
        rw [ev10]
        refine ax_Tgoto (off := (-26)) (tgt := 2) (by decide +kernel) (by decide) ?_
        exact ih y1 v10 _ h
      · rw [if_neg c9] at h
        refine ax_Tgo [.iconst 0] (pc' := 24) (L' := [some (.inr (4, y1)), some (.inl (.int x2))]) (st' := [.inl (.int (0 : Int32))]) (S' := S) ok_X4_isWhole.1 (by decide +kernel) rfl rfl ?_
        cases h
        exact ax_Treti (by decide +kernel) rfl rfl
set_option maxRecDepth 100000 in
theorem t_X4_isWhole {l : Launch} {i0 : Nat} {S : AS} {r : Int32} (h : f_X4_isWhole i0 S = some r) : ax_M l 1 ma_X4_isWhole [.inr (4, i0)] S (some (.inl (.int r))) S := by
  unfold f_X4_isWhole at h
  show ax_T l 1 ma_X4_isWhole (0, [some (.inr (4, i0)), none], [], S) (some (.inl (.int r))) S
  refine ax_Tgo [.iconst 0, .istore_n 1] (pc' := 2) (L' := [some (.inr (4, i0)), some (.inl (.int (0 : Int32)))]) (st' := []) (S' := S) ok_X4_isWhole.1 (by decide +kernel) rfl rfl ?_
  refine t_X4_isWhole_L2 ?_ _ i0 (0 : Int32) _ h
  · intro x3  r h
    refine ax_Tgo [.aload_n 0, .getfield 25] (pc' := 35) (L' := [some (.inr (4, x3)), none]) (st' := [.inl (.int (ax_fi S 4 x3 4))]) (S' := S) ok_X4_isWhole.1 (by decide +kernel) rfl rfl ?_
    refine ax_Tif_le (off := 14) (tgt := 49) (by decide +kernel) (by decide) (fun c11 => ?_) (fun c11 => ?_)
    · rw [if_pos c11] at h
      refine ax_Tgo [.iconst 0] (pc' := 50) (L' := [some (.inr (4, x3)), none]) (st' := [.inl (.int (0 : Int32))]) (S' := S) ok_X4_isWhole.1 (by decide +kernel) rfl rfl ?_
      cases h
      exact ax_Treti (by decide +kernel) rfl rfl
    · rw [if_neg c11] at h
      refine ax_Tgo [.aload_n 0, .getfield 29] (pc' := 42) (L' := [some (.inr (4, x3)), none]) (st' := [.inl (.int (ax_fi S 4 x3 5))]) (S' := S) ok_X4_isWhole.1 (by decide +kernel) rfl rfl ?_
      refine ax_Tif_le (off := 7) (tgt := 49) (by decide +kernel) (by decide) (fun c12 => ?_) (fun c12 => ?_)
      · rw [if_pos c12] at h
        refine ax_Tgo [.iconst 0] (pc' := 50) (L' := [some (.inr (4, x3)), none]) (st' := [.inl (.int (0 : Int32))]) (S' := S) ok_X4_isWhole.1 (by decide +kernel) rfl rfl ?_
        cases h
        exact ax_Treti (by decide +kernel) rfl rfl
      · rw [if_neg c12] at h
        refine ax_Tgo [.iconst 1] (pc' := 46) (L' := [some (.inr (4, x3)), none]) (st' := [.inl (.int (1 : Int32))]) (S' := S) ok_X4_isWhole.1 (by decide +kernel) rfl rfl ?_
        refine ax_Tgoto (off := 4) (tgt := 50) (by decide +kernel) (by decide) ?_
        cases h
        exact ax_Treti (by decide +kernel) rfl rfl
def f_X4_readFrom_L36 (K62 : Nat → AS → Option (Int32 × AS)) : Nat → Nat → Int32 → Int32 → AS → Option (Int32 × AS)
  | 0, _, _, _, _ => none
  | n + 1, y9, x10, x11, S13 => (if x10 = (0 : Int32) then K62 y9 S13 else (if (11 : Int32) < x11 then K62 y9 S13 else (f_X4_readClause y9 S13).bind (fun (S16 : AS) => ax_bu (f_X10_goesOn S16) (fun (r22 : Int32) (S19 : AS) => ax_let (x11 + (1 : Int32)) (fun (v23 : Int32) => f_X4_readFrom_L36 K62 n y9 r22 v23 S19)))))
def f_X4_readFrom (i0 : Nat) (S : AS) : Option (Int32 × AS) := ax_let (ax_sfi S 4 i0 3 (0 : Int32)) (fun (S1 : AS) => ax_let (ax_sfi S1 4 i0 4 (0 : Int32)) (fun (S2 : AS) => ax_let (ax_sfi S2 4 i0 5 (0 : Int32)) (fun (S3 : AS) => ax_gd (!decide ((0 : Int32) < 0) && !decide ((0 : Int32) < 0) && !decide ((3 : Int32) < 0) && decide ((0 : Int32).toNatClampNeg + (3 : Int32).toNatClampNeg ≤ ax_ln S3 66 0) && decide ((0 : Int32).toNatClampNeg + (3 : Int32).toNatClampNeg ≤ ax_ln S3 27 i0)) (ax_let (ax_cpy S3 27 i0 (ax_rd S3 66 0) (0 : Int32).toNatClampNeg (0 : Int32).toNatClampNeg (3 : Int32).toNatClampNeg) (fun (S5 : AS) => (f_X10_rewind S5).bind (fun (S6 : AS) => f_X4_readFrom_L36 (fun (x12 : Nat) (S24 : AS) => (f_X10_failed S24).bind (fun (r28 : Int32) => (if r28 = (0 : Int32) then (f_X4_isWhole x12 S24).bind (fun (r36 : Int32) => (if r36 = (0 : Int32) then (f_X10_fail S24).bind (fun (S41 : AS) => some ((ax_fi S41 10 0 3), S41)) else some ((ax_fi S24 10 0 3), S24))) else some ((ax_fi S24 10 0 3), S24)))) ax_F i0 (1 : Int32) (0 : Int32) S6))))))
set_option maxRecDepth 100000 in
theorem t_X4_readFrom_L36 {l : Launch} {K62 : Nat → AS → Option (Int32 × AS)} (hK62 : ∀ (x12 : Nat) (S : AS) r Z, K62 x12 S = some (r, Z) → ax_T l 7 ma_X4_readFrom (62, [some (.inr (4, x12)), some (.inr (10, 0)), none, none], [], S) (some (.inl (.int r))) Z) : ∀ (n : Nat) (y9 : Nat) (x10 : Int32) (x11 : Int32) (S13 : AS) r Z, f_X4_readFrom_L36 K62 n y9 x10 x11 S13 = some (r, Z) → ax_T l 7 ma_X4_readFrom (36, [some (.inr (4, y9)), some (.inr (10, 0)), some (.inl (.int x10)), some (.inl (.int x11))], [], S13) (some (.inl (.int r))) Z := by
  intro n
  induction n with
  | zero =>
    intro y9 x10 x11 S13 r Z h
    cases h
  | succ n ih =>
    intro y9 x10 x11 S13 r Z h
    unfold f_X4_readFrom_L36 at h
    refine ax_Tgo [.iload_n 2] (pc' := 37) (L' := [some (.inr (4, y9)), some (.inr (10, 0)), some (.inl (.int x10)), some (.inl (.int x11))]) (st' := [.inl (.int x10)]) (S' := S13) ok_X4_readFrom.1 (by decide +kernel) rfl rfl ?_
    refine ax_Tif_eq (off := 25) (tgt := 62) (by decide +kernel) (by decide) (fun c14 => ?_) (fun c14 => ?_)
    · rw [if_pos c14] at h
      refine ax_Tdrop [true, true, false, false] (L' := [some (.inr (4, y9)), some (.inr (10, 0)), none, none]) rfl ?_
      exact hK62 y9 S13 _ _ h
    · rw [if_neg c14] at h
      refine ax_Tgo [.iload_n 3, .bipush 11] (pc' := 43) (L' := [some (.inr (4, y9)), some (.inr (10, 0)), some (.inl (.int x10)), some (.inl (.int x11))]) (st' := [.inl (.int (11 : Int32)), .inl (.int x11)]) (S' := S13) ok_X4_readFrom.1 (by decide +kernel) rfl rfl ?_
      refine ax_Tic_gt (off := 19) (tgt := 62) (by decide +kernel) (by decide) (fun c15 => ?_) (fun c15 => ?_)
      · rw [if_pos c15] at h
        refine ax_Tdrop [true, true, false, false] (L' := [some (.inr (4, y9)), some (.inr (10, 0)), none, none]) rfl ?_
        exact hK62 y9 S13 _ _ h
      · rw [if_neg c15] at h
        refine ax_Tgo [.aload_n 0, .aload_n 1] (pc' := 48) (L' := [some (.inr (4, y9)), some (.inr (10, 0)), some (.inl (.int x10)), some (.inl (.int x11))]) (st' := [.inr (10, 0), .inr (4, y9)]) (S' := S13) ok_X4_readFrom.1 (by decide +kernel) rfl rfl ?_
        obtain ⟨S16, hq17, h⟩ := ax_bd_e h
        refine ax_TVv (d := 6) (ka := 4) (i := y9) [.inr (10, 0)] [] lk_X4_50 (by decide +kernel) rfl (by decide) rfl (Nat.le_of_ble_eq_true rfl) (Nat.le_of_ble_eq_true rfl) ((t_X4_readClause hq17).up (by decide)) ?_
        refine ax_Tgo [.aload_n 1] (pc' := 52) (L' := [some (.inr (4, y9)), some (.inr (10, 0)), some (.inl (.int x10)), some (.inl (.int x11))]) (st' := [.inr (10, 0)]) (S' := S16) ok_X4_readFrom.1 (by decide +kernel) rfl rfl ?_
        obtain ⟨r22, S19, hq20, h⟩ := ax_bu_e h
        refine ax_TVi (d := 6) (ka := 10) (i := 0) [] [] lk_X4_54 (by decide +kernel) rfl (by decide) rfl (Nat.le_of_ble_eq_true rfl) (Nat.le_of_ble_eq_true rfl) ((t_X10_goesOn hq20).up (by decide)) ?_
        refine ax_Tgo [.istore_n 2, .iinc 3 1] (pc' := 59) (L' := [some (.inr (4, y9)), some (.inr (10, 0)), some (.inl (.int r22)), some (.inl (.int (x11 + (1 : Int32))))]) (st' := []) (S' := S19) ok_X4_readFrom.1 (by decide +kernel) rfl rfl ?_
        obtain ⟨v23, ev23, h⟩ := ax_let_e h
        rw [ev23]
        refine ax_Tgoto (off := (-23)) (tgt := 36) (by decide +kernel) (by decide) ?_
        exact ih y9 r22 v23 S19 _ _ h
set_option maxRecDepth 100000 in
theorem t_X4_readFrom {l : Launch} {i0 : Nat} {S Z : AS} {r : Int32} (h : f_X4_readFrom i0 S = some (r, Z)) : ax_M l 7 ma_X4_readFrom [.inr (4, i0), .inr (10, 0)] S (some (.inl (.int r))) Z := by
  unfold f_X4_readFrom at h
  show ax_T l 7 ma_X4_readFrom (0, [some (.inr (4, i0)), some (.inr (10, 0)), none, none], [], S) (some (.inl (.int r))) Z
  refine ax_Tgo [.aload_n 0, .iconst 0, .putfield 21] (pc' := 5) (L' := [some (.inr (4, i0)), some (.inr (10, 0)), none, none]) (st' := []) (S' := (ax_sfi S 4 i0 3 (0 : Int32))) ok_X4_readFrom.1 (by decide +kernel) rfl rfl ?_
  obtain ⟨S1, eS1, h⟩ := ax_let_e h
  rw [eS1]
  refine ax_Tgo [.aload_n 0, .iconst 0, .putfield 25] (pc' := 10) (L' := [some (.inr (4, i0)), some (.inr (10, 0)), none, none]) (st' := []) (S' := (ax_sfi S1 4 i0 4 (0 : Int32))) ok_X4_readFrom.1 (by decide +kernel) rfl rfl ?_
  obtain ⟨S2, eS2, h⟩ := ax_let_e h
  rw [eS2]
  refine ax_Tgo [.aload_n 0, .iconst 0, .putfield 29] (pc' := 15) (L' := [some (.inr (4, i0)), some (.inr (10, 0)), none, none]) (st' := []) (S' := (ax_sfi S2 4 i0 5 (0 : Int32))) ok_X4_readFrom.1 (by decide +kernel) rfl rfl ?_
  obtain ⟨S3, eS3, h⟩ := ax_let_e h
  rw [eS3]
  refine ax_Tgo [.getstatic 36, .iconst 0, .aload_n 0, .getfield 11, .iconst 0, .iconst 3] (pc' := 25) (L' := [some (.inr (4, i0)), some (.inr (10, 0)), none, none]) (st' := [.inl (.int (3 : Int32)), .inl (.int (0 : Int32)), .inr (27, i0), .inl (.int (0 : Int32)), .inr (66, 0)]) (S' := S3) ok_X4_readFrom.1 (by decide +kernel) rfl rfl ?_
  obtain ⟨g4, h⟩ := ax_gd_e h
  refine ax_Tacopy (d := 6) (by decide +kernel) lkc_X4_39 (by decide) (by decide) g4 (Nat.le_of_ble_eq_true rfl) ?_
  obtain ⟨S5, eS5, h⟩ := ax_let_e h
  rw [eS5]
  refine ax_Tgo [.aload_n 1] (pc' := 29) (L' := [some (.inr (4, i0)), some (.inr (10, 0)), none, none]) (st' := [.inr (10, 0)]) (S' := S5) ok_X4_readFrom.1 (by decide +kernel) rfl rfl ?_
  obtain ⟨S6, hq7, h⟩ := ax_bd_e h
  refine ax_TVv (d := 6) (ka := 10) (i := 0) [] [] lk_X4_45 (by decide +kernel) rfl (by decide) rfl (Nat.le_of_ble_eq_true rfl) (Nat.le_of_ble_eq_true rfl) ((t_X10_rewind hq7).up (by decide)) ?_
  refine ax_Tgo [.iconst 1, .istore_n 2, .iconst 0, .istore_n 3] (pc' := 36) (L' := [some (.inr (4, i0)), some (.inr (10, 0)), some (.inl (.int (1 : Int32))), some (.inl (.int (0 : Int32)))]) (st' := []) (S' := S6) ok_X4_readFrom.1 (by decide +kernel) rfl rfl ?_
  refine t_X4_readFrom_L36 ?_ _ i0 (1 : Int32) (0 : Int32) S6 _ _ h
  · intro x12 S24 r Z h
    refine ax_Tgo [.aload_n 1] (pc' := 63) (L' := [some (.inr (4, x12)), some (.inr (10, 0)), none, none]) (st' := [.inr (10, 0)]) (S' := S24) ok_X4_readFrom.1 (by decide +kernel) rfl rfl ?_
    obtain ⟨r28, hq26, h⟩ := ax_bd_e h
    refine ax_TVi (d := 6) (ka := 10) (i := 0) [] [] lk_X4_58 (by decide +kernel) rfl (by decide) rfl (Nat.le_of_ble_eq_true rfl) (Nat.le_of_ble_eq_true rfl) ((t_X10_failed hq26).up (by decide)) ?_
    refine ax_Tif_ne (off := 14) (tgt := 80) (by decide +kernel) (by decide) (fun c29 => ?_) (fun c29 => ?_)
    · rw [if_neg c29] at h
      refine ax_Tgo [.aload_n 1] (pc' := 81) (L' := [some (.inr (4, x12)), some (.inr (10, 0)), none, none]) (st' := [.inr (10, 0)]) (S' := S24) ok_X4_readFrom.1 (by decide +kernel) rfl rfl ?_
      refine ax_TVi (d := 6) (ka := 10) (i := 0) [] [] lk_X4_67 (by decide +kernel) rfl (by decide) rfl (Nat.le_of_ble_eq_true rfl) (Nat.le_of_ble_eq_true rfl) ((t_X10_faultFound rfl).up (by decide)) ?_
      cases h
      exact ax_Treti (by decide +kernel) rfl rfl
    · rw [if_pos c29] at h
      refine ax_Tgo [.aload_n 0] (pc' := 70) (L' := [some (.inr (4, x12)), some (.inr (10, 0)), none, none]) (st' := [.inr (4, x12)]) (S' := S24) ok_X4_readFrom.1 (by decide +kernel) rfl rfl ?_
      obtain ⟨r36, hq34, h⟩ := ax_bd_e h
      refine ax_TVi (d := 6) (ka := 4) (i := x12) [] [] lk_X4_61 (by decide +kernel) rfl (by decide) rfl (Nat.le_of_ble_eq_true rfl) (Nat.le_of_ble_eq_true rfl) ((t_X4_isWhole hq34).up (by decide)) ?_
      refine ax_Tif_ne (off := 7) (tgt := 80) (by decide +kernel) (by decide) (fun c37 => ?_) (fun c37 => ?_)
      · rw [if_neg c37] at h
        refine ax_Tgo [.aload_n 1] (pc' := 81) (L' := [some (.inr (4, x12)), some (.inr (10, 0)), none, none]) (st' := [.inr (10, 0)]) (S' := S24) ok_X4_readFrom.1 (by decide +kernel) rfl rfl ?_
        refine ax_TVi (d := 6) (ka := 10) (i := 0) [] [] lk_X4_67 (by decide +kernel) rfl (by decide) rfl (Nat.le_of_ble_eq_true rfl) (Nat.le_of_ble_eq_true rfl) ((t_X10_faultFound rfl).up (by decide)) ?_
        cases h
        exact ax_Treti (by decide +kernel) rfl rfl
      · rw [if_pos c37] at h
        refine ax_Tgo [.aload_n 1] (pc' := 77) (L' := [some (.inr (4, x12)), some (.inr (10, 0)), none, none]) (st' := [.inr (10, 0)]) (S' := S24) ok_X4_readFrom.1 (by decide +kernel) rfl rfl ?_
        obtain ⟨S41, hq42, h⟩ := ax_bd_e h
        refine ax_TVv (d := 6) (ka := 10) (i := 0) [] [] lk_X4_64 (by decide +kernel) rfl (by decide) rfl (Nat.le_of_ble_eq_true rfl) (Nat.le_of_ble_eq_true rfl) ((t_X10_fail hq42).up (by decide)) ?_
        refine ax_Tgo [.aload_n 1] (pc' := 81) (L' := [some (.inr (4, x12)), some (.inr (10, 0)), none, none]) (st' := [.inr (10, 0)]) (S' := S41) ok_X4_readFrom.1 (by decide +kernel) rfl rfl ?_
        refine ax_TVi (d := 6) (ka := 10) (i := 0) [] [] lk_X4_67 (by decide +kernel) rfl (by decide) rfl (Nat.le_of_ble_eq_true rfl) (Nat.le_of_ble_eq_true rfl) ((t_X10_faultFound rfl).up (by decide)) ?_
        cases h
        exact ax_Treti (by decide +kernel) rfl rfl
def f_X5_emit (i0 : Nat) (a1 : Int32) (a2 : Int32) (S : AS) : Option (AS) := (if (Int32.ofNat 241) ≤ (ax_fi S 5 i0 2) then some S else ax_gd (ax_in (ax_fi S 5 i0 2) 241) (ax_let (ax_sai S 30 i0 (ax_fi S 5 i0 2).toNatClampNeg (a1 ||| (a2 <<< ((8 : Int32) &&& 31)))) (fun (S3 : AS) => ax_let (ax_sfi S3 5 i0 2 ((ax_fi S3 5 i0 2) + (1 : Int32))) (fun (S4 : AS) => some S4))))
set_option maxRecDepth 100000 in
theorem t_X5_emit {l : Launch} {i0 : Nat} {a1 : Int32} {a2 : Int32} {S Z : AS} (h : f_X5_emit i0 a1 a2 S = some Z) : ax_M l 0 ma_X5_emit [.inr (5, i0), .inl (.int a1), .inl (.int a2)] S none Z := by
  unfold f_X5_emit at h
  show ax_T l 0 ma_X5_emit (0, [some (.inr (5, i0)), some (.inl (.int a1)), some (.inl (.int a2))], [], S) none Z
  refine ax_Tgo [.aload_n 0, .getfield 20, .aload_n 0, .getfield 11, .arraylength] (pc' := 9) (L' := [some (.inr (5, i0)), some (.inl (.int a1)), some (.inl (.int a2))]) (st' := [.inl (.int (Int32.ofNat 241)), .inl (.int (ax_fi S 5 i0 2))]) (S' := S) ok_X5_emit.1 (by decide +kernel) rfl rfl ?_
  refine ax_Tic_ge (off := 28) (tgt := 37) (by decide +kernel) (by decide) (fun c1 => ?_) (fun c1 => ?_)
  · rw [if_pos c1] at h
    cases h
    exact ax_Tretv (by decide +kernel) rfl
  · rw [if_neg c1] at h
    refine ax_Tgo [.aload_n 0, .getfield 11, .aload_n 0, .getfield 20, .iload_n 1, .iload_n 2, .bipush 8, .ishl, .ior] (pc' := 26) (L' := [some (.inr (5, i0)), some (.inl (.int a1)), some (.inl (.int a2))]) (st' := [.inl (.int (a1 ||| (a2 <<< ((8 : Int32) &&& 31)))), .inl (.int (ax_fi S 5 i0 2)), .inr (30, i0)]) (S' := S) ok_X5_emit.1 (by decide +kernel) rfl rfl ?_
    obtain ⟨g2, h⟩ := ax_gd_e h
    refine ax_Tasi (n := 241) ok_X5_emit.1 (by decide +kernel) (by decide) rfl g2 ?_
    obtain ⟨S3, eS3, h⟩ := ax_let_e h
    rw [eS3]
    refine ax_Tgo [.aload_n 0, .dup, .getfield 20, .iconst 1, .iadd, .putfield 20] (pc' := 37) (L' := [some (.inr (5, i0)), some (.inl (.int a1)), some (.inl (.int a2))]) (st' := []) (S' := (ax_sfi S3 5 i0 2 ((ax_fi S3 5 i0 2) + (1 : Int32)))) ok_X5_emit.1 (by decide +kernel) rfl rfl ?_
    obtain ⟨S4, eS4, h⟩ := ax_let_e h
    rw [eS4]
    cases h
    exact ax_Tretv (by decide +kernel) rfl

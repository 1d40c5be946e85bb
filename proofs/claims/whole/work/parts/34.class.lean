/-! METHODS of the class as functions, by program -/
def f_X11_span_L52 (K95 : Int32 → Int32 → AS → Option (Int32 × AS)) : Nat → Int32 → Int32 → Int32 → Int32 → AS → Option (Int32 × AS)
  | 0, _, _, _, _, _ => none
  | n + 1, x20, x21, x22, x23, S26 => (if (3 : Int32) < x23 then K95 x21 x22 S26 else ax_bu (f_X6_beatsTitled 0 x20 x23 S26) (fun (r31 : Int32) (S28 : AS) => (f_X6_beatsLeft 0 S28).bind (fun (r35 : Int32) => (if r35 < r31 then ax_let (x23 + (1 : Int32)) (fun (v37 : Int32) => f_X11_span_L52 K95 n x20 x21 x22 v37 S28) else ax_let (x23 + (1 : Int32)) (fun (v38 : Int32) => f_X11_span_L52 K95 n x20 x21 x23 v38 S28)))))
def f_X11_span (a1 : Int32) (S : AS) : Option (Int32 × AS) := (f_X11_noSuchCaller a1 S).bind (fun (r4 : Int32) => (if r4 = (0 : Int32) then ax_bu (f_X6_beatsNow 0 a1 S) (fun (r9 : Int32) (S6 : AS) => (f_X6_beatsLeft 0 S6).bind (fun (r13 : Int32) => (if r9 ≤ r13 then (f_X9_titlesOf 0 a1 S6).bind (fun (r18 : Int32) => ax_let (r18 + (1 : Int32)) (fun (v19 : Int32) => f_X11_span_L52 (fun (x24 : Int32) (x25 : Int32) (S39 : AS) => some ((x25 - x24), S39)) ax_F a1 r18 r18 v19 S6)) else some ((Int32.ofInt (-1)), S6)))) else some ((Int32.ofInt (-1)), S)))
set_option maxRecDepth 100000 in
theorem t_X11_span_L52 {l : Launch} {K95 : Int32 → Int32 → AS → Option (Int32 × AS)} (hK95 : ∀ (x24 : Int32) (x25 : Int32) (S : AS) r Z, K95 x24 x25 S = some (r, Z) → ax_T l 4 ma_X11_span (95, [none, none, some (.inl (.int x24)), some (.inl (.int x25)), none], [], S) (some (.inl (.int r))) Z) : ∀ (n : Nat) (x20 : Int32) (x21 : Int32) (x22 : Int32) (x23 : Int32) (S26 : AS) r Z, f_X11_span_L52 K95 n x20 x21 x22 x23 S26 = some (r, Z) → ax_T l 4 ma_X11_span (52, [some (.inr (11, 0)), some (.inl (.int x20)), some (.inl (.int x21)), some (.inl (.int x22)), some (.inl (.int x23))], [], S26) (some (.inl (.int r))) Z := by
  intro n
  induction n with
  | zero =>
    intro x20 x21 x22 x23 S26 r Z h
    cases h
  | succ n ih =>
    intro x20 x21 x22 x23 S26 r Z h
    unfold f_X11_span_L52 at h
    refine ax_Tgo [.iload 4, .iconst 3] (pc' := 55) (L' := [some (.inr (11, 0)), some (.inl (.int x20)), some (.inl (.int x21)), some (.inl (.int x22)), some (.inl (.int x23))]) (st' := [.inl (.int (3 : Int32)), .inl (.int x23)]) (S' := S26) ok_X11_span.1 (by decide +kernel) rfl rfl ?_
    refine ax_Tic_gt (off := 40) (tgt := 95) (by decide +kernel) (by decide) (fun c27 => ?_) (fun c27 => ?_)
    · rw [if_pos c27] at h
      refine ax_Tdrop [false, false, true, true, false] (L' := [none, none, some (.inl (.int x21)), some (.inl (.int x22)), none]) rfl ?_
      exact hK95 x21 x22 S26 _ _ h
    · rw [if_neg c27] at h
      refine ax_Tgo [.aload_n 0, .getfield 31, .aload_n 0, .getfield 69, .iload_n 1, .iload 4] (pc' := 69) (L' := [some (.inr (11, 0)), some (.inl (.int x20)), some (.inl (.int x21)), some (.inl (.int x22)), some (.inl (.int x23))]) (st' := [.inl (.int x23), .inl (.int x20), .inr (9, 0), .inr (6, 0)]) (S' := S26) ok_X11_span.1 (by decide +kernel) rfl rfl ?_
      obtain ⟨r31, S28, hq29, h⟩ := ax_bu_e h
      refine ax_TVi (d := 3) (ka := 6) (i := 0) [.inr (9, 0), .inl (.int x20), .inl (.int x23)] [] lk_X11_304 (by decide +kernel) rfl (by decide) rfl (Nat.le_of_ble_eq_true rfl) (Nat.le_of_ble_eq_true rfl) ((t_X6_beatsTitled hq29).up (by decide)) ?_
      refine ax_Tgo [.aload_n 0, .getfield 31, .aload_n 0, .getfield 69] (pc' := 80) (L' := [some (.inr (11, 0)), some (.inl (.int x20)), some (.inl (.int x21)), some (.inl (.int x22)), some (.inl (.int x23))]) (st' := [.inr (9, 0), .inr (6, 0), .inl (.int r31)]) (S' := S28) ok_X11_span.1 (by decide +kernel) rfl rfl ?_
      obtain ⟨r35, hq33, h⟩ := ax_bd_e h
      refine ax_TVi (d := 3) (ka := 6) (i := 0) [.inr (9, 0)] [.inl (.int r31)] lk_X11_375 (by decide +kernel) rfl (by decide) rfl (Nat.le_of_ble_eq_true rfl) (Nat.le_of_ble_eq_true rfl) ((t_X6_beatsLeft hq33).up (by decide)) ?_
      refine ax_Tic_gt (off := 6) (tgt := 89) (by decide +kernel) (by decide) (fun c36 => ?_) (fun c36 => ?_)
      · rw [if_pos c36] at h
        refine ax_Tgo [.iinc 4 1] (pc' := 92) (L' := [some (.inr (11, 0)), some (.inl (.int x20)), some (.inl (.int x21)), some (.inl (.int x22)), some (.inl (.int (x23 + (1 : Int32))))]) (st' := []) (S' := S28) ok_X11_span.1 (by decide +kernel) rfl rfl ?_
        obtain ⟨v37, ev37, h⟩ := ax_let_e h
        rw [ev37]
        refine ax_Tgoto (off := (-40)) (tgt := 52) (by decide +kernel) (by decide) ?_
        exact ih x20 x21 x22 v37 S28 _ _ h
      · rw [if_neg c36] at h
        refine ax_Tgo [.iload 4, .istore_n 3, .iinc 4 1] (pc' := 92) (L' := [some (.inr (11, 0)), some (.inl (.int x20)), some (.inl (.int x21)), some (.inl (.int x23)), some (.inl (.int (x23 + (1 : Int32))))]) (st' := []) (S' := S28) ok_X11_span.1 (by decide +kernel) rfl rfl ?_
        obtain ⟨v38, ev38, h⟩ := ax_let_e h
        rw [ev38]
        refine ax_Tgoto (off := (-40)) (tgt := 52) (by decide +kernel) (by decide) ?_
        exact ih x20 x21 x23 v38 S28 _ _ h
set_option maxRecDepth 100000 in
theorem t_X11_span {l : Launch} {a1 : Int32} {S Z : AS} {r : Int32} (h : f_X11_span a1 S = some (r, Z)) : ax_M l 4 ma_X11_span [.inr (11, 0), .inl (.int a1)] S (some (.inl (.int r))) Z := by
  unfold f_X11_span at h
  show ax_T l 4 ma_X11_span (0, [some (.inr (11, 0)), some (.inl (.int a1)), none, none, none], [], S) (some (.inl (.int r))) Z
  refine ax_Tgo [.aload_n 0, .iload_n 1] (pc' := 2) (L' := [some (.inr (11, 0)), some (.inl (.int a1)), none, none, none]) (st' := [.inl (.int a1), .inr (11, 0)]) (S' := S) ok_X11_span.1 (by decide +kernel) rfl rfl ?_
  obtain ⟨r4, hq2, h⟩ := ax_bd_e h
  refine ax_TVi (d := 3) (ka := 11) (i := 0) [.inl (.int a1)] [] lk_X11_183 (by decide +kernel) rfl (by decide) rfl (Nat.le_of_ble_eq_true rfl) (Nat.le_of_ble_eq_true rfl) ((t_X11_noSuchCaller hq2).up (by decide)) ?_
  refine ax_Tif_ne (off := 29) (tgt := 34) (by decide +kernel) (by decide) (fun c5 => ?_) (fun c5 => ?_)
  · rw [if_neg c5] at h
    refine ax_Tgo [.iconst (-1)] (pc' := 35) (L' := [some (.inr (11, 0)), some (.inl (.int a1)), none, none, none]) (st' := [.inl (.int (Int32.ofInt (-1)))]) (S' := S) ok_X11_span.1 (by decide +kernel) rfl rfl ?_
    cases h
    exact ax_Treti (by decide +kernel) rfl rfl
  · rw [if_pos c5] at h
    refine ax_Tgo [.aload_n 0, .getfield 31, .aload_n 0, .getfield 69, .iload_n 1] (pc' := 17) (L' := [some (.inr (11, 0)), some (.inl (.int a1)), none, none, none]) (st' := [.inl (.int a1), .inr (9, 0), .inr (6, 0)]) (S' := S) ok_X11_span.1 (by decide +kernel) rfl rfl ?_
    obtain ⟨r9, S6, hq7, h⟩ := ax_bu_e h
    refine ax_TVi (d := 3) (ka := 6) (i := 0) [.inr (9, 0), .inl (.int a1)] [] lk_X11_284 (by decide +kernel) rfl (by decide) rfl (Nat.le_of_ble_eq_true rfl) (Nat.le_of_ble_eq_true rfl) ((t_X6_beatsNow hq7).up (by decide)) ?_
    refine ax_Tgo [.aload_n 0, .getfield 31, .aload_n 0, .getfield 69] (pc' := 28) (L' := [some (.inr (11, 0)), some (.inl (.int a1)), none, none, none]) (st' := [.inr (9, 0), .inr (6, 0), .inl (.int r9)]) (S' := S6) ok_X11_span.1 (by decide +kernel) rfl rfl ?_
    obtain ⟨r13, hq11, h⟩ := ax_bd_e h
    refine ax_TVi (d := 3) (ka := 6) (i := 0) [.inr (9, 0)] [.inl (.int r9)] lk_X11_375 (by decide +kernel) rfl (by decide) rfl (Nat.le_of_ble_eq_true rfl) (Nat.le_of_ble_eq_true rfl) ((t_X6_beatsLeft hq11).up (by decide)) ?_
    refine ax_Tic_le (off := 5) (tgt := 36) (by decide +kernel) (by decide) (fun c14 => ?_) (fun c14 => ?_)
    · rw [if_pos c14] at h
      refine ax_Tgo [.aload_n 0, .getfield 69, .iload_n 1] (pc' := 41) (L' := [some (.inr (11, 0)), some (.inl (.int a1)), none, none, none]) (st' := [.inl (.int a1), .inr (9, 0)]) (S' := S6) ok_X11_span.1 (by decide +kernel) rfl rfl ?_
      obtain ⟨r18, hq16, h⟩ := ax_bd_e h
      refine ax_TVi (d := 3) (ka := 9) (i := 0) [.inl (.int a1)] [] lk_X11_189 (by decide +kernel) rfl (by decide) rfl (Nat.le_of_ble_eq_true rfl) (Nat.le_of_ble_eq_true rfl) ((t_X9_titlesOf hq16).up (by decide)) ?_
      refine ax_Tgo [.istore_n 2, .iload_n 2, .istore_n 3, .iload_n 2, .iconst 1, .iadd, .istore 4] (pc' := 52) (L' := [some (.inr (11, 0)), some (.inl (.int a1)), some (.inl (.int r18)), some (.inl (.int r18)), some (.inl (.int (r18 + (1 : Int32))))]) (st' := []) (S' := S6) ok_X11_span.1 (by decide +kernel) rfl rfl ?_
      obtain ⟨v19, ev19, h⟩ := ax_let_e h
      rw [ev19]
      refine t_X11_span_L52 ?_ _ a1 r18 r18 v19 S6 _ _ h
      · intro x24 x25 S39 r Z h
        refine ax_Tgo [.iload_n 3, .iload_n 2, .isub] (pc' := 98) (L' := [none, none, some (.inl (.int x24)), some (.inl (.int x25)), none]) (st' := [.inl (.int (x25 - x24))]) (S' := S39) ok_X11_span.1 (by decide +kernel) rfl rfl ?_
        cases h
        exact ax_Treti (by decide +kernel) rfl rfl
    · rw [if_neg c14] at h
      refine ax_Tgo [.iconst (-1)] (pc' := 35) (L' := [some (.inr (11, 0)), some (.inl (.int a1)), none, none, none]) (st' := [.inl (.int (Int32.ofInt (-1)))]) (S' := S6) ok_X11_span.1 (by decide +kernel) rfl rfl ?_
      cases h
      exact ax_Treti (by decide +kernel) rfl rfl
def f_X11_step (a1 : Int32) (a2 : Int32) (a3 : Int32) (S : AS) : Option (Int32) := (f_X11_noSuchAfternoon a1 S).bind (fun (r4 : Int32) => (if r4 = (0 : Int32) then (if a2 < (0 : Int32) then some (-1000000 : Int32) else ax_gd (ax_in a1 5) ((if (ax_fi S 0 (a1.toNatClampNeg) 2) ≤ a2 then some (-1000000 : Int32) else (if a3 < (0 : Int32) then some (-1000000 : Int32) else (if a3 ≤ (1 : Int32) then (if a3 = (0 : Int32) then ax_gd (ax_in a1 5) ((f_X0_kindOf (a1.toNatClampNeg) a2 S).bind (fun (r24 : Int32) => some r24)) else ax_gd (ax_in a1 5) ((f_X0_digitOf (a1.toNatClampNeg) a2 S).bind (fun (r19 : Int32) => some r19))) else some (-1000000 : Int32)))))) else some (-1000000 : Int32)))
set_option maxRecDepth 100000 in
theorem t_X11_step {l : Launch} {a1 : Int32} {a2 : Int32} {a3 : Int32} {S : AS} {r : Int32} (h : f_X11_step a1 a2 a3 S = some r) : ax_M l 1 ma_X11_step [.inr (11, 0), .inl (.int a1), .inl (.int a2), .inl (.int a3)] S (some (.inl (.int r))) S := by
  unfold f_X11_step at h
  show ax_T l 1 ma_X11_step (0, [some (.inr (11, 0)), some (.inl (.int a1)), some (.inl (.int a2)), some (.inl (.int a3))], [], S) (some (.inl (.int r))) S
  refine ax_Tgo [.aload_n 0, .iload_n 1] (pc' := 2) (L' := [some (.inr (11, 0)), some (.inl (.int a1)), some (.inl (.int a2)), some (.inl (.int a3))]) (st' := [.inl (.int a1), .inr (11, 0)]) (S' := S) ok_X11_step.1 (by decide +kernel) rfl rfl ?_
  obtain ⟨r4, hq2, h⟩ := ax_bd_e h
  refine ax_TVi (d := 0) (ka := 11) (i := 0) [.inl (.int a1)] [] lk_X11_265 (by decide +kernel) rfl (by decide) rfl (Nat.le_of_ble_eq_true rfl) (Nat.le_of_ble_eq_true rfl) ((t_X11_noSuchAfternoon hq2).up (by decide)) ?_
  refine ax_Tif_ne (off := 29) (tgt := 34) (by decide +kernel) (by decide) (fun c5 => ?_) (fun c5 => ?_)
  · rw [if_neg c5] at h
    refine ax_Tgo [.ldc_w 271] (pc' := 37) (L' := [some (.inr (11, 0)), some (.inl (.int a1)), some (.inl (.int a2)), some (.inl (.int a3))]) (st' := [.inl (.int (-1000000 : Int32))]) (S' := S) ok_X11_step.1 (by decide +kernel) rfl rfl ?_
    cases h
    exact ax_Treti (by decide +kernel) rfl rfl
  · rw [if_pos c5] at h
    refine ax_Tgo [.iload_n 2] (pc' := 9) (L' := [some (.inr (11, 0)), some (.inl (.int a1)), some (.inl (.int a2)), some (.inl (.int a3))]) (st' := [.inl (.int a2)]) (S' := S) ok_X11_step.1 (by decide +kernel) rfl rfl ?_
    refine ax_Tif_lt (off := 25) (tgt := 34) (by decide +kernel) (by decide) (fun c6 => ?_) (fun c6 => ?_)
    · rw [if_pos c6] at h
      refine ax_Tgo [.ldc_w 271] (pc' := 37) (L' := [some (.inr (11, 0)), some (.inl (.int a1)), some (.inl (.int a2)), some (.inl (.int a3))]) (st' := [.inl (.int (-1000000 : Int32))]) (S' := S) ok_X11_step.1 (by decide +kernel) rfl rfl ?_
      cases h
      exact ax_Treti (by decide +kernel) rfl rfl
    · rw [if_neg c6] at h
      refine ax_Tgo [.iload_n 2, .aload_n 0, .getfield 24, .iload_n 1] (pc' := 18) (L' := [some (.inr (11, 0)), some (.inl (.int a1)), some (.inl (.int a2)), some (.inl (.int a3))]) (st' := [.inl (.int a1), .inr (42, 0), .inl (.int a2)]) (S' := S) ok_X11_step.1 (by decide +kernel) rfl rfl ?_
      obtain ⟨g7, h⟩ := ax_gd_e h
      refine ax_Tala4 (n := 5) ok_X11_step.1 (by decide +kernel) (by decide) rfl g7 ?_
      refine ax_TVi (d := 0) (ka := 0) (i := (a1.toNatClampNeg)) [] [.inl (.int a2)] lk_X11_268 (by decide +kernel) rfl (by decide) rfl (Nat.le_of_ble_eq_true rfl) (Nat.le_of_ble_eq_true rfl) ((t_X0_steps rfl).up (by decide)) ?_
      refine ax_Tic_ge (off := 12) (tgt := 34) (by decide +kernel) (by decide) (fun c11 => ?_) (fun c11 => ?_)
      · rw [if_pos c11] at h
        refine ax_Tgo [.ldc_w 271] (pc' := 37) (L' := [some (.inr (11, 0)), some (.inl (.int a1)), some (.inl (.int a2)), some (.inl (.int a3))]) (st' := [.inl (.int (-1000000 : Int32))]) (S' := S) ok_X11_step.1 (by decide +kernel) rfl rfl ?_
        cases h
        exact ax_Treti (by decide +kernel) rfl rfl
      · rw [if_neg c11] at h
        refine ax_Tgo [.iload_n 3] (pc' := 26) (L' := [some (.inr (11, 0)), some (.inl (.int a1)), some (.inl (.int a2)), some (.inl (.int a3))]) (st' := [.inl (.int a3)]) (S' := S) ok_X11_step.1 (by decide +kernel) rfl rfl ?_
        refine ax_Tif_lt (off := 8) (tgt := 34) (by decide +kernel) (by decide) (fun c12 => ?_) (fun c12 => ?_)
        · rw [if_pos c12] at h
          refine ax_Tgo [.ldc_w 271] (pc' := 37) (L' := [some (.inr (11, 0)), some (.inl (.int a1)), some (.inl (.int a2)), some (.inl (.int a3))]) (st' := [.inl (.int (-1000000 : Int32))]) (S' := S) ok_X11_step.1 (by decide +kernel) rfl rfl ?_
          cases h
          exact ax_Treti (by decide +kernel) rfl rfl
        · rw [if_neg c12] at h
          refine ax_Tgo [.iload_n 3, .iconst 1] (pc' := 31) (L' := [some (.inr (11, 0)), some (.inl (.int a1)), some (.inl (.int a2)), some (.inl (.int a3))]) (st' := [.inl (.int (1 : Int32)), .inl (.int a3)]) (S' := S) ok_X11_step.1 (by decide +kernel) rfl rfl ?_
          refine ax_Tic_le (off := 7) (tgt := 38) (by decide +kernel) (by decide) (fun c13 => ?_) (fun c13 => ?_)
          · rw [if_pos c13] at h
            refine ax_Tgo [.iload_n 3] (pc' := 39) (L' := [some (.inr (11, 0)), some (.inl (.int a1)), some (.inl (.int a2)), some (.inl (.int a3))]) (st' := [.inl (.int a3)]) (S' := S) ok_X11_step.1 (by decide +kernel) rfl rfl ?_
            refine ax_Tif_ne (off := 16) (tgt := 55) (by decide +kernel) (by decide) (fun c14 => ?_) (fun c14 => ?_)
            · rw [if_neg c14] at h
              refine ax_Tgo [.aload_n 0, .getfield 24, .iload_n 1] (pc' := 60) (L' := [some (.inr (11, 0)), some (.inl (.int a1)), some (.inl (.int a2)), some (.inl (.int a3))]) (st' := [.inl (.int a1), .inr (42, 0)]) (S' := S) ok_X11_step.1 (by decide +kernel) rfl rfl ?_
              obtain ⟨g15, h⟩ := ax_gd_e h
              refine ax_Tala4 (n := 5) ok_X11_step.1 (by decide +kernel) (by decide) rfl g15 ?_
              refine ax_Tgo [.iload_n 2] (pc' := 62) (L' := [some (.inr (11, 0)), some (.inl (.int a1)), some (.inl (.int a2)), some (.inl (.int a3))]) (st' := [.inl (.int a2), .inr (0, (a1.toNatClampNeg))]) (S' := S) ok_X11_step.1 (by decide +kernel) rfl rfl ?_
              obtain ⟨r19, hq17, h⟩ := ax_bd_e h
              refine ax_TVi (d := 0) (ka := 0) (i := (a1.toNatClampNeg)) [.inl (.int a2)] [] lk_X11_275 (by decide +kernel) rfl (by decide) rfl (Nat.le_of_ble_eq_true rfl) (Nat.le_of_ble_eq_true rfl) ((t_X0_digitOf hq17).up (by decide)) ?_
              cases h
              exact ax_Treti (by decide +kernel) rfl rfl
            · rw [if_pos c14] at h
              refine ax_Tgo [.aload_n 0, .getfield 24, .iload_n 1] (pc' := 47) (L' := [some (.inr (11, 0)), some (.inl (.int a1)), some (.inl (.int a2)), some (.inl (.int a3))]) (st' := [.inl (.int a1), .inr (42, 0)]) (S' := S) ok_X11_step.1 (by decide +kernel) rfl rfl ?_
              obtain ⟨g20, h⟩ := ax_gd_e h
              refine ax_Tala4 (n := 5) ok_X11_step.1 (by decide +kernel) (by decide) rfl g20 ?_
              refine ax_Tgo [.iload_n 2] (pc' := 49) (L' := [some (.inr (11, 0)), some (.inl (.int a1)), some (.inl (.int a2)), some (.inl (.int a3))]) (st' := [.inl (.int a2), .inr (0, (a1.toNatClampNeg))]) (S' := S) ok_X11_step.1 (by decide +kernel) rfl rfl ?_
              obtain ⟨r24, hq22, h⟩ := ax_bd_e h
              refine ax_TVi (d := 0) (ka := 0) (i := (a1.toNatClampNeg)) [.inl (.int a2)] [] lk_X11_272 (by decide +kernel) rfl (by decide) rfl (Nat.le_of_ble_eq_true rfl) (Nat.le_of_ble_eq_true rfl) ((t_X0_kindOf hq22).up (by decide)) ?_
              refine ax_Tgoto (off := 13) (tgt := 65) (by decide +kernel) (by decide) ?_
              cases h
              exact ax_Treti (by decide +kernel) rfl rfl
          · rw [if_neg c13] at h
            refine ax_Tgo [.ldc_w 271] (pc' := 37) (L' := [some (.inr (11, 0)), some (.inl (.int a1)), some (.inl (.int a2)), some (.inl (.int a3))]) (st' := [.inl (.int (-1000000 : Int32))]) (S' := S) ok_X11_step.1 (by decide +kernel) rfl rfl ?_
            cases h
            exact ax_Treti (by decide +kernel) rfl rfl
def f_X6_beatsSung (i1 : Nat) (a2 : Int32) (a3 : Int32) (S : AS) : Option (Int32 × AS) := (f_X6_hardsOf a2 S).bind (fun (r4 : Int32) => (f_X9_titlesOf i1 a2 S).bind (fun (r8 : Int32) => ax_bu (f_X6_beats a2 r4 r8 (ax_fi S 9 i1 3) a3 (ax_fi S 9 i1 7) S) (fun (r12 : Int32) (S9 : AS) => some (r12, S9))))
set_option maxRecDepth 100000 in
theorem t_X6_beatsSung {l : Launch} {i1 : Nat} {a2 : Int32} {a3 : Int32} {S Z : AS} {r : Int32} (h : f_X6_beatsSung i1 a2 a3 S = some (r, Z)) : ax_M l 3 ma_X6_beatsSung [.inr (6, 0), .inr (9, i1), .inl (.int a2), .inl (.int a3)] S (some (.inl (.int r))) Z := by
  unfold f_X6_beatsSung at h
  show ax_T l 3 ma_X6_beatsSung (0, [some (.inr (6, 0)), some (.inr (9, i1)), some (.inl (.int a2)), some (.inl (.int a3))], [], S) (some (.inl (.int r))) Z
  refine ax_Tgo [.aload_n 0, .iload_n 2, .aload_n 0, .iload_n 2] (pc' := 4) (L' := [some (.inr (6, 0)), some (.inr (9, i1)), some (.inl (.int a2)), some (.inl (.int a3))]) (st' := [.inl (.int a2), .inr (6, 0), .inl (.int a2), .inr (6, 0)]) (S' := S) ok_X6_beatsSung.1 (by decide +kernel) rfl rfl ?_
  obtain ⟨r4, hq2, h⟩ := ax_bd_e h
  refine ax_TVi (d := 2) (ka := 6) (i := 0) [.inl (.int a2)] [.inl (.int a2), .inr (6, 0)] lk_X6_23 (by decide +kernel) rfl (by decide) rfl (Nat.le_of_ble_eq_true rfl) (Nat.le_of_ble_eq_true rfl) ((t_X6_hardsOf hq2).up (by decide)) ?_
  refine ax_Tgo [.aload_n 1, .iload_n 2] (pc' := 9) (L' := [some (.inr (6, 0)), some (.inr (9, i1)), some (.inl (.int a2)), some (.inl (.int a3))]) (st' := [.inl (.int a2), .inr (9, i1), .inl (.int r4), .inl (.int a2), .inr (6, 0)]) (S' := S) ok_X6_beatsSung.1 (by decide +kernel) rfl rfl ?_
  obtain ⟨r8, hq6, h⟩ := ax_bd_e h
  refine ax_TVi (d := 2) (ka := 9) (i := i1) [.inl (.int a2)] [.inl (.int r4), .inl (.int a2), .inr (6, 0)] lk_X6_27 (by decide +kernel) rfl (by decide) rfl (Nat.le_of_ble_eq_true rfl) (Nat.le_of_ble_eq_true rfl) ((t_X9_titlesOf hq6).up (by decide)) ?_
  refine ax_Tgo [.aload_n 1, .getfield 32, .iload_n 3, .aload_n 1, .getfield 39] (pc' := 21) (L' := [some (.inr (6, 0)), some (.inr (9, i1)), some (.inl (.int a2)), some (.inl (.int a3))]) (st' := [.inl (.int (ax_fi S 9 i1 7)), .inl (.int a3), .inl (.int (ax_fi S 9 i1 3)), .inl (.int r8), .inl (.int r4), .inl (.int a2), .inr (6, 0)]) (S' := S) ok_X6_beatsSung.1 (by decide +kernel) rfl rfl ?_
  obtain ⟨r12, S9, hq10, h⟩ := ax_bu_e h
  refine ax_TVi (d := 2) (ka := 6) (i := 0) [.inl (.int a2), .inl (.int r4), .inl (.int r8), .inl (.int (ax_fi S 9 i1 3)), .inl (.int a3), .inl (.int (ax_fi S 9 i1 7))] [] lk_X6_42 (by decide +kernel) rfl (by decide) rfl (Nat.le_of_ble_eq_true rfl) (Nat.le_of_ble_eq_true rfl) ((t_X6_beats hq10).up (by decide)) ?_
  cases h
  exact ax_Treti (by decide +kernel) rfl rfl
def f_X11_sung (a1 : Int32) (a2 : Int32) (S : AS) : Option (Int32 × AS) := (f_X11_noSuchCaller a1 S).bind (fun (r4 : Int32) => (if r4 = (0 : Int32) then (if a2 < (0 : Int32) then some ((Int32.ofInt (-1)), S) else (if a2 ≤ (1 : Int32) then (if a2 = (0 : Int32) then ax_bu (f_X6_beatsSung 0 a1 (1 : Int32) S) (fun (r16 : Int32) (S13 : AS) => some (r16, S13)) else ax_bu (f_X6_beatsSung 0 a1 (0 : Int32) S) (fun (r12 : Int32) (S9 : AS) => some (r12, S9))) else some ((Int32.ofInt (-1)), S))) else some ((Int32.ofInt (-1)), S)))
set_option maxRecDepth 100000 in
theorem t_X11_sung {l : Launch} {a1 : Int32} {a2 : Int32} {S Z : AS} {r : Int32} (h : f_X11_sung a1 a2 S = some (r, Z)) : ax_M l 4 ma_X11_sung [.inr (11, 0), .inl (.int a1), .inl (.int a2)] S (some (.inl (.int r))) Z := by
  unfold f_X11_sung at h
  show ax_T l 4 ma_X11_sung (0, [some (.inr (11, 0)), some (.inl (.int a1)), some (.inl (.int a2))], [], S) (some (.inl (.int r))) Z
  refine ax_Tgo [.aload_n 0, .iload_n 1] (pc' := 2) (L' := [some (.inr (11, 0)), some (.inl (.int a1)), some (.inl (.int a2))]) (st' := [.inl (.int a1), .inr (11, 0)]) (S' := S) ok_X11_sung.1 (by decide +kernel) rfl rfl ?_
  obtain ⟨r4, hq2, h⟩ := ax_bd_e h
  refine ax_TVi (d := 3) (ka := 11) (i := 0) [.inl (.int a1)] [] lk_X11_183 (by decide +kernel) rfl (by decide) rfl (Nat.le_of_ble_eq_true rfl) (Nat.le_of_ble_eq_true rfl) ((t_X11_noSuchCaller hq2).up (by decide)) ?_
  refine ax_Tif_ne (off := 12) (tgt := 17) (by decide +kernel) (by decide) (fun c5 => ?_) (fun c5 => ?_)
  · rw [if_neg c5] at h
    refine ax_Tgo [.iconst (-1)] (pc' := 18) (L' := [some (.inr (11, 0)), some (.inl (.int a1)), some (.inl (.int a2))]) (st' := [.inl (.int (Int32.ofInt (-1)))]) (S' := S) ok_X11_sung.1 (by decide +kernel) rfl rfl ?_
    cases h
    exact ax_Treti (by decide +kernel) rfl rfl
  · rw [if_pos c5] at h
    refine ax_Tgo [.iload_n 2] (pc' := 9) (L' := [some (.inr (11, 0)), some (.inl (.int a1)), some (.inl (.int a2))]) (st' := [.inl (.int a2)]) (S' := S) ok_X11_sung.1 (by decide +kernel) rfl rfl ?_
    refine ax_Tif_lt (off := 8) (tgt := 17) (by decide +kernel) (by decide) (fun c6 => ?_) (fun c6 => ?_)
    · rw [if_pos c6] at h
      refine ax_Tgo [.iconst (-1)] (pc' := 18) (L' := [some (.inr (11, 0)), some (.inl (.int a1)), some (.inl (.int a2))]) (st' := [.inl (.int (Int32.ofInt (-1)))]) (S' := S) ok_X11_sung.1 (by decide +kernel) rfl rfl ?_
      cases h
      exact ax_Treti (by decide +kernel) rfl rfl
    · rw [if_neg c6] at h
      refine ax_Tgo [.iload_n 2, .iconst 1] (pc' := 14) (L' := [some (.inr (11, 0)), some (.inl (.int a1)), some (.inl (.int a2))]) (st' := [.inl (.int (1 : Int32)), .inl (.int a2)]) (S' := S) ok_X11_sung.1 (by decide +kernel) rfl rfl ?_
      refine ax_Tic_le (off := 5) (tgt := 19) (by decide +kernel) (by decide) (fun c7 => ?_) (fun c7 => ?_)
      · rw [if_pos c7] at h
        refine ax_Tgo [.aload_n 0, .getfield 31, .aload_n 0, .getfield 69, .iload_n 1, .iload_n 2] (pc' := 29) (L' := [some (.inr (11, 0)), some (.inl (.int a1)), some (.inl (.int a2))]) (st' := [.inl (.int a2), .inl (.int a1), .inr (9, 0), .inr (6, 0)]) (S' := S) ok_X11_sung.1 (by decide +kernel) rfl rfl ?_
        refine ax_Tif_ne (off := 7) (tgt := 36) (by decide +kernel) (by decide) (fun c8 => ?_) (fun c8 => ?_)
        · rw [if_neg c8] at h
          refine ax_Tgo [.iconst 0] (pc' := 37) (L' := [some (.inr (11, 0)), some (.inl (.int a1)), some (.inl (.int a2))]) (st' := [.inl (.int (0 : Int32)), .inl (.int a1), .inr (9, 0), .inr (6, 0)]) (S' := S) ok_X11_sung.1 (by decide +kernel) rfl rfl ?_
          obtain ⟨r12, S9, hq10, h⟩ := ax_bu_e h
          refine ax_TVi (d := 3) (ka := 6) (i := 0) [.inr (9, 0), .inl (.int a1), .inl (.int (0 : Int32))] [] lk_X11_406 (by decide +kernel) rfl (by decide) rfl (Nat.le_of_ble_eq_true rfl) (Nat.le_of_ble_eq_true rfl) ((t_X6_beatsSung hq10).up (by decide)) ?_
          cases h
          exact ax_Treti (by decide +kernel) rfl rfl
        · rw [if_pos c8] at h
          refine ax_Tgo [.iconst 1] (pc' := 33) (L' := [some (.inr (11, 0)), some (.inl (.int a1)), some (.inl (.int a2))]) (st' := [.inl (.int (1 : Int32)), .inl (.int a1), .inr (9, 0), .inr (6, 0)]) (S' := S) ok_X11_sung.1 (by decide +kernel) rfl rfl ?_
          refine ax_Tgoto (off := 4) (tgt := 37) (by decide +kernel) (by decide) ?_
          obtain ⟨r16, S13, hq14, h⟩ := ax_bu_e h
          refine ax_TVi (d := 3) (ka := 6) (i := 0) [.inr (9, 0), .inl (.int a1), .inl (.int (1 : Int32))] [] lk_X11_406 (by decide +kernel) rfl (by decide) rfl (Nat.le_of_ble_eq_true rfl) (Nat.le_of_ble_eq_true rfl) ((t_X6_beatsSung hq14).up (by decide)) ?_
          cases h
          exact ax_Treti (by decide +kernel) rfl rfl
      · rw [if_neg c7] at h
        refine ax_Tgo [.iconst (-1)] (pc' := 18) (L' := [some (.inr (11, 0)), some (.inl (.int a1)), some (.inl (.int a2))]) (st' := [.inl (.int (Int32.ofInt (-1)))]) (S' := S) ok_X11_sung.1 (by decide +kernel) rfl rfl ?_
        cases h
        exact ax_Treti (by decide +kernel) rfl rfl
def f_X11_text (a1 : Int32) (S : AS) : Option (Int32 × AS) := (if a1 = (1 : Int32) then (if (4 : Int32) ≤ (ax_fi S 11 0 16) then some ((Int32.ofInt (-1)), S) else (if a1 = (2 : Int32) then (if (ax_fi S 11 0 17) < (4 : Int32) then ax_bu (f_X11_fault a1 S) (fun (r67 : Int32) (S64 : AS) => (if r67 = (Int32.ofInt (-1)) then ax_bu (f_X10_cut (0 : Int32) S64) (fun (r72 : Int32) (S69 : AS) => (if a1 = (0 : Int32) then (f_X11_moveIn S69).bind (fun (S74 : AS) => some ((ax_fi S74 4 (ax_fx S74 11 0 14) 5), S74)) else if a1 = (1 : Int32) then ax_let (ax_sfi S69 11 0 16 ((ax_fi S69 11 0 16) + (1 : Int32))) (fun (S81 : AS) => some (((ax_fi S81 11 0 16) - (1 : Int32)), S81)) else ax_let (ax_sfi S69 11 0 17 ((ax_fi S69 11 0 17) + (1 : Int32))) (fun (S82 : AS) => some (((ax_fi S82 11 0 17) - (1 : Int32)), S82)))) else some ((Int32.ofInt (-1)), S64))) else some ((Int32.ofInt (-1)), S)) else ax_bu (f_X11_fault a1 S) (fun (r47 : Int32) (S44 : AS) => (if r47 = (Int32.ofInt (-1)) then ax_bu (f_X10_cut (0 : Int32) S44) (fun (r52 : Int32) (S49 : AS) => (if a1 = (0 : Int32) then (f_X11_moveIn S49).bind (fun (S54 : AS) => some ((ax_fi S54 4 (ax_fx S54 11 0 14) 5), S54)) else if a1 = (1 : Int32) then ax_let (ax_sfi S49 11 0 16 ((ax_fi S49 11 0 16) + (1 : Int32))) (fun (S61 : AS) => some (((ax_fi S61 11 0 16) - (1 : Int32)), S61)) else ax_let (ax_sfi S49 11 0 17 ((ax_fi S49 11 0 17) + (1 : Int32))) (fun (S62 : AS) => some (((ax_fi S62 11 0 17) - (1 : Int32)), S62)))) else some ((Int32.ofInt (-1)), S44))))) else (if a1 = (2 : Int32) then (if (ax_fi S 11 0 17) < (4 : Int32) then ax_bu (f_X11_fault a1 S) (fun (r26 : Int32) (S23 : AS) => (if r26 = (Int32.ofInt (-1)) then ax_bu (f_X10_cut (0 : Int32) S23) (fun (r31 : Int32) (S28 : AS) => (if a1 = (0 : Int32) then (f_X11_moveIn S28).bind (fun (S33 : AS) => some ((ax_fi S33 4 (ax_fx S33 11 0 14) 5), S33)) else if a1 = (1 : Int32) then ax_let (ax_sfi S28 11 0 16 ((ax_fi S28 11 0 16) + (1 : Int32))) (fun (S40 : AS) => some (((ax_fi S40 11 0 16) - (1 : Int32)), S40)) else ax_let (ax_sfi S28 11 0 17 ((ax_fi S28 11 0 17) + (1 : Int32))) (fun (S41 : AS) => some (((ax_fi S41 11 0 17) - (1 : Int32)), S41)))) else some ((Int32.ofInt (-1)), S23))) else some ((Int32.ofInt (-1)), S)) else ax_bu (f_X11_fault a1 S) (fun (r6 : Int32) (S3 : AS) => (if r6 = (Int32.ofInt (-1)) then ax_bu (f_X10_cut (0 : Int32) S3) (fun (r11 : Int32) (S8 : AS) => (if a1 = (0 : Int32) then (f_X11_moveIn S8).bind (fun (S13 : AS) => some ((ax_fi S13 4 (ax_fx S13 11 0 14) 5), S13)) else if a1 = (1 : Int32) then ax_let (ax_sfi S8 11 0 16 ((ax_fi S8 11 0 16) + (1 : Int32))) (fun (S20 : AS) => some (((ax_fi S20 11 0 16) - (1 : Int32)), S20)) else ax_let (ax_sfi S8 11 0 17 ((ax_fi S8 11 0 17) + (1 : Int32))) (fun (S21 : AS) => some (((ax_fi S21 11 0 17) - (1 : Int32)), S21)))) else some ((Int32.ofInt (-1)), S3)))))
set_option maxRecDepth 100000 in
theorem t_X11_text {l : Launch} {a1 : Int32} {S Z : AS} {r : Int32} (h : f_X11_text a1 S = some (r, Z)) : ax_M l 72 ma_X11_text [.inr (11, 0), .inl (.int a1)] S (some (.inl (.int r))) Z := by
  unfold f_X11_text at h
  show ax_T l 72 ma_X11_text (0, [some (.inr (11, 0)), some (.inl (.int a1))], [], S) (some (.inl (.int r))) Z
  refine ax_Tgo [.iload_n 1, .iconst 1] (pc' := 2) (L' := [some (.inr (11, 0)), some (.inl (.int a1))]) (st' := [.inl (.int (1 : Int32)), .inl (.int a1)]) (S' := S) ok_X11_text.1 (by decide +kernel) rfl rfl ?_
  refine ax_Tic_ne (off := 11) (tgt := 13) (by decide +kernel) (by decide) (fun c1 => ?_) (fun c1 => ?_)
  · rw [if_neg c1] at h
    refine ax_Tgo [.iload_n 1, .iconst 2] (pc' := 15) (L' := [some (.inr (11, 0)), some (.inl (.int a1))]) (st' := [.inl (.int (2 : Int32)), .inl (.int a1)]) (S' := S) ok_X11_text.1 (by decide +kernel) rfl rfl ?_
    refine ax_Tic_ne (off := 13) (tgt := 28) (by decide +kernel) (by decide) (fun c2 => ?_) (fun c2 => ?_)
    · rw [if_neg c2] at h
      refine ax_Tgo [.aload_n 0, .iload_n 1] (pc' := 30) (L' := [some (.inr (11, 0)), some (.inl (.int a1))]) (st' := [.inl (.int a1), .inr (11, 0)]) (S' := S) ok_X11_text.1 (by decide +kernel) rfl rfl ?_
      obtain ⟨r6, S3, hq4, h⟩ := ax_bu_e h
      refine ax_TVi (d := 71) (ka := 11) (i := 0) [.inl (.int a1)] [] lk_X11_141 (by decide +kernel) rfl (by decide) rfl (Nat.le_of_ble_eq_true rfl) (Nat.le_of_ble_eq_true rfl) ((t_X11_fault hq4).up (by decide)) ?_
      refine ax_Tgo [.iconst (-1)] (pc' := 34) (L' := [some (.inr (11, 0)), some (.inl (.int a1))]) (st' := [.inl (.int (Int32.ofInt (-1))), .inl (.int r6)]) (S' := S3) ok_X11_text.1 (by decide +kernel) rfl rfl ?_
      refine ax_Tic_eq (off := 5) (tgt := 39) (by decide +kernel) (by decide) (fun c7 => ?_) (fun c7 => ?_)
      · rw [if_pos c7] at h
        refine ax_Tgo [.aload_n 0, .getfield 10, .iconst 0] (pc' := 44) (L' := [some (.inr (11, 0)), some (.inl (.int a1))]) (st' := [.inl (.int (0 : Int32)), .inr (10, 0)]) (S' := S3) ok_X11_text.1 (by decide +kernel) rfl rfl ?_
        obtain ⟨r11, S8, hq9, h⟩ := ax_bu_e h
        refine ax_TVi (d := 71) (ka := 10) (i := 0) [.inl (.int (0 : Int32))] [] lk_X11_132 (by decide +kernel) rfl (by decide) rfl (Nat.le_of_ble_eq_true rfl) (Nat.le_of_ble_eq_true rfl) ((t_X10_cut hq9).up (by decide)) ?_
        refine ax_Tgo [.pop, .iload_n 1] (pc' := 49) (L' := [some (.inr (11, 0)), some (.inl (.int a1))]) (st' := [.inl (.int a1)]) (S' := S8) ok_X11_text.1 (by decide +kernel) rfl rfl ?_
        by_cases c12 : a1 = (0 : Int32)
        · rw [if_pos c12] at h
          refine ax_Tlsw (dflt := 56) (ps := #[(0, 27), (1, 39)]) (len := 27) (off := 27) (tgt := 76) (by decide +kernel) (by decide) (by rw [c12]; rfl) (by decide) ?_
          refine ax_Tgo [.aload_n 0] (pc' := 77) (L' := [some (.inr (11, 0)), some (.inl (.int a1))]) (st' := [.inr (11, 0)]) (S' := S8) ok_X11_text.1 (by decide +kernel) rfl rfl ?_
          obtain ⟨S13, hq14, h⟩ := ax_bd_e h
          refine ax_TVv (d := 71) (ka := 11) (i := 0) [] [] lk_X11_144 (by decide +kernel) rfl (by decide) rfl (Nat.le_of_ble_eq_true rfl) (Nat.le_of_ble_eq_true rfl) ((t_X11_moveIn hq14).up (by decide)) ?_
          refine ax_Tgo [.aload_n 0, .getfield 93] (pc' := 84) (L' := [some (.inr (11, 0)), some (.inl (.int a1))]) (st' := [.inr (4, (ax_fx S13 11 0 14))]) (S' := S13) ok_X11_text.1 (by decide +kernel) rfl rfl ?_
          refine ax_TVi (d := 71) (ka := 4) (i := (ax_fx S13 11 0 14)) [] [] lk_X11_147 (by decide +kernel) rfl (by decide) rfl (Nat.le_of_ble_eq_true rfl) (Nat.le_of_ble_eq_true rfl) ((t_X4_callers rfl).up (by decide)) ?_
          cases h
          exact ax_Treti (by decide +kernel) rfl rfl
        · rw [if_neg c12] at h
          by_cases c19 : a1 = (1 : Int32)
          · rw [if_pos c19] at h
            refine ax_Tlsw (dflt := 56) (ps := #[(0, 27), (1, 39)]) (len := 27) (off := 39) (tgt := 88) (by decide +kernel) (by decide) (by rw [c19]; rfl) (by decide) ?_
            refine ax_Tgo [.aload_n 0, .dup, .getfield 100, .iconst 1, .iadd, .putfield 100] (pc' := 98) (L' := [some (.inr (11, 0)), some (.inl (.int a1))]) (st' := []) (S' := (ax_sfi S8 11 0 16 ((ax_fi S8 11 0 16) + (1 : Int32)))) ok_X11_text.1 (by decide +kernel) rfl rfl ?_
            obtain ⟨S20, eS20, h⟩ := ax_let_e h
            rw [eS20]
            refine ax_Tgo [.aload_n 0, .getfield 100, .iconst 1, .isub] (pc' := 104) (L' := [some (.inr (11, 0)), some (.inl (.int a1))]) (st' := [.inl (.int ((ax_fi S20 11 0 16) - (1 : Int32)))]) (S' := S20) ok_X11_text.1 (by decide +kernel) rfl rfl ?_
            cases h
            exact ax_Treti (by decide +kernel) rfl rfl
          · rw [if_neg c19] at h
            refine ax_Tlsw (dflt := 56) (ps := #[(0, 27), (1, 39)]) (len := 27) (off := 56) (tgt := 105) (by decide +kernel) (by decide) (by show Op.lookupswitch.offset [(0, 27), (1, 39)] 56 a1.toInt = 56; rw [lv_osw (a := 0) c12 rfl]; rw [lv_osw (a := 1) c19 rfl]; rfl) (by decide) ?_
            refine ax_Tgo [.aload_n 0, .dup, .getfield 104, .iconst 1, .iadd, .putfield 104] (pc' := 115) (L' := [some (.inr (11, 0)), some (.inl (.int a1))]) (st' := []) (S' := (ax_sfi S8 11 0 17 ((ax_fi S8 11 0 17) + (1 : Int32)))) ok_X11_text.1 (by decide +kernel) rfl rfl ?_
            obtain ⟨S21, eS21, h⟩ := ax_let_e h
            rw [eS21]
            refine ax_Tgo [.aload_n 0, .getfield 104, .iconst 1, .isub] (pc' := 121) (L' := [some (.inr (11, 0)), some (.inl (.int a1))]) (st' := [.inl (.int ((ax_fi S21 11 0 17) - (1 : Int32)))]) (S' := S21) ok_X11_text.1 (by decide +kernel) rfl rfl ?_
            cases h
            exact ax_Treti (by decide +kernel) rfl rfl
      · rw [if_neg c7] at h
        refine ax_Tgo [.iconst (-1)] (pc' := 38) (L' := [some (.inr (11, 0)), some (.inl (.int a1))]) (st' := [.inl (.int (Int32.ofInt (-1)))]) (S' := S3) ok_X11_text.1 (by decide +kernel) rfl rfl ?_
        cases h
        exact ax_Treti (by decide +kernel) rfl rfl
    · rw [if_pos c2] at h
      refine ax_Tgo [.aload_n 0, .getfield 104, .iconst 4] (pc' := 23) (L' := [some (.inr (11, 0)), some (.inl (.int a1))]) (st' := [.inl (.int (4 : Int32)), .inl (.int (ax_fi S 11 0 17))]) (S' := S) ok_X11_text.1 (by decide +kernel) rfl rfl ?_
      refine ax_Tic_lt (off := 5) (tgt := 28) (by decide +kernel) (by decide) (fun c22 => ?_) (fun c22 => ?_)
      · rw [if_pos c22] at h
        refine ax_Tgo [.aload_n 0, .iload_n 1] (pc' := 30) (L' := [some (.inr (11, 0)), some (.inl (.int a1))]) (st' := [.inl (.int a1), .inr (11, 0)]) (S' := S) ok_X11_text.1 (by decide +kernel) rfl rfl ?_
        obtain ⟨r26, S23, hq24, h⟩ := ax_bu_e h
        refine ax_TVi (d := 71) (ka := 11) (i := 0) [.inl (.int a1)] [] lk_X11_141 (by decide +kernel) rfl (by decide) rfl (Nat.le_of_ble_eq_true rfl) (Nat.le_of_ble_eq_true rfl) ((t_X11_fault hq24).up (by decide)) ?_
        refine ax_Tgo [.iconst (-1)] (pc' := 34) (L' := [some (.inr (11, 0)), some (.inl (.int a1))]) (st' := [.inl (.int (Int32.ofInt (-1))), .inl (.int r26)]) (S' := S23) ok_X11_text.1 (by decide +kernel) rfl rfl ?_
        refine ax_Tic_eq (off := 5) (tgt := 39) (by decide +kernel) (by decide) (fun c27 => ?_) (fun c27 => ?_)
        · rw [if_pos c27] at h
          refine ax_Tgo [.aload_n 0, .getfield 10, .iconst 0] (pc' := 44) (L' := [some (.inr (11, 0)), some (.inl (.int a1))]) (st' := [.inl (.int (0 : Int32)), .inr (10, 0)]) (S' := S23) ok_X11_text.1 (by decide +kernel) rfl rfl ?_
          obtain ⟨r31, S28, hq29, h⟩ := ax_bu_e h
          refine ax_TVi (d := 71) (ka := 10) (i := 0) [.inl (.int (0 : Int32))] [] lk_X11_132 (by decide +kernel) rfl (by decide) rfl (Nat.le_of_ble_eq_true rfl) (Nat.le_of_ble_eq_true rfl) ((t_X10_cut hq29).up (by decide)) ?_
          refine ax_Tgo [.pop, .iload_n 1] (pc' := 49) (L' := [some (.inr (11, 0)), some (.inl (.int a1))]) (st' := [.inl (.int a1)]) (S' := S28) ok_X11_text.1 (by decide +kernel) rfl rfl ?_
          by_cases c32 : a1 = (0 : Int32)
          · rw [if_pos c32] at h
            refine ax_Tlsw (dflt := 56) (ps := #[(0, 27), (1, 39)]) (len := 27) (off := 27) (tgt := 76) (by decide +kernel) (by decide) (by rw [c32]; rfl) (by decide) ?_
            refine ax_Tgo [.aload_n 0] (pc' := 77) (L' := [some (.inr (11, 0)), some (.inl (.int a1))]) (st' := [.inr (11, 0)]) (S' := S28) ok_X11_text.1 (by decide +kernel) rfl rfl ?_
            obtain ⟨S33, hq34, h⟩ := ax_bd_e h
            refine ax_TVv (d := 71) (ka := 11) (i := 0) [] [] lk_X11_144 (by decide +kernel) rfl (by decide) rfl (Nat.le_of_ble_eq_true rfl) (Nat.le_of_ble_eq_true rfl) ((t_X11_moveIn hq34).up (by decide)) ?_
            refine ax_Tgo [.aload_n 0, .getfield 93] (pc' := 84) (L' := [some (.inr (11, 0)), some (.inl (.int a1))]) (st' := [.inr (4, (ax_fx S33 11 0 14))]) (S' := S33) ok_X11_text.1 (by decide +kernel) rfl rfl ?_
            refine ax_TVi (d := 71) (ka := 4) (i := (ax_fx S33 11 0 14)) [] [] lk_X11_147 (by decide +kernel) rfl (by decide) rfl (Nat.le_of_ble_eq_true rfl) (Nat.le_of_ble_eq_true rfl) ((t_X4_callers rfl).up (by decide)) ?_
            cases h
            exact ax_Treti (by decide +kernel) rfl rfl
          · rw [if_neg c32] at h
            by_cases c39 : a1 = (1 : Int32)
            · rw [if_pos c39] at h
              refine ax_Tlsw (dflt := 56) (ps := #[(0, 27), (1, 39)]) (len := 27) (off := 39) (tgt := 88) (by decide +kernel) (by decide) (by rw [c39]; rfl) (by decide) ?_
              refine ax_Tgo [.aload_n 0, .dup, .getfield 100, .iconst 1, .iadd, .putfield 100] (pc' := 98) (L' := [some (.inr (11, 0)), some (.inl (.int a1))]) (st' := []) (S' := (ax_sfi S28 11 0 16 ((ax_fi S28 11 0 16) + (1 : Int32)))) ok_X11_text.1 (by decide +kernel) rfl rfl ?_
              obtain ⟨S40, eS40, h⟩ := ax_let_e h
              rw [eS40]
              refine ax_Tgo [.aload_n 0, .getfield 100, .iconst 1, .isub] (pc' := 104) (L' := [some (.inr (11, 0)), some (.inl (.int a1))]) (st' := [.inl (.int ((ax_fi S40 11 0 16) - (1 : Int32)))]) (S' := S40) ok_X11_text.1 (by decide +kernel) rfl rfl ?_
              cases h
              exact ax_Treti (by decide +kernel) rfl rfl
            · rw [if_neg c39] at h
              refine ax_Tlsw (dflt := 56) (ps := #[(0, 27), (1, 39)]) (len := 27) (off := 56) (tgt := 105) (by decide +kernel) (by decide) (by show Op.lookupswitch.offset [(0, 27), (1, 39)] 56 a1.toInt = 56; rw [lv_osw (a := 0) c32 rfl]; rw [lv_osw (a := 1) c39 rfl]; rfl) (by decide) ?_
              refine ax_Tgo [.aload_n 0, .dup, .getfield 104, .iconst 1, .iadd, .putfield 104] (pc' := 115) (L' := [some (.inr (11, 0)), some (.inl (.int a1))]) (st' := []) (S' := (ax_sfi S28 11 0 17 ((ax_fi S28 11 0 17) + (1 : Int32)))) ok_X11_text.1 (by decide +kernel) rfl rfl ?_
              obtain ⟨S41, eS41, h⟩ := ax_let_e h
              rw [eS41]
              refine ax_Tgo [.aload_n 0, .getfield 104, .iconst 1, .isub] (pc' := 121) (L' := [some (.inr (11, 0)), some (.inl (.int a1))]) (st' := [.inl (.int ((ax_fi S41 11 0 17) - (1 : Int32)))]) (S' := S41) ok_X11_text.1 (by decide +kernel) rfl rfl ?_
              cases h
              exact ax_Treti (by decide +kernel) rfl rfl
        · rw [if_neg c27] at h
          refine ax_Tgo [.iconst (-1)] (pc' := 38) (L' := [some (.inr (11, 0)), some (.inl (.int a1))]) (st' := [.inl (.int (Int32.ofInt (-1)))]) (S' := S23) ok_X11_text.1 (by decide +kernel) rfl rfl ?_
          cases h
          exact ax_Treti (by decide +kernel) rfl rfl
      · rw [if_neg c22] at h
        refine ax_Tgo [.iconst (-1)] (pc' := 27) (L' := [some (.inr (11, 0)), some (.inl (.int a1))]) (st' := [.inl (.int (Int32.ofInt (-1)))]) (S' := S) ok_X11_text.1 (by decide +kernel) rfl rfl ?_
        cases h
        exact ax_Treti (by decide +kernel) rfl rfl
  · rw [if_pos c1] at h
    refine ax_Tgo [.aload_n 0, .getfield 100, .iconst 4] (pc' := 10) (L' := [some (.inr (11, 0)), some (.inl (.int a1))]) (st' := [.inl (.int (4 : Int32)), .inl (.int (ax_fi S 11 0 16))]) (S' := S) ok_X11_text.1 (by decide +kernel) rfl rfl ?_
    refine ax_Tic_ge (off := 16) (tgt := 26) (by decide +kernel) (by decide) (fun c42 => ?_) (fun c42 => ?_)
    · rw [if_pos c42] at h
      refine ax_Tgo [.iconst (-1)] (pc' := 27) (L' := [some (.inr (11, 0)), some (.inl (.int a1))]) (st' := [.inl (.int (Int32.ofInt (-1)))]) (S' := S) ok_X11_text.1 (by decide +kernel) rfl rfl ?_
      cases h
      exact ax_Treti (by decide +kernel) rfl rfl
    · rw [if_neg c42] at h
      refine ax_Tgo [.iload_n 1, .iconst 2] (pc' := 15) (L' := [some (.inr (11, 0)), some (.inl (.int a1))]) (st' := [.inl (.int (2 : Int32)), .inl (.int a1)]) (S' := S) ok_X11_text.1 (by decide +kernel) rfl rfl ?_
      refine ax_Tic_ne (off := 13) (tgt := 28) (by decide +kernel) (by decide) (fun c43 => ?_) (fun c43 => ?_)
      · rw [if_neg c43] at h
        refine ax_Tgo [.aload_n 0, .iload_n 1] (pc' := 30) (L' := [some (.inr (11, 0)), some (.inl (.int a1))]) (st' := [.inl (.int a1), .inr (11, 0)]) (S' := S) ok_X11_text.1 (by decide +kernel) rfl rfl ?_
        obtain ⟨r47, S44, hq45, h⟩ := ax_bu_e h
        refine ax_TVi (d := 71) (ka := 11) (i := 0) [.inl (.int a1)] [] lk_X11_141 (by decide +kernel) rfl (by decide) rfl (Nat.le_of_ble_eq_true rfl) (Nat.le_of_ble_eq_true rfl) ((t_X11_fault hq45).up (by decide)) ?_
        refine ax_Tgo [.iconst (-1)] (pc' := 34) (L' := [some (.inr (11, 0)), some (.inl (.int a1))]) (st' := [.inl (.int (Int32.ofInt (-1))), .inl (.int r47)]) (S' := S44) ok_X11_text.1 (by decide +kernel) rfl rfl ?_
        refine ax_Tic_eq (off := 5) (tgt := 39) (by decide +kernel) (by decide) (fun c48 => ?_) (fun c48 => ?_)
        · rw [if_pos c48] at h
          refine ax_Tgo [.aload_n 0, .getfield 10, .iconst 0] (pc' := 44) (L' := [some (.inr (11, 0)), some (.inl (.int a1))]) (st' := [.inl (.int (0 : Int32)), .inr (10, 0)]) (S' := S44) ok_X11_text.1 (by decide +kernel) rfl rfl ?_
          obtain ⟨r52, S49, hq50, h⟩ := ax_bu_e h
          refine ax_TVi (d := 71) (ka := 10) (i := 0) [.inl (.int (0 : Int32))] [] lk_X11_132 (by decide +kernel) rfl (by decide) rfl (Nat.le_of_ble_eq_true rfl) (Nat.le_of_ble_eq_true rfl) ((t_X10_cut hq50).up (by decide)) ?_
          refine ax_Tgo [.pop, .iload_n 1] (pc' := 49) (L' := [some (.inr (11, 0)), some (.inl (.int a1))]) (st' := [.inl (.int a1)]) (S' := S49) ok_X11_text.1 (by decide +kernel) rfl rfl ?_
          by_cases c53 : a1 = (0 : Int32)
          · rw [if_pos c53] at h
            refine ax_Tlsw (dflt := 56) (ps := #[(0, 27), (1, 39)]) (len := 27) (off := 27) (tgt := 76) (by decide +kernel) (by decide) (by rw [c53]; rfl) (by decide) ?_
            refine ax_Tgo [.aload_n 0] (pc' := 77) (L' := [some (.inr (11, 0)), some (.inl (.int a1))]) (st' := [.inr (11, 0)]) (S' := S49) ok_X11_text.1 (by decide +kernel) rfl rfl ?_
            obtain ⟨S54, hq55, h⟩ := ax_bd_e h
            refine ax_TVv (d := 71) (ka := 11) (i := 0) [] [] lk_X11_144 (by decide +kernel) rfl (by decide) rfl (Nat.le_of_ble_eq_true rfl) (Nat.le_of_ble_eq_true rfl) ((t_X11_moveIn hq55).up (by decide)) ?_
            refine ax_Tgo [.aload_n 0, .getfield 93] (pc' := 84) (L' := [some (.inr (11, 0)), some (.inl (.int a1))]) (st' := [.inr (4, (ax_fx S54 11 0 14))]) (S' := S54) ok_X11_text.1 (by decide +kernel) rfl rfl ?_
            refine ax_TVi (d := 71) (ka := 4) (i := (ax_fx S54 11 0 14)) [] [] lk_X11_147 (by decide +kernel) rfl (by decide) rfl (Nat.le_of_ble_eq_true rfl) (Nat.le_of_ble_eq_true rfl) ((t_X4_callers rfl).up (by decide)) ?_
            cases h
            exact ax_Treti (by decide +kernel) rfl rfl
          · rw [if_neg c53] at h
            by_cases c60 : a1 = (1 : Int32)
            · rw [if_pos c60] at h
              refine ax_Tlsw (dflt := 56) (ps := #[(0, 27), (1, 39)]) (len := 27) (off := 39) (tgt := 88) (by decide +kernel) (by decide) (by rw [c60]; rfl) (by decide) ?_
              refine ax_Tgo [.aload_n 0, .dup, .getfield 100, .iconst 1, .iadd, .putfield 100] (pc' := 98) (L' := [some (.inr (11, 0)), some (.inl (.int a1))]) (st' := []) (S' := (ax_sfi S49 11 0 16 ((ax_fi S49 11 0 16) + (1 : Int32)))) ok_X11_text.1 (by decide +kernel) rfl rfl ?_
              obtain ⟨S61, eS61, h⟩ := ax_let_e h
              rw [eS61]
              refine ax_Tgo [.aload_n 0, .getfield 100, .iconst 1, .isub] (pc' := 104) (L' := [some (.inr (11, 0)), some (.inl (.int a1))]) (st' := [.inl (.int ((ax_fi S61 11 0 16) - (1 : Int32)))]) (S' := S61) ok_X11_text.1 (by decide +kernel) rfl rfl ?_
              cases h
              exact ax_Treti (by decide +kernel) rfl rfl
            · rw [if_neg c60] at h
              refine ax_Tlsw (dflt := 56) (ps := #[(0, 27), (1, 39)]) (len := 27) (off := 56) (tgt := 105) (by decide +kernel) (by decide) (by show Op.lookupswitch.offset [(0, 27), (1, 39)] 56 a1.toInt = 56; rw [lv_osw (a := 0) c53 rfl]; rw [lv_osw (a := 1) c60 rfl]; rfl) (by decide) ?_
              refine ax_Tgo [.aload_n 0, .dup, .getfield 104, .iconst 1, .iadd, .putfield 104] (pc' := 115) (L' := [some (.inr (11, 0)), some (.inl (.int a1))]) (st' := []) (S' := (ax_sfi S49 11 0 17 ((ax_fi S49 11 0 17) + (1 : Int32)))) ok_X11_text.1 (by decide +kernel) rfl rfl ?_
              obtain ⟨S62, eS62, h⟩ := ax_let_e h
              rw [eS62]
              refine ax_Tgo [.aload_n 0, .getfield 104, .iconst 1, .isub] (pc' := 121) (L' := [some (.inr (11, 0)), some (.inl (.int a1))]) (st' := [.inl (.int ((ax_fi S62 11 0 17) - (1 : Int32)))]) (S' := S62) ok_X11_text.1 (by decide +kernel) rfl rfl ?_
              cases h
              exact ax_Treti (by decide +kernel) rfl rfl
        · rw [if_neg c48] at h
          refine ax_Tgo [.iconst (-1)] (pc' := 38) (L' := [some (.inr (11, 0)), some (.inl (.int a1))]) (st' := [.inl (.int (Int32.ofInt (-1)))]) (S' := S44) ok_X11_text.1 (by decide +kernel) rfl rfl ?_
          cases h
          exact ax_Treti (by decide +kernel) rfl rfl
      · rw [if_pos c43] at h
        refine ax_Tgo [.aload_n 0, .getfield 104, .iconst 4] (pc' := 23) (L' := [some (.inr (11, 0)), some (.inl (.int a1))]) (st' := [.inl (.int (4 : Int32)), .inl (.int (ax_fi S 11 0 17))]) (S' := S) ok_X11_text.1 (by decide +kernel) rfl rfl ?_
        refine ax_Tic_lt (off := 5) (tgt := 28) (by decide +kernel) (by decide) (fun c63 => ?_) (fun c63 => ?_)
        · rw [if_pos c63] at h
          refine ax_Tgo [.aload_n 0, .iload_n 1] (pc' := 30) (L' := [some (.inr (11, 0)), some (.inl (.int a1))]) (st' := [.inl (.int a1), .inr (11, 0)]) (S' := S) ok_X11_text.1 (by decide +kernel) rfl rfl ?_
          obtain ⟨r67, S64, hq65, h⟩ := ax_bu_e h
          refine ax_TVi (d := 71) (ka := 11) (i := 0) [.inl (.int a1)] [] lk_X11_141 (by decide +kernel) rfl (by decide) rfl (Nat.le_of_ble_eq_true rfl) (Nat.le_of_ble_eq_true rfl) ((t_X11_fault hq65).up (by decide)) ?_
          refine ax_Tgo [.iconst (-1)] (pc' := 34) (L' := [some (.inr (11, 0)), some (.inl (.int a1))]) (st' := [.inl (.int (Int32.ofInt (-1))), .inl (.int r67)]) (S' := S64) ok_X11_text.1 (by decide +kernel) rfl rfl ?_
          refine ax_Tic_eq (off := 5) (tgt := 39) (by decide +kernel) (by decide) (fun c68 => ?_) (fun c68 => ?_)
          · rw [if_pos c68] at h
            refine ax_Tgo [.aload_n 0, .getfield 10, .iconst 0] (pc' := 44) (L' := [some (.inr (11, 0)), some (.inl (.int a1))]) (st' := [.inl (.int (0 : Int32)), .inr (10, 0)]) (S' := S64) ok_X11_text.1 (by decide +kernel) rfl rfl ?_
            obtain ⟨r72, S69, hq70, h⟩ := ax_bu_e h
            refine ax_TVi (d := 71) (ka := 10) (i := 0) [.inl (.int (0 : Int32))] [] lk_X11_132 (by decide +kernel) rfl (by decide) rfl (Nat.le_of_ble_eq_true rfl) (Nat.le_of_ble_eq_true rfl) ((t_X10_cut hq70).up (by decide)) ?_
            refine ax_Tgo [.pop, .iload_n 1] (pc' := 49) (L' := [some (.inr (11, 0)), some (.inl (.int a1))]) (st' := [.inl (.int a1)]) (S' := S69) ok_X11_text.1 (by decide +kernel) rfl rfl ?_
            by_cases c73 : a1 = (0 : Int32)
            · rw [if_pos c73] at h
              refine ax_Tlsw (dflt := 56) (ps := #[(0, 27), (1, 39)]) (len := 27) (off := 27) (tgt := 76) (by decide +kernel) (by decide) (by rw [c73]; rfl) (by decide) ?_
              refine ax_Tgo [.aload_n 0] (pc' := 77) (L' := [some (.inr (11, 0)), some (.inl (.int a1))]) (st' := [.inr (11, 0)]) (S' := S69) ok_X11_text.1 (by decide +kernel) rfl rfl ?_
              obtain ⟨S74, hq75, h⟩ := ax_bd_e h
              refine ax_TVv (d := 71) (ka := 11) (i := 0) [] [] lk_X11_144 (by decide +kernel) rfl (by decide) rfl (Nat.le_of_ble_eq_true rfl) (Nat.le_of_ble_eq_true rfl) ((t_X11_moveIn hq75).up (by decide)) ?_
              refine ax_Tgo [.aload_n 0, .getfield 93] (pc' := 84) (L' := [some (.inr (11, 0)), some (.inl (.int a1))]) (st' := [.inr (4, (ax_fx S74 11 0 14))]) (S' := S74) ok_X11_text.1 (by decide +kernel) rfl rfl ?_
              refine ax_TVi (d := 71) (ka := 4) (i := (ax_fx S74 11 0 14)) [] [] lk_X11_147 (by decide +kernel) rfl (by decide) rfl (Nat.le_of_ble_eq_true rfl) (Nat.le_of_ble_eq_true rfl) ((t_X4_callers rfl).up (by decide)) ?_
              cases h
              exact ax_Treti (by decide +kernel) rfl rfl
            · rw [if_neg c73] at h
              by_cases c80 : a1 = (1 : Int32)
              · rw [if_pos c80] at h
                refine ax_Tlsw (dflt := 56) (ps := #[(0, 27), (1, 39)]) (len := 27) (off := 39) (tgt := 88) (by decide +kernel) (by decide) (by rw [c80]; rfl) (by decide) ?_
                refine ax_Tgo [.aload_n 0, .dup, .getfield 100, .iconst 1, .iadd, .putfield 100] (pc' := 98) (L' := [some (.inr (11, 0)), some (.inl (.int a1))]) (st' := []) (S' := (ax_sfi S69 11 0 16 ((ax_fi S69 11 0 16) + (1 : Int32)))) ok_X11_text.1 (by decide +kernel) rfl rfl ?_
                obtain ⟨S81, eS81, h⟩ := ax_let_e h
                rw [eS81]
                refine ax_Tgo [.aload_n 0, .getfield 100, .iconst 1, .isub] (pc' := 104) (L' := [some (.inr (11, 0)), some (.inl (.int a1))]) (st' := [.inl (.int ((ax_fi S81 11 0 16) - (1 : Int32)))]) (S' := S81) ok_X11_text.1 (by decide +kernel) rfl rfl ?_
                cases h
                exact ax_Treti (by decide +kernel) rfl rfl
              · rw [if_neg c80] at h
                refine ax_Tlsw (dflt := 56) (ps := #[(0, 27), (1, 39)]) (len := 27) (off := 56) (tgt := 105) (by decide +kernel) (by decide) (by show Op.lookupswitch.offset [(0, 27), (1, 39)] 56 a1.toInt = 56; rw [lv_osw (a := 0) c73 rfl]; rw [lv_osw (a := 1) c80 rfl]; rfl) (by decide) ?_
                refine ax_Tgo [.aload_n 0, .dup, .getfield 104, .iconst 1, .iadd, .putfield 104] (pc' := 115) (L' := [some (.inr (11, 0)), some (.inl (.int a1))]) (st' := []) (S' := (ax_sfi S69 11 0 17 ((ax_fi S69 11 0 17) + (1 : Int32)))) ok_X11_text.1 (by decide +kernel) rfl rfl ?_
                obtain ⟨S82, eS82, h⟩ := ax_let_e h
                rw [eS82]
                refine ax_Tgo [.aload_n 0, .getfield 104, .iconst 1, .isub] (pc' := 121) (L' := [some (.inr (11, 0)), some (.inl (.int a1))]) (st' := [.inl (.int ((ax_fi S82 11 0 17) - (1 : Int32)))]) (S' := S82) ok_X11_text.1 (by decide +kernel) rfl rfl ?_
                cases h
                exact ax_Treti (by decide +kernel) rfl rfl
          · rw [if_neg c68] at h
            refine ax_Tgo [.iconst (-1)] (pc' := 38) (L' := [some (.inr (11, 0)), some (.inl (.int a1))]) (st' := [.inl (.int (Int32.ofInt (-1)))]) (S' := S64) ok_X11_text.1 (by decide +kernel) rfl rfl ?_
            cases h
            exact ax_Treti (by decide +kernel) rfl rfl
        · rw [if_neg c63] at h
          refine ax_Tgo [.iconst (-1)] (pc' := 27) (L' := [some (.inr (11, 0)), some (.inl (.int a1))]) (st' := [.inl (.int (Int32.ofInt (-1)))]) (S' := S) ok_X11_text.1 (by decide +kernel) rfl rfl ?_
          cases h
          exact ax_Treti (by decide +kernel) rfl rfl
def f_X11_timed_L20 (K59 : Int32 → AS → Option (Int32 × AS)) : Nat → Int32 → Int32 → Int32 → AS → Option (Int32 × AS)
  | 0, _, _, _, _ => none
  | n + 1, x11, x12, x13, S15 => (if (ax_fi S15 4 (ax_fx S15 11 0 14) 5) ≤ x13 then K59 x12 S15 else ax_bu (f_X6_beatsNow 0 x13 S15) (fun (r23 : Int32) (S20 : AS) => (if r23 = x11 then ax_let (x12 ||| ((1 : Int32) <<< (x13 &&& 31))) (fun (v26 : Int32) => ax_let (x13 + (1 : Int32)) (fun (v27 : Int32) => f_X11_timed_L20 K59 n x11 v26 v27 S20)) else ax_let (x13 + (1 : Int32)) (fun (v25 : Int32) => f_X11_timed_L20 K59 n x11 x12 v25 S20))))
def f_X11_timed (a1 : Int32) (S : AS) : Option (Int32 × AS) := (f_X11_noHouse S).bind (fun (r4 : Int32) => (if r4 = (0 : Int32) then (f_X11_outOfBeats a1 S).bind (fun (r9 : Int32) => (if r9 = (0 : Int32) then f_X11_timed_L20 (fun (x14 : Int32) (S28 : AS) => some (x14, S28)) ax_F a1 (0 : Int32) (0 : Int32) S else some ((Int32.ofInt (-1)), S))) else some ((Int32.ofInt (-1)), S)))
set_option maxRecDepth 100000 in
theorem t_X11_timed_L20 {l : Launch} {K59 : Int32 → AS → Option (Int32 × AS)} (hK59 : ∀ (x14 : Int32) (S : AS) r Z, K59 x14 S = some (r, Z) → ax_T l 4 ma_X11_timed (59, [none, none, some (.inl (.int x14)), none], [], S) (some (.inl (.int r))) Z) : ∀ (n : Nat) (x11 : Int32) (x12 : Int32) (x13 : Int32) (S15 : AS) r Z, f_X11_timed_L20 K59 n x11 x12 x13 S15 = some (r, Z) → ax_T l 4 ma_X11_timed (20, [some (.inr (11, 0)), some (.inl (.int x11)), some (.inl (.int x12)), some (.inl (.int x13))], [], S15) (some (.inl (.int r))) Z := by
  intro n
  induction n with
  | zero =>
    intro x11 x12 x13 S15 r Z h
    cases h
  | succ n ih =>
    intro x11 x12 x13 S15 r Z h
    unfold f_X11_timed_L20 at h
    refine ax_Tgo [.iload_n 3, .aload_n 0, .getfield 93] (pc' := 25) (L' := [some (.inr (11, 0)), some (.inl (.int x11)), some (.inl (.int x12)), some (.inl (.int x13))]) (st' := [.inr (4, (ax_fx S15 11 0 14)), .inl (.int x13)]) (S' := S15) ok_X11_timed.1 (by decide +kernel) rfl rfl ?_
    refine ax_TVi (d := 3) (ka := 4) (i := (ax_fx S15 11 0 14)) [] [.inl (.int x13)] lk_X11_147 (by decide +kernel) rfl (by decide) rfl (Nat.le_of_ble_eq_true rfl) (Nat.le_of_ble_eq_true rfl) ((t_X4_callers rfl).up (by decide)) ?_
    refine ax_Tic_ge (off := 31) (tgt := 59) (by decide +kernel) (by decide) (fun c19 => ?_) (fun c19 => ?_)
    · rw [if_pos c19] at h
      refine ax_Tdrop [false, false, true, false] (L' := [none, none, some (.inl (.int x12)), none]) rfl ?_
      exact hK59 x12 S15 _ _ h
    · rw [if_neg c19] at h
      refine ax_Tgo [.aload_n 0, .getfield 31, .aload_n 0, .getfield 69, .iload_n 3] (pc' := 40) (L' := [some (.inr (11, 0)), some (.inl (.int x11)), some (.inl (.int x12)), some (.inl (.int x13))]) (st' := [.inl (.int x13), .inr (9, 0), .inr (6, 0)]) (S' := S15) ok_X11_timed.1 (by decide +kernel) rfl rfl ?_
      obtain ⟨r23, S20, hq21, h⟩ := ax_bu_e h
      refine ax_TVi (d := 3) (ka := 6) (i := 0) [.inr (9, 0), .inl (.int x13)] [] lk_X11_284 (by decide +kernel) rfl (by decide) rfl (Nat.le_of_ble_eq_true rfl) (Nat.le_of_ble_eq_true rfl) ((t_X6_beatsNow hq21).up (by decide)) ?_
      refine ax_Tgo [.iload_n 1] (pc' := 44) (L' := [some (.inr (11, 0)), some (.inl (.int x11)), some (.inl (.int x12)), some (.inl (.int x13))]) (st' := [.inl (.int x11), .inl (.int r23)]) (S' := S20) ok_X11_timed.1 (by decide +kernel) rfl rfl ?_
      refine ax_Tic_ne (off := 9) (tgt := 53) (by decide +kernel) (by decide) (fun c24 => ?_) (fun c24 => ?_)
      · rw [if_neg c24] at h
        refine ax_Tgo [.iinc 3 1] (pc' := 56) (L' := [some (.inr (11, 0)), some (.inl (.int x11)), some (.inl (.int x12)), some (.inl (.int (x13 + (1 : Int32))))]) (st' := []) (S' := S20) ok_X11_timed.1 (by decide +kernel) rfl rfl ?_
        obtain ⟨v25, ev25, h⟩ := ax_let_e h
        rw [ev25]
        refine ax_Tgoto (off := (-36)) (tgt := 20) (by decide +kernel) (by decide) ?_
        exact ih x11 x12 v25 S20 _ _ h
      · rw [if_pos c24] at h
        refine ax_Tgo [.iload_n 2, .iconst 1, .iload_n 3, .ishl, .ior, .istore_n 2] (pc' := 53) (L' := [some (.inr (11, 0)), some (.inl (.int x11)), some (.inl (.int (x12 ||| ((1 : Int32) <<< (x13 &&& 31))))), some (.inl (.int x13))]) (st' := []) (S' := S20) ok_X11_timed.1 (by decide +kernel) rfl rfl ?_
        obtain ⟨v26, ev26, h⟩ := ax_let_e h
        rw [ev26]
        refine ax_Tgo [.iinc 3 1] (pc' := 56) (L' := [some (.inr (11, 0)), some (.inl (.int x11)), some (.inl (.int v26)), some (.inl (.int (x13 + (1 : Int32))))]) (st' := []) (S' := S20) ok_X11_timed.1 (by decide +kernel) rfl rfl ?_
        obtain ⟨v27, ev27, h⟩ := ax_let_e h
        rw [ev27]
        refine ax_Tgoto (off := (-36)) (tgt := 20) (by decide +kernel) (by decide) ?_
        exact ih x11 v26 v27 S20 _ _ h
set_option maxRecDepth 100000 in
theorem t_X11_timed {l : Launch} {a1 : Int32} {S Z : AS} {r : Int32} (h : f_X11_timed a1 S = some (r, Z)) : ax_M l 4 ma_X11_timed [.inr (11, 0), .inl (.int a1)] S (some (.inl (.int r))) Z := by
  unfold f_X11_timed at h
  show ax_T l 4 ma_X11_timed (0, [some (.inr (11, 0)), some (.inl (.int a1)), none, none], [], S) (some (.inl (.int r))) Z
  refine ax_Tgo [.aload_n 0] (pc' := 1) (L' := [some (.inr (11, 0)), some (.inl (.int a1)), none, none]) (st' := [.inr (11, 0)]) (S' := S) ok_X11_timed.1 (by decide +kernel) rfl rfl ?_
  obtain ⟨r4, hq2, h⟩ := ax_bd_e h
  refine ax_TVi (d := 3) (ka := 11) (i := 0) [] [] lk_X11_161 (by decide +kernel) rfl (by decide) rfl (Nat.le_of_ble_eq_true rfl) (Nat.le_of_ble_eq_true rfl) ((t_X11_noHouse hq2).up (by decide)) ?_
  refine ax_Tif_ne (off := 10) (tgt := 14) (by decide +kernel) (by decide) (fun c5 => ?_) (fun c5 => ?_)
  · rw [if_neg c5] at h
    refine ax_Tgo [.iconst (-1)] (pc' := 15) (L' := [some (.inr (11, 0)), some (.inl (.int a1)), none, none]) (st' := [.inl (.int (Int32.ofInt (-1)))]) (S' := S) ok_X11_timed.1 (by decide +kernel) rfl rfl ?_
    cases h
    exact ax_Treti (by decide +kernel) rfl rfl
  · rw [if_pos c5] at h
    refine ax_Tgo [.iload_n 1] (pc' := 8) (L' := [some (.inr (11, 0)), some (.inl (.int a1)), none, none]) (st' := [.inl (.int a1)]) (S' := S) ok_X11_timed.1 (by decide +kernel) rfl rfl ?_
    obtain ⟨r9, hq7, h⟩ := ax_bd_e h
    refine ax_TSi (d := 3) [.inl (.int a1)] [] lk_X11_308 (by decide +kernel) rfl rfl (Nat.le_of_ble_eq_true rfl) (Nat.le_of_ble_eq_true rfl) ((t_X11_outOfBeats hq7).up (by decide)) ?_
    refine ax_Tif_eq (off := 5) (tgt := 16) (by decide +kernel) (by decide) (fun c10 => ?_) (fun c10 => ?_)
    · rw [if_pos c10] at h
      refine ax_Tgo [.iconst 0, .istore_n 2, .iconst 0, .istore_n 3] (pc' := 20) (L' := [some (.inr (11, 0)), some (.inl (.int a1)), some (.inl (.int (0 : Int32))), some (.inl (.int (0 : Int32)))]) (st' := []) (S' := S) ok_X11_timed.1 (by decide +kernel) rfl rfl ?_
      refine t_X11_timed_L20 ?_ _ a1 (0 : Int32) (0 : Int32) S _ _ h
      · intro x14 S28 r Z h
        refine ax_Tgo [.iload_n 2] (pc' := 60) (L' := [none, none, some (.inl (.int x14)), none]) (st' := [.inl (.int x14)]) (S' := S28) ok_X11_timed.1 (by decide +kernel) rfl rfl ?_
        cases h
        exact ax_Treti (by decide +kernel) rfl rfl
    · rw [if_neg c10] at h
      refine ax_Tgo [.iconst (-1)] (pc' := 15) (L' := [some (.inr (11, 0)), some (.inl (.int a1)), none, none]) (st' := [.inl (.int (Int32.ofInt (-1)))]) (S' := S) ok_X11_timed.1 (by decide +kernel) rfl rfl ?_
      cases h
      exact ax_Treti (by decide +kernel) rfl rfl
def f_X11_title (a1 : Int32) (S : AS) : Option (Int32 × AS) := ax_bu (f_X11_act (1 : Int32) a1 S) (fun (r4 : Int32) (S1 : AS) => (if r4 = (0 : Int32) then some ((Int32.ofInt (-1)), S1) else (f_X9_titlesOf 0 a1 S1).bind (fun (r9 : Int32) => some (r9, S1))))
set_option maxRecDepth 100000 in
theorem t_X11_title {l : Launch} {a1 : Int32} {S Z : AS} {r : Int32} (h : f_X11_title a1 S = some (r, Z)) : ax_M l 7 ma_X11_title [.inr (11, 0), .inl (.int a1)] S (some (.inl (.int r))) Z := by
  unfold f_X11_title at h
  show ax_T l 7 ma_X11_title (0, [some (.inr (11, 0)), some (.inl (.int a1))], [], S) (some (.inl (.int r))) Z
  refine ax_Tgo [.aload_n 0, .iconst 1, .iload_n 1] (pc' := 3) (L' := [some (.inr (11, 0)), some (.inl (.int a1))]) (st' := [.inl (.int a1), .inl (.int (1 : Int32)), .inr (11, 0)]) (S' := S) ok_X11_title.1 (by decide +kernel) rfl rfl ?_
  obtain ⟨r4, S1, hq2, h⟩ := ax_bu_e h
  refine ax_TVi (d := 6) (ka := 11) (i := 0) [.inl (.int (1 : Int32)), .inl (.int a1)] [] lk_X11_209 (by decide +kernel) rfl (by decide) rfl (Nat.le_of_ble_eq_true rfl) (Nat.le_of_ble_eq_true rfl) ((t_X11_act hq2).up (by decide)) ?_
  refine ax_Tif_eq (off := 14) (tgt := 20) (by decide +kernel) (by decide) (fun c5 => ?_) (fun c5 => ?_)
  · rw [if_pos c5] at h
    refine ax_Tgo [.iconst (-1)] (pc' := 21) (L' := [some (.inr (11, 0)), some (.inl (.int a1))]) (st' := [.inl (.int (Int32.ofInt (-1)))]) (S' := S1) ok_X11_title.1 (by decide +kernel) rfl rfl ?_
    cases h
    exact ax_Treti (by decide +kernel) rfl rfl
  · rw [if_neg c5] at h
    refine ax_Tgo [.aload_n 0, .getfield 69, .iload_n 1] (pc' := 14) (L' := [some (.inr (11, 0)), some (.inl (.int a1))]) (st' := [.inl (.int a1), .inr (9, 0)]) (S' := S1) ok_X11_title.1 (by decide +kernel) rfl rfl ?_
    obtain ⟨r9, hq7, h⟩ := ax_bd_e h
    refine ax_TVi (d := 6) (ka := 9) (i := 0) [.inl (.int a1)] [] lk_X11_189 (by decide +kernel) rfl (by decide) rfl (Nat.le_of_ble_eq_true rfl) (Nat.le_of_ble_eq_true rfl) ((t_X9_titlesOf hq7).up (by decide)) ?_
    refine ax_Tgoto (off := 4) (tgt := 21) (by decide +kernel) (by decide) ?_
    cases h
    exact ax_Treti (by decide +kernel) rfl rfl
def f_X9_loadFrom_33x0 (i0 : Nat) (a2 : Int32) (S : AS) : Option (AS) := (if a2 < (0 : Int32) then some S else (if (a2 + (18 : Int32)) ≤ (Int32.ofNat 720) then ax_gd (ax_in a2 720) (ax_let (ax_sfi S 9 i0 0 (ax_ai S 33 0 a2.toNatClampNeg)) (fun (S4 : AS) => ax_gd (ax_in (a2 + (1 : Int32)) 720) (ax_let (ax_sfi S4 9 i0 1 (ax_ai S4 33 0 (a2 + (1 : Int32)).toNatClampNeg)) (fun (S6 : AS) => ax_gd (ax_in (a2 + (2 : Int32)) 720) (ax_let (ax_sfi S6 9 i0 2 (ax_ai S6 33 0 (a2 + (2 : Int32)).toNatClampNeg)) (fun (S8 : AS) => ax_gd (ax_in (a2 + (3 : Int32)) 720) (ax_let (ax_sfi S8 9 i0 3 (ax_ai S8 33 0 (a2 + (3 : Int32)).toNatClampNeg)) (fun (S10 : AS) => ax_gd (ax_in (a2 + (4 : Int32)) 720) (ax_let (ax_sfi S10 9 i0 4 (ax_ai S10 33 0 (a2 + (4 : Int32)).toNatClampNeg)) (fun (S12 : AS) => ax_gd (ax_in (a2 + (5 : Int32)) 720) (ax_let (ax_sfi S12 9 i0 5 (ax_ai S12 33 0 (a2 + (5 : Int32)).toNatClampNeg)) (fun (S14 : AS) => ax_gd (ax_in (a2 + (6 : Int32)) 720) (ax_let (ax_sfi S14 9 i0 6 (ax_ai S14 33 0 (a2 + (6 : Int32)).toNatClampNeg)) (fun (S16 : AS) => ax_gd (ax_in (a2 + (7 : Int32)) 720) (ax_let (ax_sfi S16 9 i0 7 (ax_ai S16 33 0 (a2 + (7 : Int32)).toNatClampNeg)) (fun (S18 : AS) => ax_gd (!decide ((a2 + (8 : Int32)) < 0) && !decide ((0 : Int32) < 0) && !decide ((4 : Int32) < 0) && decide ((a2 + (8 : Int32)).toNatClampNeg + (4 : Int32).toNatClampNeg ≤ ax_ln S18 33 0) && decide ((0 : Int32).toNatClampNeg + (4 : Int32).toNatClampNeg ≤ ax_ln S18 38 i0)) (ax_let (ax_cpy S18 38 i0 (ax_rd S18 33 0) (a2 + (8 : Int32)).toNatClampNeg (0 : Int32).toNatClampNeg (4 : Int32).toNatClampNeg) (fun (S20 : AS) => ax_gd (!decide ((a2 + (12 : Int32)) < 0) && !decide ((0 : Int32) < 0) && !decide ((6 : Int32) < 0) && decide ((a2 + (12 : Int32)).toNatClampNeg + (6 : Int32).toNatClampNeg ≤ ax_ln S20 33 0) && decide ((0 : Int32).toNatClampNeg + (6 : Int32).toNatClampNeg ≤ ax_ln S20 39 i0)) (ax_let (ax_cpy S20 39 i0 (ax_rd S20 33 0) (a2 + (12 : Int32)).toNatClampNeg (0 : Int32).toNatClampNeg (6 : Int32).toNatClampNeg) (fun (S22 : AS) => some S22)))))))))))))))))))) else some S))
set_option maxRecDepth 100000 in
theorem t_X9_loadFrom_33x0 {l : Launch} {i0 : Nat} {a2 : Int32} {S Z : AS} (h : f_X9_loadFrom_33x0 i0 a2 S = some Z) : ax_M l 1 ma_X9_loadFrom [.inr (9, i0), .inr (33, 0), .inl (.int a2)] S none Z := by
  unfold f_X9_loadFrom_33x0 at h
  show ax_T l 1 ma_X9_loadFrom (0, [some (.inr (9, i0)), some (.inr (33, 0)), some (.inl (.int a2))], [], S) none Z
  refine ax_Tgo [.iload_n 2] (pc' := 1) (L' := [some (.inr (9, i0)), some (.inr (33, 0)), some (.inl (.int a2))]) (st' := [.inl (.int a2)]) (S' := S) ok_X9_loadFrom.1 (by decide +kernel) rfl rfl ?_
  refine ax_Tif_lt (off := 12) (tgt := 13) (by decide +kernel) (by decide) (fun c1 => ?_) (fun c1 => ?_)
  · rw [if_pos c1] at h
    cases h
    exact ax_Tretv (by decide +kernel) rfl
  · rw [if_neg c1] at h
    refine ax_Tgo [.iload_n 2, .bipush 18, .iadd, .aload_n 1, .arraylength] (pc' := 10) (L' := [some (.inr (9, i0)), some (.inr (33, 0)), some (.inl (.int a2))]) (st' := [.inl (.int (Int32.ofNat 720)), .inl (.int (a2 + (18 : Int32)))]) (S' := S) ok_X9_loadFrom.1 (by decide +kernel) rfl rfl ?_
    refine ax_Tic_le (off := 4) (tgt := 14) (by decide +kernel) (by decide) (fun c2 => ?_) (fun c2 => ?_)
    · rw [if_pos c2] at h
      refine ax_Tgo [.aload_n 0, .aload_n 1, .iload_n 2] (pc' := 17) (L' := [some (.inr (9, i0)), some (.inr (33, 0)), some (.inl (.int a2))]) (st' := [.inl (.int a2), .inr (33, 0), .inr (9, i0)]) (S' := S) ok_X9_loadFrom.1 (by decide +kernel) rfl rfl ?_
      obtain ⟨g3, h⟩ := ax_gd_e h
      refine ax_Tali (n := 720) ok_X9_loadFrom.1 (by decide +kernel) (by decide) rfl g3 ?_
      refine ax_Tgo [.putfield 11] (pc' := 21) (L' := [some (.inr (9, i0)), some (.inr (33, 0)), some (.inl (.int a2))]) (st' := []) (S' := (ax_sfi S 9 i0 0 (ax_ai S 33 0 a2.toNatClampNeg))) ok_X9_loadFrom.1 (by decide +kernel) rfl rfl ?_
      obtain ⟨S4, eS4, h⟩ := ax_let_e h
      rw [eS4]
      refine ax_Tgo [.aload_n 0, .aload_n 1, .iload_n 2, .iconst 1, .iadd] (pc' := 26) (L' := [some (.inr (9, i0)), some (.inr (33, 0)), some (.inl (.int a2))]) (st' := [.inl (.int (a2 + (1 : Int32))), .inr (33, 0), .inr (9, i0)]) (S' := S4) ok_X9_loadFrom.1 (by decide +kernel) rfl rfl ?_
      obtain ⟨g5, h⟩ := ax_gd_e h
      refine ax_Tali (n := 720) ok_X9_loadFrom.1 (by decide +kernel) (by decide) rfl g5 ?_
      refine ax_Tgo [.putfield 15] (pc' := 30) (L' := [some (.inr (9, i0)), some (.inr (33, 0)), some (.inl (.int a2))]) (st' := []) (S' := (ax_sfi S4 9 i0 1 (ax_ai S4 33 0 (a2 + (1 : Int32)).toNatClampNeg))) ok_X9_loadFrom.1 (by decide +kernel) rfl rfl ?_
      obtain ⟨S6, eS6, h⟩ := ax_let_e h
      rw [eS6]
      refine ax_Tgo [.aload_n 0, .aload_n 1, .iload_n 2, .iconst 2, .iadd] (pc' := 35) (L' := [some (.inr (9, i0)), some (.inr (33, 0)), some (.inl (.int a2))]) (st' := [.inl (.int (a2 + (2 : Int32))), .inr (33, 0), .inr (9, i0)]) (S' := S6) ok_X9_loadFrom.1 (by decide +kernel) rfl rfl ?_
      obtain ⟨g7, h⟩ := ax_gd_e h
      refine ax_Tali (n := 720) ok_X9_loadFrom.1 (by decide +kernel) (by decide) rfl g7 ?_
      refine ax_Tgo [.putfield 18] (pc' := 39) (L' := [some (.inr (9, i0)), some (.inr (33, 0)), some (.inl (.int a2))]) (st' := []) (S' := (ax_sfi S6 9 i0 2 (ax_ai S6 33 0 (a2 + (2 : Int32)).toNatClampNeg))) ok_X9_loadFrom.1 (by decide +kernel) rfl rfl ?_
      obtain ⟨S8, eS8, h⟩ := ax_let_e h
      rw [eS8]
      refine ax_Tgo [.aload_n 0, .aload_n 1, .iload_n 2, .iconst 3, .iadd] (pc' := 44) (L' := [some (.inr (9, i0)), some (.inr (33, 0)), some (.inl (.int a2))]) (st' := [.inl (.int (a2 + (3 : Int32))), .inr (33, 0), .inr (9, i0)]) (S' := S8) ok_X9_loadFrom.1 (by decide +kernel) rfl rfl ?_
      obtain ⟨g9, h⟩ := ax_gd_e h
      refine ax_Tali (n := 720) ok_X9_loadFrom.1 (by decide +kernel) (by decide) rfl g9 ?_
      refine ax_Tgo [.putfield 21] (pc' := 48) (L' := [some (.inr (9, i0)), some (.inr (33, 0)), some (.inl (.int a2))]) (st' := []) (S' := (ax_sfi S8 9 i0 3 (ax_ai S8 33 0 (a2 + (3 : Int32)).toNatClampNeg))) ok_X9_loadFrom.1 (by decide +kernel) rfl rfl ?_
      obtain ⟨S10, eS10, h⟩ := ax_let_e h
      rw [eS10]
      refine ax_Tgo [.aload_n 0, .aload_n 1, .iload_n 2, .iconst 4, .iadd] (pc' := 53) (L' := [some (.inr (9, i0)), some (.inr (33, 0)), some (.inl (.int a2))]) (st' := [.inl (.int (a2 + (4 : Int32))), .inr (33, 0), .inr (9, i0)]) (S' := S10) ok_X9_loadFrom.1 (by decide +kernel) rfl rfl ?_
      obtain ⟨g11, h⟩ := ax_gd_e h
      refine ax_Tali (n := 720) ok_X9_loadFrom.1 (by decide +kernel) (by decide) rfl g11 ?_
      refine ax_Tgo [.putfield 24] (pc' := 57) (L' := [some (.inr (9, i0)), some (.inr (33, 0)), some (.inl (.int a2))]) (st' := []) (S' := (ax_sfi S10 9 i0 4 (ax_ai S10 33 0 (a2 + (4 : Int32)).toNatClampNeg))) ok_X9_loadFrom.1 (by decide +kernel) rfl rfl ?_
      obtain ⟨S12, eS12, h⟩ := ax_let_e h
      rw [eS12]
      refine ax_Tgo [.aload_n 0, .aload_n 1, .iload_n 2, .iconst 5, .iadd] (pc' := 62) (L' := [some (.inr (9, i0)), some (.inr (33, 0)), some (.inl (.int a2))]) (st' := [.inl (.int (a2 + (5 : Int32))), .inr (33, 0), .inr (9, i0)]) (S' := S12) ok_X9_loadFrom.1 (by decide +kernel) rfl rfl ?_
      obtain ⟨g13, h⟩ := ax_gd_e h
      refine ax_Tali (n := 720) ok_X9_loadFrom.1 (by decide +kernel) (by decide) rfl g13 ?_
      refine ax_Tgo [.putfield 27] (pc' := 66) (L' := [some (.inr (9, i0)), some (.inr (33, 0)), some (.inl (.int a2))]) (st' := []) (S' := (ax_sfi S12 9 i0 5 (ax_ai S12 33 0 (a2 + (5 : Int32)).toNatClampNeg))) ok_X9_loadFrom.1 (by decide +kernel) rfl rfl ?_
      obtain ⟨S14, eS14, h⟩ := ax_let_e h
      rw [eS14]
      refine ax_Tgo [.aload_n 0, .aload_n 1, .iload_n 2, .bipush 6, .iadd] (pc' := 72) (L' := [some (.inr (9, i0)), some (.inr (33, 0)), some (.inl (.int a2))]) (st' := [.inl (.int (a2 + (6 : Int32))), .inr (33, 0), .inr (9, i0)]) (S' := S14) ok_X9_loadFrom.1 (by decide +kernel) rfl rfl ?_
      obtain ⟨g15, h⟩ := ax_gd_e h
      refine ax_Tali (n := 720) ok_X9_loadFrom.1 (by decide +kernel) (by decide) rfl g15 ?_
      refine ax_Tgo [.putfield 30] (pc' := 76) (L' := [some (.inr (9, i0)), some (.inr (33, 0)), some (.inl (.int a2))]) (st' := []) (S' := (ax_sfi S14 9 i0 6 (ax_ai S14 33 0 (a2 + (6 : Int32)).toNatClampNeg))) ok_X9_loadFrom.1 (by decide +kernel) rfl rfl ?_
      obtain ⟨S16, eS16, h⟩ := ax_let_e h
      rw [eS16]
      refine ax_Tgo [.aload_n 0, .aload_n 1, .iload_n 2, .bipush 7, .iadd] (pc' := 82) (L' := [some (.inr (9, i0)), some (.inr (33, 0)), some (.inl (.int a2))]) (st' := [.inl (.int (a2 + (7 : Int32))), .inr (33, 0), .inr (9, i0)]) (S' := S16) ok_X9_loadFrom.1 (by decide +kernel) rfl rfl ?_
      obtain ⟨g17, h⟩ := ax_gd_e h
      refine ax_Tali (n := 720) ok_X9_loadFrom.1 (by decide +kernel) (by decide) rfl g17 ?_
      refine ax_Tgo [.putfield 33] (pc' := 86) (L' := [some (.inr (9, i0)), some (.inr (33, 0)), some (.inl (.int a2))]) (st' := []) (S' := (ax_sfi S16 9 i0 7 (ax_ai S16 33 0 (a2 + (7 : Int32)).toNatClampNeg))) ok_X9_loadFrom.1 (by decide +kernel) rfl rfl ?_
      obtain ⟨S18, eS18, h⟩ := ax_let_e h
      rw [eS18]
      refine ax_Tgo [.aload_n 1, .iload_n 2, .bipush 8, .iadd, .aload_n 0, .getfield 36, .iconst 0, .iconst 4] (pc' := 97) (L' := [some (.inr (9, i0)), some (.inr (33, 0)), some (.inl (.int a2))]) (st' := [.inl (.int (4 : Int32)), .inl (.int (0 : Int32)), .inr (38, i0), .inl (.int (a2 + (8 : Int32))), .inr (33, 0)]) (S' := S18) ok_X9_loadFrom.1 (by decide +kernel) rfl rfl ?_
      obtain ⟨g19, h⟩ := ax_gd_e h
      refine ax_Tacopy (d := 0) (by decide +kernel) lkc_X9_55 (by decide) (by decide) g19 (Nat.le_of_ble_eq_true rfl) ?_
      obtain ⟨S20, eS20, h⟩ := ax_let_e h
      rw [eS20]
      refine ax_Tgo [.aload_n 1, .iload_n 2, .bipush 12, .iadd, .aload_n 0, .getfield 40, .iconst 0, .bipush 6] (pc' := 112) (L' := [some (.inr (9, i0)), some (.inr (33, 0)), some (.inl (.int a2))]) (st' := [.inl (.int (6 : Int32)), .inl (.int (0 : Int32)), .inr (39, i0), .inl (.int (a2 + (12 : Int32))), .inr (33, 0)]) (S' := S20) ok_X9_loadFrom.1 (by decide +kernel) rfl rfl ?_
      obtain ⟨g21, h⟩ := ax_gd_e h
      refine ax_Tacopy (d := 0) (by decide +kernel) lkc_X9_55 (by decide) (by decide) g21 (Nat.le_of_ble_eq_true rfl) ?_
      obtain ⟨S22, eS22, h⟩ := ax_let_e h
      rw [eS22]
      cases h
      exact ax_Tretv (by decide +kernel) rfl
    · rw [if_neg c2] at h
      cases h
      exact ax_Tretv (by decide +kernel) rfl
def f_X7_bringBack (i1 : Nat) (S : AS) : Option (Int32 × AS) := (if (ax_fi S 7 0 2) = (0 : Int32) then some ((0 : Int32), S) else ax_let (fun (x2 : Int32) (S3 : AS) => ax_let (ax_sfi S3 7 0 1 x2) (fun (S5 : AS) => ax_let (ax_sfi S5 7 0 2 ((ax_fi S5 7 0 2) - (1 : Int32))) (fun (S6 : AS) => (f_X9_loadFrom_33x0 i1 ((ax_fi S6 7 0 1) * (18 : Int32)) S6).bind (fun (S7 : AS) => some ((1 : Int32), S7))))) (fun J4 => (if (ax_fi S 7 0 1) ≤ (0 : Int32) then J4 (39 : Int32) S else J4 ((ax_fi S 7 0 1) - (1 : Int32)) S)))
set_option maxRecDepth 100000 in
theorem t_X7_bringBack {l : Launch} {i1 : Nat} {S Z : AS} {r : Int32} (h : f_X7_bringBack i1 S = some (r, Z)) : ax_M l 2 ma_X7_bringBack [.inr (7, 0), .inr (9, i1)] S (some (.inl (.int r))) Z := by
  unfold f_X7_bringBack at h
  show ax_T l 2 ma_X7_bringBack (0, [some (.inr (7, 0)), some (.inr (9, i1))], [], S) (some (.inl (.int r))) Z
  refine ax_Tgo [.aload_n 0, .getfield 19] (pc' := 4) (L' := [some (.inr (7, 0)), some (.inr (9, i1))]) (st' := [.inl (.int (ax_fi S 7 0 2))]) (S' := S) ok_X7_bringBack.1 (by decide +kernel) rfl rfl ?_
  refine ax_Tif_ne (off := 5) (tgt := 9) (by decide +kernel) (by decide) (fun c1 => ?_) (fun c1 => ?_)
  · rw [if_neg c1] at h
    refine ax_Tgo [.aload_n 0, .aload_n 0, .getfield 15] (pc' := 14) (L' := [some (.inr (7, 0)), some (.inr (9, i1))]) (st' := [.inl (.int (ax_fi S 7 0 1)), .inr (7, 0)]) (S' := S) ok_X7_bringBack.1 (by decide +kernel) rfl rfl ?_
    obtain ⟨J4, eJ4, h⟩ := ax_let_e h
    have hJ4 : ∀ (x2 : Int32) (S3 : AS) r Z, J4 x2 S3 = some (r, Z) → ax_T l 2 ma_X7_bringBack (28, [some (.inr (7, 0)), some (.inr (9, i1))], [.inl (.int x2), .inr (7, 0)], S3) (some (.inl (.int r))) Z := by
      intro x2 S3 r Z h
      rw [← eJ4] at h
      try dsimp only at h
      refine ax_Tgo [.putfield 15] (pc' := 31) (L' := [some (.inr (7, 0)), some (.inr (9, i1))]) (st' := []) (S' := (ax_sfi S3 7 0 1 x2)) ok_X7_bringBack.1 (by decide +kernel) rfl rfl ?_
      obtain ⟨S5, eS5, h⟩ := ax_let_e h
      rw [eS5]
      refine ax_Tgo [.aload_n 0, .dup, .getfield 19, .iconst 1, .isub, .putfield 19] (pc' := 41) (L' := [some (.inr (7, 0)), some (.inr (9, i1))]) (st' := []) (S' := (ax_sfi S5 7 0 2 ((ax_fi S5 7 0 2) - (1 : Int32)))) ok_X7_bringBack.1 (by decide +kernel) rfl rfl ?_
      obtain ⟨S6, eS6, h⟩ := ax_let_e h
      rw [eS6]
      refine ax_Tgo [.aload_n 1, .aload_n 0, .getfield 11, .aload_n 0, .getfield 15, .bipush 18, .imul] (pc' := 53) (L' := [some (.inr (7, 0)), some (.inr (9, i1))]) (st' := [.inl (.int ((ax_fi S6 7 0 1) * (18 : Int32))), .inr (33, 0), .inr (9, i1)]) (S' := S6) ok_X7_bringBack.1 (by decide +kernel) rfl rfl ?_
      obtain ⟨S7, hq8, h⟩ := ax_bd_e h
      refine ax_TVv (d := 1) (ka := 9) (i := i1) [.inr (33, 0), .inl (.int ((ax_fi S6 7 0 1) * (18 : Int32)))] [] lk_X7_32 (by decide +kernel) rfl (by decide) rfl (Nat.le_of_ble_eq_true rfl) (Nat.le_of_ble_eq_true rfl) ((t_X9_loadFrom_33x0 hq8).up (by decide)) ?_
      refine ax_Tgo [.iconst 1] (pc' := 57) (L' := [some (.inr (7, 0)), some (.inr (9, i1))]) (st' := [.inl (.int (1 : Int32))]) (S' := S7) ok_X7_bringBack.1 (by decide +kernel) rfl rfl ?_
      cases h
      exact ax_Treti (by decide +kernel) rfl rfl
    refine ax_Tif_le (off := 12) (tgt := 26) (by decide +kernel) (by decide) (fun c10 => ?_) (fun c10 => ?_)
    · rw [if_pos c10] at h
      refine ax_Tgo [.bipush 39] (pc' := 28) (L' := [some (.inr (7, 0)), some (.inr (9, i1))]) (st' := [.inl (.int (39 : Int32)), .inr (7, 0)]) (S' := S) ok_X7_bringBack.1 (by decide +kernel) rfl rfl ?_
      exact hJ4 (39 : Int32) S _ _ h
    · rw [if_neg c10] at h
      refine ax_Tgo [.aload_n 0, .getfield 15, .iconst 1, .isub] (pc' := 23) (L' := [some (.inr (7, 0)), some (.inr (9, i1))]) (st' := [.inl (.int ((ax_fi S 7 0 1) - (1 : Int32))), .inr (7, 0)]) (S' := S) ok_X7_bringBack.1 (by decide +kernel) rfl rfl ?_
      refine ax_Tgoto (off := 5) (tgt := 28) (by decide +kernel) (by decide) ?_
      exact hJ4 ((ax_fi S 7 0 1) - (1 : Int32)) S _ _ h
  · rw [if_pos c1] at h
    refine ax_Tgo [.iconst 0] (pc' := 8) (L' := [some (.inr (7, 0)), some (.inr (9, i1))]) (st' := [.inl (.int (0 : Int32))]) (S' := S) ok_X7_bringBack.1 (by decide +kernel) rfl rfl ?_
    cases h
    exact ax_Treti (by decide +kernel) rfl rfl
def f_X11_undo (S : AS) : Option (Int32 × AS) := ax_bu (f_X7_bringBack 0 S) (fun (r4 : Int32) (S1 : AS) => (if r4 = (0 : Int32) then some ((Int32.ofInt (-1)), S1) else some ((ax_fi S1 7 0 2), S1)))
set_option maxRecDepth 100000 in
theorem t_X11_undo {l : Launch} {S Z : AS} {r : Int32} (h : f_X11_undo S = some (r, Z)) : ax_M l 3 ma_X11_undo [.inr (11, 0)] S (some (.inl (.int r))) Z := by
  unfold f_X11_undo at h
  show ax_T l 3 ma_X11_undo (0, [some (.inr (11, 0))], [], S) (some (.inl (.int r))) Z
  refine ax_Tgo [.aload_n 0, .getfield 38, .aload_n 0, .getfield 69] (pc' := 8) (L' := [some (.inr (11, 0))]) (st' := [.inr (9, 0), .inr (7, 0)]) (S' := S) ok_X11_undo.1 (by decide +kernel) rfl rfl ?_
  obtain ⟨r4, S1, hq2, h⟩ := ax_bu_e h
  refine ax_TVi (d := 2) (ka := 7) (i := 0) [.inr (9, 0)] [] lk_X11_232 (by decide +kernel) rfl (by decide) rfl (Nat.le_of_ble_eq_true rfl) (Nat.le_of_ble_eq_true rfl) ((t_X7_bringBack hq2).up (by decide)) ?_
  refine ax_Tif_eq (off := 13) (tgt := 24) (by decide +kernel) (by decide) (fun c5 => ?_) (fun c5 => ?_)
  · rw [if_pos c5] at h
    refine ax_Tgo [.iconst (-1)] (pc' := 25) (L' := [some (.inr (11, 0))]) (st' := [.inl (.int (Int32.ofInt (-1)))]) (S' := S1) ok_X11_undo.1 (by decide +kernel) rfl rfl ?_
    cases h
    exact ax_Treti (by decide +kernel) rfl rfl
  · rw [if_neg c5] at h
    refine ax_Tgo [.aload_n 0, .getfield 38] (pc' := 18) (L' := [some (.inr (11, 0))]) (st' := [.inr (7, 0)]) (S' := S1) ok_X11_undo.1 (by decide +kernel) rfl rfl ?_
    refine ax_TVi (d := 2) (ka := 7) (i := 0) [] [] lk_X11_236 (by decide +kernel) rfl (by decide) rfl (Nat.le_of_ble_eq_true rfl) (Nat.le_of_ble_eq_true rfl) ((t_X7_size rfl).up (by decide)) ?_
    refine ax_Tgoto (off := 4) (tgt := 25) (by decide +kernel) (by decide) ?_
    cases h
    exact ax_Treti (by decide +kernel) rfl rfl
def f_X11_whim (a1 : Int32) (S : AS) : Option (Int32 × AS) := (if a1 < (0 : Int32) then some ((0 : Int32), S) else (if (9 : Int32) < a1 then some ((0 : Int32), S) else (if a1 = (ax_fi S 1 0 2) then some ((0 : Int32), S) else ax_let (ax_sfi S 1 0 2 a1) (fun (S4 : AS) => some ((1 : Int32), S4)))))
set_option maxRecDepth 100000 in
theorem t_X11_whim {l : Launch} {a1 : Int32} {S Z : AS} {r : Int32} (h : f_X11_whim a1 S = some (r, Z)) : ax_M l 0 ma_X11_whim [.inr (11, 0), .inl (.int a1)] S (some (.inl (.int r))) Z := by
  unfold f_X11_whim at h
  show ax_T l 0 ma_X11_whim (0, [some (.inr (11, 0)), some (.inl (.int a1))], [], S) (some (.inl (.int r))) Z
  refine ax_Tgo [.iload_n 1] (pc' := 1) (L' := [some (.inr (11, 0)), some (.inl (.int a1))]) (st' := [.inl (.int a1)]) (S' := S) ok_X11_whim.1 (by decide +kernel) rfl rfl ?_
  refine ax_Tif_lt (off := 20) (tgt := 21) (by decide +kernel) (by decide) (fun c1 => ?_) (fun c1 => ?_)
  · rw [if_pos c1] at h
    refine ax_Tgo [.iconst 0] (pc' := 22) (L' := [some (.inr (11, 0)), some (.inl (.int a1))]) (st' := [.inl (.int (0 : Int32))]) (S' := S) ok_X11_whim.1 (by decide +kernel) rfl rfl ?_
    cases h
    exact ax_Treti (by decide +kernel) rfl rfl
  · rw [if_neg c1] at h
    refine ax_Tgo [.iload_n 1, .bipush 9] (pc' := 7) (L' := [some (.inr (11, 0)), some (.inl (.int a1))]) (st' := [.inl (.int (9 : Int32)), .inl (.int a1)]) (S' := S) ok_X11_whim.1 (by decide +kernel) rfl rfl ?_
    refine ax_Tic_gt (off := 14) (tgt := 21) (by decide +kernel) (by decide) (fun c2 => ?_) (fun c2 => ?_)
    · rw [if_pos c2] at h
      refine ax_Tgo [.iconst 0] (pc' := 22) (L' := [some (.inr (11, 0)), some (.inl (.int a1))]) (st' := [.inl (.int (0 : Int32))]) (S' := S) ok_X11_whim.1 (by decide +kernel) rfl rfl ?_
      cases h
      exact ax_Treti (by decide +kernel) rfl rfl
    · rw [if_neg c2] at h
      refine ax_Tgo [.iload_n 1, .aload_n 0, .getfield 82, .getfield 203] (pc' := 18) (L' := [some (.inr (11, 0)), some (.inl (.int a1))]) (st' := [.inl (.int (ax_fi S 1 0 2)), .inl (.int a1)]) (S' := S) ok_X11_whim.1 (by decide +kernel) rfl rfl ?_
      refine ax_Tic_ne (off := 5) (tgt := 23) (by decide +kernel) (by decide) (fun c3 => ?_) (fun c3 => ?_)
      · rw [if_neg c3] at h
        refine ax_Tgo [.aload_n 0, .getfield 82, .iload_n 1, .putfield 203] (pc' := 31) (L' := [some (.inr (11, 0)), some (.inl (.int a1))]) (st' := []) (S' := (ax_sfi S 1 0 2 a1)) ok_X11_whim.1 (by decide +kernel) rfl rfl ?_
        obtain ⟨S4, eS4, h⟩ := ax_let_e h
        rw [eS4]
        refine ax_Tgo [.iconst 1] (pc' := 32) (L' := [some (.inr (11, 0)), some (.inl (.int a1))]) (st' := [.inl (.int (1 : Int32))]) (S' := S4) ok_X11_whim.1 (by decide +kernel) rfl rfl ?_
        cases h
        exact ax_Treti (by decide +kernel) rfl rfl
      · rw [if_pos c3] at h
        refine ax_Tgo [.iconst 0] (pc' := 22) (L' := [some (.inr (11, 0)), some (.inl (.int a1))]) (st' := [.inl (.int (0 : Int32))]) (S' := S) ok_X11_whim.1 (by decide +kernel) rfl rfl ?_
        cases h
        exact ax_Treti (by decide +kernel) rfl rfl
def f_X11_whose_L14 (S : AS) (K50 : Int32 → Option (Int32)) : Nat → Int32 → Int32 → Int32 → Option (Int32)
  | 0, _, _, _ => none
  | n + 1, x6, x7, x8 => (if (ax_fi S 4 (ax_fx S 11 0 14) 5) ≤ x8 then K50 x7 else (f_X4_traitOf (ax_fx S 11 0 14) x8 (5 : Int32) S).bind (fun (r17 : Int32) => (if r17 = x6 then ax_let (x7 ||| ((1 : Int32) <<< (x8 &&& 31))) (fun (v20 : Int32) => ax_let (x8 + (1 : Int32)) (fun (v21 : Int32) => f_X11_whose_L14 S K50 n x6 v20 v21)) else ax_let (x8 + (1 : Int32)) (fun (v19 : Int32) => f_X11_whose_L14 S K50 n x6 x7 v19))))
def f_X11_whose (a1 : Int32) (S : AS) : Option (Int32) := (f_X11_noSuchLodger a1 S).bind (fun (r4 : Int32) => (if r4 = (0 : Int32) then f_X11_whose_L14 S (fun (x9 : Int32)  => some x9) ax_F a1 (0 : Int32) (0 : Int32) else some (Int32.ofInt (-1))))
set_option maxRecDepth 100000 in
theorem t_X11_whose_L14 {l : Launch} {S : AS} {K50 : Int32 → Option (Int32)} (hK50 : ∀ (x9 : Int32) r, K50 x9  = some r → ax_T l 2 ma_X11_whose (50, [none, none, some (.inl (.int x9)), none], [], S) (some (.inl (.int r))) S) : ∀ (n : Nat) (x6 : Int32) (x7 : Int32) (x8 : Int32) r, f_X11_whose_L14 S K50 n x6 x7 x8  = some r → ax_T l 2 ma_X11_whose (14, [some (.inr (11, 0)), some (.inl (.int x6)), some (.inl (.int x7)), some (.inl (.int x8))], [], S) (some (.inl (.int r))) S := by
  intro n
  induction n with
  | zero =>
    intro x6 x7 x8  r h
    cases h
  | succ n ih =>
    intro x6 x7 x8  r h
    unfold f_X11_whose_L14 at h
    refine ax_Tgo [.iload_n 3, .aload_n 0, .getfield 93] (pc' := 19) (L' := [some (.inr (11, 0)), some (.inl (.int x6)), some (.inl (.int x7)), some (.inl (.int x8))]) (st' := [.inr (4, (ax_fx S 11 0 14)), .inl (.int x8)]) (S' := S) ok_X11_whose.1 (by decide +kernel) rfl rfl ?_
    refine ax_TVi (d := 1) (ka := 4) (i := (ax_fx S 11 0 14)) [] [.inl (.int x8)] lk_X11_147 (by decide +kernel) rfl (by decide) rfl (Nat.le_of_ble_eq_true rfl) (Nat.le_of_ble_eq_true rfl) ((t_X4_callers rfl).up (by decide)) ?_
    refine ax_Tic_ge (off := 28) (tgt := 50) (by decide +kernel) (by decide) (fun c13 => ?_) (fun c13 => ?_)
    · rw [if_pos c13] at h
      refine ax_Tdrop [false, false, true, false] (L' := [none, none, some (.inl (.int x7)), none]) rfl ?_
      exact hK50 x7 _ h
    · rw [if_neg c13] at h
      refine ax_Tgo [.aload_n 0, .getfield 93, .iload_n 3, .iconst 5] (pc' := 31) (L' := [some (.inr (11, 0)), some (.inl (.int x6)), some (.inl (.int x7)), some (.inl (.int x8))]) (st' := [.inl (.int (5 : Int32)), .inl (.int x8), .inr (4, (ax_fx S 11 0 14))]) (S' := S) ok_X11_whose.1 (by decide +kernel) rfl rfl ?_
      obtain ⟨r17, hq15, h⟩ := ax_bd_e h
      refine ax_TVi (d := 1) (ka := 4) (i := (ax_fx S 11 0 14)) [.inl (.int x8), .inl (.int (5 : Int32))] [] lk_X11_195 (by decide +kernel) rfl (by decide) rfl (Nat.le_of_ble_eq_true rfl) (Nat.le_of_ble_eq_true rfl) ((t_X4_traitOf hq15).up (by decide)) ?_
      refine ax_Tgo [.iload_n 1] (pc' := 35) (L' := [some (.inr (11, 0)), some (.inl (.int x6)), some (.inl (.int x7)), some (.inl (.int x8))]) (st' := [.inl (.int x6), .inl (.int r17)]) (S' := S) ok_X11_whose.1 (by decide +kernel) rfl rfl ?_
      refine ax_Tic_ne (off := 9) (tgt := 44) (by decide +kernel) (by decide) (fun c18 => ?_) (fun c18 => ?_)
      · rw [if_neg c18] at h
        refine ax_Tgo [.iinc 3 1] (pc' := 47) (L' := [some (.inr (11, 0)), some (.inl (.int x6)), some (.inl (.int x7)), some (.inl (.int (x8 + (1 : Int32))))]) (st' := []) (S' := S) ok_X11_whose.1 (by decide +kernel) rfl rfl ?_
        obtain ⟨v19, ev19, h⟩ := ax_let_e h
        rw [ev19]
        refine ax_Tgoto (off := (-33)) (tgt := 14) (by decide +kernel) (by decide) ?_
        exact ih x6 x7 v19 _ h
      · rw [if_pos c18] at h
        refine ax_Tgo [.iload_n 2, .iconst 1, .iload_n 3, .ishl, .ior, .istore_n 2] (pc' := 44) (L' := [some (.inr (11, 0)), some (.inl (.int x6)), some (.inl (.int (x7 ||| ((1 : Int32) <<< (x8 &&& 31))))), some (.inl (.int x8))]) (st' := []) (S' := S) ok_X11_whose.1 (by decide +kernel) rfl rfl ?_
        obtain ⟨v20, ev20, h⟩ := ax_let_e h
        rw [ev20]
        refine ax_Tgo [.iinc 3 1] (pc' := 47) (L' := [some (.inr (11, 0)), some (.inl (.int x6)), some (.inl (.int v20)), some (.inl (.int (x8 + (1 : Int32))))]) (st' := []) (S' := S) ok_X11_whose.1 (by decide +kernel) rfl rfl ?_
        obtain ⟨v21, ev21, h⟩ := ax_let_e h
        rw [ev21]
        refine ax_Tgoto (off := (-33)) (tgt := 14) (by decide +kernel) (by decide) ?_
        exact ih x6 v20 v21 _ h
set_option maxRecDepth 100000 in
theorem t_X11_whose {l : Launch} {a1 : Int32} {S : AS} {r : Int32} (h : f_X11_whose a1 S = some r) : ax_M l 2 ma_X11_whose [.inr (11, 0), .inl (.int a1)] S (some (.inl (.int r))) S := by
  unfold f_X11_whose at h
  show ax_T l 2 ma_X11_whose (0, [some (.inr (11, 0)), some (.inl (.int a1)), none, none], [], S) (some (.inl (.int r))) S
  refine ax_Tgo [.aload_n 0, .iload_n 1] (pc' := 2) (L' := [some (.inr (11, 0)), some (.inl (.int a1)), none, none]) (st' := [.inl (.int a1), .inr (11, 0)]) (S' := S) ok_X11_whose.1 (by decide +kernel) rfl rfl ?_
  obtain ⟨r4, hq2, h⟩ := ax_bd_e h
  refine ax_TVi (d := 1) (ka := 11) (i := 0) [.inl (.int a1)] [] lk_X11_171 (by decide +kernel) rfl (by decide) rfl (Nat.le_of_ble_eq_true rfl) (Nat.le_of_ble_eq_true rfl) ((t_X11_noSuchLodger hq2).up (by decide)) ?_
  refine ax_Tif_eq (off := 5) (tgt := 10) (by decide +kernel) (by decide) (fun c5 => ?_) (fun c5 => ?_)
  · rw [if_pos c5] at h
    refine ax_Tgo [.iconst 0, .istore_n 2, .iconst 0, .istore_n 3] (pc' := 14) (L' := [some (.inr (11, 0)), some (.inl (.int a1)), some (.inl (.int (0 : Int32))), some (.inl (.int (0 : Int32)))]) (st' := []) (S' := S) ok_X11_whose.1 (by decide +kernel) rfl rfl ?_
    refine t_X11_whose_L14 ?_ _ a1 (0 : Int32) (0 : Int32) _ h
    · intro x9  r h
      refine ax_Tgo [.iload_n 2] (pc' := 51) (L' := [none, none, some (.inl (.int x9)), none]) (st' := [.inl (.int x9)]) (S' := S) ok_X11_whose.1 (by decide +kernel) rfl rfl ?_
      cases h
      exact ax_Treti (by decide +kernel) rfl rfl
  · rw [if_neg c5] at h
    refine ax_Tgo [.iconst (-1)] (pc' := 9) (L' := [some (.inr (11, 0)), some (.inl (.int a1)), none, none]) (st' := [.inl (.int (Int32.ofInt (-1)))]) (S' := S) ok_X11_whose.1 (by decide +kernel) rfl rfl ?_
    cases h
    exact ax_Treti (by decide +kernel) rfl rfl
def f_X1_startFrom (a1 : Int64) (S : AS) : Option (AS) := ax_let (ax_sfl S 1 0 1 a1) (fun (S1 : AS) => some S1)
set_option maxRecDepth 100000 in
theorem t_X1_startFrom {l : Launch} {a1 : Int64} {S Z : AS} (h : f_X1_startFrom a1 S = some Z) : ax_M l 0 ma_X1_startFrom [.inr (1, 0), .inl (.long a1)] S none Z := by
  unfold f_X1_startFrom at h
  show ax_T l 0 ma_X1_startFrom (0, [some (.inr (1, 0)), some (.inl (.long a1)), none], [], S) none Z
  refine ax_Tgo [.aload_n 0, .lload_n 1, .putfield 15] (pc' := 5) (L' := [some (.inr (1, 0)), some (.inl (.long a1)), none]) (st' := []) (S' := (ax_sfl S 1 0 1 a1)) ok_X1_startFrom.1 (by decide +kernel) rfl rfl ?_
  obtain ⟨S1, eS1, h⟩ := ax_let_e h
  rw [eS1]
  cases h
  exact ax_Tretv (by decide +kernel) rfl
def f_X11_years_L46 (K62 : AS → Option (Int32 × AS)) : Nat → Int32 → Int32 → AS → Option (Int32 × AS)
  | 0, _, _, _ => none
  | n + 1, x12, x13, S14 => (if x12 ≤ x13 then K62 S14 else (f_X11_liveOneDay S14).bind (fun (S16 : AS) => ax_let (x13 + (1 : Int32)) (fun (v19 : Int32) => f_X11_years_L46 K62 n x12 v19 S16)))
def f_X11_years (a1 : Int32) (a2 : Int64) (S : AS) : Option (Int32 × AS) := (f_X11_noHouse S).bind (fun (r4 : Int32) => (if r4 = (0 : Int32) then (if a1 < (1 : Int32) then some ((Int32.ofInt (-1)), S) else (if (30 : Int32) < a1 then some ((Int32.ofInt (-1)), S) else (if ((ax_fi S 9 0 7) + a1) ≤ (999 : Int32) then (f_X1_startFrom a2 S).bind (fun (S9 : AS) => f_X11_years_L46 (fun (S20 : AS) => some ((ax_fi S20 9 0 7), S20)) ax_F a1 (0 : Int32) S9) else some ((Int32.ofInt (-1)), S)))) else some ((Int32.ofInt (-1)), S)))
set_option maxRecDepth 100000 in
theorem t_X11_years_L46 {l : Launch} {K62 : AS → Option (Int32 × AS)} (hK62 : ∀ (S : AS) r Z, K62 S = some (r, Z) → ax_T l 7 ma_X11_years (62, [some (.inr (11, 0)), none, none, none, none], [], S) (some (.inl (.int r))) Z) : ∀ (n : Nat) (x12 : Int32) (x13 : Int32) (S14 : AS) r Z, f_X11_years_L46 K62 n x12 x13 S14 = some (r, Z) → ax_T l 7 ma_X11_years (46, [some (.inr (11, 0)), some (.inl (.int x12)), none, none, some (.inl (.int x13))], [], S14) (some (.inl (.int r))) Z := by
  intro n
  induction n with
  | zero =>
    intro x12 x13 S14 r Z h
    cases h
  | succ n ih =>
    intro x12 x13 S14 r Z h
    unfold f_X11_years_L46 at h
    refine ax_Tgo [.iload 4, .iload_n 1] (pc' := 49) (L' := [some (.inr (11, 0)), some (.inl (.int x12)), none, none, some (.inl (.int x13))]) (st' := [.inl (.int x12), .inl (.int x13)]) (S' := S14) ok_X11_years.1 (by decide +kernel) rfl rfl ?_
    refine ax_Tic_ge (off := 13) (tgt := 62) (by decide +kernel) (by decide) (fun c15 => ?_) (fun c15 => ?_)
    · rw [if_pos c15] at h
      refine ax_Tdrop [true, false, true, true, false] (L' := [some (.inr (11, 0)), none, none, none, none]) rfl ?_
      exact hK62 S14 _ _ h
    · rw [if_neg c15] at h
      refine ax_Tgo [.aload_n 0] (pc' := 53) (L' := [some (.inr (11, 0)), some (.inl (.int x12)), none, none, some (.inl (.int x13))]) (st' := [.inr (11, 0)]) (S' := S14) ok_X11_years.1 (by decide +kernel) rfl rfl ?_
      obtain ⟨S16, hq17, h⟩ := ax_bd_e h
      refine ax_TVv (d := 6) (ka := 11) (i := 0) [] [] lk_X11_229 (by decide +kernel) rfl (by decide) rfl (Nat.le_of_ble_eq_true rfl) (Nat.le_of_ble_eq_true rfl) ((t_X11_liveOneDay hq17).up (by decide)) ?_
      refine ax_Tgo [.iinc 4 1] (pc' := 59) (L' := [some (.inr (11, 0)), some (.inl (.int x12)), none, none, some (.inl (.int (x13 + (1 : Int32))))]) (st' := []) (S' := S16) ok_X11_years.1 (by decide +kernel) rfl rfl ?_
      obtain ⟨v19, ev19, h⟩ := ax_let_e h
      rw [ev19]
      refine ax_Tgoto (off := (-13)) (tgt := 46) (by decide +kernel) (by decide) ?_
      exact ih x12 v19 S16 _ _ h
set_option maxRecDepth 100000 in
theorem t_X11_years {l : Launch} {a1 : Int32} {a2 : Int64} {S Z : AS} {r : Int32} (h : f_X11_years a1 a2 S = some (r, Z)) : ax_M l 7 ma_X11_years [.inr (11, 0), .inl (.int a1), .inl (.long a2)] S (some (.inl (.int r))) Z := by
  unfold f_X11_years at h
  show ax_T l 7 ma_X11_years (0, [some (.inr (11, 0)), some (.inl (.int a1)), some (.inl (.long a2)), none, none], [], S) (some (.inl (.int r))) Z
  refine ax_Tgo [.aload_n 0] (pc' := 1) (L' := [some (.inr (11, 0)), some (.inl (.int a1)), some (.inl (.long a2)), none, none]) (st' := [.inr (11, 0)]) (S' := S) ok_X11_years.1 (by decide +kernel) rfl rfl ?_
  obtain ⟨r4, hq2, h⟩ := ax_bd_e h
  refine ax_TVi (d := 6) (ka := 11) (i := 0) [] [] lk_X11_161 (by decide +kernel) rfl (by decide) rfl (Nat.le_of_ble_eq_true rfl) (Nat.le_of_ble_eq_true rfl) ((t_X11_noHouse hq2).up (by decide)) ?_
  refine ax_Tif_ne (off := 29) (tgt := 33) (by decide +kernel) (by decide) (fun c5 => ?_) (fun c5 => ?_)
  · rw [if_neg c5] at h
    refine ax_Tgo [.iconst (-1)] (pc' := 34) (L' := [some (.inr (11, 0)), some (.inl (.int a1)), some (.inl (.long a2)), none, none]) (st' := [.inl (.int (Int32.ofInt (-1)))]) (S' := S) ok_X11_years.1 (by decide +kernel) rfl rfl ?_
    cases h
    exact ax_Treti (by decide +kernel) rfl rfl
  · rw [if_pos c5] at h
    refine ax_Tgo [.iload_n 1, .iconst 1] (pc' := 9) (L' := [some (.inr (11, 0)), some (.inl (.int a1)), some (.inl (.long a2)), none, none]) (st' := [.inl (.int (1 : Int32)), .inl (.int a1)]) (S' := S) ok_X11_years.1 (by decide +kernel) rfl rfl ?_
    refine ax_Tic_lt (off := 24) (tgt := 33) (by decide +kernel) (by decide) (fun c6 => ?_) (fun c6 => ?_)
    · rw [if_pos c6] at h
      refine ax_Tgo [.iconst (-1)] (pc' := 34) (L' := [some (.inr (11, 0)), some (.inl (.int a1)), some (.inl (.long a2)), none, none]) (st' := [.inl (.int (Int32.ofInt (-1)))]) (S' := S) ok_X11_years.1 (by decide +kernel) rfl rfl ?_
      cases h
      exact ax_Treti (by decide +kernel) rfl rfl
    · rw [if_neg c6] at h
      refine ax_Tgo [.iload_n 1, .bipush 30] (pc' := 15) (L' := [some (.inr (11, 0)), some (.inl (.int a1)), some (.inl (.long a2)), none, none]) (st' := [.inl (.int (30 : Int32)), .inl (.int a1)]) (S' := S) ok_X11_years.1 (by decide +kernel) rfl rfl ?_
      refine ax_Tic_gt (off := 18) (tgt := 33) (by decide +kernel) (by decide) (fun c7 => ?_) (fun c7 => ?_)
      · rw [if_pos c7] at h
        refine ax_Tgo [.iconst (-1)] (pc' := 34) (L' := [some (.inr (11, 0)), some (.inl (.int a1)), some (.inl (.long a2)), none, none]) (st' := [.inl (.int (Int32.ofInt (-1)))]) (S' := S) ok_X11_years.1 (by decide +kernel) rfl rfl ?_
        cases h
        exact ax_Treti (by decide +kernel) rfl rfl
      · rw [if_neg c7] at h
        refine ax_Tgo [.aload_n 0, .getfield 69, .getfield 222, .iload_n 1, .iadd, .sipush 999] (pc' := 30) (L' := [some (.inr (11, 0)), some (.inl (.int a1)), some (.inl (.long a2)), none, none]) (st' := [.inl (.int (999 : Int32)), .inl (.int ((ax_fi S 9 0 7) + a1))]) (S' := S) ok_X11_years.1 (by decide +kernel) rfl rfl ?_
        refine ax_Tic_le (off := 5) (tgt := 35) (by decide +kernel) (by decide) (fun c8 => ?_) (fun c8 => ?_)
        · rw [if_pos c8] at h
          refine ax_Tgo [.aload_n 0, .getfield 82, .lload_n 2] (pc' := 40) (L' := [some (.inr (11, 0)), some (.inl (.int a1)), some (.inl (.long a2)), none, none]) (st' := [.inl (.long a2), .inr (1, 0)]) (S' := S) ok_X11_years.1 (by decide +kernel) rfl rfl ?_
          obtain ⟨S9, hq10, h⟩ := ax_bd_e h
          refine ax_TVv (d := 6) (ka := 1) (i := 0) [.inl (.long a2)] [] lk_X11_225 (by decide +kernel) rfl (by decide) rfl (Nat.le_of_ble_eq_true rfl) (Nat.le_of_ble_eq_true rfl) ((t_X1_startFrom hq10).up (by decide)) ?_
          refine ax_Tgo [.iconst 0, .istore 4] (pc' := 46) (L' := [some (.inr (11, 0)), some (.inl (.int a1)), some (.inl (.long a2)), none, some (.inl (.int (0 : Int32)))]) (st' := []) (S' := S9) ok_X11_years.1 (by decide +kernel) rfl rfl ?_
          refine ax_Tdrop [true, true, false, true, true] (L' := [some (.inr (11, 0)), some (.inl (.int a1)), none, none, some (.inl (.int (0 : Int32)))]) rfl ?_
          refine t_X11_years_L46 ?_ _ a1 (0 : Int32) S9 _ _ h
          · intro S20 r Z h
            refine ax_Tgo [.aload_n 0, .getfield 69, .getfield 222] (pc' := 69) (L' := [some (.inr (11, 0)), none, none, none, none]) (st' := [.inl (.int (ax_fi S20 9 0 7))]) (S' := S20) ok_X11_years.1 (by decide +kernel) rfl rfl ?_
            cases h
            exact ax_Treti (by decide +kernel) rfl rfl
        · rw [if_neg c8] at h
          refine ax_Tgo [.iconst (-1)] (pc' := 34) (L' := [some (.inr (11, 0)), some (.inl (.int a1)), some (.inl (.long a2)), none, none]) (st' := [.inl (.int (Int32.ofInt (-1)))]) (S' := S) ok_X11_years.1 (by decide +kernel) rfl rfl ?_
          cases h
          exact ax_Treti (by decide +kernel) rfl rfl

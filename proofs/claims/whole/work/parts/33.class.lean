/-! METHODS of the class as functions, by program -/
def f_X11_liveOneDay_L13 (K68 : AS → Option (AS)) : Nat → Int32 → AS → Option (AS)
  | 0, _, _ => none
  | n + 1, x4, S5 => (if (3 : Int32) ≤ x4 then K68 S5 else ax_bu (f_X1_draw (ax_fi S5 4 (ax_fx S5 11 0 14) 5) S5) (fun (r13 : Int32) (S10 : AS) => ax_bu (f_X6_may 0 (0 : Int32) r13 S10) (fun (r17 : Int32) (S14 : AS) => (if r17 = (0 : Int32) then ax_let (x4 + (1 : Int32)) (fun (v19 : Int32) => f_X11_liveOneDay_L13 K68 n v19 S14) else (f_X6_carryOut 0 (0 : Int32) r13 S14).bind (fun (S20 : AS) => ax_let (x4 + (1 : Int32)) (fun (v23 : Int32) => f_X11_liveOneDay_L13 K68 n v23 S20))))))
def f_X11_liveOneDay (S : AS) : Option (AS) := (f_X7_remember 0 S).bind (fun (S1 : AS) => f_X11_liveOneDay_L13 (fun (S24 : AS) => ax_bu (f_X1_draw (10 : Int32) S24) (fun (r28 : Int32) (S25 : AS) => ax_let (fun (S29 : AS) => (f_X2_write 0 0 S29).bind (fun (S31 : AS) => (f_X6_carryOut 0 (4 : Int32) (0 : Int32) S31).bind (fun (S34 : AS) => some S34))) (fun J30 => (if (ax_fi S25 1 0 2) ≤ r28 then J30 S25 else ax_bu (f_X1_draw (ax_fi S25 4 (ax_fx S25 11 0 14) 5) S25) (fun (r44 : Int32) (S41 : AS) => ax_bu (f_X1_draw (4 : Int32) S41) (fun (r48 : Int32) (S45 : AS) => (f_X9_setTitles 0 r44 r48 S45).bind (fun (S49 : AS) => J30 S49))))))) ax_F (0 : Int32) S1)
set_option maxRecDepth 100000 in
theorem t_X11_liveOneDay_L13 {l : Launch} {K68 : AS → Option (AS)} (hK68 : ∀ (S : AS) Z, K68 S = some Z → ax_T l 6 ma_X11_liveOneDay (68, [some (.inr (11, 0)), none, none], [], S) none Z) : ∀ (n : Nat) (x4 : Int32) (S5 : AS) Z, f_X11_liveOneDay_L13 K68 n x4 S5 = some Z → ax_T l 6 ma_X11_liveOneDay (13, [some (.inr (11, 0)), some (.inl (.int x4)), none], [], S5) none Z := by
  intro n
  induction n with
  | zero =>
    intro x4 S5 Z h
    cases h
  | succ n ih =>
    intro x4 S5 Z h
    unfold f_X11_liveOneDay_L13 at h
    refine ax_Tgo [.iload_n 1, .iconst 3] (pc' := 15) (L' := [some (.inr (11, 0)), some (.inl (.int x4)), none]) (st' := [.inl (.int (3 : Int32)), .inl (.int x4)]) (S' := S5) ok_X11_liveOneDay.1 (by decide +kernel) rfl rfl ?_
    refine ax_Tic_ge (off := 53) (tgt := 68) (by decide +kernel) (by decide) (fun c6 => ?_) (fun c6 => ?_)
    · rw [if_pos c6] at h
      refine ax_Tdrop [true, false, true] (L' := [some (.inr (11, 0)), none, none]) rfl ?_
      exact hK68 S5 _ h
    · rw [if_neg c6] at h
      refine ax_Tgo [.aload_n 0, .getfield 82, .aload_n 0, .getfield 93] (pc' := 26) (L' := [some (.inr (11, 0)), some (.inl (.int x4)), none]) (st' := [.inr (4, (ax_fx S5 11 0 14)), .inr (1, 0)]) (S' := S5) ok_X11_liveOneDay.1 (by decide +kernel) rfl rfl ?_
      refine ax_TVi (d := 5) (ka := 4) (i := (ax_fx S5 11 0 14)) [] [.inr (1, 0)] lk_X11_147 (by decide +kernel) rfl (by decide) rfl (Nat.le_of_ble_eq_true rfl) (Nat.le_of_ble_eq_true rfl) ((t_X4_callers rfl).up (by decide)) ?_
      obtain ⟨r13, S10, hq11, h⟩ := ax_bu_e h
      refine ax_TVi (d := 5) (ka := 1) (i := 0) [.inl (.int (ax_fi S5 4 (ax_fx S5 11 0 14) 5))] [] lk_X11_252 (by decide +kernel) rfl (by decide) rfl (Nat.le_of_ble_eq_true rfl) (Nat.le_of_ble_eq_true rfl) ((t_X1_draw hq11).up (by decide)) ?_
      refine ax_Tgo [.istore_n 2, .aload_n 0, .getfield 31, .aload_n 0, .getfield 69, .iconst 0, .iload_n 2] (pc' := 43) (L' := [some (.inr (11, 0)), some (.inl (.int x4)), some (.inl (.int r13))]) (st' := [.inl (.int r13), .inl (.int (0 : Int32)), .inr (9, 0), .inr (6, 0)]) (S' := S10) ok_X11_liveOneDay.1 (by decide +kernel) rfl rfl ?_
      obtain ⟨r17, S14, hq15, h⟩ := ax_bu_e h
      refine ax_TVi (d := 5) (ka := 6) (i := 0) [.inr (9, 0), .inl (.int (0 : Int32)), .inl (.int r13)] [] lk_X11_237 (by decide +kernel) rfl (by decide) rfl (Nat.le_of_ble_eq_true rfl) (Nat.le_of_ble_eq_true rfl) ((t_X6_may hq15).up (by decide)) ?_
      refine ax_Tif_eq (off := 16) (tgt := 62) (by decide +kernel) (by decide) (fun c18 => ?_) (fun c18 => ?_)
      · rw [if_pos c18] at h
        refine ax_Tgo [.iinc 1 1] (pc' := 65) (L' := [some (.inr (11, 0)), some (.inl (.int (x4 + (1 : Int32)))), some (.inl (.int r13))]) (st' := []) (S' := S14) ok_X11_liveOneDay.1 (by decide +kernel) rfl rfl ?_
        obtain ⟨v19, ev19, h⟩ := ax_let_e h
        rw [ev19]
        refine ax_Tgoto (off := (-52)) (tgt := 13) (by decide +kernel) (by decide) ?_
        refine ax_Tdrop [true, true, false] (L' := [some (.inr (11, 0)), some (.inl (.int v19)), none]) rfl ?_
        exact ih v19 S14 _ h
      · rw [if_neg c18] at h
        refine ax_Tgo [.aload_n 0, .getfield 31, .aload_n 0, .getfield 69, .iconst 0, .iload_n 2] (pc' := 59) (L' := [some (.inr (11, 0)), some (.inl (.int x4)), some (.inl (.int r13))]) (st' := [.inl (.int r13), .inl (.int (0 : Int32)), .inr (9, 0), .inr (6, 0)]) (S' := S14) ok_X11_liveOneDay.1 (by decide +kernel) rfl rfl ?_
        obtain ⟨S20, hq21, h⟩ := ax_bd_e h
        refine ax_TVv (d := 5) (ka := 6) (i := 0) [.inr (9, 0), .inl (.int (0 : Int32)), .inl (.int r13)] [] lk_X11_248 (by decide +kernel) rfl (by decide) rfl (Nat.le_of_ble_eq_true rfl) (Nat.le_of_ble_eq_true rfl) ((t_X6_carryOut hq21).up (by decide)) ?_
        refine ax_Tgo [.iinc 1 1] (pc' := 65) (L' := [some (.inr (11, 0)), some (.inl (.int (x4 + (1 : Int32)))), some (.inl (.int r13))]) (st' := []) (S' := S20) ok_X11_liveOneDay.1 (by decide +kernel) rfl rfl ?_
        obtain ⟨v23, ev23, h⟩ := ax_let_e h
        rw [ev23]
        refine ax_Tgoto (off := (-52)) (tgt := 13) (by decide +kernel) (by decide) ?_
        refine ax_Tdrop [true, true, false] (L' := [some (.inr (11, 0)), some (.inl (.int v23)), none]) rfl ?_
        exact ih v23 S20 _ h
set_option maxRecDepth 100000 in
theorem t_X11_liveOneDay {l : Launch} {S Z : AS} (h : f_X11_liveOneDay S = some Z) : ax_M l 6 ma_X11_liveOneDay [.inr (11, 0)] S none Z := by
  unfold f_X11_liveOneDay at h
  show ax_T l 6 ma_X11_liveOneDay (0, [some (.inr (11, 0)), none, none], [], S) none Z
  refine ax_Tgo [.aload_n 0, .getfield 38, .aload_n 0, .getfield 69] (pc' := 8) (L' := [some (.inr (11, 0)), none, none]) (st' := [.inr (9, 0), .inr (7, 0)]) (S' := S) ok_X11_liveOneDay.1 (by decide +kernel) rfl rfl ?_
  obtain ⟨S1, hq2, h⟩ := ax_bd_e h
  refine ax_TVv (d := 5) (ka := 7) (i := 0) [.inr (9, 0)] [] lk_X11_241 (by decide +kernel) rfl (by decide) rfl (Nat.le_of_ble_eq_true rfl) (Nat.le_of_ble_eq_true rfl) ((t_X7_remember hq2).up (by decide)) ?_
  refine ax_Tgo [.iconst 0, .istore_n 1] (pc' := 13) (L' := [some (.inr (11, 0)), some (.inl (.int (0 : Int32))), none]) (st' := []) (S' := S1) ok_X11_liveOneDay.1 (by decide +kernel) rfl rfl ?_
  refine t_X11_liveOneDay_L13 ?_ _ (0 : Int32) S1 _ h
  · intro S24 Z h
    refine ax_Tgo [.aload_n 0, .getfield 82, .bipush 10] (pc' := 74) (L' := [some (.inr (11, 0)), none, none]) (st' := [.inl (.int (10 : Int32)), .inr (1, 0)]) (S' := S24) ok_X11_liveOneDay.1 (by decide +kernel) rfl rfl ?_
    obtain ⟨r28, S25, hq26, h⟩ := ax_bu_e h
    refine ax_TVi (d := 5) (ka := 1) (i := 0) [.inl (.int (10 : Int32))] [] lk_X11_252 (by decide +kernel) rfl (by decide) rfl (Nat.le_of_ble_eq_true rfl) (Nat.le_of_ble_eq_true rfl) ((t_X1_draw hq26).up (by decide)) ?_
    refine ax_Tgo [.aload_n 0, .getfield 82, .getfield 203] (pc' := 84) (L' := [some (.inr (11, 0)), none, none]) (st' := [.inl (.int (ax_fi S25 1 0 2)), .inl (.int r28)]) (S' := S25) ok_X11_liveOneDay.1 (by decide +kernel) rfl rfl ?_
    obtain ⟨J30, eJ30, h⟩ := ax_let_e h
    have hJ30 : ∀ (S29 : AS) Z, J30 S29 = some Z → ax_T l 6 ma_X11_liveOneDay (118, [some (.inr (11, 0)), none, none], [], S29) none Z := by
      intro S29 Z h
      rw [← eJ30] at h
      try dsimp only at h
      refine ax_Tgo [.aload_n 0, .getfield 45, .aload_n 0, .getfield 69] (pc' := 126) (L' := [some (.inr (11, 0)), none, none]) (st' := [.inr (9, 0), .inr (2, 0)]) (S' := S29) ok_X11_liveOneDay.1 (by decide +kernel) rfl rfl ?_
      obtain ⟨S31, hq32, h⟩ := ax_bd_e h
      refine ax_TVv (d := 5) (ka := 2) (i := 0) [.inr (9, 0)] [] lk_X11_245 (by decide +kernel) rfl (by decide) rfl (Nat.le_of_ble_eq_true rfl) (Nat.le_of_ble_eq_true rfl) ((t_X2_write hq32).up (by decide)) ?_
      refine ax_Tgo [.aload_n 0, .getfield 31, .aload_n 0, .getfield 69, .iconst 4, .iconst 0] (pc' := 139) (L' := [some (.inr (11, 0)), none, none]) (st' := [.inl (.int (0 : Int32)), .inl (.int (4 : Int32)), .inr (9, 0), .inr (6, 0)]) (S' := S31) ok_X11_liveOneDay.1 (by decide +kernel) rfl rfl ?_
      obtain ⟨S34, hq35, h⟩ := ax_bd_e h
      refine ax_TVv (d := 5) (ka := 6) (i := 0) [.inr (9, 0), .inl (.int (4 : Int32)), .inl (.int (0 : Int32))] [] lk_X11_248 (by decide +kernel) rfl (by decide) rfl (Nat.le_of_ble_eq_true rfl) (Nat.le_of_ble_eq_true rfl) ((t_X6_carryOut hq35).up (by decide)) ?_
      cases h
      exact ax_Tretv (by decide +kernel) rfl
    refine ax_Tic_ge (off := 34) (tgt := 118) (by decide +kernel) (by decide) (fun c37 => ?_) (fun c37 => ?_)
    · rw [if_pos c37] at h
      exact hJ30 S25 _ h
    · rw [if_neg c37] at h
      refine ax_Tgo [.aload_n 0, .getfield 82, .aload_n 0, .getfield 93] (pc' := 95) (L' := [some (.inr (11, 0)), none, none]) (st' := [.inr (4, (ax_fx S25 11 0 14)), .inr (1, 0)]) (S' := S25) ok_X11_liveOneDay.1 (by decide +kernel) rfl rfl ?_
      refine ax_TVi (d := 5) (ka := 4) (i := (ax_fx S25 11 0 14)) [] [.inr (1, 0)] lk_X11_147 (by decide +kernel) rfl (by decide) rfl (Nat.le_of_ble_eq_true rfl) (Nat.le_of_ble_eq_true rfl) ((t_X4_callers rfl).up (by decide)) ?_
      obtain ⟨r44, S41, hq42, h⟩ := ax_bu_e h
      refine ax_TVi (d := 5) (ka := 1) (i := 0) [.inl (.int (ax_fi S25 4 (ax_fx S25 11 0 14) 5))] [] lk_X11_252 (by decide +kernel) rfl (by decide) rfl (Nat.le_of_ble_eq_true rfl) (Nat.le_of_ble_eq_true rfl) ((t_X1_draw hq42).up (by decide)) ?_
      refine ax_Tgo [.istore_n 1, .aload_n 0, .getfield 69, .iload_n 1, .aload_n 0, .getfield 82, .iconst 4] (pc' := 112) (L' := [some (.inr (11, 0)), some (.inl (.int r44)), none]) (st' := [.inl (.int (4 : Int32)), .inr (1, 0), .inl (.int r44), .inr (9, 0)]) (S' := S41) ok_X11_liveOneDay.1 (by decide +kernel) rfl rfl ?_
      obtain ⟨r48, S45, hq46, h⟩ := ax_bu_e h
      refine ax_TVi (d := 5) (ka := 1) (i := 0) [.inl (.int (4 : Int32))] [.inl (.int r44), .inr (9, 0)] lk_X11_252 (by decide +kernel) rfl (by decide) rfl (Nat.le_of_ble_eq_true rfl) (Nat.le_of_ble_eq_true rfl) ((t_X1_draw hq46).up (by decide)) ?_
      obtain ⟨S49, hq50, h⟩ := ax_bd_e h
      refine ax_TVv (d := 5) (ka := 9) (i := 0) [.inl (.int r44), .inl (.int r48)] [] lk_X11_255 (by decide +kernel) rfl (by decide) rfl (Nat.le_of_ble_eq_true rfl) (Nat.le_of_ble_eq_true rfl) ((t_X9_setTitles hq50).up (by decide)) ?_
      refine ax_Tdrop [true, false, true] (L' := [some (.inr (11, 0)), none, none]) rfl ?_
      exact hJ30 S49 _ h
def f_X11_noSuchLodger (a1 : Int32) (S : AS) : Option (Int32) := (if a1 < (0 : Int32) then some (1 : Int32) else (if a1 < (ax_fi S 4 (ax_fx S 11 0 14) 4) then some (0 : Int32) else some (1 : Int32)))
set_option maxRecDepth 100000 in
theorem t_X11_noSuchLodger {l : Launch} {a1 : Int32} {S : AS} {r : Int32} (h : f_X11_noSuchLodger a1 S = some r) : ax_M l 1 ma_X11_noSuchLodger [.inr (11, 0), .inl (.int a1)] S (some (.inl (.int r))) S := by
  unfold f_X11_noSuchLodger at h
  show ax_T l 1 ma_X11_noSuchLodger (0, [some (.inr (11, 0)), some (.inl (.int a1))], [], S) (some (.inl (.int r))) S
  refine ax_Tgo [.iload_n 1] (pc' := 1) (L' := [some (.inr (11, 0)), some (.inl (.int a1))]) (st' := [.inl (.int a1)]) (S' := S) ok_X11_noSuchLodger.1 (by decide +kernel) rfl rfl ?_
  refine ax_Tif_lt (off := 14) (tgt := 15) (by decide +kernel) (by decide) (fun c1 => ?_) (fun c1 => ?_)
  · rw [if_pos c1] at h
    refine ax_Tgo [.iconst 1] (pc' := 16) (L' := [some (.inr (11, 0)), some (.inl (.int a1))]) (st' := [.inl (.int (1 : Int32))]) (S' := S) ok_X11_noSuchLodger.1 (by decide +kernel) rfl rfl ?_
    refine ax_Tgoto (off := 4) (tgt := 20) (by decide +kernel) (by decide) ?_
    cases h
    exact ax_Treti (by decide +kernel) rfl rfl
  · rw [if_neg c1] at h
    refine ax_Tgo [.iload_n 1, .aload_n 0, .getfield 93] (pc' := 9) (L' := [some (.inr (11, 0)), some (.inl (.int a1))]) (st' := [.inr (4, (ax_fx S 11 0 14)), .inl (.int a1)]) (S' := S) ok_X11_noSuchLodger.1 (by decide +kernel) rfl rfl ?_
    refine ax_TVi (d := 0) (ka := 4) (i := (ax_fx S 11 0 14)) [] [.inl (.int a1)] lk_X11_397 (by decide +kernel) rfl (by decide) rfl (Nat.le_of_ble_eq_true rfl) (Nat.le_of_ble_eq_true rfl) ((t_X4_lodgers rfl).up (by decide)) ?_
    refine ax_Tic_lt (off := 7) (tgt := 19) (by decide +kernel) (by decide) (fun c5 => ?_) (fun c5 => ?_)
    · rw [if_pos c5] at h
      refine ax_Tgo [.iconst 0] (pc' := 20) (L' := [some (.inr (11, 0)), some (.inl (.int a1))]) (st' := [.inl (.int (0 : Int32))]) (S' := S) ok_X11_noSuchLodger.1 (by decide +kernel) rfl rfl ?_
      cases h
      exact ax_Treti (by decide +kernel) rfl rfl
    · rw [if_neg c5] at h
      refine ax_Tgo [.iconst 1] (pc' := 16) (L' := [some (.inr (11, 0)), some (.inl (.int a1))]) (st' := [.inl (.int (1 : Int32))]) (S' := S) ok_X11_noSuchLodger.1 (by decide +kernel) rfl rfl ?_
      refine ax_Tgoto (off := 4) (tgt := 20) (by decide +kernel) (by decide) ?_
      cases h
      exact ax_Treti (by decide +kernel) rfl rfl
def f_X11_lodger (a1 : Int32) (a2 : Int32) (S : AS) : Option (Int32) := (f_X11_noSuchLodger a1 S).bind (fun (r4 : Int32) => (if r4 = (0 : Int32) then (if a2 < (0 : Int32) then some (Int32.ofInt (-1)) else (if a2 ≤ (2 : Int32) then (if a2 = (0 : Int32) then (f_X4_wantsOf (ax_fx S 11 0 14) a1 S).bind (fun (r12 : Int32) => some r12) else if a2 = (1 : Int32) then (f_X4_patienceOf (ax_fx S 11 0 14) a1 S).bind (fun (r17 : Int32) => some r17) else (f_X4_patienceOf (ax_fx S 11 0 14) a1 S).bind (fun (r21 : Int32) => (f_X9_receivedBy 0 a1 S).bind (fun (r25 : Int32) => some (r21 - r25)))) else some (Int32.ofInt (-1)))) else some (Int32.ofInt (-1))))
set_option maxRecDepth 100000 in
theorem t_X11_lodger {l : Launch} {a1 : Int32} {a2 : Int32} {S : AS} {r : Int32} (h : f_X11_lodger a1 a2 S = some r) : ax_M l 2 ma_X11_lodger [.inr (11, 0), .inl (.int a1), .inl (.int a2)] S (some (.inl (.int r))) S := by
  unfold f_X11_lodger at h
  show ax_T l 2 ma_X11_lodger (0, [some (.inr (11, 0)), some (.inl (.int a1)), some (.inl (.int a2))], [], S) (some (.inl (.int r))) S
  refine ax_Tgo [.aload_n 0, .iload_n 1] (pc' := 2) (L' := [some (.inr (11, 0)), some (.inl (.int a1)), some (.inl (.int a2))]) (st' := [.inl (.int a1), .inr (11, 0)]) (S' := S) ok_X11_lodger.1 (by decide +kernel) rfl rfl ?_
  obtain ⟨r4, hq2, h⟩ := ax_bd_e h
  refine ax_TVi (d := 1) (ka := 11) (i := 0) [.inl (.int a1)] [] lk_X11_171 (by decide +kernel) rfl (by decide) rfl (Nat.le_of_ble_eq_true rfl) (Nat.le_of_ble_eq_true rfl) ((t_X11_noSuchLodger hq2).up (by decide)) ?_
  refine ax_Tif_ne (off := 12) (tgt := 17) (by decide +kernel) (by decide) (fun c5 => ?_) (fun c5 => ?_)
  · rw [if_neg c5] at h
    refine ax_Tgo [.iconst (-1)] (pc' := 18) (L' := [some (.inr (11, 0)), some (.inl (.int a1)), some (.inl (.int a2))]) (st' := [.inl (.int (Int32.ofInt (-1)))]) (S' := S) ok_X11_lodger.1 (by decide +kernel) rfl rfl ?_
    cases h
    exact ax_Treti (by decide +kernel) rfl rfl
  · rw [if_pos c5] at h
    refine ax_Tgo [.iload_n 2] (pc' := 9) (L' := [some (.inr (11, 0)), some (.inl (.int a1)), some (.inl (.int a2))]) (st' := [.inl (.int a2)]) (S' := S) ok_X11_lodger.1 (by decide +kernel) rfl rfl ?_
    refine ax_Tif_lt (off := 8) (tgt := 17) (by decide +kernel) (by decide) (fun c6 => ?_) (fun c6 => ?_)
    · rw [if_pos c6] at h
      refine ax_Tgo [.iconst (-1)] (pc' := 18) (L' := [some (.inr (11, 0)), some (.inl (.int a1)), some (.inl (.int a2))]) (st' := [.inl (.int (Int32.ofInt (-1)))]) (S' := S) ok_X11_lodger.1 (by decide +kernel) rfl rfl ?_
      cases h
      exact ax_Treti (by decide +kernel) rfl rfl
    · rw [if_neg c6] at h
      refine ax_Tgo [.iload_n 2, .iconst 2] (pc' := 14) (L' := [some (.inr (11, 0)), some (.inl (.int a1)), some (.inl (.int a2))]) (st' := [.inl (.int (2 : Int32)), .inl (.int a2)]) (S' := S) ok_X11_lodger.1 (by decide +kernel) rfl rfl ?_
      refine ax_Tic_le (off := 5) (tgt := 19) (by decide +kernel) (by decide) (fun c7 => ?_) (fun c7 => ?_)
      · rw [if_pos c7] at h
        refine ax_Tgo [.iload_n 2] (pc' := 20) (L' := [some (.inr (11, 0)), some (.inl (.int a1)), some (.inl (.int a2))]) (st' := [.inl (.int a2)]) (S' := S) ok_X11_lodger.1 (by decide +kernel) rfl rfl ?_
        by_cases c8 : a2 = (0 : Int32)
        · rw [if_pos c8] at h
          refine ax_Tlsw (dflt := 46) (ps := #[(0, 28), (1, 37)]) (len := 28) (off := 28) (tgt := 48) (by decide +kernel) (by decide) (by rw [c8]; rfl) (by decide) ?_
          refine ax_Tgo [.aload_n 0, .getfield 93, .iload_n 1] (pc' := 53) (L' := [some (.inr (11, 0)), some (.inl (.int a1)), some (.inl (.int a2))]) (st' := [.inl (.int a1), .inr (4, (ax_fx S 11 0 14))]) (S' := S) ok_X11_lodger.1 (by decide +kernel) rfl rfl ?_
          obtain ⟨r12, hq10, h⟩ := ax_bd_e h
          refine ax_TVi (d := 1) (ka := 4) (i := (ax_fx S 11 0 14)) [.inl (.int a1)] [] lk_X11_174 (by decide +kernel) rfl (by decide) rfl (Nat.le_of_ble_eq_true rfl) (Nat.le_of_ble_eq_true rfl) ((t_X4_wantsOf hq10).up (by decide)) ?_
          cases h
          exact ax_Treti (by decide +kernel) rfl rfl
        · rw [if_neg c8] at h
          by_cases c13 : a2 = (1 : Int32)
          · rw [if_pos c13] at h
            refine ax_Tlsw (dflt := 46) (ps := #[(0, 28), (1, 37)]) (len := 28) (off := 37) (tgt := 57) (by decide +kernel) (by decide) (by rw [c13]; rfl) (by decide) ?_
            refine ax_Tgo [.aload_n 0, .getfield 93, .iload_n 1] (pc' := 62) (L' := [some (.inr (11, 0)), some (.inl (.int a1)), some (.inl (.int a2))]) (st' := [.inl (.int a1), .inr (4, (ax_fx S 11 0 14))]) (S' := S) ok_X11_lodger.1 (by decide +kernel) rfl rfl ?_
            obtain ⟨r17, hq15, h⟩ := ax_bd_e h
            refine ax_TVi (d := 1) (ka := 4) (i := (ax_fx S 11 0 14)) [.inl (.int a1)] [] lk_X11_177 (by decide +kernel) rfl (by decide) rfl (Nat.le_of_ble_eq_true rfl) (Nat.le_of_ble_eq_true rfl) ((t_X4_patienceOf hq15).up (by decide)) ?_
            cases h
            exact ax_Treti (by decide +kernel) rfl rfl
          · rw [if_neg c13] at h
            refine ax_Tlsw (dflt := 46) (ps := #[(0, 28), (1, 37)]) (len := 28) (off := 46) (tgt := 66) (by decide +kernel) (by decide) (by show Op.lookupswitch.offset [(0, 28), (1, 37)] 46 a2.toInt = 46; rw [lv_osw (a := 0) c8 rfl]; rw [lv_osw (a := 1) c13 rfl]; rfl) (by decide) ?_
            refine ax_Tgo [.aload_n 0, .getfield 93, .iload_n 1] (pc' := 71) (L' := [some (.inr (11, 0)), some (.inl (.int a1)), some (.inl (.int a2))]) (st' := [.inl (.int a1), .inr (4, (ax_fx S 11 0 14))]) (S' := S) ok_X11_lodger.1 (by decide +kernel) rfl rfl ?_
            obtain ⟨r21, hq19, h⟩ := ax_bd_e h
            refine ax_TVi (d := 1) (ka := 4) (i := (ax_fx S 11 0 14)) [.inl (.int a1)] [] lk_X11_177 (by decide +kernel) rfl (by decide) rfl (Nat.le_of_ble_eq_true rfl) (Nat.le_of_ble_eq_true rfl) ((t_X4_patienceOf hq19).up (by decide)) ?_
            refine ax_Tgo [.aload_n 0, .getfield 69, .iload_n 1] (pc' := 79) (L' := [some (.inr (11, 0)), some (.inl (.int a1)), some (.inl (.int a2))]) (st' := [.inl (.int a1), .inr (9, 0), .inl (.int r21)]) (S' := S) ok_X11_lodger.1 (by decide +kernel) rfl rfl ?_
            obtain ⟨r25, hq23, h⟩ := ax_bd_e h
            refine ax_TVi (d := 1) (ka := 9) (i := 0) [.inl (.int a1)] [.inl (.int r21)] lk_X11_180 (by decide +kernel) rfl (by decide) rfl (Nat.le_of_ble_eq_true rfl) (Nat.le_of_ble_eq_true rfl) ((t_X9_receivedBy hq23).up (by decide)) ?_
            refine ax_Tgo [.isub] (pc' := 83) (L' := [some (.inr (11, 0)), some (.inl (.int a1)), some (.inl (.int a2))]) (st' := [.inl (.int (r21 - r25))]) (S' := S) ok_X11_lodger.1 (by decide +kernel) rfl rfl ?_
            cases h
            exact ax_Treti (by decide +kernel) rfl rfl
      · rw [if_neg c7] at h
        refine ax_Tgo [.iconst (-1)] (pc' := 18) (L' := [some (.inr (11, 0)), some (.inl (.int a1)), some (.inl (.int a2))]) (st' := [.inl (.int (Int32.ofInt (-1)))]) (S' := S) ok_X11_lodger.1 (by decide +kernel) rfl rfl ?_
        cases h
        exact ax_Treti (by decide +kernel) rfl rfl
def f_X2_read (i0 : Nat) (a1 : Int32) (a2 : Int32) (S : AS) : Option (Int32) := ax_let (fun (x1 : Int32)  => (if x1 = (0 : Int32) then some (Int32.ofInt (-1)) else (f_J9_floorMod_7cf53 a1 (100 : Int32) S).bind (fun (r7 : Int32) => ax_gd (ax_in ((r7 * (3 : Int32)) + a2) 300) (some (ax_ai S 23 i0 ((r7 * (3 : Int32)) + a2).toNatClampNeg))))) (fun J2 => (if a2 < (0 : Int32) then J2 (0 : Int32) else (if (3 : Int32) ≤ a2 then J2 (0 : Int32) else J2 (1 : Int32))))
set_option maxRecDepth 100000 in
theorem t_X2_read {l : Launch} {i0 : Nat} {a1 : Int32} {a2 : Int32} {S : AS} {r : Int32} (h : f_X2_read i0 a1 a2 S = some r) : ax_M l 1 ma_X2_read [.inr (2, i0), .inl (.int a1), .inl (.int a2)] S (some (.inl (.int r))) S := by
  unfold f_X2_read at h
  show ax_T l 1 ma_X2_read (0, [some (.inr (2, i0)), some (.inl (.int a1)), some (.inl (.int a2)), none], [], S) (some (.inl (.int r))) S
  refine ax_Tgo [.iload_n 2] (pc' := 1) (L' := [some (.inr (2, i0)), some (.inl (.int a1)), some (.inl (.int a2)), none]) (st' := [.inl (.int a2)]) (S' := S) ok_X2_read.1 (by decide +kernel) rfl rfl ?_
  obtain ⟨J2, eJ2, h⟩ := ax_let_e h
  have hJ2 : ∀ (x1 : Int32)  r, J2 x1  = some r → ax_T l 1 ma_X2_read (14, [some (.inr (2, i0)), some (.inl (.int a1)), some (.inl (.int a2)), none], [.inl (.int x1)], S) (some (.inl (.int r))) S := by
    intro x1  r h
    rw [← eJ2] at h
    try dsimp only at h
    refine ax_Tgo [.istore_n 3, .iload_n 3] (pc' := 16) (L' := [some (.inr (2, i0)), some (.inl (.int a1)), some (.inl (.int a2)), some (.inl (.int x1))]) (st' := [.inl (.int x1)]) (S' := S) ok_X2_read.1 (by decide +kernel) rfl rfl ?_
    refine ax_Tif_eq (off := 21) (tgt := 37) (by decide +kernel) (by decide) (fun c3 => ?_) (fun c3 => ?_)
    · rw [if_pos c3] at h
      refine ax_Tgo [.iconst (-1)] (pc' := 38) (L' := [some (.inr (2, i0)), some (.inl (.int a1)), some (.inl (.int a2)), some (.inl (.int x1))]) (st' := [.inl (.int (Int32.ofInt (-1)))]) (S' := S) ok_X2_read.1 (by decide +kernel) rfl rfl ?_
      cases h
      exact ax_Treti (by decide +kernel) rfl rfl
    · rw [if_neg c3] at h
      refine ax_Tgo [.aload_n 0, .getfield 13, .iload_n 1, .bipush 100] (pc' := 26) (L' := [some (.inr (2, i0)), some (.inl (.int a1)), some (.inl (.int a2)), some (.inl (.int x1))]) (st' := [.inl (.int (100 : Int32)), .inl (.int a1), .inr (23, i0)]) (S' := S) ok_X2_read.1 (by decide +kernel) rfl rfl ?_
      obtain ⟨r7, hq5, h⟩ := ax_bd_e h
      refine ax_TSi (d := 0) [.inl (.int a1), .inl (.int (100 : Int32))] [.inr (23, i0)] lk_X2_29 (by decide +kernel) rfl rfl (Nat.le_of_ble_eq_true rfl) (Nat.le_of_ble_eq_true rfl) ((t_J9_floorMod_7cf53 hq5).up (by decide)) ?_
      refine ax_Tgo [.iconst 3, .imul, .iload_n 2, .iadd] (pc' := 33) (L' := [some (.inr (2, i0)), some (.inl (.int a1)), some (.inl (.int a2)), some (.inl (.int x1))]) (st' := [.inl (.int ((r7 * (3 : Int32)) + a2)), .inr (23, i0)]) (S' := S) ok_X2_read.1 (by decide +kernel) rfl rfl ?_
      obtain ⟨g8, h⟩ := ax_gd_e h
      refine ax_Tali (n := 300) ok_X2_read.1 (by decide +kernel) (by decide) rfl g8 ?_
      refine ax_Tgoto (off := 4) (tgt := 38) (by decide +kernel) (by decide) ?_
      cases h
      exact ax_Treti (by decide +kernel) rfl rfl
  refine ax_Tif_lt (off := 12) (tgt := 13) (by decide +kernel) (by decide) (fun c9 => ?_) (fun c9 => ?_)
  · rw [if_pos c9] at h
    refine ax_Tgo [.iconst 0] (pc' := 14) (L' := [some (.inr (2, i0)), some (.inl (.int a1)), some (.inl (.int a2)), none]) (st' := [.inl (.int (0 : Int32))]) (S' := S) ok_X2_read.1 (by decide +kernel) rfl rfl ?_
    exact hJ2 (0 : Int32) _ h
  · rw [if_neg c9] at h
    refine ax_Tgo [.iload_n 2, .iconst 3] (pc' := 6) (L' := [some (.inr (2, i0)), some (.inl (.int a1)), some (.inl (.int a2)), none]) (st' := [.inl (.int (3 : Int32)), .inl (.int a2)]) (S' := S) ok_X2_read.1 (by decide +kernel) rfl rfl ?_
    refine ax_Tic_ge (off := 7) (tgt := 13) (by decide +kernel) (by decide) (fun c10 => ?_) (fun c10 => ?_)
    · rw [if_pos c10] at h
      refine ax_Tgo [.iconst 0] (pc' := 14) (L' := [some (.inr (2, i0)), some (.inl (.int a1)), some (.inl (.int a2)), none]) (st' := [.inl (.int (0 : Int32))]) (S' := S) ok_X2_read.1 (by decide +kernel) rfl rfl ?_
      exact hJ2 (0 : Int32) _ h
    · rw [if_neg c10] at h
      refine ax_Tgo [.iconst 1] (pc' := 10) (L' := [some (.inr (2, i0)), some (.inl (.int a1)), some (.inl (.int a2)), none]) (st' := [.inl (.int (1 : Int32))]) (S' := S) ok_X2_read.1 (by decide +kernel) rfl rfl ?_
      refine ax_Tgoto (off := 4) (tgt := 14) (by decide +kernel) (by decide) ?_
      exact hJ2 (1 : Int32) _ h
def f_X11_log (a1 : Int32) (a2 : Int32) (S : AS) : Option (Int32) := (f_X11_noHouse S).bind (fun (r4 : Int32) => (if r4 = (0 : Int32) then (if a1 < (0 : Int32) then some (Int32.ofInt (-1)) else (f_X2_lengthOn (ax_fi S 9 0 7) S).bind (fun (r10 : Int32) => (if r10 ≤ a1 then some (Int32.ofInt (-1)) else (if a2 < (0 : Int32) then some (Int32.ofInt (-1)) else (if a2 ≤ (2 : Int32) then (f_X2_read 0 (((ax_fi S 9 0 7) - (1 : Int32)) - a1) a2 S).bind (fun (r17 : Int32) => some r17) else some (Int32.ofInt (-1))))))) else some (Int32.ofInt (-1))))
set_option maxRecDepth 100000 in
theorem t_X11_log {l : Launch} {a1 : Int32} {a2 : Int32} {S : AS} {r : Int32} (h : f_X11_log a1 a2 S = some r) : ax_M l 2 ma_X11_log [.inr (11, 0), .inl (.int a1), .inl (.int a2)] S (some (.inl (.int r))) S := by
  unfold f_X11_log at h
  show ax_T l 2 ma_X11_log (0, [some (.inr (11, 0)), some (.inl (.int a1)), some (.inl (.int a2))], [], S) (some (.inl (.int r))) S
  refine ax_Tgo [.aload_n 0] (pc' := 1) (L' := [some (.inr (11, 0)), some (.inl (.int a1)), some (.inl (.int a2))]) (st' := [.inr (11, 0)]) (S' := S) ok_X11_log.1 (by decide +kernel) rfl rfl ?_
  obtain ⟨r4, hq2, h⟩ := ax_bd_e h
  refine ax_TVi (d := 1) (ka := 11) (i := 0) [] [] lk_X11_161 (by decide +kernel) rfl (by decide) rfl (Nat.le_of_ble_eq_true rfl) (Nat.le_of_ble_eq_true rfl) ((t_X11_noHouse hq2).up (by decide)) ?_
  refine ax_Tif_ne (off := 30) (tgt := 34) (by decide +kernel) (by decide) (fun c5 => ?_) (fun c5 => ?_)
  · rw [if_neg c5] at h
    refine ax_Tgo [.iconst (-1)] (pc' := 35) (L' := [some (.inr (11, 0)), some (.inl (.int a1)), some (.inl (.int a2))]) (st' := [.inl (.int (Int32.ofInt (-1)))]) (S' := S) ok_X11_log.1 (by decide +kernel) rfl rfl ?_
    cases h
    exact ax_Treti (by decide +kernel) rfl rfl
  · rw [if_pos c5] at h
    refine ax_Tgo [.iload_n 1] (pc' := 8) (L' := [some (.inr (11, 0)), some (.inl (.int a1)), some (.inl (.int a2))]) (st' := [.inl (.int a1)]) (S' := S) ok_X11_log.1 (by decide +kernel) rfl rfl ?_
    refine ax_Tif_lt (off := 26) (tgt := 34) (by decide +kernel) (by decide) (fun c6 => ?_) (fun c6 => ?_)
    · rw [if_pos c6] at h
      refine ax_Tgo [.iconst (-1)] (pc' := 35) (L' := [some (.inr (11, 0)), some (.inl (.int a1)), some (.inl (.int a2))]) (st' := [.inl (.int (Int32.ofInt (-1)))]) (S' := S) ok_X11_log.1 (by decide +kernel) rfl rfl ?_
      cases h
      exact ax_Treti (by decide +kernel) rfl rfl
    · rw [if_neg c6] at h
      refine ax_Tgo [.iload_n 1, .aload_n 0, .getfield 69, .getfield 222] (pc' := 19) (L' := [some (.inr (11, 0)), some (.inl (.int a1)), some (.inl (.int a2))]) (st' := [.inl (.int (ax_fi S 9 0 7)), .inl (.int a1)]) (S' := S) ok_X11_log.1 (by decide +kernel) rfl rfl ?_
      obtain ⟨r10, hq8, h⟩ := ax_bd_e h
      refine ax_TSi (d := 1) [.inl (.int (ax_fi S 9 0 7))] [.inl (.int a1)] lk_X11_259 (by decide +kernel) rfl rfl (Nat.le_of_ble_eq_true rfl) (Nat.le_of_ble_eq_true rfl) ((t_X2_lengthOn hq8).up (by decide)) ?_
      refine ax_Tic_ge (off := 12) (tgt := 34) (by decide +kernel) (by decide) (fun c11 => ?_) (fun c11 => ?_)
      · rw [if_pos c11] at h
        refine ax_Tgo [.iconst (-1)] (pc' := 35) (L' := [some (.inr (11, 0)), some (.inl (.int a1)), some (.inl (.int a2))]) (st' := [.inl (.int (Int32.ofInt (-1)))]) (S' := S) ok_X11_log.1 (by decide +kernel) rfl rfl ?_
        cases h
        exact ax_Treti (by decide +kernel) rfl rfl
      · rw [if_neg c11] at h
        refine ax_Tgo [.iload_n 2] (pc' := 26) (L' := [some (.inr (11, 0)), some (.inl (.int a1)), some (.inl (.int a2))]) (st' := [.inl (.int a2)]) (S' := S) ok_X11_log.1 (by decide +kernel) rfl rfl ?_
        refine ax_Tif_lt (off := 8) (tgt := 34) (by decide +kernel) (by decide) (fun c12 => ?_) (fun c12 => ?_)
        · rw [if_pos c12] at h
          refine ax_Tgo [.iconst (-1)] (pc' := 35) (L' := [some (.inr (11, 0)), some (.inl (.int a1)), some (.inl (.int a2))]) (st' := [.inl (.int (Int32.ofInt (-1)))]) (S' := S) ok_X11_log.1 (by decide +kernel) rfl rfl ?_
          cases h
          exact ax_Treti (by decide +kernel) rfl rfl
        · rw [if_neg c12] at h
          refine ax_Tgo [.iload_n 2, .iconst 2] (pc' := 31) (L' := [some (.inr (11, 0)), some (.inl (.int a1)), some (.inl (.int a2))]) (st' := [.inl (.int (2 : Int32)), .inl (.int a2)]) (S' := S) ok_X11_log.1 (by decide +kernel) rfl rfl ?_
          refine ax_Tic_le (off := 5) (tgt := 36) (by decide +kernel) (by decide) (fun c13 => ?_) (fun c13 => ?_)
          · rw [if_pos c13] at h
            refine ax_Tgo [.aload_n 0, .getfield 45, .aload_n 0, .getfield 69, .getfield 222, .iconst 1, .isub, .iload_n 1, .isub, .iload_n 2] (pc' := 52) (L' := [some (.inr (11, 0)), some (.inl (.int a1)), some (.inl (.int a2))]) (st' := [.inl (.int a2), .inl (.int (((ax_fi S 9 0 7) - (1 : Int32)) - a1)), .inr (2, 0)]) (S' := S) ok_X11_log.1 (by decide +kernel) rfl rfl ?_
            obtain ⟨r17, hq15, h⟩ := ax_bd_e h
            refine ax_TVi (d := 1) (ka := 2) (i := 0) [.inl (.int (((ax_fi S 9 0 7) - (1 : Int32)) - a1)), .inl (.int a2)] [] lk_X11_262 (by decide +kernel) rfl (by decide) rfl (Nat.le_of_ble_eq_true rfl) (Nat.le_of_ble_eq_true rfl) ((t_X2_read hq15).up (by decide)) ?_
            cases h
            exact ax_Treti (by decide +kernel) rfl rfl
          · rw [if_neg c13] at h
            refine ax_Tgo [.iconst (-1)] (pc' := 35) (L' := [some (.inr (11, 0)), some (.inl (.int a1)), some (.inl (.int a2))]) (st' := [.inl (.int (Int32.ofInt (-1)))]) (S' := S) ok_X11_log.1 (by decide +kernel) rfl rfl ?_
            cases h
            exact ax_Treti (by decide +kernel) rfl rfl
def f_X6_beatsHard (i1 : Nat) (a2 : Int32) (a3 : Int32) (S : AS) : Option (Int32 × AS) := (f_X9_titlesOf i1 a2 S).bind (fun (r4 : Int32) => ax_bu (f_X6_beats a2 a3 r4 (ax_fi S 9 i1 3) (ax_fi S 9 i1 4) (ax_fi S 9 i1 7) S) (fun (r8 : Int32) (S5 : AS) => some (r8, S5)))
set_option maxRecDepth 100000 in
theorem t_X6_beatsHard {l : Launch} {i1 : Nat} {a2 : Int32} {a3 : Int32} {S Z : AS} {r : Int32} (h : f_X6_beatsHard i1 a2 a3 S = some (r, Z)) : ax_M l 3 ma_X6_beatsHard [.inr (6, 0), .inr (9, i1), .inl (.int a2), .inl (.int a3)] S (some (.inl (.int r))) Z := by
  unfold f_X6_beatsHard at h
  show ax_T l 3 ma_X6_beatsHard (0, [some (.inr (6, 0)), some (.inr (9, i1)), some (.inl (.int a2)), some (.inl (.int a3))], [], S) (some (.inl (.int r))) Z
  refine ax_Tgo [.aload_n 0, .iload_n 2, .iload_n 3, .aload_n 1, .iload_n 2] (pc' := 5) (L' := [some (.inr (6, 0)), some (.inr (9, i1)), some (.inl (.int a2)), some (.inl (.int a3))]) (st' := [.inl (.int a2), .inr (9, i1), .inl (.int a3), .inl (.int a2), .inr (6, 0)]) (S' := S) ok_X6_beatsHard.1 (by decide +kernel) rfl rfl ?_
  obtain ⟨r4, hq2, h⟩ := ax_bd_e h
  refine ax_TVi (d := 2) (ka := 9) (i := i1) [.inl (.int a2)] [.inl (.int a3), .inl (.int a2), .inr (6, 0)] lk_X6_27 (by decide +kernel) rfl (by decide) rfl (Nat.le_of_ble_eq_true rfl) (Nat.le_of_ble_eq_true rfl) ((t_X9_titlesOf hq2).up (by decide)) ?_
  refine ax_Tgo [.aload_n 1, .getfield 32, .aload_n 1, .getfield 36, .aload_n 1, .getfield 39] (pc' := 20) (L' := [some (.inr (6, 0)), some (.inr (9, i1)), some (.inl (.int a2)), some (.inl (.int a3))]) (st' := [.inl (.int (ax_fi S 9 i1 7)), .inl (.int (ax_fi S 9 i1 4)), .inl (.int (ax_fi S 9 i1 3)), .inl (.int r4), .inl (.int a3), .inl (.int a2), .inr (6, 0)]) (S' := S) ok_X6_beatsHard.1 (by decide +kernel) rfl rfl ?_
  obtain ⟨r8, S5, hq6, h⟩ := ax_bu_e h
  refine ax_TVi (d := 2) (ka := 6) (i := 0) [.inl (.int a2), .inl (.int a3), .inl (.int r4), .inl (.int (ax_fi S 9 i1 3)), .inl (.int (ax_fi S 9 i1 4)), .inl (.int (ax_fi S 9 i1 7))] [] lk_X6_42 (by decide +kernel) rfl (by decide) rfl (Nat.le_of_ble_eq_true rfl) (Nat.le_of_ble_eq_true rfl) ((t_X6_beats hq6).up (by decide)) ?_
  cases h
  exact ax_Treti (by decide +kernel) rfl rfl
def f_X11_mean_L14 (K41 : Int32 → AS → Option (Int32 × AS)) : Nat → Int32 → Int32 → Int32 → AS → Option (Int32 × AS)
  | 0, _, _, _, _ => none
  | n + 1, x6, x7, x8, S10 => (if (5 : Int32) < x8 then K41 x7 S10 else ax_bu (f_X6_beatsHard 0 x6 x8 S10) (fun (r15 : Int32) (S12 : AS) => ax_let (x7 + r15) (fun (v16 : Int32) => ax_let (x8 + (1 : Int32)) (fun (v17 : Int32) => f_X11_mean_L14 K41 n x6 v16 v17 S12))))
def f_X11_mean (a1 : Int32) (S : AS) : Option (Int32 × AS) := (f_X11_noSuchCaller a1 S).bind (fun (r4 : Int32) => (if r4 = (0 : Int32) then f_X11_mean_L14 (fun (x9 : Int32) (S18 : AS) => some ((((100 : Int32) * x9) / (6 : Int32)), S18)) ax_F a1 (0 : Int32) (0 : Int32) S else some ((Int32.ofInt (-1)), S)))
set_option maxRecDepth 100000 in
theorem t_X11_mean_L14 {l : Launch} {K41 : Int32 → AS → Option (Int32 × AS)} (hK41 : ∀ (x9 : Int32) (S : AS) r Z, K41 x9 S = some (r, Z) → ax_T l 4 ma_X11_mean (41, [none, none, some (.inl (.int x9)), none], [], S) (some (.inl (.int r))) Z) : ∀ (n : Nat) (x6 : Int32) (x7 : Int32) (x8 : Int32) (S10 : AS) r Z, f_X11_mean_L14 K41 n x6 x7 x8 S10 = some (r, Z) → ax_T l 4 ma_X11_mean (14, [some (.inr (11, 0)), some (.inl (.int x6)), some (.inl (.int x7)), some (.inl (.int x8))], [], S10) (some (.inl (.int r))) Z := by
  intro n
  induction n with
  | zero =>
    intro x6 x7 x8 S10 r Z h
    cases h
  | succ n ih =>
    intro x6 x7 x8 S10 r Z h
    unfold f_X11_mean_L14 at h
    refine ax_Tgo [.iload_n 3, .iconst 5] (pc' := 16) (L' := [some (.inr (11, 0)), some (.inl (.int x6)), some (.inl (.int x7)), some (.inl (.int x8))]) (st' := [.inl (.int (5 : Int32)), .inl (.int x8)]) (S' := S10) ok_X11_mean.1 (by decide +kernel) rfl rfl ?_
    refine ax_Tic_gt (off := 25) (tgt := 41) (by decide +kernel) (by decide) (fun c11 => ?_) (fun c11 => ?_)
    · rw [if_pos c11] at h
      refine ax_Tdrop [false, false, true, false] (L' := [none, none, some (.inl (.int x7)), none]) rfl ?_
      exact hK41 x7 S10 _ _ h
    · rw [if_neg c11] at h
      refine ax_Tgo [.iload_n 2, .aload_n 0, .getfield 31, .aload_n 0, .getfield 69, .iload_n 1, .iload_n 3] (pc' := 30) (L' := [some (.inr (11, 0)), some (.inl (.int x6)), some (.inl (.int x7)), some (.inl (.int x8))]) (st' := [.inl (.int x8), .inl (.int x6), .inr (9, 0), .inr (6, 0), .inl (.int x7)]) (S' := S10) ok_X11_mean.1 (by decide +kernel) rfl rfl ?_
      obtain ⟨r15, S12, hq13, h⟩ := ax_bu_e h
      refine ax_TVi (d := 3) (ka := 6) (i := 0) [.inr (9, 0), .inl (.int x6), .inl (.int x8)] [.inl (.int x7)] lk_X11_368 (by decide +kernel) rfl (by decide) rfl (Nat.le_of_ble_eq_true rfl) (Nat.le_of_ble_eq_true rfl) ((t_X6_beatsHard hq13).up (by decide)) ?_
      refine ax_Tgo [.iadd, .istore_n 2] (pc' := 35) (L' := [some (.inr (11, 0)), some (.inl (.int x6)), some (.inl (.int (x7 + r15))), some (.inl (.int x8))]) (st' := []) (S' := S12) ok_X11_mean.1 (by decide +kernel) rfl rfl ?_
      obtain ⟨v16, ev16, h⟩ := ax_let_e h
      rw [ev16]
      refine ax_Tgo [.iinc 3 1] (pc' := 38) (L' := [some (.inr (11, 0)), some (.inl (.int x6)), some (.inl (.int v16)), some (.inl (.int (x8 + (1 : Int32))))]) (st' := []) (S' := S12) ok_X11_mean.1 (by decide +kernel) rfl rfl ?_
      obtain ⟨v17, ev17, h⟩ := ax_let_e h
      rw [ev17]
      refine ax_Tgoto (off := (-24)) (tgt := 14) (by decide +kernel) (by decide) ?_
      exact ih x6 v16 v17 S12 _ _ h
set_option maxRecDepth 100000 in
theorem t_X11_mean {l : Launch} {a1 : Int32} {S Z : AS} {r : Int32} (h : f_X11_mean a1 S = some (r, Z)) : ax_M l 4 ma_X11_mean [.inr (11, 0), .inl (.int a1)] S (some (.inl (.int r))) Z := by
  unfold f_X11_mean at h
  show ax_T l 4 ma_X11_mean (0, [some (.inr (11, 0)), some (.inl (.int a1)), none, none], [], S) (some (.inl (.int r))) Z
  refine ax_Tgo [.aload_n 0, .iload_n 1] (pc' := 2) (L' := [some (.inr (11, 0)), some (.inl (.int a1)), none, none]) (st' := [.inl (.int a1), .inr (11, 0)]) (S' := S) ok_X11_mean.1 (by decide +kernel) rfl rfl ?_
  obtain ⟨r4, hq2, h⟩ := ax_bd_e h
  refine ax_TVi (d := 3) (ka := 11) (i := 0) [.inl (.int a1)] [] lk_X11_183 (by decide +kernel) rfl (by decide) rfl (Nat.le_of_ble_eq_true rfl) (Nat.le_of_ble_eq_true rfl) ((t_X11_noSuchCaller hq2).up (by decide)) ?_
  refine ax_Tif_eq (off := 5) (tgt := 10) (by decide +kernel) (by decide) (fun c5 => ?_) (fun c5 => ?_)
  · rw [if_pos c5] at h
    refine ax_Tgo [.iconst 0, .istore_n 2, .iconst 0, .istore_n 3] (pc' := 14) (L' := [some (.inr (11, 0)), some (.inl (.int a1)), some (.inl (.int (0 : Int32))), some (.inl (.int (0 : Int32)))]) (st' := []) (S' := S) ok_X11_mean.1 (by decide +kernel) rfl rfl ?_
    refine t_X11_mean_L14 ?_ _ a1 (0 : Int32) (0 : Int32) S _ _ h
    · intro x9 S18 r Z h
      refine ax_Tgo [.bipush 100, .iload_n 2, .imul, .bipush 6] (pc' := 47) (L' := [none, none, some (.inl (.int x9)), none]) (st' := [.inl (.int (6 : Int32)), .inl (.int ((100 : Int32) * x9))]) (S' := S18) ok_X11_mean.1 (by decide +kernel) rfl rfl ?_
      refine ax_Tidiv ok_X11_mean.1 (by decide +kernel) (by decide) ?_
      cases h
      exact ax_Treti (by decide +kernel) rfl rfl
  · rw [if_neg c5] at h
    refine ax_Tgo [.iconst (-1)] (pc' := 9) (L' := [some (.inr (11, 0)), some (.inl (.int a1)), none, none]) (st' := [.inl (.int (Int32.ofInt (-1)))]) (S' := S) ok_X11_mean.1 (by decide +kernel) rfl rfl ?_
    cases h
    exact ax_Treti (by decide +kernel) rfl rfl
def f_X6_useHouse (i1 : Nat) (S : AS) : Option (AS) := ax_let (ax_sfo S 6 0 1 (some i1)) (fun (S1 : AS) => some S1)
set_option maxRecDepth 100000 in
theorem t_X6_useHouse {l : Launch} {i1 : Nat} {S Z : AS} (h : f_X6_useHouse i1 S = some Z) : ax_M l 0 ma_X6_useHouse [.inr (6, 0), .inr (4, i1)] S none Z := by
  unfold f_X6_useHouse at h
  show ax_T l 0 ma_X6_useHouse (0, [some (.inr (6, 0)), some (.inr (4, i1))], [], S) none Z
  refine ax_Tgo [.aload_n 0, .aload_n 1, .putfield 15] (pc' := 5) (L' := [some (.inr (6, 0)), some (.inr (4, i1))]) (st' := []) (S' := (ax_sfo S 6 0 1 (some i1))) ok_X6_useHouse.1 (by decide +kernel) rfl rfl ?_
  obtain ⟨S1, eS1, h⟩ := ax_let_e h
  rw [eS1]
  cases h
  exact ax_Tretv (by decide +kernel) rfl
def f_X4_coins (i0 : Nat) (S : AS) : Option (Int32) := ax_gd (ax_in (2 : Int32) 3) (some (ax_ai S 27 i0 (2 : Int32).toNatClampNeg))
set_option maxRecDepth 100000 in
theorem t_X4_coins {l : Launch} {i0 : Nat} {S : AS} {r : Int32} (h : f_X4_coins i0 S = some r) : ax_M l 0 ma_X4_coins [.inr (4, i0)] S (some (.inl (.int r))) S := by
  unfold f_X4_coins at h
  show ax_T l 0 ma_X4_coins (0, [some (.inr (4, i0))], [], S) (some (.inl (.int r))) S
  refine ax_Tgo [.aload_n 0, .getfield 11, .iconst 2] (pc' := 5) (L' := [some (.inr (4, i0))]) (st' := [.inl (.int (2 : Int32)), .inr (27, i0)]) (S' := S) ok_X4_coins.1 (by decide +kernel) rfl rfl ?_
  obtain ⟨g1, h⟩ := ax_gd_e h
  refine ax_Tali (n := 3) ok_X4_coins.1 (by decide +kernel) (by decide) rfl g1 ?_
  cases h
  exact ax_Treti (by decide +kernel) rfl rfl
def f_X9_startIn_L29 (K53 : AS → Option (AS)) : Nat → Nat → Nat → Int32 → AS → Option (AS)
  | 0, _, _, _, _ => none
  | n + 1, y12, y13, x14, S15 => (if (6 : Int32) ≤ x14 then K53 S15 else (f_X4_traitOf y13 x14 (2 : Int32) S15).bind (fun (r20 : Int32) => ax_gd (ax_in x14 6) (ax_let (ax_sai S15 39 y12 x14.toNatClampNeg r20) (fun (S22 : AS) => ax_let (x14 + (1 : Int32)) (fun (v23 : Int32) => f_X9_startIn_L29 K53 n y12 y13 v23 S22)))))
def f_X9_startIn (i0 : Nat) (i1 : Nat) (S : AS) : Option (AS) := (f_X9_startDay i0 S).bind (fun (S1 : AS) => ax_let (ax_sfi S1 9 i0 4 (0 : Int32)) (fun (S4 : AS) => ax_let (ax_sfi S4 9 i0 5 (0 : Int32)) (fun (S5 : AS) => (f_X4_coins i1 S5).bind (fun (r9 : Int32) => ax_let (ax_sfi S5 9 i0 6 r9) (fun (S10 : AS) => ax_let (ax_sfi S10 9 i0 7 (0 : Int32)) (fun (S11 : AS) => f_X9_startIn_L29 (fun (S24 : AS) => some S24) ax_F i0 i1 (0 : Int32) S11))))))
set_option maxRecDepth 100000 in
theorem t_X9_startIn_L29 {l : Launch} {K53 : AS → Option (AS)} (hK53 : ∀ (S : AS) Z, K53 S = some Z → ax_T l 1 ma_X9_startIn (53, [none, none, none], [], S) none Z) : ∀ (n : Nat) (y12 : Nat) (y13 : Nat) (x14 : Int32) (S15 : AS) Z, f_X9_startIn_L29 K53 n y12 y13 x14 S15 = some Z → ax_T l 1 ma_X9_startIn (29, [some (.inr (9, y12)), some (.inr (4, y13)), some (.inl (.int x14))], [], S15) none Z := by
  intro n
  induction n with
  | zero =>
    intro y12 y13 x14 S15 Z h
    cases h
  | succ n ih =>
    intro y12 y13 x14 S15 Z h
    unfold f_X9_startIn_L29 at h
    refine ax_Tgo [.iload_n 2, .bipush 6] (pc' := 32) (L' := [some (.inr (9, y12)), some (.inr (4, y13)), some (.inl (.int x14))]) (st' := [.inl (.int (6 : Int32)), .inl (.int x14)]) (S' := S15) ok_X9_startIn.1 (by decide +kernel) rfl rfl ?_
    refine ax_Tic_ge (off := 21) (tgt := 53) (by decide +kernel) (by decide) (fun c16 => ?_) (fun c16 => ?_)
    · rw [if_pos c16] at h
      refine ax_Tdrop [false, false, false] (L' := [none, none, none]) rfl ?_
      exact hK53 S15 _ h
    · rw [if_neg c16] at h
      refine ax_Tgo [.aload_n 0, .getfield 40, .iload_n 2, .aload_n 1, .iload_n 2, .iconst 2] (pc' := 43) (L' := [some (.inr (9, y12)), some (.inr (4, y13)), some (.inl (.int x14))]) (st' := [.inl (.int (2 : Int32)), .inl (.int x14), .inr (4, y13), .inl (.int x14), .inr (39, y12)]) (S' := S15) ok_X9_startIn.1 (by decide +kernel) rfl rfl ?_
      obtain ⟨r20, hq18, h⟩ := ax_bd_e h
      refine ax_TVi (d := 0) (ka := 4) (i := y13) [.inl (.int x14), .inl (.int (2 : Int32))] [.inl (.int x14), .inr (39, y12)] lk_X9_51 (by decide +kernel) rfl (by decide) rfl (Nat.le_of_ble_eq_true rfl) (Nat.le_of_ble_eq_true rfl) ((t_X4_traitOf hq18).up (by decide)) ?_
      obtain ⟨g21, h⟩ := ax_gd_e h
      refine ax_Tasi (n := 6) ok_X9_startIn.1 (by decide +kernel) (by decide) rfl g21 ?_
      obtain ⟨S22, eS22, h⟩ := ax_let_e h
      rw [eS22]
      refine ax_Tgo [.iinc 2 1] (pc' := 50) (L' := [some (.inr (9, y12)), some (.inr (4, y13)), some (.inl (.int (x14 + (1 : Int32))))]) (st' := []) (S' := S22) ok_X9_startIn.1 (by decide +kernel) rfl rfl ?_
      obtain ⟨v23, ev23, h⟩ := ax_let_e h
      rw [ev23]
      refine ax_Tgoto (off := (-21)) (tgt := 29) (by decide +kernel) (by decide) ?_
      exact ih y12 y13 v23 S22 _ h
set_option maxRecDepth 100000 in
theorem t_X9_startIn {l : Launch} {i0 : Nat} {i1 : Nat} {S Z : AS} (h : f_X9_startIn i0 i1 S = some Z) : ax_M l 1 ma_X9_startIn [.inr (9, i0), .inr (4, i1)] S none Z := by
  unfold f_X9_startIn at h
  show ax_T l 1 ma_X9_startIn (0, [some (.inr (9, i0)), some (.inr (4, i1)), none], [], S) none Z
  refine ax_Tgo [.aload_n 0] (pc' := 1) (L' := [some (.inr (9, i0)), some (.inr (4, i1)), none]) (st' := [.inr (9, i0)]) (S' := S) ok_X9_startIn.1 (by decide +kernel) rfl rfl ?_
  obtain ⟨S1, hq2, h⟩ := ax_bd_e h
  refine ax_TVv (d := 0) (ka := 9) (i := i0) [] [] lk_X9_43 (by decide +kernel) rfl (by decide) rfl (Nat.le_of_ble_eq_true rfl) (Nat.le_of_ble_eq_true rfl) ((t_X9_startDay hq2).up (by decide)) ?_
  refine ax_Tgo [.aload_n 0, .iconst 0, .putfield 24] (pc' := 9) (L' := [some (.inr (9, i0)), some (.inr (4, i1)), none]) (st' := []) (S' := (ax_sfi S1 9 i0 4 (0 : Int32))) ok_X9_startIn.1 (by decide +kernel) rfl rfl ?_
  obtain ⟨S4, eS4, h⟩ := ax_let_e h
  rw [eS4]
  refine ax_Tgo [.aload_n 0, .iconst 0, .putfield 27] (pc' := 14) (L' := [some (.inr (9, i0)), some (.inr (4, i1)), none]) (st' := []) (S' := (ax_sfi S4 9 i0 5 (0 : Int32))) ok_X9_startIn.1 (by decide +kernel) rfl rfl ?_
  obtain ⟨S5, eS5, h⟩ := ax_let_e h
  rw [eS5]
  refine ax_Tgo [.aload_n 0, .aload_n 1] (pc' := 16) (L' := [some (.inr (9, i0)), some (.inr (4, i1)), none]) (st' := [.inr (4, i1), .inr (9, i0)]) (S' := S5) ok_X9_startIn.1 (by decide +kernel) rfl rfl ?_
  obtain ⟨r9, hq7, h⟩ := ax_bd_e h
  refine ax_TVi (d := 0) (ka := 4) (i := i1) [] [.inr (9, i0)] lk_X9_46 (by decide +kernel) rfl (by decide) rfl (Nat.le_of_ble_eq_true rfl) (Nat.le_of_ble_eq_true rfl) ((t_X4_coins hq7).up (by decide)) ?_
  refine ax_Tgo [.putfield 30] (pc' := 22) (L' := [some (.inr (9, i0)), some (.inr (4, i1)), none]) (st' := []) (S' := (ax_sfi S5 9 i0 6 r9)) ok_X9_startIn.1 (by decide +kernel) rfl rfl ?_
  obtain ⟨S10, eS10, h⟩ := ax_let_e h
  rw [eS10]
  refine ax_Tgo [.aload_n 0, .iconst 0, .putfield 33] (pc' := 27) (L' := [some (.inr (9, i0)), some (.inr (4, i1)), none]) (st' := []) (S' := (ax_sfi S10 9 i0 7 (0 : Int32))) ok_X9_startIn.1 (by decide +kernel) rfl rfl ?_
  obtain ⟨S11, eS11, h⟩ := ax_let_e h
  rw [eS11]
  refine ax_Tgo [.iconst 0, .istore_n 2] (pc' := 29) (L' := [some (.inr (9, i0)), some (.inr (4, i1)), some (.inl (.int (0 : Int32)))]) (st' := []) (S' := S11) ok_X9_startIn.1 (by decide +kernel) rfl rfl ?_
  refine t_X9_startIn_L29 ?_ _ i0 i1 (0 : Int32) S11 _ h
  · intro S24 Z h
    cases h
    exact ax_Tretv (by decide +kernel) rfl
def f_X3_forget (S : AS) : Option (AS) := ax_let (ax_sfi S 3 0 3 (0 : Int32)) (fun (S1 : AS) => some S1)
set_option maxRecDepth 100000 in
theorem t_X3_forget {l : Launch} {S Z : AS} (h : f_X3_forget S = some Z) : ax_M l 0 ma_X3_forget [.inr (3, 0)] S none Z := by
  unfold f_X3_forget at h
  show ax_T l 0 ma_X3_forget (0, [some (.inr (3, 0))], [], S) none Z
  refine ax_Tgo [.aload_n 0, .iconst 0, .putfield 20] (pc' := 5) (L' := [some (.inr (3, 0))]) (st' := []) (S' := (ax_sfi S 3 0 3 (0 : Int32))) ok_X3_forget.1 (by decide +kernel) rfl rfl ?_
  obtain ⟨S1, eS1, h⟩ := ax_let_e h
  rw [eS1]
  cases h
  exact ax_Tretv (by decide +kernel) rfl
def f_X11_moveIn (S : AS) : Option (AS) := ax_let (ax_sfx S 11 0 15 (ax_fx S 11 0 14)) (fun (S1 : AS) => ax_let (ax_sfx S1 11 0 14 (ax_fx S 11 0 15)) (fun (S2 : AS) => (f_X6_useHouse (ax_fx S2 11 0 14) S2).bind (fun (S3 : AS) => (f_X9_startIn 0 (ax_fx S3 11 0 14) S3).bind (fun (S6 : AS) => (f_X7_forget S6).bind (fun (S9 : AS) => (f_X3_forget S9).bind (fun (S12 : AS) => ax_let (ax_sfi S12 11 0 19 (0 : Int32)) (fun (S15 : AS) => some S15)))))))
set_option maxRecDepth 100000 in
theorem t_X11_moveIn {l : Launch} {S Z : AS} (h : f_X11_moveIn S = some Z) : ax_M l 2 ma_X11_moveIn [.inr (11, 0)] S none Z := by
  unfold f_X11_moveIn at h
  show ax_T l 2 ma_X11_moveIn (0, [some (.inr (11, 0)), none], [], S) none Z
  refine ax_Tgo [.aload_n 0, .getfield 97, .astore_n 1, .aload_n 0, .aload_n 0, .getfield 93, .putfield 97] (pc' := 13) (L' := [some (.inr (11, 0)), some (.inr (4, (ax_fx S 11 0 15)))]) (st' := []) (S' := (ax_sfx S 11 0 15 (ax_fx S 11 0 14))) ok_X11_moveIn.1 (by decide +kernel) rfl rfl ?_
  obtain ⟨S1, eS1, h⟩ := ax_let_e h
  rw [eS1]
  refine ax_Tgo [.aload_n 0, .aload_n 1, .putfield 93] (pc' := 18) (L' := [some (.inr (11, 0)), some (.inr (4, (ax_fx S 11 0 15)))]) (st' := []) (S' := (ax_sfx S1 11 0 14 (ax_fx S 11 0 15))) ok_X11_moveIn.1 (by decide +kernel) rfl rfl ?_
  obtain ⟨S2, eS2, h⟩ := ax_let_e h
  rw [eS2]
  refine ax_Tgo [.aload_n 0, .getfield 31, .aload_n 0, .getfield 93] (pc' := 26) (L' := [some (.inr (11, 0)), some (.inr (4, (ax_fx S 11 0 15)))]) (st' := [.inr (4, (ax_fx S2 11 0 14)), .inr (6, 0)]) (S' := S2) ok_X11_moveIn.1 (by decide +kernel) rfl rfl ?_
  obtain ⟨S3, hq4, h⟩ := ax_bd_e h
  refine ax_TVv (d := 1) (ka := 6) (i := 0) [.inr (4, (ax_fx S2 11 0 14))] [] lk_X11_150 (by decide +kernel) rfl (by decide) rfl (Nat.le_of_ble_eq_true rfl) (Nat.le_of_ble_eq_true rfl) ((t_X6_useHouse hq4).up (by decide)) ?_
  refine ax_Tgo [.aload_n 0, .getfield 69, .aload_n 0, .getfield 93] (pc' := 37) (L' := [some (.inr (11, 0)), some (.inr (4, (ax_fx S 11 0 15)))]) (st' := [.inr (4, (ax_fx S3 11 0 14)), .inr (9, 0)]) (S' := S3) ok_X11_moveIn.1 (by decide +kernel) rfl rfl ?_
  obtain ⟨S6, hq7, h⟩ := ax_bd_e h
  refine ax_TVv (d := 1) (ka := 9) (i := 0) [.inr (4, (ax_fx S3 11 0 14))] [] lk_X11_154 (by decide +kernel) rfl (by decide) rfl (Nat.le_of_ble_eq_true rfl) (Nat.le_of_ble_eq_true rfl) ((t_X9_startIn hq7).up (by decide)) ?_
  refine ax_Tgo [.aload_n 0, .getfield 38] (pc' := 44) (L' := [some (.inr (11, 0)), some (.inr (4, (ax_fx S 11 0 15)))]) (st' := [.inr (7, 0)]) (S' := S6) ok_X11_moveIn.1 (by decide +kernel) rfl rfl ?_
  obtain ⟨S9, hq10, h⟩ := ax_bd_e h
  refine ax_TVv (d := 1) (ka := 7) (i := 0) [] [] lk_X11_157 (by decide +kernel) rfl (by decide) rfl (Nat.le_of_ble_eq_true rfl) (Nat.le_of_ble_eq_true rfl) ((t_X7_forget hq10).up (by decide)) ?_
  refine ax_Tgo [.aload_n 0, .getfield 55] (pc' := 51) (L' := [some (.inr (11, 0)), some (.inr (4, (ax_fx S 11 0 15)))]) (st' := [.inr (3, 0)]) (S' := S9) ok_X11_moveIn.1 (by decide +kernel) rfl rfl ?_
  obtain ⟨S12, hq13, h⟩ := ax_bd_e h
  refine ax_TVv (d := 1) (ka := 3) (i := 0) [] [] lk_X11_160 (by decide +kernel) rfl (by decide) rfl (Nat.le_of_ble_eq_true rfl) (Nat.le_of_ble_eq_true rfl) ((t_X3_forget hq13).up (by decide)) ?_
  refine ax_Tgo [.aload_n 0, .iconst 0, .putfield 110] (pc' := 59) (L' := [some (.inr (11, 0)), some (.inr (4, (ax_fx S 11 0 15)))]) (st' := []) (S' := (ax_sfi S12 11 0 19 (0 : Int32))) ok_X11_moveIn.1 (by decide +kernel) rfl rfl ?_
  obtain ⟨S15, eS15, h⟩ := ax_let_e h
  rw [eS15]
  cases h
  exact ax_Tretv (by decide +kernel) rfl
def f_X11_name (a1 : Int32) (a2 : Int32) (S : AS) : Option (Int32 × AS) := (f_X11_noSuchCaller a1 S).bind (fun (r4 : Int32) => (if r4 = (0 : Int32) then (if a2 < (0 : Int32) then some ((Int32.ofInt (-1)), S) else (if a2 ≤ (1 : Int32) then ax_bu (f_X6_beatsNow 0 a1 S) (fun (r11 : Int32) (S8 : AS) => (if a2 = (0 : Int32) then some (r11, S8) else (f_X6_doneBy a1 r11 S8).bind (fun (r16 : Int32) => (if r16 = (0 : Int32) then some ((0 : Int32), S8) else some ((1 : Int32), S8))))) else some ((Int32.ofInt (-1)), S))) else some ((Int32.ofInt (-1)), S)))
set_option maxRecDepth 100000 in
theorem t_X11_name {l : Launch} {a1 : Int32} {a2 : Int32} {S Z : AS} {r : Int32} (h : f_X11_name a1 a2 S = some (r, Z)) : ax_M l 4 ma_X11_name [.inr (11, 0), .inl (.int a1), .inl (.int a2)] S (some (.inl (.int r))) Z := by
  unfold f_X11_name at h
  show ax_T l 4 ma_X11_name (0, [some (.inr (11, 0)), some (.inl (.int a1)), some (.inl (.int a2)), none], [], S) (some (.inl (.int r))) Z
  refine ax_Tgo [.aload_n 0, .iload_n 1] (pc' := 2) (L' := [some (.inr (11, 0)), some (.inl (.int a1)), some (.inl (.int a2)), none]) (st' := [.inl (.int a1), .inr (11, 0)]) (S' := S) ok_X11_name.1 (by decide +kernel) rfl rfl ?_
  obtain ⟨r4, hq2, h⟩ := ax_bd_e h
  refine ax_TVi (d := 3) (ka := 11) (i := 0) [.inl (.int a1)] [] lk_X11_183 (by decide +kernel) rfl (by decide) rfl (Nat.le_of_ble_eq_true rfl) (Nat.le_of_ble_eq_true rfl) ((t_X11_noSuchCaller hq2).up (by decide)) ?_
  refine ax_Tif_ne (off := 12) (tgt := 17) (by decide +kernel) (by decide) (fun c5 => ?_) (fun c5 => ?_)
  · rw [if_neg c5] at h
    refine ax_Tgo [.iconst (-1)] (pc' := 18) (L' := [some (.inr (11, 0)), some (.inl (.int a1)), some (.inl (.int a2)), none]) (st' := [.inl (.int (Int32.ofInt (-1)))]) (S' := S) ok_X11_name.1 (by decide +kernel) rfl rfl ?_
    cases h
    exact ax_Treti (by decide +kernel) rfl rfl
  · rw [if_pos c5] at h
    refine ax_Tgo [.iload_n 2] (pc' := 9) (L' := [some (.inr (11, 0)), some (.inl (.int a1)), some (.inl (.int a2)), none]) (st' := [.inl (.int a2)]) (S' := S) ok_X11_name.1 (by decide +kernel) rfl rfl ?_
    refine ax_Tif_lt (off := 8) (tgt := 17) (by decide +kernel) (by decide) (fun c6 => ?_) (fun c6 => ?_)
    · rw [if_pos c6] at h
      refine ax_Tgo [.iconst (-1)] (pc' := 18) (L' := [some (.inr (11, 0)), some (.inl (.int a1)), some (.inl (.int a2)), none]) (st' := [.inl (.int (Int32.ofInt (-1)))]) (S' := S) ok_X11_name.1 (by decide +kernel) rfl rfl ?_
      cases h
      exact ax_Treti (by decide +kernel) rfl rfl
    · rw [if_neg c6] at h
      refine ax_Tgo [.iload_n 2, .iconst 1] (pc' := 14) (L' := [some (.inr (11, 0)), some (.inl (.int a1)), some (.inl (.int a2)), none]) (st' := [.inl (.int (1 : Int32)), .inl (.int a2)]) (S' := S) ok_X11_name.1 (by decide +kernel) rfl rfl ?_
      refine ax_Tic_le (off := 5) (tgt := 19) (by decide +kernel) (by decide) (fun c7 => ?_) (fun c7 => ?_)
      · rw [if_pos c7] at h
        refine ax_Tgo [.aload_n 0, .getfield 31, .aload_n 0, .getfield 69, .iload_n 1] (pc' := 28) (L' := [some (.inr (11, 0)), some (.inl (.int a1)), some (.inl (.int a2)), none]) (st' := [.inl (.int a1), .inr (9, 0), .inr (6, 0)]) (S' := S) ok_X11_name.1 (by decide +kernel) rfl rfl ?_
        obtain ⟨r11, S8, hq9, h⟩ := ax_bu_e h
        refine ax_TVi (d := 3) (ka := 6) (i := 0) [.inr (9, 0), .inl (.int a1)] [] lk_X11_284 (by decide +kernel) rfl (by decide) rfl (Nat.le_of_ble_eq_true rfl) (Nat.le_of_ble_eq_true rfl) ((t_X6_beatsNow hq9).up (by decide)) ?_
        refine ax_Tgo [.istore_n 3, .iload_n 2] (pc' := 33) (L' := [some (.inr (11, 0)), some (.inl (.int a1)), some (.inl (.int a2)), some (.inl (.int r11))]) (st' := [.inl (.int a2)]) (S' := S8) ok_X11_name.1 (by decide +kernel) rfl rfl ?_
        refine ax_Tif_ne (off := 7) (tgt := 40) (by decide +kernel) (by decide) (fun c12 => ?_) (fun c12 => ?_)
        · rw [if_neg c12] at h
          refine ax_Tgo [.aload_n 0, .getfield 31, .iload_n 1, .iload_n 3] (pc' := 46) (L' := [some (.inr (11, 0)), some (.inl (.int a1)), some (.inl (.int a2)), some (.inl (.int r11))]) (st' := [.inl (.int r11), .inl (.int a1), .inr (6, 0)]) (S' := S8) ok_X11_name.1 (by decide +kernel) rfl rfl ?_
          obtain ⟨r16, hq14, h⟩ := ax_bd_e h
          refine ax_TVi (d := 3) (ka := 6) (i := 0) [.inl (.int a1), .inl (.int r11)] [] lk_X11_288 (by decide +kernel) rfl (by decide) rfl (Nat.le_of_ble_eq_true rfl) (Nat.le_of_ble_eq_true rfl) ((t_X6_doneBy hq14).up (by decide)) ?_
          refine ax_Tif_eq (off := 7) (tgt := 56) (by decide +kernel) (by decide) (fun c17 => ?_) (fun c17 => ?_)
          · rw [if_pos c17] at h
            refine ax_Tgo [.iconst 0] (pc' := 57) (L' := [some (.inr (11, 0)), some (.inl (.int a1)), some (.inl (.int a2)), some (.inl (.int r11))]) (st' := [.inl (.int (0 : Int32))]) (S' := S8) ok_X11_name.1 (by decide +kernel) rfl rfl ?_
            cases h
            exact ax_Treti (by decide +kernel) rfl rfl
          · rw [if_neg c17] at h
            refine ax_Tgo [.iconst 1] (pc' := 53) (L' := [some (.inr (11, 0)), some (.inl (.int a1)), some (.inl (.int a2)), some (.inl (.int r11))]) (st' := [.inl (.int (1 : Int32))]) (S' := S8) ok_X11_name.1 (by decide +kernel) rfl rfl ?_
            refine ax_Tgoto (off := 4) (tgt := 57) (by decide +kernel) (by decide) ?_
            cases h
            exact ax_Treti (by decide +kernel) rfl rfl
        · rw [if_pos c12] at h
          refine ax_Tgo [.iload_n 3] (pc' := 37) (L' := [some (.inr (11, 0)), some (.inl (.int a1)), some (.inl (.int a2)), some (.inl (.int r11))]) (st' := [.inl (.int r11)]) (S' := S8) ok_X11_name.1 (by decide +kernel) rfl rfl ?_
          refine ax_Tgoto (off := 20) (tgt := 57) (by decide +kernel) (by decide) ?_
          cases h
          exact ax_Treti (by decide +kernel) rfl rfl
      · rw [if_neg c7] at h
        refine ax_Tgo [.iconst (-1)] (pc' := 18) (L' := [some (.inr (11, 0)), some (.inl (.int a1)), some (.inl (.int a2)), none]) (st' := [.inl (.int (Int32.ofInt (-1)))]) (S' := S) ok_X11_name.1 (by decide +kernel) rfl rfl ?_
        cases h
        exact ax_Treti (by decide +kernel) rfl rfl
def f_X6_beatsTitled (i1 : Nat) (a2 : Int32) (a3 : Int32) (S : AS) : Option (Int32 × AS) := (f_X6_hardsOf a2 S).bind (fun (r4 : Int32) => ax_bu (f_X6_beats a2 r4 a3 (ax_fi S 9 i1 3) (ax_fi S 9 i1 4) (ax_fi S 9 i1 7) S) (fun (r8 : Int32) (S5 : AS) => some (r8, S5)))
set_option maxRecDepth 100000 in
theorem t_X6_beatsTitled {l : Launch} {i1 : Nat} {a2 : Int32} {a3 : Int32} {S Z : AS} {r : Int32} (h : f_X6_beatsTitled i1 a2 a3 S = some (r, Z)) : ax_M l 3 ma_X6_beatsTitled [.inr (6, 0), .inr (9, i1), .inl (.int a2), .inl (.int a3)] S (some (.inl (.int r))) Z := by
  unfold f_X6_beatsTitled at h
  show ax_T l 3 ma_X6_beatsTitled (0, [some (.inr (6, 0)), some (.inr (9, i1)), some (.inl (.int a2)), some (.inl (.int a3))], [], S) (some (.inl (.int r))) Z
  refine ax_Tgo [.aload_n 0, .iload_n 2, .aload_n 0, .iload_n 2] (pc' := 4) (L' := [some (.inr (6, 0)), some (.inr (9, i1)), some (.inl (.int a2)), some (.inl (.int a3))]) (st' := [.inl (.int a2), .inr (6, 0), .inl (.int a2), .inr (6, 0)]) (S' := S) ok_X6_beatsTitled.1 (by decide +kernel) rfl rfl ?_
  obtain ⟨r4, hq2, h⟩ := ax_bd_e h
  refine ax_TVi (d := 2) (ka := 6) (i := 0) [.inl (.int a2)] [.inl (.int a2), .inr (6, 0)] lk_X6_23 (by decide +kernel) rfl (by decide) rfl (Nat.le_of_ble_eq_true rfl) (Nat.le_of_ble_eq_true rfl) ((t_X6_hardsOf hq2).up (by decide)) ?_
  refine ax_Tgo [.iload_n 3, .aload_n 1, .getfield 32, .aload_n 1, .getfield 36, .aload_n 1, .getfield 39] (pc' := 20) (L' := [some (.inr (6, 0)), some (.inr (9, i1)), some (.inl (.int a2)), some (.inl (.int a3))]) (st' := [.inl (.int (ax_fi S 9 i1 7)), .inl (.int (ax_fi S 9 i1 4)), .inl (.int (ax_fi S 9 i1 3)), .inl (.int a3), .inl (.int r4), .inl (.int a2), .inr (6, 0)]) (S' := S) ok_X6_beatsTitled.1 (by decide +kernel) rfl rfl ?_
  obtain ⟨r8, S5, hq6, h⟩ := ax_bu_e h
  refine ax_TVi (d := 2) (ka := 6) (i := 0) [.inl (.int a2), .inl (.int r4), .inl (.int a3), .inl (.int (ax_fi S 9 i1 3)), .inl (.int (ax_fi S 9 i1 4)), .inl (.int (ax_fi S 9 i1 7))] [] lk_X6_42 (by decide +kernel) rfl (by decide) rfl (Nat.le_of_ble_eq_true rfl) (Nat.le_of_ble_eq_true rfl) ((t_X6_beats hq6).up (by decide)) ?_
  cases h
  exact ax_Treti (by decide +kernel) rfl rfl
def f_X11_needs_L12 : Nat → Int32 → Int32 → AS → Option (Int32 × AS)
  | 0, _, _, _ => none
  | n + 1, x6, x7, S8 => (if (3 : Int32) < x7 then some ((Int32.ofInt (-1)), S8) else ax_bu (f_X6_beatsTitled 0 x6 x7 S8) (fun (r13 : Int32) (S10 : AS) => (f_X6_doneBy x6 r13 S10).bind (fun (r17 : Int32) => (if r17 = (0 : Int32) then ax_let (x7 + (1 : Int32)) (fun (v19 : Int32) => f_X11_needs_L12 n x6 v19 S10) else some (x7, S10)))))
def f_X11_needs (a1 : Int32) (S : AS) : Option (Int32 × AS) := (f_X11_noSuchCaller a1 S).bind (fun (r4 : Int32) => (if r4 = (0 : Int32) then f_X11_needs_L12 ax_F a1 (0 : Int32) S else some ((Int32.ofInt (-1)), S)))
set_option maxRecDepth 100000 in
theorem t_X11_needs_L12 {l : Launch} : ∀ (n : Nat) (x6 : Int32) (x7 : Int32) (S8 : AS) r Z, f_X11_needs_L12 n x6 x7 S8 = some (r, Z) → ax_T l 4 ma_X11_needs (12, [some (.inr (11, 0)), some (.inl (.int x6)), some (.inl (.int x7))], [], S8) (some (.inl (.int r))) Z := by
  intro n
  induction n with
  | zero =>
    intro x6 x7 S8 r Z h
    cases h
  | succ n ih =>
    intro x6 x7 S8 r Z h
    unfold f_X11_needs_L12 at h
    refine ax_Tgo [.iload_n 2, .iconst 3] (pc' := 14) (L' := [some (.inr (11, 0)), some (.inl (.int x6)), some (.inl (.int x7))]) (st' := [.inl (.int (3 : Int32)), .inl (.int x7)]) (S' := S8) ok_X11_needs.1 (by decide +kernel) rfl rfl ?_
    refine ax_Tic_gt (off := 35) (tgt := 49) (by decide +kernel) (by decide) (fun c9 => ?_) (fun c9 => ?_)
    · rw [if_pos c9] at h
      refine ax_Tgo [.iconst (-1)] (pc' := 50) (L' := [some (.inr (11, 0)), some (.inl (.int x6)), some (.inl (.int x7))]) (st' := [.inl (.int (Int32.ofInt (-1)))]) (S' := S8) ok_X11_needs.1 (by decide +kernel) rfl rfl ?_
      cases h
      exact ax_Treti (by decide +kernel) rfl rfl
    · rw [if_neg c9] at h
      refine ax_Tgo [.aload_n 0, .getfield 31, .iload_n 1, .aload_n 0, .getfield 31, .aload_n 0, .getfield 69, .iload_n 1, .iload_n 2] (pc' := 32) (L' := [some (.inr (11, 0)), some (.inl (.int x6)), some (.inl (.int x7))]) (st' := [.inl (.int x7), .inl (.int x6), .inr (9, 0), .inr (6, 0), .inl (.int x6), .inr (6, 0)]) (S' := S8) ok_X11_needs.1 (by decide +kernel) rfl rfl ?_
      obtain ⟨r13, S10, hq11, h⟩ := ax_bu_e h
      refine ax_TVi (d := 3) (ka := 6) (i := 0) [.inr (9, 0), .inl (.int x6), .inl (.int x7)] [.inl (.int x6), .inr (6, 0)] lk_X11_304 (by decide +kernel) rfl (by decide) rfl (Nat.le_of_ble_eq_true rfl) (Nat.le_of_ble_eq_true rfl) ((t_X6_beatsTitled hq11).up (by decide)) ?_
      obtain ⟨r17, hq15, h⟩ := ax_bd_e h
      refine ax_TVi (d := 3) (ka := 6) (i := 0) [.inl (.int x6), .inl (.int r13)] [] lk_X11_288 (by decide +kernel) rfl (by decide) rfl (Nat.le_of_ble_eq_true rfl) (Nat.le_of_ble_eq_true rfl) ((t_X6_doneBy hq15).up (by decide)) ?_
      refine ax_Tif_eq (off := 5) (tgt := 43) (by decide +kernel) (by decide) (fun c18 => ?_) (fun c18 => ?_)
      · rw [if_pos c18] at h
        refine ax_Tgo [.iinc 2 1] (pc' := 46) (L' := [some (.inr (11, 0)), some (.inl (.int x6)), some (.inl (.int (x7 + (1 : Int32))))]) (st' := []) (S' := S10) ok_X11_needs.1 (by decide +kernel) rfl rfl ?_
        obtain ⟨v19, ev19, h⟩ := ax_let_e h
        rw [ev19]
        refine ax_Tgoto (off := (-34)) (tgt := 12) (by decide +kernel) (by decide) ?_
        exact ih x6 v19 S10 _ _ h
      · rw [if_neg c18] at h
        refine ax_Tgo [.iload_n 2] (pc' := 42) (L' := [some (.inr (11, 0)), some (.inl (.int x6)), some (.inl (.int x7))]) (st' := [.inl (.int x7)]) (S' := S10) ok_X11_needs.1 (by decide +kernel) rfl rfl ?_
        cases h
        exact ax_Treti (by decide +kernel) rfl rfl
set_option maxRecDepth 100000 in
theorem t_X11_needs {l : Launch} {a1 : Int32} {S Z : AS} {r : Int32} (h : f_X11_needs a1 S = some (r, Z)) : ax_M l 4 ma_X11_needs [.inr (11, 0), .inl (.int a1)] S (some (.inl (.int r))) Z := by
  unfold f_X11_needs at h
  show ax_T l 4 ma_X11_needs (0, [some (.inr (11, 0)), some (.inl (.int a1)), none], [], S) (some (.inl (.int r))) Z
  refine ax_Tgo [.aload_n 0, .iload_n 1] (pc' := 2) (L' := [some (.inr (11, 0)), some (.inl (.int a1)), none]) (st' := [.inl (.int a1), .inr (11, 0)]) (S' := S) ok_X11_needs.1 (by decide +kernel) rfl rfl ?_
  obtain ⟨r4, hq2, h⟩ := ax_bd_e h
  refine ax_TVi (d := 3) (ka := 11) (i := 0) [.inl (.int a1)] [] lk_X11_183 (by decide +kernel) rfl (by decide) rfl (Nat.le_of_ble_eq_true rfl) (Nat.le_of_ble_eq_true rfl) ((t_X11_noSuchCaller hq2).up (by decide)) ?_
  refine ax_Tif_eq (off := 5) (tgt := 10) (by decide +kernel) (by decide) (fun c5 => ?_) (fun c5 => ?_)
  · rw [if_pos c5] at h
    refine ax_Tgo [.iconst 0, .istore_n 2] (pc' := 12) (L' := [some (.inr (11, 0)), some (.inl (.int a1)), some (.inl (.int (0 : Int32)))]) (st' := []) (S' := S) ok_X11_needs.1 (by decide +kernel) rfl rfl ?_
    refine t_X11_needs_L12 _ a1 (0 : Int32) S _ _ h
  · rw [if_neg c5] at h
    refine ax_Tgo [.iconst (-1)] (pc' := 9) (L' := [some (.inr (11, 0)), some (.inl (.int a1)), none]) (st' := [.inl (.int (Int32.ofInt (-1)))]) (S' := S) ok_X11_needs.1 (by decide +kernel) rfl rfl ?_
    cases h
    exact ax_Treti (by decide +kernel) rfl rfl
def f_X11_nextInQueue_L8 (K69 : Int32 → AS → Option (Int32 × AS)) : Nat → Int32 → Int32 → Int32 → Int32 → AS → Option (Int32 × AS)
  | 0, _, _, _, _, _ => none
  | n + 1, x1, x2, x3, x4, S6 => (if (ax_fi S6 4 (ax_fx S6 11 0 14) 5) ≤ x4 then K69 x2 S6 else (if ((x1 >>> (x4 &&& 31)) &&& (1 : Int32)) = (0 : Int32) then ax_bu (f_X6_beatsNow 0 x4 S6) (fun (r16 : Int32) (S13 : AS) => (if x3 ≤ r16 then ax_let (x4 + (1 : Int32)) (fun (v18 : Int32) => f_X11_nextInQueue_L8 K69 n x1 x2 x3 v18 S13) else ax_bu (f_X6_beatsNow 0 x4 S13) (fun (r22 : Int32) (S19 : AS) => ax_let (x4 + (1 : Int32)) (fun (v23 : Int32) => f_X11_nextInQueue_L8 K69 n x1 x4 r22 v23 S19)))) else ax_let (x4 + (1 : Int32)) (fun (v12 : Int32) => f_X11_nextInQueue_L8 K69 n x1 x2 x3 v12 S6)))
def f_X11_nextInQueue (a1 : Int32) (S : AS) : Option (Int32 × AS) := f_X11_nextInQueue_L8 (fun (x5 : Int32) (S24 : AS) => some (x5, S24)) ax_F a1 (Int32.ofInt (-1)) (61 : Int32) (0 : Int32) S
set_option maxRecDepth 100000 in
theorem t_X11_nextInQueue_L8 {l : Launch} {K69 : Int32 → AS → Option (Int32 × AS)} (hK69 : ∀ (x5 : Int32) (S : AS) r Z, K69 x5 S = some (r, Z) → ax_T l 4 ma_X11_nextInQueue (69, [none, none, some (.inl (.int x5)), none, none], [], S) (some (.inl (.int r))) Z) : ∀ (n : Nat) (x1 : Int32) (x2 : Int32) (x3 : Int32) (x4 : Int32) (S6 : AS) r Z, f_X11_nextInQueue_L8 K69 n x1 x2 x3 x4 S6 = some (r, Z) → ax_T l 4 ma_X11_nextInQueue (8, [some (.inr (11, 0)), some (.inl (.int x1)), some (.inl (.int x2)), some (.inl (.int x3)), some (.inl (.int x4))], [], S6) (some (.inl (.int r))) Z := by
  intro n
  induction n with
  | zero =>
    intro x1 x2 x3 x4 S6 r Z h
    cases h
  | succ n ih =>
    intro x1 x2 x3 x4 S6 r Z h
    unfold f_X11_nextInQueue_L8 at h
    refine ax_Tgo [.iload 4, .aload_n 0, .getfield 93] (pc' := 14) (L' := [some (.inr (11, 0)), some (.inl (.int x1)), some (.inl (.int x2)), some (.inl (.int x3)), some (.inl (.int x4))]) (st' := [.inr (4, (ax_fx S6 11 0 14)), .inl (.int x4)]) (S' := S6) ok_X11_nextInQueue.1 (by decide +kernel) rfl rfl ?_
    refine ax_TVi (d := 3) (ka := 4) (i := (ax_fx S6 11 0 14)) [] [.inl (.int x4)] lk_X11_147 (by decide +kernel) rfl (by decide) rfl (Nat.le_of_ble_eq_true rfl) (Nat.le_of_ble_eq_true rfl) ((t_X4_callers rfl).up (by decide)) ?_
    refine ax_Tic_ge (off := 52) (tgt := 69) (by decide +kernel) (by decide) (fun c10 => ?_) (fun c10 => ?_)
    · rw [if_pos c10] at h
      refine ax_Tdrop [false, false, true, false, false] (L' := [none, none, some (.inl (.int x2)), none, none]) rfl ?_
      exact hK69 x2 S6 _ _ h
    · rw [if_neg c10] at h
      refine ax_Tgo [.iload_n 1, .iload 4, .ishr, .iconst 1, .iand] (pc' := 26) (L' := [some (.inr (11, 0)), some (.inl (.int x1)), some (.inl (.int x2)), some (.inl (.int x3)), some (.inl (.int x4))]) (st' := [.inl (.int ((x1 >>> (x4 &&& 31)) &&& (1 : Int32)))]) (S' := S6) ok_X11_nextInQueue.1 (by decide +kernel) rfl rfl ?_
      refine ax_Tif_ne (off := 37) (tgt := 63) (by decide +kernel) (by decide) (fun c11 => ?_) (fun c11 => ?_)
      · rw [if_neg c11] at h
        refine ax_Tgo [.iinc 4 1] (pc' := 66) (L' := [some (.inr (11, 0)), some (.inl (.int x1)), some (.inl (.int x2)), some (.inl (.int x3)), some (.inl (.int (x4 + (1 : Int32))))]) (st' := []) (S' := S6) ok_X11_nextInQueue.1 (by decide +kernel) rfl rfl ?_
        obtain ⟨v12, ev12, h⟩ := ax_let_e h
        rw [ev12]
        refine ax_Tgoto (off := (-58)) (tgt := 8) (by decide +kernel) (by decide) ?_
        exact ih x1 x2 x3 v12 S6 _ _ h
      · rw [if_pos c11] at h
        refine ax_Tgo [.aload_n 0, .getfield 31, .aload_n 0, .getfield 69, .iload 4] (pc' := 39) (L' := [some (.inr (11, 0)), some (.inl (.int x1)), some (.inl (.int x2)), some (.inl (.int x3)), some (.inl (.int x4))]) (st' := [.inl (.int x4), .inr (9, 0), .inr (6, 0)]) (S' := S6) ok_X11_nextInQueue.1 (by decide +kernel) rfl rfl ?_
        obtain ⟨r16, S13, hq14, h⟩ := ax_bu_e h
        refine ax_TVi (d := 3) (ka := 6) (i := 0) [.inr (9, 0), .inl (.int x4)] [] lk_X11_284 (by decide +kernel) rfl (by decide) rfl (Nat.le_of_ble_eq_true rfl) (Nat.le_of_ble_eq_true rfl) ((t_X6_beatsNow hq14).up (by decide)) ?_
        refine ax_Tgo [.iload_n 3] (pc' := 43) (L' := [some (.inr (11, 0)), some (.inl (.int x1)), some (.inl (.int x2)), some (.inl (.int x3)), some (.inl (.int x4))]) (st' := [.inl (.int x3), .inl (.int r16)]) (S' := S13) ok_X11_nextInQueue.1 (by decide +kernel) rfl rfl ?_
        refine ax_Tic_ge (off := 20) (tgt := 63) (by decide +kernel) (by decide) (fun c17 => ?_) (fun c17 => ?_)
        · rw [if_pos c17] at h
          refine ax_Tgo [.iinc 4 1] (pc' := 66) (L' := [some (.inr (11, 0)), some (.inl (.int x1)), some (.inl (.int x2)), some (.inl (.int x3)), some (.inl (.int (x4 + (1 : Int32))))]) (st' := []) (S' := S13) ok_X11_nextInQueue.1 (by decide +kernel) rfl rfl ?_
          obtain ⟨v18, ev18, h⟩ := ax_let_e h
          rw [ev18]
          refine ax_Tgoto (off := (-58)) (tgt := 8) (by decide +kernel) (by decide) ?_
          exact ih x1 x2 x3 v18 S13 _ _ h
        · rw [if_neg c17] at h
          refine ax_Tgo [.iload 4, .istore_n 2, .aload_n 0, .getfield 31, .aload_n 0, .getfield 69, .iload 4] (pc' := 59) (L' := [some (.inr (11, 0)), some (.inl (.int x1)), some (.inl (.int x4)), some (.inl (.int x3)), some (.inl (.int x4))]) (st' := [.inl (.int x4), .inr (9, 0), .inr (6, 0)]) (S' := S13) ok_X11_nextInQueue.1 (by decide +kernel) rfl rfl ?_
          obtain ⟨r22, S19, hq20, h⟩ := ax_bu_e h
          refine ax_TVi (d := 3) (ka := 6) (i := 0) [.inr (9, 0), .inl (.int x4)] [] lk_X11_284 (by decide +kernel) rfl (by decide) rfl (Nat.le_of_ble_eq_true rfl) (Nat.le_of_ble_eq_true rfl) ((t_X6_beatsNow hq20).up (by decide)) ?_
          refine ax_Tgo [.istore_n 3, .iinc 4 1] (pc' := 66) (L' := [some (.inr (11, 0)), some (.inl (.int x1)), some (.inl (.int x4)), some (.inl (.int r22)), some (.inl (.int (x4 + (1 : Int32))))]) (st' := []) (S' := S19) ok_X11_nextInQueue.1 (by decide +kernel) rfl rfl ?_
          obtain ⟨v23, ev23, h⟩ := ax_let_e h
          rw [ev23]
          refine ax_Tgoto (off := (-58)) (tgt := 8) (by decide +kernel) (by decide) ?_
          exact ih x1 x4 r22 v23 S19 _ _ h
set_option maxRecDepth 100000 in
theorem t_X11_nextInQueue {l : Launch} {a1 : Int32} {S Z : AS} {r : Int32} (h : f_X11_nextInQueue a1 S = some (r, Z)) : ax_M l 4 ma_X11_nextInQueue [.inr (11, 0), .inl (.int a1)] S (some (.inl (.int r))) Z := by
  unfold f_X11_nextInQueue at h
  show ax_T l 4 ma_X11_nextInQueue (0, [some (.inr (11, 0)), some (.inl (.int a1)), none, none, none], [], S) (some (.inl (.int r))) Z
  refine ax_Tgo [.iconst (-1), .istore_n 2, .bipush 61, .istore_n 3, .iconst 0, .istore 4] (pc' := 8) (L' := [some (.inr (11, 0)), some (.inl (.int a1)), some (.inl (.int (Int32.ofInt (-1)))), some (.inl (.int (61 : Int32))), some (.inl (.int (0 : Int32)))]) (st' := []) (S' := S) ok_X11_nextInQueue.1 (by decide +kernel) rfl rfl ?_
  refine t_X11_nextInQueue_L8 ?_ _ a1 (Int32.ofInt (-1)) (61 : Int32) (0 : Int32) S _ _ h
  · intro x5 S24 r Z h
    refine ax_Tgo [.iload_n 2] (pc' := 70) (L' := [none, none, some (.inl (.int x5)), none, none]) (st' := [.inl (.int x5)]) (S' := S24) ok_X11_nextInQueue.1 (by decide +kernel) rfl rfl ?_
    cases h
    exact ax_Treti (by decide +kernel) rfl rfl
def f_X11_noSuchAfternoon (a1 : Int32) (S : AS) : Option (Int32) := (if a1 < (0 : Int32) then some (1 : Int32) else (if a1 < (ax_fi S 11 0 17) then some (0 : Int32) else some (1 : Int32)))
set_option maxRecDepth 100000 in
theorem t_X11_noSuchAfternoon {l : Launch} {a1 : Int32} {S : AS} {r : Int32} (h : f_X11_noSuchAfternoon a1 S = some r) : ax_M l 0 ma_X11_noSuchAfternoon [.inr (11, 0), .inl (.int a1)] S (some (.inl (.int r))) S := by
  unfold f_X11_noSuchAfternoon at h
  show ax_T l 0 ma_X11_noSuchAfternoon (0, [some (.inr (11, 0)), some (.inl (.int a1))], [], S) (some (.inl (.int r))) S
  refine ax_Tgo [.iload_n 1] (pc' := 1) (L' := [some (.inr (11, 0)), some (.inl (.int a1))]) (st' := [.inl (.int a1)]) (S' := S) ok_X11_noSuchAfternoon.1 (by decide +kernel) rfl rfl ?_
  refine ax_Tif_lt (off := 11) (tgt := 12) (by decide +kernel) (by decide) (fun c1 => ?_) (fun c1 => ?_)
  · rw [if_pos c1] at h
    refine ax_Tgo [.iconst 1] (pc' := 13) (L' := [some (.inr (11, 0)), some (.inl (.int a1))]) (st' := [.inl (.int (1 : Int32))]) (S' := S) ok_X11_noSuchAfternoon.1 (by decide +kernel) rfl rfl ?_
    refine ax_Tgoto (off := 4) (tgt := 17) (by decide +kernel) (by decide) ?_
    cases h
    exact ax_Treti (by decide +kernel) rfl rfl
  · rw [if_neg c1] at h
    refine ax_Tgo [.iload_n 1, .aload_n 0, .getfield 104] (pc' := 9) (L' := [some (.inr (11, 0)), some (.inl (.int a1))]) (st' := [.inl (.int (ax_fi S 11 0 17)), .inl (.int a1)]) (S' := S) ok_X11_noSuchAfternoon.1 (by decide +kernel) rfl rfl ?_
    refine ax_Tic_lt (off := 7) (tgt := 16) (by decide +kernel) (by decide) (fun c2 => ?_) (fun c2 => ?_)
    · rw [if_pos c2] at h
      refine ax_Tgo [.iconst 0] (pc' := 17) (L' := [some (.inr (11, 0)), some (.inl (.int a1))]) (st' := [.inl (.int (0 : Int32))]) (S' := S) ok_X11_noSuchAfternoon.1 (by decide +kernel) rfl rfl ?_
      cases h
      exact ax_Treti (by decide +kernel) rfl rfl
    · rw [if_neg c2] at h
      refine ax_Tgo [.iconst 1] (pc' := 13) (L' := [some (.inr (11, 0)), some (.inl (.int a1))]) (st' := [.inl (.int (1 : Int32))]) (S' := S) ok_X11_noSuchAfternoon.1 (by decide +kernel) rfl rfl ?_
      refine ax_Tgoto (off := 4) (tgt := 17) (by decide +kernel) (by decide) ?_
      cases h
      exact ax_Treti (by decide +kernel) rfl rfl
def f_X1_split_L2 (K24 : Int32 → Int32 → AS → Option (AS)) : Nat → Int32 → Int32 → Int32 → AS → Option (AS)
  | 0, _, _, _, _ => none
  | n + 1, x1, x2, x3, S6 => (if (Int32.ofNat 32) ≤ x3 then K24 x1 x2 S6 else ax_gd (ax_in x3 32) (ax_let (ax_sal S6 22 0 x3.toNatClampNeg (0 : Int64)) (fun (S9 : AS) => ax_let (x3 + (1 : Int32)) (fun (v10 : Int32) => f_X1_split_L2 K24 n x1 x2 v10 S9))))
def f_X1_split_L53 (K106 : Int32 → Int32 → Int32 → AS → Option (AS)) : Nat → Int32 → Int32 → Int32 → Int32 → Int32 → AS → Option (AS)
  | 0, _, _, _, _, _, _ => none
  | n + 1, x21, x22, x23, x24, x25, S29 => (if x24 ≤ x25 then K106 x21 x22 x23 S29 else ax_gd (ax_in x25 32) (ax_let (((ax_al S29 22 0 x25.toNatClampNeg) * x22.toInt64) / (100 : Int64)) (fun (v33 : Int64) => ax_gd (ax_in x25 32) (ax_gd (ax_in x25 32) (ax_let (ax_sal S29 22 0 x25.toNatClampNeg ((ax_al S29 22 0 x25.toNatClampNeg) - v33)) (fun (S36 : AS) => ax_gd (ax_in (x24 + x25) 32) (ax_let (ax_sal S36 22 0 (x24 + x25).toNatClampNeg v33) (fun (S38 : AS) => ax_let (x25 + (1 : Int32)) (fun (v39 : Int32) => f_X1_split_L53 K106 n x21 x22 x23 x24 v39 S38)))))))))
def f_X1_split_L35 (K112 : AS → Option (AS)) : Nat → Int32 → Int32 → Int32 → AS → Option (AS)
  | 0, _, _, _, _ => none
  | n + 1, x14, x15, x16, S17 => (if x14 ≤ x16 then K112 S17 else (if (5 : Int32) ≤ x16 then K112 S17 else ax_let ((1 : Int32) <<< (x16 &&& 31)) (fun (v20 : Int32) => f_X1_split_L53 (fun (x26 : Int32) (x27 : Int32) (x28 : Int32) (S40 : AS) => ax_let (x28 + (1 : Int32)) (fun (v41 : Int32) => f_X1_split_L35 K112 n x26 x27 v41 S40)) ax_F x14 x15 x16 v20 (0 : Int32) S17)))
def f_X1_split (a1 : Int32) (a2 : Int32) (S : AS) : Option (AS) := f_X1_split_L2 (fun (x4 : Int32) (x5 : Int32) (S11 : AS) => ax_gd (ax_in (0 : Int32) 32) (ax_let (ax_sal S11 22 0 (0 : Int32).toNatClampNeg (1000000000 : Int64)) (fun (S13 : AS) => f_X1_split_L35 (fun (S42 : AS) => some S42) ax_F x4 x5 (0 : Int32) S13))) ax_F a1 a2 (0 : Int32) S
set_option maxRecDepth 100000 in
theorem t_X1_split_L2 {l : Launch} {K24 : Int32 → Int32 → AS → Option (AS)} (hK24 : ∀ (x4 : Int32) (x5 : Int32) (S : AS) Z, K24 x4 x5 S = some Z → ax_T l 0 ma_X1_split (24, [some (.inr (1, 0)), some (.inl (.int x4)), some (.inl (.int x5)), none, none, none, none, none], [], S) none Z) : ∀ (n : Nat) (x1 : Int32) (x2 : Int32) (x3 : Int32) (S6 : AS) Z, f_X1_split_L2 K24 n x1 x2 x3 S6 = some Z → ax_T l 0 ma_X1_split (2, [some (.inr (1, 0)), some (.inl (.int x1)), some (.inl (.int x2)), some (.inl (.int x3)), none, none, none, none], [], S6) none Z := by
  intro n
  induction n with
  | zero =>
    intro x1 x2 x3 S6 Z h
    cases h
  | succ n ih =>
    intro x1 x2 x3 S6 Z h
    unfold f_X1_split_L2 at h
    refine ax_Tgo [.iload_n 3, .aload_n 0, .getfield 9, .arraylength] (pc' := 8) (L' := [some (.inr (1, 0)), some (.inl (.int x1)), some (.inl (.int x2)), some (.inl (.int x3)), none, none, none, none]) (st' := [.inl (.int (Int32.ofNat 32)), .inl (.int x3)]) (S' := S6) ok_X1_split.1 (by decide +kernel) rfl rfl ?_
    refine ax_Tic_ge (off := 16) (tgt := 24) (by decide +kernel) (by decide) (fun c7 => ?_) (fun c7 => ?_)
    · rw [if_pos c7] at h
      refine ax_Tdrop [true, true, true, false, true, true, true, true] (L' := [some (.inr (1, 0)), some (.inl (.int x1)), some (.inl (.int x2)), none, none, none, none, none]) rfl ?_
      exact hK24 x1 x2 S6 _ h
    · rw [if_neg c7] at h
      refine ax_Tgo [.aload_n 0, .getfield 9, .iload_n 3, .lconst 0] (pc' := 17) (L' := [some (.inr (1, 0)), some (.inl (.int x1)), some (.inl (.int x2)), some (.inl (.int x3)), none, none, none, none]) (st' := [.inl (.long (0 : Int64)), .inl (.int x3), .inr (22, 0)]) (S' := S6) ok_X1_split.1 (by decide +kernel) rfl rfl ?_
      obtain ⟨g8, h⟩ := ax_gd_e h
      refine ax_Tasl (n := 32) ok_X1_split.1 (by decide +kernel) (by decide) rfl g8 ?_
      obtain ⟨S9, eS9, h⟩ := ax_let_e h
      rw [eS9]
      refine ax_Tgo [.iinc 3 1] (pc' := 21) (L' := [some (.inr (1, 0)), some (.inl (.int x1)), some (.inl (.int x2)), some (.inl (.int (x3 + (1 : Int32)))), none, none, none, none]) (st' := []) (S' := S9) ok_X1_split.1 (by decide +kernel) rfl rfl ?_
      obtain ⟨v10, ev10, h⟩ := ax_let_e h
      rw [ev10]
      refine ax_Tgoto (off := (-19)) (tgt := 2) (by decide +kernel) (by decide) ?_
      exact ih x1 x2 v10 S9 _ h
set_option maxRecDepth 100000 in
theorem t_X1_split_L53 {l : Launch} {K106 : Int32 → Int32 → Int32 → AS → Option (AS)} (hK106 : ∀ (x26 : Int32) (x27 : Int32) (x28 : Int32) (S : AS) Z, K106 x26 x27 x28 S = some Z → ax_T l 0 ma_X1_split (106, [some (.inr (1, 0)), some (.inl (.int x26)), some (.inl (.int x27)), some (.inl (.int x28)), none, none, none, none], [], S) none Z) : ∀ (n : Nat) (x21 : Int32) (x22 : Int32) (x23 : Int32) (x24 : Int32) (x25 : Int32) (S29 : AS) Z, f_X1_split_L53 K106 n x21 x22 x23 x24 x25 S29 = some Z → ax_T l 0 ma_X1_split (53, [some (.inr (1, 0)), some (.inl (.int x21)), some (.inl (.int x22)), some (.inl (.int x23)), some (.inl (.int x24)), some (.inl (.int x25)), none, none], [], S29) none Z := by
  intro n
  induction n with
  | zero =>
    intro x21 x22 x23 x24 x25 S29 Z h
    cases h
  | succ n ih =>
    intro x21 x22 x23 x24 x25 S29 Z h
    unfold f_X1_split_L53 at h
    refine ax_Tgo [.iload 5, .iload 4] (pc' := 57) (L' := [some (.inr (1, 0)), some (.inl (.int x21)), some (.inl (.int x22)), some (.inl (.int x23)), some (.inl (.int x24)), some (.inl (.int x25)), none, none]) (st' := [.inl (.int x24), .inl (.int x25)]) (S' := S29) ok_X1_split.1 (by decide +kernel) rfl rfl ?_
    refine ax_Tic_ge (off := 49) (tgt := 106) (by decide +kernel) (by decide) (fun c30 => ?_) (fun c30 => ?_)
    · rw [if_pos c30] at h
      refine ax_Tdrop [true, true, true, true, false, false, true, true] (L' := [some (.inr (1, 0)), some (.inl (.int x21)), some (.inl (.int x22)), some (.inl (.int x23)), none, none, none, none]) rfl ?_
      exact hK106 x21 x22 x23 S29 _ h
    · rw [if_neg c30] at h
      refine ax_Tgo [.aload_n 0, .getfield 9, .iload 5] (pc' := 66) (L' := [some (.inr (1, 0)), some (.inl (.int x21)), some (.inl (.int x22)), some (.inl (.int x23)), some (.inl (.int x24)), some (.inl (.int x25)), none, none]) (st' := [.inl (.int x25), .inr (22, 0)]) (S' := S29) ok_X1_split.1 (by decide +kernel) rfl rfl ?_
      obtain ⟨g31, h⟩ := ax_gd_e h
      refine ax_Tall (n := 32) ok_X1_split.1 (by decide +kernel) (by decide) rfl g31 ?_
      refine ax_Tgo [.iload_n 2, .i2l, .lmul, .ldc2_w 29] (pc' := 73) (L' := [some (.inr (1, 0)), some (.inl (.int x21)), some (.inl (.int x22)), some (.inl (.int x23)), some (.inl (.int x24)), some (.inl (.int x25)), none, none]) (st' := [.inl (.long (100 : Int64)), .inl (.long ((ax_al S29 22 0 x25.toNatClampNeg) * x22.toInt64))]) (S' := S29) ok_X1_split.1 (by decide +kernel) rfl rfl ?_
      refine ax_Tldiv ok_X1_split.1 (by decide +kernel) (by decide) ?_
      refine ax_Tgo [.lstore 6] (pc' := 76) (L' := [some (.inr (1, 0)), some (.inl (.int x21)), some (.inl (.int x22)), some (.inl (.int x23)), some (.inl (.int x24)), some (.inl (.int x25)), some (.inl (.long (((ax_al S29 22 0 x25.toNatClampNeg) * x22.toInt64) / (100 : Int64)))), none]) (st' := []) (S' := S29) ok_X1_split.1 (by decide +kernel) rfl rfl ?_
      obtain ⟨v33, ev33, h⟩ := ax_let_e h
      rw [ev33]
      refine ax_Tgo [.aload_n 0, .getfield 9, .iload 5, .dup2] (pc' := 83) (L' := [some (.inr (1, 0)), some (.inl (.int x21)), some (.inl (.int x22)), some (.inl (.int x23)), some (.inl (.int x24)), some (.inl (.int x25)), some (.inl (.long v33)), none]) (st' := [.inl (.int x25), .inr (22, 0), .inl (.int x25), .inr (22, 0)]) (S' := S29) ok_X1_split.1 (by decide +kernel) rfl rfl ?_
      obtain ⟨g34, h⟩ := ax_gd_e h
      refine ax_Tall (n := 32) ok_X1_split.1 (by decide +kernel) (by decide) rfl g34 ?_
      refine ax_Tgo [.lload 6, .lsub] (pc' := 87) (L' := [some (.inr (1, 0)), some (.inl (.int x21)), some (.inl (.int x22)), some (.inl (.int x23)), some (.inl (.int x24)), some (.inl (.int x25)), some (.inl (.long v33)), none]) (st' := [.inl (.long ((ax_al S29 22 0 x25.toNatClampNeg) - v33)), .inl (.int x25), .inr (22, 0)]) (S' := S29) ok_X1_split.1 (by decide +kernel) rfl rfl ?_
      obtain ⟨g35, h⟩ := ax_gd_e h
      refine ax_Tasl (n := 32) ok_X1_split.1 (by decide +kernel) (by decide) rfl g35 ?_
      obtain ⟨S36, eS36, h⟩ := ax_let_e h
      rw [eS36]
      refine ax_Tgo [.aload_n 0, .getfield 9, .iload 4, .iload 5, .iadd, .lload 6] (pc' := 99) (L' := [some (.inr (1, 0)), some (.inl (.int x21)), some (.inl (.int x22)), some (.inl (.int x23)), some (.inl (.int x24)), some (.inl (.int x25)), some (.inl (.long v33)), none]) (st' := [.inl (.long v33), .inl (.int (x24 + x25)), .inr (22, 0)]) (S' := S36) ok_X1_split.1 (by decide +kernel) rfl rfl ?_
      obtain ⟨g37, h⟩ := ax_gd_e h
      refine ax_Tasl (n := 32) ok_X1_split.1 (by decide +kernel) (by decide) rfl g37 ?_
      obtain ⟨S38, eS38, h⟩ := ax_let_e h
      rw [eS38]
      refine ax_Tgo [.iinc 5 1] (pc' := 103) (L' := [some (.inr (1, 0)), some (.inl (.int x21)), some (.inl (.int x22)), some (.inl (.int x23)), some (.inl (.int x24)), some (.inl (.int (x25 + (1 : Int32)))), some (.inl (.long v33)), none]) (st' := []) (S' := S38) ok_X1_split.1 (by decide +kernel) rfl rfl ?_
      obtain ⟨v39, ev39, h⟩ := ax_let_e h
      rw [ev39]
      refine ax_Tgoto (off := (-50)) (tgt := 53) (by decide +kernel) (by decide) ?_
      refine ax_Tdrop [true, true, true, true, true, true, false, true] (L' := [some (.inr (1, 0)), some (.inl (.int x21)), some (.inl (.int x22)), some (.inl (.int x23)), some (.inl (.int x24)), some (.inl (.int v39)), none, none]) rfl ?_
      exact ih x21 x22 x23 x24 v39 S38 _ h
set_option maxRecDepth 100000 in
theorem t_X1_split_L35 {l : Launch} {K112 : AS → Option (AS)} (hK112 : ∀ (S : AS) Z, K112 S = some Z → ax_T l 0 ma_X1_split (112, [none, none, none, none, none, none, none, none], [], S) none Z) : ∀ (n : Nat) (x14 : Int32) (x15 : Int32) (x16 : Int32) (S17 : AS) Z, f_X1_split_L35 K112 n x14 x15 x16 S17 = some Z → ax_T l 0 ma_X1_split (35, [some (.inr (1, 0)), some (.inl (.int x14)), some (.inl (.int x15)), some (.inl (.int x16)), none, none, none, none], [], S17) none Z := by
  intro n
  induction n with
  | zero =>
    intro x14 x15 x16 S17 Z h
    cases h
  | succ n ih =>
    intro x14 x15 x16 S17 Z h
    unfold f_X1_split_L35 at h
    refine ax_Tgo [.iload_n 3, .iload_n 1] (pc' := 37) (L' := [some (.inr (1, 0)), some (.inl (.int x14)), some (.inl (.int x15)), some (.inl (.int x16)), none, none, none, none]) (st' := [.inl (.int x14), .inl (.int x16)]) (S' := S17) ok_X1_split.1 (by decide +kernel) rfl rfl ?_
    refine ax_Tic_ge (off := 75) (tgt := 112) (by decide +kernel) (by decide) (fun c18 => ?_) (fun c18 => ?_)
    · rw [if_pos c18] at h
      refine ax_Tdrop [false, false, false, false, true, true, true, true] (L' := [none, none, none, none, none, none, none, none]) rfl ?_
      exact hK112 S17 _ h
    · rw [if_neg c18] at h
      refine ax_Tgo [.iload_n 3, .iconst 5] (pc' := 42) (L' := [some (.inr (1, 0)), some (.inl (.int x14)), some (.inl (.int x15)), some (.inl (.int x16)), none, none, none, none]) (st' := [.inl (.int (5 : Int32)), .inl (.int x16)]) (S' := S17) ok_X1_split.1 (by decide +kernel) rfl rfl ?_
      refine ax_Tic_ge (off := 70) (tgt := 112) (by decide +kernel) (by decide) (fun c19 => ?_) (fun c19 => ?_)
      · rw [if_pos c19] at h
        refine ax_Tdrop [false, false, false, false, true, true, true, true] (L' := [none, none, none, none, none, none, none, none]) rfl ?_
        exact hK112 S17 _ h
      · rw [if_neg c19] at h
        refine ax_Tgo [.iconst 1, .iload_n 3, .ishl, .istore 4] (pc' := 50) (L' := [some (.inr (1, 0)), some (.inl (.int x14)), some (.inl (.int x15)), some (.inl (.int x16)), some (.inl (.int ((1 : Int32) <<< (x16 &&& 31)))), none, none, none]) (st' := []) (S' := S17) ok_X1_split.1 (by decide +kernel) rfl rfl ?_
        obtain ⟨v20, ev20, h⟩ := ax_let_e h
        rw [ev20]
        refine ax_Tgo [.iconst 0, .istore 5] (pc' := 53) (L' := [some (.inr (1, 0)), some (.inl (.int x14)), some (.inl (.int x15)), some (.inl (.int x16)), some (.inl (.int v20)), some (.inl (.int (0 : Int32))), none, none]) (st' := []) (S' := S17) ok_X1_split.1 (by decide +kernel) rfl rfl ?_
        refine t_X1_split_L53 ?_ _ x14 x15 x16 v20 (0 : Int32) S17 _ h
        · intro x26 x27 x28 S40 Z h
          refine ax_Tgo [.iinc 3 1] (pc' := 109) (L' := [some (.inr (1, 0)), some (.inl (.int x26)), some (.inl (.int x27)), some (.inl (.int (x28 + (1 : Int32)))), none, none, none, none]) (st' := []) (S' := S40) ok_X1_split.1 (by decide +kernel) rfl rfl ?_
          obtain ⟨v41, ev41, h⟩ := ax_let_e h
          rw [ev41]
          refine ax_Tgoto (off := (-74)) (tgt := 35) (by decide +kernel) (by decide) ?_
          exact ih x26 x27 v41 S40 _ h
set_option maxRecDepth 100000 in
theorem t_X1_split {l : Launch} {a1 : Int32} {a2 : Int32} {S Z : AS} (h : f_X1_split a1 a2 S = some Z) : ax_M l 0 ma_X1_split [.inr (1, 0), .inl (.int a1), .inl (.int a2)] S none Z := by
  unfold f_X1_split at h
  show ax_T l 0 ma_X1_split (0, [some (.inr (1, 0)), some (.inl (.int a1)), some (.inl (.int a2)), none, none, none, none, none], [], S) none Z
  refine ax_Tgo [.iconst 0, .istore_n 3] (pc' := 2) (L' := [some (.inr (1, 0)), some (.inl (.int a1)), some (.inl (.int a2)), some (.inl (.int (0 : Int32))), none, none, none, none]) (st' := []) (S' := S) ok_X1_split.1 (by decide +kernel) rfl rfl ?_
  refine t_X1_split_L2 ?_ _ a1 a2 (0 : Int32) S _ h
  · intro x4 x5 S11 Z h
    refine ax_Tgo [.aload_n 0, .getfield 9, .iconst 0, .ldc2_w 27] (pc' := 32) (L' := [some (.inr (1, 0)), some (.inl (.int x4)), some (.inl (.int x5)), none, none, none, none, none]) (st' := [.inl (.long (1000000000 : Int64)), .inl (.int (0 : Int32)), .inr (22, 0)]) (S' := S11) ok_X1_split.1 (by decide +kernel) rfl rfl ?_
    obtain ⟨g12, h⟩ := ax_gd_e h
    refine ax_Tasl (n := 32) ok_X1_split.1 (by decide +kernel) (by decide) rfl g12 ?_
    obtain ⟨S13, eS13, h⟩ := ax_let_e h
    rw [eS13]
    refine ax_Tgo [.iconst 0, .istore_n 3] (pc' := 35) (L' := [some (.inr (1, 0)), some (.inl (.int x4)), some (.inl (.int x5)), some (.inl (.int (0 : Int32))), none, none, none, none]) (st' := []) (S' := S13) ok_X1_split.1 (by decide +kernel) rfl rfl ?_
    refine t_X1_split_L35 ?_ _ x4 x5 (0 : Int32) S13 _ h
    · intro S42 Z h
      cases h
      exact ax_Tretv (by decide +kernel) rfl
def f_X1_partOf_L5 (S : AS) (K44 : Int64 → Option (Int64)) : Nat → Int32 → Int64 → Int32 → Option (Int64)
  | 0, _, _, _ => none
  | n + 1, x1, x2, x3 => (if (Int32.ofNat 32) ≤ x3 then K44 x2 else (f_J6_bitCount_0f7a4 x3 S).bind (fun (r9 : Int32) => (if r9 = x1 then ax_gd (ax_in x3 32) (ax_let (x2 + (ax_al S 22 0 x3.toNatClampNeg)) (fun (v14 : Int64) => ax_let (x3 + (1 : Int32)) (fun (v15 : Int32) => f_X1_partOf_L5 S K44 n x1 v14 v15))) else ax_let (x2 + (0 : Int64)) (fun (v11 : Int64) => ax_let (x3 + (1 : Int32)) (fun (v12 : Int32) => f_X1_partOf_L5 S K44 n x1 v11 v12)))))
def f_X1_partOf (a1 : Int32) (S : AS) : Option (Int64) := f_X1_partOf_L5 S (fun (x4 : Int64)  => some x4) ax_F a1 (0 : Int64) (0 : Int32)
set_option maxRecDepth 100000 in
theorem t_X1_partOf_L5 {l : Launch} {S : AS} {K44 : Int64 → Option (Int64)} (hK44 : ∀ (x4 : Int64) r, K44 x4  = some r → ax_T l 1 ma_X1_partOf (44, [none, none, some (.inl (.long x4)), none, none], [], S) (some (.inl (.long r))) S) : ∀ (n : Nat) (x1 : Int32) (x2 : Int64) (x3 : Int32) r, f_X1_partOf_L5 S K44 n x1 x2 x3  = some r → ax_T l 1 ma_X1_partOf (5, [some (.inr (1, 0)), some (.inl (.int x1)), some (.inl (.long x2)), none, some (.inl (.int x3))], [], S) (some (.inl (.long r))) S := by
  intro n
  induction n with
  | zero =>
    intro x1 x2 x3  r h
    cases h
  | succ n ih =>
    intro x1 x2 x3  r h
    unfold f_X1_partOf_L5 at h
    refine ax_Tgo [.iload 4, .aload_n 0, .getfield 9, .arraylength] (pc' := 12) (L' := [some (.inr (1, 0)), some (.inl (.int x1)), some (.inl (.long x2)), none, some (.inl (.int x3))]) (st' := [.inl (.int (Int32.ofNat 32)), .inl (.int x3)]) (S' := S) ok_X1_partOf.1 (by decide +kernel) rfl rfl ?_
    refine ax_Tic_ge (off := 32) (tgt := 44) (by decide +kernel) (by decide) (fun c5 => ?_) (fun c5 => ?_)
    · rw [if_pos c5] at h
      refine ax_Tdrop [false, false, true, true, false] (L' := [none, none, some (.inl (.long x2)), none, none]) rfl ?_
      exact hK44 x2 _ h
    · rw [if_neg c5] at h
      refine ax_Tgo [.lload_n 2, .iload 4] (pc' := 18) (L' := [some (.inr (1, 0)), some (.inl (.int x1)), some (.inl (.long x2)), none, some (.inl (.int x3))]) (st' := [.inl (.int x3), .inl (.long x2)]) (S' := S) ok_X1_partOf.1 (by decide +kernel) rfl rfl ?_
      obtain ⟨r9, hq7, h⟩ := ax_bd_e h
      refine ax_TSi (d := 0) [.inl (.int x3)] [.inl (.long x2)] lk_X1_31 (by decide +kernel) rfl rfl (Nat.le_of_ble_eq_true rfl) (Nat.le_of_ble_eq_true rfl) ((t_J6_bitCount_0f7a4 hq7).up (by decide)) ?_
      refine ax_Tgo [.iload_n 1] (pc' := 22) (L' := [some (.inr (1, 0)), some (.inl (.int x1)), some (.inl (.long x2)), none, some (.inl (.int x3))]) (st' := [.inl (.int x1), .inl (.int r9), .inl (.long x2)]) (S' := S) ok_X1_partOf.1 (by decide +kernel) rfl rfl ?_
      refine ax_Tic_ne (off := 13) (tgt := 35) (by decide +kernel) (by decide) (fun c10 => ?_) (fun c10 => ?_)
      · rw [if_neg c10] at h
        refine ax_Tgo [.lconst 0, .ladd, .lstore_n 2] (pc' := 38) (L' := [some (.inr (1, 0)), some (.inl (.int x1)), some (.inl (.long (x2 + (0 : Int64)))), none, some (.inl (.int x3))]) (st' := []) (S' := S) ok_X1_partOf.1 (by decide +kernel) rfl rfl ?_
        obtain ⟨v11, ev11, h⟩ := ax_let_e h
        rw [ev11]
        refine ax_Tgo [.iinc 4 1] (pc' := 41) (L' := [some (.inr (1, 0)), some (.inl (.int x1)), some (.inl (.long v11)), none, some (.inl (.int (x3 + (1 : Int32))))]) (st' := []) (S' := S) ok_X1_partOf.1 (by decide +kernel) rfl rfl ?_
        obtain ⟨v12, ev12, h⟩ := ax_let_e h
        rw [ev12]
        refine ax_Tgoto (off := (-36)) (tgt := 5) (by decide +kernel) (by decide) ?_
        exact ih x1 v11 v12 _ h
      · rw [if_pos c10] at h
        refine ax_Tgo [.aload_n 0, .getfield 9, .iload 4] (pc' := 31) (L' := [some (.inr (1, 0)), some (.inl (.int x1)), some (.inl (.long x2)), none, some (.inl (.int x3))]) (st' := [.inl (.int x3), .inr (22, 0), .inl (.long x2)]) (S' := S) ok_X1_partOf.1 (by decide +kernel) rfl rfl ?_
        obtain ⟨g13, h⟩ := ax_gd_e h
        refine ax_Tall (n := 32) ok_X1_partOf.1 (by decide +kernel) (by decide) rfl g13 ?_
        refine ax_Tgoto (off := 4) (tgt := 36) (by decide +kernel) (by decide) ?_
        refine ax_Tgo [.ladd, .lstore_n 2] (pc' := 38) (L' := [some (.inr (1, 0)), some (.inl (.int x1)), some (.inl (.long (x2 + (ax_al S 22 0 x3.toNatClampNeg)))), none, some (.inl (.int x3))]) (st' := []) (S' := S) ok_X1_partOf.1 (by decide +kernel) rfl rfl ?_
        obtain ⟨v14, ev14, h⟩ := ax_let_e h
        rw [ev14]
        refine ax_Tgo [.iinc 4 1] (pc' := 41) (L' := [some (.inr (1, 0)), some (.inl (.int x1)), some (.inl (.long v14)), none, some (.inl (.int (x3 + (1 : Int32))))]) (st' := []) (S' := S) ok_X1_partOf.1 (by decide +kernel) rfl rfl ?_
        obtain ⟨v15, ev15, h⟩ := ax_let_e h
        rw [ev15]
        refine ax_Tgoto (off := (-36)) (tgt := 5) (by decide +kernel) (by decide) ?_
        exact ih x1 v14 v15 _ h
set_option maxRecDepth 100000 in
theorem t_X1_partOf {l : Launch} {a1 : Int32} {S : AS} {r : Int64} (h : f_X1_partOf a1 S = some r) : ax_M l 1 ma_X1_partOf [.inr (1, 0), .inl (.int a1)] S (some (.inl (.long r))) S := by
  unfold f_X1_partOf at h
  show ax_T l 1 ma_X1_partOf (0, [some (.inr (1, 0)), some (.inl (.int a1)), none, none, none], [], S) (some (.inl (.long r))) S
  refine ax_Tgo [.lconst 0, .lstore_n 2, .iconst 0, .istore 4] (pc' := 5) (L' := [some (.inr (1, 0)), some (.inl (.int a1)), some (.inl (.long (0 : Int64))), none, some (.inl (.int (0 : Int32)))]) (st' := []) (S' := S) ok_X1_partOf.1 (by decide +kernel) rfl rfl ?_
  refine t_X1_partOf_L5 ?_ _ a1 (0 : Int64) (0 : Int32) _ h
  · intro x4  r h
    refine ax_Tgo [.lload_n 2] (pc' := 45) (L' := [none, none, some (.inl (.long x4)), none, none]) (st' := [.inl (.long x4)]) (S' := S) ok_X1_partOf.1 (by decide +kernel) rfl rfl ?_
    cases h
    exact ax_Tretl (by decide +kernel) rfl
def f_X11_odds_L45 (K98 : Int64 → AS → Option (Int32 × AS)) : Nat → Int32 → Int32 → Int64 → Int32 → AS → Option (Int32 × AS)
  | 0, _, _, _, _, _ => none
  | n + 1, x15, x16, x17, x18, S20 => (if x16 < x18 then K98 x17 S20 else ax_bu (f_X6_beatsHard 0 x15 (x16 - x18) S20) (fun (r25 : Int32) (S22 : AS) => (f_X6_doneBy x15 r25 S22).bind (fun (r29 : Int32) => (if r29 = (0 : Int32) then ax_let (x18 + (1 : Int32)) (fun (v31 : Int32) => f_X11_odds_L45 K98 n x15 x16 x17 v31 S22) else (f_X1_partOf x18 S22).bind (fun (r35 : Int64) => ax_let (x17 + r35) (fun (v36 : Int64) => ax_let (x18 + (1 : Int32)) (fun (v37 : Int32) => f_X11_odds_L45 K98 n x15 x16 v36 v37 S22)))))))
def f_X11_odds (a1 : Int32) (a2 : Int32) (S : AS) : Option (Int32 × AS) := (f_X11_noSuchCaller a1 S).bind (fun (r4 : Int32) => (if r4 = (0 : Int32) then (if a2 < (0 : Int32) then some ((Int32.ofInt (-1)), S) else (if a2 ≤ (100 : Int32) then (f_X4_traitOf (ax_fx S 11 0 14) a1 (1 : Int32) S).bind (fun (r11 : Int32) => (f_X1_split r11 a2 S).bind (fun (S12 : AS) => f_X11_odds_L45 (fun (x19 : Int64) (S38 : AS) => some (x19.toInt32, S38)) ax_F a1 r11 (0 : Int64) (0 : Int32) S12)) else some ((Int32.ofInt (-1)), S))) else some ((Int32.ofInt (-1)), S)))
set_option maxRecDepth 100000 in
theorem t_X11_odds_L45 {l : Launch} {K98 : Int64 → AS → Option (Int32 × AS)} (hK98 : ∀ (x19 : Int64) (S : AS) r Z, K98 x19 S = some (r, Z) → ax_T l 4 ma_X11_odds (98, [none, none, none, none, some (.inl (.long x19)), none, none], [], S) (some (.inl (.int r))) Z) : ∀ (n : Nat) (x15 : Int32) (x16 : Int32) (x17 : Int64) (x18 : Int32) (S20 : AS) r Z, f_X11_odds_L45 K98 n x15 x16 x17 x18 S20 = some (r, Z) → ax_T l 4 ma_X11_odds (45, [some (.inr (11, 0)), some (.inl (.int x15)), none, some (.inl (.int x16)), some (.inl (.long x17)), none, some (.inl (.int x18))], [], S20) (some (.inl (.int r))) Z := by
  intro n
  induction n with
  | zero =>
    intro x15 x16 x17 x18 S20 r Z h
    cases h
  | succ n ih =>
    intro x15 x16 x17 x18 S20 r Z h
    unfold f_X11_odds_L45 at h
    refine ax_Tgo [.iload 6, .iload_n 3] (pc' := 48) (L' := [some (.inr (11, 0)), some (.inl (.int x15)), none, some (.inl (.int x16)), some (.inl (.long x17)), none, some (.inl (.int x18))]) (st' := [.inl (.int x16), .inl (.int x18)]) (S' := S20) ok_X11_odds.1 (by decide +kernel) rfl rfl ?_
    refine ax_Tic_gt (off := 50) (tgt := 98) (by decide +kernel) (by decide) (fun c21 => ?_) (fun c21 => ?_)
    · rw [if_pos c21] at h
      refine ax_Tdrop [false, false, true, false, true, true, false] (L' := [none, none, none, none, some (.inl (.long x17)), none, none]) rfl ?_
      exact hK98 x17 S20 _ _ h
    · rw [if_neg c21] at h
      refine ax_Tgo [.aload_n 0, .getfield 31, .iload_n 1, .aload_n 0, .getfield 31, .aload_n 0, .getfield 69, .iload_n 1, .iload_n 3, .iload 6, .isub] (pc' := 69) (L' := [some (.inr (11, 0)), some (.inl (.int x15)), none, some (.inl (.int x16)), some (.inl (.long x17)), none, some (.inl (.int x18))]) (st' := [.inl (.int (x16 - x18)), .inl (.int x15), .inr (9, 0), .inr (6, 0), .inl (.int x15), .inr (6, 0)]) (S' := S20) ok_X11_odds.1 (by decide +kernel) rfl rfl ?_
      obtain ⟨r25, S22, hq23, h⟩ := ax_bu_e h
      refine ax_TVi (d := 3) (ka := 6) (i := 0) [.inr (9, 0), .inl (.int x15), .inl (.int (x16 - x18))] [.inl (.int x15), .inr (6, 0)] lk_X11_368 (by decide +kernel) rfl (by decide) rfl (Nat.le_of_ble_eq_true rfl) (Nat.le_of_ble_eq_true rfl) ((t_X6_beatsHard hq23).up (by decide)) ?_
      obtain ⟨r29, hq27, h⟩ := ax_bd_e h
      refine ax_TVi (d := 3) (ka := 6) (i := 0) [.inl (.int x15), .inl (.int r25)] [] lk_X11_288 (by decide +kernel) rfl (by decide) rfl (Nat.le_of_ble_eq_true rfl) (Nat.le_of_ble_eq_true rfl) ((t_X6_doneBy hq27).up (by decide)) ?_
      refine ax_Tif_eq (off := 17) (tgt := 92) (by decide +kernel) (by decide) (fun c30 => ?_) (fun c30 => ?_)
      · rw [if_pos c30] at h
        refine ax_Tgo [.iinc 6 1] (pc' := 95) (L' := [some (.inr (11, 0)), some (.inl (.int x15)), none, some (.inl (.int x16)), some (.inl (.long x17)), none, some (.inl (.int (x18 + (1 : Int32))))]) (st' := []) (S' := S22) ok_X11_odds.1 (by decide +kernel) rfl rfl ?_
        obtain ⟨v31, ev31, h⟩ := ax_let_e h
        rw [ev31]
        refine ax_Tgoto (off := (-50)) (tgt := 45) (by decide +kernel) (by decide) ?_
        exact ih x15 x16 x17 v31 S22 _ _ h
      · rw [if_neg c30] at h
        refine ax_Tgo [.lload 4, .aload_n 0, .getfield 82, .iload 6] (pc' := 86) (L' := [some (.inr (11, 0)), some (.inl (.int x15)), none, some (.inl (.int x16)), some (.inl (.long x17)), none, some (.inl (.int x18))]) (st' := [.inl (.int x18), .inr (1, 0), .inl (.long x17)]) (S' := S22) ok_X11_odds.1 (by decide +kernel) rfl rfl ?_
        obtain ⟨r35, hq33, h⟩ := ax_bd_e h
        refine ax_TVl (d := 3) (ka := 1) (i := 0) [.inl (.int x18)] [.inl (.long x17)] lk_X11_371 (by decide +kernel) rfl (by decide) rfl (Nat.le_of_ble_eq_true rfl) (Nat.le_of_ble_eq_true rfl) ((t_X1_partOf hq33).up (by decide)) ?_
        refine ax_Tgo [.ladd, .lstore 4] (pc' := 92) (L' := [some (.inr (11, 0)), some (.inl (.int x15)), none, some (.inl (.int x16)), some (.inl (.long (x17 + r35))), none, some (.inl (.int x18))]) (st' := []) (S' := S22) ok_X11_odds.1 (by decide +kernel) rfl rfl ?_
        obtain ⟨v36, ev36, h⟩ := ax_let_e h
        rw [ev36]
        refine ax_Tgo [.iinc 6 1] (pc' := 95) (L' := [some (.inr (11, 0)), some (.inl (.int x15)), none, some (.inl (.int x16)), some (.inl (.long v36)), none, some (.inl (.int (x18 + (1 : Int32))))]) (st' := []) (S' := S22) ok_X11_odds.1 (by decide +kernel) rfl rfl ?_
        obtain ⟨v37, ev37, h⟩ := ax_let_e h
        rw [ev37]
        refine ax_Tgoto (off := (-50)) (tgt := 45) (by decide +kernel) (by decide) ?_
        exact ih x15 x16 v36 v37 S22 _ _ h
set_option maxRecDepth 100000 in
theorem t_X11_odds {l : Launch} {a1 : Int32} {a2 : Int32} {S Z : AS} {r : Int32} (h : f_X11_odds a1 a2 S = some (r, Z)) : ax_M l 4 ma_X11_odds [.inr (11, 0), .inl (.int a1), .inl (.int a2)] S (some (.inl (.int r))) Z := by
  unfold f_X11_odds at h
  show ax_T l 4 ma_X11_odds (0, [some (.inr (11, 0)), some (.inl (.int a1)), some (.inl (.int a2)), none, none, none, none], [], S) (some (.inl (.int r))) Z
  refine ax_Tgo [.aload_n 0, .iload_n 1] (pc' := 2) (L' := [some (.inr (11, 0)), some (.inl (.int a1)), some (.inl (.int a2)), none, none, none, none]) (st' := [.inl (.int a1), .inr (11, 0)]) (S' := S) ok_X11_odds.1 (by decide +kernel) rfl rfl ?_
  obtain ⟨r4, hq2, h⟩ := ax_bd_e h
  refine ax_TVi (d := 3) (ka := 11) (i := 0) [.inl (.int a1)] [] lk_X11_183 (by decide +kernel) rfl (by decide) rfl (Nat.le_of_ble_eq_true rfl) (Nat.le_of_ble_eq_true rfl) ((t_X11_noSuchCaller hq2).up (by decide)) ?_
  refine ax_Tif_ne (off := 13) (tgt := 18) (by decide +kernel) (by decide) (fun c5 => ?_) (fun c5 => ?_)
  · rw [if_neg c5] at h
    refine ax_Tgo [.iconst (-1)] (pc' := 19) (L' := [some (.inr (11, 0)), some (.inl (.int a1)), some (.inl (.int a2)), none, none, none, none]) (st' := [.inl (.int (Int32.ofInt (-1)))]) (S' := S) ok_X11_odds.1 (by decide +kernel) rfl rfl ?_
    cases h
    exact ax_Treti (by decide +kernel) rfl rfl
  · rw [if_pos c5] at h
    refine ax_Tgo [.iload_n 2] (pc' := 9) (L' := [some (.inr (11, 0)), some (.inl (.int a1)), some (.inl (.int a2)), none, none, none, none]) (st' := [.inl (.int a2)]) (S' := S) ok_X11_odds.1 (by decide +kernel) rfl rfl ?_
    refine ax_Tif_lt (off := 9) (tgt := 18) (by decide +kernel) (by decide) (fun c6 => ?_) (fun c6 => ?_)
    · rw [if_pos c6] at h
      refine ax_Tgo [.iconst (-1)] (pc' := 19) (L' := [some (.inr (11, 0)), some (.inl (.int a1)), some (.inl (.int a2)), none, none, none, none]) (st' := [.inl (.int (Int32.ofInt (-1)))]) (S' := S) ok_X11_odds.1 (by decide +kernel) rfl rfl ?_
      cases h
      exact ax_Treti (by decide +kernel) rfl rfl
    · rw [if_neg c6] at h
      refine ax_Tgo [.iload_n 2, .bipush 100] (pc' := 15) (L' := [some (.inr (11, 0)), some (.inl (.int a1)), some (.inl (.int a2)), none, none, none, none]) (st' := [.inl (.int (100 : Int32)), .inl (.int a2)]) (S' := S) ok_X11_odds.1 (by decide +kernel) rfl rfl ?_
      refine ax_Tic_le (off := 5) (tgt := 20) (by decide +kernel) (by decide) (fun c7 => ?_) (fun c7 => ?_)
      · rw [if_pos c7] at h
        refine ax_Tgo [.aload_n 0, .getfield 93, .iload_n 1, .iconst 1] (pc' := 26) (L' := [some (.inr (11, 0)), some (.inl (.int a1)), some (.inl (.int a2)), none, none, none, none]) (st' := [.inl (.int (1 : Int32)), .inl (.int a1), .inr (4, (ax_fx S 11 0 14))]) (S' := S) ok_X11_odds.1 (by decide +kernel) rfl rfl ?_
        obtain ⟨r11, hq9, h⟩ := ax_bd_e h
        refine ax_TVi (d := 3) (ka := 4) (i := (ax_fx S 11 0 14)) [.inl (.int a1), .inl (.int (1 : Int32))] [] lk_X11_195 (by decide +kernel) rfl (by decide) rfl (Nat.le_of_ble_eq_true rfl) (Nat.le_of_ble_eq_true rfl) ((t_X4_traitOf hq9).up (by decide)) ?_
        refine ax_Tgo [.istore_n 3, .aload_n 0, .getfield 82, .iload_n 3, .iload_n 2] (pc' := 36) (L' := [some (.inr (11, 0)), some (.inl (.int a1)), some (.inl (.int a2)), some (.inl (.int r11)), none, none, none]) (st' := [.inl (.int a2), .inl (.int r11), .inr (1, 0)]) (S' := S) ok_X11_odds.1 (by decide +kernel) rfl rfl ?_
        obtain ⟨S12, hq13, h⟩ := ax_bd_e h
        refine ax_TVv (d := 3) (ka := 1) (i := 0) [.inl (.int r11), .inl (.int a2)] [] lk_X11_365 (by decide +kernel) rfl (by decide) rfl (Nat.le_of_ble_eq_true rfl) (Nat.le_of_ble_eq_true rfl) ((t_X1_split hq13).up (by decide)) ?_
        refine ax_Tgo [.lconst 0, .lstore 4, .iconst 0, .istore 6] (pc' := 45) (L' := [some (.inr (11, 0)), some (.inl (.int a1)), some (.inl (.int a2)), some (.inl (.int r11)), some (.inl (.long (0 : Int64))), none, some (.inl (.int (0 : Int32)))]) (st' := []) (S' := S12) ok_X11_odds.1 (by decide +kernel) rfl rfl ?_
        refine ax_Tdrop [true, true, false, true, true, true, true] (L' := [some (.inr (11, 0)), some (.inl (.int a1)), none, some (.inl (.int r11)), some (.inl (.long (0 : Int64))), none, some (.inl (.int (0 : Int32)))]) rfl ?_
        refine t_X11_odds_L45 ?_ _ a1 r11 (0 : Int64) (0 : Int32) S12 _ _ h
        · intro x19 S38 r Z h
          refine ax_Tgo [.lload 4, .l2i] (pc' := 101) (L' := [none, none, none, none, some (.inl (.long x19)), none, none]) (st' := [.inl (.int x19.toInt32)]) (S' := S38) ok_X11_odds.1 (by decide +kernel) rfl rfl ?_
          cases h
          exact ax_Treti (by decide +kernel) rfl rfl
      · rw [if_neg c7] at h
        refine ax_Tgo [.iconst (-1)] (pc' := 19) (L' := [some (.inr (11, 0)), some (.inl (.int a1)), some (.inl (.int a2)), none, none, none, none]) (st' := [.inl (.int (Int32.ofInt (-1)))]) (S' := S) ok_X11_odds.1 (by decide +kernel) rfl rfl ?_
        cases h
        exact ax_Treti (by decide +kernel) rfl rfl
def f_X8_isBetter (a1 : Int32) (a2 : Int32) (a3 : Int32) (a4 : Int32) (S : AS) : Option (Int32) := (if a4 = (ax_fi S 8 0 8) then (if a3 = (ax_fi S 8 0 9) then (if a2 = (ax_fi S 8 0 7) then (if (ax_fi S 8 0 6) ≤ a1 then some (0 : Int32) else some (1 : Int32)) else (if (ax_fi S 8 0 7) ≤ a2 then some (0 : Int32) else some (1 : Int32))) else (if (ax_fi S 8 0 9) ≤ a3 then some (0 : Int32) else some (1 : Int32))) else (if a4 ≤ (ax_fi S 8 0 8) then some (0 : Int32) else some (1 : Int32)))
set_option maxRecDepth 100000 in
theorem t_X8_isBetter {l : Launch} {a1 : Int32} {a2 : Int32} {a3 : Int32} {a4 : Int32} {S : AS} {r : Int32} (h : f_X8_isBetter a1 a2 a3 a4 S = some r) : ax_M l 0 ma_X8_isBetter [.inr (8, 0), .inl (.int a1), .inl (.int a2), .inl (.int a3), .inl (.int a4)] S (some (.inl (.int r))) S := by
  unfold f_X8_isBetter at h
  show ax_T l 0 ma_X8_isBetter (0, [some (.inr (8, 0)), some (.inl (.int a1)), some (.inl (.int a2)), some (.inl (.int a3)), some (.inl (.int a4))], [], S) (some (.inl (.int r))) S
  refine ax_Tgo [.iload 4, .aload_n 0, .getfield 37] (pc' := 6) (L' := [some (.inr (8, 0)), some (.inl (.int a1)), some (.inl (.int a2)), some (.inl (.int a3)), some (.inl (.int a4))]) (st' := [.inl (.int (ax_fi S 8 0 8)), .inl (.int a4)]) (S' := S) ok_X8_isBetter.1 (by decide +kernel) rfl rfl ?_
  refine ax_Tic_eq (off := 18) (tgt := 24) (by decide +kernel) (by decide) (fun c1 => ?_) (fun c1 => ?_)
  · rw [if_pos c1] at h
    refine ax_Tgo [.iload_n 3, .aload_n 0, .getfield 40] (pc' := 29) (L' := [some (.inr (8, 0)), some (.inl (.int a1)), some (.inl (.int a2)), some (.inl (.int a3)), some (.inl (.int a4))]) (st' := [.inl (.int (ax_fi S 8 0 9)), .inl (.int a3)]) (S' := S) ok_X8_isBetter.1 (by decide +kernel) rfl rfl ?_
    refine ax_Tic_eq (off := 17) (tgt := 46) (by decide +kernel) (by decide) (fun c2 => ?_) (fun c2 => ?_)
    · rw [if_pos c2] at h
      refine ax_Tgo [.iload_n 2, .aload_n 0, .getfield 34] (pc' := 51) (L' := [some (.inr (8, 0)), some (.inl (.int a1)), some (.inl (.int a2)), some (.inl (.int a3)), some (.inl (.int a4))]) (st' := [.inl (.int (ax_fi S 8 0 7)), .inl (.int a2)]) (S' := S) ok_X8_isBetter.1 (by decide +kernel) rfl rfl ?_
      refine ax_Tic_eq (off := 17) (tgt := 68) (by decide +kernel) (by decide) (fun c3 => ?_) (fun c3 => ?_)
      · rw [if_pos c3] at h
        refine ax_Tgo [.iload_n 1, .aload_n 0, .getfield 31] (pc' := 73) (L' := [some (.inr (8, 0)), some (.inl (.int a1)), some (.inl (.int a2)), some (.inl (.int a3)), some (.inl (.int a4))]) (st' := [.inl (.int (ax_fi S 8 0 6)), .inl (.int a1)]) (S' := S) ok_X8_isBetter.1 (by decide +kernel) rfl rfl ?_
        refine ax_Tic_ge (off := 7) (tgt := 80) (by decide +kernel) (by decide) (fun c4 => ?_) (fun c4 => ?_)
        · rw [if_pos c4] at h
          refine ax_Tgo [.iconst 0] (pc' := 81) (L' := [some (.inr (8, 0)), some (.inl (.int a1)), some (.inl (.int a2)), some (.inl (.int a3)), some (.inl (.int a4))]) (st' := [.inl (.int (0 : Int32))]) (S' := S) ok_X8_isBetter.1 (by decide +kernel) rfl rfl ?_
          cases h
          exact ax_Treti (by decide +kernel) rfl rfl
        · rw [if_neg c4] at h
          refine ax_Tgo [.iconst 1] (pc' := 77) (L' := [some (.inr (8, 0)), some (.inl (.int a1)), some (.inl (.int a2)), some (.inl (.int a3)), some (.inl (.int a4))]) (st' := [.inl (.int (1 : Int32))]) (S' := S) ok_X8_isBetter.1 (by decide +kernel) rfl rfl ?_
          refine ax_Tgoto (off := 4) (tgt := 81) (by decide +kernel) (by decide) ?_
          cases h
          exact ax_Treti (by decide +kernel) rfl rfl
      · rw [if_neg c3] at h
        refine ax_Tgo [.iload_n 2, .aload_n 0, .getfield 34] (pc' := 59) (L' := [some (.inr (8, 0)), some (.inl (.int a1)), some (.inl (.int a2)), some (.inl (.int a3)), some (.inl (.int a4))]) (st' := [.inl (.int (ax_fi S 8 0 7)), .inl (.int a2)]) (S' := S) ok_X8_isBetter.1 (by decide +kernel) rfl rfl ?_
        refine ax_Tic_ge (off := 7) (tgt := 66) (by decide +kernel) (by decide) (fun c5 => ?_) (fun c5 => ?_)
        · rw [if_pos c5] at h
          refine ax_Tgo [.iconst 0] (pc' := 67) (L' := [some (.inr (8, 0)), some (.inl (.int a1)), some (.inl (.int a2)), some (.inl (.int a3)), some (.inl (.int a4))]) (st' := [.inl (.int (0 : Int32))]) (S' := S) ok_X8_isBetter.1 (by decide +kernel) rfl rfl ?_
          cases h
          exact ax_Treti (by decide +kernel) rfl rfl
        · rw [if_neg c5] at h
          refine ax_Tgo [.iconst 1] (pc' := 63) (L' := [some (.inr (8, 0)), some (.inl (.int a1)), some (.inl (.int a2)), some (.inl (.int a3)), some (.inl (.int a4))]) (st' := [.inl (.int (1 : Int32))]) (S' := S) ok_X8_isBetter.1 (by decide +kernel) rfl rfl ?_
          refine ax_Tgoto (off := 4) (tgt := 67) (by decide +kernel) (by decide) ?_
          cases h
          exact ax_Treti (by decide +kernel) rfl rfl
    · rw [if_neg c2] at h
      refine ax_Tgo [.iload_n 3, .aload_n 0, .getfield 40] (pc' := 37) (L' := [some (.inr (8, 0)), some (.inl (.int a1)), some (.inl (.int a2)), some (.inl (.int a3)), some (.inl (.int a4))]) (st' := [.inl (.int (ax_fi S 8 0 9)), .inl (.int a3)]) (S' := S) ok_X8_isBetter.1 (by decide +kernel) rfl rfl ?_
      refine ax_Tic_ge (off := 7) (tgt := 44) (by decide +kernel) (by decide) (fun c6 => ?_) (fun c6 => ?_)
      · rw [if_pos c6] at h
        refine ax_Tgo [.iconst 0] (pc' := 45) (L' := [some (.inr (8, 0)), some (.inl (.int a1)), some (.inl (.int a2)), some (.inl (.int a3)), some (.inl (.int a4))]) (st' := [.inl (.int (0 : Int32))]) (S' := S) ok_X8_isBetter.1 (by decide +kernel) rfl rfl ?_
        cases h
        exact ax_Treti (by decide +kernel) rfl rfl
      · rw [if_neg c6] at h
        refine ax_Tgo [.iconst 1] (pc' := 41) (L' := [some (.inr (8, 0)), some (.inl (.int a1)), some (.inl (.int a2)), some (.inl (.int a3)), some (.inl (.int a4))]) (st' := [.inl (.int (1 : Int32))]) (S' := S) ok_X8_isBetter.1 (by decide +kernel) rfl rfl ?_
        refine ax_Tgoto (off := 4) (tgt := 45) (by decide +kernel) (by decide) ?_
        cases h
        exact ax_Treti (by decide +kernel) rfl rfl
  · rw [if_neg c1] at h
    refine ax_Tgo [.iload 4, .aload_n 0, .getfield 37] (pc' := 15) (L' := [some (.inr (8, 0)), some (.inl (.int a1)), some (.inl (.int a2)), some (.inl (.int a3)), some (.inl (.int a4))]) (st' := [.inl (.int (ax_fi S 8 0 8)), .inl (.int a4)]) (S' := S) ok_X8_isBetter.1 (by decide +kernel) rfl rfl ?_
    refine ax_Tic_le (off := 7) (tgt := 22) (by decide +kernel) (by decide) (fun c7 => ?_) (fun c7 => ?_)
    · rw [if_pos c7] at h
      refine ax_Tgo [.iconst 0] (pc' := 23) (L' := [some (.inr (8, 0)), some (.inl (.int a1)), some (.inl (.int a2)), some (.inl (.int a3)), some (.inl (.int a4))]) (st' := [.inl (.int (0 : Int32))]) (S' := S) ok_X8_isBetter.1 (by decide +kernel) rfl rfl ?_
      cases h
      exact ax_Treti (by decide +kernel) rfl rfl
    · rw [if_neg c7] at h
      refine ax_Tgo [.iconst 1] (pc' := 19) (L' := [some (.inr (8, 0)), some (.inl (.int a1)), some (.inl (.int a2)), some (.inl (.int a3)), some (.inl (.int a4))]) (st' := [.inl (.int (1 : Int32))]) (S' := S) ok_X8_isBetter.1 (by decide +kernel) rfl rfl ?_
      refine ax_Tgoto (off := 4) (tgt := 23) (by decide +kernel) (by decide) ?_
      cases h
      exact ax_Treti (by decide +kernel) rfl rfl
def f_X8_extend_L45 (rec : Nat → Int32 → Int32 → Int32 → Int32 → Int32 → AS → Option (AS)) (K203 : AS → Option (AS)) : Nat → Int32 → Int32 → Int32 → Int32 → Int32 → Int32 → AS → Option (AS)
  | 0, _, _, _, _, _, _, _ => none
  | n + 1, x7, x8, x9, x10, x11, x12, S13 => (if (ax_fi S13 8 0 4) ≤ x12 then K203 S13 else ax_let ((x9 * (6 : Int32)) + x12) (fun (v15 : Int32) => ax_gd (ax_in x12 6) (ax_let (ax_ai S13 36 0 x12.toNatClampNeg) (fun (v17 : Int32) => ax_let (fun (x18 : Int32) (S19 : AS) => (if x18 = (0 : Int32) then ax_let (x12 + (1 : Int32)) (fun (v22 : Int32) => f_X8_extend_L45 rec K203 n x7 x8 x9 x10 x11 v22 S19) else (if ((x7 >>> (x12 &&& 31)) &&& (1 : Int32)) = (0 : Int32) then ax_gd (ax_in v15 36) ((if (ax_fi S19 8 0 5) < (x10 + (ax_ai S19 34 0 v15.toNatClampNeg)) then ax_let (x12 + (1 : Int32)) (fun (v27 : Int32) => f_X8_extend_L45 rec K203 n x7 x8 x9 x10 x11 v27 S19) else ax_gd (ax_in v17 4) (ax_gd (ax_in v17 4) (ax_let (ax_sai S19 37 0 v17.toNatClampNeg ((ax_ai S19 37 0 v17.toNatClampNeg) - (1 : Int32))) (fun (S30 : AS) => ax_let ((x8 * (10 : Int32)) + x12) (fun (v31 : Int32) => ax_gd (ax_in v15 36) (ax_gd (ax_in v15 36) ((rec 0 (x7 ||| ((1 : Int32) <<< (x12 &&& 31))) v31 (x9 + (1 : Int32)) (x10 + (ax_ai S30 34 0 v15.toNatClampNeg)) (x11 + (ax_ai S30 35 0 v15.toNatClampNeg)) S30).bind (fun (S34 : AS) => ax_gd (ax_in v17 4) (ax_gd (ax_in v17 4) (ax_let (ax_sai S34 37 0 v17.toNatClampNeg ((ax_ai S34 37 0 v17.toNatClampNeg) + (1 : Int32))) (fun (S39 : AS) => ax_let (x12 + (1 : Int32)) (fun (v40 : Int32) => f_X8_extend_L45 rec K203 n x7 x8 x9 x10 x11 v40 S39))))))))))))) else ax_let (x12 + (1 : Int32)) (fun (v24 : Int32) => f_X8_extend_L45 rec K203 n x7 x8 x9 x10 x11 v24 S19)))) (fun J20 => (if v17 < (0 : Int32) then J20 (0 : Int32) S13 else (if (4 : Int32) ≤ v17 then J20 (0 : Int32) S13 else ax_gd (ax_in v17 4) ((if (ax_ai S13 37 0 v17.toNatClampNeg) ≤ (0 : Int32) then J20 (0 : Int32) S13 else J20 (1 : Int32) S13)))))))))
def b_X8_extend (rec : Nat → Int32 → Int32 → Int32 → Int32 → Int32 → AS → Option (AS)) (a1 : Int32) (a2 : Int32) (a3 : Int32) (a4 : Int32) (a5 : Int32) (S : AS) : Option (AS) := (f_X8_isBetter a2 a3 a4 a5 S).bind (fun (r4 : Int32) => (if r4 = (0 : Int32) then (if a3 < (6 : Int32) then f_X8_extend_L45 rec (fun (S45 : AS) => some S45) ax_F a1 a2 a3 a4 a5 (0 : Int32) S else some S) else ax_let (ax_sfi S 8 0 6 a2) (fun (S46 : AS) => ax_let (ax_sfi S46 8 0 7 a3) (fun (S47 : AS) => ax_let (ax_sfi S47 8 0 9 a4) (fun (S48 : AS) => ax_let (ax_sfi S48 8 0 8 a5) (fun (S49 : AS) => (if a3 < (6 : Int32) then f_X8_extend_L45 rec (fun (S57 : AS) => some S57) ax_F a1 a2 a3 a4 a5 (0 : Int32) S49 else some S49)))))))
def g_Extend : Nat → Nat → Int32 → Int32 → Int32 → Int32 → Int32 → AS → Option (AS)
  | 0, _, _, _, _, _, _, _ => none
  | n + 1, 0, b0, b1, b2, b3, b4, S => b_X8_extend (g_Extend n) b0 b1 b2 b3 b4 S
  | _ + 1, _ + 1, _, _, _, _, _, _ => none
set_option maxRecDepth 100000 in
theorem t_X8_extend_L45 {l : Launch} {d : Nat} (hd : 1 ≤ d) {rec : Nat → Int32 → Int32 → Int32 → Int32 → Int32 → AS → Option (AS)} (hrec_0 : ∀ {a1 : Int32} {a2 : Int32} {a3 : Int32} {a4 : Int32} {a5 : Int32} {S Z : AS}, rec 0 a1 a2 a3 a4 a5 S = some Z → ax_M l d ma_X8_extend [.inr (8, 0), .inl (.int a1), .inl (.int a2), .inl (.int a3), .inl (.int a4), .inl (.int a5)] S none Z) {K203 : AS → Option (AS)} (hK203 : ∀ (S : AS) Z, K203 S = some Z → ax_T l (d + 1) ma_X8_extend (203, [none, none, none, none, none, none, none, none, none, none, none], [], S) none Z) : ∀ (n : Nat) (x7 : Int32) (x8 : Int32) (x9 : Int32) (x10 : Int32) (x11 : Int32) (x12 : Int32) (S13 : AS) Z, f_X8_extend_L45 rec K203 n x7 x8 x9 x10 x11 x12 S13 = some Z → ax_T l (d + 1) ma_X8_extend (45, [some (.inr (8, 0)), some (.inl (.int x7)), some (.inl (.int x8)), some (.inl (.int x9)), some (.inl (.int x10)), some (.inl (.int x11)), some (.inl (.int x12)), none, none, none, none], [], S13) none Z := by
  intro n
  induction n with
  | zero =>
    intro x7 x8 x9 x10 x11 x12 S13 Z h
    cases h
  | succ n ih =>
    intro x7 x8 x9 x10 x11 x12 S13 Z h
    unfold f_X8_extend_L45 at h
    refine ax_Tgo [.iload 6, .aload_n 0, .getfield 24] (pc' := 51) (L' := [some (.inr (8, 0)), some (.inl (.int x7)), some (.inl (.int x8)), some (.inl (.int x9)), some (.inl (.int x10)), some (.inl (.int x11)), some (.inl (.int x12)), none, none, none, none]) (st' := [.inl (.int (ax_fi S13 8 0 4)), .inl (.int x12)]) (S' := S13) ok_X8_extend.1 (by decide +kernel) rfl rfl ?_
    refine ax_Tic_ge (off := 152) (tgt := 203) (by decide +kernel) (by decide) (fun c14 => ?_) (fun c14 => ?_)
    · rw [if_pos c14] at h
      refine ax_Tdrop [false, false, false, false, false, false, false, true, true, true, true] (L' := [none, none, none, none, none, none, none, none, none, none, none]) rfl ?_
      exact hK203 S13 _ h
    · rw [if_neg c14] at h
      refine ax_Tgo [.iload_n 3, .bipush 6, .imul, .iload 6, .iadd, .istore 7] (pc' := 63) (L' := [some (.inr (8, 0)), some (.inl (.int x7)), some (.inl (.int x8)), some (.inl (.int x9)), some (.inl (.int x10)), some (.inl (.int x11)), some (.inl (.int x12)), some (.inl (.int ((x9 * (6 : Int32)) + x12))), none, none, none]) (st' := []) (S' := S13) ok_X8_extend.1 (by decide +kernel) rfl rfl ?_
      obtain ⟨v15, ev15, h⟩ := ax_let_e h
      rw [ev15]
      refine ax_Tgo [.aload_n 0, .getfield 18, .iload 6] (pc' := 69) (L' := [some (.inr (8, 0)), some (.inl (.int x7)), some (.inl (.int x8)), some (.inl (.int x9)), some (.inl (.int x10)), some (.inl (.int x11)), some (.inl (.int x12)), some (.inl (.int v15)), none, none, none]) (st' := [.inl (.int x12), .inr (36, 0)]) (S' := S13) ok_X8_extend.1 (by decide +kernel) rfl rfl ?_
      obtain ⟨g16, h⟩ := ax_gd_e h
      refine ax_Tali (n := 6) ok_X8_extend.1 (by decide +kernel) (by decide) rfl g16 ?_
      refine ax_Tgo [.istore 8] (pc' := 72) (L' := [some (.inr (8, 0)), some (.inl (.int x7)), some (.inl (.int x8)), some (.inl (.int x9)), some (.inl (.int x10)), some (.inl (.int x11)), some (.inl (.int x12)), some (.inl (.int v15)), some (.inl (.int (ax_ai S13 36 0 x12.toNatClampNeg))), none, none]) (st' := []) (S' := S13) ok_X8_extend.1 (by decide +kernel) rfl rfl ?_
      obtain ⟨v17, ev17, h⟩ := ax_let_e h
      rw [ev17]
      refine ax_Tgo [.iload 8] (pc' := 74) (L' := [some (.inr (8, 0)), some (.inl (.int x7)), some (.inl (.int x8)), some (.inl (.int x9)), some (.inl (.int x10)), some (.inl (.int x11)), some (.inl (.int x12)), some (.inl (.int v15)), some (.inl (.int v17)), none, none]) (st' := [.inl (.int v17)]) (S' := S13) ok_X8_extend.1 (by decide +kernel) rfl rfl ?_
      obtain ⟨J20, eJ20, h⟩ := ax_let_e h
      have hJ20 : ∀ (x18 : Int32) (S19 : AS) Z, J20 x18 S19 = some Z → ax_T l (d + 1) ma_X8_extend (98, [some (.inr (8, 0)), some (.inl (.int x7)), some (.inl (.int x8)), some (.inl (.int x9)), some (.inl (.int x10)), some (.inl (.int x11)), some (.inl (.int x12)), some (.inl (.int v15)), some (.inl (.int v17)), none, none], [.inl (.int x18)], S19) none Z := by
        intro x18 S19 Z h
        rw [← eJ20] at h
        try dsimp only at h
        refine ax_Tgo [.istore 9, .iload 9] (pc' := 102) (L' := [some (.inr (8, 0)), some (.inl (.int x7)), some (.inl (.int x8)), some (.inl (.int x9)), some (.inl (.int x10)), some (.inl (.int x11)), some (.inl (.int x12)), some (.inl (.int v15)), some (.inl (.int v17)), some (.inl (.int x18)), none]) (st' := [.inl (.int x18)]) (S' := S19) ok_X8_extend.1 (by decide +kernel) rfl rfl ?_
        refine ax_Tif_eq (off := 95) (tgt := 197) (by decide +kernel) (by decide) (fun c21 => ?_) (fun c21 => ?_)
        · rw [if_pos c21] at h
          refine ax_Tgo [.iinc 6 1] (pc' := 200) (L' := [some (.inr (8, 0)), some (.inl (.int x7)), some (.inl (.int x8)), some (.inl (.int x9)), some (.inl (.int x10)), some (.inl (.int x11)), some (.inl (.int (x12 + (1 : Int32)))), some (.inl (.int v15)), some (.inl (.int v17)), some (.inl (.int x18)), none]) (st' := []) (S' := S19) ok_X8_extend.1 (by decide +kernel) rfl rfl ?_
          obtain ⟨v22, ev22, h⟩ := ax_let_e h
          rw [ev22]
          refine ax_Tgoto (off := (-155)) (tgt := 45) (by decide +kernel) (by decide) ?_
          refine ax_Tdrop [true, true, true, true, true, true, true, false, false, false, true] (L' := [some (.inr (8, 0)), some (.inl (.int x7)), some (.inl (.int x8)), some (.inl (.int x9)), some (.inl (.int x10)), some (.inl (.int x11)), some (.inl (.int v22)), none, none, none, none]) rfl ?_
          exact ih x7 x8 x9 x10 x11 v22 S19 _ h
        · rw [if_neg c21] at h
          refine ax_Tgo [.iload_n 1, .iload 6, .ishr, .iconst 1, .iand] (pc' := 111) (L' := [some (.inr (8, 0)), some (.inl (.int x7)), some (.inl (.int x8)), some (.inl (.int x9)), some (.inl (.int x10)), some (.inl (.int x11)), some (.inl (.int x12)), some (.inl (.int v15)), some (.inl (.int v17)), some (.inl (.int x18)), none]) (st' := [.inl (.int ((x7 >>> (x12 &&& 31)) &&& (1 : Int32)))]) (S' := S19) ok_X8_extend.1 (by decide +kernel) rfl rfl ?_
          refine ax_Tif_ne (off := 86) (tgt := 197) (by decide +kernel) (by decide) (fun c23 => ?_) (fun c23 => ?_)
          · rw [if_neg c23] at h
            refine ax_Tgo [.iinc 6 1] (pc' := 200) (L' := [some (.inr (8, 0)), some (.inl (.int x7)), some (.inl (.int x8)), some (.inl (.int x9)), some (.inl (.int x10)), some (.inl (.int x11)), some (.inl (.int (x12 + (1 : Int32)))), some (.inl (.int v15)), some (.inl (.int v17)), some (.inl (.int x18)), none]) (st' := []) (S' := S19) ok_X8_extend.1 (by decide +kernel) rfl rfl ?_
            obtain ⟨v24, ev24, h⟩ := ax_let_e h
            rw [ev24]
            refine ax_Tgoto (off := (-155)) (tgt := 45) (by decide +kernel) (by decide) ?_
            refine ax_Tdrop [true, true, true, true, true, true, true, false, false, false, true] (L' := [some (.inr (8, 0)), some (.inl (.int x7)), some (.inl (.int x8)), some (.inl (.int x9)), some (.inl (.int x10)), some (.inl (.int x11)), some (.inl (.int v24)), none, none, none, none]) rfl ?_
            exact ih x7 x8 x9 x10 x11 v24 S19 _ h
          · rw [if_pos c23] at h
            refine ax_Tgo [.iload 4, .aload_n 0, .getfield 9, .iload 7] (pc' := 122) (L' := [some (.inr (8, 0)), some (.inl (.int x7)), some (.inl (.int x8)), some (.inl (.int x9)), some (.inl (.int x10)), some (.inl (.int x11)), some (.inl (.int x12)), some (.inl (.int v15)), some (.inl (.int v17)), some (.inl (.int x18)), none]) (st' := [.inl (.int v15), .inr (34, 0), .inl (.int x10)]) (S' := S19) ok_X8_extend.1 (by decide +kernel) rfl rfl ?_
            obtain ⟨g25, h⟩ := ax_gd_e h
            refine ax_Tali (n := 36) ok_X8_extend.1 (by decide +kernel) (by decide) rfl g25 ?_
            refine ax_Tgo [.iadd, .aload_n 0, .getfield 28] (pc' := 128) (L' := [some (.inr (8, 0)), some (.inl (.int x7)), some (.inl (.int x8)), some (.inl (.int x9)), some (.inl (.int x10)), some (.inl (.int x11)), some (.inl (.int x12)), some (.inl (.int v15)), some (.inl (.int v17)), some (.inl (.int x18)), none]) (st' := [.inl (.int (ax_fi S19 8 0 5)), .inl (.int (x10 + (ax_ai S19 34 0 v15.toNatClampNeg)))]) (S' := S19) ok_X8_extend.1 (by decide +kernel) rfl rfl ?_
            refine ax_Tic_gt (off := 69) (tgt := 197) (by decide +kernel) (by decide) (fun c26 => ?_) (fun c26 => ?_)
            · rw [if_pos c26] at h
              refine ax_Tgo [.iinc 6 1] (pc' := 200) (L' := [some (.inr (8, 0)), some (.inl (.int x7)), some (.inl (.int x8)), some (.inl (.int x9)), some (.inl (.int x10)), some (.inl (.int x11)), some (.inl (.int (x12 + (1 : Int32)))), some (.inl (.int v15)), some (.inl (.int v17)), some (.inl (.int x18)), none]) (st' := []) (S' := S19) ok_X8_extend.1 (by decide +kernel) rfl rfl ?_
              obtain ⟨v27, ev27, h⟩ := ax_let_e h
              rw [ev27]
              refine ax_Tgoto (off := (-155)) (tgt := 45) (by decide +kernel) (by decide) ?_
              refine ax_Tdrop [true, true, true, true, true, true, true, false, false, false, true] (L' := [some (.inr (8, 0)), some (.inl (.int x7)), some (.inl (.int x8)), some (.inl (.int x9)), some (.inl (.int x10)), some (.inl (.int x11)), some (.inl (.int v27)), none, none, none, none]) rfl ?_
              exact ih x7 x8 x9 x10 x11 v27 S19 _ h
            · rw [if_neg c26] at h
              refine ax_Tgo [.aload_n 0, .getfield 21, .iload 8, .dup2] (pc' := 138) (L' := [some (.inr (8, 0)), some (.inl (.int x7)), some (.inl (.int x8)), some (.inl (.int x9)), some (.inl (.int x10)), some (.inl (.int x11)), some (.inl (.int x12)), some (.inl (.int v15)), some (.inl (.int v17)), some (.inl (.int x18)), none]) (st' := [.inl (.int v17), .inr (37, 0), .inl (.int v17), .inr (37, 0)]) (S' := S19) ok_X8_extend.1 (by decide +kernel) rfl rfl ?_
              obtain ⟨g28, h⟩ := ax_gd_e h
              refine ax_Tali (n := 4) ok_X8_extend.1 (by decide +kernel) (by decide) rfl g28 ?_
              refine ax_Tgo [.iconst 1, .isub] (pc' := 141) (L' := [some (.inr (8, 0)), some (.inl (.int x7)), some (.inl (.int x8)), some (.inl (.int x9)), some (.inl (.int x10)), some (.inl (.int x11)), some (.inl (.int x12)), some (.inl (.int v15)), some (.inl (.int v17)), some (.inl (.int x18)), none]) (st' := [.inl (.int ((ax_ai S19 37 0 v17.toNatClampNeg) - (1 : Int32))), .inl (.int v17), .inr (37, 0)]) (S' := S19) ok_X8_extend.1 (by decide +kernel) rfl rfl ?_
              obtain ⟨g29, h⟩ := ax_gd_e h
              refine ax_Tasi (n := 4) ok_X8_extend.1 (by decide +kernel) (by decide) rfl g29 ?_
              obtain ⟨S30, eS30, h⟩ := ax_let_e h
              rw [eS30]
              refine ax_Tgo [.iload_n 2, .bipush 10, .imul, .iload 6, .iadd, .istore 10] (pc' := 151) (L' := [some (.inr (8, 0)), some (.inl (.int x7)), some (.inl (.int x8)), some (.inl (.int x9)), some (.inl (.int x10)), some (.inl (.int x11)), some (.inl (.int x12)), some (.inl (.int v15)), some (.inl (.int v17)), some (.inl (.int x18)), some (.inl (.int ((x8 * (10 : Int32)) + x12)))]) (st' := []) (S' := S30) ok_X8_extend.1 (by decide +kernel) rfl rfl ?_
              obtain ⟨v31, ev31, h⟩ := ax_let_e h
              rw [ev31]
              refine ax_Tgo [.aload_n 0, .iload_n 1, .iconst 1, .iload 6, .ishl, .ior, .iload 10, .iload_n 3, .iconst 1, .iadd, .iload 4, .aload_n 0, .getfield 9, .iload 7] (pc' := 171) (L' := [some (.inr (8, 0)), some (.inl (.int x7)), some (.inl (.int x8)), some (.inl (.int x9)), some (.inl (.int x10)), some (.inl (.int x11)), some (.inl (.int x12)), some (.inl (.int v15)), some (.inl (.int v17)), some (.inl (.int x18)), some (.inl (.int v31))]) (st' := [.inl (.int v15), .inr (34, 0), .inl (.int x10), .inl (.int (x9 + (1 : Int32))), .inl (.int v31), .inl (.int (x7 ||| ((1 : Int32) <<< (x12 &&& 31)))), .inr (8, 0)]) (S' := S30) ok_X8_extend.1 (by decide +kernel) rfl rfl ?_
              obtain ⟨g32, h⟩ := ax_gd_e h
              refine ax_Tali (n := 36) ok_X8_extend.1 (by decide +kernel) (by decide) rfl g32 ?_
              refine ax_Tgo [.iadd, .iload 5, .aload_n 0, .getfield 15, .iload 7] (pc' := 181) (L' := [some (.inr (8, 0)), some (.inl (.int x7)), some (.inl (.int x8)), some (.inl (.int x9)), some (.inl (.int x10)), some (.inl (.int x11)), some (.inl (.int x12)), some (.inl (.int v15)), some (.inl (.int v17)), some (.inl (.int x18)), some (.inl (.int v31))]) (st' := [.inl (.int v15), .inr (35, 0), .inl (.int x11), .inl (.int (x10 + (ax_ai S30 34 0 v15.toNatClampNeg))), .inl (.int (x9 + (1 : Int32))), .inl (.int v31), .inl (.int (x7 ||| ((1 : Int32) <<< (x12 &&& 31)))), .inr (8, 0)]) (S' := S30) ok_X8_extend.1 (by decide +kernel) rfl rfl ?_
              obtain ⟨g33, h⟩ := ax_gd_e h
              refine ax_Tali (n := 36) ok_X8_extend.1 (by decide +kernel) (by decide) rfl g33 ?_
              refine ax_Tgo [.iadd] (pc' := 183) (L' := [some (.inr (8, 0)), some (.inl (.int x7)), some (.inl (.int x8)), some (.inl (.int x9)), some (.inl (.int x10)), some (.inl (.int x11)), some (.inl (.int x12)), some (.inl (.int v15)), some (.inl (.int v17)), some (.inl (.int x18)), some (.inl (.int v31))]) (st' := [.inl (.int (x11 + (ax_ai S30 35 0 v15.toNatClampNeg))), .inl (.int (x10 + (ax_ai S30 34 0 v15.toNatClampNeg))), .inl (.int (x9 + (1 : Int32))), .inl (.int v31), .inl (.int (x7 ||| ((1 : Int32) <<< (x12 &&& 31)))), .inr (8, 0)]) (S' := S30) ok_X8_extend.1 (by decide +kernel) rfl rfl ?_
              obtain ⟨S34, hq35, h⟩ := ax_bd_e h
              refine ax_TVv (d := d) (ka := 8) (i := 0) [.inl (.int (x7 ||| ((1 : Int32) <<< (x12 &&& 31)))), .inl (.int v31), .inl (.int (x9 + (1 : Int32))), .inl (.int (x10 + (ax_ai S30 34 0 v15.toNatClampNeg))), .inl (.int (x11 + (ax_ai S30 35 0 v15.toNatClampNeg)))] [] lk_X8_92 (by decide +kernel) rfl (by decide) rfl (Nat.le_of_ble_eq_true rfl) (Nat.le_of_ble_eq_true rfl) (hrec_0 hq35) ?_
              refine ax_Tgo [.aload_n 0, .getfield 21, .iload 8, .dup2] (pc' := 193) (L' := [some (.inr (8, 0)), some (.inl (.int x7)), some (.inl (.int x8)), some (.inl (.int x9)), some (.inl (.int x10)), some (.inl (.int x11)), some (.inl (.int x12)), some (.inl (.int v15)), some (.inl (.int v17)), some (.inl (.int x18)), some (.inl (.int v31))]) (st' := [.inl (.int v17), .inr (37, 0), .inl (.int v17), .inr (37, 0)]) (S' := S34) ok_X8_extend.1 (by decide +kernel) rfl rfl ?_
              obtain ⟨g37, h⟩ := ax_gd_e h
              refine ax_Tali (n := 4) ok_X8_extend.1 (by decide +kernel) (by decide) rfl g37 ?_
              refine ax_Tgo [.iconst 1, .iadd] (pc' := 196) (L' := [some (.inr (8, 0)), some (.inl (.int x7)), some (.inl (.int x8)), some (.inl (.int x9)), some (.inl (.int x10)), some (.inl (.int x11)), some (.inl (.int x12)), some (.inl (.int v15)), some (.inl (.int v17)), some (.inl (.int x18)), some (.inl (.int v31))]) (st' := [.inl (.int ((ax_ai S34 37 0 v17.toNatClampNeg) + (1 : Int32))), .inl (.int v17), .inr (37, 0)]) (S' := S34) ok_X8_extend.1 (by decide +kernel) rfl rfl ?_
              obtain ⟨g38, h⟩ := ax_gd_e h
              refine ax_Tasi (n := 4) ok_X8_extend.1 (by decide +kernel) (by decide) rfl g38 ?_
              obtain ⟨S39, eS39, h⟩ := ax_let_e h
              rw [eS39]
              refine ax_Tgo [.iinc 6 1] (pc' := 200) (L' := [some (.inr (8, 0)), some (.inl (.int x7)), some (.inl (.int x8)), some (.inl (.int x9)), some (.inl (.int x10)), some (.inl (.int x11)), some (.inl (.int (x12 + (1 : Int32)))), some (.inl (.int v15)), some (.inl (.int v17)), some (.inl (.int x18)), some (.inl (.int v31))]) (st' := []) (S' := S39) ok_X8_extend.1 (by decide +kernel) rfl rfl ?_
              obtain ⟨v40, ev40, h⟩ := ax_let_e h
              rw [ev40]
              refine ax_Tgoto (off := (-155)) (tgt := 45) (by decide +kernel) (by decide) ?_
              refine ax_Tdrop [true, true, true, true, true, true, true, false, false, false, false] (L' := [some (.inr (8, 0)), some (.inl (.int x7)), some (.inl (.int x8)), some (.inl (.int x9)), some (.inl (.int x10)), some (.inl (.int x11)), some (.inl (.int v40)), none, none, none, none]) rfl ?_
              exact ih x7 x8 x9 x10 x11 v40 S39 _ h
      refine ax_Tif_lt (off := 23) (tgt := 97) (by decide +kernel) (by decide) (fun c41 => ?_) (fun c41 => ?_)
      · rw [if_pos c41] at h
        refine ax_Tgo [.iconst 0] (pc' := 98) (L' := [some (.inr (8, 0)), some (.inl (.int x7)), some (.inl (.int x8)), some (.inl (.int x9)), some (.inl (.int x10)), some (.inl (.int x11)), some (.inl (.int x12)), some (.inl (.int v15)), some (.inl (.int v17)), none, none]) (st' := [.inl (.int (0 : Int32))]) (S' := S13) ok_X8_extend.1 (by decide +kernel) rfl rfl ?_
        exact hJ20 (0 : Int32) S13 _ h
      · rw [if_neg c41] at h
        refine ax_Tgo [.iload 8, .iconst 4] (pc' := 80) (L' := [some (.inr (8, 0)), some (.inl (.int x7)), some (.inl (.int x8)), some (.inl (.int x9)), some (.inl (.int x10)), some (.inl (.int x11)), some (.inl (.int x12)), some (.inl (.int v15)), some (.inl (.int v17)), none, none]) (st' := [.inl (.int (4 : Int32)), .inl (.int v17)]) (S' := S13) ok_X8_extend.1 (by decide +kernel) rfl rfl ?_
        refine ax_Tic_ge (off := 17) (tgt := 97) (by decide +kernel) (by decide) (fun c42 => ?_) (fun c42 => ?_)
        · rw [if_pos c42] at h
          refine ax_Tgo [.iconst 0] (pc' := 98) (L' := [some (.inr (8, 0)), some (.inl (.int x7)), some (.inl (.int x8)), some (.inl (.int x9)), some (.inl (.int x10)), some (.inl (.int x11)), some (.inl (.int x12)), some (.inl (.int v15)), some (.inl (.int v17)), none, none]) (st' := [.inl (.int (0 : Int32))]) (S' := S13) ok_X8_extend.1 (by decide +kernel) rfl rfl ?_
          exact hJ20 (0 : Int32) S13 _ h
        · rw [if_neg c42] at h
          refine ax_Tgo [.aload_n 0, .getfield 21, .iload 8] (pc' := 89) (L' := [some (.inr (8, 0)), some (.inl (.int x7)), some (.inl (.int x8)), some (.inl (.int x9)), some (.inl (.int x10)), some (.inl (.int x11)), some (.inl (.int x12)), some (.inl (.int v15)), some (.inl (.int v17)), none, none]) (st' := [.inl (.int v17), .inr (37, 0)]) (S' := S13) ok_X8_extend.1 (by decide +kernel) rfl rfl ?_
          obtain ⟨g43, h⟩ := ax_gd_e h
          refine ax_Tali (n := 4) ok_X8_extend.1 (by decide +kernel) (by decide) rfl g43 ?_
          refine ax_Tif_le (off := 7) (tgt := 97) (by decide +kernel) (by decide) (fun c44 => ?_) (fun c44 => ?_)
          · rw [if_pos c44] at h
            refine ax_Tgo [.iconst 0] (pc' := 98) (L' := [some (.inr (8, 0)), some (.inl (.int x7)), some (.inl (.int x8)), some (.inl (.int x9)), some (.inl (.int x10)), some (.inl (.int x11)), some (.inl (.int x12)), some (.inl (.int v15)), some (.inl (.int v17)), none, none]) (st' := [.inl (.int (0 : Int32))]) (S' := S13) ok_X8_extend.1 (by decide +kernel) rfl rfl ?_
            exact hJ20 (0 : Int32) S13 _ h
          · rw [if_neg c44] at h
            refine ax_Tgo [.iconst 1] (pc' := 94) (L' := [some (.inr (8, 0)), some (.inl (.int x7)), some (.inl (.int x8)), some (.inl (.int x9)), some (.inl (.int x10)), some (.inl (.int x11)), some (.inl (.int x12)), some (.inl (.int v15)), some (.inl (.int v17)), none, none]) (st' := [.inl (.int (1 : Int32))]) (S' := S13) ok_X8_extend.1 (by decide +kernel) rfl rfl ?_
            refine ax_Tgoto (off := 4) (tgt := 98) (by decide +kernel) (by decide) ?_
            exact hJ20 (1 : Int32) S13 _ h
set_option maxRecDepth 100000 in
theorem tb_X8_extend {l : Launch} {d : Nat} (hd : 1 ≤ d) {rec : Nat → Int32 → Int32 → Int32 → Int32 → Int32 → AS → Option (AS)} (hrec_0 : ∀ {a1 : Int32} {a2 : Int32} {a3 : Int32} {a4 : Int32} {a5 : Int32} {S Z : AS}, rec 0 a1 a2 a3 a4 a5 S = some Z → ax_M l d ma_X8_extend [.inr (8, 0), .inl (.int a1), .inl (.int a2), .inl (.int a3), .inl (.int a4), .inl (.int a5)] S none Z) {a1 : Int32} {a2 : Int32} {a3 : Int32} {a4 : Int32} {a5 : Int32} {S Z : AS} (h : b_X8_extend rec a1 a2 a3 a4 a5 S = some Z) : ax_M l (d + 1) ma_X8_extend [.inr (8, 0), .inl (.int a1), .inl (.int a2), .inl (.int a3), .inl (.int a4), .inl (.int a5)] S none Z := by
  unfold b_X8_extend at h
  show ax_T l (d + 1) ma_X8_extend (0, [some (.inr (8, 0)), some (.inl (.int a1)), some (.inl (.int a2)), some (.inl (.int a3)), some (.inl (.int a4)), some (.inl (.int a5)), none, none, none, none, none], [], S) none Z
  refine ax_Tgo [.aload_n 0, .iload_n 2, .iload_n 3, .iload 4, .iload 5] (pc' := 7) (L' := [some (.inr (8, 0)), some (.inl (.int a1)), some (.inl (.int a2)), some (.inl (.int a3)), some (.inl (.int a4)), some (.inl (.int a5)), none, none, none, none, none]) (st' := [.inl (.int a5), .inl (.int a4), .inl (.int a3), .inl (.int a2), .inr (8, 0)]) (S' := S) ok_X8_extend.1 (by decide +kernel) rfl rfl ?_
  obtain ⟨r4, hq2, h⟩ := ax_bd_e h
  refine ax_TVi (d := d) (ka := 8) (i := 0) [.inl (.int a2), .inl (.int a3), .inl (.int a4), .inl (.int a5)] [] lk_X8_96 (by decide +kernel) rfl (by decide) rfl (Nat.le_of_ble_eq_true rfl) (Nat.le_of_ble_eq_true rfl) ((t_X8_isBetter hq2).up (by omega)) ?_
  refine ax_Tif_eq (off := 25) (tgt := 35) (by decide +kernel) (by decide) (fun c5 => ?_) (fun c5 => ?_)
  · rw [if_pos c5] at h
    refine ax_Tgo [.iload_n 3, .bipush 6] (pc' := 38) (L' := [some (.inr (8, 0)), some (.inl (.int a1)), some (.inl (.int a2)), some (.inl (.int a3)), some (.inl (.int a4)), some (.inl (.int a5)), none, none, none, none, none]) (st' := [.inl (.int (6 : Int32)), .inl (.int a3)]) (S' := S) ok_X8_extend.1 (by decide +kernel) rfl rfl ?_
    refine ax_Tic_lt (off := 4) (tgt := 42) (by decide +kernel) (by decide) (fun c6 => ?_) (fun c6 => ?_)
    · rw [if_pos c6] at h
      refine ax_Tgo [.iconst 0, .istore 6] (pc' := 45) (L' := [some (.inr (8, 0)), some (.inl (.int a1)), some (.inl (.int a2)), some (.inl (.int a3)), some (.inl (.int a4)), some (.inl (.int a5)), some (.inl (.int (0 : Int32))), none, none, none, none]) (st' := []) (S' := S) ok_X8_extend.1 (by decide +kernel) rfl rfl ?_
      refine t_X8_extend_L45 hd hrec_0 ?_ _ a1 a2 a3 a4 a5 (0 : Int32) S _ h
      · intro S45 Z h
        cases h
        exact ax_Tretv (by decide +kernel) rfl
    · rw [if_neg c6] at h
      cases h
      exact ax_Tretv (by decide +kernel) rfl
  · rw [if_neg c5] at h
    refine ax_Tgo [.aload_n 0, .iload_n 2, .putfield 31] (pc' := 18) (L' := [some (.inr (8, 0)), some (.inl (.int a1)), some (.inl (.int a2)), some (.inl (.int a3)), some (.inl (.int a4)), some (.inl (.int a5)), none, none, none, none, none]) (st' := []) (S' := (ax_sfi S 8 0 6 a2)) ok_X8_extend.1 (by decide +kernel) rfl rfl ?_
    obtain ⟨S46, eS46, h⟩ := ax_let_e h
    rw [eS46]
    refine ax_Tgo [.aload_n 0, .iload_n 3, .putfield 34] (pc' := 23) (L' := [some (.inr (8, 0)), some (.inl (.int a1)), some (.inl (.int a2)), some (.inl (.int a3)), some (.inl (.int a4)), some (.inl (.int a5)), none, none, none, none, none]) (st' := []) (S' := (ax_sfi S46 8 0 7 a3)) ok_X8_extend.1 (by decide +kernel) rfl rfl ?_
    obtain ⟨S47, eS47, h⟩ := ax_let_e h
    rw [eS47]
    refine ax_Tgo [.aload_n 0, .iload 4, .putfield 40] (pc' := 29) (L' := [some (.inr (8, 0)), some (.inl (.int a1)), some (.inl (.int a2)), some (.inl (.int a3)), some (.inl (.int a4)), some (.inl (.int a5)), none, none, none, none, none]) (st' := []) (S' := (ax_sfi S47 8 0 9 a4)) ok_X8_extend.1 (by decide +kernel) rfl rfl ?_
    obtain ⟨S48, eS48, h⟩ := ax_let_e h
    rw [eS48]
    refine ax_Tgo [.aload_n 0, .iload 5, .putfield 37] (pc' := 35) (L' := [some (.inr (8, 0)), some (.inl (.int a1)), some (.inl (.int a2)), some (.inl (.int a3)), some (.inl (.int a4)), some (.inl (.int a5)), none, none, none, none, none]) (st' := []) (S' := (ax_sfi S48 8 0 8 a5)) ok_X8_extend.1 (by decide +kernel) rfl rfl ?_
    obtain ⟨S49, eS49, h⟩ := ax_let_e h
    rw [eS49]
    refine ax_Tgo [.iload_n 3, .bipush 6] (pc' := 38) (L' := [some (.inr (8, 0)), some (.inl (.int a1)), some (.inl (.int a2)), some (.inl (.int a3)), some (.inl (.int a4)), some (.inl (.int a5)), none, none, none, none, none]) (st' := [.inl (.int (6 : Int32)), .inl (.int a3)]) (S' := S49) ok_X8_extend.1 (by decide +kernel) rfl rfl ?_
    refine ax_Tic_lt (off := 4) (tgt := 42) (by decide +kernel) (by decide) (fun c50 => ?_) (fun c50 => ?_)
    · rw [if_pos c50] at h
      refine ax_Tgo [.iconst 0, .istore 6] (pc' := 45) (L' := [some (.inr (8, 0)), some (.inl (.int a1)), some (.inl (.int a2)), some (.inl (.int a3)), some (.inl (.int a4)), some (.inl (.int a5)), some (.inl (.int (0 : Int32))), none, none, none, none]) (st' := []) (S' := S49) ok_X8_extend.1 (by decide +kernel) rfl rfl ?_
      refine t_X8_extend_L45 hd hrec_0 ?_ _ a1 a2 a3 a4 a5 (0 : Int32) S49 _ h
      · intro S57 Z h
        cases h
        exact ax_Tretv (by decide +kernel) rfl
    · rw [if_neg c50] at h
      cases h
      exact ax_Tretv (by decide +kernel) rfl
theorem tg_Extend {l : Launch} : ∀ (n : Nat), (∀ {a1 : Int32} {a2 : Int32} {a3 : Int32} {a4 : Int32} {a5 : Int32} {S Z : AS}, g_Extend n 0 a1 a2 a3 a4 a5 S = some Z → ax_M l (n + 1) ma_X8_extend [.inr (8, 0), .inl (.int a1), .inl (.int a2), .inl (.int a3), .inl (.int a4), .inl (.int a5)] S none Z) := by
  intro n
  induction n with
  | zero =>
    intros; rename_i h; cases h
  | succ n ih =>
    have q0 := @ih
    have hd : 1 ≤ n + 1 := by omega
    rw [show n + 1 + 1 = n + 1 + 1 by omega]
    · intro a1 a2 a3 a4 a5 S Z h
      exact tb_X8_extend hd q0 h
theorem tg_Extend_0 {l : Launch} : ∀ {a1 : Int32} {a2 : Int32} {a3 : Int32} {a4 : Int32} {a5 : Int32} {S Z : AS}, g_Extend ax_D 0 a1 a2 a3 a4 a5 S = some Z → ax_M l 65 ma_X8_extend [.inr (8, 0), .inl (.int a1), .inl (.int a2), .inl (.int a3), .inl (.int a4), .inl (.int a5)] S none Z := (tg_Extend ax_D)
def f_X8_find_L24 (K56 : Nat → Nat → AS → Option (AS)) : Nat → Nat → Nat → Int32 → AS → Option (AS)
  | 0, _, _, _, _ => none
  | n + 1, y14, y15, x16, S19 => (if (4 : Int32) ≤ x16 then K56 y14 y15 S19 else (f_X4_patienceOf y14 x16 S19).bind (fun (r24 : Int32) => (f_X9_receivedBy y15 x16 S19).bind (fun (r28 : Int32) => ax_gd (ax_in x16 4) (ax_let (ax_sai S19 37 0 x16.toNatClampNeg (r24 - r28)) (fun (S30 : AS) => ax_let (x16 + (1 : Int32)) (fun (v31 : Int32) => f_X8_find_L24 K56 n y14 y15 v31 S30))))))
def f_X8_find_L85 (K169 : Nat → Nat → Int32 → AS → Option (AS)) : Nat → Nat → Nat → Int32 → Int32 → AS → Option (AS)
  | 0, _, _, _, _, _ => none
  | n + 1, y45, y46, x47, x48, S52 => (if (6 : Int32) ≤ x48 then K169 y45 y46 x47 S52 else (f_X9_titlesOf y46 x47 S52).bind (fun (r57 : Int32) => ax_bu (f_X6_beatsTired y46 x47 r57 ((ax_fi S52 9 y46 3) + x48) S52) (fun (r61 : Int32) (S58 : AS) => ax_gd (ax_in ((x48 * (6 : Int32)) + x47) 36) (ax_let (ax_sai S58 34 0 ((x48 * (6 : Int32)) + x47).toNatClampNeg r61) (fun (S63 : AS) => (f_X6_doneBy x47 r61 S63).bind (fun (r67 : Int32) => (if r67 = (0 : Int32) then ax_gd (ax_in ((x48 * (6 : Int32)) + x47) 36) (ax_let (ax_sai S63 35 0 ((x48 * (6 : Int32)) + x47).toNatClampNeg (0 : Int32)) (fun (S70 : AS) => ax_let (x48 + (1 : Int32)) (fun (v71 : Int32) => f_X8_find_L85 K169 n y45 y46 x47 v71 S70))) else (f_X6_gainOf x47 S63).bind (fun (r75 : Int32) => ax_gd (ax_in ((x48 * (6 : Int32)) + x47) 36) (ax_let (ax_sai S63 35 0 ((x48 * (6 : Int32)) + x47).toNatClampNeg r75) (fun (S77 : AS) => ax_let (x48 + (1 : Int32)) (fun (v78 : Int32) => f_X8_find_L85 K169 n y45 y46 x47 v78 S77)))))))))))
def f_X8_find_L59 (K175 : Nat → AS → Option (AS)) : Nat → Nat → Nat → Int32 → AS → Option (AS)
  | 0, _, _, _, _ => none
  | n + 1, y33, y34, x35, S37 => (if (ax_fi S37 8 0 4) ≤ x35 then K175 y34 S37 else (f_X4_traitOf y33 x35 (5 : Int32) S37).bind (fun (r42 : Int32) => ax_gd (ax_in x35 6) (ax_let (ax_sai S37 36 0 x35.toNatClampNeg r42) (fun (S44 : AS) => f_X8_find_L85 (fun (x49 : Nat) (x50 : Nat) (x51 : Int32) (S79 : AS) => ax_let (x51 + (1 : Int32)) (fun (v80 : Int32) => f_X8_find_L59 K175 n x49 x50 v80 S79)) ax_F y33 y34 x35 (0 : Int32) S44))))
def f_X8_find (i2 : Nat) (i3 : Nat) (S : AS) : Option (AS) := (f_J9_min_7cf53 (6 : Int32) (ax_fi S 4 i2 5) S).bind (fun (r7 : Int32) => ax_let (ax_sfi S 8 0 4 r7) (fun (S8 : AS) => (f_X4_beats i2 S8).bind (fun (r12 : Int32) => ax_let (ax_sfi S8 8 0 5 r12) (fun (S13 : AS) => f_X8_find_L24 (fun (x17 : Nat) (x18 : Nat) (S32 : AS) => f_X8_find_L59 (fun (x36 : Nat) (S81 : AS) => ax_let (ax_sfi S81 8 0 6 (0 : Int32)) (fun (S82 : AS) => ax_let (ax_sfi S82 8 0 7 (0 : Int32)) (fun (S83 : AS) => ax_let (ax_sfi S83 8 0 8 (0 : Int32)) (fun (S84 : AS) => ax_let (ax_sfi S84 8 0 9 (ax_fi S84 9 x36 0)) (fun (S85 : AS) => (g_Extend ax_D 0 (ax_fi S85 9 x36 1) (0 : Int32) (0 : Int32) (ax_fi S85 9 x36 0) (0 : Int32) S85).bind (fun (S86 : AS) => some S86)))))) ax_F x17 x18 (0 : Int32) S32) ax_F i2 i3 (0 : Int32) S13))))
set_option maxRecDepth 100000 in
theorem t_X8_find_L24 {l : Launch} {K56 : Nat → Nat → AS → Option (AS)} (hK56 : ∀ (x17 : Nat) (x18 : Nat) (S : AS) Z, K56 x17 x18 S = some Z → ax_T l 66 ma_X8_find (56, [some (.inr (8, 0)), some (.inr (6, 0)), some (.inr (4, x17)), some (.inr (9, x18)), none, none, none], [], S) none Z) : ∀ (n : Nat) (y14 : Nat) (y15 : Nat) (x16 : Int32) (S19 : AS) Z, f_X8_find_L24 K56 n y14 y15 x16 S19 = some Z → ax_T l 66 ma_X8_find (24, [some (.inr (8, 0)), some (.inr (6, 0)), some (.inr (4, y14)), some (.inr (9, y15)), some (.inl (.int x16)), none, none], [], S19) none Z := by
  intro n
  induction n with
  | zero =>
    intro y14 y15 x16 S19 Z h
    cases h
  | succ n ih =>
    intro y14 y15 x16 S19 Z h
    unfold f_X8_find_L24 at h
    refine ax_Tgo [.iload 4, .iconst 4] (pc' := 27) (L' := [some (.inr (8, 0)), some (.inr (6, 0)), some (.inr (4, y14)), some (.inr (9, y15)), some (.inl (.int x16)), none, none]) (st' := [.inl (.int (4 : Int32)), .inl (.int x16)]) (S' := S19) ok_X8_find.1 (by decide +kernel) rfl rfl ?_
    refine ax_Tic_ge (off := 29) (tgt := 56) (by decide +kernel) (by decide) (fun c20 => ?_) (fun c20 => ?_)
    · rw [if_pos c20] at h
      refine ax_Tdrop [true, true, true, true, false, true, true] (L' := [some (.inr (8, 0)), some (.inr (6, 0)), some (.inr (4, y14)), some (.inr (9, y15)), none, none, none]) rfl ?_
      exact hK56 y14 y15 S19 _ h
    · rw [if_neg c20] at h
      refine ax_Tgo [.aload_n 0, .getfield 21, .iload 4, .aload_n 2, .iload 4] (pc' := 39) (L' := [some (.inr (8, 0)), some (.inr (6, 0)), some (.inr (4, y14)), some (.inr (9, y15)), some (.inl (.int x16)), none, none]) (st' := [.inl (.int x16), .inr (4, y14), .inl (.int x16), .inr (37, 0)]) (S' := S19) ok_X8_find.1 (by decide +kernel) rfl rfl ?_
      obtain ⟨r24, hq22, h⟩ := ax_bd_e h
      refine ax_TVi (d := 65) (ka := 4) (i := y14) [.inl (.int x16)] [.inl (.int x16), .inr (37, 0)] lk_X8_57 (by decide +kernel) rfl (by decide) rfl (Nat.le_of_ble_eq_true rfl) (Nat.le_of_ble_eq_true rfl) ((t_X4_patienceOf hq22).up (by decide)) ?_
      refine ax_Tgo [.aload_n 3, .iload 4] (pc' := 45) (L' := [some (.inr (8, 0)), some (.inr (6, 0)), some (.inr (4, y14)), some (.inr (9, y15)), some (.inl (.int x16)), none, none]) (st' := [.inl (.int x16), .inr (9, y15), .inl (.int r24), .inl (.int x16), .inr (37, 0)]) (S' := S19) ok_X8_find.1 (by decide +kernel) rfl rfl ?_
      obtain ⟨r28, hq26, h⟩ := ax_bd_e h
      refine ax_TVi (d := 65) (ka := 9) (i := y15) [.inl (.int x16)] [.inl (.int r24), .inl (.int x16), .inr (37, 0)] lk_X8_61 (by decide +kernel) rfl (by decide) rfl (Nat.le_of_ble_eq_true rfl) (Nat.le_of_ble_eq_true rfl) ((t_X9_receivedBy hq26).up (by decide)) ?_
      refine ax_Tgo [.isub] (pc' := 49) (L' := [some (.inr (8, 0)), some (.inr (6, 0)), some (.inr (4, y14)), some (.inr (9, y15)), some (.inl (.int x16)), none, none]) (st' := [.inl (.int (r24 - r28)), .inl (.int x16), .inr (37, 0)]) (S' := S19) ok_X8_find.1 (by decide +kernel) rfl rfl ?_
      obtain ⟨g29, h⟩ := ax_gd_e h
      refine ax_Tasi (n := 4) ok_X8_find.1 (by decide +kernel) (by decide) rfl g29 ?_
      obtain ⟨S30, eS30, h⟩ := ax_let_e h
      rw [eS30]
      refine ax_Tgo [.iinc 4 1] (pc' := 53) (L' := [some (.inr (8, 0)), some (.inr (6, 0)), some (.inr (4, y14)), some (.inr (9, y15)), some (.inl (.int (x16 + (1 : Int32)))), none, none]) (st' := []) (S' := S30) ok_X8_find.1 (by decide +kernel) rfl rfl ?_
      obtain ⟨v31, ev31, h⟩ := ax_let_e h
      rw [ev31]
      refine ax_Tgoto (off := (-29)) (tgt := 24) (by decide +kernel) (by decide) ?_
      exact ih y14 y15 v31 S30 _ h
set_option maxRecDepth 100000 in
theorem t_X8_find_L85 {l : Launch} {K169 : Nat → Nat → Int32 → AS → Option (AS)} (hK169 : ∀ (x49 : Nat) (x50 : Nat) (x51 : Int32) (S : AS) Z, K169 x49 x50 x51 S = some Z → ax_T l 66 ma_X8_find (169, [some (.inr (8, 0)), some (.inr (6, 0)), some (.inr (4, x49)), some (.inr (9, x50)), some (.inl (.int x51)), none, none], [], S) none Z) : ∀ (n : Nat) (y45 : Nat) (y46 : Nat) (x47 : Int32) (x48 : Int32) (S52 : AS) Z, f_X8_find_L85 K169 n y45 y46 x47 x48 S52 = some Z → ax_T l 66 ma_X8_find (85, [some (.inr (8, 0)), some (.inr (6, 0)), some (.inr (4, y45)), some (.inr (9, y46)), some (.inl (.int x47)), some (.inl (.int x48)), none], [], S52) none Z := by
  intro n
  induction n with
  | zero =>
    intro y45 y46 x47 x48 S52 Z h
    cases h
  | succ n ih =>
    intro y45 y46 x47 x48 S52 Z h
    unfold f_X8_find_L85 at h
    refine ax_Tgo [.iload 5, .bipush 6] (pc' := 89) (L' := [some (.inr (8, 0)), some (.inr (6, 0)), some (.inr (4, y45)), some (.inr (9, y46)), some (.inl (.int x47)), some (.inl (.int x48)), none]) (st' := [.inl (.int (6 : Int32)), .inl (.int x48)]) (S' := S52) ok_X8_find.1 (by decide +kernel) rfl rfl ?_
    refine ax_Tic_ge (off := 80) (tgt := 169) (by decide +kernel) (by decide) (fun c53 => ?_) (fun c53 => ?_)
    · rw [if_pos c53] at h
      refine ax_Tdrop [true, true, true, true, true, false, true] (L' := [some (.inr (8, 0)), some (.inr (6, 0)), some (.inr (4, y45)), some (.inr (9, y46)), some (.inl (.int x47)), none, none]) rfl ?_
      exact hK169 y45 y46 x47 S52 _ h
    · rw [if_neg c53] at h
      refine ax_Tgo [.aload_n 1, .aload_n 3, .iload 4, .aload_n 3, .iload 4] (pc' := 99) (L' := [some (.inr (8, 0)), some (.inr (6, 0)), some (.inr (4, y45)), some (.inr (9, y46)), some (.inl (.int x47)), some (.inl (.int x48)), none]) (st' := [.inl (.int x47), .inr (9, y46), .inl (.int x47), .inr (9, y46), .inr (6, 0)]) (S' := S52) ok_X8_find.1 (by decide +kernel) rfl rfl ?_
      obtain ⟨r57, hq55, h⟩ := ax_bd_e h
      refine ax_TVi (d := 65) (ka := 9) (i := y46) [.inl (.int x47)] [.inl (.int x47), .inr (9, y46), .inr (6, 0)] lk_X8_69 (by decide +kernel) rfl (by decide) rfl (Nat.le_of_ble_eq_true rfl) (Nat.le_of_ble_eq_true rfl) ((t_X9_titlesOf hq55).up (by decide)) ?_
      refine ax_Tgo [.aload_n 3, .getfield 72, .iload 5, .iadd] (pc' := 109) (L' := [some (.inr (8, 0)), some (.inr (6, 0)), some (.inr (4, y45)), some (.inr (9, y46)), some (.inl (.int x47)), some (.inl (.int x48)), none]) (st' := [.inl (.int ((ax_fi S52 9 y46 3) + x48)), .inl (.int r57), .inl (.int x47), .inr (9, y46), .inr (6, 0)]) (S' := S52) ok_X8_find.1 (by decide +kernel) rfl rfl ?_
      obtain ⟨r61, S58, hq59, h⟩ := ax_bu_e h
      refine ax_TVi (d := 65) (ka := 6) (i := 0) [.inr (9, y46), .inl (.int x47), .inl (.int r57), .inl (.int ((ax_fi S52 9 y46 3) + x48))] [] lk_X8_75 (by decide +kernel) rfl (by decide) rfl (Nat.le_of_ble_eq_true rfl) (Nat.le_of_ble_eq_true rfl) ((t_X6_beatsTired hq59).up (by decide)) ?_
      refine ax_Tgo [.istore 6, .aload_n 0, .getfield 9, .iload 5, .bipush 6, .imul, .iload 4, .iadd, .iload 6] (pc' := 128) (L' := [some (.inr (8, 0)), some (.inr (6, 0)), some (.inr (4, y45)), some (.inr (9, y46)), some (.inl (.int x47)), some (.inl (.int x48)), some (.inl (.int r61))]) (st' := [.inl (.int r61), .inl (.int ((x48 * (6 : Int32)) + x47)), .inr (34, 0)]) (S' := S58) ok_X8_find.1 (by decide +kernel) rfl rfl ?_
      obtain ⟨g62, h⟩ := ax_gd_e h
      refine ax_Tasi (n := 36) ok_X8_find.1 (by decide +kernel) (by decide) rfl g62 ?_
      obtain ⟨S63, eS63, h⟩ := ax_let_e h
      rw [eS63]
      refine ax_Tgo [.aload_n 0, .getfield 15, .iload 5, .bipush 6, .imul, .iload 4, .iadd, .aload_n 1, .iload 4, .iload 6] (pc' := 146) (L' := [some (.inr (8, 0)), some (.inr (6, 0)), some (.inr (4, y45)), some (.inr (9, y46)), some (.inl (.int x47)), some (.inl (.int x48)), some (.inl (.int r61))]) (st' := [.inl (.int r61), .inl (.int x47), .inr (6, 0), .inl (.int ((x48 * (6 : Int32)) + x47)), .inr (35, 0)]) (S' := S63) ok_X8_find.1 (by decide +kernel) rfl rfl ?_
      obtain ⟨r67, hq65, h⟩ := ax_bd_e h
      refine ax_TVi (d := 65) (ka := 6) (i := 0) [.inl (.int x47), .inl (.int r61)] [.inl (.int ((x48 * (6 : Int32)) + x47)), .inr (35, 0)] lk_X8_81 (by decide +kernel) rfl (by decide) rfl (Nat.le_of_ble_eq_true rfl) (Nat.le_of_ble_eq_true rfl) ((t_X6_doneBy hq65).up (by decide)) ?_
      refine ax_Tif_eq (off := 12) (tgt := 161) (by decide +kernel) (by decide) (fun c68 => ?_) (fun c68 => ?_)
      · rw [if_pos c68] at h
        refine ax_Tgo [.iconst 0] (pc' := 162) (L' := [some (.inr (8, 0)), some (.inr (6, 0)), some (.inr (4, y45)), some (.inr (9, y46)), some (.inl (.int x47)), some (.inl (.int x48)), some (.inl (.int r61))]) (st' := [.inl (.int (0 : Int32)), .inl (.int ((x48 * (6 : Int32)) + x47)), .inr (35, 0)]) (S' := S63) ok_X8_find.1 (by decide +kernel) rfl rfl ?_
        obtain ⟨g69, h⟩ := ax_gd_e h
        refine ax_Tasi (n := 36) ok_X8_find.1 (by decide +kernel) (by decide) rfl g69 ?_
        obtain ⟨S70, eS70, h⟩ := ax_let_e h
        rw [eS70]
        refine ax_Tgo [.iinc 5 1] (pc' := 166) (L' := [some (.inr (8, 0)), some (.inr (6, 0)), some (.inr (4, y45)), some (.inr (9, y46)), some (.inl (.int x47)), some (.inl (.int (x48 + (1 : Int32)))), some (.inl (.int r61))]) (st' := []) (S' := S70) ok_X8_find.1 (by decide +kernel) rfl rfl ?_
        obtain ⟨v71, ev71, h⟩ := ax_let_e h
        rw [ev71]
        refine ax_Tgoto (off := (-81)) (tgt := 85) (by decide +kernel) (by decide) ?_
        refine ax_Tdrop [true, true, true, true, true, true, false] (L' := [some (.inr (8, 0)), some (.inr (6, 0)), some (.inr (4, y45)), some (.inr (9, y46)), some (.inl (.int x47)), some (.inl (.int v71)), none]) rfl ?_
        exact ih y45 y46 x47 v71 S70 _ h
      · rw [if_neg c68] at h
        refine ax_Tgo [.aload_n 1, .iload 4] (pc' := 155) (L' := [some (.inr (8, 0)), some (.inr (6, 0)), some (.inr (4, y45)), some (.inr (9, y46)), some (.inl (.int x47)), some (.inl (.int x48)), some (.inl (.int r61))]) (st' := [.inl (.int x47), .inr (6, 0), .inl (.int ((x48 * (6 : Int32)) + x47)), .inr (35, 0)]) (S' := S63) ok_X8_find.1 (by decide +kernel) rfl rfl ?_
        obtain ⟨r75, hq73, h⟩ := ax_bd_e h
        refine ax_TVi (d := 65) (ka := 6) (i := 0) [.inl (.int x47)] [.inl (.int ((x48 * (6 : Int32)) + x47)), .inr (35, 0)] lk_X8_85 (by decide +kernel) rfl (by decide) rfl (Nat.le_of_ble_eq_true rfl) (Nat.le_of_ble_eq_true rfl) ((t_X6_gainOf hq73).up (by decide)) ?_
        refine ax_Tgoto (off := 4) (tgt := 162) (by decide +kernel) (by decide) ?_
        obtain ⟨g76, h⟩ := ax_gd_e h
        refine ax_Tasi (n := 36) ok_X8_find.1 (by decide +kernel) (by decide) rfl g76 ?_
        obtain ⟨S77, eS77, h⟩ := ax_let_e h
        rw [eS77]
        refine ax_Tgo [.iinc 5 1] (pc' := 166) (L' := [some (.inr (8, 0)), some (.inr (6, 0)), some (.inr (4, y45)), some (.inr (9, y46)), some (.inl (.int x47)), some (.inl (.int (x48 + (1 : Int32)))), some (.inl (.int r61))]) (st' := []) (S' := S77) ok_X8_find.1 (by decide +kernel) rfl rfl ?_
        obtain ⟨v78, ev78, h⟩ := ax_let_e h
        rw [ev78]
        refine ax_Tgoto (off := (-81)) (tgt := 85) (by decide +kernel) (by decide) ?_
        refine ax_Tdrop [true, true, true, true, true, true, false] (L' := [some (.inr (8, 0)), some (.inr (6, 0)), some (.inr (4, y45)), some (.inr (9, y46)), some (.inl (.int x47)), some (.inl (.int v78)), none]) rfl ?_
        exact ih y45 y46 x47 v78 S77 _ h
set_option maxRecDepth 100000 in
theorem t_X8_find_L59 {l : Launch} {K175 : Nat → AS → Option (AS)} (hK175 : ∀ (x36 : Nat) (S : AS) Z, K175 x36 S = some Z → ax_T l 66 ma_X8_find (175, [some (.inr (8, 0)), none, none, some (.inr (9, x36)), none, none, none], [], S) none Z) : ∀ (n : Nat) (y33 : Nat) (y34 : Nat) (x35 : Int32) (S37 : AS) Z, f_X8_find_L59 K175 n y33 y34 x35 S37 = some Z → ax_T l 66 ma_X8_find (59, [some (.inr (8, 0)), some (.inr (6, 0)), some (.inr (4, y33)), some (.inr (9, y34)), some (.inl (.int x35)), none, none], [], S37) none Z := by
  intro n
  induction n with
  | zero =>
    intro y33 y34 x35 S37 Z h
    cases h
  | succ n ih =>
    intro y33 y34 x35 S37 Z h
    unfold f_X8_find_L59 at h
    refine ax_Tgo [.iload 4, .aload_n 0, .getfield 24] (pc' := 65) (L' := [some (.inr (8, 0)), some (.inr (6, 0)), some (.inr (4, y33)), some (.inr (9, y34)), some (.inl (.int x35)), none, none]) (st' := [.inl (.int (ax_fi S37 8 0 4)), .inl (.int x35)]) (S' := S37) ok_X8_find.1 (by decide +kernel) rfl rfl ?_
    refine ax_Tic_ge (off := 110) (tgt := 175) (by decide +kernel) (by decide) (fun c38 => ?_) (fun c38 => ?_)
    · rw [if_pos c38] at h
      refine ax_Tdrop [true, false, false, true, false, true, true] (L' := [some (.inr (8, 0)), none, none, some (.inr (9, y34)), none, none, none]) rfl ?_
      exact hK175 y34 S37 _ h
    · rw [if_neg c38] at h
      refine ax_Tgo [.aload_n 0, .getfield 18, .iload 4, .aload_n 2, .iload 4, .iconst 5] (pc' := 78) (L' := [some (.inr (8, 0)), some (.inr (6, 0)), some (.inr (4, y33)), some (.inr (9, y34)), some (.inl (.int x35)), none, none]) (st' := [.inl (.int (5 : Int32)), .inl (.int x35), .inr (4, y33), .inl (.int x35), .inr (36, 0)]) (S' := S37) ok_X8_find.1 (by decide +kernel) rfl rfl ?_
      obtain ⟨r42, hq40, h⟩ := ax_bd_e h
      refine ax_TVi (d := 65) (ka := 4) (i := y33) [.inl (.int x35), .inl (.int (5 : Int32))] [.inl (.int x35), .inr (36, 0)] lk_X8_66 (by decide +kernel) rfl (by decide) rfl (Nat.le_of_ble_eq_true rfl) (Nat.le_of_ble_eq_true rfl) ((t_X4_traitOf hq40).up (by decide)) ?_
      obtain ⟨g43, h⟩ := ax_gd_e h
      refine ax_Tasi (n := 6) ok_X8_find.1 (by decide +kernel) (by decide) rfl g43 ?_
      obtain ⟨S44, eS44, h⟩ := ax_let_e h
      rw [eS44]
      refine ax_Tgo [.iconst 0, .istore 5] (pc' := 85) (L' := [some (.inr (8, 0)), some (.inr (6, 0)), some (.inr (4, y33)), some (.inr (9, y34)), some (.inl (.int x35)), some (.inl (.int (0 : Int32))), none]) (st' := []) (S' := S44) ok_X8_find.1 (by decide +kernel) rfl rfl ?_
      refine t_X8_find_L85 ?_ _ y33 y34 x35 (0 : Int32) S44 _ h
      · intro x49 x50 x51 S79 Z h
        refine ax_Tgo [.iinc 4 1] (pc' := 172) (L' := [some (.inr (8, 0)), some (.inr (6, 0)), some (.inr (4, x49)), some (.inr (9, x50)), some (.inl (.int (x51 + (1 : Int32)))), none, none]) (st' := []) (S' := S79) ok_X8_find.1 (by decide +kernel) rfl rfl ?_
        obtain ⟨v80, ev80, h⟩ := ax_let_e h
        rw [ev80]
        refine ax_Tgoto (off := (-113)) (tgt := 59) (by decide +kernel) (by decide) ?_
        exact ih x49 x50 v80 S79 _ h
set_option maxRecDepth 100000 in
theorem t_X8_find {l : Launch} {i2 : Nat} {i3 : Nat} {S Z : AS} (h : f_X8_find i2 i3 S = some Z) : ax_M l 66 ma_X8_find [.inr (8, 0), .inr (6, 0), .inr (4, i2), .inr (9, i3)] S none Z := by
  unfold f_X8_find at h
  show ax_T l 66 ma_X8_find (0, [some (.inr (8, 0)), some (.inr (6, 0)), some (.inr (4, i2)), some (.inr (9, i3)), none, none, none], [], S) none Z
  refine ax_Tgo [.aload_n 0, .bipush 6, .aload_n 2] (pc' := 4) (L' := [some (.inr (8, 0)), some (.inr (6, 0)), some (.inr (4, i2)), some (.inr (9, i3)), none, none, none]) (st' := [.inr (4, i2), .inl (.int (6 : Int32)), .inr (8, 0)]) (S' := S) ok_X8_find.1 (by decide +kernel) rfl rfl ?_
  refine ax_TVi (d := 65) (ka := 4) (i := i2) [] [.inl (.int (6 : Int32)), .inr (8, 0)] lk_X8_43 (by decide +kernel) rfl (by decide) rfl (Nat.le_of_ble_eq_true rfl) (Nat.le_of_ble_eq_true rfl) ((t_X4_callers rfl).up (by decide)) ?_
  obtain ⟨r7, hq5, h⟩ := ax_bd_e h
  refine ax_TSi (d := 65) [.inl (.int (6 : Int32)), .inl (.int (ax_fi S 4 i2 5))] [.inr (8, 0)] lk_X8_49 (by decide +kernel) rfl rfl (Nat.le_of_ble_eq_true rfl) (Nat.le_of_ble_eq_true rfl) ((t_J9_min_7cf53 hq5).up (by decide)) ?_
  refine ax_Tgo [.putfield 24] (pc' := 13) (L' := [some (.inr (8, 0)), some (.inr (6, 0)), some (.inr (4, i2)), some (.inr (9, i3)), none, none, none]) (st' := []) (S' := (ax_sfi S 8 0 4 r7)) ok_X8_find.1 (by decide +kernel) rfl rfl ?_
  obtain ⟨S8, eS8, h⟩ := ax_let_e h
  rw [eS8]
  refine ax_Tgo [.aload_n 0, .aload_n 2] (pc' := 15) (L' := [some (.inr (8, 0)), some (.inr (6, 0)), some (.inr (4, i2)), some (.inr (9, i3)), none, none, none]) (st' := [.inr (4, i2), .inr (8, 0)]) (S' := S8) ok_X8_find.1 (by decide +kernel) rfl rfl ?_
  obtain ⟨r12, hq10, h⟩ := ax_bd_e h
  refine ax_TVi (d := 65) (ka := 4) (i := i2) [] [.inr (8, 0)] lk_X8_55 (by decide +kernel) rfl (by decide) rfl (Nat.le_of_ble_eq_true rfl) (Nat.le_of_ble_eq_true rfl) ((t_X4_beats hq10).up (by decide)) ?_
  refine ax_Tgo [.putfield 28] (pc' := 21) (L' := [some (.inr (8, 0)), some (.inr (6, 0)), some (.inr (4, i2)), some (.inr (9, i3)), none, none, none]) (st' := []) (S' := (ax_sfi S8 8 0 5 r12)) ok_X8_find.1 (by decide +kernel) rfl rfl ?_
  obtain ⟨S13, eS13, h⟩ := ax_let_e h
  rw [eS13]
  refine ax_Tgo [.iconst 0, .istore 4] (pc' := 24) (L' := [some (.inr (8, 0)), some (.inr (6, 0)), some (.inr (4, i2)), some (.inr (9, i3)), some (.inl (.int (0 : Int32))), none, none]) (st' := []) (S' := S13) ok_X8_find.1 (by decide +kernel) rfl rfl ?_
  refine t_X8_find_L24 ?_ _ i2 i3 (0 : Int32) S13 _ h
  · intro x17 x18 S32 Z h
    refine ax_Tgo [.iconst 0, .istore 4] (pc' := 59) (L' := [some (.inr (8, 0)), some (.inr (6, 0)), some (.inr (4, x17)), some (.inr (9, x18)), some (.inl (.int (0 : Int32))), none, none]) (st' := []) (S' := S32) ok_X8_find.1 (by decide +kernel) rfl rfl ?_
    refine t_X8_find_L59 ?_ _ x17 x18 (0 : Int32) S32 _ h
    · intro x36 S81 Z h
      refine ax_Tgo [.aload_n 0, .iconst 0, .putfield 31] (pc' := 180) (L' := [some (.inr (8, 0)), none, none, some (.inr (9, x36)), none, none, none]) (st' := []) (S' := (ax_sfi S81 8 0 6 (0 : Int32))) ok_X8_find.1 (by decide +kernel) rfl rfl ?_
      obtain ⟨S82, eS82, h⟩ := ax_let_e h
      rw [eS82]
      refine ax_Tgo [.aload_n 0, .iconst 0, .putfield 34] (pc' := 185) (L' := [some (.inr (8, 0)), none, none, some (.inr (9, x36)), none, none, none]) (st' := []) (S' := (ax_sfi S82 8 0 7 (0 : Int32))) ok_X8_find.1 (by decide +kernel) rfl rfl ?_
      obtain ⟨S83, eS83, h⟩ := ax_let_e h
      rw [eS83]
      refine ax_Tgo [.aload_n 0, .iconst 0, .putfield 37] (pc' := 190) (L' := [some (.inr (8, 0)), none, none, some (.inr (9, x36)), none, none, none]) (st' := []) (S' := (ax_sfi S83 8 0 8 (0 : Int32))) ok_X8_find.1 (by decide +kernel) rfl rfl ?_
      obtain ⟨S84, eS84, h⟩ := ax_let_e h
      rw [eS84]
      refine ax_Tgo [.aload_n 0, .aload_n 3, .getfield 88, .putfield 40] (pc' := 198) (L' := [some (.inr (8, 0)), none, none, some (.inr (9, x36)), none, none, none]) (st' := []) (S' := (ax_sfi S84 8 0 9 (ax_fi S84 9 x36 0))) ok_X8_find.1 (by decide +kernel) rfl rfl ?_
      obtain ⟨S85, eS85, h⟩ := ax_let_e h
      rw [eS85]
      refine ax_Tgo [.aload_n 0, .aload_n 3, .getfield 89, .iconst 0, .iconst 0, .aload_n 3, .getfield 88, .iconst 0] (pc' := 210) (L' := [some (.inr (8, 0)), none, none, some (.inr (9, x36)), none, none, none]) (st' := [.inl (.int (0 : Int32)), .inl (.int (ax_fi S85 9 x36 0)), .inl (.int (0 : Int32)), .inl (.int (0 : Int32)), .inl (.int (ax_fi S85 9 x36 1)), .inr (8, 0)]) (S' := S85) ok_X8_find.1 (by decide +kernel) rfl rfl ?_
      obtain ⟨S86, hq87, h⟩ := ax_bd_e h
      refine ax_TVv (d := 65) (ka := 8) (i := 0) [.inl (.int (ax_fi S85 9 x36 1)), .inl (.int (0 : Int32)), .inl (.int (0 : Int32)), .inl (.int (ax_fi S85 9 x36 0)), .inl (.int (0 : Int32))] [] lk_X8_92 (by decide +kernel) rfl (by decide) rfl (Nat.le_of_ble_eq_true rfl) (Nat.le_of_ble_eq_true rfl) ((tg_Extend_0 hq87).up (by decide)) ?_
      cases h
      exact ax_Tretv (by decide +kernel) rfl
def f_X8_bestRow (S : AS) : Option (Int32) := (if (ax_fi S 8 0 7) = (0 : Int32) then some (Int32.ofInt (-1)) else some (ax_fi S 8 0 6))
set_option maxRecDepth 100000 in
theorem t_X8_bestRow {l : Launch} {S : AS} {r : Int32} (h : f_X8_bestRow S = some r) : ax_M l 0 ma_X8_bestRow [.inr (8, 0)] S (some (.inl (.int r))) S := by
  unfold f_X8_bestRow at h
  show ax_T l 0 ma_X8_bestRow (0, [some (.inr (8, 0))], [], S) (some (.inl (.int r))) S
  refine ax_Tgo [.aload_n 0, .getfield 34] (pc' := 4) (L' := [some (.inr (8, 0))]) (st' := [.inl (.int (ax_fi S 8 0 7))]) (S' := S) ok_X8_bestRow.1 (by decide +kernel) rfl rfl ?_
  refine ax_Tif_ne (off := 7) (tgt := 11) (by decide +kernel) (by decide) (fun c1 => ?_) (fun c1 => ?_)
  · rw [if_neg c1] at h
    refine ax_Tgo [.aload_n 0, .getfield 31] (pc' := 15) (L' := [some (.inr (8, 0))]) (st' := [.inl (.int (ax_fi S 8 0 6))]) (S' := S) ok_X8_bestRow.1 (by decide +kernel) rfl rfl ?_
    cases h
    exact ax_Treti (by decide +kernel) rfl rfl
  · rw [if_pos c1] at h
    refine ax_Tgo [.iconst (-1)] (pc' := 8) (L' := [some (.inr (8, 0))]) (st' := [.inl (.int (Int32.ofInt (-1)))]) (S' := S) ok_X8_bestRow.1 (by decide +kernel) rfl rfl ?_
    refine ax_Tgoto (off := 7) (tgt := 15) (by decide +kernel) (by decide) ?_
    cases h
    exact ax_Treti (by decide +kernel) rfl rfl
def f_X8_bestGain (S : AS) : Option (Int32) := some (ax_fi S 8 0 8)
set_option maxRecDepth 100000 in
theorem t_X8_bestGain {l : Launch} {S : AS} {r : Int32} (h : f_X8_bestGain S = some r) : ax_M l 0 ma_X8_bestGain [.inr (8, 0)] S (some (.inl (.int r))) S := by
  unfold f_X8_bestGain at h
  show ax_T l 0 ma_X8_bestGain (0, [some (.inr (8, 0))], [], S) (some (.inl (.int r))) S
  refine ax_Tgo [.aload_n 0, .getfield 37] (pc' := 4) (L' := [some (.inr (8, 0))]) (st' := [.inl (.int (ax_fi S 8 0 8))]) (S' := S) ok_X8_bestGain.1 (by decide +kernel) rfl rfl ?_
  cases h
  exact ax_Treti (by decide +kernel) rfl rfl
def f_X8_bestClock (S : AS) : Option (Int32) := some (ax_fi S 8 0 9)
set_option maxRecDepth 100000 in
theorem t_X8_bestClock {l : Launch} {S : AS} {r : Int32} (h : f_X8_bestClock S = some r) : ax_M l 0 ma_X8_bestClock [.inr (8, 0)] S (some (.inl (.int r))) S := by
  unfold f_X8_bestClock at h
  show ax_T l 0 ma_X8_bestClock (0, [some (.inr (8, 0))], [], S) (some (.inl (.int r))) S
  refine ax_Tgo [.aload_n 0, .getfield 40] (pc' := 4) (L' := [some (.inr (8, 0))]) (st' := [.inl (.int (ax_fi S 8 0 9))]) (S' := S) ok_X8_bestClock.1 (by decide +kernel) rfl rfl ?_
  cases h
  exact ax_Treti (by decide +kernel) rfl rfl
def f_X11_order (a1 : Int32) (S : AS) : Option (Int32 × AS) := (f_X11_noHouse S).bind (fun (r4 : Int32) => (if r4 = (0 : Int32) then (if a1 < (0 : Int32) then some ((Int32.ofInt (-1)), S) else (if a1 ≤ (2 : Int32) then (f_X8_find (ax_fx S 11 0 14) 0 S).bind (fun (S8 : AS) => (if a1 = (0 : Int32) then (f_X8_bestRow S8).bind (fun (r15 : Int32) => some (r15, S8)) else if a1 = (1 : Int32) then some ((ax_fi S8 8 0 8), S8) else some ((ax_fi S8 8 0 9), S8))) else some ((Int32.ofInt (-1)), S))) else some ((Int32.ofInt (-1)), S)))
set_option maxRecDepth 100000 in
theorem t_X11_order {l : Launch} {a1 : Int32} {S Z : AS} {r : Int32} (h : f_X11_order a1 S = some (r, Z)) : ax_M l 67 ma_X11_order [.inr (11, 0), .inl (.int a1)] S (some (.inl (.int r))) Z := by
  unfold f_X11_order at h
  show ax_T l 67 ma_X11_order (0, [some (.inr (11, 0)), some (.inl (.int a1))], [], S) (some (.inl (.int r))) Z
  refine ax_Tgo [.aload_n 0] (pc' := 1) (L' := [some (.inr (11, 0)), some (.inl (.int a1))]) (st' := [.inr (11, 0)]) (S' := S) ok_X11_order.1 (by decide +kernel) rfl rfl ?_
  obtain ⟨r4, hq2, h⟩ := ax_bd_e h
  refine ax_TVi (d := 66) (ka := 11) (i := 0) [] [] lk_X11_161 (by decide +kernel) rfl (by decide) rfl (Nat.le_of_ble_eq_true rfl) (Nat.le_of_ble_eq_true rfl) ((t_X11_noHouse hq2).up (by decide)) ?_
  refine ax_Tif_ne (off := 12) (tgt := 16) (by decide +kernel) (by decide) (fun c5 => ?_) (fun c5 => ?_)
  · rw [if_neg c5] at h
    refine ax_Tgo [.iconst (-1)] (pc' := 17) (L' := [some (.inr (11, 0)), some (.inl (.int a1))]) (st' := [.inl (.int (Int32.ofInt (-1)))]) (S' := S) ok_X11_order.1 (by decide +kernel) rfl rfl ?_
    cases h
    exact ax_Treti (by decide +kernel) rfl rfl
  · rw [if_pos c5] at h
    refine ax_Tgo [.iload_n 1] (pc' := 8) (L' := [some (.inr (11, 0)), some (.inl (.int a1))]) (st' := [.inl (.int a1)]) (S' := S) ok_X11_order.1 (by decide +kernel) rfl rfl ?_
    refine ax_Tif_lt (off := 8) (tgt := 16) (by decide +kernel) (by decide) (fun c6 => ?_) (fun c6 => ?_)
    · rw [if_pos c6] at h
      refine ax_Tgo [.iconst (-1)] (pc' := 17) (L' := [some (.inr (11, 0)), some (.inl (.int a1))]) (st' := [.inl (.int (Int32.ofInt (-1)))]) (S' := S) ok_X11_order.1 (by decide +kernel) rfl rfl ?_
      cases h
      exact ax_Treti (by decide +kernel) rfl rfl
    · rw [if_neg c6] at h
      refine ax_Tgo [.iload_n 1, .iconst 2] (pc' := 13) (L' := [some (.inr (11, 0)), some (.inl (.int a1))]) (st' := [.inl (.int (2 : Int32)), .inl (.int a1)]) (S' := S) ok_X11_order.1 (by decide +kernel) rfl rfl ?_
      refine ax_Tic_le (off := 5) (tgt := 18) (by decide +kernel) (by decide) (fun c7 => ?_) (fun c7 => ?_)
      · rw [if_pos c7] at h
        refine ax_Tgo [.aload_n 0, .getfield 62, .aload_n 0, .getfield 31, .aload_n 0, .getfield 93, .aload_n 0, .getfield 69] (pc' := 34) (L' := [some (.inr (11, 0)), some (.inl (.int a1))]) (st' := [.inr (9, 0), .inr (4, (ax_fx S 11 0 14)), .inr (6, 0), .inr (8, 0)]) (S' := S) ok_X11_order.1 (by decide +kernel) rfl rfl ?_
        obtain ⟨S8, hq9, h⟩ := ax_bd_e h
        refine ax_TVv (d := 66) (ka := 8) (i := 0) [.inr (6, 0), .inr (4, (ax_fx S 11 0 14)), .inr (9, 0)] [] lk_X11_291 (by decide +kernel) rfl (by decide) rfl (Nat.le_of_ble_eq_true rfl) (Nat.le_of_ble_eq_true rfl) ((t_X8_find hq9).up (by decide)) ?_
        refine ax_Tgo [.iload_n 1] (pc' := 38) (L' := [some (.inr (11, 0)), some (.inl (.int a1))]) (st' := [.inl (.int a1)]) (S' := S8) ok_X11_order.1 (by decide +kernel) rfl rfl ?_
        by_cases c11 : a1 = (0 : Int32)
        · rw [if_pos c11] at h
          refine ax_Tlsw (dflt := 42) (ps := #[(0, 26), (1, 34)]) (len := 26) (off := 26) (tgt := 64) (by decide +kernel) (by decide) (by rw [c11]; rfl) (by decide) ?_
          refine ax_Tgo [.aload_n 0, .getfield 62] (pc' := 68) (L' := [some (.inr (11, 0)), some (.inl (.int a1))]) (st' := [.inr (8, 0)]) (S' := S8) ok_X11_order.1 (by decide +kernel) rfl rfl ?_
          obtain ⟨r15, hq13, h⟩ := ax_bd_e h
          refine ax_TVi (d := 66) (ka := 8) (i := 0) [] [] lk_X11_295 (by decide +kernel) rfl (by decide) rfl (Nat.le_of_ble_eq_true rfl) (Nat.le_of_ble_eq_true rfl) ((t_X8_bestRow hq13).up (by decide)) ?_
          cases h
          exact ax_Treti (by decide +kernel) rfl rfl
        · rw [if_neg c11] at h
          by_cases c16 : a1 = (1 : Int32)
          · rw [if_pos c16] at h
            refine ax_Tlsw (dflt := 42) (ps := #[(0, 26), (1, 34)]) (len := 26) (off := 34) (tgt := 72) (by decide +kernel) (by decide) (by rw [c16]; rfl) (by decide) ?_
            refine ax_Tgo [.aload_n 0, .getfield 62] (pc' := 76) (L' := [some (.inr (11, 0)), some (.inl (.int a1))]) (st' := [.inr (8, 0)]) (S' := S8) ok_X11_order.1 (by decide +kernel) rfl rfl ?_
            refine ax_TVi (d := 66) (ka := 8) (i := 0) [] [] lk_X11_298 (by decide +kernel) rfl (by decide) rfl (Nat.le_of_ble_eq_true rfl) (Nat.le_of_ble_eq_true rfl) ((t_X8_bestGain rfl).up (by decide)) ?_
            cases h
            exact ax_Treti (by decide +kernel) rfl rfl
          · rw [if_neg c16] at h
            refine ax_Tlsw (dflt := 42) (ps := #[(0, 26), (1, 34)]) (len := 26) (off := 42) (tgt := 80) (by decide +kernel) (by decide) (by show Op.lookupswitch.offset [(0, 26), (1, 34)] 42 a1.toInt = 42; rw [lv_osw (a := 0) c11 rfl]; rw [lv_osw (a := 1) c16 rfl]; rfl) (by decide) ?_
            refine ax_Tgo [.aload_n 0, .getfield 62] (pc' := 84) (L' := [some (.inr (11, 0)), some (.inl (.int a1))]) (st' := [.inr (8, 0)]) (S' := S8) ok_X11_order.1 (by decide +kernel) rfl rfl ?_
            refine ax_TVi (d := 66) (ka := 8) (i := 0) [] [] lk_X11_301 (by decide +kernel) rfl (by decide) rfl (Nat.le_of_ble_eq_true rfl) (Nat.le_of_ble_eq_true rfl) ((t_X8_bestClock rfl).up (by decide)) ?_
            cases h
            exact ax_Treti (by decide +kernel) rfl rfl
      · rw [if_neg c7] at h
        refine ax_Tgo [.iconst (-1)] (pc' := 17) (L' := [some (.inr (11, 0)), some (.inl (.int a1))]) (st' := [.inl (.int (Int32.ofInt (-1)))]) (S' := S) ok_X11_order.1 (by decide +kernel) rfl rfl ?_
        cases h
        exact ax_Treti (by decide +kernel) rfl rfl
def f_X0_steps (i0 : Nat) (S : AS) : Option (Int32) := some (ax_fi S 0 i0 2)
set_option maxRecDepth 100000 in
theorem t_X0_steps {l : Launch} {i0 : Nat} {S : AS} {r : Int32} (h : f_X0_steps i0 S = some r) : ax_M l 0 ma_X0_steps [.inr (0, i0)] S (some (.inl (.int r))) S := by
  unfold f_X0_steps at h
  show ax_T l 0 ma_X0_steps (0, [some (.inr (0, i0))], [], S) (some (.inl (.int r))) S
  refine ax_Tgo [.aload_n 0, .getfield 18] (pc' := 4) (L' := [some (.inr (0, i0))]) (st' := [.inl (.int (ax_fi S 0 i0 2))]) (S' := S) ok_X0_steps.1 (by decide +kernel) rfl rfl ?_
  cases h
  exact ax_Treti (by decide +kernel) rfl rfl
def f_X0_kindOf (i0 : Nat) (a1 : Int32) (S : AS) : Option (Int32) := (if a1 < (0 : Int32) then some (Int32.ofInt (-1)) else (if (ax_fi S 0 i0 2) ≤ a1 then some (Int32.ofInt (-1)) else ax_gd (ax_in a1 16) (some (ax_ai S 20 i0 a1.toNatClampNeg))))
set_option maxRecDepth 100000 in
theorem t_X0_kindOf {l : Launch} {i0 : Nat} {a1 : Int32} {S : AS} {r : Int32} (h : f_X0_kindOf i0 a1 S = some r) : ax_M l 0 ma_X0_kindOf [.inr (0, i0), .inl (.int a1)] S (some (.inl (.int r))) S := by
  unfold f_X0_kindOf at h
  show ax_T l 0 ma_X0_kindOf (0, [some (.inr (0, i0)), some (.inl (.int a1))], [], S) (some (.inl (.int r))) S
  refine ax_Tgo [.iload_n 1] (pc' := 1) (L' := [some (.inr (0, i0)), some (.inl (.int a1))]) (st' := [.inl (.int a1)]) (S' := S) ok_X0_kindOf.1 (by decide +kernel) rfl rfl ?_
  refine ax_Tif_lt (off := 20) (tgt := 21) (by decide +kernel) (by decide) (fun c1 => ?_) (fun c1 => ?_)
  · rw [if_pos c1] at h
    refine ax_Tgo [.iconst (-1)] (pc' := 22) (L' := [some (.inr (0, i0)), some (.inl (.int a1))]) (st' := [.inl (.int (Int32.ofInt (-1)))]) (S' := S) ok_X0_kindOf.1 (by decide +kernel) rfl rfl ?_
    cases h
    exact ax_Treti (by decide +kernel) rfl rfl
  · rw [if_neg c1] at h
    refine ax_Tgo [.iload_n 1, .aload_n 0, .getfield 18] (pc' := 9) (L' := [some (.inr (0, i0)), some (.inl (.int a1))]) (st' := [.inl (.int (ax_fi S 0 i0 2)), .inl (.int a1)]) (S' := S) ok_X0_kindOf.1 (by decide +kernel) rfl rfl ?_
    refine ax_Tic_ge (off := 12) (tgt := 21) (by decide +kernel) (by decide) (fun c2 => ?_) (fun c2 => ?_)
    · rw [if_pos c2] at h
      refine ax_Tgo [.iconst (-1)] (pc' := 22) (L' := [some (.inr (0, i0)), some (.inl (.int a1))]) (st' := [.inl (.int (Int32.ofInt (-1)))]) (S' := S) ok_X0_kindOf.1 (by decide +kernel) rfl rfl ?_
      cases h
      exact ax_Treti (by decide +kernel) rfl rfl
    · rw [if_neg c2] at h
      refine ax_Tgo [.aload_n 0, .getfield 11, .iload_n 1] (pc' := 17) (L' := [some (.inr (0, i0)), some (.inl (.int a1))]) (st' := [.inl (.int a1), .inr (20, i0)]) (S' := S) ok_X0_kindOf.1 (by decide +kernel) rfl rfl ?_
      obtain ⟨g3, h⟩ := ax_gd_e h
      refine ax_Tali (n := 16) ok_X0_kindOf.1 (by decide +kernel) (by decide) rfl g3 ?_
      refine ax_Tgoto (off := 4) (tgt := 22) (by decide +kernel) (by decide) ?_
      cases h
      exact ax_Treti (by decide +kernel) rfl rfl
def f_X0_digitOf (i0 : Nat) (a1 : Int32) (S : AS) : Option (Int32) := (if a1 < (0 : Int32) then some (Int32.ofInt (-1)) else (if (ax_fi S 0 i0 2) ≤ a1 then some (Int32.ofInt (-1)) else ax_gd (ax_in a1 16) (some (ax_ai S 21 i0 a1.toNatClampNeg))))
set_option maxRecDepth 100000 in
theorem t_X0_digitOf {l : Launch} {i0 : Nat} {a1 : Int32} {S : AS} {r : Int32} (h : f_X0_digitOf i0 a1 S = some r) : ax_M l 0 ma_X0_digitOf [.inr (0, i0), .inl (.int a1)] S (some (.inl (.int r))) S := by
  unfold f_X0_digitOf at h
  show ax_T l 0 ma_X0_digitOf (0, [some (.inr (0, i0)), some (.inl (.int a1))], [], S) (some (.inl (.int r))) S
  refine ax_Tgo [.iload_n 1] (pc' := 1) (L' := [some (.inr (0, i0)), some (.inl (.int a1))]) (st' := [.inl (.int a1)]) (S' := S) ok_X0_digitOf.1 (by decide +kernel) rfl rfl ?_
  refine ax_Tif_lt (off := 20) (tgt := 21) (by decide +kernel) (by decide) (fun c1 => ?_) (fun c1 => ?_)
  · rw [if_pos c1] at h
    refine ax_Tgo [.iconst (-1)] (pc' := 22) (L' := [some (.inr (0, i0)), some (.inl (.int a1))]) (st' := [.inl (.int (Int32.ofInt (-1)))]) (S' := S) ok_X0_digitOf.1 (by decide +kernel) rfl rfl ?_
    cases h
    exact ax_Treti (by decide +kernel) rfl rfl
  · rw [if_neg c1] at h
    refine ax_Tgo [.iload_n 1, .aload_n 0, .getfield 18] (pc' := 9) (L' := [some (.inr (0, i0)), some (.inl (.int a1))]) (st' := [.inl (.int (ax_fi S 0 i0 2)), .inl (.int a1)]) (S' := S) ok_X0_digitOf.1 (by decide +kernel) rfl rfl ?_
    refine ax_Tic_ge (off := 12) (tgt := 21) (by decide +kernel) (by decide) (fun c2 => ?_) (fun c2 => ?_)
    · rw [if_pos c2] at h
      refine ax_Tgo [.iconst (-1)] (pc' := 22) (L' := [some (.inr (0, i0)), some (.inl (.int a1))]) (st' := [.inl (.int (Int32.ofInt (-1)))]) (S' := S) ok_X0_digitOf.1 (by decide +kernel) rfl rfl ?_
      cases h
      exact ax_Treti (by decide +kernel) rfl rfl
    · rw [if_neg c2] at h
      refine ax_Tgo [.aload_n 0, .getfield 15, .iload_n 1] (pc' := 17) (L' := [some (.inr (0, i0)), some (.inl (.int a1))]) (st' := [.inl (.int a1), .inr (21, i0)]) (S' := S) ok_X0_digitOf.1 (by decide +kernel) rfl rfl ?_
      obtain ⟨g3, h⟩ := ax_gd_e h
      refine ax_Tali (n := 16) ok_X0_digitOf.1 (by decide +kernel) (by decide) rfl g3 ?_
      refine ax_Tgoto (off := 4) (tgt := 22) (by decide +kernel) (by decide) ?_
      cases h
      exact ax_Treti (by decide +kernel) rfl rfl
def f_X11_perform_L26 (K57 : Int32 → AS → Option (Int32 × AS)) : Nat → Nat → Int32 → AS → Option (Int32 × AS)
  | 0, _, _, _ => none
  | n + 1, y12, x13, S15 => (if (ax_fi S15 0 y12 2) ≤ x13 then K57 x13 S15 else (f_X0_kindOf y12 x13 S15).bind (fun (r23 : Int32) => (f_X0_digitOf y12 x13 S15).bind (fun (r27 : Int32) => ax_bu (f_X11_act r23 r27 S15) (fun (r31 : Int32) (S28 : AS) => (if r31 = (0 : Int32) then K57 x13 S28 else ax_let (x13 + (1 : Int32)) (fun (v33 : Int32) => f_X11_perform_L26 K57 n y12 v33 S28))))))
def f_X11_perform (a1 : Int32) (S : AS) : Option (Int32 × AS) := (f_X11_noHouse S).bind (fun (r4 : Int32) => (if r4 = (0 : Int32) then (f_X11_noSuchAfternoon a1 S).bind (fun (r9 : Int32) => (if r9 = (0 : Int32) then ax_gd (ax_in a1 5) (f_X11_perform_L26 (fun (x14 : Int32) (S34 : AS) => some (x14, S34)) ax_F (a1.toNatClampNeg) (0 : Int32) S) else some ((Int32.ofInt (-1)), S))) else some ((Int32.ofInt (-1)), S)))
set_option maxRecDepth 100000 in
theorem t_X11_perform_L26 {l : Launch} {K57 : Int32 → AS → Option (Int32 × AS)} (hK57 : ∀ (x14 : Int32) (S : AS) r Z, K57 x14 S = some (r, Z) → ax_T l 7 ma_X11_perform (57, [none, none, none, some (.inl (.int x14))], [], S) (some (.inl (.int r))) Z) : ∀ (n : Nat) (y12 : Nat) (x13 : Int32) (S15 : AS) r Z, f_X11_perform_L26 K57 n y12 x13 S15 = some (r, Z) → ax_T l 7 ma_X11_perform (26, [some (.inr (11, 0)), none, some (.inr (0, y12)), some (.inl (.int x13))], [], S15) (some (.inl (.int r))) Z := by
  intro n
  induction n with
  | zero =>
    intro y12 x13 S15 r Z h
    cases h
  | succ n ih =>
    intro y12 x13 S15 r Z h
    unfold f_X11_perform_L26 at h
    refine ax_Tgo [.iload_n 3, .aload_n 2] (pc' := 28) (L' := [some (.inr (11, 0)), none, some (.inr (0, y12)), some (.inl (.int x13))]) (st' := [.inr (0, y12), .inl (.int x13)]) (S' := S15) ok_X11_perform.1 (by decide +kernel) rfl rfl ?_
    refine ax_TVi (d := 6) (ka := 0) (i := y12) [] [.inl (.int x13)] lk_X11_268 (by decide +kernel) rfl (by decide) rfl (Nat.le_of_ble_eq_true rfl) (Nat.le_of_ble_eq_true rfl) ((t_X0_steps rfl).up (by decide)) ?_
    refine ax_Tic_ge (off := 26) (tgt := 57) (by decide +kernel) (by decide) (fun c19 => ?_) (fun c19 => ?_)
    · rw [if_pos c19] at h
      refine ax_Tdrop [false, true, false, true] (L' := [none, none, none, some (.inl (.int x13))]) rfl ?_
      exact hK57 x13 S15 _ _ h
    · rw [if_neg c19] at h
      refine ax_Tgo [.aload_n 0, .aload_n 2, .iload_n 3] (pc' := 37) (L' := [some (.inr (11, 0)), none, some (.inr (0, y12)), some (.inl (.int x13))]) (st' := [.inl (.int x13), .inr (0, y12), .inr (11, 0)]) (S' := S15) ok_X11_perform.1 (by decide +kernel) rfl rfl ?_
      obtain ⟨r23, hq21, h⟩ := ax_bd_e h
      refine ax_TVi (d := 6) (ka := 0) (i := y12) [.inl (.int x13)] [.inr (11, 0)] lk_X11_272 (by decide +kernel) rfl (by decide) rfl (Nat.le_of_ble_eq_true rfl) (Nat.le_of_ble_eq_true rfl) ((t_X0_kindOf hq21).up (by decide)) ?_
      refine ax_Tgo [.aload_n 2, .iload_n 3] (pc' := 42) (L' := [some (.inr (11, 0)), none, some (.inr (0, y12)), some (.inl (.int x13))]) (st' := [.inl (.int x13), .inr (0, y12), .inl (.int r23), .inr (11, 0)]) (S' := S15) ok_X11_perform.1 (by decide +kernel) rfl rfl ?_
      obtain ⟨r27, hq25, h⟩ := ax_bd_e h
      refine ax_TVi (d := 6) (ka := 0) (i := y12) [.inl (.int x13)] [.inl (.int r23), .inr (11, 0)] lk_X11_275 (by decide +kernel) rfl (by decide) rfl (Nat.le_of_ble_eq_true rfl) (Nat.le_of_ble_eq_true rfl) ((t_X0_digitOf hq25).up (by decide)) ?_
      obtain ⟨r31, S28, hq29, h⟩ := ax_bu_e h
      refine ax_TVi (d := 6) (ka := 11) (i := 0) [.inl (.int r23), .inl (.int r27)] [] lk_X11_209 (by decide +kernel) rfl (by decide) rfl (Nat.le_of_ble_eq_true rfl) (Nat.le_of_ble_eq_true rfl) ((t_X11_act hq29).up (by decide)) ?_
      refine ax_Tif_eq (off := 9) (tgt := 57) (by decide +kernel) (by decide) (fun c32 => ?_) (fun c32 => ?_)
      · rw [if_pos c32] at h
        refine ax_Tdrop [false, true, false, true] (L' := [none, none, none, some (.inl (.int x13))]) rfl ?_
        exact hK57 x13 S28 _ _ h
      · rw [if_neg c32] at h
        refine ax_Tgo [.iinc 3 1] (pc' := 54) (L' := [some (.inr (11, 0)), none, some (.inr (0, y12)), some (.inl (.int (x13 + (1 : Int32))))]) (st' := []) (S' := S28) ok_X11_perform.1 (by decide +kernel) rfl rfl ?_
        obtain ⟨v33, ev33, h⟩ := ax_let_e h
        rw [ev33]
        refine ax_Tgoto (off := (-28)) (tgt := 26) (by decide +kernel) (by decide) ?_
        exact ih y12 v33 S28 _ _ h
set_option maxRecDepth 100000 in
theorem t_X11_perform {l : Launch} {a1 : Int32} {S Z : AS} {r : Int32} (h : f_X11_perform a1 S = some (r, Z)) : ax_M l 7 ma_X11_perform [.inr (11, 0), .inl (.int a1)] S (some (.inl (.int r))) Z := by
  unfold f_X11_perform at h
  show ax_T l 7 ma_X11_perform (0, [some (.inr (11, 0)), some (.inl (.int a1)), none, none], [], S) (some (.inl (.int r))) Z
  refine ax_Tgo [.aload_n 0] (pc' := 1) (L' := [some (.inr (11, 0)), some (.inl (.int a1)), none, none]) (st' := [.inr (11, 0)]) (S' := S) ok_X11_perform.1 (by decide +kernel) rfl rfl ?_
  obtain ⟨r4, hq2, h⟩ := ax_bd_e h
  refine ax_TVi (d := 6) (ka := 11) (i := 0) [] [] lk_X11_161 (by decide +kernel) rfl (by decide) rfl (Nat.le_of_ble_eq_true rfl) (Nat.le_of_ble_eq_true rfl) ((t_X11_noHouse hq2).up (by decide)) ?_
  refine ax_Tif_ne (off := 11) (tgt := 15) (by decide +kernel) (by decide) (fun c5 => ?_) (fun c5 => ?_)
  · rw [if_neg c5] at h
    refine ax_Tgo [.iconst (-1)] (pc' := 16) (L' := [some (.inr (11, 0)), some (.inl (.int a1)), none, none]) (st' := [.inl (.int (Int32.ofInt (-1)))]) (S' := S) ok_X11_perform.1 (by decide +kernel) rfl rfl ?_
    cases h
    exact ax_Treti (by decide +kernel) rfl rfl
  · rw [if_pos c5] at h
    refine ax_Tgo [.aload_n 0, .iload_n 1] (pc' := 9) (L' := [some (.inr (11, 0)), some (.inl (.int a1)), none, none]) (st' := [.inl (.int a1), .inr (11, 0)]) (S' := S) ok_X11_perform.1 (by decide +kernel) rfl rfl ?_
    obtain ⟨r9, hq7, h⟩ := ax_bd_e h
    refine ax_TVi (d := 6) (ka := 11) (i := 0) [.inl (.int a1)] [] lk_X11_265 (by decide +kernel) rfl (by decide) rfl (Nat.le_of_ble_eq_true rfl) (Nat.le_of_ble_eq_true rfl) ((t_X11_noSuchAfternoon hq7).up (by decide)) ?_
    refine ax_Tif_eq (off := 5) (tgt := 17) (by decide +kernel) (by decide) (fun c10 => ?_) (fun c10 => ?_)
    · rw [if_pos c10] at h
      refine ax_Tgo [.aload_n 0, .getfield 24, .iload_n 1] (pc' := 22) (L' := [some (.inr (11, 0)), some (.inl (.int a1)), none, none]) (st' := [.inl (.int a1), .inr (42, 0)]) (S' := S) ok_X11_perform.1 (by decide +kernel) rfl rfl ?_
      obtain ⟨g11, h⟩ := ax_gd_e h
      refine ax_Tala4 (n := 5) ok_X11_perform.1 (by decide +kernel) (by decide) rfl g11 ?_
      refine ax_Tgo [.astore_n 2, .iconst 0, .istore_n 3] (pc' := 26) (L' := [some (.inr (11, 0)), some (.inl (.int a1)), some (.inr (0, (a1.toNatClampNeg))), some (.inl (.int (0 : Int32)))]) (st' := []) (S' := S) ok_X11_perform.1 (by decide +kernel) rfl rfl ?_
      refine ax_Tdrop [true, false, true, true] (L' := [some (.inr (11, 0)), none, some (.inr (0, (a1.toNatClampNeg))), some (.inl (.int (0 : Int32)))]) rfl ?_
      refine t_X11_perform_L26 ?_ _ (a1.toNatClampNeg) (0 : Int32) S _ _ h
      · intro x14 S34 r Z h
        refine ax_Tgo [.iload_n 3] (pc' := 58) (L' := [none, none, none, some (.inl (.int x14))]) (st' := [.inl (.int x14)]) (S' := S34) ok_X11_perform.1 (by decide +kernel) rfl rfl ?_
        cases h
        exact ax_Treti (by decide +kernel) rfl rfl
    · rw [if_neg c10] at h
      refine ax_Tgo [.iconst (-1)] (pc' := 16) (L' := [some (.inr (11, 0)), some (.inl (.int a1)), none, none]) (st' := [.inl (.int (Int32.ofInt (-1)))]) (S' := S) ok_X11_perform.1 (by decide +kernel) rfl rfl ?_
      cases h
      exact ax_Treti (by decide +kernel) rfl rfl
def f_X11_queue_L48 (K73 : Int32 → Int32 → Int32 → Int32 → AS → Option (Int32 × AS)) (K148 : Int32 → Int32 → Int32 → Int32 → AS → Option (Int32 × AS)) : Nat → Int32 → Int32 → Int32 → Int32 → Int32 → Int32 → AS → Option (Int32 × AS)
  | 0, _, _, _, _, _, _, _ => none
  | n + 1, x12, x13, x14, x15, x16, x17, S26 => (if (ax_fi S26 4 (ax_fx S26 11 0 14) 5) ≤ x17 then K148 x12 x13 x14 x15 S26 else ax_bu (f_X11_nextInQueue x13 S26) (fun (r34 : Int32) (S31 : AS) => (if r34 = (Int32.ofInt (-1)) then K73 x12 x13 x14 x15 S31 else ax_let (x13 ||| ((1 : Int32) <<< (r34 &&& 31))) (fun (v36 : Int32) => ax_let ((x14 * (10 : Int32)) + r34) (fun (v37 : Int32) => ax_let (fun (x38 : Int32) (S39 : AS) => (if x38 = (0 : Int32) then ax_let (x17 + (1 : Int32)) (fun (v42 : Int32) => f_X11_queue_L48 K73 K148 n x12 v36 v37 x15 x38 v42 S39) else (f_X6_carryOut 1 (0 : Int32) r34 S39).bind (fun (S43 : AS) => ax_let (x15 + (1 : Int32)) (fun (v46 : Int32) => ax_let (x17 + (1 : Int32)) (fun (v47 : Int32) => f_X11_queue_L48 K73 K148 n x12 v36 v37 v46 x38 v47 S43))))) (fun J40 => (if x16 = (0 : Int32) then J40 (0 : Int32) S31 else ax_bu (f_X6_may 1 (0 : Int32) r34 S31) (fun (r52 : Int32) (S49 : AS) => (if r52 = (0 : Int32) then J40 (0 : Int32) S49 else J40 (1 : Int32) S49)))))))))
def f_X11_queue (a1 : Int32) (S : AS) : Option (Int32 × AS) := (f_X11_noHouse S).bind (fun (r4 : Int32) => (if r4 = (0 : Int32) then (if a1 < (0 : Int32) then some ((Int32.ofInt (-1)), S) else (if a1 ≤ (1 : Int32) then (f_X9_copyFrom 1 0 S).bind (fun (S8 : AS) => ax_let (ax_fi S8 9 0 1) (fun (v11 : Int32) => f_X11_queue_L48 (fun (x18 : Int32) (x19 : Int32) (x20 : Int32) (x21 : Int32) (S54 : AS) => (if x18 = (1 : Int32) then some (x21, S54) else (if x19 = (ax_fi S54 9 0 1) then some ((Int32.ofInt (-1)), S54) else some (x20, S54)))) (fun (x22 : Int32) (x23 : Int32) (x24 : Int32) (x25 : Int32) (S57 : AS) => (if x22 = (1 : Int32) then some (x25, S57) else (if x23 = (ax_fi S57 9 0 1) then some ((Int32.ofInt (-1)), S57) else some (x24, S57)))) ax_F a1 v11 (0 : Int32) (0 : Int32) (1 : Int32) (0 : Int32) S8)) else some ((Int32.ofInt (-1)), S))) else some ((Int32.ofInt (-1)), S)))
set_option maxRecDepth 100000 in
theorem t_X11_queue_L48 {l : Launch} {K73 : Int32 → Int32 → Int32 → Int32 → AS → Option (Int32 × AS)} {K148 : Int32 → Int32 → Int32 → Int32 → AS → Option (Int32 × AS)} (hK73 : ∀ (x18 : Int32) (x19 : Int32) (x20 : Int32) (x21 : Int32) (S : AS) r Z, K73 x18 x19 x20 x21 S = some (r, Z) → ax_T l 6 ma_X11_queue (73, [some (.inr (11, 0)), some (.inl (.int x18)), some (.inl (.int x19)), some (.inl (.int x20)), some (.inl (.int x21)), none, none, none], [], S) (some (.inl (.int r))) Z) (hK148 : ∀ (x22 : Int32) (x23 : Int32) (x24 : Int32) (x25 : Int32) (S : AS) r Z, K148 x22 x23 x24 x25 S = some (r, Z) → ax_T l 6 ma_X11_queue (148, [some (.inr (11, 0)), some (.inl (.int x22)), some (.inl (.int x23)), some (.inl (.int x24)), some (.inl (.int x25)), none, none, none], [], S) (some (.inl (.int r))) Z) : ∀ (n : Nat) (x12 : Int32) (x13 : Int32) (x14 : Int32) (x15 : Int32) (x16 : Int32) (x17 : Int32) (S26 : AS) r Z, f_X11_queue_L48 K73 K148 n x12 x13 x14 x15 x16 x17 S26 = some (r, Z) → ax_T l 6 ma_X11_queue (48, [some (.inr (11, 0)), some (.inl (.int x12)), some (.inl (.int x13)), some (.inl (.int x14)), some (.inl (.int x15)), some (.inl (.int x16)), some (.inl (.int x17)), none], [], S26) (some (.inl (.int r))) Z := by
  intro n
  induction n with
  | zero =>
    intro x12 x13 x14 x15 x16 x17 S26 r Z h
    cases h
  | succ n ih =>
    intro x12 x13 x14 x15 x16 x17 S26 r Z h
    unfold f_X11_queue_L48 at h
    refine ax_Tgo [.iload 6, .aload_n 0, .getfield 93] (pc' := 54) (L' := [some (.inr (11, 0)), some (.inl (.int x12)), some (.inl (.int x13)), some (.inl (.int x14)), some (.inl (.int x15)), some (.inl (.int x16)), some (.inl (.int x17)), none]) (st' := [.inr (4, (ax_fx S26 11 0 14)), .inl (.int x17)]) (S' := S26) ok_X11_queue.1 (by decide +kernel) rfl rfl ?_
    refine ax_TVi (d := 5) (ka := 4) (i := (ax_fx S26 11 0 14)) [] [.inl (.int x17)] lk_X11_147 (by decide +kernel) rfl (by decide) rfl (Nat.le_of_ble_eq_true rfl) (Nat.le_of_ble_eq_true rfl) ((t_X4_callers rfl).up (by decide)) ?_
    refine ax_Tic_ge (off := 91) (tgt := 148) (by decide +kernel) (by decide) (fun c30 => ?_) (fun c30 => ?_)
    · rw [if_pos c30] at h
      refine ax_Tdrop [true, true, true, true, true, false, false, true] (L' := [some (.inr (11, 0)), some (.inl (.int x12)), some (.inl (.int x13)), some (.inl (.int x14)), some (.inl (.int x15)), none, none, none]) rfl ?_
      exact hK148 x12 x13 x14 x15 S26 _ _ h
    · rw [if_neg c30] at h
      refine ax_Tgo [.aload_n 0, .iload_n 2] (pc' := 62) (L' := [some (.inr (11, 0)), some (.inl (.int x12)), some (.inl (.int x13)), some (.inl (.int x14)), some (.inl (.int x15)), some (.inl (.int x16)), some (.inl (.int x17)), none]) (st' := [.inl (.int x13), .inr (11, 0)]) (S' := S26) ok_X11_queue.1 (by decide +kernel) rfl rfl ?_
      obtain ⟨r34, S31, hq32, h⟩ := ax_bu_e h
      refine ax_TVi (d := 5) (ka := 11) (i := 0) [.inl (.int x13)] [] lk_X11_403 (by decide +kernel) rfl (by decide) rfl (Nat.le_of_ble_eq_true rfl) (Nat.le_of_ble_eq_true rfl) ((t_X11_nextInQueue hq32).up (by decide)) ?_
      refine ax_Tgo [.istore 7, .iload 7, .iconst (-1)] (pc' := 70) (L' := [some (.inr (11, 0)), some (.inl (.int x12)), some (.inl (.int x13)), some (.inl (.int x14)), some (.inl (.int x15)), some (.inl (.int x16)), some (.inl (.int x17)), some (.inl (.int r34))]) (st' := [.inl (.int (Int32.ofInt (-1))), .inl (.int r34)]) (S' := S31) ok_X11_queue.1 (by decide +kernel) rfl rfl ?_
      refine ax_Tic_ne (off := 6) (tgt := 76) (by decide +kernel) (by decide) (fun c35 => ?_) (fun c35 => ?_)
      · rw [if_neg c35] at h
        refine ax_Tgo [.iload_n 2, .iconst 1, .iload 7, .ishl, .ior, .istore_n 2] (pc' := 83) (L' := [some (.inr (11, 0)), some (.inl (.int x12)), some (.inl (.int (x13 ||| ((1 : Int32) <<< (r34 &&& 31))))), some (.inl (.int x14)), some (.inl (.int x15)), some (.inl (.int x16)), some (.inl (.int x17)), some (.inl (.int r34))]) (st' := []) (S' := S31) ok_X11_queue.1 (by decide +kernel) rfl rfl ?_
        obtain ⟨v36, ev36, h⟩ := ax_let_e h
        rw [ev36]
        refine ax_Tgo [.iload_n 3, .bipush 10, .imul, .iload 7, .iadd, .istore_n 3] (pc' := 91) (L' := [some (.inr (11, 0)), some (.inl (.int x12)), some (.inl (.int v36)), some (.inl (.int ((x14 * (10 : Int32)) + r34))), some (.inl (.int x15)), some (.inl (.int x16)), some (.inl (.int x17)), some (.inl (.int r34))]) (st' := []) (S' := S31) ok_X11_queue.1 (by decide +kernel) rfl rfl ?_
        obtain ⟨v37, ev37, h⟩ := ax_let_e h
        rw [ev37]
        refine ax_Tgo [.iload 5] (pc' := 93) (L' := [some (.inr (11, 0)), some (.inl (.int x12)), some (.inl (.int v36)), some (.inl (.int v37)), some (.inl (.int x15)), some (.inl (.int x16)), some (.inl (.int x17)), some (.inl (.int r34))]) (st' := [.inl (.int x16)]) (S' := S31) ok_X11_queue.1 (by decide +kernel) rfl rfl ?_
        obtain ⟨J40, eJ40, h⟩ := ax_let_e h
        have hJ40 : ∀ (x38 : Int32) (S39 : AS) r Z, J40 x38 S39 = some (r, Z) → ax_T l 6 ma_X11_queue (118, [some (.inr (11, 0)), some (.inl (.int x12)), some (.inl (.int v36)), some (.inl (.int v37)), some (.inl (.int x15)), none, some (.inl (.int x17)), some (.inl (.int r34))], [.inl (.int x38)], S39) (some (.inl (.int r))) Z := by
          intro x38 S39 r Z h
          rw [← eJ40] at h
          try dsimp only at h
          refine ax_Tgo [.istore 5, .iload 5] (pc' := 122) (L' := [some (.inr (11, 0)), some (.inl (.int x12)), some (.inl (.int v36)), some (.inl (.int v37)), some (.inl (.int x15)), some (.inl (.int x38)), some (.inl (.int x17)), some (.inl (.int r34))]) (st' := [.inl (.int x38)]) (S' := S39) ok_X11_queue.1 (by decide +kernel) rfl rfl ?_
          refine ax_Tif_eq (off := 20) (tgt := 142) (by decide +kernel) (by decide) (fun c41 => ?_) (fun c41 => ?_)
          · rw [if_pos c41] at h
            refine ax_Tgo [.iinc 6 1] (pc' := 145) (L' := [some (.inr (11, 0)), some (.inl (.int x12)), some (.inl (.int v36)), some (.inl (.int v37)), some (.inl (.int x15)), some (.inl (.int x38)), some (.inl (.int (x17 + (1 : Int32)))), some (.inl (.int r34))]) (st' := []) (S' := S39) ok_X11_queue.1 (by decide +kernel) rfl rfl ?_
            obtain ⟨v42, ev42, h⟩ := ax_let_e h
            rw [ev42]
            refine ax_Tgoto (off := (-97)) (tgt := 48) (by decide +kernel) (by decide) ?_
            refine ax_Tdrop [true, true, true, true, true, true, true, false] (L' := [some (.inr (11, 0)), some (.inl (.int x12)), some (.inl (.int v36)), some (.inl (.int v37)), some (.inl (.int x15)), some (.inl (.int x38)), some (.inl (.int v42)), none]) rfl ?_
            exact ih x12 v36 v37 x15 x38 v42 S39 _ _ h
          · rw [if_neg c41] at h
            refine ax_Tgo [.aload_n 0, .getfield 31, .aload_n 0, .getfield 73, .iconst 0, .iload 7] (pc' := 136) (L' := [some (.inr (11, 0)), some (.inl (.int x12)), some (.inl (.int v36)), some (.inl (.int v37)), some (.inl (.int x15)), some (.inl (.int x38)), some (.inl (.int x17)), some (.inl (.int r34))]) (st' := [.inl (.int r34), .inl (.int (0 : Int32)), .inr (9, 1), .inr (6, 0)]) (S' := S39) ok_X11_queue.1 (by decide +kernel) rfl rfl ?_
            obtain ⟨S43, hq44, h⟩ := ax_bd_e h
            refine ax_TVv (d := 5) (ka := 6) (i := 0) [.inr (9, 1), .inl (.int (0 : Int32)), .inl (.int r34)] [] lk_X11_248 (by decide +kernel) rfl (by decide) rfl (Nat.le_of_ble_eq_true rfl) (Nat.le_of_ble_eq_true rfl) ((t_X6_carryOut hq44).up (by decide)) ?_
            refine ax_Tgo [.iinc 4 1] (pc' := 142) (L' := [some (.inr (11, 0)), some (.inl (.int x12)), some (.inl (.int v36)), some (.inl (.int v37)), some (.inl (.int (x15 + (1 : Int32)))), some (.inl (.int x38)), some (.inl (.int x17)), some (.inl (.int r34))]) (st' := []) (S' := S43) ok_X11_queue.1 (by decide +kernel) rfl rfl ?_
            obtain ⟨v46, ev46, h⟩ := ax_let_e h
            rw [ev46]
            refine ax_Tgo [.iinc 6 1] (pc' := 145) (L' := [some (.inr (11, 0)), some (.inl (.int x12)), some (.inl (.int v36)), some (.inl (.int v37)), some (.inl (.int v46)), some (.inl (.int x38)), some (.inl (.int (x17 + (1 : Int32)))), some (.inl (.int r34))]) (st' := []) (S' := S43) ok_X11_queue.1 (by decide +kernel) rfl rfl ?_
            obtain ⟨v47, ev47, h⟩ := ax_let_e h
            rw [ev47]
            refine ax_Tgoto (off := (-97)) (tgt := 48) (by decide +kernel) (by decide) ?_
            refine ax_Tdrop [true, true, true, true, true, true, true, false] (L' := [some (.inr (11, 0)), some (.inl (.int x12)), some (.inl (.int v36)), some (.inl (.int v37)), some (.inl (.int v46)), some (.inl (.int x38)), some (.inl (.int v47)), none]) rfl ?_
            exact ih x12 v36 v37 v46 x38 v47 S43 _ _ h
        refine ax_Tif_eq (off := 24) (tgt := 117) (by decide +kernel) (by decide) (fun c48 => ?_) (fun c48 => ?_)
        · rw [if_pos c48] at h
          refine ax_Tgo [.iconst 0] (pc' := 118) (L' := [some (.inr (11, 0)), some (.inl (.int x12)), some (.inl (.int v36)), some (.inl (.int v37)), some (.inl (.int x15)), some (.inl (.int x16)), some (.inl (.int x17)), some (.inl (.int r34))]) (st' := [.inl (.int (0 : Int32))]) (S' := S31) ok_X11_queue.1 (by decide +kernel) rfl rfl ?_
          refine ax_Tdrop [true, true, true, true, true, false, true, true] (L' := [some (.inr (11, 0)), some (.inl (.int x12)), some (.inl (.int v36)), some (.inl (.int v37)), some (.inl (.int x15)), none, some (.inl (.int x17)), some (.inl (.int r34))]) rfl ?_
          exact hJ40 (0 : Int32) S31 _ _ h
        · rw [if_neg c48] at h
          refine ax_Tgo [.aload_n 0, .getfield 31, .aload_n 0, .getfield 73, .iconst 0, .iload 7] (pc' := 107) (L' := [some (.inr (11, 0)), some (.inl (.int x12)), some (.inl (.int v36)), some (.inl (.int v37)), some (.inl (.int x15)), some (.inl (.int x16)), some (.inl (.int x17)), some (.inl (.int r34))]) (st' := [.inl (.int r34), .inl (.int (0 : Int32)), .inr (9, 1), .inr (6, 0)]) (S' := S31) ok_X11_queue.1 (by decide +kernel) rfl rfl ?_
          obtain ⟨r52, S49, hq50, h⟩ := ax_bu_e h
          refine ax_TVi (d := 5) (ka := 6) (i := 0) [.inr (9, 1), .inl (.int (0 : Int32)), .inl (.int r34)] [] lk_X11_237 (by decide +kernel) rfl (by decide) rfl (Nat.le_of_ble_eq_true rfl) (Nat.le_of_ble_eq_true rfl) ((t_X6_may hq50).up (by decide)) ?_
          refine ax_Tif_eq (off := 7) (tgt := 117) (by decide +kernel) (by decide) (fun c53 => ?_) (fun c53 => ?_)
          · rw [if_pos c53] at h
            refine ax_Tgo [.iconst 0] (pc' := 118) (L' := [some (.inr (11, 0)), some (.inl (.int x12)), some (.inl (.int v36)), some (.inl (.int v37)), some (.inl (.int x15)), some (.inl (.int x16)), some (.inl (.int x17)), some (.inl (.int r34))]) (st' := [.inl (.int (0 : Int32))]) (S' := S49) ok_X11_queue.1 (by decide +kernel) rfl rfl ?_
            refine ax_Tdrop [true, true, true, true, true, false, true, true] (L' := [some (.inr (11, 0)), some (.inl (.int x12)), some (.inl (.int v36)), some (.inl (.int v37)), some (.inl (.int x15)), none, some (.inl (.int x17)), some (.inl (.int r34))]) rfl ?_
            exact hJ40 (0 : Int32) S49 _ _ h
          · rw [if_neg c53] at h
            refine ax_Tgo [.iconst 1] (pc' := 114) (L' := [some (.inr (11, 0)), some (.inl (.int x12)), some (.inl (.int v36)), some (.inl (.int v37)), some (.inl (.int x15)), some (.inl (.int x16)), some (.inl (.int x17)), some (.inl (.int r34))]) (st' := [.inl (.int (1 : Int32))]) (S' := S49) ok_X11_queue.1 (by decide +kernel) rfl rfl ?_
            refine ax_Tgoto (off := 4) (tgt := 118) (by decide +kernel) (by decide) ?_
            refine ax_Tdrop [true, true, true, true, true, false, true, true] (L' := [some (.inr (11, 0)), some (.inl (.int x12)), some (.inl (.int v36)), some (.inl (.int v37)), some (.inl (.int x15)), none, some (.inl (.int x17)), some (.inl (.int r34))]) rfl ?_
            exact hJ40 (1 : Int32) S49 _ _ h
      · rw [if_pos c35] at h
        refine ax_Tdrop [true, true, true, true, true, false, false, false] (L' := [some (.inr (11, 0)), some (.inl (.int x12)), some (.inl (.int x13)), some (.inl (.int x14)), some (.inl (.int x15)), none, none, none]) rfl ?_
        exact hK73 x12 x13 x14 x15 S31 _ _ h
set_option maxRecDepth 100000 in
theorem t_X11_queue {l : Launch} {a1 : Int32} {S Z : AS} {r : Int32} (h : f_X11_queue a1 S = some (r, Z)) : ax_M l 6 ma_X11_queue [.inr (11, 0), .inl (.int a1)] S (some (.inl (.int r))) Z := by
  unfold f_X11_queue at h
  show ax_T l 6 ma_X11_queue (0, [some (.inr (11, 0)), some (.inl (.int a1)), none, none, none, none, none, none], [], S) (some (.inl (.int r))) Z
  refine ax_Tgo [.aload_n 0] (pc' := 1) (L' := [some (.inr (11, 0)), some (.inl (.int a1)), none, none, none, none, none, none]) (st' := [.inr (11, 0)]) (S' := S) ok_X11_queue.1 (by decide +kernel) rfl rfl ?_
  obtain ⟨r4, hq2, h⟩ := ax_bd_e h
  refine ax_TVi (d := 5) (ka := 11) (i := 0) [] [] lk_X11_161 (by decide +kernel) rfl (by decide) rfl (Nat.le_of_ble_eq_true rfl) (Nat.le_of_ble_eq_true rfl) ((t_X11_noHouse hq2).up (by decide)) ?_
  refine ax_Tif_ne (off := 12) (tgt := 16) (by decide +kernel) (by decide) (fun c5 => ?_) (fun c5 => ?_)
  · rw [if_neg c5] at h
    refine ax_Tgo [.iconst (-1)] (pc' := 17) (L' := [some (.inr (11, 0)), some (.inl (.int a1)), none, none, none, none, none, none]) (st' := [.inl (.int (Int32.ofInt (-1)))]) (S' := S) ok_X11_queue.1 (by decide +kernel) rfl rfl ?_
    cases h
    exact ax_Treti (by decide +kernel) rfl rfl
  · rw [if_pos c5] at h
    refine ax_Tgo [.iload_n 1] (pc' := 8) (L' := [some (.inr (11, 0)), some (.inl (.int a1)), none, none, none, none, none, none]) (st' := [.inl (.int a1)]) (S' := S) ok_X11_queue.1 (by decide +kernel) rfl rfl ?_
    refine ax_Tif_lt (off := 8) (tgt := 16) (by decide +kernel) (by decide) (fun c6 => ?_) (fun c6 => ?_)
    · rw [if_pos c6] at h
      refine ax_Tgo [.iconst (-1)] (pc' := 17) (L' := [some (.inr (11, 0)), some (.inl (.int a1)), none, none, none, none, none, none]) (st' := [.inl (.int (Int32.ofInt (-1)))]) (S' := S) ok_X11_queue.1 (by decide +kernel) rfl rfl ?_
      cases h
      exact ax_Treti (by decide +kernel) rfl rfl
    · rw [if_neg c6] at h
      refine ax_Tgo [.iload_n 1, .iconst 1] (pc' := 13) (L' := [some (.inr (11, 0)), some (.inl (.int a1)), none, none, none, none, none, none]) (st' := [.inl (.int (1 : Int32)), .inl (.int a1)]) (S' := S) ok_X11_queue.1 (by decide +kernel) rfl rfl ?_
      refine ax_Tic_le (off := 5) (tgt := 18) (by decide +kernel) (by decide) (fun c7 => ?_) (fun c7 => ?_)
      · rw [if_pos c7] at h
        refine ax_Tgo [.aload_n 0, .getfield 73, .aload_n 0, .getfield 69] (pc' := 26) (L' := [some (.inr (11, 0)), some (.inl (.int a1)), none, none, none, none, none, none]) (st' := [.inr (9, 0), .inr (9, 1)]) (S' := S) ok_X11_queue.1 (by decide +kernel) rfl rfl ?_
        obtain ⟨S8, hq9, h⟩ := ax_bd_e h
        refine ax_TVv (d := 5) (ka := 9) (i := 1) [.inr (9, 0)] [] lk_X11_278 (by decide +kernel) rfl (by decide) rfl (Nat.le_of_ble_eq_true rfl) (Nat.le_of_ble_eq_true rfl) ((t_X9_copyFrom hq9).up (by decide)) ?_
        refine ax_Tgo [.aload_n 0, .getfield 69, .getfield 400, .istore_n 2] (pc' := 37) (L' := [some (.inr (11, 0)), some (.inl (.int a1)), some (.inl (.int (ax_fi S8 9 0 1))), none, none, none, none, none]) (st' := []) (S' := S8) ok_X11_queue.1 (by decide +kernel) rfl rfl ?_
        obtain ⟨v11, ev11, h⟩ := ax_let_e h
        rw [ev11]
        refine ax_Tgo [.iconst 0, .istore_n 3, .iconst 0, .istore 4, .iconst 1, .istore 5, .iconst 0, .istore 6] (pc' := 48) (L' := [some (.inr (11, 0)), some (.inl (.int a1)), some (.inl (.int v11)), some (.inl (.int (0 : Int32))), some (.inl (.int (0 : Int32))), some (.inl (.int (1 : Int32))), some (.inl (.int (0 : Int32))), none]) (st' := []) (S' := S8) ok_X11_queue.1 (by decide +kernel) rfl rfl ?_
        refine t_X11_queue_L48 ?_ ?_ _ a1 v11 (0 : Int32) (0 : Int32) (1 : Int32) (0 : Int32) S8 _ _ h
        · intro x18 x19 x20 x21 S54 r Z h
          refine ax_Tgoto (off := 75) (tgt := 148) (by decide +kernel) (by decide) ?_
          refine ax_Tgo [.iload_n 1, .iconst 1] (pc' := 150) (L' := [some (.inr (11, 0)), some (.inl (.int x18)), some (.inl (.int x19)), some (.inl (.int x20)), some (.inl (.int x21)), none, none, none]) (st' := [.inl (.int (1 : Int32)), .inl (.int x18)]) (S' := S54) ok_X11_queue.1 (by decide +kernel) rfl rfl ?_
          refine ax_Tic_ne (off := 6) (tgt := 156) (by decide +kernel) (by decide) (fun c55 => ?_) (fun c55 => ?_)
          · rw [if_neg c55] at h
            refine ax_Tgo [.iload_n 2, .aload_n 0, .getfield 69, .getfield 400] (pc' := 164) (L' := [some (.inr (11, 0)), some (.inl (.int x18)), some (.inl (.int x19)), some (.inl (.int x20)), some (.inl (.int x21)), none, none, none]) (st' := [.inl (.int (ax_fi S54 9 0 1)), .inl (.int x19)]) (S' := S54) ok_X11_queue.1 (by decide +kernel) rfl rfl ?_
            refine ax_Tic_ne (off := 7) (tgt := 171) (by decide +kernel) (by decide) (fun c56 => ?_) (fun c56 => ?_)
            · rw [if_neg c56] at h
              refine ax_Tgo [.iload_n 3] (pc' := 172) (L' := [some (.inr (11, 0)), some (.inl (.int x18)), some (.inl (.int x19)), some (.inl (.int x20)), some (.inl (.int x21)), none, none, none]) (st' := [.inl (.int x20)]) (S' := S54) ok_X11_queue.1 (by decide +kernel) rfl rfl ?_
              cases h
              exact ax_Treti (by decide +kernel) rfl rfl
            · rw [if_pos c56] at h
              refine ax_Tgo [.iconst (-1)] (pc' := 168) (L' := [some (.inr (11, 0)), some (.inl (.int x18)), some (.inl (.int x19)), some (.inl (.int x20)), some (.inl (.int x21)), none, none, none]) (st' := [.inl (.int (Int32.ofInt (-1)))]) (S' := S54) ok_X11_queue.1 (by decide +kernel) rfl rfl ?_
              refine ax_Tgoto (off := 4) (tgt := 172) (by decide +kernel) (by decide) ?_
              cases h
              exact ax_Treti (by decide +kernel) rfl rfl
          · rw [if_pos c55] at h
            refine ax_Tgo [.iload 4] (pc' := 155) (L' := [some (.inr (11, 0)), some (.inl (.int x18)), some (.inl (.int x19)), some (.inl (.int x20)), some (.inl (.int x21)), none, none, none]) (st' := [.inl (.int x21)]) (S' := S54) ok_X11_queue.1 (by decide +kernel) rfl rfl ?_
            cases h
            exact ax_Treti (by decide +kernel) rfl rfl
        · intro x22 x23 x24 x25 S57 r Z h
          refine ax_Tgo [.iload_n 1, .iconst 1] (pc' := 150) (L' := [some (.inr (11, 0)), some (.inl (.int x22)), some (.inl (.int x23)), some (.inl (.int x24)), some (.inl (.int x25)), none, none, none]) (st' := [.inl (.int (1 : Int32)), .inl (.int x22)]) (S' := S57) ok_X11_queue.1 (by decide +kernel) rfl rfl ?_
          refine ax_Tic_ne (off := 6) (tgt := 156) (by decide +kernel) (by decide) (fun c58 => ?_) (fun c58 => ?_)
          · rw [if_neg c58] at h
            refine ax_Tgo [.iload_n 2, .aload_n 0, .getfield 69, .getfield 400] (pc' := 164) (L' := [some (.inr (11, 0)), some (.inl (.int x22)), some (.inl (.int x23)), some (.inl (.int x24)), some (.inl (.int x25)), none, none, none]) (st' := [.inl (.int (ax_fi S57 9 0 1)), .inl (.int x23)]) (S' := S57) ok_X11_queue.1 (by decide +kernel) rfl rfl ?_
            refine ax_Tic_ne (off := 7) (tgt := 171) (by decide +kernel) (by decide) (fun c59 => ?_) (fun c59 => ?_)
            · rw [if_neg c59] at h
              refine ax_Tgo [.iload_n 3] (pc' := 172) (L' := [some (.inr (11, 0)), some (.inl (.int x22)), some (.inl (.int x23)), some (.inl (.int x24)), some (.inl (.int x25)), none, none, none]) (st' := [.inl (.int x24)]) (S' := S57) ok_X11_queue.1 (by decide +kernel) rfl rfl ?_
              cases h
              exact ax_Treti (by decide +kernel) rfl rfl
            · rw [if_pos c59] at h
              refine ax_Tgo [.iconst (-1)] (pc' := 168) (L' := [some (.inr (11, 0)), some (.inl (.int x22)), some (.inl (.int x23)), some (.inl (.int x24)), some (.inl (.int x25)), none, none, none]) (st' := [.inl (.int (Int32.ofInt (-1)))]) (S' := S57) ok_X11_queue.1 (by decide +kernel) rfl rfl ?_
              refine ax_Tgoto (off := 4) (tgt := 172) (by decide +kernel) (by decide) ?_
              cases h
              exact ax_Treti (by decide +kernel) rfl rfl
          · rw [if_pos c58] at h
            refine ax_Tgo [.iload 4] (pc' := 155) (L' := [some (.inr (11, 0)), some (.inl (.int x22)), some (.inl (.int x23)), some (.inl (.int x24)), some (.inl (.int x25)), none, none, none]) (st' := [.inl (.int x25)]) (S' := S57) ok_X11_queue.1 (by decide +kernel) rfl rfl ?_
            cases h
            exact ax_Treti (by decide +kernel) rfl rfl
      · rw [if_neg c7] at h
        refine ax_Tgo [.iconst (-1)] (pc' := 17) (L' := [some (.inr (11, 0)), some (.inl (.int a1)), none, none, none, none, none, none]) (st' := [.inl (.int (Int32.ofInt (-1)))]) (S' := S) ok_X11_queue.1 (by decide +kernel) rfl rfl ?_
        cases h
        exact ax_Treti (by decide +kernel) rfl rfl
def f_X11_rests_L14 (K58 : Int32 → AS → Option (Int32 × AS)) : Nat → Int32 → Int32 → Int32 → Int32 → AS → Option (Int32 × AS)
  | 0, _, _, _, _, _ => none
  | n + 1, x6, x7, x8, x9, S11 => (if (3 : Int32) < x9 then K58 x8 S11 else ax_bu (f_X11_prize x6 x9 (0 : Int32) S11) (fun (r16 : Int32) (S13 : AS) => ax_gd (ax_in x9 8) (ax_let (ax_sai S13 43 0 x9.toNatClampNeg r16) (fun (S18 : AS) => ax_bu (f_X11_prize x7 x9 (1 : Int32) S18) (fun (r22 : Int32) (S19 : AS) => ax_gd (ax_in ((4 : Int32) + x9) 8) (ax_let (ax_sai S19 43 0 ((4 : Int32) + x9).toNatClampNeg r22) (fun (S24 : AS) => ax_let (x9 + (1 : Int32)) (fun (v25 : Int32) => f_X11_rests_L14 K58 n x6 x7 x8 v25 S24))))))))
def f_X11_rests_L73 (K151 : Int32 → Int32 → Int32 → AS → Option (Int32 × AS)) : Nat → Int32 → Int32 → Int32 → Int32 → AS → Option (Int32 × AS)
  | 0, _, _, _, _, _ => none
  | n + 1, x34, x35, x36, x37, S41 => (if (3 : Int32) < x37 then K151 x34 x35 x36 S41 else (f_X11_isBestAnswer (0 : Int32) x36 x37 S41).bind (fun (r46 : Int32) => ax_let (fun (x47 : Int32) (S48 : AS) => (if x47 = (0 : Int32) then (if x47 = (0 : Int32) then ax_let (x35 + (0 : Int32)) (fun (v52 : Int32) => ax_let (x37 + (1 : Int32)) (fun (v53 : Int32) => f_X11_rests_L73 K151 n x34 v52 x36 v53 S48)) else ax_let (x35 + (1 : Int32)) (fun (v54 : Int32) => ax_let (x37 + (1 : Int32)) (fun (v55 : Int32) => f_X11_rests_L73 K151 n x34 v54 x36 v55 S48))) else (if x35 = x34 then some ((((10 : Int32) * x36) + x37), S48) else (if x47 = (0 : Int32) then ax_let (x35 + (0 : Int32)) (fun (v58 : Int32) => ax_let (x37 + (1 : Int32)) (fun (v59 : Int32) => f_X11_rests_L73 K151 n x34 v58 x36 v59 S48)) else ax_let (x35 + (1 : Int32)) (fun (v60 : Int32) => ax_let (x37 + (1 : Int32)) (fun (v61 : Int32) => f_X11_rests_L73 K151 n x34 v60 x36 v61 S48)))))) (fun J49 => (if r46 = (0 : Int32) then J49 (0 : Int32) S41 else (f_X11_isBestAnswer (4 : Int32) x37 x36 S41).bind (fun (r66 : Int32) => (if r66 = (0 : Int32) then J49 (0 : Int32) S41 else J49 (1 : Int32) S41))))))
def f_X11_rests_L64 (K157 : Int32 → Int32 → AS → Option (Int32 × AS)) : Nat → Int32 → Int32 → Int32 → AS → Option (Int32 × AS)
  | 0, _, _, _, _ => none
  | n + 1, x27, x28, x29, S32 => (if (3 : Int32) < x29 then K157 x27 x28 S32 else f_X11_rests_L73 (fun (x38 : Int32) (x39 : Int32) (x40 : Int32) (S68 : AS) => ax_let (x40 + (1 : Int32)) (fun (v69 : Int32) => f_X11_rests_L64 K157 n x38 x39 v69 S68)) ax_F x27 x28 x29 (0 : Int32) S32)
def f_X11_rests (a1 : Int32) (a2 : Int32) (a3 : Int32) (S : AS) : Option (Int32 × AS) := (f_X11_noSuchPair a1 a2 S).bind (fun (r4 : Int32) => (if r4 = (0 : Int32) then f_X11_rests_L14 (fun (x10 : Int32) (S26 : AS) => f_X11_rests_L64 (fun (x30 : Int32) (x31 : Int32) (S70 : AS) => (if x30 = (Int32.ofInt (-1)) then some (x31, S70) else some ((Int32.ofInt (-1)), S70))) ax_F x10 (0 : Int32) (0 : Int32) S26) ax_F a1 a2 a3 (0 : Int32) S else some ((Int32.ofInt (-1)), S)))
set_option maxRecDepth 100000 in
theorem t_X11_rests_L14 {l : Launch} {K58 : Int32 → AS → Option (Int32 × AS)} (hK58 : ∀ (x10 : Int32) (S : AS) r Z, K58 x10 S = some (r, Z) → ax_T l 5 ma_X11_rests (58, [some (.inr (11, 0)), none, none, some (.inl (.int x10)), none, none, none, none], [], S) (some (.inl (.int r))) Z) : ∀ (n : Nat) (x6 : Int32) (x7 : Int32) (x8 : Int32) (x9 : Int32) (S11 : AS) r Z, f_X11_rests_L14 K58 n x6 x7 x8 x9 S11 = some (r, Z) → ax_T l 5 ma_X11_rests (14, [some (.inr (11, 0)), some (.inl (.int x6)), some (.inl (.int x7)), some (.inl (.int x8)), some (.inl (.int x9)), none, none, none], [], S11) (some (.inl (.int r))) Z := by
  intro n
  induction n with
  | zero =>
    intro x6 x7 x8 x9 S11 r Z h
    cases h
  | succ n ih =>
    intro x6 x7 x8 x9 S11 r Z h
    unfold f_X11_rests_L14 at h
    refine ax_Tgo [.iload 4, .iconst 3] (pc' := 17) (L' := [some (.inr (11, 0)), some (.inl (.int x6)), some (.inl (.int x7)), some (.inl (.int x8)), some (.inl (.int x9)), none, none, none]) (st' := [.inl (.int (3 : Int32)), .inl (.int x9)]) (S' := S11) ok_X11_rests.1 (by decide +kernel) rfl rfl ?_
    refine ax_Tic_gt (off := 41) (tgt := 58) (by decide +kernel) (by decide) (fun c12 => ?_) (fun c12 => ?_)
    · rw [if_pos c12] at h
      refine ax_Tdrop [true, false, false, true, false, true, true, true] (L' := [some (.inr (11, 0)), none, none, some (.inl (.int x8)), none, none, none, none]) rfl ?_
      exact hK58 x8 S11 _ _ h
    · rw [if_neg c12] at h
      refine ax_Tgo [.aload_n 0, .getfield 86, .iload 4, .aload_n 0, .iload_n 1, .iload 4, .iconst 0] (pc' := 31) (L' := [some (.inr (11, 0)), some (.inl (.int x6)), some (.inl (.int x7)), some (.inl (.int x8)), some (.inl (.int x9)), none, none, none]) (st' := [.inl (.int (0 : Int32)), .inl (.int x9), .inl (.int x6), .inr (11, 0), .inl (.int x9), .inr (43, 0)]) (S' := S11) ok_X11_rests.1 (by decide +kernel) rfl rfl ?_
      obtain ⟨r16, S13, hq14, h⟩ := ax_bu_e h
      refine ax_TVi (d := 4) (ka := 11) (i := 0) [.inl (.int x6), .inl (.int x9), .inl (.int (0 : Int32))] [.inl (.int x9), .inr (43, 0)] lk_X11_351 (by decide +kernel) rfl (by decide) rfl (Nat.le_of_ble_eq_true rfl) (Nat.le_of_ble_eq_true rfl) ((t_X11_prize hq14).up (by decide)) ?_
      obtain ⟨g17, h⟩ := ax_gd_e h
      refine ax_Tasi (n := 8) ok_X11_rests.1 (by decide +kernel) (by decide) rfl g17 ?_
      obtain ⟨S18, eS18, h⟩ := ax_let_e h
      rw [eS18]
      refine ax_Tgo [.aload_n 0, .getfield 86, .iconst 4, .iload 4, .iadd, .aload_n 0, .iload_n 2, .iload 4, .iconst 1] (pc' := 48) (L' := [some (.inr (11, 0)), some (.inl (.int x6)), some (.inl (.int x7)), some (.inl (.int x8)), some (.inl (.int x9)), none, none, none]) (st' := [.inl (.int (1 : Int32)), .inl (.int x9), .inl (.int x7), .inr (11, 0), .inl (.int ((4 : Int32) + x9)), .inr (43, 0)]) (S' := S18) ok_X11_rests.1 (by decide +kernel) rfl rfl ?_
      obtain ⟨r22, S19, hq20, h⟩ := ax_bu_e h
      refine ax_TVi (d := 4) (ka := 11) (i := 0) [.inl (.int x7), .inl (.int x9), .inl (.int (1 : Int32))] [.inl (.int ((4 : Int32) + x9)), .inr (43, 0)] lk_X11_351 (by decide +kernel) rfl (by decide) rfl (Nat.le_of_ble_eq_true rfl) (Nat.le_of_ble_eq_true rfl) ((t_X11_prize hq20).up (by decide)) ?_
      obtain ⟨g23, h⟩ := ax_gd_e h
      refine ax_Tasi (n := 8) ok_X11_rests.1 (by decide +kernel) (by decide) rfl g23 ?_
      obtain ⟨S24, eS24, h⟩ := ax_let_e h
      rw [eS24]
      refine ax_Tgo [.iinc 4 1] (pc' := 55) (L' := [some (.inr (11, 0)), some (.inl (.int x6)), some (.inl (.int x7)), some (.inl (.int x8)), some (.inl (.int (x9 + (1 : Int32)))), none, none, none]) (st' := []) (S' := S24) ok_X11_rests.1 (by decide +kernel) rfl rfl ?_
      obtain ⟨v25, ev25, h⟩ := ax_let_e h
      rw [ev25]
      refine ax_Tgoto (off := (-41)) (tgt := 14) (by decide +kernel) (by decide) ?_
      exact ih x6 x7 x8 v25 S24 _ _ h
set_option maxRecDepth 100000 in
theorem t_X11_rests_L73 {l : Launch} {K151 : Int32 → Int32 → Int32 → AS → Option (Int32 × AS)} (hK151 : ∀ (x38 : Int32) (x39 : Int32) (x40 : Int32) (S : AS) r Z, K151 x38 x39 x40 S = some (r, Z) → ax_T l 5 ma_X11_rests (151, [some (.inr (11, 0)), none, none, some (.inl (.int x38)), some (.inl (.int x39)), some (.inl (.int x40)), none, none], [], S) (some (.inl (.int r))) Z) : ∀ (n : Nat) (x34 : Int32) (x35 : Int32) (x36 : Int32) (x37 : Int32) (S41 : AS) r Z, f_X11_rests_L73 K151 n x34 x35 x36 x37 S41 = some (r, Z) → ax_T l 5 ma_X11_rests (73, [some (.inr (11, 0)), none, none, some (.inl (.int x34)), some (.inl (.int x35)), some (.inl (.int x36)), some (.inl (.int x37)), none], [], S41) (some (.inl (.int r))) Z := by
  intro n
  induction n with
  | zero =>
    intro x34 x35 x36 x37 S41 r Z h
    cases h
  | succ n ih =>
    intro x34 x35 x36 x37 S41 r Z h
    unfold f_X11_rests_L73 at h
    refine ax_Tgo [.iload 6, .iconst 3] (pc' := 76) (L' := [some (.inr (11, 0)), none, none, some (.inl (.int x34)), some (.inl (.int x35)), some (.inl (.int x36)), some (.inl (.int x37)), none]) (st' := [.inl (.int (3 : Int32)), .inl (.int x37)]) (S' := S41) ok_X11_rests.1 (by decide +kernel) rfl rfl ?_
    refine ax_Tic_gt (off := 75) (tgt := 151) (by decide +kernel) (by decide) (fun c42 => ?_) (fun c42 => ?_)
    · rw [if_pos c42] at h
      refine ax_Tdrop [true, true, true, true, true, true, false, true] (L' := [some (.inr (11, 0)), none, none, some (.inl (.int x34)), some (.inl (.int x35)), some (.inl (.int x36)), none, none]) rfl ?_
      exact hK151 x34 x35 x36 S41 _ _ h
    · rw [if_neg c42] at h
      refine ax_Tgo [.aload_n 0, .iconst 0, .iload 5, .iload 6] (pc' := 85) (L' := [some (.inr (11, 0)), none, none, some (.inl (.int x34)), some (.inl (.int x35)), some (.inl (.int x36)), some (.inl (.int x37)), none]) (st' := [.inl (.int x37), .inl (.int x36), .inl (.int (0 : Int32)), .inr (11, 0)]) (S' := S41) ok_X11_rests.1 (by decide +kernel) rfl rfl ?_
      obtain ⟨r46, hq44, h⟩ := ax_bd_e h
      refine ax_TVi (d := 4) (ka := 11) (i := 0) [.inl (.int (0 : Int32)), .inl (.int x36), .inl (.int x37)] [] lk_X11_357 (by decide +kernel) rfl (by decide) rfl (Nat.le_of_ble_eq_true rfl) (Nat.le_of_ble_eq_true rfl) ((t_X11_isBestAnswer hq44).up (by decide)) ?_
      obtain ⟨J49, eJ49, h⟩ := ax_let_e h
      have hJ49 : ∀ (x47 : Int32) (S48 : AS) r Z, J49 x47 S48 = some (r, Z) → ax_T l 5 ma_X11_rests (108, [some (.inr (11, 0)), none, none, some (.inl (.int x34)), some (.inl (.int x35)), some (.inl (.int x36)), some (.inl (.int x37)), none], [.inl (.int x47)], S48) (some (.inl (.int r))) Z := by
        intro x47 S48 r Z h
        rw [← eJ49] at h
        try dsimp only at h
        refine ax_Tgo [.istore 7, .iload 7] (pc' := 112) (L' := [some (.inr (11, 0)), none, none, some (.inl (.int x34)), some (.inl (.int x35)), some (.inl (.int x36)), some (.inl (.int x37)), some (.inl (.int x47))]) (st' := [.inl (.int x47)]) (S' := S48) ok_X11_rests.1 (by decide +kernel) rfl rfl ?_
        refine ax_Tif_eq (off := 18) (tgt := 130) (by decide +kernel) (by decide) (fun c50 => ?_) (fun c50 => ?_)
        · rw [if_pos c50] at h
          refine ax_Tgo [.iload 4, .iload 7] (pc' := 134) (L' := [some (.inr (11, 0)), none, none, some (.inl (.int x34)), some (.inl (.int x35)), some (.inl (.int x36)), some (.inl (.int x37)), some (.inl (.int x47))]) (st' := [.inl (.int x47), .inl (.int x35)]) (S' := S48) ok_X11_rests.1 (by decide +kernel) rfl rfl ?_
          refine ax_Tif_eq (off := 7) (tgt := 141) (by decide +kernel) (by decide) (fun c51 => ?_) (fun c51 => ?_)
          · rw [if_pos c51] at h
            refine ax_Tgo [.iconst 0, .iadd, .istore 4] (pc' := 145) (L' := [some (.inr (11, 0)), none, none, some (.inl (.int x34)), some (.inl (.int (x35 + (0 : Int32)))), some (.inl (.int x36)), some (.inl (.int x37)), some (.inl (.int x47))]) (st' := []) (S' := S48) ok_X11_rests.1 (by decide +kernel) rfl rfl ?_
            obtain ⟨v52, ev52, h⟩ := ax_let_e h
            rw [ev52]
            refine ax_Tgo [.iinc 6 1] (pc' := 148) (L' := [some (.inr (11, 0)), none, none, some (.inl (.int x34)), some (.inl (.int v52)), some (.inl (.int x36)), some (.inl (.int (x37 + (1 : Int32)))), some (.inl (.int x47))]) (st' := []) (S' := S48) ok_X11_rests.1 (by decide +kernel) rfl rfl ?_
            obtain ⟨v53, ev53, h⟩ := ax_let_e h
            rw [ev53]
            refine ax_Tgoto (off := (-75)) (tgt := 73) (by decide +kernel) (by decide) ?_
            refine ax_Tdrop [true, true, true, true, true, true, true, false] (L' := [some (.inr (11, 0)), none, none, some (.inl (.int x34)), some (.inl (.int v52)), some (.inl (.int x36)), some (.inl (.int v53)), none]) rfl ?_
            exact ih x34 v52 x36 v53 S48 _ _ h
          · rw [if_neg c51] at h
            refine ax_Tgo [.iconst 1] (pc' := 138) (L' := [some (.inr (11, 0)), none, none, some (.inl (.int x34)), some (.inl (.int x35)), some (.inl (.int x36)), some (.inl (.int x37)), some (.inl (.int x47))]) (st' := [.inl (.int (1 : Int32)), .inl (.int x35)]) (S' := S48) ok_X11_rests.1 (by decide +kernel) rfl rfl ?_
            refine ax_Tgoto (off := 4) (tgt := 142) (by decide +kernel) (by decide) ?_
            refine ax_Tgo [.iadd, .istore 4] (pc' := 145) (L' := [some (.inr (11, 0)), none, none, some (.inl (.int x34)), some (.inl (.int (x35 + (1 : Int32)))), some (.inl (.int x36)), some (.inl (.int x37)), some (.inl (.int x47))]) (st' := []) (S' := S48) ok_X11_rests.1 (by decide +kernel) rfl rfl ?_
            obtain ⟨v54, ev54, h⟩ := ax_let_e h
            rw [ev54]
            refine ax_Tgo [.iinc 6 1] (pc' := 148) (L' := [some (.inr (11, 0)), none, none, some (.inl (.int x34)), some (.inl (.int v54)), some (.inl (.int x36)), some (.inl (.int (x37 + (1 : Int32)))), some (.inl (.int x47))]) (st' := []) (S' := S48) ok_X11_rests.1 (by decide +kernel) rfl rfl ?_
            obtain ⟨v55, ev55, h⟩ := ax_let_e h
            rw [ev55]
            refine ax_Tgoto (off := (-75)) (tgt := 73) (by decide +kernel) (by decide) ?_
            refine ax_Tdrop [true, true, true, true, true, true, true, false] (L' := [some (.inr (11, 0)), none, none, some (.inl (.int x34)), some (.inl (.int v54)), some (.inl (.int x36)), some (.inl (.int v55)), none]) rfl ?_
            exact ih x34 v54 x36 v55 S48 _ _ h
        · rw [if_neg c50] at h
          refine ax_Tgo [.iload 4, .iload_n 3] (pc' := 118) (L' := [some (.inr (11, 0)), none, none, some (.inl (.int x34)), some (.inl (.int x35)), some (.inl (.int x36)), some (.inl (.int x37)), some (.inl (.int x47))]) (st' := [.inl (.int x34), .inl (.int x35)]) (S' := S48) ok_X11_rests.1 (by decide +kernel) rfl rfl ?_
          refine ax_Tic_ne (off := 12) (tgt := 130) (by decide +kernel) (by decide) (fun c56 => ?_) (fun c56 => ?_)
          · rw [if_neg c56] at h
            refine ax_Tgo [.iload 4, .iload 7] (pc' := 134) (L' := [some (.inr (11, 0)), none, none, some (.inl (.int x34)), some (.inl (.int x35)), some (.inl (.int x36)), some (.inl (.int x37)), some (.inl (.int x47))]) (st' := [.inl (.int x47), .inl (.int x35)]) (S' := S48) ok_X11_rests.1 (by decide +kernel) rfl rfl ?_
            refine ax_Tif_eq (off := 7) (tgt := 141) (by decide +kernel) (by decide) (fun c57 => ?_) (fun c57 => ?_)
            · rw [if_pos c57] at h
              refine ax_Tgo [.iconst 0, .iadd, .istore 4] (pc' := 145) (L' := [some (.inr (11, 0)), none, none, some (.inl (.int x34)), some (.inl (.int (x35 + (0 : Int32)))), some (.inl (.int x36)), some (.inl (.int x37)), some (.inl (.int x47))]) (st' := []) (S' := S48) ok_X11_rests.1 (by decide +kernel) rfl rfl ?_
              obtain ⟨v58, ev58, h⟩ := ax_let_e h
              rw [ev58]
              refine ax_Tgo [.iinc 6 1] (pc' := 148) (L' := [some (.inr (11, 0)), none, none, some (.inl (.int x34)), some (.inl (.int v58)), some (.inl (.int x36)), some (.inl (.int (x37 + (1 : Int32)))), some (.inl (.int x47))]) (st' := []) (S' := S48) ok_X11_rests.1 (by decide +kernel) rfl rfl ?_
              obtain ⟨v59, ev59, h⟩ := ax_let_e h
              rw [ev59]
              refine ax_Tgoto (off := (-75)) (tgt := 73) (by decide +kernel) (by decide) ?_
              refine ax_Tdrop [true, true, true, true, true, true, true, false] (L' := [some (.inr (11, 0)), none, none, some (.inl (.int x34)), some (.inl (.int v58)), some (.inl (.int x36)), some (.inl (.int v59)), none]) rfl ?_
              exact ih x34 v58 x36 v59 S48 _ _ h
            · rw [if_neg c57] at h
              refine ax_Tgo [.iconst 1] (pc' := 138) (L' := [some (.inr (11, 0)), none, none, some (.inl (.int x34)), some (.inl (.int x35)), some (.inl (.int x36)), some (.inl (.int x37)), some (.inl (.int x47))]) (st' := [.inl (.int (1 : Int32)), .inl (.int x35)]) (S' := S48) ok_X11_rests.1 (by decide +kernel) rfl rfl ?_
              refine ax_Tgoto (off := 4) (tgt := 142) (by decide +kernel) (by decide) ?_
              refine ax_Tgo [.iadd, .istore 4] (pc' := 145) (L' := [some (.inr (11, 0)), none, none, some (.inl (.int x34)), some (.inl (.int (x35 + (1 : Int32)))), some (.inl (.int x36)), some (.inl (.int x37)), some (.inl (.int x47))]) (st' := []) (S' := S48) ok_X11_rests.1 (by decide +kernel) rfl rfl ?_
              obtain ⟨v60, ev60, h⟩ := ax_let_e h
              rw [ev60]
              refine ax_Tgo [.iinc 6 1] (pc' := 148) (L' := [some (.inr (11, 0)), none, none, some (.inl (.int x34)), some (.inl (.int v60)), some (.inl (.int x36)), some (.inl (.int (x37 + (1 : Int32)))), some (.inl (.int x47))]) (st' := []) (S' := S48) ok_X11_rests.1 (by decide +kernel) rfl rfl ?_
              obtain ⟨v61, ev61, h⟩ := ax_let_e h
              rw [ev61]
              refine ax_Tgoto (off := (-75)) (tgt := 73) (by decide +kernel) (by decide) ?_
              refine ax_Tdrop [true, true, true, true, true, true, true, false] (L' := [some (.inr (11, 0)), none, none, some (.inl (.int x34)), some (.inl (.int v60)), some (.inl (.int x36)), some (.inl (.int v61)), none]) rfl ?_
              exact ih x34 v60 x36 v61 S48 _ _ h
          · rw [if_pos c56] at h
            refine ax_Tgo [.bipush 10, .iload 5, .imul, .iload 6, .iadd] (pc' := 129) (L' := [some (.inr (11, 0)), none, none, some (.inl (.int x34)), some (.inl (.int x35)), some (.inl (.int x36)), some (.inl (.int x37)), some (.inl (.int x47))]) (st' := [.inl (.int (((10 : Int32) * x36) + x37))]) (S' := S48) ok_X11_rests.1 (by decide +kernel) rfl rfl ?_
            cases h
            exact ax_Treti (by decide +kernel) rfl rfl
      refine ax_Tif_eq (off := 19) (tgt := 107) (by decide +kernel) (by decide) (fun c62 => ?_) (fun c62 => ?_)
      · rw [if_pos c62] at h
        refine ax_Tgo [.iconst 0] (pc' := 108) (L' := [some (.inr (11, 0)), none, none, some (.inl (.int x34)), some (.inl (.int x35)), some (.inl (.int x36)), some (.inl (.int x37)), none]) (st' := [.inl (.int (0 : Int32))]) (S' := S41) ok_X11_rests.1 (by decide +kernel) rfl rfl ?_
        exact hJ49 (0 : Int32) S41 _ _ h
      · rw [if_neg c62] at h
        refine ax_Tgo [.aload_n 0, .iconst 4, .iload 6, .iload 5] (pc' := 97) (L' := [some (.inr (11, 0)), none, none, some (.inl (.int x34)), some (.inl (.int x35)), some (.inl (.int x36)), some (.inl (.int x37)), none]) (st' := [.inl (.int x36), .inl (.int x37), .inl (.int (4 : Int32)), .inr (11, 0)]) (S' := S41) ok_X11_rests.1 (by decide +kernel) rfl rfl ?_
        obtain ⟨r66, hq64, h⟩ := ax_bd_e h
        refine ax_TVi (d := 4) (ka := 11) (i := 0) [.inl (.int (4 : Int32)), .inl (.int x37), .inl (.int x36)] [] lk_X11_357 (by decide +kernel) rfl (by decide) rfl (Nat.le_of_ble_eq_true rfl) (Nat.le_of_ble_eq_true rfl) ((t_X11_isBestAnswer hq64).up (by decide)) ?_
        refine ax_Tif_eq (off := 7) (tgt := 107) (by decide +kernel) (by decide) (fun c67 => ?_) (fun c67 => ?_)
        · rw [if_pos c67] at h
          refine ax_Tgo [.iconst 0] (pc' := 108) (L' := [some (.inr (11, 0)), none, none, some (.inl (.int x34)), some (.inl (.int x35)), some (.inl (.int x36)), some (.inl (.int x37)), none]) (st' := [.inl (.int (0 : Int32))]) (S' := S41) ok_X11_rests.1 (by decide +kernel) rfl rfl ?_
          exact hJ49 (0 : Int32) S41 _ _ h
        · rw [if_neg c67] at h
          refine ax_Tgo [.iconst 1] (pc' := 104) (L' := [some (.inr (11, 0)), none, none, some (.inl (.int x34)), some (.inl (.int x35)), some (.inl (.int x36)), some (.inl (.int x37)), none]) (st' := [.inl (.int (1 : Int32))]) (S' := S41) ok_X11_rests.1 (by decide +kernel) rfl rfl ?_
          refine ax_Tgoto (off := 4) (tgt := 108) (by decide +kernel) (by decide) ?_
          exact hJ49 (1 : Int32) S41 _ _ h
set_option maxRecDepth 100000 in
theorem t_X11_rests_L64 {l : Launch} {K157 : Int32 → Int32 → AS → Option (Int32 × AS)} (hK157 : ∀ (x30 : Int32) (x31 : Int32) (S : AS) r Z, K157 x30 x31 S = some (r, Z) → ax_T l 5 ma_X11_rests (157, [none, none, none, some (.inl (.int x30)), some (.inl (.int x31)), none, none, none], [], S) (some (.inl (.int r))) Z) : ∀ (n : Nat) (x27 : Int32) (x28 : Int32) (x29 : Int32) (S32 : AS) r Z, f_X11_rests_L64 K157 n x27 x28 x29 S32 = some (r, Z) → ax_T l 5 ma_X11_rests (64, [some (.inr (11, 0)), none, none, some (.inl (.int x27)), some (.inl (.int x28)), some (.inl (.int x29)), none, none], [], S32) (some (.inl (.int r))) Z := by
  intro n
  induction n with
  | zero =>
    intro x27 x28 x29 S32 r Z h
    cases h
  | succ n ih =>
    intro x27 x28 x29 S32 r Z h
    unfold f_X11_rests_L64 at h
    refine ax_Tgo [.iload 5, .iconst 3] (pc' := 67) (L' := [some (.inr (11, 0)), none, none, some (.inl (.int x27)), some (.inl (.int x28)), some (.inl (.int x29)), none, none]) (st' := [.inl (.int (3 : Int32)), .inl (.int x29)]) (S' := S32) ok_X11_rests.1 (by decide +kernel) rfl rfl ?_
    refine ax_Tic_gt (off := 90) (tgt := 157) (by decide +kernel) (by decide) (fun c33 => ?_) (fun c33 => ?_)
    · rw [if_pos c33] at h
      refine ax_Tdrop [false, true, true, true, true, false, true, true] (L' := [none, none, none, some (.inl (.int x27)), some (.inl (.int x28)), none, none, none]) rfl ?_
      exact hK157 x27 x28 S32 _ _ h
    · rw [if_neg c33] at h
      refine ax_Tgo [.iconst 0, .istore 6] (pc' := 73) (L' := [some (.inr (11, 0)), none, none, some (.inl (.int x27)), some (.inl (.int x28)), some (.inl (.int x29)), some (.inl (.int (0 : Int32))), none]) (st' := []) (S' := S32) ok_X11_rests.1 (by decide +kernel) rfl rfl ?_
      refine t_X11_rests_L73 ?_ _ x27 x28 x29 (0 : Int32) S32 _ _ h
      · intro x38 x39 x40 S68 r Z h
        refine ax_Tgo [.iinc 5 1] (pc' := 154) (L' := [some (.inr (11, 0)), none, none, some (.inl (.int x38)), some (.inl (.int x39)), some (.inl (.int (x40 + (1 : Int32)))), none, none]) (st' := []) (S' := S68) ok_X11_rests.1 (by decide +kernel) rfl rfl ?_
        obtain ⟨v69, ev69, h⟩ := ax_let_e h
        rw [ev69]
        refine ax_Tgoto (off := (-90)) (tgt := 64) (by decide +kernel) (by decide) ?_
        exact ih x38 x39 v69 S68 _ _ h
set_option maxRecDepth 100000 in
theorem t_X11_rests {l : Launch} {a1 : Int32} {a2 : Int32} {a3 : Int32} {S Z : AS} {r : Int32} (h : f_X11_rests a1 a2 a3 S = some (r, Z)) : ax_M l 5 ma_X11_rests [.inr (11, 0), .inl (.int a1), .inl (.int a2), .inl (.int a3)] S (some (.inl (.int r))) Z := by
  unfold f_X11_rests at h
  show ax_T l 5 ma_X11_rests (0, [some (.inr (11, 0)), some (.inl (.int a1)), some (.inl (.int a2)), some (.inl (.int a3)), none, none, none, none], [], S) (some (.inl (.int r))) Z
  refine ax_Tgo [.aload_n 0, .iload_n 1, .iload_n 2] (pc' := 3) (L' := [some (.inr (11, 0)), some (.inl (.int a1)), some (.inl (.int a2)), some (.inl (.int a3)), none, none, none, none]) (st' := [.inl (.int a2), .inl (.int a1), .inr (11, 0)]) (S' := S) ok_X11_rests.1 (by decide +kernel) rfl rfl ?_
  obtain ⟨r4, hq2, h⟩ := ax_bd_e h
  refine ax_TVi (d := 4) (ka := 11) (i := 0) [.inl (.int a1), .inl (.int a2)] [] lk_X11_345 (by decide +kernel) rfl (by decide) rfl (Nat.le_of_ble_eq_true rfl) (Nat.le_of_ble_eq_true rfl) ((t_X11_noSuchPair hq2).up (by decide)) ?_
  refine ax_Tif_eq (off := 5) (tgt := 11) (by decide +kernel) (by decide) (fun c5 => ?_) (fun c5 => ?_)
  · rw [if_pos c5] at h
    refine ax_Tgo [.iconst 0, .istore 4] (pc' := 14) (L' := [some (.inr (11, 0)), some (.inl (.int a1)), some (.inl (.int a2)), some (.inl (.int a3)), some (.inl (.int (0 : Int32))), none, none, none]) (st' := []) (S' := S) ok_X11_rests.1 (by decide +kernel) rfl rfl ?_
    refine t_X11_rests_L14 ?_ _ a1 a2 a3 (0 : Int32) S _ _ h
    · intro x10 S26 r Z h
      refine ax_Tgo [.iconst 0, .istore 4, .iconst 0, .istore 5] (pc' := 64) (L' := [some (.inr (11, 0)), none, none, some (.inl (.int x10)), some (.inl (.int (0 : Int32))), some (.inl (.int (0 : Int32))), none, none]) (st' := []) (S' := S26) ok_X11_rests.1 (by decide +kernel) rfl rfl ?_
      refine t_X11_rests_L64 ?_ _ x10 (0 : Int32) (0 : Int32) S26 _ _ h
      · intro x30 x31 S70 r Z h
        refine ax_Tgo [.iload_n 3, .iconst (-1)] (pc' := 159) (L' := [none, none, none, some (.inl (.int x30)), some (.inl (.int x31)), none, none, none]) (st' := [.inl (.int (Int32.ofInt (-1))), .inl (.int x30)]) (S' := S70) ok_X11_rests.1 (by decide +kernel) rfl rfl ?_
        refine ax_Tic_ne (off := 8) (tgt := 167) (by decide +kernel) (by decide) (fun c71 => ?_) (fun c71 => ?_)
        · rw [if_neg c71] at h
          refine ax_Tgo [.iconst (-1)] (pc' := 168) (L' := [none, none, none, some (.inl (.int x30)), some (.inl (.int x31)), none, none, none]) (st' := [.inl (.int (Int32.ofInt (-1)))]) (S' := S70) ok_X11_rests.1 (by decide +kernel) rfl rfl ?_
          cases h
          exact ax_Treti (by decide +kernel) rfl rfl
        · rw [if_pos c71] at h
          refine ax_Tgo [.iload 4] (pc' := 164) (L' := [none, none, none, some (.inl (.int x30)), some (.inl (.int x31)), none, none, none]) (st' := [.inl (.int x31)]) (S' := S70) ok_X11_rests.1 (by decide +kernel) rfl rfl ?_
          refine ax_Tgoto (off := 4) (tgt := 168) (by decide +kernel) (by decide) ?_
          cases h
          exact ax_Treti (by decide +kernel) rfl rfl
  · rw [if_neg c5] at h
    refine ax_Tgo [.iconst (-1)] (pc' := 10) (L' := [some (.inr (11, 0)), some (.inl (.int a1)), some (.inl (.int a2)), some (.inl (.int a3)), none, none, none, none]) (st' := [.inl (.int (Int32.ofInt (-1)))]) (S' := S) ok_X11_rests.1 (by decide +kernel) rfl rfl ?_
    cases h
    exact ax_Treti (by decide +kernel) rfl rfl
def f_X4_ruleOf (i0 : Nat) (a1 : Int32) (S : AS) : Option (Int32) := (if a1 < (0 : Int32) then some (0 : Int32) else (if (Int32.ofNat 3) ≤ a1 then some (0 : Int32) else ax_gd (ax_in a1 3) (some (ax_ai S 27 i0 a1.toNatClampNeg))))
set_option maxRecDepth 100000 in
theorem t_X4_ruleOf {l : Launch} {i0 : Nat} {a1 : Int32} {S : AS} {r : Int32} (h : f_X4_ruleOf i0 a1 S = some r) : ax_M l 0 ma_X4_ruleOf [.inr (4, i0), .inl (.int a1)] S (some (.inl (.int r))) S := by
  unfold f_X4_ruleOf at h
  show ax_T l 0 ma_X4_ruleOf (0, [some (.inr (4, i0)), some (.inl (.int a1))], [], S) (some (.inl (.int r))) S
  refine ax_Tgo [.iload_n 1] (pc' := 1) (L' := [some (.inr (4, i0)), some (.inl (.int a1))]) (st' := [.inl (.int a1)]) (S' := S) ok_X4_ruleOf.1 (by decide +kernel) rfl rfl ?_
  refine ax_Tif_lt (off := 21) (tgt := 22) (by decide +kernel) (by decide) (fun c1 => ?_) (fun c1 => ?_)
  · rw [if_pos c1] at h
    refine ax_Tgo [.iconst 0] (pc' := 23) (L' := [some (.inr (4, i0)), some (.inl (.int a1))]) (st' := [.inl (.int (0 : Int32))]) (S' := S) ok_X4_ruleOf.1 (by decide +kernel) rfl rfl ?_
    cases h
    exact ax_Treti (by decide +kernel) rfl rfl
  · rw [if_neg c1] at h
    refine ax_Tgo [.iload_n 1, .aload_n 0, .getfield 11, .arraylength] (pc' := 10) (L' := [some (.inr (4, i0)), some (.inl (.int a1))]) (st' := [.inl (.int (Int32.ofNat 3)), .inl (.int a1)]) (S' := S) ok_X4_ruleOf.1 (by decide +kernel) rfl rfl ?_
    refine ax_Tic_ge (off := 12) (tgt := 22) (by decide +kernel) (by decide) (fun c2 => ?_) (fun c2 => ?_)
    · rw [if_pos c2] at h
      refine ax_Tgo [.iconst 0] (pc' := 23) (L' := [some (.inr (4, i0)), some (.inl (.int a1))]) (st' := [.inl (.int (0 : Int32))]) (S' := S) ok_X4_ruleOf.1 (by decide +kernel) rfl rfl ?_
      cases h
      exact ax_Treti (by decide +kernel) rfl rfl
    · rw [if_neg c2] at h
      refine ax_Tgo [.aload_n 0, .getfield 11, .iload_n 1] (pc' := 18) (L' := [some (.inr (4, i0)), some (.inl (.int a1))]) (st' := [.inl (.int a1), .inr (27, i0)]) (S' := S) ok_X4_ruleOf.1 (by decide +kernel) rfl rfl ?_
      obtain ⟨g3, h⟩ := ax_gd_e h
      refine ax_Tali (n := 3) ok_X4_ruleOf.1 (by decide +kernel) (by decide) rfl g3 ?_
      refine ax_Tgoto (off := 4) (tgt := 23) (by decide +kernel) (by decide) ?_
      cases h
      exact ax_Treti (by decide +kernel) rfl rfl
def f_X11_rule (a1 : Int32) (S : AS) : Option (Int32) := (f_X11_noHouse S).bind (fun (r4 : Int32) => (if r4 = (0 : Int32) then (if a1 < (0 : Int32) then some (Int32.ofInt (-1)) else (if a1 ≤ (2 : Int32) then (if a1 = (2 : Int32) then some (ax_fi S 9 0 6) else (f_X4_ruleOf (ax_fx S 11 0 14) a1 S).bind (fun (r12 : Int32) => some r12)) else some (Int32.ofInt (-1)))) else some (Int32.ofInt (-1))))
set_option maxRecDepth 100000 in
theorem t_X11_rule {l : Launch} {a1 : Int32} {S : AS} {r : Int32} (h : f_X11_rule a1 S = some r) : ax_M l 2 ma_X11_rule [.inr (11, 0), .inl (.int a1)] S (some (.inl (.int r))) S := by
  unfold f_X11_rule at h
  show ax_T l 2 ma_X11_rule (0, [some (.inr (11, 0)), some (.inl (.int a1))], [], S) (some (.inl (.int r))) S
  refine ax_Tgo [.aload_n 0] (pc' := 1) (L' := [some (.inr (11, 0)), some (.inl (.int a1))]) (st' := [.inr (11, 0)]) (S' := S) ok_X11_rule.1 (by decide +kernel) rfl rfl ?_
  obtain ⟨r4, hq2, h⟩ := ax_bd_e h
  refine ax_TVi (d := 1) (ka := 11) (i := 0) [] [] lk_X11_161 (by decide +kernel) rfl (by decide) rfl (Nat.le_of_ble_eq_true rfl) (Nat.le_of_ble_eq_true rfl) ((t_X11_noHouse hq2).up (by decide)) ?_
  refine ax_Tif_ne (off := 12) (tgt := 16) (by decide +kernel) (by decide) (fun c5 => ?_) (fun c5 => ?_)
  · rw [if_neg c5] at h
    refine ax_Tgo [.iconst (-1)] (pc' := 17) (L' := [some (.inr (11, 0)), some (.inl (.int a1))]) (st' := [.inl (.int (Int32.ofInt (-1)))]) (S' := S) ok_X11_rule.1 (by decide +kernel) rfl rfl ?_
    cases h
    exact ax_Treti (by decide +kernel) rfl rfl
  · rw [if_pos c5] at h
    refine ax_Tgo [.iload_n 1] (pc' := 8) (L' := [some (.inr (11, 0)), some (.inl (.int a1))]) (st' := [.inl (.int a1)]) (S' := S) ok_X11_rule.1 (by decide +kernel) rfl rfl ?_
    refine ax_Tif_lt (off := 8) (tgt := 16) (by decide +kernel) (by decide) (fun c6 => ?_) (fun c6 => ?_)
    · rw [if_pos c6] at h
      refine ax_Tgo [.iconst (-1)] (pc' := 17) (L' := [some (.inr (11, 0)), some (.inl (.int a1))]) (st' := [.inl (.int (Int32.ofInt (-1)))]) (S' := S) ok_X11_rule.1 (by decide +kernel) rfl rfl ?_
      cases h
      exact ax_Treti (by decide +kernel) rfl rfl
    · rw [if_neg c6] at h
      refine ax_Tgo [.iload_n 1, .iconst 2] (pc' := 13) (L' := [some (.inr (11, 0)), some (.inl (.int a1))]) (st' := [.inl (.int (2 : Int32)), .inl (.int a1)]) (S' := S) ok_X11_rule.1 (by decide +kernel) rfl rfl ?_
      refine ax_Tic_le (off := 5) (tgt := 18) (by decide +kernel) (by decide) (fun c7 => ?_) (fun c7 => ?_)
      · rw [if_pos c7] at h
        refine ax_Tgo [.iload_n 1, .iconst 2] (pc' := 20) (L' := [some (.inr (11, 0)), some (.inl (.int a1))]) (st' := [.inl (.int (2 : Int32)), .inl (.int a1)]) (S' := S) ok_X11_rule.1 (by decide +kernel) rfl rfl ?_
        refine ax_Tic_ne (off := 13) (tgt := 33) (by decide +kernel) (by decide) (fun c8 => ?_) (fun c8 => ?_)
        · rw [if_neg c8] at h
          refine ax_Tgo [.aload_n 0, .getfield 93, .iload_n 1] (pc' := 38) (L' := [some (.inr (11, 0)), some (.inl (.int a1))]) (st' := [.inl (.int a1), .inr (4, (ax_fx S 11 0 14))]) (S' := S) ok_X11_rule.1 (by decide +kernel) rfl rfl ?_
          obtain ⟨r12, hq10, h⟩ := ax_bd_e h
          refine ax_TVi (d := 1) (ka := 4) (i := (ax_fx S 11 0 14)) [.inl (.int a1)] [] lk_X11_168 (by decide +kernel) rfl (by decide) rfl (Nat.le_of_ble_eq_true rfl) (Nat.le_of_ble_eq_true rfl) ((t_X4_ruleOf hq10).up (by decide)) ?_
          cases h
          exact ax_Treti (by decide +kernel) rfl rfl
        · rw [if_pos c8] at h
          refine ax_Tgo [.aload_n 0, .getfield 69, .getfield 165] (pc' := 30) (L' := [some (.inr (11, 0)), some (.inl (.int a1))]) (st' := [.inl (.int (ax_fi S 9 0 6))]) (S' := S) ok_X11_rule.1 (by decide +kernel) rfl rfl ?_
          refine ax_Tgoto (off := 11) (tgt := 41) (by decide +kernel) (by decide) ?_
          cases h
          exact ax_Treti (by decide +kernel) rfl rfl
      · rw [if_neg c7] at h
        refine ax_Tgo [.iconst (-1)] (pc' := 17) (L' := [some (.inr (11, 0)), some (.inl (.int a1))]) (st' := [.inl (.int (Int32.ofInt (-1)))]) (S' := S) ok_X11_rule.1 (by decide +kernel) rfl rfl ?_
        cases h
        exact ax_Treti (by decide +kernel) rfl rfl
def f_X11_run_L49 (K113 : Int32 → Nat → Int32 → AS → Option (Int32 × AS)) : Nat → Int32 → Nat → Int32 → AS → Option (Int32 × AS)
  | 0, _, _, _, _ => none
  | n + 1, x17, y18, x19, S23 => (if (ax_fi S23 0 y18 2) ≤ x19 then K113 x17 y18 x19 S23 else (f_X0_kindOf y18 x19 S23).bind (fun (r31 : Int32) => (f_X0_digitOf y18 x19 S23).bind (fun (r35 : Int32) => ax_bu (f_X6_may 1 r31 r35 S23) (fun (r39 : Int32) (S36 : AS) => (if r39 = (0 : Int32) then K113 x17 y18 x19 S36 else (f_X0_kindOf y18 x19 S36).bind (fun (r44 : Int32) => (f_X0_digitOf y18 x19 S36).bind (fun (r48 : Int32) => (f_X6_carryOut 1 r44 r48 S36).bind (fun (S49 : AS) => ax_let (x19 + (1 : Int32)) (fun (v52 : Int32) => f_X11_run_L49 K113 n x17 y18 v52 S49)))))))))
def f_X11_run (a1 : Int32) (a2 : Int32) (S : AS) : Option (Int32 × AS) := (f_X11_noHouse S).bind (fun (r4 : Int32) => (if r4 = (0 : Int32) then (f_X11_noSuchAfternoon a1 S).bind (fun (r9 : Int32) => (if r9 = (0 : Int32) then (if a2 < (0 : Int32) then some ((-1000000 : Int32), S) else (if a2 ≤ (1 : Int32) then ax_gd (ax_in a1 5) ((f_X9_copyFrom 1 0 S).bind (fun (S14 : AS) => f_X11_run_L49 (fun (x20 : Int32) (x21 : Nat) (x22 : Int32) (S53 : AS) => (if x20 = (1 : Int32) then some (((ax_fi S53 9 1 5) - (ax_fi S53 9 0 5)), S53) else (if x22 = (ax_fi S53 0 x21 2) then some ((Int32.ofInt (-1)), S53) else some (x22, S53)))) ax_F a2 (a1.toNatClampNeg) (0 : Int32) S14)) else some ((-1000000 : Int32), S))) else some ((-1000000 : Int32), S))) else some ((-1000000 : Int32), S)))
set_option maxRecDepth 100000 in
theorem t_X11_run_L49 {l : Launch} {K113 : Int32 → Nat → Int32 → AS → Option (Int32 × AS)} (hK113 : ∀ (x20 : Int32) (x21 : Nat) (x22 : Int32) (S : AS) r Z, K113 x20 x21 x22 S = some (r, Z) → ax_T l 6 ma_X11_run (113, [some (.inr (11, 0)), none, some (.inl (.int x20)), some (.inr (0, x21)), some (.inl (.int x22))], [], S) (some (.inl (.int r))) Z) : ∀ (n : Nat) (x17 : Int32) (y18 : Nat) (x19 : Int32) (S23 : AS) r Z, f_X11_run_L49 K113 n x17 y18 x19 S23 = some (r, Z) → ax_T l 6 ma_X11_run (49, [some (.inr (11, 0)), none, some (.inl (.int x17)), some (.inr (0, y18)), some (.inl (.int x19))], [], S23) (some (.inl (.int r))) Z := by
  intro n
  induction n with
  | zero =>
    intro x17 y18 x19 S23 r Z h
    cases h
  | succ n ih =>
    intro x17 y18 x19 S23 r Z h
    unfold f_X11_run_L49 at h
    refine ax_Tgo [.iload 4, .aload_n 3] (pc' := 52) (L' := [some (.inr (11, 0)), none, some (.inl (.int x17)), some (.inr (0, y18)), some (.inl (.int x19))]) (st' := [.inr (0, y18), .inl (.int x19)]) (S' := S23) ok_X11_run.1 (by decide +kernel) rfl rfl ?_
    refine ax_TVi (d := 5) (ka := 0) (i := y18) [] [.inl (.int x19)] lk_X11_268 (by decide +kernel) rfl (by decide) rfl (Nat.le_of_ble_eq_true rfl) (Nat.le_of_ble_eq_true rfl) ((t_X0_steps rfl).up (by decide)) ?_
    refine ax_Tic_ge (off := 58) (tgt := 113) (by decide +kernel) (by decide) (fun c27 => ?_) (fun c27 => ?_)
    · rw [if_pos c27] at h
      exact hK113 x17 y18 x19 S23 _ _ h
    · rw [if_neg c27] at h
      refine ax_Tgo [.aload_n 0, .getfield 31, .aload_n 0, .getfield 73, .aload_n 3, .iload 4] (pc' := 69) (L' := [some (.inr (11, 0)), none, some (.inl (.int x17)), some (.inr (0, y18)), some (.inl (.int x19))]) (st' := [.inl (.int x19), .inr (0, y18), .inr (9, 1), .inr (6, 0)]) (S' := S23) ok_X11_run.1 (by decide +kernel) rfl rfl ?_
      obtain ⟨r31, hq29, h⟩ := ax_bd_e h
      refine ax_TVi (d := 5) (ka := 0) (i := y18) [.inl (.int x19)] [.inr (9, 1), .inr (6, 0)] lk_X11_272 (by decide +kernel) rfl (by decide) rfl (Nat.le_of_ble_eq_true rfl) (Nat.le_of_ble_eq_true rfl) ((t_X0_kindOf hq29).up (by decide)) ?_
      refine ax_Tgo [.aload_n 3, .iload 4] (pc' := 75) (L' := [some (.inr (11, 0)), none, some (.inl (.int x17)), some (.inr (0, y18)), some (.inl (.int x19))]) (st' := [.inl (.int x19), .inr (0, y18), .inl (.int r31), .inr (9, 1), .inr (6, 0)]) (S' := S23) ok_X11_run.1 (by decide +kernel) rfl rfl ?_
      obtain ⟨r35, hq33, h⟩ := ax_bd_e h
      refine ax_TVi (d := 5) (ka := 0) (i := y18) [.inl (.int x19)] [.inl (.int r31), .inr (9, 1), .inr (6, 0)] lk_X11_275 (by decide +kernel) rfl (by decide) rfl (Nat.le_of_ble_eq_true rfl) (Nat.le_of_ble_eq_true rfl) ((t_X0_digitOf hq33).up (by decide)) ?_
      obtain ⟨r39, S36, hq37, h⟩ := ax_bu_e h
      refine ax_TVi (d := 5) (ka := 6) (i := 0) [.inr (9, 1), .inl (.int r31), .inl (.int r35)] [] lk_X11_237 (by decide +kernel) rfl (by decide) rfl (Nat.le_of_ble_eq_true rfl) (Nat.le_of_ble_eq_true rfl) ((t_X6_may hq37).up (by decide)) ?_
      refine ax_Tif_eq (off := 32) (tgt := 113) (by decide +kernel) (by decide) (fun c40 => ?_) (fun c40 => ?_)
      · rw [if_pos c40] at h
        exact hK113 x17 y18 x19 S36 _ _ h
      · rw [if_neg c40] at h
        refine ax_Tgo [.aload_n 0, .getfield 31, .aload_n 0, .getfield 73, .aload_n 3, .iload 4] (pc' := 95) (L' := [some (.inr (11, 0)), none, some (.inl (.int x17)), some (.inr (0, y18)), some (.inl (.int x19))]) (st' := [.inl (.int x19), .inr (0, y18), .inr (9, 1), .inr (6, 0)]) (S' := S36) ok_X11_run.1 (by decide +kernel) rfl rfl ?_
        obtain ⟨r44, hq42, h⟩ := ax_bd_e h
        refine ax_TVi (d := 5) (ka := 0) (i := y18) [.inl (.int x19)] [.inr (9, 1), .inr (6, 0)] lk_X11_272 (by decide +kernel) rfl (by decide) rfl (Nat.le_of_ble_eq_true rfl) (Nat.le_of_ble_eq_true rfl) ((t_X0_kindOf hq42).up (by decide)) ?_
        refine ax_Tgo [.aload_n 3, .iload 4] (pc' := 101) (L' := [some (.inr (11, 0)), none, some (.inl (.int x17)), some (.inr (0, y18)), some (.inl (.int x19))]) (st' := [.inl (.int x19), .inr (0, y18), .inl (.int r44), .inr (9, 1), .inr (6, 0)]) (S' := S36) ok_X11_run.1 (by decide +kernel) rfl rfl ?_
        obtain ⟨r48, hq46, h⟩ := ax_bd_e h
        refine ax_TVi (d := 5) (ka := 0) (i := y18) [.inl (.int x19)] [.inl (.int r44), .inr (9, 1), .inr (6, 0)] lk_X11_275 (by decide +kernel) rfl (by decide) rfl (Nat.le_of_ble_eq_true rfl) (Nat.le_of_ble_eq_true rfl) ((t_X0_digitOf hq46).up (by decide)) ?_
        obtain ⟨S49, hq50, h⟩ := ax_bd_e h
        refine ax_TVv (d := 5) (ka := 6) (i := 0) [.inr (9, 1), .inl (.int r44), .inl (.int r48)] [] lk_X11_248 (by decide +kernel) rfl (by decide) rfl (Nat.le_of_ble_eq_true rfl) (Nat.le_of_ble_eq_true rfl) ((t_X6_carryOut hq50).up (by decide)) ?_
        refine ax_Tgo [.iinc 4 1] (pc' := 110) (L' := [some (.inr (11, 0)), none, some (.inl (.int x17)), some (.inr (0, y18)), some (.inl (.int (x19 + (1 : Int32))))]) (st' := []) (S' := S49) ok_X11_run.1 (by decide +kernel) rfl rfl ?_
        obtain ⟨v52, ev52, h⟩ := ax_let_e h
        rw [ev52]
        refine ax_Tgoto (off := (-61)) (tgt := 49) (by decide +kernel) (by decide) ?_
        exact ih x17 y18 v52 S49 _ _ h
set_option maxRecDepth 100000 in
theorem t_X11_run {l : Launch} {a1 : Int32} {a2 : Int32} {S Z : AS} {r : Int32} (h : f_X11_run a1 a2 S = some (r, Z)) : ax_M l 6 ma_X11_run [.inr (11, 0), .inl (.int a1), .inl (.int a2)] S (some (.inl (.int r))) Z := by
  unfold f_X11_run at h
  show ax_T l 6 ma_X11_run (0, [some (.inr (11, 0)), some (.inl (.int a1)), some (.inl (.int a2)), none, none], [], S) (some (.inl (.int r))) Z
  refine ax_Tgo [.aload_n 0] (pc' := 1) (L' := [some (.inr (11, 0)), some (.inl (.int a1)), some (.inl (.int a2)), none, none]) (st' := [.inr (11, 0)]) (S' := S) ok_X11_run.1 (by decide +kernel) rfl rfl ?_
  obtain ⟨r4, hq2, h⟩ := ax_bd_e h
  refine ax_TVi (d := 5) (ka := 11) (i := 0) [] [] lk_X11_161 (by decide +kernel) rfl (by decide) rfl (Nat.le_of_ble_eq_true rfl) (Nat.le_of_ble_eq_true rfl) ((t_X11_noHouse hq2).up (by decide)) ?_
  refine ax_Tif_ne (off := 20) (tgt := 24) (by decide +kernel) (by decide) (fun c5 => ?_) (fun c5 => ?_)
  · rw [if_neg c5] at h
    refine ax_Tgo [.ldc_w 271] (pc' := 27) (L' := [some (.inr (11, 0)), some (.inl (.int a1)), some (.inl (.int a2)), none, none]) (st' := [.inl (.int (-1000000 : Int32))]) (S' := S) ok_X11_run.1 (by decide +kernel) rfl rfl ?_
    cases h
    exact ax_Treti (by decide +kernel) rfl rfl
  · rw [if_pos c5] at h
    refine ax_Tgo [.aload_n 0, .iload_n 1] (pc' := 9) (L' := [some (.inr (11, 0)), some (.inl (.int a1)), some (.inl (.int a2)), none, none]) (st' := [.inl (.int a1), .inr (11, 0)]) (S' := S) ok_X11_run.1 (by decide +kernel) rfl rfl ?_
    obtain ⟨r9, hq7, h⟩ := ax_bd_e h
    refine ax_TVi (d := 5) (ka := 11) (i := 0) [.inl (.int a1)] [] lk_X11_265 (by decide +kernel) rfl (by decide) rfl (Nat.le_of_ble_eq_true rfl) (Nat.le_of_ble_eq_true rfl) ((t_X11_noSuchAfternoon hq7).up (by decide)) ?_
    refine ax_Tif_ne (off := 12) (tgt := 24) (by decide +kernel) (by decide) (fun c10 => ?_) (fun c10 => ?_)
    · rw [if_neg c10] at h
      refine ax_Tgo [.ldc_w 271] (pc' := 27) (L' := [some (.inr (11, 0)), some (.inl (.int a1)), some (.inl (.int a2)), none, none]) (st' := [.inl (.int (-1000000 : Int32))]) (S' := S) ok_X11_run.1 (by decide +kernel) rfl rfl ?_
      cases h
      exact ax_Treti (by decide +kernel) rfl rfl
    · rw [if_pos c10] at h
      refine ax_Tgo [.iload_n 2] (pc' := 16) (L' := [some (.inr (11, 0)), some (.inl (.int a1)), some (.inl (.int a2)), none, none]) (st' := [.inl (.int a2)]) (S' := S) ok_X11_run.1 (by decide +kernel) rfl rfl ?_
      refine ax_Tif_lt (off := 8) (tgt := 24) (by decide +kernel) (by decide) (fun c11 => ?_) (fun c11 => ?_)
      · rw [if_pos c11] at h
        refine ax_Tgo [.ldc_w 271] (pc' := 27) (L' := [some (.inr (11, 0)), some (.inl (.int a1)), some (.inl (.int a2)), none, none]) (st' := [.inl (.int (-1000000 : Int32))]) (S' := S) ok_X11_run.1 (by decide +kernel) rfl rfl ?_
        cases h
        exact ax_Treti (by decide +kernel) rfl rfl
      · rw [if_neg c11] at h
        refine ax_Tgo [.iload_n 2, .iconst 1] (pc' := 21) (L' := [some (.inr (11, 0)), some (.inl (.int a1)), some (.inl (.int a2)), none, none]) (st' := [.inl (.int (1 : Int32)), .inl (.int a2)]) (S' := S) ok_X11_run.1 (by decide +kernel) rfl rfl ?_
        refine ax_Tic_le (off := 7) (tgt := 28) (by decide +kernel) (by decide) (fun c12 => ?_) (fun c12 => ?_)
        · rw [if_pos c12] at h
          refine ax_Tgo [.aload_n 0, .getfield 24, .iload_n 1] (pc' := 33) (L' := [some (.inr (11, 0)), some (.inl (.int a1)), some (.inl (.int a2)), none, none]) (st' := [.inl (.int a1), .inr (42, 0)]) (S' := S) ok_X11_run.1 (by decide +kernel) rfl rfl ?_
          obtain ⟨g13, h⟩ := ax_gd_e h
          refine ax_Tala4 (n := 5) ok_X11_run.1 (by decide +kernel) (by decide) rfl g13 ?_
          refine ax_Tgo [.astore_n 3, .aload_n 0, .getfield 73, .aload_n 0, .getfield 69] (pc' := 43) (L' := [some (.inr (11, 0)), some (.inl (.int a1)), some (.inl (.int a2)), some (.inr (0, (a1.toNatClampNeg))), none]) (st' := [.inr (9, 0), .inr (9, 1)]) (S' := S) ok_X11_run.1 (by decide +kernel) rfl rfl ?_
          obtain ⟨S14, hq15, h⟩ := ax_bd_e h
          refine ax_TVv (d := 5) (ka := 9) (i := 1) [.inr (9, 0)] [] lk_X11_278 (by decide +kernel) rfl (by decide) rfl (Nat.le_of_ble_eq_true rfl) (Nat.le_of_ble_eq_true rfl) ((t_X9_copyFrom hq15).up (by decide)) ?_
          refine ax_Tgo [.iconst 0, .istore 4] (pc' := 49) (L' := [some (.inr (11, 0)), some (.inl (.int a1)), some (.inl (.int a2)), some (.inr (0, (a1.toNatClampNeg))), some (.inl (.int (0 : Int32)))]) (st' := []) (S' := S14) ok_X11_run.1 (by decide +kernel) rfl rfl ?_
          refine ax_Tdrop [true, false, true, true, true] (L' := [some (.inr (11, 0)), none, some (.inl (.int a2)), some (.inr (0, (a1.toNatClampNeg))), some (.inl (.int (0 : Int32)))]) rfl ?_
          refine t_X11_run_L49 ?_ _ a2 (a1.toNatClampNeg) (0 : Int32) S14 _ _ h
          · intro x20 x21 x22 S53 r Z h
            refine ax_Tgo [.iload_n 2, .iconst 1] (pc' := 115) (L' := [some (.inr (11, 0)), none, some (.inl (.int x20)), some (.inr (0, x21)), some (.inl (.int x22))]) (st' := [.inl (.int (1 : Int32)), .inl (.int x20)]) (S' := S53) ok_X11_run.1 (by decide +kernel) rfl rfl ?_
            refine ax_Tic_ne (off := 19) (tgt := 134) (by decide +kernel) (by decide) (fun c54 => ?_) (fun c54 => ?_)
            · rw [if_neg c54] at h
              refine ax_Tgo [.iload 4, .aload_n 3] (pc' := 137) (L' := [some (.inr (11, 0)), none, some (.inl (.int x20)), some (.inr (0, x21)), some (.inl (.int x22))]) (st' := [.inr (0, x21), .inl (.int x22)]) (S' := S53) ok_X11_run.1 (by decide +kernel) rfl rfl ?_
              refine ax_TVi (d := 5) (ka := 0) (i := x21) [] [.inl (.int x22)] lk_X11_268 (by decide +kernel) rfl (by decide) rfl (Nat.le_of_ble_eq_true rfl) (Nat.le_of_ble_eq_true rfl) ((t_X0_steps rfl).up (by decide)) ?_
              refine ax_Tic_ne (off := 7) (tgt := 147) (by decide +kernel) (by decide) (fun c58 => ?_) (fun c58 => ?_)
              · rw [if_neg c58] at h
                refine ax_Tgo [.iload 4] (pc' := 149) (L' := [some (.inr (11, 0)), none, some (.inl (.int x20)), some (.inr (0, x21)), some (.inl (.int x22))]) (st' := [.inl (.int x22)]) (S' := S53) ok_X11_run.1 (by decide +kernel) rfl rfl ?_
                cases h
                exact ax_Treti (by decide +kernel) rfl rfl
              · rw [if_pos c58] at h
                refine ax_Tgo [.iconst (-1)] (pc' := 144) (L' := [some (.inr (11, 0)), none, some (.inl (.int x20)), some (.inr (0, x21)), some (.inl (.int x22))]) (st' := [.inl (.int (Int32.ofInt (-1)))]) (S' := S53) ok_X11_run.1 (by decide +kernel) rfl rfl ?_
                refine ax_Tgoto (off := 5) (tgt := 149) (by decide +kernel) (by decide) ?_
                cases h
                exact ax_Treti (by decide +kernel) rfl rfl
            · rw [if_pos c54] at h
              refine ax_Tgo [.aload_n 0, .getfield 73, .getfield 281, .aload_n 0, .getfield 69, .getfield 281, .isub] (pc' := 133) (L' := [some (.inr (11, 0)), none, some (.inl (.int x20)), some (.inr (0, x21)), some (.inl (.int x22))]) (st' := [.inl (.int ((ax_fi S53 9 1 5) - (ax_fi S53 9 0 5)))]) (S' := S53) ok_X11_run.1 (by decide +kernel) rfl rfl ?_
              cases h
              exact ax_Treti (by decide +kernel) rfl rfl
        · rw [if_neg c12] at h
          refine ax_Tgo [.ldc_w 271] (pc' := 27) (L' := [some (.inr (11, 0)), some (.inl (.int a1)), some (.inl (.int a2)), none, none]) (st' := [.inl (.int (-1000000 : Int32))]) (S' := S) ok_X11_run.1 (by decide +kernel) rfl rfl ?_
          cases h
          exact ax_Treti (by decide +kernel) rfl rfl
def f_X11_sing (S : AS) : Option (Int32 × AS) := ax_bu (f_X11_act (2 : Int32) (0 : Int32) S) (fun (r4 : Int32) (S1 : AS) => (if r4 = (0 : Int32) then some ((Int32.ofInt (-1)), S1) else some ((ax_fi S1 9 0 4), S1)))
set_option maxRecDepth 100000 in
theorem t_X11_sing {l : Launch} {S Z : AS} {r : Int32} (h : f_X11_sing S = some (r, Z)) : ax_M l 7 ma_X11_sing [.inr (11, 0)] S (some (.inl (.int r))) Z := by
  unfold f_X11_sing at h
  show ax_T l 7 ma_X11_sing (0, [some (.inr (11, 0))], [], S) (some (.inl (.int r))) Z
  refine ax_Tgo [.aload_n 0, .iconst 2, .iconst 0] (pc' := 3) (L' := [some (.inr (11, 0))]) (st' := [.inl (.int (0 : Int32)), .inl (.int (2 : Int32)), .inr (11, 0)]) (S' := S) ok_X11_sing.1 (by decide +kernel) rfl rfl ?_
  obtain ⟨r4, S1, hq2, h⟩ := ax_bu_e h
  refine ax_TVi (d := 6) (ka := 11) (i := 0) [.inl (.int (2 : Int32)), .inl (.int (0 : Int32))] [] lk_X11_209 (by decide +kernel) rfl (by decide) rfl (Nat.le_of_ble_eq_true rfl) (Nat.le_of_ble_eq_true rfl) ((t_X11_act hq2).up (by decide)) ?_
  refine ax_Tif_eq (off := 13) (tgt := 19) (by decide +kernel) (by decide) (fun c5 => ?_) (fun c5 => ?_)
  · rw [if_pos c5] at h
    refine ax_Tgo [.iconst (-1)] (pc' := 20) (L' := [some (.inr (11, 0))]) (st' := [.inl (.int (Int32.ofInt (-1)))]) (S' := S1) ok_X11_sing.1 (by decide +kernel) rfl rfl ?_
    cases h
    exact ax_Treti (by decide +kernel) rfl rfl
  · rw [if_neg c5] at h
    refine ax_Tgo [.aload_n 0, .getfield 69, .getfield 213] (pc' := 16) (L' := [some (.inr (11, 0))]) (st' := [.inl (.int (ax_fi S1 9 0 4))]) (S' := S1) ok_X11_sing.1 (by decide +kernel) rfl rfl ?_
    refine ax_Tgoto (off := 4) (tgt := 20) (by decide +kernel) (by decide) ?_
    cases h
    exact ax_Treti (by decide +kernel) rfl rfl

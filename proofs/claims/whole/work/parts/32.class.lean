/-! METHODS of the class as functions, by program -/
def f_X5_relationOf (a0 : Int32) (S : AS) : Option (Int32) := (if a0 = (61 : Int32) then some (6 : Int32) else (if a0 = (60 : Int32) then some (7 : Int32) else (if a0 = (62 : Int32) then some (8 : Int32) else some (Int32.ofInt (-1)))))
set_option maxRecDepth 100000 in
theorem t_X5_relationOf {l : Launch} {a0 : Int32} {S : AS} {r : Int32} (h : f_X5_relationOf a0 S = some r) : ax_M l 0 ma_X5_relationOf [.inl (.int a0)] S (some (.inl (.int r))) S := by
  unfold f_X5_relationOf at h
  show ax_T l 0 ma_X5_relationOf (0, [some (.inl (.int a0))], [], S) (some (.inl (.int r))) S
  refine ax_Tgo [.iload_n 0, .bipush 61] (pc' := 3) (L' := [some (.inl (.int a0))]) (st' := [.inl (.int (61 : Int32)), .inl (.int a0)]) (S' := S) ok_X5_relationOf.1 (by decide +kernel) rfl rfl ?_
  refine ax_Tic_ne (off := 8) (tgt := 11) (by decide +kernel) (by decide) (fun c1 => ?_) (fun c1 => ?_)
  · rw [if_neg c1] at h
    refine ax_Tgo [.iload_n 0, .bipush 60] (pc' := 14) (L' := [some (.inl (.int a0))]) (st' := [.inl (.int (60 : Int32)), .inl (.int a0)]) (S' := S) ok_X5_relationOf.1 (by decide +kernel) rfl rfl ?_
    refine ax_Tic_ne (off := 8) (tgt := 22) (by decide +kernel) (by decide) (fun c2 => ?_) (fun c2 => ?_)
    · rw [if_neg c2] at h
      refine ax_Tgo [.iload_n 0, .bipush 62] (pc' := 25) (L' := [some (.inl (.int a0))]) (st' := [.inl (.int (62 : Int32)), .inl (.int a0)]) (S' := S) ok_X5_relationOf.1 (by decide +kernel) rfl rfl ?_
      refine ax_Tic_ne (off := 8) (tgt := 33) (by decide +kernel) (by decide) (fun c3 => ?_) (fun c3 => ?_)
      · rw [if_neg c3] at h
        refine ax_Tgo [.iconst (-1)] (pc' := 34) (L' := [some (.inl (.int a0))]) (st' := [.inl (.int (Int32.ofInt (-1)))]) (S' := S) ok_X5_relationOf.1 (by decide +kernel) rfl rfl ?_
        cases h
        exact ax_Treti (by decide +kernel) rfl rfl
      · rw [if_pos c3] at h
        refine ax_Tgo [.bipush 8] (pc' := 30) (L' := [some (.inl (.int a0))]) (st' := [.inl (.int (8 : Int32))]) (S' := S) ok_X5_relationOf.1 (by decide +kernel) rfl rfl ?_
        refine ax_Tgoto (off := 4) (tgt := 34) (by decide +kernel) (by decide) ?_
        cases h
        exact ax_Treti (by decide +kernel) rfl rfl
    · rw [if_pos c2] at h
      refine ax_Tgo [.bipush 7] (pc' := 19) (L' := [some (.inl (.int a0))]) (st' := [.inl (.int (7 : Int32))]) (S' := S) ok_X5_relationOf.1 (by decide +kernel) rfl rfl ?_
      refine ax_Tgoto (off := 15) (tgt := 34) (by decide +kernel) (by decide) ?_
      cases h
      exact ax_Treti (by decide +kernel) rfl rfl
  · rw [if_pos c1] at h
    refine ax_Tgo [.bipush 6] (pc' := 8) (L' := [some (.inl (.int a0))]) (st' := [.inl (.int (6 : Int32))]) (S' := S) ok_X5_relationOf.1 (by decide +kernel) rfl rfl ?_
    refine ax_Tgoto (off := 26) (tgt := 34) (by decide +kernel) (by decide) ?_
    cases h
    exact ax_Treti (by decide +kernel) rfl rfl
def f_J0_isLatin1_aae02_64x3 (S : AS) : Option (Int32) := some (1 : Int32)
set_option maxRecDepth 100000 in
theorem t_J0_isLatin1_aae02_64x3 {l : Launch} {S : AS} {r : Int32} (h : f_J0_isLatin1_aae02_64x3 S = some r) : ax_M l 0 ma_J0_isLatin1_aae02 [.inr (64, 3)] S (some (.inl (.int r))) S := by
  unfold f_J0_isLatin1_aae02_64x3 at h
  show ax_T l 0 ma_J0_isLatin1_aae02 (0, [some (.inr (64, 3))], [], S) (some (.inl (.int r))) S
  refine ax_Tgo [.getstatic 38] (pc' := 3) (L' := [some (.inr (64, 3))]) (st' := [.inl (.int (1 : Int32))]) (S' := S) ok_J0_isLatin1_aae02.1 (by decide +kernel) rfl rfl ?_
  refine ax_Tif_eq (off := 14) (tgt := 17) (by decide +kernel) (by decide) (fun c1 => absurd c1 (by decide)) (fun _ => ?_)
  refine ax_Tgo [.aload_n 0, .getfield 15] (pc' := 10) (L' := [some (.inr (64, 3))]) (st' := [.inl (.int (0 : Int32))]) (S' := S) ok_J0_isLatin1_aae02.1 (by decide +kernel) rfl rfl ?_
  refine ax_Tif_ne (off := 7) (tgt := 17) (by decide +kernel) (by decide) (fun c2 => absurd rfl c2) (fun _ => ?_)
  refine ax_Tgo [.iconst 1] (pc' := 14) (L' := [some (.inr (64, 3))]) (st' := [.inl (.int (1 : Int32))]) (S' := S) ok_J0_isLatin1_aae02.1 (by decide +kernel) rfl rfl ?_
  refine ax_Tgoto (off := 4) (tgt := 18) (by decide +kernel) (by decide) ?_
  cases h
  exact ax_Treti (by decide +kernel) rfl rfl
def f_J0_coder_7d493_64x3 (S : AS) : Option (Int32) := some (0 : Int32)
set_option maxRecDepth 100000 in
theorem t_J0_coder_7d493_64x3 {l : Launch} {S : AS} {r : Int32} (h : f_J0_coder_7d493_64x3 S = some r) : ax_M l 0 ma_J0_coder_7d493 [.inr (64, 3)] S (some (.inl (.int r))) S := by
  unfold f_J0_coder_7d493_64x3 at h
  show ax_T l 0 ma_J0_coder_7d493 (0, [some (.inr (64, 3))], [], S) (some (.inl (.int r))) S
  refine ax_Tgo [.getstatic 38] (pc' := 3) (L' := [some (.inr (64, 3))]) (st' := [.inl (.int (1 : Int32))]) (S' := S) ok_J0_coder_7d493.1 (by decide +kernel) rfl rfl ?_
  refine ax_Tif_eq (off := 10) (tgt := 13) (by decide +kernel) (by decide) (fun c1 => absurd c1 (by decide)) (fun _ => ?_)
  refine ax_Tgo [.aload_n 0, .getfield 15] (pc' := 10) (L' := [some (.inr (64, 3))]) (st' := [.inl (.int (0 : Int32))]) (S' := S) ok_J0_coder_7d493.1 (by decide +kernel) rfl rfl ?_
  refine ax_Tgoto (off := 4) (tgt := 14) (by decide +kernel) (by decide) ?_
  cases h
  exact ax_Treti (by decide +kernel) rfl rfl
def f_J0_length_8abf5_64x3 (S : AS) : Option (Int32) := some ((Int32.ofNat 6) >>> ((0 : Int32) &&& 31))
set_option maxRecDepth 100000 in
theorem t_J0_length_8abf5_64x3 {l : Launch} {S : AS} {r : Int32} (h : f_J0_length_8abf5_64x3 S = some r) : ax_M l 1 ma_J0_length_8abf5 [.inr (64, 3)] S (some (.inl (.int r))) S := by
  unfold f_J0_length_8abf5_64x3 at h
  show ax_T l 1 ma_J0_length_8abf5 (0, [some (.inr (64, 3))], [], S) (some (.inl (.int r))) S
  refine ax_Tgo [.aload_n 0, .getfield 9, .arraylength, .aload_n 0] (pc' := 6) (L' := [some (.inr (64, 3))]) (st' := [.inr (64, 3), .inl (.int (Int32.ofNat 6))]) (S' := S) ok_J0_length_8abf5.1 (by decide +kernel) rfl rfl ?_
  refine ax_TVi (d := 0) (ka := 64) (i := 3) [] [.inl (.int (Int32.ofNat 6))] lk_J0_335 (by decide +kernel) rfl (by decide) rfl (Nat.le_of_ble_eq_true rfl) (Nat.le_of_ble_eq_true rfl) ((t_J0_coder_7d493_64x3 rfl).up (by decide)) ?_
  refine ax_Tgo [.ishr] (pc' := 10) (L' := [some (.inr (64, 3))]) (st' := [.inl (.int ((Int32.ofNat 6) >>> ((0 : Int32) &&& 31)))]) (S' := S) ok_J0_length_8abf5.1 (by decide +kernel) rfl rfl ?_
  cases h
  exact ax_Treti (by decide +kernel) rfl rfl
def f_J0_indexOf_7cf53_64x3 (a1 : Int32) (a2 : Int32) (S : AS) : Option (Int32) := (f_J1_indexOf_4cfef_65 3 a1 a2 ((Int32.ofNat 6) >>> ((0 : Int32) &&& 31)) S).bind (fun (r11 : Int32) => some r11)
set_option maxRecDepth 100000 in
theorem t_J0_indexOf_7cf53_64x3 {l : Launch} {a1 : Int32} {a2 : Int32} {S : AS} {r : Int32} (h : f_J0_indexOf_7cf53_64x3 a1 a2 S = some r) : ax_M l 2 ma_J0_indexOf_7cf53 [.inr (64, 3), .inl (.int a1), .inl (.int a2)] S (some (.inl (.int r))) S := by
  unfold f_J0_indexOf_7cf53_64x3 at h
  show ax_T l 2 ma_J0_indexOf_7cf53 (0, [some (.inr (64, 3)), some (.inl (.int a1)), some (.inl (.int a2))], [], S) (some (.inl (.int r))) S
  refine ax_Tgo [.aload_n 0] (pc' := 1) (L' := [some (.inr (64, 3)), some (.inl (.int a1)), some (.inl (.int a2))]) (st' := [.inr (64, 3)]) (S' := S) ok_J0_indexOf_7cf53.1 (by decide +kernel) rfl rfl ?_
  refine ax_TVi (d := 1) (ka := 64) (i := 3) [] [] lk_J0_492 (by decide +kernel) rfl (by decide) rfl (Nat.le_of_ble_eq_true rfl) (Nat.le_of_ble_eq_true rfl) ((t_J0_isLatin1_aae02_64x3 rfl).up (by decide)) ?_
  refine ax_Tif_eq (off := 19) (tgt := 23) (by decide +kernel) (by decide) (fun c4 => absurd c4 (by decide)) (fun _ => ?_)
  refine ax_Tgo [.aload_n 0, .getfield 9, .iload_n 1, .iload_n 2, .aload_n 0] (pc' := 14) (L' := [some (.inr (64, 3)), some (.inl (.int a1)), some (.inl (.int a2))]) (st' := [.inr (64, 3), .inl (.int a2), .inl (.int a1), .inr (65, 3)]) (S' := S) ok_J0_indexOf_7cf53.1 (by decide +kernel) rfl rfl ?_
  refine ax_TVi (d := 1) (ka := 64) (i := 3) [] [.inl (.int a2), .inl (.int a1), .inr (65, 3)] lk_J0_505 (by decide +kernel) rfl (by decide) rfl (Nat.le_of_ble_eq_true rfl) (Nat.le_of_ble_eq_true rfl) ((t_J0_length_8abf5_64x3 rfl).up (by decide)) ?_
  obtain ⟨r11, hq9, h⟩ := ax_bd_e h
  refine ax_TSi (d := 1) [.inr (65, 3), .inl (.int a1), .inl (.int a2), .inl (.int ((Int32.ofNat 6) >>> ((0 : Int32) &&& 31)))] [] lk_J0_637 (by decide +kernel) rfl rfl (Nat.le_of_ble_eq_true rfl) (Nat.le_of_ble_eq_true rfl) ((t_J1_indexOf_4cfef_65 hq9).up (by decide)) ?_
  refine ax_Tgoto (off := 16) (tgt := 36) (by decide +kernel) (by decide) ?_
  cases h
  exact ax_Treti (by decide +kernel) rfl rfl
def f_J0_indexOf_0f7a4_64x3 (a1 : Int32) (S : AS) : Option (Int32) := (f_J0_indexOf_7cf53_64x3 a1 (0 : Int32) S).bind (fun (r4 : Int32) => some r4)
set_option maxRecDepth 100000 in
theorem t_J0_indexOf_0f7a4_64x3 {l : Launch} {a1 : Int32} {S : AS} {r : Int32} (h : f_J0_indexOf_0f7a4_64x3 a1 S = some r) : ax_M l 3 ma_J0_indexOf_0f7a4 [.inr (64, 3), .inl (.int a1)] S (some (.inl (.int r))) S := by
  unfold f_J0_indexOf_0f7a4_64x3 at h
  show ax_T l 3 ma_J0_indexOf_0f7a4 (0, [some (.inr (64, 3)), some (.inl (.int a1))], [], S) (some (.inl (.int r))) S
  refine ax_Tgo [.aload_n 0, .iload_n 1, .iconst 0] (pc' := 3) (L' := [some (.inr (64, 3)), some (.inl (.int a1))]) (st' := [.inl (.int (0 : Int32)), .inl (.int a1), .inr (64, 3)]) (S' := S) ok_J0_indexOf_0f7a4.1 (by decide +kernel) rfl rfl ?_
  obtain ⟨r4, hq2, h⟩ := ax_bd_e h
  refine ax_TVi (d := 2) (ka := 64) (i := 3) [.inl (.int a1), .inl (.int (0 : Int32))] [] lk_J0_633 (by decide +kernel) rfl (by decide) rfl (Nat.le_of_ble_eq_true rfl) (Nat.le_of_ble_eq_true rfl) ((t_J0_indexOf_7cf53_64x3 hq2).up (by decide)) ?_
  cases h
  exact ax_Treti (by decide +kernel) rfl rfl
def f_X5_readCondition_L10 (rec : Nat → Nat → Int32 → Int32 → AS → Option (AS)) (K51 : AS → Option (AS)) : Nat → Nat → Int32 → Int32 → AS → Option (AS)
  | 0, _, _, _, _ => none
  | n + 1, y4, x5, x6, S7 => (if (240 : Int32) ≤ x6 then K51 S7 else ax_bu (f_X10_peek S7) (fun (r12 : Int32) (S9 : AS) => (if r12 = (124 : Int32) then (f_X10_pass S9).bind (fun (S14 : AS) => (rec 1 y4 x5 (0 : Int32) S14).bind (fun (S17 : AS) => (f_X5_emit y4 (10 : Int32) (0 : Int32) S17).bind (fun (S20 : AS) => ax_let (x6 + (1 : Int32)) (fun (v23 : Int32) => f_X5_readCondition_L10 rec K51 n y4 x5 v23 S20)))) else K51 S9)))
def b_X5_readCondition (rec : Nat → Nat → Int32 → Int32 → AS → Option (AS)) (i0 : Nat) (a2 : Int32) (a3 : Int32) (S : AS) : Option (AS) := (rec 1 i0 a2 a3 S).bind (fun (S1 : AS) => f_X5_readCondition_L10 rec (fun (S24 : AS) => some S24) ax_F i0 a2 (0 : Int32) S1)
def f_X5_readTruth_L10 (rec : Nat → Nat → Int32 → Int32 → AS → Option (AS)) (K51 : AS → Option (AS)) : Nat → Nat → Int32 → Int32 → AS → Option (AS)
  | 0, _, _, _, _ => none
  | n + 1, y4, x5, x6, S7 => (if (240 : Int32) ≤ x6 then K51 S7 else ax_bu (f_X10_peek S7) (fun (r12 : Int32) (S9 : AS) => (if r12 = (38 : Int32) then (f_X10_pass S9).bind (fun (S14 : AS) => (rec 2 y4 x5 (0 : Int32) S14).bind (fun (S17 : AS) => (f_X5_emit y4 (9 : Int32) (0 : Int32) S17).bind (fun (S20 : AS) => ax_let (x6 + (1 : Int32)) (fun (v23 : Int32) => f_X5_readTruth_L10 rec K51 n y4 x5 v23 S20)))) else K51 S9)))
def b_X5_readTruth (rec : Nat → Nat → Int32 → Int32 → AS → Option (AS)) (i0 : Nat) (a2 : Int32) (a3 : Int32) (S : AS) : Option (AS) := (rec 2 i0 a2 a3 S).bind (fun (S1 : AS) => f_X5_readTruth_L10 rec (fun (S24 : AS) => some S24) ax_F i0 a2 (0 : Int32) S1)
def b_X5_readUnit (rec : Nat → Nat → Int32 → Int32 → AS → Option (AS)) (i0 : Nat) (a2 : Int32) (a3 : Int32) (S : AS) : Option (AS) := ax_bu (f_X10_peek S) (fun (r4 : Int32) (S1 : AS) => ax_let (fun (x5 : Int32) (S6 : AS) => (if x5 = (0 : Int32) then (if x5 = (0 : Int32) then (if x5 = (0 : Int32) then ax_let (fun (S11 : AS) => ax_bu (f_X10_peek S11) (fun (r16 : Int32) (S13 : AS) => (f_X5_relationOf r16 S13).bind (fun (r20 : Int32) => (if r20 = (Int32.ofInt (-1)) then (f_X10_fail S13).bind (fun (S31 : AS) => some S31) else (f_X10_pass S13).bind (fun (S22 : AS) => (rec 3 i0 a2 (0 : Int32) S22).bind (fun (S25 : AS) => (f_X5_emit i0 r20 (0 : Int32) S25).bind (fun (S28 : AS) => some S28))))))) (fun J12 => (if a3 = (0 : Int32) then (rec 3 i0 a2 (0 : Int32) S6).bind (fun (S35 : AS) => J12 S35) else J12 S6)) else (f_X10_pass S6).bind (fun (S38 : AS) => (rec 0 i0 (a2 + (1 : Int32)) (0 : Int32) S38).bind (fun (S41 : AS) => (f_X10_demand (41 : Int32) S41).bind (fun (S44 : AS) => some S44)))) else (if r4 = (33 : Int32) then (f_X10_pass S6).bind (fun (S85 : AS) => (rec 2 i0 (a2 + (1 : Int32)) (0 : Int32) S85).bind (fun (S88 : AS) => (f_X5_emit i0 (11 : Int32) (0 : Int32) S88).bind (fun (S91 : AS) => some S91))) else (if x5 = (0 : Int32) then ax_let (fun (S49 : AS) => ax_bu (f_X10_peek S49) (fun (r54 : Int32) (S51 : AS) => (f_X5_relationOf r54 S51).bind (fun (r58 : Int32) => (if r58 = (Int32.ofInt (-1)) then (f_X10_fail S51).bind (fun (S69 : AS) => some S69) else (f_X10_pass S51).bind (fun (S60 : AS) => (rec 3 i0 a2 (0 : Int32) S60).bind (fun (S63 : AS) => (f_X5_emit i0 r58 (0 : Int32) S63).bind (fun (S66 : AS) => some S66))))))) (fun J50 => (if a3 = (0 : Int32) then (rec 3 i0 a2 (0 : Int32) S6).bind (fun (S73 : AS) => J50 S73) else J50 S6)) else (f_X10_pass S6).bind (fun (S76 : AS) => (rec 0 i0 (a2 + (1 : Int32)) (0 : Int32) S76).bind (fun (S79 : AS) => (f_X10_demand (41 : Int32) S79).bind (fun (S82 : AS) => some S82)))))) else (if a2 < (6 : Int32) then (if x5 = (0 : Int32) then (if x5 = (0 : Int32) then ax_let (fun (S97 : AS) => ax_bu (f_X10_peek S97) (fun (r102 : Int32) (S99 : AS) => (f_X5_relationOf r102 S99).bind (fun (r106 : Int32) => (if r106 = (Int32.ofInt (-1)) then (f_X10_fail S99).bind (fun (S117 : AS) => some S117) else (f_X10_pass S99).bind (fun (S108 : AS) => (rec 3 i0 a2 (0 : Int32) S108).bind (fun (S111 : AS) => (f_X5_emit i0 r106 (0 : Int32) S111).bind (fun (S114 : AS) => some S114))))))) (fun J98 => (if a3 = (0 : Int32) then (rec 3 i0 a2 (0 : Int32) S6).bind (fun (S121 : AS) => J98 S121) else J98 S6)) else (f_X10_pass S6).bind (fun (S124 : AS) => (rec 0 i0 (a2 + (1 : Int32)) (0 : Int32) S124).bind (fun (S127 : AS) => (f_X10_demand (41 : Int32) S127).bind (fun (S130 : AS) => some S130)))) else (if r4 = (33 : Int32) then (f_X10_pass S6).bind (fun (S171 : AS) => (rec 2 i0 (a2 + (1 : Int32)) (0 : Int32) S171).bind (fun (S174 : AS) => (f_X5_emit i0 (11 : Int32) (0 : Int32) S174).bind (fun (S177 : AS) => some S177))) else (if x5 = (0 : Int32) then ax_let (fun (S135 : AS) => ax_bu (f_X10_peek S135) (fun (r140 : Int32) (S137 : AS) => (f_X5_relationOf r140 S137).bind (fun (r144 : Int32) => (if r144 = (Int32.ofInt (-1)) then (f_X10_fail S137).bind (fun (S155 : AS) => some S155) else (f_X10_pass S137).bind (fun (S146 : AS) => (rec 3 i0 a2 (0 : Int32) S146).bind (fun (S149 : AS) => (f_X5_emit i0 r144 (0 : Int32) S149).bind (fun (S152 : AS) => some S152))))))) (fun J136 => (if a3 = (0 : Int32) then (rec 3 i0 a2 (0 : Int32) S6).bind (fun (S159 : AS) => J136 S159) else J136 S6)) else (f_X10_pass S6).bind (fun (S162 : AS) => (rec 0 i0 (a2 + (1 : Int32)) (0 : Int32) S162).bind (fun (S165 : AS) => (f_X10_demand (41 : Int32) S165).bind (fun (S168 : AS) => some S168)))))) else (f_X10_fail S6).bind (fun (S180 : AS) => some S180)))) (fun J7 => (if a3 = (0 : Int32) then (if r4 = (33 : Int32) then J7 (1 : Int32) S1 else (if r4 = (40 : Int32) then J7 (1 : Int32) S1 else J7 (0 : Int32) S1)) else J7 (0 : Int32) S1)))
def f_X5_readSum_L14 (rec : Nat → Nat → Int32 → Int32 → AS → Option (AS)) (K71 : AS → Option (AS)) : Nat → Nat → Int32 → Int32 → Int32 → AS → Option (AS)
  | 0, _, _, _, _, _ => none
  | n + 1, y8, x9, x10, x11, S12 => (if (240 : Int32) ≤ x11 then K71 S12 else (if x10 = (43 : Int32) then (f_X10_pass S12).bind (fun (S15 : AS) => (rec 4 y8 x9 (0 : Int32) S15).bind (fun (S18 : AS) => (if x10 = (43 : Int32) then (f_X5_emit y8 (2 : Int32) (0 : Int32) S18).bind (fun (S30 : AS) => ax_bu (f_X10_peek S30) (fun (r36 : Int32) (S33 : AS) => ax_let (x11 + (1 : Int32)) (fun (v37 : Int32) => f_X5_readSum_L14 rec K71 n y8 x9 r36 v37 S33))) else (f_X5_emit y8 (3 : Int32) (0 : Int32) S18).bind (fun (S22 : AS) => ax_bu (f_X10_peek S22) (fun (r28 : Int32) (S25 : AS) => ax_let (x11 + (1 : Int32)) (fun (v29 : Int32) => f_X5_readSum_L14 rec K71 n y8 x9 r28 v29 S25)))))) else (if x10 = (45 : Int32) then (f_X10_pass S12).bind (fun (S39 : AS) => (rec 4 y8 x9 (0 : Int32) S39).bind (fun (S42 : AS) => (if x10 = (43 : Int32) then (f_X5_emit y8 (2 : Int32) (0 : Int32) S42).bind (fun (S54 : AS) => ax_bu (f_X10_peek S54) (fun (r60 : Int32) (S57 : AS) => ax_let (x11 + (1 : Int32)) (fun (v61 : Int32) => f_X5_readSum_L14 rec K71 n y8 x9 r60 v61 S57))) else (f_X5_emit y8 (3 : Int32) (0 : Int32) S42).bind (fun (S46 : AS) => ax_bu (f_X10_peek S46) (fun (r52 : Int32) (S49 : AS) => ax_let (x11 + (1 : Int32)) (fun (v53 : Int32) => f_X5_readSum_L14 rec K71 n y8 x9 r52 v53 S49)))))) else K71 S12)))
def b_X5_readSum (rec : Nat → Nat → Int32 → Int32 → AS → Option (AS)) (i0 : Nat) (a2 : Int32) (S : AS) : Option (AS) := (rec 4 i0 a2 (0 : Int32) S).bind (fun (S1 : AS) => ax_bu (f_X10_peek S1) (fun (r7 : Int32) (S4 : AS) => f_X5_readSum_L14 rec (fun (S62 : AS) => some S62) ax_F i0 a2 r7 (0 : Int32) S4))
def f_X5_readTerm_L14 (rec : Nat → Nat → Int32 → Int32 → AS → Option (AS)) (K71 : AS → Option (AS)) : Nat → Nat → Int32 → Int32 → Int32 → AS → Option (AS)
  | 0, _, _, _, _, _ => none
  | n + 1, y8, x9, x10, x11, S12 => (if (240 : Int32) ≤ x11 then K71 S12 else (if x10 = (42 : Int32) then (f_X10_pass S12).bind (fun (S15 : AS) => (rec 5 y8 x9 (0 : Int32) S15).bind (fun (S18 : AS) => (if x10 = (42 : Int32) then (f_X5_emit y8 (4 : Int32) (0 : Int32) S18).bind (fun (S30 : AS) => ax_bu (f_X10_peek S30) (fun (r36 : Int32) (S33 : AS) => ax_let (x11 + (1 : Int32)) (fun (v37 : Int32) => f_X5_readTerm_L14 rec K71 n y8 x9 r36 v37 S33))) else (f_X5_emit y8 (5 : Int32) (0 : Int32) S18).bind (fun (S22 : AS) => ax_bu (f_X10_peek S22) (fun (r28 : Int32) (S25 : AS) => ax_let (x11 + (1 : Int32)) (fun (v29 : Int32) => f_X5_readTerm_L14 rec K71 n y8 x9 r28 v29 S25)))))) else (if x10 = (47 : Int32) then (f_X10_pass S12).bind (fun (S39 : AS) => (rec 5 y8 x9 (0 : Int32) S39).bind (fun (S42 : AS) => (if x10 = (42 : Int32) then (f_X5_emit y8 (4 : Int32) (0 : Int32) S42).bind (fun (S54 : AS) => ax_bu (f_X10_peek S54) (fun (r60 : Int32) (S57 : AS) => ax_let (x11 + (1 : Int32)) (fun (v61 : Int32) => f_X5_readTerm_L14 rec K71 n y8 x9 r60 v61 S57))) else (f_X5_emit y8 (5 : Int32) (0 : Int32) S42).bind (fun (S46 : AS) => ax_bu (f_X10_peek S46) (fun (r52 : Int32) (S49 : AS) => ax_let (x11 + (1 : Int32)) (fun (v53 : Int32) => f_X5_readTerm_L14 rec K71 n y8 x9 r52 v53 S49)))))) else K71 S12)))
def b_X5_readTerm (rec : Nat → Nat → Int32 → Int32 → AS → Option (AS)) (i0 : Nat) (a2 : Int32) (S : AS) : Option (AS) := (rec 5 i0 a2 (0 : Int32) S).bind (fun (S1 : AS) => ax_bu (f_X10_peek S1) (fun (r7 : Int32) (S4 : AS) => f_X5_readTerm_L14 rec (fun (S62 : AS) => some S62) ax_F i0 a2 r7 (0 : Int32) S4))
def b_X5_readAtom (rec : Nat → Nat → Int32 → Int32 → AS → Option (AS)) (i0 : Nat) (a2 : Int32) (S : AS) : Option (AS) := ax_bu (f_X10_peek S) (fun (r4 : Int32) (S1 : AS) => (f_J0_indexOf_0f7a4_64x3 (r4.toUInt32 % 65536).toInt32 S1).bind (fun (r8 : Int32) => (if r8 < (0 : Int32) then (f_X10_isDigit r4 S1).bind (fun (r13 : Int32) => (if r13 = (0 : Int32) then (if r4 = (91 : Int32) then (if (6 : Int32) ≤ a2 then (f_X10_fail S1).bind (fun (S20 : AS) => some S20) else (f_X10_pass S1).bind (fun (S23 : AS) => (rec 3 i0 (a2 + (1 : Int32)) (0 : Int32) S23).bind (fun (S26 : AS) => (f_X10_demand (93 : Int32) S26).bind (fun (S29 : AS) => some S29)))) else (f_X10_fail S1).bind (fun (S16 : AS) => some S16)) else ax_bu (f_X10_number (4 : Int32) S1) (fun (r35 : Int32) (S32 : AS) => (f_X5_emit i0 (0 : Int32) r35 S32).bind (fun (S36 : AS) => some S36)))) else (f_X10_pass S1).bind (fun (S39 : AS) => (f_X5_emit i0 (1 : Int32) r8 S39).bind (fun (S42 : AS) => some S42)))))
def g_Law : Nat → Nat → Nat → Int32 → Int32 → AS → Option (AS)
  | 0, _, _, _, _, _ => none
  | n + 1, 0, i0, b0, b1, S => b_X5_readCondition (g_Law n) i0 b0 b1 S
  | n + 1, 1, i0, b0, b1, S => b_X5_readTruth (g_Law n) i0 b0 b1 S
  | n + 1, 2, i0, b0, b1, S => b_X5_readUnit (g_Law n) i0 b0 b1 S
  | n + 1, 3, i0, b0, b1, S => b_X5_readSum (g_Law n) i0 b0 S
  | n + 1, 4, i0, b0, b1, S => b_X5_readTerm (g_Law n) i0 b0 S
  | n + 1, 5, i0, b0, b1, S => b_X5_readAtom (g_Law n) i0 b0 S
  | _ + 1, _ + 6, _, _, _, _ => none
set_option maxRecDepth 100000 in
theorem t_X5_readCondition_L10 {l : Launch} {d : Nat} (hd : 4 ≤ d) {rec : Nat → Nat → Int32 → Int32 → AS → Option (AS)} (hrec_0 : ∀ {i0 : Nat} {a2 : Int32} {a3 : Int32} {S Z : AS}, rec 0 i0 a2 a3 S = some Z → ax_M l d ma_X5_readCondition [.inr (5, i0), .inr (10, 0), .inl (.int a2), .inl (.int a3)] S none Z) (hrec_1 : ∀ {i0 : Nat} {a2 : Int32} {a3 : Int32} {S Z : AS}, rec 1 i0 a2 a3 S = some Z → ax_M l d ma_X5_readTruth [.inr (5, i0), .inr (10, 0), .inl (.int a2), .inl (.int a3)] S none Z) (hrec_2 : ∀ {i0 : Nat} {a2 : Int32} {a3 : Int32} {S Z : AS}, rec 2 i0 a2 a3 S = some Z → ax_M l d ma_X5_readUnit [.inr (5, i0), .inr (10, 0), .inl (.int a2), .inl (.int a3)] S none Z) (hrec_3 : ∀ {i0 : Nat} {a2 : Int32} {S Z : AS}, rec 3 i0 a2 (0 : Int32) S = some Z → ax_M l d ma_X5_readSum [.inr (5, i0), .inr (10, 0), .inl (.int a2)] S none Z) (hrec_4 : ∀ {i0 : Nat} {a2 : Int32} {S Z : AS}, rec 4 i0 a2 (0 : Int32) S = some Z → ax_M l d ma_X5_readTerm [.inr (5, i0), .inr (10, 0), .inl (.int a2)] S none Z) (hrec_5 : ∀ {i0 : Nat} {a2 : Int32} {S Z : AS}, rec 5 i0 a2 (0 : Int32) S = some Z → ax_M l d ma_X5_readAtom [.inr (5, i0), .inr (10, 0), .inl (.int a2)] S none Z) {K51 : AS → Option (AS)} (hK51 : ∀ (S : AS) Z, K51 S = some Z → ax_T l (d + 1) ma_X5_readCondition (51, [none, none, none, none, none], [], S) none Z) : ∀ (n : Nat) (y4 : Nat) (x5 : Int32) (x6 : Int32) (S7 : AS) Z, f_X5_readCondition_L10 rec K51 n y4 x5 x6 S7 = some Z → ax_T l (d + 1) ma_X5_readCondition (10, [some (.inr (5, y4)), some (.inr (10, 0)), some (.inl (.int x5)), none, some (.inl (.int x6))], [], S7) none Z := by
  intro n
  induction n with
  | zero =>
    intro y4 x5 x6 S7 Z h
    cases h
  | succ n ih =>
    intro y4 x5 x6 S7 Z h
    unfold f_X5_readCondition_L10 at h
    refine ax_Tgo [.iload 4, .sipush 240] (pc' := 15) (L' := [some (.inr (5, y4)), some (.inr (10, 0)), some (.inl (.int x5)), none, some (.inl (.int x6))]) (st' := [.inl (.int (240 : Int32)), .inl (.int x6)]) (S' := S7) ok_X5_readCondition.1 (by decide +kernel) rfl rfl ?_
    refine ax_Tic_ge (off := 36) (tgt := 51) (by decide +kernel) (by decide) (fun c8 => ?_) (fun c8 => ?_)
    · rw [if_pos c8] at h
      refine ax_Tdrop [false, false, false, true, false] (L' := [none, none, none, none, none]) rfl ?_
      exact hK51 S7 _ h
    · rw [if_neg c8] at h
      refine ax_Tgo [.aload_n 1] (pc' := 19) (L' := [some (.inr (5, y4)), some (.inr (10, 0)), some (.inl (.int x5)), none, some (.inl (.int x6))]) (st' := [.inr (10, 0)]) (S' := S7) ok_X5_readCondition.1 (by decide +kernel) rfl rfl ?_
      obtain ⟨r12, S9, hq10, h⟩ := ax_bu_e h
      refine ax_TVi (d := d) (ka := 10) (i := 0) [] [] lk_X5_46 (by decide +kernel) rfl (by decide) rfl (Nat.le_of_ble_eq_true rfl) (Nat.le_of_ble_eq_true rfl) ((t_X10_peek hq10).up (by omega)) ?_
      refine ax_Tgo [.bipush 124] (pc' := 24) (L' := [some (.inr (5, y4)), some (.inr (10, 0)), some (.inl (.int x5)), none, some (.inl (.int x6))]) (st' := [.inl (.int (124 : Int32)), .inl (.int r12)]) (S' := S9) ok_X5_readCondition.1 (by decide +kernel) rfl rfl ?_
      refine ax_Tic_ne (off := 27) (tgt := 51) (by decide +kernel) (by decide) (fun c13 => ?_) (fun c13 => ?_)
      · rw [if_neg c13] at h
        refine ax_Tdrop [false, false, false, true, false] (L' := [none, none, none, none, none]) rfl ?_
        exact hK51 S9 _ h
      · rw [if_pos c13] at h
        refine ax_Tgo [.aload_n 1] (pc' := 28) (L' := [some (.inr (5, y4)), some (.inr (10, 0)), some (.inl (.int x5)), none, some (.inl (.int x6))]) (st' := [.inr (10, 0)]) (S' := S9) ok_X5_readCondition.1 (by decide +kernel) rfl rfl ?_
        obtain ⟨S14, hq15, h⟩ := ax_bd_e h
        refine ax_TVv (d := d) (ka := 10) (i := 0) [] [] lk_X5_68 (by decide +kernel) rfl (by decide) rfl (Nat.le_of_ble_eq_true rfl) (Nat.le_of_ble_eq_true rfl) ((t_X10_pass hq15).up (by omega)) ?_
        refine ax_Tgo [.aload_n 0, .aload_n 1, .iload_n 2, .iconst 0] (pc' := 35) (L' := [some (.inr (5, y4)), some (.inr (10, 0)), some (.inl (.int x5)), none, some (.inl (.int x6))]) (st' := [.inl (.int (0 : Int32)), .inl (.int x5), .inr (10, 0), .inr (5, y4)]) (S' := S14) ok_X5_readCondition.1 (by decide +kernel) rfl rfl ?_
        obtain ⟨S17, hq18, h⟩ := ax_bd_e h
        refine ax_TVv (d := d) (ka := 5) (i := y4) [.inr (10, 0), .inl (.int x5), .inl (.int (0 : Int32))] [] lk_X5_65 (by decide +kernel) rfl (by decide) rfl (Nat.le_of_ble_eq_true rfl) (Nat.le_of_ble_eq_true rfl) (hrec_1 hq18) ?_
        refine ax_Tgo [.aload_n 0, .bipush 10, .iconst 0] (pc' := 42) (L' := [some (.inr (5, y4)), some (.inr (10, 0)), some (.inl (.int x5)), none, some (.inl (.int x6))]) (st' := [.inl (.int (0 : Int32)), .inl (.int (10 : Int32)), .inr (5, y4)]) (S' := S17) ok_X5_readCondition.1 (by decide +kernel) rfl rfl ?_
        obtain ⟨S20, hq21, h⟩ := ax_bd_e h
        refine ax_TVv (d := d) (ka := 5) (i := y4) [.inl (.int (10 : Int32)), .inl (.int (0 : Int32))] [] lk_X5_57 (by decide +kernel) rfl (by decide) rfl (Nat.le_of_ble_eq_true rfl) (Nat.le_of_ble_eq_true rfl) ((t_X5_emit hq21).up (by omega)) ?_
        refine ax_Tgo [.iinc 4 1] (pc' := 48) (L' := [some (.inr (5, y4)), some (.inr (10, 0)), some (.inl (.int x5)), none, some (.inl (.int (x6 + (1 : Int32))))]) (st' := []) (S' := S20) ok_X5_readCondition.1 (by decide +kernel) rfl rfl ?_
        obtain ⟨v23, ev23, h⟩ := ax_let_e h
        rw [ev23]
        refine ax_Tgoto (off := (-38)) (tgt := 10) (by decide +kernel) (by decide) ?_
        exact ih y4 x5 v23 S20 _ h
set_option maxRecDepth 100000 in
theorem tb_X5_readCondition {l : Launch} {d : Nat} (hd : 4 ≤ d) {rec : Nat → Nat → Int32 → Int32 → AS → Option (AS)} (hrec_0 : ∀ {i0 : Nat} {a2 : Int32} {a3 : Int32} {S Z : AS}, rec 0 i0 a2 a3 S = some Z → ax_M l d ma_X5_readCondition [.inr (5, i0), .inr (10, 0), .inl (.int a2), .inl (.int a3)] S none Z) (hrec_1 : ∀ {i0 : Nat} {a2 : Int32} {a3 : Int32} {S Z : AS}, rec 1 i0 a2 a3 S = some Z → ax_M l d ma_X5_readTruth [.inr (5, i0), .inr (10, 0), .inl (.int a2), .inl (.int a3)] S none Z) (hrec_2 : ∀ {i0 : Nat} {a2 : Int32} {a3 : Int32} {S Z : AS}, rec 2 i0 a2 a3 S = some Z → ax_M l d ma_X5_readUnit [.inr (5, i0), .inr (10, 0), .inl (.int a2), .inl (.int a3)] S none Z) (hrec_3 : ∀ {i0 : Nat} {a2 : Int32} {S Z : AS}, rec 3 i0 a2 (0 : Int32) S = some Z → ax_M l d ma_X5_readSum [.inr (5, i0), .inr (10, 0), .inl (.int a2)] S none Z) (hrec_4 : ∀ {i0 : Nat} {a2 : Int32} {S Z : AS}, rec 4 i0 a2 (0 : Int32) S = some Z → ax_M l d ma_X5_readTerm [.inr (5, i0), .inr (10, 0), .inl (.int a2)] S none Z) (hrec_5 : ∀ {i0 : Nat} {a2 : Int32} {S Z : AS}, rec 5 i0 a2 (0 : Int32) S = some Z → ax_M l d ma_X5_readAtom [.inr (5, i0), .inr (10, 0), .inl (.int a2)] S none Z) {i0 : Nat} {a2 : Int32} {a3 : Int32} {S Z : AS} (h : b_X5_readCondition rec i0 a2 a3 S = some Z) : ax_M l (d + 1) ma_X5_readCondition [.inr (5, i0), .inr (10, 0), .inl (.int a2), .inl (.int a3)] S none Z := by
  unfold b_X5_readCondition at h
  show ax_T l (d + 1) ma_X5_readCondition (0, [some (.inr (5, i0)), some (.inr (10, 0)), some (.inl (.int a2)), some (.inl (.int a3)), none], [], S) none Z
  refine ax_Tgo [.aload_n 0, .aload_n 1, .iload_n 2, .iload_n 3] (pc' := 4) (L' := [some (.inr (5, i0)), some (.inr (10, 0)), some (.inl (.int a2)), some (.inl (.int a3)), none]) (st' := [.inl (.int a3), .inl (.int a2), .inr (10, 0), .inr (5, i0)]) (S' := S) ok_X5_readCondition.1 (by decide +kernel) rfl rfl ?_
  obtain ⟨S1, hq2, h⟩ := ax_bd_e h
  refine ax_TVv (d := d) (ka := 5) (i := i0) [.inr (10, 0), .inl (.int a2), .inl (.int a3)] [] lk_X5_65 (by decide +kernel) rfl (by decide) rfl (Nat.le_of_ble_eq_true rfl) (Nat.le_of_ble_eq_true rfl) (hrec_1 hq2) ?_
  refine ax_Tgo [.iconst 0, .istore 4] (pc' := 10) (L' := [some (.inr (5, i0)), some (.inr (10, 0)), some (.inl (.int a2)), some (.inl (.int a3)), some (.inl (.int (0 : Int32)))]) (st' := []) (S' := S1) ok_X5_readCondition.1 (by decide +kernel) rfl rfl ?_
  refine ax_Tdrop [true, true, true, false, true] (L' := [some (.inr (5, i0)), some (.inr (10, 0)), some (.inl (.int a2)), none, some (.inl (.int (0 : Int32)))]) rfl ?_
  refine t_X5_readCondition_L10 hd hrec_0 hrec_1 hrec_2 hrec_3 hrec_4 hrec_5 ?_ _ i0 a2 (0 : Int32) S1 _ h
  · intro S24 Z h
    cases h
    exact ax_Tretv (by decide +kernel) rfl
set_option maxRecDepth 100000 in
theorem t_X5_readTruth_L10 {l : Launch} {d : Nat} (hd : 4 ≤ d) {rec : Nat → Nat → Int32 → Int32 → AS → Option (AS)} (hrec_0 : ∀ {i0 : Nat} {a2 : Int32} {a3 : Int32} {S Z : AS}, rec 0 i0 a2 a3 S = some Z → ax_M l d ma_X5_readCondition [.inr (5, i0), .inr (10, 0), .inl (.int a2), .inl (.int a3)] S none Z) (hrec_1 : ∀ {i0 : Nat} {a2 : Int32} {a3 : Int32} {S Z : AS}, rec 1 i0 a2 a3 S = some Z → ax_M l d ma_X5_readTruth [.inr (5, i0), .inr (10, 0), .inl (.int a2), .inl (.int a3)] S none Z) (hrec_2 : ∀ {i0 : Nat} {a2 : Int32} {a3 : Int32} {S Z : AS}, rec 2 i0 a2 a3 S = some Z → ax_M l d ma_X5_readUnit [.inr (5, i0), .inr (10, 0), .inl (.int a2), .inl (.int a3)] S none Z) (hrec_3 : ∀ {i0 : Nat} {a2 : Int32} {S Z : AS}, rec 3 i0 a2 (0 : Int32) S = some Z → ax_M l d ma_X5_readSum [.inr (5, i0), .inr (10, 0), .inl (.int a2)] S none Z) (hrec_4 : ∀ {i0 : Nat} {a2 : Int32} {S Z : AS}, rec 4 i0 a2 (0 : Int32) S = some Z → ax_M l d ma_X5_readTerm [.inr (5, i0), .inr (10, 0), .inl (.int a2)] S none Z) (hrec_5 : ∀ {i0 : Nat} {a2 : Int32} {S Z : AS}, rec 5 i0 a2 (0 : Int32) S = some Z → ax_M l d ma_X5_readAtom [.inr (5, i0), .inr (10, 0), .inl (.int a2)] S none Z) {K51 : AS → Option (AS)} (hK51 : ∀ (S : AS) Z, K51 S = some Z → ax_T l (d + 1) ma_X5_readTruth (51, [none, none, none, none, none], [], S) none Z) : ∀ (n : Nat) (y4 : Nat) (x5 : Int32) (x6 : Int32) (S7 : AS) Z, f_X5_readTruth_L10 rec K51 n y4 x5 x6 S7 = some Z → ax_T l (d + 1) ma_X5_readTruth (10, [some (.inr (5, y4)), some (.inr (10, 0)), some (.inl (.int x5)), none, some (.inl (.int x6))], [], S7) none Z := by
  intro n
  induction n with
  | zero =>
    intro y4 x5 x6 S7 Z h
    cases h
  | succ n ih =>
    intro y4 x5 x6 S7 Z h
    unfold f_X5_readTruth_L10 at h
    refine ax_Tgo [.iload 4, .sipush 240] (pc' := 15) (L' := [some (.inr (5, y4)), some (.inr (10, 0)), some (.inl (.int x5)), none, some (.inl (.int x6))]) (st' := [.inl (.int (240 : Int32)), .inl (.int x6)]) (S' := S7) ok_X5_readTruth.1 (by decide +kernel) rfl rfl ?_
    refine ax_Tic_ge (off := 36) (tgt := 51) (by decide +kernel) (by decide) (fun c8 => ?_) (fun c8 => ?_)
    · rw [if_pos c8] at h
      refine ax_Tdrop [false, false, false, true, false] (L' := [none, none, none, none, none]) rfl ?_
      exact hK51 S7 _ h
    · rw [if_neg c8] at h
      refine ax_Tgo [.aload_n 1] (pc' := 19) (L' := [some (.inr (5, y4)), some (.inr (10, 0)), some (.inl (.int x5)), none, some (.inl (.int x6))]) (st' := [.inr (10, 0)]) (S' := S7) ok_X5_readTruth.1 (by decide +kernel) rfl rfl ?_
      obtain ⟨r12, S9, hq10, h⟩ := ax_bu_e h
      refine ax_TVi (d := d) (ka := 10) (i := 0) [] [] lk_X5_46 (by decide +kernel) rfl (by decide) rfl (Nat.le_of_ble_eq_true rfl) (Nat.le_of_ble_eq_true rfl) ((t_X10_peek hq10).up (by omega)) ?_
      refine ax_Tgo [.bipush 38] (pc' := 24) (L' := [some (.inr (5, y4)), some (.inr (10, 0)), some (.inl (.int x5)), none, some (.inl (.int x6))]) (st' := [.inl (.int (38 : Int32)), .inl (.int r12)]) (S' := S9) ok_X5_readTruth.1 (by decide +kernel) rfl rfl ?_
      refine ax_Tic_ne (off := 27) (tgt := 51) (by decide +kernel) (by decide) (fun c13 => ?_) (fun c13 => ?_)
      · rw [if_neg c13] at h
        refine ax_Tdrop [false, false, false, true, false] (L' := [none, none, none, none, none]) rfl ?_
        exact hK51 S9 _ h
      · rw [if_pos c13] at h
        refine ax_Tgo [.aload_n 1] (pc' := 28) (L' := [some (.inr (5, y4)), some (.inr (10, 0)), some (.inl (.int x5)), none, some (.inl (.int x6))]) (st' := [.inr (10, 0)]) (S' := S9) ok_X5_readTruth.1 (by decide +kernel) rfl rfl ?_
        obtain ⟨S14, hq15, h⟩ := ax_bd_e h
        refine ax_TVv (d := d) (ka := 10) (i := 0) [] [] lk_X5_68 (by decide +kernel) rfl (by decide) rfl (Nat.le_of_ble_eq_true rfl) (Nat.le_of_ble_eq_true rfl) ((t_X10_pass hq15).up (by omega)) ?_
        refine ax_Tgo [.aload_n 0, .aload_n 1, .iload_n 2, .iconst 0] (pc' := 35) (L' := [some (.inr (5, y4)), some (.inr (10, 0)), some (.inl (.int x5)), none, some (.inl (.int x6))]) (st' := [.inl (.int (0 : Int32)), .inl (.int x5), .inr (10, 0), .inr (5, y4)]) (S' := S14) ok_X5_readTruth.1 (by decide +kernel) rfl rfl ?_
        obtain ⟨S17, hq18, h⟩ := ax_bd_e h
        refine ax_TVv (d := d) (ka := 5) (i := y4) [.inr (10, 0), .inl (.int x5), .inl (.int (0 : Int32))] [] lk_X5_71 (by decide +kernel) rfl (by decide) rfl (Nat.le_of_ble_eq_true rfl) (Nat.le_of_ble_eq_true rfl) (hrec_2 hq18) ?_
        refine ax_Tgo [.aload_n 0, .bipush 9, .iconst 0] (pc' := 42) (L' := [some (.inr (5, y4)), some (.inr (10, 0)), some (.inl (.int x5)), none, some (.inl (.int x6))]) (st' := [.inl (.int (0 : Int32)), .inl (.int (9 : Int32)), .inr (5, y4)]) (S' := S17) ok_X5_readTruth.1 (by decide +kernel) rfl rfl ?_
        obtain ⟨S20, hq21, h⟩ := ax_bd_e h
        refine ax_TVv (d := d) (ka := 5) (i := y4) [.inl (.int (9 : Int32)), .inl (.int (0 : Int32))] [] lk_X5_57 (by decide +kernel) rfl (by decide) rfl (Nat.le_of_ble_eq_true rfl) (Nat.le_of_ble_eq_true rfl) ((t_X5_emit hq21).up (by omega)) ?_
        refine ax_Tgo [.iinc 4 1] (pc' := 48) (L' := [some (.inr (5, y4)), some (.inr (10, 0)), some (.inl (.int x5)), none, some (.inl (.int (x6 + (1 : Int32))))]) (st' := []) (S' := S20) ok_X5_readTruth.1 (by decide +kernel) rfl rfl ?_
        obtain ⟨v23, ev23, h⟩ := ax_let_e h
        rw [ev23]
        refine ax_Tgoto (off := (-38)) (tgt := 10) (by decide +kernel) (by decide) ?_
        exact ih y4 x5 v23 S20 _ h
set_option maxRecDepth 100000 in
theorem tb_X5_readTruth {l : Launch} {d : Nat} (hd : 4 ≤ d) {rec : Nat → Nat → Int32 → Int32 → AS → Option (AS)} (hrec_0 : ∀ {i0 : Nat} {a2 : Int32} {a3 : Int32} {S Z : AS}, rec 0 i0 a2 a3 S = some Z → ax_M l d ma_X5_readCondition [.inr (5, i0), .inr (10, 0), .inl (.int a2), .inl (.int a3)] S none Z) (hrec_1 : ∀ {i0 : Nat} {a2 : Int32} {a3 : Int32} {S Z : AS}, rec 1 i0 a2 a3 S = some Z → ax_M l d ma_X5_readTruth [.inr (5, i0), .inr (10, 0), .inl (.int a2), .inl (.int a3)] S none Z) (hrec_2 : ∀ {i0 : Nat} {a2 : Int32} {a3 : Int32} {S Z : AS}, rec 2 i0 a2 a3 S = some Z → ax_M l d ma_X5_readUnit [.inr (5, i0), .inr (10, 0), .inl (.int a2), .inl (.int a3)] S none Z) (hrec_3 : ∀ {i0 : Nat} {a2 : Int32} {S Z : AS}, rec 3 i0 a2 (0 : Int32) S = some Z → ax_M l d ma_X5_readSum [.inr (5, i0), .inr (10, 0), .inl (.int a2)] S none Z) (hrec_4 : ∀ {i0 : Nat} {a2 : Int32} {S Z : AS}, rec 4 i0 a2 (0 : Int32) S = some Z → ax_M l d ma_X5_readTerm [.inr (5, i0), .inr (10, 0), .inl (.int a2)] S none Z) (hrec_5 : ∀ {i0 : Nat} {a2 : Int32} {S Z : AS}, rec 5 i0 a2 (0 : Int32) S = some Z → ax_M l d ma_X5_readAtom [.inr (5, i0), .inr (10, 0), .inl (.int a2)] S none Z) {i0 : Nat} {a2 : Int32} {a3 : Int32} {S Z : AS} (h : b_X5_readTruth rec i0 a2 a3 S = some Z) : ax_M l (d + 1) ma_X5_readTruth [.inr (5, i0), .inr (10, 0), .inl (.int a2), .inl (.int a3)] S none Z := by
  unfold b_X5_readTruth at h
  show ax_T l (d + 1) ma_X5_readTruth (0, [some (.inr (5, i0)), some (.inr (10, 0)), some (.inl (.int a2)), some (.inl (.int a3)), none], [], S) none Z
  refine ax_Tgo [.aload_n 0, .aload_n 1, .iload_n 2, .iload_n 3] (pc' := 4) (L' := [some (.inr (5, i0)), some (.inr (10, 0)), some (.inl (.int a2)), some (.inl (.int a3)), none]) (st' := [.inl (.int a3), .inl (.int a2), .inr (10, 0), .inr (5, i0)]) (S' := S) ok_X5_readTruth.1 (by decide +kernel) rfl rfl ?_
  obtain ⟨S1, hq2, h⟩ := ax_bd_e h
  refine ax_TVv (d := d) (ka := 5) (i := i0) [.inr (10, 0), .inl (.int a2), .inl (.int a3)] [] lk_X5_71 (by decide +kernel) rfl (by decide) rfl (Nat.le_of_ble_eq_true rfl) (Nat.le_of_ble_eq_true rfl) (hrec_2 hq2) ?_
  refine ax_Tgo [.iconst 0, .istore 4] (pc' := 10) (L' := [some (.inr (5, i0)), some (.inr (10, 0)), some (.inl (.int a2)), some (.inl (.int a3)), some (.inl (.int (0 : Int32)))]) (st' := []) (S' := S1) ok_X5_readTruth.1 (by decide +kernel) rfl rfl ?_
  refine ax_Tdrop [true, true, true, false, true] (L' := [some (.inr (5, i0)), some (.inr (10, 0)), some (.inl (.int a2)), none, some (.inl (.int (0 : Int32)))]) rfl ?_
  refine t_X5_readTruth_L10 hd hrec_0 hrec_1 hrec_2 hrec_3 hrec_4 hrec_5 ?_ _ i0 a2 (0 : Int32) S1 _ h
  · intro S24 Z h
    cases h
    exact ax_Tretv (by decide +kernel) rfl
set_option maxRecDepth 100000 in
theorem tb_X5_readUnit {l : Launch} {d : Nat} (hd : 4 ≤ d) {rec : Nat → Nat → Int32 → Int32 → AS → Option (AS)} (hrec_0 : ∀ {i0 : Nat} {a2 : Int32} {a3 : Int32} {S Z : AS}, rec 0 i0 a2 a3 S = some Z → ax_M l d ma_X5_readCondition [.inr (5, i0), .inr (10, 0), .inl (.int a2), .inl (.int a3)] S none Z) (hrec_1 : ∀ {i0 : Nat} {a2 : Int32} {a3 : Int32} {S Z : AS}, rec 1 i0 a2 a3 S = some Z → ax_M l d ma_X5_readTruth [.inr (5, i0), .inr (10, 0), .inl (.int a2), .inl (.int a3)] S none Z) (hrec_2 : ∀ {i0 : Nat} {a2 : Int32} {a3 : Int32} {S Z : AS}, rec 2 i0 a2 a3 S = some Z → ax_M l d ma_X5_readUnit [.inr (5, i0), .inr (10, 0), .inl (.int a2), .inl (.int a3)] S none Z) (hrec_3 : ∀ {i0 : Nat} {a2 : Int32} {S Z : AS}, rec 3 i0 a2 (0 : Int32) S = some Z → ax_M l d ma_X5_readSum [.inr (5, i0), .inr (10, 0), .inl (.int a2)] S none Z) (hrec_4 : ∀ {i0 : Nat} {a2 : Int32} {S Z : AS}, rec 4 i0 a2 (0 : Int32) S = some Z → ax_M l d ma_X5_readTerm [.inr (5, i0), .inr (10, 0), .inl (.int a2)] S none Z) (hrec_5 : ∀ {i0 : Nat} {a2 : Int32} {S Z : AS}, rec 5 i0 a2 (0 : Int32) S = some Z → ax_M l d ma_X5_readAtom [.inr (5, i0), .inr (10, 0), .inl (.int a2)] S none Z) {i0 : Nat} {a2 : Int32} {a3 : Int32} {S Z : AS} (h : b_X5_readUnit rec i0 a2 a3 S = some Z) : ax_M l (d + 1) ma_X5_readUnit [.inr (5, i0), .inr (10, 0), .inl (.int a2), .inl (.int a3)] S none Z := by
  unfold b_X5_readUnit at h
  show ax_T l (d + 1) ma_X5_readUnit (0, [some (.inr (5, i0)), some (.inr (10, 0)), some (.inl (.int a2)), some (.inl (.int a3)), none, none, none], [], S) none Z
  refine ax_Tgo [.aload_n 1] (pc' := 1) (L' := [some (.inr (5, i0)), some (.inr (10, 0)), some (.inl (.int a2)), some (.inl (.int a3)), none, none, none]) (st' := [.inr (10, 0)]) (S' := S) ok_X5_readUnit.1 (by decide +kernel) rfl rfl ?_
  obtain ⟨r4, S1, hq2, h⟩ := ax_bu_e h
  refine ax_TVi (d := d) (ka := 10) (i := 0) [] [] lk_X5_46 (by decide +kernel) rfl (by decide) rfl (Nat.le_of_ble_eq_true rfl) (Nat.le_of_ble_eq_true rfl) ((t_X10_peek hq2).up (by omega)) ?_
  refine ax_Tgo [.istore 4, .iload_n 3] (pc' := 7) (L' := [some (.inr (5, i0)), some (.inr (10, 0)), some (.inl (.int a2)), some (.inl (.int a3)), some (.inl (.int r4)), none, none]) (st' := [.inl (.int a3)]) (S' := S1) ok_X5_readUnit.1 (by decide +kernel) rfl rfl ?_
  obtain ⟨J7, eJ7, h⟩ := ax_let_e h
  have hJ7 : ∀ (x5 : Int32) (S6 : AS) Z, J7 x5 S6 = some Z → ax_T l (d + 1) ma_X5_readUnit (29, [some (.inr (5, i0)), some (.inr (10, 0)), some (.inl (.int a2)), some (.inl (.int a3)), some (.inl (.int r4)), none, none], [.inl (.int x5)], S6) none Z := by
    intro x5 S6 Z h
    rw [← eJ7] at h
    try dsimp only at h
    refine ax_Tgo [.istore 5, .iload 5] (pc' := 33) (L' := [some (.inr (5, i0)), some (.inr (10, 0)), some (.inl (.int a2)), some (.inl (.int a3)), some (.inl (.int r4)), some (.inl (.int x5)), none]) (st' := [.inl (.int x5)]) (S' := S6) ok_X5_readUnit.1 (by decide +kernel) rfl rfl ?_
    refine ax_Tif_eq (off := 16) (tgt := 49) (by decide +kernel) (by decide) (fun c8 => ?_) (fun c8 => ?_)
    · rw [if_pos c8] at h
      refine ax_Tgo [.iload 5] (pc' := 51) (L' := [some (.inr (5, i0)), some (.inr (10, 0)), some (.inl (.int a2)), some (.inl (.int a3)), some (.inl (.int r4)), some (.inl (.int x5)), none]) (st' := [.inl (.int x5)]) (S' := S6) ok_X5_readUnit.1 (by decide +kernel) rfl rfl ?_
      refine ax_Tif_eq (off := 33) (tgt := 84) (by decide +kernel) (by decide) (fun c9 => ?_) (fun c9 => ?_)
      · rw [if_pos c9] at h
        refine ax_Tgo [.iload 5] (pc' := 86) (L' := [some (.inr (5, i0)), some (.inr (10, 0)), some (.inl (.int a2)), some (.inl (.int a3)), some (.inl (.int r4)), some (.inl (.int x5)), none]) (st' := [.inl (.int x5)]) (S' := S6) ok_X5_readUnit.1 (by decide +kernel) rfl rfl ?_
        refine ax_Tif_eq (off := 25) (tgt := 111) (by decide +kernel) (by decide) (fun c10 => ?_) (fun c10 => ?_)
        · rw [if_pos c10] at h
          refine ax_Tgo [.iload_n 3] (pc' := 112) (L' := [some (.inr (5, i0)), some (.inr (10, 0)), some (.inl (.int a2)), some (.inl (.int a3)), some (.inl (.int r4)), some (.inl (.int x5)), none]) (st' := [.inl (.int a3)]) (S' := S6) ok_X5_readUnit.1 (by decide +kernel) rfl rfl ?_
          obtain ⟨J12, eJ12, h⟩ := ax_let_e h
          have hJ12 : ∀ (S11 : AS) Z, J12 S11 = some Z → ax_T l (d + 1) ma_X5_readUnit (121, [some (.inr (5, i0)), some (.inr (10, 0)), some (.inl (.int a2)), none, none, none, none], [], S11) none Z := by
            intro S11 Z h
            rw [← eJ12] at h
            try dsimp only at h
            refine ax_Tgo [.aload_n 1] (pc' := 122) (L' := [some (.inr (5, i0)), some (.inr (10, 0)), some (.inl (.int a2)), none, none, none, none]) (st' := [.inr (10, 0)]) (S' := S11) ok_X5_readUnit.1 (by decide +kernel) rfl rfl ?_
            obtain ⟨r16, S13, hq14, h⟩ := ax_bu_e h
            refine ax_TVi (d := d) (ka := 10) (i := 0) [] [] lk_X5_46 (by decide +kernel) rfl (by decide) rfl (Nat.le_of_ble_eq_true rfl) (Nat.le_of_ble_eq_true rfl) ((t_X10_peek hq14).up (by omega)) ?_
            obtain ⟨r20, hq18, h⟩ := ax_bd_e h
            refine ax_TSi (d := d) [.inl (.int r16)] [] lk_X5_53 (by decide +kernel) rfl rfl (Nat.le_of_ble_eq_true rfl) (Nat.le_of_ble_eq_true rfl) ((t_X5_relationOf hq18).up (by omega)) ?_
            refine ax_Tgo [.istore 6, .iload 6, .iconst (-1)] (pc' := 133) (L' := [some (.inr (5, i0)), some (.inr (10, 0)), some (.inl (.int a2)), none, none, none, some (.inl (.int r20))]) (st' := [.inl (.int (Int32.ofInt (-1))), .inl (.int r20)]) (S' := S13) ok_X5_readUnit.1 (by decide +kernel) rfl rfl ?_
            refine ax_Tic_ne (off := 8) (tgt := 141) (by decide +kernel) (by decide) (fun c21 => ?_) (fun c21 => ?_)
            · rw [if_neg c21] at h
              refine ax_Tgo [.aload_n 1] (pc' := 142) (L' := [some (.inr (5, i0)), some (.inr (10, 0)), some (.inl (.int a2)), none, none, none, some (.inl (.int r20))]) (st' := [.inr (10, 0)]) (S' := S13) ok_X5_readUnit.1 (by decide +kernel) rfl rfl ?_
              obtain ⟨S22, hq23, h⟩ := ax_bd_e h
              refine ax_TVv (d := d) (ka := 10) (i := 0) [] [] lk_X5_68 (by decide +kernel) rfl (by decide) rfl (Nat.le_of_ble_eq_true rfl) (Nat.le_of_ble_eq_true rfl) ((t_X10_pass hq23).up (by omega)) ?_
              refine ax_Tgo [.aload_n 0, .aload_n 1, .iload_n 2] (pc' := 148) (L' := [some (.inr (5, i0)), some (.inr (10, 0)), some (.inl (.int a2)), none, none, none, some (.inl (.int r20))]) (st' := [.inl (.int a2), .inr (10, 0), .inr (5, i0)]) (S' := S22) ok_X5_readUnit.1 (by decide +kernel) rfl rfl ?_
              obtain ⟨S25, hq26, h⟩ := ax_bd_e h
              refine ax_TVv (d := d) (ka := 5) (i := i0) [.inr (10, 0), .inl (.int a2)] [] lk_X5_49 (by decide +kernel) rfl (by decide) rfl (Nat.le_of_ble_eq_true rfl) (Nat.le_of_ble_eq_true rfl) (hrec_3 hq26) ?_
              refine ax_Tgo [.aload_n 0, .iload 6, .iconst 0] (pc' := 155) (L' := [some (.inr (5, i0)), some (.inr (10, 0)), some (.inl (.int a2)), none, none, none, some (.inl (.int r20))]) (st' := [.inl (.int (0 : Int32)), .inl (.int r20), .inr (5, i0)]) (S' := S25) ok_X5_readUnit.1 (by decide +kernel) rfl rfl ?_
              obtain ⟨S28, hq29, h⟩ := ax_bd_e h
              refine ax_TVv (d := d) (ka := 5) (i := i0) [.inl (.int r20), .inl (.int (0 : Int32))] [] lk_X5_57 (by decide +kernel) rfl (by decide) rfl (Nat.le_of_ble_eq_true rfl) (Nat.le_of_ble_eq_true rfl) ((t_X5_emit hq29).up (by omega)) ?_
              cases h
              exact ax_Tretv (by decide +kernel) rfl
            · rw [if_pos c21] at h
              refine ax_Tgo [.aload_n 1] (pc' := 137) (L' := [some (.inr (5, i0)), some (.inr (10, 0)), some (.inl (.int a2)), none, none, none, some (.inl (.int r20))]) (st' := [.inr (10, 0)]) (S' := S13) ok_X5_readUnit.1 (by decide +kernel) rfl rfl ?_
              obtain ⟨S31, hq32, h⟩ := ax_bd_e h
              refine ax_TVv (d := d) (ka := 10) (i := 0) [] [] lk_X5_74 (by decide +kernel) rfl (by decide) rfl (Nat.le_of_ble_eq_true rfl) (Nat.le_of_ble_eq_true rfl) ((t_X10_fail hq32).up (by omega)) ?_
              cases h
              exact ax_Tretv (by decide +kernel) rfl
          refine ax_Tif_ne (off := 9) (tgt := 121) (by decide +kernel) (by decide) (fun c34 => ?_) (fun c34 => ?_)
          · rw [if_neg c34] at h
            refine ax_Tdrop [true, true, true, false, false, false, true] (L' := [some (.inr (5, i0)), some (.inr (10, 0)), some (.inl (.int a2)), none, none, none, none]) rfl ?_
            exact hJ12 S6 _ h
          · rw [if_pos c34] at h
            refine ax_Tgo [.aload_n 0, .aload_n 1, .iload_n 2] (pc' := 118) (L' := [some (.inr (5, i0)), some (.inr (10, 0)), some (.inl (.int a2)), some (.inl (.int a3)), some (.inl (.int r4)), some (.inl (.int x5)), none]) (st' := [.inl (.int a2), .inr (10, 0), .inr (5, i0)]) (S' := S6) ok_X5_readUnit.1 (by decide +kernel) rfl rfl ?_
            obtain ⟨S35, hq36, h⟩ := ax_bd_e h
            refine ax_TVv (d := d) (ka := 5) (i := i0) [.inr (10, 0), .inl (.int a2)] [] lk_X5_49 (by decide +kernel) rfl (by decide) rfl (Nat.le_of_ble_eq_true rfl) (Nat.le_of_ble_eq_true rfl) (hrec_3 hq36) ?_
            refine ax_Tdrop [true, true, true, false, false, false, true] (L' := [some (.inr (5, i0)), some (.inr (10, 0)), some (.inl (.int a2)), none, none, none, none]) rfl ?_
            exact hJ12 S35 _ h
        · rw [if_neg c10] at h
          refine ax_Tgo [.aload_n 1] (pc' := 90) (L' := [some (.inr (5, i0)), some (.inr (10, 0)), some (.inl (.int a2)), some (.inl (.int a3)), some (.inl (.int r4)), some (.inl (.int x5)), none]) (st' := [.inr (10, 0)]) (S' := S6) ok_X5_readUnit.1 (by decide +kernel) rfl rfl ?_
          obtain ⟨S38, hq39, h⟩ := ax_bd_e h
          refine ax_TVv (d := d) (ka := 10) (i := 0) [] [] lk_X5_68 (by decide +kernel) rfl (by decide) rfl (Nat.le_of_ble_eq_true rfl) (Nat.le_of_ble_eq_true rfl) ((t_X10_pass hq39).up (by omega)) ?_
          refine ax_Tgo [.aload_n 0, .aload_n 1, .iload_n 2, .iconst 1, .iadd, .iconst 0] (pc' := 99) (L' := [some (.inr (5, i0)), some (.inr (10, 0)), some (.inl (.int a2)), some (.inl (.int a3)), some (.inl (.int r4)), some (.inl (.int x5)), none]) (st' := [.inl (.int (0 : Int32)), .inl (.int (a2 + (1 : Int32))), .inr (10, 0), .inr (5, i0)]) (S' := S38) ok_X5_readUnit.1 (by decide +kernel) rfl rfl ?_
          obtain ⟨S41, hq42, h⟩ := ax_bd_e h
          refine ax_TVv (d := d) (ka := 5) (i := i0) [.inr (10, 0), .inl (.int (a2 + (1 : Int32))), .inl (.int (0 : Int32))] [] lk_X5_61 (by decide +kernel) rfl (by decide) rfl (Nat.le_of_ble_eq_true rfl) (Nat.le_of_ble_eq_true rfl) (hrec_0 hq42) ?_
          refine ax_Tgo [.aload_n 1, .bipush 41] (pc' := 105) (L' := [some (.inr (5, i0)), some (.inr (10, 0)), some (.inl (.int a2)), some (.inl (.int a3)), some (.inl (.int r4)), some (.inl (.int x5)), none]) (st' := [.inl (.int (41 : Int32)), .inr (10, 0)]) (S' := S41) ok_X5_readUnit.1 (by decide +kernel) rfl rfl ?_
          obtain ⟨S44, hq45, h⟩ := ax_bd_e h
          refine ax_TVv (d := d) (ka := 10) (i := 0) [.inl (.int (41 : Int32))] [] lk_X5_42 (by decide +kernel) rfl (by decide) rfl (Nat.le_of_ble_eq_true rfl) (Nat.le_of_ble_eq_true rfl) ((t_X10_demand hq45).up (by omega)) ?_
          refine ax_Tgoto (off := 50) (tgt := 158) (by decide +kernel) (by decide) ?_
          cases h
          exact ax_Tretv (by decide +kernel) rfl
      · rw [if_neg c9] at h
        refine ax_Tgo [.iload 4, .bipush 33] (pc' := 58) (L' := [some (.inr (5, i0)), some (.inr (10, 0)), some (.inl (.int a2)), some (.inl (.int a3)), some (.inl (.int r4)), some (.inl (.int x5)), none]) (st' := [.inl (.int (33 : Int32)), .inl (.int r4)]) (S' := S6) ok_X5_readUnit.1 (by decide +kernel) rfl rfl ?_
        refine ax_Tic_ne (off := 26) (tgt := 84) (by decide +kernel) (by decide) (fun c47 => ?_) (fun c47 => ?_)
        · rw [if_neg c47] at h
          refine ax_Tgo [.iload 5] (pc' := 86) (L' := [some (.inr (5, i0)), some (.inr (10, 0)), some (.inl (.int a2)), some (.inl (.int a3)), some (.inl (.int r4)), some (.inl (.int x5)), none]) (st' := [.inl (.int x5)]) (S' := S6) ok_X5_readUnit.1 (by decide +kernel) rfl rfl ?_
          refine ax_Tif_eq (off := 25) (tgt := 111) (by decide +kernel) (by decide) (fun c48 => ?_) (fun c48 => ?_)
          · rw [if_pos c48] at h
            refine ax_Tgo [.iload_n 3] (pc' := 112) (L' := [some (.inr (5, i0)), some (.inr (10, 0)), some (.inl (.int a2)), some (.inl (.int a3)), some (.inl (.int r4)), some (.inl (.int x5)), none]) (st' := [.inl (.int a3)]) (S' := S6) ok_X5_readUnit.1 (by decide +kernel) rfl rfl ?_
            obtain ⟨J50, eJ50, h⟩ := ax_let_e h
            have hJ50 : ∀ (S49 : AS) Z, J50 S49 = some Z → ax_T l (d + 1) ma_X5_readUnit (121, [some (.inr (5, i0)), some (.inr (10, 0)), some (.inl (.int a2)), none, none, none, none], [], S49) none Z := by
              intro S49 Z h
              rw [← eJ50] at h
              try dsimp only at h
              refine ax_Tgo [.aload_n 1] (pc' := 122) (L' := [some (.inr (5, i0)), some (.inr (10, 0)), some (.inl (.int a2)), none, none, none, none]) (st' := [.inr (10, 0)]) (S' := S49) ok_X5_readUnit.1 (by decide +kernel) rfl rfl ?_
              obtain ⟨r54, S51, hq52, h⟩ := ax_bu_e h
              refine ax_TVi (d := d) (ka := 10) (i := 0) [] [] lk_X5_46 (by decide +kernel) rfl (by decide) rfl (Nat.le_of_ble_eq_true rfl) (Nat.le_of_ble_eq_true rfl) ((t_X10_peek hq52).up (by omega)) ?_
              obtain ⟨r58, hq56, h⟩ := ax_bd_e h
              refine ax_TSi (d := d) [.inl (.int r54)] [] lk_X5_53 (by decide +kernel) rfl rfl (Nat.le_of_ble_eq_true rfl) (Nat.le_of_ble_eq_true rfl) ((t_X5_relationOf hq56).up (by omega)) ?_
              refine ax_Tgo [.istore 6, .iload 6, .iconst (-1)] (pc' := 133) (L' := [some (.inr (5, i0)), some (.inr (10, 0)), some (.inl (.int a2)), none, none, none, some (.inl (.int r58))]) (st' := [.inl (.int (Int32.ofInt (-1))), .inl (.int r58)]) (S' := S51) ok_X5_readUnit.1 (by decide +kernel) rfl rfl ?_
              refine ax_Tic_ne (off := 8) (tgt := 141) (by decide +kernel) (by decide) (fun c59 => ?_) (fun c59 => ?_)
              · rw [if_neg c59] at h
                refine ax_Tgo [.aload_n 1] (pc' := 142) (L' := [some (.inr (5, i0)), some (.inr (10, 0)), some (.inl (.int a2)), none, none, none, some (.inl (.int r58))]) (st' := [.inr (10, 0)]) (S' := S51) ok_X5_readUnit.1 (by decide +kernel) rfl rfl ?_
                obtain ⟨S60, hq61, h⟩ := ax_bd_e h
                refine ax_TVv (d := d) (ka := 10) (i := 0) [] [] lk_X5_68 (by decide +kernel) rfl (by decide) rfl (Nat.le_of_ble_eq_true rfl) (Nat.le_of_ble_eq_true rfl) ((t_X10_pass hq61).up (by omega)) ?_
                refine ax_Tgo [.aload_n 0, .aload_n 1, .iload_n 2] (pc' := 148) (L' := [some (.inr (5, i0)), some (.inr (10, 0)), some (.inl (.int a2)), none, none, none, some (.inl (.int r58))]) (st' := [.inl (.int a2), .inr (10, 0), .inr (5, i0)]) (S' := S60) ok_X5_readUnit.1 (by decide +kernel) rfl rfl ?_
                obtain ⟨S63, hq64, h⟩ := ax_bd_e h
                refine ax_TVv (d := d) (ka := 5) (i := i0) [.inr (10, 0), .inl (.int a2)] [] lk_X5_49 (by decide +kernel) rfl (by decide) rfl (Nat.le_of_ble_eq_true rfl) (Nat.le_of_ble_eq_true rfl) (hrec_3 hq64) ?_
                refine ax_Tgo [.aload_n 0, .iload 6, .iconst 0] (pc' := 155) (L' := [some (.inr (5, i0)), some (.inr (10, 0)), some (.inl (.int a2)), none, none, none, some (.inl (.int r58))]) (st' := [.inl (.int (0 : Int32)), .inl (.int r58), .inr (5, i0)]) (S' := S63) ok_X5_readUnit.1 (by decide +kernel) rfl rfl ?_
                obtain ⟨S66, hq67, h⟩ := ax_bd_e h
                refine ax_TVv (d := d) (ka := 5) (i := i0) [.inl (.int r58), .inl (.int (0 : Int32))] [] lk_X5_57 (by decide +kernel) rfl (by decide) rfl (Nat.le_of_ble_eq_true rfl) (Nat.le_of_ble_eq_true rfl) ((t_X5_emit hq67).up (by omega)) ?_
                cases h
                exact ax_Tretv (by decide +kernel) rfl
              · rw [if_pos c59] at h
                refine ax_Tgo [.aload_n 1] (pc' := 137) (L' := [some (.inr (5, i0)), some (.inr (10, 0)), some (.inl (.int a2)), none, none, none, some (.inl (.int r58))]) (st' := [.inr (10, 0)]) (S' := S51) ok_X5_readUnit.1 (by decide +kernel) rfl rfl ?_
                obtain ⟨S69, hq70, h⟩ := ax_bd_e h
                refine ax_TVv (d := d) (ka := 10) (i := 0) [] [] lk_X5_74 (by decide +kernel) rfl (by decide) rfl (Nat.le_of_ble_eq_true rfl) (Nat.le_of_ble_eq_true rfl) ((t_X10_fail hq70).up (by omega)) ?_
                cases h
                exact ax_Tretv (by decide +kernel) rfl
            refine ax_Tif_ne (off := 9) (tgt := 121) (by decide +kernel) (by decide) (fun c72 => ?_) (fun c72 => ?_)
            · rw [if_neg c72] at h
              refine ax_Tdrop [true, true, true, false, false, false, true] (L' := [some (.inr (5, i0)), some (.inr (10, 0)), some (.inl (.int a2)), none, none, none, none]) rfl ?_
              exact hJ50 S6 _ h
            · rw [if_pos c72] at h
              refine ax_Tgo [.aload_n 0, .aload_n 1, .iload_n 2] (pc' := 118) (L' := [some (.inr (5, i0)), some (.inr (10, 0)), some (.inl (.int a2)), some (.inl (.int a3)), some (.inl (.int r4)), some (.inl (.int x5)), none]) (st' := [.inl (.int a2), .inr (10, 0), .inr (5, i0)]) (S' := S6) ok_X5_readUnit.1 (by decide +kernel) rfl rfl ?_
              obtain ⟨S73, hq74, h⟩ := ax_bd_e h
              refine ax_TVv (d := d) (ka := 5) (i := i0) [.inr (10, 0), .inl (.int a2)] [] lk_X5_49 (by decide +kernel) rfl (by decide) rfl (Nat.le_of_ble_eq_true rfl) (Nat.le_of_ble_eq_true rfl) (hrec_3 hq74) ?_
              refine ax_Tdrop [true, true, true, false, false, false, true] (L' := [some (.inr (5, i0)), some (.inr (10, 0)), some (.inl (.int a2)), none, none, none, none]) rfl ?_
              exact hJ50 S73 _ h
          · rw [if_neg c48] at h
            refine ax_Tgo [.aload_n 1] (pc' := 90) (L' := [some (.inr (5, i0)), some (.inr (10, 0)), some (.inl (.int a2)), some (.inl (.int a3)), some (.inl (.int r4)), some (.inl (.int x5)), none]) (st' := [.inr (10, 0)]) (S' := S6) ok_X5_readUnit.1 (by decide +kernel) rfl rfl ?_
            obtain ⟨S76, hq77, h⟩ := ax_bd_e h
            refine ax_TVv (d := d) (ka := 10) (i := 0) [] [] lk_X5_68 (by decide +kernel) rfl (by decide) rfl (Nat.le_of_ble_eq_true rfl) (Nat.le_of_ble_eq_true rfl) ((t_X10_pass hq77).up (by omega)) ?_
            refine ax_Tgo [.aload_n 0, .aload_n 1, .iload_n 2, .iconst 1, .iadd, .iconst 0] (pc' := 99) (L' := [some (.inr (5, i0)), some (.inr (10, 0)), some (.inl (.int a2)), some (.inl (.int a3)), some (.inl (.int r4)), some (.inl (.int x5)), none]) (st' := [.inl (.int (0 : Int32)), .inl (.int (a2 + (1 : Int32))), .inr (10, 0), .inr (5, i0)]) (S' := S76) ok_X5_readUnit.1 (by decide +kernel) rfl rfl ?_
            obtain ⟨S79, hq80, h⟩ := ax_bd_e h
            refine ax_TVv (d := d) (ka := 5) (i := i0) [.inr (10, 0), .inl (.int (a2 + (1 : Int32))), .inl (.int (0 : Int32))] [] lk_X5_61 (by decide +kernel) rfl (by decide) rfl (Nat.le_of_ble_eq_true rfl) (Nat.le_of_ble_eq_true rfl) (hrec_0 hq80) ?_
            refine ax_Tgo [.aload_n 1, .bipush 41] (pc' := 105) (L' := [some (.inr (5, i0)), some (.inr (10, 0)), some (.inl (.int a2)), some (.inl (.int a3)), some (.inl (.int r4)), some (.inl (.int x5)), none]) (st' := [.inl (.int (41 : Int32)), .inr (10, 0)]) (S' := S79) ok_X5_readUnit.1 (by decide +kernel) rfl rfl ?_
            obtain ⟨S82, hq83, h⟩ := ax_bd_e h
            refine ax_TVv (d := d) (ka := 10) (i := 0) [.inl (.int (41 : Int32))] [] lk_X5_42 (by decide +kernel) rfl (by decide) rfl (Nat.le_of_ble_eq_true rfl) (Nat.le_of_ble_eq_true rfl) ((t_X10_demand hq83).up (by omega)) ?_
            refine ax_Tgoto (off := 50) (tgt := 158) (by decide +kernel) (by decide) ?_
            cases h
            exact ax_Tretv (by decide +kernel) rfl
        · rw [if_pos c47] at h
          refine ax_Tgo [.aload_n 1] (pc' := 62) (L' := [some (.inr (5, i0)), some (.inr (10, 0)), some (.inl (.int a2)), some (.inl (.int a3)), some (.inl (.int r4)), some (.inl (.int x5)), none]) (st' := [.inr (10, 0)]) (S' := S6) ok_X5_readUnit.1 (by decide +kernel) rfl rfl ?_
          obtain ⟨S85, hq86, h⟩ := ax_bd_e h
          refine ax_TVv (d := d) (ka := 10) (i := 0) [] [] lk_X5_68 (by decide +kernel) rfl (by decide) rfl (Nat.le_of_ble_eq_true rfl) (Nat.le_of_ble_eq_true rfl) ((t_X10_pass hq86).up (by omega)) ?_
          refine ax_Tgo [.aload_n 0, .aload_n 1, .iload_n 2, .iconst 1, .iadd, .iconst 0] (pc' := 71) (L' := [some (.inr (5, i0)), some (.inr (10, 0)), some (.inl (.int a2)), some (.inl (.int a3)), some (.inl (.int r4)), some (.inl (.int x5)), none]) (st' := [.inl (.int (0 : Int32)), .inl (.int (a2 + (1 : Int32))), .inr (10, 0), .inr (5, i0)]) (S' := S85) ok_X5_readUnit.1 (by decide +kernel) rfl rfl ?_
          obtain ⟨S88, hq89, h⟩ := ax_bd_e h
          refine ax_TVv (d := d) (ka := 5) (i := i0) [.inr (10, 0), .inl (.int (a2 + (1 : Int32))), .inl (.int (0 : Int32))] [] lk_X5_71 (by decide +kernel) rfl (by decide) rfl (Nat.le_of_ble_eq_true rfl) (Nat.le_of_ble_eq_true rfl) (hrec_2 hq89) ?_
          refine ax_Tgo [.aload_n 0, .bipush 11, .iconst 0] (pc' := 78) (L' := [some (.inr (5, i0)), some (.inr (10, 0)), some (.inl (.int a2)), some (.inl (.int a3)), some (.inl (.int r4)), some (.inl (.int x5)), none]) (st' := [.inl (.int (0 : Int32)), .inl (.int (11 : Int32)), .inr (5, i0)]) (S' := S88) ok_X5_readUnit.1 (by decide +kernel) rfl rfl ?_
          obtain ⟨S91, hq92, h⟩ := ax_bd_e h
          refine ax_TVv (d := d) (ka := 5) (i := i0) [.inl (.int (11 : Int32)), .inl (.int (0 : Int32))] [] lk_X5_57 (by decide +kernel) rfl (by decide) rfl (Nat.le_of_ble_eq_true rfl) (Nat.le_of_ble_eq_true rfl) ((t_X5_emit hq92).up (by omega)) ?_
          refine ax_Tgoto (off := 77) (tgt := 158) (by decide +kernel) (by decide) ?_
          cases h
          exact ax_Tretv (by decide +kernel) rfl
    · rw [if_neg c8] at h
      refine ax_Tgo [.iload_n 2, .bipush 6] (pc' := 39) (L' := [some (.inr (5, i0)), some (.inr (10, 0)), some (.inl (.int a2)), some (.inl (.int a3)), some (.inl (.int r4)), some (.inl (.int x5)), none]) (st' := [.inl (.int (6 : Int32)), .inl (.int a2)]) (S' := S6) ok_X5_readUnit.1 (by decide +kernel) rfl rfl ?_
      refine ax_Tic_lt (off := 10) (tgt := 49) (by decide +kernel) (by decide) (fun c94 => ?_) (fun c94 => ?_)
      · rw [if_pos c94] at h
        refine ax_Tgo [.iload 5] (pc' := 51) (L' := [some (.inr (5, i0)), some (.inr (10, 0)), some (.inl (.int a2)), some (.inl (.int a3)), some (.inl (.int r4)), some (.inl (.int x5)), none]) (st' := [.inl (.int x5)]) (S' := S6) ok_X5_readUnit.1 (by decide +kernel) rfl rfl ?_
        refine ax_Tif_eq (off := 33) (tgt := 84) (by decide +kernel) (by decide) (fun c95 => ?_) (fun c95 => ?_)
        · rw [if_pos c95] at h
          refine ax_Tgo [.iload 5] (pc' := 86) (L' := [some (.inr (5, i0)), some (.inr (10, 0)), some (.inl (.int a2)), some (.inl (.int a3)), some (.inl (.int r4)), some (.inl (.int x5)), none]) (st' := [.inl (.int x5)]) (S' := S6) ok_X5_readUnit.1 (by decide +kernel) rfl rfl ?_
          refine ax_Tif_eq (off := 25) (tgt := 111) (by decide +kernel) (by decide) (fun c96 => ?_) (fun c96 => ?_)
          · rw [if_pos c96] at h
            refine ax_Tgo [.iload_n 3] (pc' := 112) (L' := [some (.inr (5, i0)), some (.inr (10, 0)), some (.inl (.int a2)), some (.inl (.int a3)), some (.inl (.int r4)), some (.inl (.int x5)), none]) (st' := [.inl (.int a3)]) (S' := S6) ok_X5_readUnit.1 (by decide +kernel) rfl rfl ?_
            obtain ⟨J98, eJ98, h⟩ := ax_let_e h
            have hJ98 : ∀ (S97 : AS) Z, J98 S97 = some Z → ax_T l (d + 1) ma_X5_readUnit (121, [some (.inr (5, i0)), some (.inr (10, 0)), some (.inl (.int a2)), none, none, none, none], [], S97) none Z := by
              intro S97 Z h
              rw [← eJ98] at h
              try dsimp only at h
              refine ax_Tgo [.aload_n 1] (pc' := 122) (L' := [some (.inr (5, i0)), some (.inr (10, 0)), some (.inl (.int a2)), none, none, none, none]) (st' := [.inr (10, 0)]) (S' := S97) ok_X5_readUnit.1 (by decide +kernel) rfl rfl ?_
              obtain ⟨r102, S99, hq100, h⟩ := ax_bu_e h
              refine ax_TVi (d := d) (ka := 10) (i := 0) [] [] lk_X5_46 (by decide +kernel) rfl (by decide) rfl (Nat.le_of_ble_eq_true rfl) (Nat.le_of_ble_eq_true rfl) ((t_X10_peek hq100).up (by omega)) ?_
              obtain ⟨r106, hq104, h⟩ := ax_bd_e h
              refine ax_TSi (d := d) [.inl (.int r102)] [] lk_X5_53 (by decide +kernel) rfl rfl (Nat.le_of_ble_eq_true rfl) (Nat.le_of_ble_eq_true rfl) ((t_X5_relationOf hq104).up (by omega)) ?_
              refine ax_Tgo [.istore 6, .iload 6, .iconst (-1)] (pc' := 133) (L' := [some (.inr (5, i0)), some (.inr (10, 0)), some (.inl (.int a2)), none, none, none, some (.inl (.int r106))]) (st' := [.inl (.int (Int32.ofInt (-1))), .inl (.int r106)]) (S' := S99) ok_X5_readUnit.1 (by decide +kernel) rfl rfl ?_
              refine ax_Tic_ne (off := 8) (tgt := 141) (by decide +kernel) (by decide) (fun c107 => ?_) (fun c107 => ?_)
              · rw [if_neg c107] at h
                refine ax_Tgo [.aload_n 1] (pc' := 142) (L' := [some (.inr (5, i0)), some (.inr (10, 0)), some (.inl (.int a2)), none, none, none, some (.inl (.int r106))]) (st' := [.inr (10, 0)]) (S' := S99) ok_X5_readUnit.1 (by decide +kernel) rfl rfl ?_
                obtain ⟨S108, hq109, h⟩ := ax_bd_e h
                refine ax_TVv (d := d) (ka := 10) (i := 0) [] [] lk_X5_68 (by decide +kernel) rfl (by decide) rfl (Nat.le_of_ble_eq_true rfl) (Nat.le_of_ble_eq_true rfl) ((t_X10_pass hq109).up (by omega)) ?_
                refine ax_Tgo [.aload_n 0, .aload_n 1, .iload_n 2] (pc' := 148) (L' := [some (.inr (5, i0)), some (.inr (10, 0)), some (.inl (.int a2)), none, none, none, some (.inl (.int r106))]) (st' := [.inl (.int a2), .inr (10, 0), .inr (5, i0)]) (S' := S108) ok_X5_readUnit.1 (by decide +kernel) rfl rfl ?_
                obtain ⟨S111, hq112, h⟩ := ax_bd_e h
                refine ax_TVv (d := d) (ka := 5) (i := i0) [.inr (10, 0), .inl (.int a2)] [] lk_X5_49 (by decide +kernel) rfl (by decide) rfl (Nat.le_of_ble_eq_true rfl) (Nat.le_of_ble_eq_true rfl) (hrec_3 hq112) ?_
                refine ax_Tgo [.aload_n 0, .iload 6, .iconst 0] (pc' := 155) (L' := [some (.inr (5, i0)), some (.inr (10, 0)), some (.inl (.int a2)), none, none, none, some (.inl (.int r106))]) (st' := [.inl (.int (0 : Int32)), .inl (.int r106), .inr (5, i0)]) (S' := S111) ok_X5_readUnit.1 (by decide +kernel) rfl rfl ?_
                obtain ⟨S114, hq115, h⟩ := ax_bd_e h
                refine ax_TVv (d := d) (ka := 5) (i := i0) [.inl (.int r106), .inl (.int (0 : Int32))] [] lk_X5_57 (by decide +kernel) rfl (by decide) rfl (Nat.le_of_ble_eq_true rfl) (Nat.le_of_ble_eq_true rfl) ((t_X5_emit hq115).up (by omega)) ?_
                cases h
                exact ax_Tretv (by decide +kernel) rfl
              · rw [if_pos c107] at h
                refine ax_Tgo [.aload_n 1] (pc' := 137) (L' := [some (.inr (5, i0)), some (.inr (10, 0)), some (.inl (.int a2)), none, none, none, some (.inl (.int r106))]) (st' := [.inr (10, 0)]) (S' := S99) ok_X5_readUnit.1 (by decide +kernel) rfl rfl ?_
                obtain ⟨S117, hq118, h⟩ := ax_bd_e h
                refine ax_TVv (d := d) (ka := 10) (i := 0) [] [] lk_X5_74 (by decide +kernel) rfl (by decide) rfl (Nat.le_of_ble_eq_true rfl) (Nat.le_of_ble_eq_true rfl) ((t_X10_fail hq118).up (by omega)) ?_
                cases h
                exact ax_Tretv (by decide +kernel) rfl
            refine ax_Tif_ne (off := 9) (tgt := 121) (by decide +kernel) (by decide) (fun c120 => ?_) (fun c120 => ?_)
            · rw [if_neg c120] at h
              refine ax_Tdrop [true, true, true, false, false, false, true] (L' := [some (.inr (5, i0)), some (.inr (10, 0)), some (.inl (.int a2)), none, none, none, none]) rfl ?_
              exact hJ98 S6 _ h
            · rw [if_pos c120] at h
              refine ax_Tgo [.aload_n 0, .aload_n 1, .iload_n 2] (pc' := 118) (L' := [some (.inr (5, i0)), some (.inr (10, 0)), some (.inl (.int a2)), some (.inl (.int a3)), some (.inl (.int r4)), some (.inl (.int x5)), none]) (st' := [.inl (.int a2), .inr (10, 0), .inr (5, i0)]) (S' := S6) ok_X5_readUnit.1 (by decide +kernel) rfl rfl ?_
              obtain ⟨S121, hq122, h⟩ := ax_bd_e h
              refine ax_TVv (d := d) (ka := 5) (i := i0) [.inr (10, 0), .inl (.int a2)] [] lk_X5_49 (by decide +kernel) rfl (by decide) rfl (Nat.le_of_ble_eq_true rfl) (Nat.le_of_ble_eq_true rfl) (hrec_3 hq122) ?_
              refine ax_Tdrop [true, true, true, false, false, false, true] (L' := [some (.inr (5, i0)), some (.inr (10, 0)), some (.inl (.int a2)), none, none, none, none]) rfl ?_
              exact hJ98 S121 _ h
          · rw [if_neg c96] at h
            refine ax_Tgo [.aload_n 1] (pc' := 90) (L' := [some (.inr (5, i0)), some (.inr (10, 0)), some (.inl (.int a2)), some (.inl (.int a3)), some (.inl (.int r4)), some (.inl (.int x5)), none]) (st' := [.inr (10, 0)]) (S' := S6) ok_X5_readUnit.1 (by decide +kernel) rfl rfl ?_
            obtain ⟨S124, hq125, h⟩ := ax_bd_e h
            refine ax_TVv (d := d) (ka := 10) (i := 0) [] [] lk_X5_68 (by decide +kernel) rfl (by decide) rfl (Nat.le_of_ble_eq_true rfl) (Nat.le_of_ble_eq_true rfl) ((t_X10_pass hq125).up (by omega)) ?_
            refine ax_Tgo [.aload_n 0, .aload_n 1, .iload_n 2, .iconst 1, .iadd, .iconst 0] (pc' := 99) (L' := [some (.inr (5, i0)), some (.inr (10, 0)), some (.inl (.int a2)), some (.inl (.int a3)), some (.inl (.int r4)), some (.inl (.int x5)), none]) (st' := [.inl (.int (0 : Int32)), .inl (.int (a2 + (1 : Int32))), .inr (10, 0), .inr (5, i0)]) (S' := S124) ok_X5_readUnit.1 (by decide +kernel) rfl rfl ?_
            obtain ⟨S127, hq128, h⟩ := ax_bd_e h
            refine ax_TVv (d := d) (ka := 5) (i := i0) [.inr (10, 0), .inl (.int (a2 + (1 : Int32))), .inl (.int (0 : Int32))] [] lk_X5_61 (by decide +kernel) rfl (by decide) rfl (Nat.le_of_ble_eq_true rfl) (Nat.le_of_ble_eq_true rfl) (hrec_0 hq128) ?_
            refine ax_Tgo [.aload_n 1, .bipush 41] (pc' := 105) (L' := [some (.inr (5, i0)), some (.inr (10, 0)), some (.inl (.int a2)), some (.inl (.int a3)), some (.inl (.int r4)), some (.inl (.int x5)), none]) (st' := [.inl (.int (41 : Int32)), .inr (10, 0)]) (S' := S127) ok_X5_readUnit.1 (by decide +kernel) rfl rfl ?_
            obtain ⟨S130, hq131, h⟩ := ax_bd_e h
            refine ax_TVv (d := d) (ka := 10) (i := 0) [.inl (.int (41 : Int32))] [] lk_X5_42 (by decide +kernel) rfl (by decide) rfl (Nat.le_of_ble_eq_true rfl) (Nat.le_of_ble_eq_true rfl) ((t_X10_demand hq131).up (by omega)) ?_
            refine ax_Tgoto (off := 50) (tgt := 158) (by decide +kernel) (by decide) ?_
            cases h
            exact ax_Tretv (by decide +kernel) rfl
        · rw [if_neg c95] at h
          refine ax_Tgo [.iload 4, .bipush 33] (pc' := 58) (L' := [some (.inr (5, i0)), some (.inr (10, 0)), some (.inl (.int a2)), some (.inl (.int a3)), some (.inl (.int r4)), some (.inl (.int x5)), none]) (st' := [.inl (.int (33 : Int32)), .inl (.int r4)]) (S' := S6) ok_X5_readUnit.1 (by decide +kernel) rfl rfl ?_
          refine ax_Tic_ne (off := 26) (tgt := 84) (by decide +kernel) (by decide) (fun c133 => ?_) (fun c133 => ?_)
          · rw [if_neg c133] at h
            refine ax_Tgo [.iload 5] (pc' := 86) (L' := [some (.inr (5, i0)), some (.inr (10, 0)), some (.inl (.int a2)), some (.inl (.int a3)), some (.inl (.int r4)), some (.inl (.int x5)), none]) (st' := [.inl (.int x5)]) (S' := S6) ok_X5_readUnit.1 (by decide +kernel) rfl rfl ?_
            refine ax_Tif_eq (off := 25) (tgt := 111) (by decide +kernel) (by decide) (fun c134 => ?_) (fun c134 => ?_)
            · rw [if_pos c134] at h
              refine ax_Tgo [.iload_n 3] (pc' := 112) (L' := [some (.inr (5, i0)), some (.inr (10, 0)), some (.inl (.int a2)), some (.inl (.int a3)), some (.inl (.int r4)), some (.inl (.int x5)), none]) (st' := [.inl (.int a3)]) (S' := S6) ok_X5_readUnit.1 (by decide +kernel) rfl rfl ?_
              obtain ⟨J136, eJ136, h⟩ := ax_let_e h
              have hJ136 : ∀ (S135 : AS) Z, J136 S135 = some Z → ax_T l (d + 1) ma_X5_readUnit (121, [some (.inr (5, i0)), some (.inr (10, 0)), some (.inl (.int a2)), none, none, none, none], [], S135) none Z := by
                intro S135 Z h
                rw [← eJ136] at h
                try dsimp only at h
                refine ax_Tgo [.aload_n 1] (pc' := 122) (L' := [some (.inr (5, i0)), some (.inr (10, 0)), some (.inl (.int a2)), none, none, none, none]) (st' := [.inr (10, 0)]) (S' := S135) ok_X5_readUnit.1 (by decide +kernel) rfl rfl ?_
                obtain ⟨r140, S137, hq138, h⟩ := ax_bu_e h
                refine ax_TVi (d := d) (ka := 10) (i := 0) [] [] lk_X5_46 (by decide +kernel) rfl (by decide) rfl (Nat.le_of_ble_eq_true rfl) (Nat.le_of_ble_eq_true rfl) ((t_X10_peek hq138).up (by omega)) ?_
                obtain ⟨r144, hq142, h⟩ := ax_bd_e h
                refine ax_TSi (d := d) [.inl (.int r140)] [] lk_X5_53 (by decide +kernel) rfl rfl (Nat.le_of_ble_eq_true rfl) (Nat.le_of_ble_eq_true rfl) ((t_X5_relationOf hq142).up (by omega)) ?_
                refine ax_Tgo [.istore 6, .iload 6, .iconst (-1)] (pc' := 133) (L' := [some (.inr (5, i0)), some (.inr (10, 0)), some (.inl (.int a2)), none, none, none, some (.inl (.int r144))]) (st' := [.inl (.int (Int32.ofInt (-1))), .inl (.int r144)]) (S' := S137) ok_X5_readUnit.1 (by decide +kernel) rfl rfl ?_
                refine ax_Tic_ne (off := 8) (tgt := 141) (by decide +kernel) (by decide) (fun c145 => ?_) (fun c145 => ?_)
                · rw [if_neg c145] at h
                  refine ax_Tgo [.aload_n 1] (pc' := 142) (L' := [some (.inr (5, i0)), some (.inr (10, 0)), some (.inl (.int a2)), none, none, none, some (.inl (.int r144))]) (st' := [.inr (10, 0)]) (S' := S137) ok_X5_readUnit.1 (by decide +kernel) rfl rfl ?_
                  obtain ⟨S146, hq147, h⟩ := ax_bd_e h
                  refine ax_TVv (d := d) (ka := 10) (i := 0) [] [] lk_X5_68 (by decide +kernel) rfl (by decide) rfl (Nat.le_of_ble_eq_true rfl) (Nat.le_of_ble_eq_true rfl) ((t_X10_pass hq147).up (by omega)) ?_
                  refine ax_Tgo [.aload_n 0, .aload_n 1, .iload_n 2] (pc' := 148) (L' := [some (.inr (5, i0)), some (.inr (10, 0)), some (.inl (.int a2)), none, none, none, some (.inl (.int r144))]) (st' := [.inl (.int a2), .inr (10, 0), .inr (5, i0)]) (S' := S146) ok_X5_readUnit.1 (by decide +kernel) rfl rfl ?_
                  obtain ⟨S149, hq150, h⟩ := ax_bd_e h
                  refine ax_TVv (d := d) (ka := 5) (i := i0) [.inr (10, 0), .inl (.int a2)] [] lk_X5_49 (by decide +kernel) rfl (by decide) rfl (Nat.le_of_ble_eq_true rfl) (Nat.le_of_ble_eq_true rfl) (hrec_3 hq150) ?_
                  refine ax_Tgo [.aload_n 0, .iload 6, .iconst 0] (pc' := 155) (L' := [some (.inr (5, i0)), some (.inr (10, 0)), some (.inl (.int a2)), none, none, none, some (.inl (.int r144))]) (st' := [.inl (.int (0 : Int32)), .inl (.int r144), .inr (5, i0)]) (S' := S149) ok_X5_readUnit.1 (by decide +kernel) rfl rfl ?_
                  obtain ⟨S152, hq153, h⟩ := ax_bd_e h
                  refine ax_TVv (d := d) (ka := 5) (i := i0) [.inl (.int r144), .inl (.int (0 : Int32))] [] lk_X5_57 (by decide +kernel) rfl (by decide) rfl (Nat.le_of_ble_eq_true rfl) (Nat.le_of_ble_eq_true rfl) ((t_X5_emit hq153).up (by omega)) ?_
                  cases h
                  exact ax_Tretv (by decide +kernel) rfl
                · rw [if_pos c145] at h
                  refine ax_Tgo [.aload_n 1] (pc' := 137) (L' := [some (.inr (5, i0)), some (.inr (10, 0)), some (.inl (.int a2)), none, none, none, some (.inl (.int r144))]) (st' := [.inr (10, 0)]) (S' := S137) ok_X5_readUnit.1 (by decide +kernel) rfl rfl ?_
                  obtain ⟨S155, hq156, h⟩ := ax_bd_e h
                  refine ax_TVv (d := d) (ka := 10) (i := 0) [] [] lk_X5_74 (by decide +kernel) rfl (by decide) rfl (Nat.le_of_ble_eq_true rfl) (Nat.le_of_ble_eq_true rfl) ((t_X10_fail hq156).up (by omega)) ?_
                  cases h
                  exact ax_Tretv (by decide +kernel) rfl
              refine ax_Tif_ne (off := 9) (tgt := 121) (by decide +kernel) (by decide) (fun c158 => ?_) (fun c158 => ?_)
              · rw [if_neg c158] at h
                refine ax_Tdrop [true, true, true, false, false, false, true] (L' := [some (.inr (5, i0)), some (.inr (10, 0)), some (.inl (.int a2)), none, none, none, none]) rfl ?_
                exact hJ136 S6 _ h
              · rw [if_pos c158] at h
                refine ax_Tgo [.aload_n 0, .aload_n 1, .iload_n 2] (pc' := 118) (L' := [some (.inr (5, i0)), some (.inr (10, 0)), some (.inl (.int a2)), some (.inl (.int a3)), some (.inl (.int r4)), some (.inl (.int x5)), none]) (st' := [.inl (.int a2), .inr (10, 0), .inr (5, i0)]) (S' := S6) ok_X5_readUnit.1 (by decide +kernel) rfl rfl ?_
                obtain ⟨S159, hq160, h⟩ := ax_bd_e h
                refine ax_TVv (d := d) (ka := 5) (i := i0) [.inr (10, 0), .inl (.int a2)] [] lk_X5_49 (by decide +kernel) rfl (by decide) rfl (Nat.le_of_ble_eq_true rfl) (Nat.le_of_ble_eq_true rfl) (hrec_3 hq160) ?_
                refine ax_Tdrop [true, true, true, false, false, false, true] (L' := [some (.inr (5, i0)), some (.inr (10, 0)), some (.inl (.int a2)), none, none, none, none]) rfl ?_
                exact hJ136 S159 _ h
            · rw [if_neg c134] at h
              refine ax_Tgo [.aload_n 1] (pc' := 90) (L' := [some (.inr (5, i0)), some (.inr (10, 0)), some (.inl (.int a2)), some (.inl (.int a3)), some (.inl (.int r4)), some (.inl (.int x5)), none]) (st' := [.inr (10, 0)]) (S' := S6) ok_X5_readUnit.1 (by decide +kernel) rfl rfl ?_
              obtain ⟨S162, hq163, h⟩ := ax_bd_e h
              refine ax_TVv (d := d) (ka := 10) (i := 0) [] [] lk_X5_68 (by decide +kernel) rfl (by decide) rfl (Nat.le_of_ble_eq_true rfl) (Nat.le_of_ble_eq_true rfl) ((t_X10_pass hq163).up (by omega)) ?_
              refine ax_Tgo [.aload_n 0, .aload_n 1, .iload_n 2, .iconst 1, .iadd, .iconst 0] (pc' := 99) (L' := [some (.inr (5, i0)), some (.inr (10, 0)), some (.inl (.int a2)), some (.inl (.int a3)), some (.inl (.int r4)), some (.inl (.int x5)), none]) (st' := [.inl (.int (0 : Int32)), .inl (.int (a2 + (1 : Int32))), .inr (10, 0), .inr (5, i0)]) (S' := S162) ok_X5_readUnit.1 (by decide +kernel) rfl rfl ?_
              obtain ⟨S165, hq166, h⟩ := ax_bd_e h
              refine ax_TVv (d := d) (ka := 5) (i := i0) [.inr (10, 0), .inl (.int (a2 + (1 : Int32))), .inl (.int (0 : Int32))] [] lk_X5_61 (by decide +kernel) rfl (by decide) rfl (Nat.le_of_ble_eq_true rfl) (Nat.le_of_ble_eq_true rfl) (hrec_0 hq166) ?_
              refine ax_Tgo [.aload_n 1, .bipush 41] (pc' := 105) (L' := [some (.inr (5, i0)), some (.inr (10, 0)), some (.inl (.int a2)), some (.inl (.int a3)), some (.inl (.int r4)), some (.inl (.int x5)), none]) (st' := [.inl (.int (41 : Int32)), .inr (10, 0)]) (S' := S165) ok_X5_readUnit.1 (by decide +kernel) rfl rfl ?_
              obtain ⟨S168, hq169, h⟩ := ax_bd_e h
              refine ax_TVv (d := d) (ka := 10) (i := 0) [.inl (.int (41 : Int32))] [] lk_X5_42 (by decide +kernel) rfl (by decide) rfl (Nat.le_of_ble_eq_true rfl) (Nat.le_of_ble_eq_true rfl) ((t_X10_demand hq169).up (by omega)) ?_
              refine ax_Tgoto (off := 50) (tgt := 158) (by decide +kernel) (by decide) ?_
              cases h
              exact ax_Tretv (by decide +kernel) rfl
          · rw [if_pos c133] at h
            refine ax_Tgo [.aload_n 1] (pc' := 62) (L' := [some (.inr (5, i0)), some (.inr (10, 0)), some (.inl (.int a2)), some (.inl (.int a3)), some (.inl (.int r4)), some (.inl (.int x5)), none]) (st' := [.inr (10, 0)]) (S' := S6) ok_X5_readUnit.1 (by decide +kernel) rfl rfl ?_
            obtain ⟨S171, hq172, h⟩ := ax_bd_e h
            refine ax_TVv (d := d) (ka := 10) (i := 0) [] [] lk_X5_68 (by decide +kernel) rfl (by decide) rfl (Nat.le_of_ble_eq_true rfl) (Nat.le_of_ble_eq_true rfl) ((t_X10_pass hq172).up (by omega)) ?_
            refine ax_Tgo [.aload_n 0, .aload_n 1, .iload_n 2, .iconst 1, .iadd, .iconst 0] (pc' := 71) (L' := [some (.inr (5, i0)), some (.inr (10, 0)), some (.inl (.int a2)), some (.inl (.int a3)), some (.inl (.int r4)), some (.inl (.int x5)), none]) (st' := [.inl (.int (0 : Int32)), .inl (.int (a2 + (1 : Int32))), .inr (10, 0), .inr (5, i0)]) (S' := S171) ok_X5_readUnit.1 (by decide +kernel) rfl rfl ?_
            obtain ⟨S174, hq175, h⟩ := ax_bd_e h
            refine ax_TVv (d := d) (ka := 5) (i := i0) [.inr (10, 0), .inl (.int (a2 + (1 : Int32))), .inl (.int (0 : Int32))] [] lk_X5_71 (by decide +kernel) rfl (by decide) rfl (Nat.le_of_ble_eq_true rfl) (Nat.le_of_ble_eq_true rfl) (hrec_2 hq175) ?_
            refine ax_Tgo [.aload_n 0, .bipush 11, .iconst 0] (pc' := 78) (L' := [some (.inr (5, i0)), some (.inr (10, 0)), some (.inl (.int a2)), some (.inl (.int a3)), some (.inl (.int r4)), some (.inl (.int x5)), none]) (st' := [.inl (.int (0 : Int32)), .inl (.int (11 : Int32)), .inr (5, i0)]) (S' := S174) ok_X5_readUnit.1 (by decide +kernel) rfl rfl ?_
            obtain ⟨S177, hq178, h⟩ := ax_bd_e h
            refine ax_TVv (d := d) (ka := 5) (i := i0) [.inl (.int (11 : Int32)), .inl (.int (0 : Int32))] [] lk_X5_57 (by decide +kernel) rfl (by decide) rfl (Nat.le_of_ble_eq_true rfl) (Nat.le_of_ble_eq_true rfl) ((t_X5_emit hq178).up (by omega)) ?_
            refine ax_Tgoto (off := 77) (tgt := 158) (by decide +kernel) (by decide) ?_
            cases h
            exact ax_Tretv (by decide +kernel) rfl
      · rw [if_neg c94] at h
        refine ax_Tgo [.aload_n 1] (pc' := 43) (L' := [some (.inr (5, i0)), some (.inr (10, 0)), some (.inl (.int a2)), some (.inl (.int a3)), some (.inl (.int r4)), some (.inl (.int x5)), none]) (st' := [.inr (10, 0)]) (S' := S6) ok_X5_readUnit.1 (by decide +kernel) rfl rfl ?_
        obtain ⟨S180, hq181, h⟩ := ax_bd_e h
        refine ax_TVv (d := d) (ka := 10) (i := 0) [] [] lk_X5_74 (by decide +kernel) rfl (by decide) rfl (Nat.le_of_ble_eq_true rfl) (Nat.le_of_ble_eq_true rfl) ((t_X10_fail hq181).up (by omega)) ?_
        refine ax_Tgoto (off := 112) (tgt := 158) (by decide +kernel) (by decide) ?_
        cases h
        exact ax_Tretv (by decide +kernel) rfl
  refine ax_Tif_ne (off := 21) (tgt := 28) (by decide +kernel) (by decide) (fun c183 => ?_) (fun c183 => ?_)
  · rw [if_neg c183] at h
    refine ax_Tgo [.iconst 0] (pc' := 29) (L' := [some (.inr (5, i0)), some (.inr (10, 0)), some (.inl (.int a2)), some (.inl (.int a3)), some (.inl (.int r4)), none, none]) (st' := [.inl (.int (0 : Int32))]) (S' := S1) ok_X5_readUnit.1 (by decide +kernel) rfl rfl ?_
    exact hJ7 (0 : Int32) S1 _ h
  · rw [if_pos c183] at h
    refine ax_Tgo [.iload 4, .bipush 33] (pc' := 14) (L' := [some (.inr (5, i0)), some (.inr (10, 0)), some (.inl (.int a2)), some (.inl (.int a3)), some (.inl (.int r4)), none, none]) (st' := [.inl (.int (33 : Int32)), .inl (.int r4)]) (S' := S1) ok_X5_readUnit.1 (by decide +kernel) rfl rfl ?_
    refine ax_Tic_eq (off := 10) (tgt := 24) (by decide +kernel) (by decide) (fun c184 => ?_) (fun c184 => ?_)
    · rw [if_pos c184] at h
      refine ax_Tgo [.iconst 1] (pc' := 25) (L' := [some (.inr (5, i0)), some (.inr (10, 0)), some (.inl (.int a2)), some (.inl (.int a3)), some (.inl (.int r4)), none, none]) (st' := [.inl (.int (1 : Int32))]) (S' := S1) ok_X5_readUnit.1 (by decide +kernel) rfl rfl ?_
      refine ax_Tgoto (off := 4) (tgt := 29) (by decide +kernel) (by decide) ?_
      exact hJ7 (1 : Int32) S1 _ h
    · rw [if_neg c184] at h
      refine ax_Tgo [.iload 4, .bipush 40] (pc' := 21) (L' := [some (.inr (5, i0)), some (.inr (10, 0)), some (.inl (.int a2)), some (.inl (.int a3)), some (.inl (.int r4)), none, none]) (st' := [.inl (.int (40 : Int32)), .inl (.int r4)]) (S' := S1) ok_X5_readUnit.1 (by decide +kernel) rfl rfl ?_
      refine ax_Tic_ne (off := 7) (tgt := 28) (by decide +kernel) (by decide) (fun c185 => ?_) (fun c185 => ?_)
      · rw [if_neg c185] at h
        refine ax_Tgo [.iconst 0] (pc' := 29) (L' := [some (.inr (5, i0)), some (.inr (10, 0)), some (.inl (.int a2)), some (.inl (.int a3)), some (.inl (.int r4)), none, none]) (st' := [.inl (.int (0 : Int32))]) (S' := S1) ok_X5_readUnit.1 (by decide +kernel) rfl rfl ?_
        exact hJ7 (0 : Int32) S1 _ h
      · rw [if_pos c185] at h
        refine ax_Tgo [.iconst 1] (pc' := 25) (L' := [some (.inr (5, i0)), some (.inr (10, 0)), some (.inl (.int a2)), some (.inl (.int a3)), some (.inl (.int r4)), none, none]) (st' := [.inl (.int (1 : Int32))]) (S' := S1) ok_X5_readUnit.1 (by decide +kernel) rfl rfl ?_
        refine ax_Tgoto (off := 4) (tgt := 29) (by decide +kernel) (by decide) ?_
        exact hJ7 (1 : Int32) S1 _ h
set_option maxRecDepth 100000 in
theorem t_X5_readSum_L14 {l : Launch} {d : Nat} (hd : 4 ≤ d) {rec : Nat → Nat → Int32 → Int32 → AS → Option (AS)} (hrec_0 : ∀ {i0 : Nat} {a2 : Int32} {a3 : Int32} {S Z : AS}, rec 0 i0 a2 a3 S = some Z → ax_M l d ma_X5_readCondition [.inr (5, i0), .inr (10, 0), .inl (.int a2), .inl (.int a3)] S none Z) (hrec_1 : ∀ {i0 : Nat} {a2 : Int32} {a3 : Int32} {S Z : AS}, rec 1 i0 a2 a3 S = some Z → ax_M l d ma_X5_readTruth [.inr (5, i0), .inr (10, 0), .inl (.int a2), .inl (.int a3)] S none Z) (hrec_2 : ∀ {i0 : Nat} {a2 : Int32} {a3 : Int32} {S Z : AS}, rec 2 i0 a2 a3 S = some Z → ax_M l d ma_X5_readUnit [.inr (5, i0), .inr (10, 0), .inl (.int a2), .inl (.int a3)] S none Z) (hrec_3 : ∀ {i0 : Nat} {a2 : Int32} {S Z : AS}, rec 3 i0 a2 (0 : Int32) S = some Z → ax_M l d ma_X5_readSum [.inr (5, i0), .inr (10, 0), .inl (.int a2)] S none Z) (hrec_4 : ∀ {i0 : Nat} {a2 : Int32} {S Z : AS}, rec 4 i0 a2 (0 : Int32) S = some Z → ax_M l d ma_X5_readTerm [.inr (5, i0), .inr (10, 0), .inl (.int a2)] S none Z) (hrec_5 : ∀ {i0 : Nat} {a2 : Int32} {S Z : AS}, rec 5 i0 a2 (0 : Int32) S = some Z → ax_M l d ma_X5_readAtom [.inr (5, i0), .inr (10, 0), .inl (.int a2)] S none Z) {K71 : AS → Option (AS)} (hK71 : ∀ (S : AS) Z, K71 S = some Z → ax_T l (d + 1) ma_X5_readSum (71, [none, none, none, none, none], [], S) none Z) : ∀ (n : Nat) (y8 : Nat) (x9 : Int32) (x10 : Int32) (x11 : Int32) (S12 : AS) Z, f_X5_readSum_L14 rec K71 n y8 x9 x10 x11 S12 = some Z → ax_T l (d + 1) ma_X5_readSum (14, [some (.inr (5, y8)), some (.inr (10, 0)), some (.inl (.int x9)), some (.inl (.int x10)), some (.inl (.int x11))], [], S12) none Z := by
  intro n
  induction n with
  | zero =>
    intro y8 x9 x10 x11 S12 Z h
    cases h
  | succ n ih =>
    intro y8 x9 x10 x11 S12 Z h
    unfold f_X5_readSum_L14 at h
    refine ax_Tgo [.iload 4, .sipush 240] (pc' := 19) (L' := [some (.inr (5, y8)), some (.inr (10, 0)), some (.inl (.int x9)), some (.inl (.int x10)), some (.inl (.int x11))]) (st' := [.inl (.int (240 : Int32)), .inl (.int x11)]) (S' := S12) ok_X5_readSum.1 (by decide +kernel) rfl rfl ?_
    refine ax_Tic_ge (off := 52) (tgt := 71) (by decide +kernel) (by decide) (fun c13 => ?_) (fun c13 => ?_)
    · rw [if_pos c13] at h
      refine ax_Tdrop [false, false, false, false, false] (L' := [none, none, none, none, none]) rfl ?_
      exact hK71 S12 _ h
    · rw [if_neg c13] at h
      refine ax_Tgo [.iload_n 3, .bipush 43] (pc' := 25) (L' := [some (.inr (5, y8)), some (.inr (10, 0)), some (.inl (.int x9)), some (.inl (.int x10)), some (.inl (.int x11))]) (st' := [.inl (.int (43 : Int32)), .inl (.int x10)]) (S' := S12) ok_X5_readSum.1 (by decide +kernel) rfl rfl ?_
      refine ax_Tic_eq (off := 9) (tgt := 34) (by decide +kernel) (by decide) (fun c14 => ?_) (fun c14 => ?_)
      · rw [if_pos c14] at h
        refine ax_Tgo [.aload_n 1] (pc' := 35) (L' := [some (.inr (5, y8)), some (.inr (10, 0)), some (.inl (.int x9)), some (.inl (.int x10)), some (.inl (.int x11))]) (st' := [.inr (10, 0)]) (S' := S12) ok_X5_readSum.1 (by decide +kernel) rfl rfl ?_
        obtain ⟨S15, hq16, h⟩ := ax_bd_e h
        refine ax_TVv (d := d) (ka := 10) (i := 0) [] [] lk_X5_68 (by decide +kernel) rfl (by decide) rfl (Nat.le_of_ble_eq_true rfl) (Nat.le_of_ble_eq_true rfl) ((t_X10_pass hq16).up (by omega)) ?_
        refine ax_Tgo [.aload_n 0, .aload_n 1, .iload_n 2] (pc' := 41) (L' := [some (.inr (5, y8)), some (.inr (10, 0)), some (.inl (.int x9)), some (.inl (.int x10)), some (.inl (.int x11))]) (st' := [.inl (.int x9), .inr (10, 0), .inr (5, y8)]) (S' := S15) ok_X5_readSum.1 (by decide +kernel) rfl rfl ?_
        obtain ⟨S18, hq19, h⟩ := ax_bd_e h
        refine ax_TVv (d := d) (ka := 5) (i := y8) [.inr (10, 0), .inl (.int x9)] [] lk_X5_77 (by decide +kernel) rfl (by decide) rfl (Nat.le_of_ble_eq_true rfl) (Nat.le_of_ble_eq_true rfl) (hrec_4 hq19) ?_
        refine ax_Tgo [.aload_n 0, .iload_n 3, .bipush 43] (pc' := 48) (L' := [some (.inr (5, y8)), some (.inr (10, 0)), some (.inl (.int x9)), some (.inl (.int x10)), some (.inl (.int x11))]) (st' := [.inl (.int (43 : Int32)), .inl (.int x10), .inr (5, y8)]) (S' := S18) ok_X5_readSum.1 (by decide +kernel) rfl rfl ?_
        refine ax_Tic_ne (off := 7) (tgt := 55) (by decide +kernel) (by decide) (fun c21 => ?_) (fun c21 => ?_)
        · rw [if_neg c21] at h
          refine ax_Tgo [.iconst 3, .iconst 0] (pc' := 57) (L' := [some (.inr (5, y8)), some (.inr (10, 0)), some (.inl (.int x9)), some (.inl (.int x10)), some (.inl (.int x11))]) (st' := [.inl (.int (0 : Int32)), .inl (.int (3 : Int32)), .inr (5, y8)]) (S' := S18) ok_X5_readSum.1 (by decide +kernel) rfl rfl ?_
          obtain ⟨S22, hq23, h⟩ := ax_bd_e h
          refine ax_TVv (d := d) (ka := 5) (i := y8) [.inl (.int (3 : Int32)), .inl (.int (0 : Int32))] [] lk_X5_57 (by decide +kernel) rfl (by decide) rfl (Nat.le_of_ble_eq_true rfl) (Nat.le_of_ble_eq_true rfl) ((t_X5_emit hq23).up (by omega)) ?_
          refine ax_Tgo [.aload_n 1] (pc' := 61) (L' := [some (.inr (5, y8)), some (.inr (10, 0)), some (.inl (.int x9)), some (.inl (.int x10)), some (.inl (.int x11))]) (st' := [.inr (10, 0)]) (S' := S22) ok_X5_readSum.1 (by decide +kernel) rfl rfl ?_
          obtain ⟨r28, S25, hq26, h⟩ := ax_bu_e h
          refine ax_TVi (d := d) (ka := 10) (i := 0) [] [] lk_X5_46 (by decide +kernel) rfl (by decide) rfl (Nat.le_of_ble_eq_true rfl) (Nat.le_of_ble_eq_true rfl) ((t_X10_peek hq26).up (by omega)) ?_
          refine ax_Tgo [.istore_n 3, .iinc 4 1] (pc' := 68) (L' := [some (.inr (5, y8)), some (.inr (10, 0)), some (.inl (.int x9)), some (.inl (.int r28)), some (.inl (.int (x11 + (1 : Int32))))]) (st' := []) (S' := S25) ok_X5_readSum.1 (by decide +kernel) rfl rfl ?_
          obtain ⟨v29, ev29, h⟩ := ax_let_e h
          rw [ev29]
          refine ax_Tgoto (off := (-54)) (tgt := 14) (by decide +kernel) (by decide) ?_
          exact ih y8 x9 r28 v29 S25 _ h
        · rw [if_pos c21] at h
          refine ax_Tgo [.iconst 2] (pc' := 52) (L' := [some (.inr (5, y8)), some (.inr (10, 0)), some (.inl (.int x9)), some (.inl (.int x10)), some (.inl (.int x11))]) (st' := [.inl (.int (2 : Int32)), .inr (5, y8)]) (S' := S18) ok_X5_readSum.1 (by decide +kernel) rfl rfl ?_
          refine ax_Tgoto (off := 4) (tgt := 56) (by decide +kernel) (by decide) ?_
          refine ax_Tgo [.iconst 0] (pc' := 57) (L' := [some (.inr (5, y8)), some (.inr (10, 0)), some (.inl (.int x9)), some (.inl (.int x10)), some (.inl (.int x11))]) (st' := [.inl (.int (0 : Int32)), .inl (.int (2 : Int32)), .inr (5, y8)]) (S' := S18) ok_X5_readSum.1 (by decide +kernel) rfl rfl ?_
          obtain ⟨S30, hq31, h⟩ := ax_bd_e h
          refine ax_TVv (d := d) (ka := 5) (i := y8) [.inl (.int (2 : Int32)), .inl (.int (0 : Int32))] [] lk_X5_57 (by decide +kernel) rfl (by decide) rfl (Nat.le_of_ble_eq_true rfl) (Nat.le_of_ble_eq_true rfl) ((t_X5_emit hq31).up (by omega)) ?_
          refine ax_Tgo [.aload_n 1] (pc' := 61) (L' := [some (.inr (5, y8)), some (.inr (10, 0)), some (.inl (.int x9)), some (.inl (.int x10)), some (.inl (.int x11))]) (st' := [.inr (10, 0)]) (S' := S30) ok_X5_readSum.1 (by decide +kernel) rfl rfl ?_
          obtain ⟨r36, S33, hq34, h⟩ := ax_bu_e h
          refine ax_TVi (d := d) (ka := 10) (i := 0) [] [] lk_X5_46 (by decide +kernel) rfl (by decide) rfl (Nat.le_of_ble_eq_true rfl) (Nat.le_of_ble_eq_true rfl) ((t_X10_peek hq34).up (by omega)) ?_
          refine ax_Tgo [.istore_n 3, .iinc 4 1] (pc' := 68) (L' := [some (.inr (5, y8)), some (.inr (10, 0)), some (.inl (.int x9)), some (.inl (.int r36)), some (.inl (.int (x11 + (1 : Int32))))]) (st' := []) (S' := S33) ok_X5_readSum.1 (by decide +kernel) rfl rfl ?_
          obtain ⟨v37, ev37, h⟩ := ax_let_e h
          rw [ev37]
          refine ax_Tgoto (off := (-54)) (tgt := 14) (by decide +kernel) (by decide) ?_
          exact ih y8 x9 r36 v37 S33 _ h
      · rw [if_neg c14] at h
        refine ax_Tgo [.iload_n 3, .bipush 45] (pc' := 31) (L' := [some (.inr (5, y8)), some (.inr (10, 0)), some (.inl (.int x9)), some (.inl (.int x10)), some (.inl (.int x11))]) (st' := [.inl (.int (45 : Int32)), .inl (.int x10)]) (S' := S12) ok_X5_readSum.1 (by decide +kernel) rfl rfl ?_
        refine ax_Tic_ne (off := 40) (tgt := 71) (by decide +kernel) (by decide) (fun c38 => ?_) (fun c38 => ?_)
        · rw [if_neg c38] at h
          refine ax_Tdrop [false, false, false, false, false] (L' := [none, none, none, none, none]) rfl ?_
          exact hK71 S12 _ h
        · rw [if_pos c38] at h
          refine ax_Tgo [.aload_n 1] (pc' := 35) (L' := [some (.inr (5, y8)), some (.inr (10, 0)), some (.inl (.int x9)), some (.inl (.int x10)), some (.inl (.int x11))]) (st' := [.inr (10, 0)]) (S' := S12) ok_X5_readSum.1 (by decide +kernel) rfl rfl ?_
          obtain ⟨S39, hq40, h⟩ := ax_bd_e h
          refine ax_TVv (d := d) (ka := 10) (i := 0) [] [] lk_X5_68 (by decide +kernel) rfl (by decide) rfl (Nat.le_of_ble_eq_true rfl) (Nat.le_of_ble_eq_true rfl) ((t_X10_pass hq40).up (by omega)) ?_
          refine ax_Tgo [.aload_n 0, .aload_n 1, .iload_n 2] (pc' := 41) (L' := [some (.inr (5, y8)), some (.inr (10, 0)), some (.inl (.int x9)), some (.inl (.int x10)), some (.inl (.int x11))]) (st' := [.inl (.int x9), .inr (10, 0), .inr (5, y8)]) (S' := S39) ok_X5_readSum.1 (by decide +kernel) rfl rfl ?_
          obtain ⟨S42, hq43, h⟩ := ax_bd_e h
          refine ax_TVv (d := d) (ka := 5) (i := y8) [.inr (10, 0), .inl (.int x9)] [] lk_X5_77 (by decide +kernel) rfl (by decide) rfl (Nat.le_of_ble_eq_true rfl) (Nat.le_of_ble_eq_true rfl) (hrec_4 hq43) ?_
          refine ax_Tgo [.aload_n 0, .iload_n 3, .bipush 43] (pc' := 48) (L' := [some (.inr (5, y8)), some (.inr (10, 0)), some (.inl (.int x9)), some (.inl (.int x10)), some (.inl (.int x11))]) (st' := [.inl (.int (43 : Int32)), .inl (.int x10), .inr (5, y8)]) (S' := S42) ok_X5_readSum.1 (by decide +kernel) rfl rfl ?_
          refine ax_Tic_ne (off := 7) (tgt := 55) (by decide +kernel) (by decide) (fun c45 => ?_) (fun c45 => ?_)
          · rw [if_neg c45] at h
            refine ax_Tgo [.iconst 3, .iconst 0] (pc' := 57) (L' := [some (.inr (5, y8)), some (.inr (10, 0)), some (.inl (.int x9)), some (.inl (.int x10)), some (.inl (.int x11))]) (st' := [.inl (.int (0 : Int32)), .inl (.int (3 : Int32)), .inr (5, y8)]) (S' := S42) ok_X5_readSum.1 (by decide +kernel) rfl rfl ?_
            obtain ⟨S46, hq47, h⟩ := ax_bd_e h
            refine ax_TVv (d := d) (ka := 5) (i := y8) [.inl (.int (3 : Int32)), .inl (.int (0 : Int32))] [] lk_X5_57 (by decide +kernel) rfl (by decide) rfl (Nat.le_of_ble_eq_true rfl) (Nat.le_of_ble_eq_true rfl) ((t_X5_emit hq47).up (by omega)) ?_
            refine ax_Tgo [.aload_n 1] (pc' := 61) (L' := [some (.inr (5, y8)), some (.inr (10, 0)), some (.inl (.int x9)), some (.inl (.int x10)), some (.inl (.int x11))]) (st' := [.inr (10, 0)]) (S' := S46) ok_X5_readSum.1 (by decide +kernel) rfl rfl ?_
            obtain ⟨r52, S49, hq50, h⟩ := ax_bu_e h
            refine ax_TVi (d := d) (ka := 10) (i := 0) [] [] lk_X5_46 (by decide +kernel) rfl (by decide) rfl (Nat.le_of_ble_eq_true rfl) (Nat.le_of_ble_eq_true rfl) ((t_X10_peek hq50).up (by omega)) ?_
            refine ax_Tgo [.istore_n 3, .iinc 4 1] (pc' := 68) (L' := [some (.inr (5, y8)), some (.inr (10, 0)), some (.inl (.int x9)), some (.inl (.int r52)), some (.inl (.int (x11 + (1 : Int32))))]) (st' := []) (S' := S49) ok_X5_readSum.1 (by decide +kernel) rfl rfl ?_
            obtain ⟨v53, ev53, h⟩ := ax_let_e h
            rw [ev53]
            refine ax_Tgoto (off := (-54)) (tgt := 14) (by decide +kernel) (by decide) ?_
            exact ih y8 x9 r52 v53 S49 _ h
          · rw [if_pos c45] at h
            refine ax_Tgo [.iconst 2] (pc' := 52) (L' := [some (.inr (5, y8)), some (.inr (10, 0)), some (.inl (.int x9)), some (.inl (.int x10)), some (.inl (.int x11))]) (st' := [.inl (.int (2 : Int32)), .inr (5, y8)]) (S' := S42) ok_X5_readSum.1 (by decide +kernel) rfl rfl ?_
            refine ax_Tgoto (off := 4) (tgt := 56) (by decide +kernel) (by decide) ?_
            refine ax_Tgo [.iconst 0] (pc' := 57) (L' := [some (.inr (5, y8)), some (.inr (10, 0)), some (.inl (.int x9)), some (.inl (.int x10)), some (.inl (.int x11))]) (st' := [.inl (.int (0 : Int32)), .inl (.int (2 : Int32)), .inr (5, y8)]) (S' := S42) ok_X5_readSum.1 (by decide +kernel) rfl rfl ?_
            obtain ⟨S54, hq55, h⟩ := ax_bd_e h
            refine ax_TVv (d := d) (ka := 5) (i := y8) [.inl (.int (2 : Int32)), .inl (.int (0 : Int32))] [] lk_X5_57 (by decide +kernel) rfl (by decide) rfl (Nat.le_of_ble_eq_true rfl) (Nat.le_of_ble_eq_true rfl) ((t_X5_emit hq55).up (by omega)) ?_
            refine ax_Tgo [.aload_n 1] (pc' := 61) (L' := [some (.inr (5, y8)), some (.inr (10, 0)), some (.inl (.int x9)), some (.inl (.int x10)), some (.inl (.int x11))]) (st' := [.inr (10, 0)]) (S' := S54) ok_X5_readSum.1 (by decide +kernel) rfl rfl ?_
            obtain ⟨r60, S57, hq58, h⟩ := ax_bu_e h
            refine ax_TVi (d := d) (ka := 10) (i := 0) [] [] lk_X5_46 (by decide +kernel) rfl (by decide) rfl (Nat.le_of_ble_eq_true rfl) (Nat.le_of_ble_eq_true rfl) ((t_X10_peek hq58).up (by omega)) ?_
            refine ax_Tgo [.istore_n 3, .iinc 4 1] (pc' := 68) (L' := [some (.inr (5, y8)), some (.inr (10, 0)), some (.inl (.int x9)), some (.inl (.int r60)), some (.inl (.int (x11 + (1 : Int32))))]) (st' := []) (S' := S57) ok_X5_readSum.1 (by decide +kernel) rfl rfl ?_
            obtain ⟨v61, ev61, h⟩ := ax_let_e h
            rw [ev61]
            refine ax_Tgoto (off := (-54)) (tgt := 14) (by decide +kernel) (by decide) ?_
            exact ih y8 x9 r60 v61 S57 _ h
set_option maxRecDepth 100000 in
theorem tb_X5_readSum {l : Launch} {d : Nat} (hd : 4 ≤ d) {rec : Nat → Nat → Int32 → Int32 → AS → Option (AS)} (hrec_0 : ∀ {i0 : Nat} {a2 : Int32} {a3 : Int32} {S Z : AS}, rec 0 i0 a2 a3 S = some Z → ax_M l d ma_X5_readCondition [.inr (5, i0), .inr (10, 0), .inl (.int a2), .inl (.int a3)] S none Z) (hrec_1 : ∀ {i0 : Nat} {a2 : Int32} {a3 : Int32} {S Z : AS}, rec 1 i0 a2 a3 S = some Z → ax_M l d ma_X5_readTruth [.inr (5, i0), .inr (10, 0), .inl (.int a2), .inl (.int a3)] S none Z) (hrec_2 : ∀ {i0 : Nat} {a2 : Int32} {a3 : Int32} {S Z : AS}, rec 2 i0 a2 a3 S = some Z → ax_M l d ma_X5_readUnit [.inr (5, i0), .inr (10, 0), .inl (.int a2), .inl (.int a3)] S none Z) (hrec_3 : ∀ {i0 : Nat} {a2 : Int32} {S Z : AS}, rec 3 i0 a2 (0 : Int32) S = some Z → ax_M l d ma_X5_readSum [.inr (5, i0), .inr (10, 0), .inl (.int a2)] S none Z) (hrec_4 : ∀ {i0 : Nat} {a2 : Int32} {S Z : AS}, rec 4 i0 a2 (0 : Int32) S = some Z → ax_M l d ma_X5_readTerm [.inr (5, i0), .inr (10, 0), .inl (.int a2)] S none Z) (hrec_5 : ∀ {i0 : Nat} {a2 : Int32} {S Z : AS}, rec 5 i0 a2 (0 : Int32) S = some Z → ax_M l d ma_X5_readAtom [.inr (5, i0), .inr (10, 0), .inl (.int a2)] S none Z) {i0 : Nat} {a2 : Int32} {S Z : AS} (h : b_X5_readSum rec i0 a2 S = some Z) : ax_M l (d + 1) ma_X5_readSum [.inr (5, i0), .inr (10, 0), .inl (.int a2)] S none Z := by
  unfold b_X5_readSum at h
  show ax_T l (d + 1) ma_X5_readSum (0, [some (.inr (5, i0)), some (.inr (10, 0)), some (.inl (.int a2)), none, none], [], S) none Z
  refine ax_Tgo [.aload_n 0, .aload_n 1, .iload_n 2] (pc' := 3) (L' := [some (.inr (5, i0)), some (.inr (10, 0)), some (.inl (.int a2)), none, none]) (st' := [.inl (.int a2), .inr (10, 0), .inr (5, i0)]) (S' := S) ok_X5_readSum.1 (by decide +kernel) rfl rfl ?_
  obtain ⟨S1, hq2, h⟩ := ax_bd_e h
  refine ax_TVv (d := d) (ka := 5) (i := i0) [.inr (10, 0), .inl (.int a2)] [] lk_X5_77 (by decide +kernel) rfl (by decide) rfl (Nat.le_of_ble_eq_true rfl) (Nat.le_of_ble_eq_true rfl) (hrec_4 hq2) ?_
  refine ax_Tgo [.aload_n 1] (pc' := 7) (L' := [some (.inr (5, i0)), some (.inr (10, 0)), some (.inl (.int a2)), none, none]) (st' := [.inr (10, 0)]) (S' := S1) ok_X5_readSum.1 (by decide +kernel) rfl rfl ?_
  obtain ⟨r7, S4, hq5, h⟩ := ax_bu_e h
  refine ax_TVi (d := d) (ka := 10) (i := 0) [] [] lk_X5_46 (by decide +kernel) rfl (by decide) rfl (Nat.le_of_ble_eq_true rfl) (Nat.le_of_ble_eq_true rfl) ((t_X10_peek hq5).up (by omega)) ?_
  refine ax_Tgo [.istore_n 3, .iconst 0, .istore 4] (pc' := 14) (L' := [some (.inr (5, i0)), some (.inr (10, 0)), some (.inl (.int a2)), some (.inl (.int r7)), some (.inl (.int (0 : Int32)))]) (st' := []) (S' := S4) ok_X5_readSum.1 (by decide +kernel) rfl rfl ?_
  refine t_X5_readSum_L14 hd hrec_0 hrec_1 hrec_2 hrec_3 hrec_4 hrec_5 ?_ _ i0 a2 r7 (0 : Int32) S4 _ h
  · intro S62 Z h
    cases h
    exact ax_Tretv (by decide +kernel) rfl
set_option maxRecDepth 100000 in
theorem t_X5_readTerm_L14 {l : Launch} {d : Nat} (hd : 4 ≤ d) {rec : Nat → Nat → Int32 → Int32 → AS → Option (AS)} (hrec_0 : ∀ {i0 : Nat} {a2 : Int32} {a3 : Int32} {S Z : AS}, rec 0 i0 a2 a3 S = some Z → ax_M l d ma_X5_readCondition [.inr (5, i0), .inr (10, 0), .inl (.int a2), .inl (.int a3)] S none Z) (hrec_1 : ∀ {i0 : Nat} {a2 : Int32} {a3 : Int32} {S Z : AS}, rec 1 i0 a2 a3 S = some Z → ax_M l d ma_X5_readTruth [.inr (5, i0), .inr (10, 0), .inl (.int a2), .inl (.int a3)] S none Z) (hrec_2 : ∀ {i0 : Nat} {a2 : Int32} {a3 : Int32} {S Z : AS}, rec 2 i0 a2 a3 S = some Z → ax_M l d ma_X5_readUnit [.inr (5, i0), .inr (10, 0), .inl (.int a2), .inl (.int a3)] S none Z) (hrec_3 : ∀ {i0 : Nat} {a2 : Int32} {S Z : AS}, rec 3 i0 a2 (0 : Int32) S = some Z → ax_M l d ma_X5_readSum [.inr (5, i0), .inr (10, 0), .inl (.int a2)] S none Z) (hrec_4 : ∀ {i0 : Nat} {a2 : Int32} {S Z : AS}, rec 4 i0 a2 (0 : Int32) S = some Z → ax_M l d ma_X5_readTerm [.inr (5, i0), .inr (10, 0), .inl (.int a2)] S none Z) (hrec_5 : ∀ {i0 : Nat} {a2 : Int32} {S Z : AS}, rec 5 i0 a2 (0 : Int32) S = some Z → ax_M l d ma_X5_readAtom [.inr (5, i0), .inr (10, 0), .inl (.int a2)] S none Z) {K71 : AS → Option (AS)} (hK71 : ∀ (S : AS) Z, K71 S = some Z → ax_T l (d + 1) ma_X5_readTerm (71, [none, none, none, none, none], [], S) none Z) : ∀ (n : Nat) (y8 : Nat) (x9 : Int32) (x10 : Int32) (x11 : Int32) (S12 : AS) Z, f_X5_readTerm_L14 rec K71 n y8 x9 x10 x11 S12 = some Z → ax_T l (d + 1) ma_X5_readTerm (14, [some (.inr (5, y8)), some (.inr (10, 0)), some (.inl (.int x9)), some (.inl (.int x10)), some (.inl (.int x11))], [], S12) none Z := by
  intro n
  induction n with
  | zero =>
    intro y8 x9 x10 x11 S12 Z h
    cases h
  | succ n ih =>
    intro y8 x9 x10 x11 S12 Z h
    unfold f_X5_readTerm_L14 at h
    refine ax_Tgo [.iload 4, .sipush 240] (pc' := 19) (L' := [some (.inr (5, y8)), some (.inr (10, 0)), some (.inl (.int x9)), some (.inl (.int x10)), some (.inl (.int x11))]) (st' := [.inl (.int (240 : Int32)), .inl (.int x11)]) (S' := S12) ok_X5_readTerm.1 (by decide +kernel) rfl rfl ?_
    refine ax_Tic_ge (off := 52) (tgt := 71) (by decide +kernel) (by decide) (fun c13 => ?_) (fun c13 => ?_)
    · rw [if_pos c13] at h
      refine ax_Tdrop [false, false, false, false, false] (L' := [none, none, none, none, none]) rfl ?_
      exact hK71 S12 _ h
    · rw [if_neg c13] at h
      refine ax_Tgo [.iload_n 3, .bipush 42] (pc' := 25) (L' := [some (.inr (5, y8)), some (.inr (10, 0)), some (.inl (.int x9)), some (.inl (.int x10)), some (.inl (.int x11))]) (st' := [.inl (.int (42 : Int32)), .inl (.int x10)]) (S' := S12) ok_X5_readTerm.1 (by decide +kernel) rfl rfl ?_
      refine ax_Tic_eq (off := 9) (tgt := 34) (by decide +kernel) (by decide) (fun c14 => ?_) (fun c14 => ?_)
      · rw [if_pos c14] at h
        refine ax_Tgo [.aload_n 1] (pc' := 35) (L' := [some (.inr (5, y8)), some (.inr (10, 0)), some (.inl (.int x9)), some (.inl (.int x10)), some (.inl (.int x11))]) (st' := [.inr (10, 0)]) (S' := S12) ok_X5_readTerm.1 (by decide +kernel) rfl rfl ?_
        obtain ⟨S15, hq16, h⟩ := ax_bd_e h
        refine ax_TVv (d := d) (ka := 10) (i := 0) [] [] lk_X5_68 (by decide +kernel) rfl (by decide) rfl (Nat.le_of_ble_eq_true rfl) (Nat.le_of_ble_eq_true rfl) ((t_X10_pass hq16).up (by omega)) ?_
        refine ax_Tgo [.aload_n 0, .aload_n 1, .iload_n 2] (pc' := 41) (L' := [some (.inr (5, y8)), some (.inr (10, 0)), some (.inl (.int x9)), some (.inl (.int x10)), some (.inl (.int x11))]) (st' := [.inl (.int x9), .inr (10, 0), .inr (5, y8)]) (S' := S15) ok_X5_readTerm.1 (by decide +kernel) rfl rfl ?_
        obtain ⟨S18, hq19, h⟩ := ax_bd_e h
        refine ax_TVv (d := d) (ka := 5) (i := y8) [.inr (10, 0), .inl (.int x9)] [] lk_X5_80 (by decide +kernel) rfl (by decide) rfl (Nat.le_of_ble_eq_true rfl) (Nat.le_of_ble_eq_true rfl) (hrec_5 hq19) ?_
        refine ax_Tgo [.aload_n 0, .iload_n 3, .bipush 42] (pc' := 48) (L' := [some (.inr (5, y8)), some (.inr (10, 0)), some (.inl (.int x9)), some (.inl (.int x10)), some (.inl (.int x11))]) (st' := [.inl (.int (42 : Int32)), .inl (.int x10), .inr (5, y8)]) (S' := S18) ok_X5_readTerm.1 (by decide +kernel) rfl rfl ?_
        refine ax_Tic_ne (off := 7) (tgt := 55) (by decide +kernel) (by decide) (fun c21 => ?_) (fun c21 => ?_)
        · rw [if_neg c21] at h
          refine ax_Tgo [.iconst 5, .iconst 0] (pc' := 57) (L' := [some (.inr (5, y8)), some (.inr (10, 0)), some (.inl (.int x9)), some (.inl (.int x10)), some (.inl (.int x11))]) (st' := [.inl (.int (0 : Int32)), .inl (.int (5 : Int32)), .inr (5, y8)]) (S' := S18) ok_X5_readTerm.1 (by decide +kernel) rfl rfl ?_
          obtain ⟨S22, hq23, h⟩ := ax_bd_e h
          refine ax_TVv (d := d) (ka := 5) (i := y8) [.inl (.int (5 : Int32)), .inl (.int (0 : Int32))] [] lk_X5_57 (by decide +kernel) rfl (by decide) rfl (Nat.le_of_ble_eq_true rfl) (Nat.le_of_ble_eq_true rfl) ((t_X5_emit hq23).up (by omega)) ?_
          refine ax_Tgo [.aload_n 1] (pc' := 61) (L' := [some (.inr (5, y8)), some (.inr (10, 0)), some (.inl (.int x9)), some (.inl (.int x10)), some (.inl (.int x11))]) (st' := [.inr (10, 0)]) (S' := S22) ok_X5_readTerm.1 (by decide +kernel) rfl rfl ?_
          obtain ⟨r28, S25, hq26, h⟩ := ax_bu_e h
          refine ax_TVi (d := d) (ka := 10) (i := 0) [] [] lk_X5_46 (by decide +kernel) rfl (by decide) rfl (Nat.le_of_ble_eq_true rfl) (Nat.le_of_ble_eq_true rfl) ((t_X10_peek hq26).up (by omega)) ?_
          refine ax_Tgo [.istore_n 3, .iinc 4 1] (pc' := 68) (L' := [some (.inr (5, y8)), some (.inr (10, 0)), some (.inl (.int x9)), some (.inl (.int r28)), some (.inl (.int (x11 + (1 : Int32))))]) (st' := []) (S' := S25) ok_X5_readTerm.1 (by decide +kernel) rfl rfl ?_
          obtain ⟨v29, ev29, h⟩ := ax_let_e h
          rw [ev29]
          refine ax_Tgoto (off := (-54)) (tgt := 14) (by decide +kernel) (by decide) ?_
          exact ih y8 x9 r28 v29 S25 _ h
        · rw [if_pos c21] at h
          refine ax_Tgo [.iconst 4] (pc' := 52) (L' := [some (.inr (5, y8)), some (.inr (10, 0)), some (.inl (.int x9)), some (.inl (.int x10)), some (.inl (.int x11))]) (st' := [.inl (.int (4 : Int32)), .inr (5, y8)]) (S' := S18) ok_X5_readTerm.1 (by decide +kernel) rfl rfl ?_
          refine ax_Tgoto (off := 4) (tgt := 56) (by decide +kernel) (by decide) ?_
          refine ax_Tgo [.iconst 0] (pc' := 57) (L' := [some (.inr (5, y8)), some (.inr (10, 0)), some (.inl (.int x9)), some (.inl (.int x10)), some (.inl (.int x11))]) (st' := [.inl (.int (0 : Int32)), .inl (.int (4 : Int32)), .inr (5, y8)]) (S' := S18) ok_X5_readTerm.1 (by decide +kernel) rfl rfl ?_
          obtain ⟨S30, hq31, h⟩ := ax_bd_e h
          refine ax_TVv (d := d) (ka := 5) (i := y8) [.inl (.int (4 : Int32)), .inl (.int (0 : Int32))] [] lk_X5_57 (by decide +kernel) rfl (by decide) rfl (Nat.le_of_ble_eq_true rfl) (Nat.le_of_ble_eq_true rfl) ((t_X5_emit hq31).up (by omega)) ?_
          refine ax_Tgo [.aload_n 1] (pc' := 61) (L' := [some (.inr (5, y8)), some (.inr (10, 0)), some (.inl (.int x9)), some (.inl (.int x10)), some (.inl (.int x11))]) (st' := [.inr (10, 0)]) (S' := S30) ok_X5_readTerm.1 (by decide +kernel) rfl rfl ?_
          obtain ⟨r36, S33, hq34, h⟩ := ax_bu_e h
          refine ax_TVi (d := d) (ka := 10) (i := 0) [] [] lk_X5_46 (by decide +kernel) rfl (by decide) rfl (Nat.le_of_ble_eq_true rfl) (Nat.le_of_ble_eq_true rfl) ((t_X10_peek hq34).up (by omega)) ?_
          refine ax_Tgo [.istore_n 3, .iinc 4 1] (pc' := 68) (L' := [some (.inr (5, y8)), some (.inr (10, 0)), some (.inl (.int x9)), some (.inl (.int r36)), some (.inl (.int (x11 + (1 : Int32))))]) (st' := []) (S' := S33) ok_X5_readTerm.1 (by decide +kernel) rfl rfl ?_
          obtain ⟨v37, ev37, h⟩ := ax_let_e h
          rw [ev37]
          refine ax_Tgoto (off := (-54)) (tgt := 14) (by decide +kernel) (by decide) ?_
          exact ih y8 x9 r36 v37 S33 _ h
      · rw [if_neg c14] at h
        refine ax_Tgo [.iload_n 3, .bipush 47] (pc' := 31) (L' := [some (.inr (5, y8)), some (.inr (10, 0)), some (.inl (.int x9)), some (.inl (.int x10)), some (.inl (.int x11))]) (st' := [.inl (.int (47 : Int32)), .inl (.int x10)]) (S' := S12) ok_X5_readTerm.1 (by decide +kernel) rfl rfl ?_
        refine ax_Tic_ne (off := 40) (tgt := 71) (by decide +kernel) (by decide) (fun c38 => ?_) (fun c38 => ?_)
        · rw [if_neg c38] at h
          refine ax_Tdrop [false, false, false, false, false] (L' := [none, none, none, none, none]) rfl ?_
          exact hK71 S12 _ h
        · rw [if_pos c38] at h
          refine ax_Tgo [.aload_n 1] (pc' := 35) (L' := [some (.inr (5, y8)), some (.inr (10, 0)), some (.inl (.int x9)), some (.inl (.int x10)), some (.inl (.int x11))]) (st' := [.inr (10, 0)]) (S' := S12) ok_X5_readTerm.1 (by decide +kernel) rfl rfl ?_
          obtain ⟨S39, hq40, h⟩ := ax_bd_e h
          refine ax_TVv (d := d) (ka := 10) (i := 0) [] [] lk_X5_68 (by decide +kernel) rfl (by decide) rfl (Nat.le_of_ble_eq_true rfl) (Nat.le_of_ble_eq_true rfl) ((t_X10_pass hq40).up (by omega)) ?_
          refine ax_Tgo [.aload_n 0, .aload_n 1, .iload_n 2] (pc' := 41) (L' := [some (.inr (5, y8)), some (.inr (10, 0)), some (.inl (.int x9)), some (.inl (.int x10)), some (.inl (.int x11))]) (st' := [.inl (.int x9), .inr (10, 0), .inr (5, y8)]) (S' := S39) ok_X5_readTerm.1 (by decide +kernel) rfl rfl ?_
          obtain ⟨S42, hq43, h⟩ := ax_bd_e h
          refine ax_TVv (d := d) (ka := 5) (i := y8) [.inr (10, 0), .inl (.int x9)] [] lk_X5_80 (by decide +kernel) rfl (by decide) rfl (Nat.le_of_ble_eq_true rfl) (Nat.le_of_ble_eq_true rfl) (hrec_5 hq43) ?_
          refine ax_Tgo [.aload_n 0, .iload_n 3, .bipush 42] (pc' := 48) (L' := [some (.inr (5, y8)), some (.inr (10, 0)), some (.inl (.int x9)), some (.inl (.int x10)), some (.inl (.int x11))]) (st' := [.inl (.int (42 : Int32)), .inl (.int x10), .inr (5, y8)]) (S' := S42) ok_X5_readTerm.1 (by decide +kernel) rfl rfl ?_
          refine ax_Tic_ne (off := 7) (tgt := 55) (by decide +kernel) (by decide) (fun c45 => ?_) (fun c45 => ?_)
          · rw [if_neg c45] at h
            refine ax_Tgo [.iconst 5, .iconst 0] (pc' := 57) (L' := [some (.inr (5, y8)), some (.inr (10, 0)), some (.inl (.int x9)), some (.inl (.int x10)), some (.inl (.int x11))]) (st' := [.inl (.int (0 : Int32)), .inl (.int (5 : Int32)), .inr (5, y8)]) (S' := S42) ok_X5_readTerm.1 (by decide +kernel) rfl rfl ?_
            obtain ⟨S46, hq47, h⟩ := ax_bd_e h
            refine ax_TVv (d := d) (ka := 5) (i := y8) [.inl (.int (5 : Int32)), .inl (.int (0 : Int32))] [] lk_X5_57 (by decide +kernel) rfl (by decide) rfl (Nat.le_of_ble_eq_true rfl) (Nat.le_of_ble_eq_true rfl) ((t_X5_emit hq47).up (by omega)) ?_
            refine ax_Tgo [.aload_n 1] (pc' := 61) (L' := [some (.inr (5, y8)), some (.inr (10, 0)), some (.inl (.int x9)), some (.inl (.int x10)), some (.inl (.int x11))]) (st' := [.inr (10, 0)]) (S' := S46) ok_X5_readTerm.1 (by decide +kernel) rfl rfl ?_
            obtain ⟨r52, S49, hq50, h⟩ := ax_bu_e h
            refine ax_TVi (d := d) (ka := 10) (i := 0) [] [] lk_X5_46 (by decide +kernel) rfl (by decide) rfl (Nat.le_of_ble_eq_true rfl) (Nat.le_of_ble_eq_true rfl) ((t_X10_peek hq50).up (by omega)) ?_
            refine ax_Tgo [.istore_n 3, .iinc 4 1] (pc' := 68) (L' := [some (.inr (5, y8)), some (.inr (10, 0)), some (.inl (.int x9)), some (.inl (.int r52)), some (.inl (.int (x11 + (1 : Int32))))]) (st' := []) (S' := S49) ok_X5_readTerm.1 (by decide +kernel) rfl rfl ?_
            obtain ⟨v53, ev53, h⟩ := ax_let_e h
            rw [ev53]
            refine ax_Tgoto (off := (-54)) (tgt := 14) (by decide +kernel) (by decide) ?_
            exact ih y8 x9 r52 v53 S49 _ h
          · rw [if_pos c45] at h
            refine ax_Tgo [.iconst 4] (pc' := 52) (L' := [some (.inr (5, y8)), some (.inr (10, 0)), some (.inl (.int x9)), some (.inl (.int x10)), some (.inl (.int x11))]) (st' := [.inl (.int (4 : Int32)), .inr (5, y8)]) (S' := S42) ok_X5_readTerm.1 (by decide +kernel) rfl rfl ?_
            refine ax_Tgoto (off := 4) (tgt := 56) (by decide +kernel) (by decide) ?_
            refine ax_Tgo [.iconst 0] (pc' := 57) (L' := [some (.inr (5, y8)), some (.inr (10, 0)), some (.inl (.int x9)), some (.inl (.int x10)), some (.inl (.int x11))]) (st' := [.inl (.int (0 : Int32)), .inl (.int (4 : Int32)), .inr (5, y8)]) (S' := S42) ok_X5_readTerm.1 (by decide +kernel) rfl rfl ?_
            obtain ⟨S54, hq55, h⟩ := ax_bd_e h
            refine ax_TVv (d := d) (ka := 5) (i := y8) [.inl (.int (4 : Int32)), .inl (.int (0 : Int32))] [] lk_X5_57 (by decide +kernel) rfl (by decide) rfl (Nat.le_of_ble_eq_true rfl) (Nat.le_of_ble_eq_true rfl) ((t_X5_emit hq55).up (by omega)) ?_
            refine ax_Tgo [.aload_n 1] (pc' := 61) (L' := [some (.inr (5, y8)), some (.inr (10, 0)), some (.inl (.int x9)), some (.inl (.int x10)), some (.inl (.int x11))]) (st' := [.inr (10, 0)]) (S' := S54) ok_X5_readTerm.1 (by decide +kernel) rfl rfl ?_
            obtain ⟨r60, S57, hq58, h⟩ := ax_bu_e h
            refine ax_TVi (d := d) (ka := 10) (i := 0) [] [] lk_X5_46 (by decide +kernel) rfl (by decide) rfl (Nat.le_of_ble_eq_true rfl) (Nat.le_of_ble_eq_true rfl) ((t_X10_peek hq58).up (by omega)) ?_
            refine ax_Tgo [.istore_n 3, .iinc 4 1] (pc' := 68) (L' := [some (.inr (5, y8)), some (.inr (10, 0)), some (.inl (.int x9)), some (.inl (.int r60)), some (.inl (.int (x11 + (1 : Int32))))]) (st' := []) (S' := S57) ok_X5_readTerm.1 (by decide +kernel) rfl rfl ?_
            obtain ⟨v61, ev61, h⟩ := ax_let_e h
            rw [ev61]
            refine ax_Tgoto (off := (-54)) (tgt := 14) (by decide +kernel) (by decide) ?_
            exact ih y8 x9 r60 v61 S57 _ h
set_option maxRecDepth 100000 in
theorem tb_X5_readTerm {l : Launch} {d : Nat} (hd : 4 ≤ d) {rec : Nat → Nat → Int32 → Int32 → AS → Option (AS)} (hrec_0 : ∀ {i0 : Nat} {a2 : Int32} {a3 : Int32} {S Z : AS}, rec 0 i0 a2 a3 S = some Z → ax_M l d ma_X5_readCondition [.inr (5, i0), .inr (10, 0), .inl (.int a2), .inl (.int a3)] S none Z) (hrec_1 : ∀ {i0 : Nat} {a2 : Int32} {a3 : Int32} {S Z : AS}, rec 1 i0 a2 a3 S = some Z → ax_M l d ma_X5_readTruth [.inr (5, i0), .inr (10, 0), .inl (.int a2), .inl (.int a3)] S none Z) (hrec_2 : ∀ {i0 : Nat} {a2 : Int32} {a3 : Int32} {S Z : AS}, rec 2 i0 a2 a3 S = some Z → ax_M l d ma_X5_readUnit [.inr (5, i0), .inr (10, 0), .inl (.int a2), .inl (.int a3)] S none Z) (hrec_3 : ∀ {i0 : Nat} {a2 : Int32} {S Z : AS}, rec 3 i0 a2 (0 : Int32) S = some Z → ax_M l d ma_X5_readSum [.inr (5, i0), .inr (10, 0), .inl (.int a2)] S none Z) (hrec_4 : ∀ {i0 : Nat} {a2 : Int32} {S Z : AS}, rec 4 i0 a2 (0 : Int32) S = some Z → ax_M l d ma_X5_readTerm [.inr (5, i0), .inr (10, 0), .inl (.int a2)] S none Z) (hrec_5 : ∀ {i0 : Nat} {a2 : Int32} {S Z : AS}, rec 5 i0 a2 (0 : Int32) S = some Z → ax_M l d ma_X5_readAtom [.inr (5, i0), .inr (10, 0), .inl (.int a2)] S none Z) {i0 : Nat} {a2 : Int32} {S Z : AS} (h : b_X5_readTerm rec i0 a2 S = some Z) : ax_M l (d + 1) ma_X5_readTerm [.inr (5, i0), .inr (10, 0), .inl (.int a2)] S none Z := by
  unfold b_X5_readTerm at h
  show ax_T l (d + 1) ma_X5_readTerm (0, [some (.inr (5, i0)), some (.inr (10, 0)), some (.inl (.int a2)), none, none], [], S) none Z
  refine ax_Tgo [.aload_n 0, .aload_n 1, .iload_n 2] (pc' := 3) (L' := [some (.inr (5, i0)), some (.inr (10, 0)), some (.inl (.int a2)), none, none]) (st' := [.inl (.int a2), .inr (10, 0), .inr (5, i0)]) (S' := S) ok_X5_readTerm.1 (by decide +kernel) rfl rfl ?_
  obtain ⟨S1, hq2, h⟩ := ax_bd_e h
  refine ax_TVv (d := d) (ka := 5) (i := i0) [.inr (10, 0), .inl (.int a2)] [] lk_X5_80 (by decide +kernel) rfl (by decide) rfl (Nat.le_of_ble_eq_true rfl) (Nat.le_of_ble_eq_true rfl) (hrec_5 hq2) ?_
  refine ax_Tgo [.aload_n 1] (pc' := 7) (L' := [some (.inr (5, i0)), some (.inr (10, 0)), some (.inl (.int a2)), none, none]) (st' := [.inr (10, 0)]) (S' := S1) ok_X5_readTerm.1 (by decide +kernel) rfl rfl ?_
  obtain ⟨r7, S4, hq5, h⟩ := ax_bu_e h
  refine ax_TVi (d := d) (ka := 10) (i := 0) [] [] lk_X5_46 (by decide +kernel) rfl (by decide) rfl (Nat.le_of_ble_eq_true rfl) (Nat.le_of_ble_eq_true rfl) ((t_X10_peek hq5).up (by omega)) ?_
  refine ax_Tgo [.istore_n 3, .iconst 0, .istore 4] (pc' := 14) (L' := [some (.inr (5, i0)), some (.inr (10, 0)), some (.inl (.int a2)), some (.inl (.int r7)), some (.inl (.int (0 : Int32)))]) (st' := []) (S' := S4) ok_X5_readTerm.1 (by decide +kernel) rfl rfl ?_
  refine t_X5_readTerm_L14 hd hrec_0 hrec_1 hrec_2 hrec_3 hrec_4 hrec_5 ?_ _ i0 a2 r7 (0 : Int32) S4 _ h
  · intro S62 Z h
    cases h
    exact ax_Tretv (by decide +kernel) rfl
set_option maxRecDepth 100000 in
theorem tb_X5_readAtom {l : Launch} {d : Nat} (hd : 4 ≤ d) {rec : Nat → Nat → Int32 → Int32 → AS → Option (AS)} (hrec_0 : ∀ {i0 : Nat} {a2 : Int32} {a3 : Int32} {S Z : AS}, rec 0 i0 a2 a3 S = some Z → ax_M l d ma_X5_readCondition [.inr (5, i0), .inr (10, 0), .inl (.int a2), .inl (.int a3)] S none Z) (hrec_1 : ∀ {i0 : Nat} {a2 : Int32} {a3 : Int32} {S Z : AS}, rec 1 i0 a2 a3 S = some Z → ax_M l d ma_X5_readTruth [.inr (5, i0), .inr (10, 0), .inl (.int a2), .inl (.int a3)] S none Z) (hrec_2 : ∀ {i0 : Nat} {a2 : Int32} {a3 : Int32} {S Z : AS}, rec 2 i0 a2 a3 S = some Z → ax_M l d ma_X5_readUnit [.inr (5, i0), .inr (10, 0), .inl (.int a2), .inl (.int a3)] S none Z) (hrec_3 : ∀ {i0 : Nat} {a2 : Int32} {S Z : AS}, rec 3 i0 a2 (0 : Int32) S = some Z → ax_M l d ma_X5_readSum [.inr (5, i0), .inr (10, 0), .inl (.int a2)] S none Z) (hrec_4 : ∀ {i0 : Nat} {a2 : Int32} {S Z : AS}, rec 4 i0 a2 (0 : Int32) S = some Z → ax_M l d ma_X5_readTerm [.inr (5, i0), .inr (10, 0), .inl (.int a2)] S none Z) (hrec_5 : ∀ {i0 : Nat} {a2 : Int32} {S Z : AS}, rec 5 i0 a2 (0 : Int32) S = some Z → ax_M l d ma_X5_readAtom [.inr (5, i0), .inr (10, 0), .inl (.int a2)] S none Z) {i0 : Nat} {a2 : Int32} {S Z : AS} (h : b_X5_readAtom rec i0 a2 S = some Z) : ax_M l (d + 1) ma_X5_readAtom [.inr (5, i0), .inr (10, 0), .inl (.int a2)] S none Z := by
  unfold b_X5_readAtom at h
  show ax_T l (d + 1) ma_X5_readAtom (0, [some (.inr (5, i0)), some (.inr (10, 0)), some (.inl (.int a2)), none, none], [], S) none Z
  refine ax_Tgo [.aload_n 1] (pc' := 1) (L' := [some (.inr (5, i0)), some (.inr (10, 0)), some (.inl (.int a2)), none, none]) (st' := [.inr (10, 0)]) (S' := S) ok_X5_readAtom.1 (by decide +kernel) rfl rfl ?_
  obtain ⟨r4, S1, hq2, h⟩ := ax_bu_e h
  refine ax_TVi (d := d) (ka := 10) (i := 0) [] [] lk_X5_46 (by decide +kernel) rfl (by decide) rfl (Nat.le_of_ble_eq_true rfl) (Nat.le_of_ble_eq_true rfl) ((t_X10_peek hq2).up (by omega)) ?_
  refine ax_Tgo [.istore_n 3, .ldc 83, .iload_n 3, .i2c] (pc' := 9) (L' := [some (.inr (5, i0)), some (.inr (10, 0)), some (.inl (.int a2)), some (.inl (.int r4)), none]) (st' := [.inl (.int (r4.toUInt32 % 65536).toInt32), .inr (64, 3)]) (S' := S1) ok_X5_readAtom.1 (by decide +kernel) rfl rfl ?_
  obtain ⟨r8, hq6, h⟩ := ax_bd_e h
  refine ax_TVi (d := d) (ka := 64) (i := 3) [.inl (.int (r4.toUInt32 % 65536).toInt32)] [] lk_X5_85 (by decide +kernel) rfl (by decide) rfl (Nat.le_of_ble_eq_true rfl) (Nat.le_of_ble_eq_true rfl) ((t_J0_indexOf_0f7a4_64x3 hq6).up (by omega)) ?_
  refine ax_Tgo [.istore 4, .iload 4] (pc' := 16) (L' := [some (.inr (5, i0)), some (.inr (10, 0)), some (.inl (.int a2)), some (.inl (.int r4)), some (.inl (.int r8))]) (st' := [.inl (.int r8)]) (S' := S1) ok_X5_readAtom.1 (by decide +kernel) rfl rfl ?_
  refine ax_Tif_lt (off := 17) (tgt := 33) (by decide +kernel) (by decide) (fun c9 => ?_) (fun c9 => ?_)
  · rw [if_pos c9] at h
    refine ax_Tgo [.iload_n 3] (pc' := 34) (L' := [some (.inr (5, i0)), some (.inr (10, 0)), some (.inl (.int a2)), some (.inl (.int r4)), some (.inl (.int r8))]) (st' := [.inl (.int r4)]) (S' := S1) ok_X5_readAtom.1 (by decide +kernel) rfl rfl ?_
    obtain ⟨r13, hq11, h⟩ := ax_bd_e h
    refine ax_TSi (d := d) [.inl (.int r4)] [] lk_X5_90 (by decide +kernel) rfl rfl (Nat.le_of_ble_eq_true rfl) (Nat.le_of_ble_eq_true rfl) ((t_X10_isDigit hq11).up (by omega)) ?_
    refine ax_Tif_eq (off := 16) (tgt := 53) (by decide +kernel) (by decide) (fun c14 => ?_) (fun c14 => ?_)
    · rw [if_pos c14] at h
      refine ax_Tgo [.iload_n 3, .bipush 91] (pc' := 56) (L' := [some (.inr (5, i0)), some (.inr (10, 0)), some (.inl (.int a2)), some (.inl (.int r4)), some (.inl (.int r8))]) (st' := [.inl (.int (91 : Int32)), .inl (.int r4)]) (S' := S1) ok_X5_readAtom.1 (by decide +kernel) rfl rfl ?_
      refine ax_Tic_ne (off := 30) (tgt := 86) (by decide +kernel) (by decide) (fun c15 => ?_) (fun c15 => ?_)
      · rw [if_neg c15] at h
        refine ax_Tgo [.aload_n 1] (pc' := 87) (L' := [some (.inr (5, i0)), some (.inr (10, 0)), some (.inl (.int a2)), some (.inl (.int r4)), some (.inl (.int r8))]) (st' := [.inr (10, 0)]) (S' := S1) ok_X5_readAtom.1 (by decide +kernel) rfl rfl ?_
        obtain ⟨S16, hq17, h⟩ := ax_bd_e h
        refine ax_TVv (d := d) (ka := 10) (i := 0) [] [] lk_X5_74 (by decide +kernel) rfl (by decide) rfl (Nat.le_of_ble_eq_true rfl) (Nat.le_of_ble_eq_true rfl) ((t_X10_fail hq17).up (by omega)) ?_
        cases h
        exact ax_Tretv (by decide +kernel) rfl
      · rw [if_pos c15] at h
        refine ax_Tgo [.iload_n 2, .bipush 6] (pc' := 62) (L' := [some (.inr (5, i0)), some (.inr (10, 0)), some (.inl (.int a2)), some (.inl (.int r4)), some (.inl (.int r8))]) (st' := [.inl (.int (6 : Int32)), .inl (.int a2)]) (S' := S1) ok_X5_readAtom.1 (by decide +kernel) rfl rfl ?_
        refine ax_Tic_ge (off := 24) (tgt := 86) (by decide +kernel) (by decide) (fun c19 => ?_) (fun c19 => ?_)
        · rw [if_pos c19] at h
          refine ax_Tgo [.aload_n 1] (pc' := 87) (L' := [some (.inr (5, i0)), some (.inr (10, 0)), some (.inl (.int a2)), some (.inl (.int r4)), some (.inl (.int r8))]) (st' := [.inr (10, 0)]) (S' := S1) ok_X5_readAtom.1 (by decide +kernel) rfl rfl ?_
          obtain ⟨S20, hq21, h⟩ := ax_bd_e h
          refine ax_TVv (d := d) (ka := 10) (i := 0) [] [] lk_X5_74 (by decide +kernel) rfl (by decide) rfl (Nat.le_of_ble_eq_true rfl) (Nat.le_of_ble_eq_true rfl) ((t_X10_fail hq21).up (by omega)) ?_
          cases h
          exact ax_Tretv (by decide +kernel) rfl
        · rw [if_neg c19] at h
          refine ax_Tgo [.aload_n 1] (pc' := 66) (L' := [some (.inr (5, i0)), some (.inr (10, 0)), some (.inl (.int a2)), some (.inl (.int r4)), some (.inl (.int r8))]) (st' := [.inr (10, 0)]) (S' := S1) ok_X5_readAtom.1 (by decide +kernel) rfl rfl ?_
          obtain ⟨S23, hq24, h⟩ := ax_bd_e h
          refine ax_TVv (d := d) (ka := 10) (i := 0) [] [] lk_X5_68 (by decide +kernel) rfl (by decide) rfl (Nat.le_of_ble_eq_true rfl) (Nat.le_of_ble_eq_true rfl) ((t_X10_pass hq24).up (by omega)) ?_
          refine ax_Tgo [.aload_n 0, .aload_n 1, .iload_n 2, .iconst 1, .iadd] (pc' := 74) (L' := [some (.inr (5, i0)), some (.inr (10, 0)), some (.inl (.int a2)), some (.inl (.int r4)), some (.inl (.int r8))]) (st' := [.inl (.int (a2 + (1 : Int32))), .inr (10, 0), .inr (5, i0)]) (S' := S23) ok_X5_readAtom.1 (by decide +kernel) rfl rfl ?_
          obtain ⟨S26, hq27, h⟩ := ax_bd_e h
          refine ax_TVv (d := d) (ka := 5) (i := i0) [.inr (10, 0), .inl (.int (a2 + (1 : Int32)))] [] lk_X5_49 (by decide +kernel) rfl (by decide) rfl (Nat.le_of_ble_eq_true rfl) (Nat.le_of_ble_eq_true rfl) (hrec_3 hq27) ?_
          refine ax_Tgo [.aload_n 1, .bipush 93] (pc' := 80) (L' := [some (.inr (5, i0)), some (.inr (10, 0)), some (.inl (.int a2)), some (.inl (.int r4)), some (.inl (.int r8))]) (st' := [.inl (.int (93 : Int32)), .inr (10, 0)]) (S' := S26) ok_X5_readAtom.1 (by decide +kernel) rfl rfl ?_
          obtain ⟨S29, hq30, h⟩ := ax_bd_e h
          refine ax_TVv (d := d) (ka := 10) (i := 0) [.inl (.int (93 : Int32))] [] lk_X5_42 (by decide +kernel) rfl (by decide) rfl (Nat.le_of_ble_eq_true rfl) (Nat.le_of_ble_eq_true rfl) ((t_X10_demand hq30).up (by omega)) ?_
          refine ax_Tgoto (off := 7) (tgt := 90) (by decide +kernel) (by decide) ?_
          cases h
          exact ax_Tretv (by decide +kernel) rfl
    · rw [if_neg c14] at h
      refine ax_Tgo [.aload_n 0, .iconst 0, .aload_n 1, .iconst 4] (pc' := 44) (L' := [some (.inr (5, i0)), some (.inr (10, 0)), some (.inl (.int a2)), some (.inl (.int r4)), some (.inl (.int r8))]) (st' := [.inl (.int (4 : Int32)), .inr (10, 0), .inl (.int (0 : Int32)), .inr (5, i0)]) (S' := S1) ok_X5_readAtom.1 (by decide +kernel) rfl rfl ?_
      obtain ⟨r35, S32, hq33, h⟩ := ax_bu_e h
      refine ax_TVi (d := d) (ka := 10) (i := 0) [.inl (.int (4 : Int32))] [.inl (.int (0 : Int32)), .inr (5, i0)] lk_X5_94 (by decide +kernel) rfl (by decide) rfl (Nat.le_of_ble_eq_true rfl) (Nat.le_of_ble_eq_true rfl) ((t_X10_number hq33).up (by omega)) ?_
      obtain ⟨S36, hq37, h⟩ := ax_bd_e h
      refine ax_TVv (d := d) (ka := 5) (i := i0) [.inl (.int (0 : Int32)), .inl (.int r35)] [] lk_X5_57 (by decide +kernel) rfl (by decide) rfl (Nat.le_of_ble_eq_true rfl) (Nat.le_of_ble_eq_true rfl) ((t_X5_emit hq37).up (by omega)) ?_
      refine ax_Tgoto (off := 40) (tgt := 90) (by decide +kernel) (by decide) ?_
      cases h
      exact ax_Tretv (by decide +kernel) rfl
  · rw [if_neg c9] at h
    refine ax_Tgo [.aload_n 1] (pc' := 20) (L' := [some (.inr (5, i0)), some (.inr (10, 0)), some (.inl (.int a2)), some (.inl (.int r4)), some (.inl (.int r8))]) (st' := [.inr (10, 0)]) (S' := S1) ok_X5_readAtom.1 (by decide +kernel) rfl rfl ?_
    obtain ⟨S39, hq40, h⟩ := ax_bd_e h
    refine ax_TVv (d := d) (ka := 10) (i := 0) [] [] lk_X5_68 (by decide +kernel) rfl (by decide) rfl (Nat.le_of_ble_eq_true rfl) (Nat.le_of_ble_eq_true rfl) ((t_X10_pass hq40).up (by omega)) ?_
    refine ax_Tgo [.aload_n 0, .iconst 1, .iload 4] (pc' := 27) (L' := [some (.inr (5, i0)), some (.inr (10, 0)), some (.inl (.int a2)), some (.inl (.int r4)), some (.inl (.int r8))]) (st' := [.inl (.int r8), .inl (.int (1 : Int32)), .inr (5, i0)]) (S' := S39) ok_X5_readAtom.1 (by decide +kernel) rfl rfl ?_
    obtain ⟨S42, hq43, h⟩ := ax_bd_e h
    refine ax_TVv (d := d) (ka := 5) (i := i0) [.inl (.int (1 : Int32)), .inl (.int r8)] [] lk_X5_57 (by decide +kernel) rfl (by decide) rfl (Nat.le_of_ble_eq_true rfl) (Nat.le_of_ble_eq_true rfl) ((t_X5_emit hq43).up (by omega)) ?_
    refine ax_Tgoto (off := 60) (tgt := 90) (by decide +kernel) (by decide) ?_
    cases h
    exact ax_Tretv (by decide +kernel) rfl
theorem tg_Law {l : Launch} : ∀ (n : Nat), (∀ {i0 : Nat} {a2 : Int32} {a3 : Int32} {S Z : AS}, g_Law n 0 i0 a2 a3 S = some Z → ax_M l (n + 4) ma_X5_readCondition [.inr (5, i0), .inr (10, 0), .inl (.int a2), .inl (.int a3)] S none Z) ∧ (∀ {i0 : Nat} {a2 : Int32} {a3 : Int32} {S Z : AS}, g_Law n 1 i0 a2 a3 S = some Z → ax_M l (n + 4) ma_X5_readTruth [.inr (5, i0), .inr (10, 0), .inl (.int a2), .inl (.int a3)] S none Z) ∧ (∀ {i0 : Nat} {a2 : Int32} {a3 : Int32} {S Z : AS}, g_Law n 2 i0 a2 a3 S = some Z → ax_M l (n + 4) ma_X5_readUnit [.inr (5, i0), .inr (10, 0), .inl (.int a2), .inl (.int a3)] S none Z) ∧ (∀ {i0 : Nat} {a2 : Int32} {S Z : AS}, g_Law n 3 i0 a2 (0 : Int32) S = some Z → ax_M l (n + 4) ma_X5_readSum [.inr (5, i0), .inr (10, 0), .inl (.int a2)] S none Z) ∧ (∀ {i0 : Nat} {a2 : Int32} {S Z : AS}, g_Law n 4 i0 a2 (0 : Int32) S = some Z → ax_M l (n + 4) ma_X5_readTerm [.inr (5, i0), .inr (10, 0), .inl (.int a2)] S none Z) ∧ (∀ {i0 : Nat} {a2 : Int32} {S Z : AS}, g_Law n 5 i0 a2 (0 : Int32) S = some Z → ax_M l (n + 4) ma_X5_readAtom [.inr (5, i0), .inr (10, 0), .inl (.int a2)] S none Z) := by
  intro n
  induction n with
  | zero =>
    refine ⟨?_, ?_, ?_, ?_, ?_, ?_⟩ <;> (intros; rename_i h; cases h)
  | succ n ih =>
    obtain ⟨q0, q1, q2, q3, q4, q5⟩ := ih
    have hd : 4 ≤ n + 4 := by omega
    rw [show n + 1 + 4 = n + 4 + 1 by omega]
    refine ⟨?_, ?_, ?_, ?_, ?_, ?_⟩
    · intro i0 a2 a3 S Z h
      exact tb_X5_readCondition hd q0 q1 q2 q3 q4 q5 h
    · intro i0 a2 a3 S Z h
      exact tb_X5_readTruth hd q0 q1 q2 q3 q4 q5 h
    · intro i0 a2 a3 S Z h
      exact tb_X5_readUnit hd q0 q1 q2 q3 q4 q5 h
    · intro i0 a2 S Z h
      exact tb_X5_readSum hd q0 q1 q2 q3 q4 q5 h
    · intro i0 a2 S Z h
      exact tb_X5_readTerm hd q0 q1 q2 q3 q4 q5 h
    · intro i0 a2 S Z h
      exact tb_X5_readAtom hd q0 q1 q2 q3 q4 q5 h
theorem tg_Law_0 {l : Launch} : ∀ {i0 : Nat} {a2 : Int32} {a3 : Int32} {S Z : AS}, g_Law ax_D 0 i0 a2 a3 S = some Z → ax_M l 68 ma_X5_readCondition [.inr (5, i0), .inr (10, 0), .inl (.int a2), .inl (.int a3)] S none Z := (tg_Law ax_D).1
theorem tg_Law_1 {l : Launch} : ∀ {i0 : Nat} {a2 : Int32} {a3 : Int32} {S Z : AS}, g_Law ax_D 1 i0 a2 a3 S = some Z → ax_M l 68 ma_X5_readTruth [.inr (5, i0), .inr (10, 0), .inl (.int a2), .inl (.int a3)] S none Z := (tg_Law ax_D).2.1
theorem tg_Law_2 {l : Launch} : ∀ {i0 : Nat} {a2 : Int32} {a3 : Int32} {S Z : AS}, g_Law ax_D 2 i0 a2 a3 S = some Z → ax_M l 68 ma_X5_readUnit [.inr (5, i0), .inr (10, 0), .inl (.int a2), .inl (.int a3)] S none Z := (tg_Law ax_D).2.2.1
theorem tg_Law_3 {l : Launch} : ∀ {i0 : Nat} {a2 : Int32} {S Z : AS}, g_Law ax_D 3 i0 a2 (0 : Int32) S = some Z → ax_M l 68 ma_X5_readSum [.inr (5, i0), .inr (10, 0), .inl (.int a2)] S none Z := (tg_Law ax_D).2.2.2.1
theorem tg_Law_4 {l : Launch} : ∀ {i0 : Nat} {a2 : Int32} {S Z : AS}, g_Law ax_D 4 i0 a2 (0 : Int32) S = some Z → ax_M l 68 ma_X5_readTerm [.inr (5, i0), .inr (10, 0), .inl (.int a2)] S none Z := (tg_Law ax_D).2.2.2.2.1
theorem tg_Law_5 {l : Launch} : ∀ {i0 : Nat} {a2 : Int32} {S Z : AS}, g_Law ax_D 5 i0 a2 (0 : Int32) S = some Z → ax_M l 68 ma_X5_readAtom [.inr (5, i0), .inr (10, 0), .inl (.int a2)] S none Z := (tg_Law ax_D).2.2.2.2.2
def f_X5_readClause (i0 : Nat) (S : AS) : Option (AS) := (f_X10_demand (121 : Int32) S).bind (fun (S1 : AS) => (f_X10_demand (58 : Int32) S1).bind (fun (S4 : AS) => ax_bu (f_X10_peek S4) (fun (r10 : Int32) (S7 : AS) => ax_let (fun (x11 : Int32) (S12 : AS) => (if x11 = (0 : Int32) then (g_Law ax_D 0 i0 (0 : Int32) x11 S12).bind (fun (S15 : AS) => (f_X10_demand (63 : Int32) S15).bind (fun (S18 : AS) => ax_let (ax_fi S18 5 i0 2) (fun (v21 : Int32) => (f_X5_emit i0 (12 : Int32) (0 : Int32) S18).bind (fun (S22 : AS) => (g_Law ax_D 3 i0 (0 : Int32) (0 : Int32) S22).bind (fun (S25 : AS) => (f_X5_emit i0 (13 : Int32) (0 : Int32) S25).bind (fun (S28 : AS) => (if (Int32.ofNat 241) ≤ v21 then some S28 else ax_gd (ax_in v21 241) (ax_let (ax_sai S28 30 i0 v21.toNatClampNeg ((12 : Int32) ||| ((ax_fi S28 5 i0 2) <<< ((8 : Int32) &&& 31)))) (fun (S33 : AS) => some S33))))))))) else (g_Law ax_D 3 i0 (0 : Int32) (0 : Int32) S12).bind (fun (S34 : AS) => ax_bu (f_X10_peek S34) (fun (r40 : Int32) (S37 : AS) => (f_X5_relationOf r40 S37).bind (fun (r44 : Int32) => (if r44 = (Int32.ofInt (-1)) then (f_X5_emit i0 (13 : Int32) (0 : Int32) S37).bind (fun (S65 : AS) => some S65) else (g_Law ax_D 0 i0 (0 : Int32) x11 S37).bind (fun (S46 : AS) => (f_X10_demand (63 : Int32) S46).bind (fun (S49 : AS) => ax_let (ax_fi S49 5 i0 2) (fun (v52 : Int32) => (f_X5_emit i0 (12 : Int32) (0 : Int32) S49).bind (fun (S53 : AS) => (g_Law ax_D 3 i0 (0 : Int32) (0 : Int32) S53).bind (fun (S56 : AS) => (f_X5_emit i0 (13 : Int32) (0 : Int32) S56).bind (fun (S59 : AS) => (if (Int32.ofNat 241) ≤ v52 then some S59 else ax_gd (ax_in v52 241) (ax_let (ax_sai S59 30 i0 v52.toNatClampNeg ((12 : Int32) ||| ((ax_fi S59 5 i0 2) <<< ((8 : Int32) &&& 31)))) (fun (S64 : AS) => some S64))))))))))))))) (fun J13 => (if r10 = (33 : Int32) then J13 (0 : Int32) S7 else (if r10 = (40 : Int32) then J13 (0 : Int32) S7 else J13 (1 : Int32) S7))))))
set_option maxRecDepth 100000 in
theorem t_X5_readClause {l : Launch} {i0 : Nat} {S Z : AS} (h : f_X5_readClause i0 S = some Z) : ax_M l 69 ma_X5_readClause [.inr (5, i0), .inr (10, 0)] S none Z := by
  unfold f_X5_readClause at h
  show ax_T l 69 ma_X5_readClause (0, [some (.inr (5, i0)), some (.inr (10, 0)), none, none, none], [], S) none Z
  refine ax_Tgo [.aload_n 1, .bipush 121] (pc' := 3) (L' := [some (.inr (5, i0)), some (.inr (10, 0)), none, none, none]) (st' := [.inl (.int (121 : Int32)), .inr (10, 0)]) (S' := S) ok_X5_readClause.1 (by decide +kernel) rfl rfl ?_
  obtain ⟨S1, hq2, h⟩ := ax_bd_e h
  refine ax_TVv (d := 68) (ka := 10) (i := 0) [.inl (.int (121 : Int32))] [] lk_X5_42 (by decide +kernel) rfl (by decide) rfl (Nat.le_of_ble_eq_true rfl) (Nat.le_of_ble_eq_true rfl) ((t_X10_demand hq2).up (by decide)) ?_
  refine ax_Tgo [.aload_n 1, .bipush 58] (pc' := 9) (L' := [some (.inr (5, i0)), some (.inr (10, 0)), none, none, none]) (st' := [.inl (.int (58 : Int32)), .inr (10, 0)]) (S' := S1) ok_X5_readClause.1 (by decide +kernel) rfl rfl ?_
  obtain ⟨S4, hq5, h⟩ := ax_bd_e h
  refine ax_TVv (d := 68) (ka := 10) (i := 0) [.inl (.int (58 : Int32))] [] lk_X5_42 (by decide +kernel) rfl (by decide) rfl (Nat.le_of_ble_eq_true rfl) (Nat.le_of_ble_eq_true rfl) ((t_X10_demand hq5).up (by decide)) ?_
  refine ax_Tgo [.aload_n 1] (pc' := 13) (L' := [some (.inr (5, i0)), some (.inr (10, 0)), none, none, none]) (st' := [.inr (10, 0)]) (S' := S4) ok_X5_readClause.1 (by decide +kernel) rfl rfl ?_
  obtain ⟨r10, S7, hq8, h⟩ := ax_bu_e h
  refine ax_TVi (d := 68) (ka := 10) (i := 0) [] [] lk_X5_46 (by decide +kernel) rfl (by decide) rfl (Nat.le_of_ble_eq_true rfl) (Nat.le_of_ble_eq_true rfl) ((t_X10_peek hq8).up (by decide)) ?_
  refine ax_Tgo [.istore_n 2, .iload_n 2, .bipush 33] (pc' := 20) (L' := [some (.inr (5, i0)), some (.inr (10, 0)), some (.inl (.int r10)), none, none]) (st' := [.inl (.int (33 : Int32)), .inl (.int r10)]) (S' := S7) ok_X5_readClause.1 (by decide +kernel) rfl rfl ?_
  obtain ⟨J13, eJ13, h⟩ := ax_let_e h
  have hJ13 : ∀ (x11 : Int32) (S12 : AS) Z, J13 x11 S12 = some Z → ax_T l 69 ma_X5_readClause (34, [some (.inr (5, i0)), some (.inr (10, 0)), none, none, none], [.inl (.int x11)], S12) none Z := by
    intro x11 S12 Z h
    rw [← eJ13] at h
    try dsimp only at h
    refine ax_Tgo [.istore_n 3, .iload_n 3] (pc' := 36) (L' := [some (.inr (5, i0)), some (.inr (10, 0)), none, some (.inl (.int x11)), none]) (st' := [.inl (.int x11)]) (S' := S12) ok_X5_readClause.1 (by decide +kernel) rfl rfl ?_
    refine ax_Tif_eq (off := 28) (tgt := 64) (by decide +kernel) (by decide) (fun c14 => ?_) (fun c14 => ?_)
    · rw [if_pos c14] at h
      refine ax_Tgo [.aload_n 0, .aload_n 1, .iconst 0, .iload_n 3] (pc' := 68) (L' := [some (.inr (5, i0)), some (.inr (10, 0)), none, some (.inl (.int x11)), none]) (st' := [.inl (.int x11), .inl (.int (0 : Int32)), .inr (10, 0), .inr (5, i0)]) (S' := S12) ok_X5_readClause.1 (by decide +kernel) rfl rfl ?_
      obtain ⟨S15, hq16, h⟩ := ax_bd_e h
      refine ax_TVv (d := 68) (ka := 5) (i := i0) [.inr (10, 0), .inl (.int (0 : Int32)), .inl (.int x11)] [] lk_X5_61 (by decide +kernel) rfl (by decide) rfl (Nat.le_of_ble_eq_true rfl) (Nat.le_of_ble_eq_true rfl) ((tg_Law_0 hq16).up (by decide)) ?_
      refine ax_Tgo [.aload_n 1, .bipush 63] (pc' := 74) (L' := [some (.inr (5, i0)), some (.inr (10, 0)), none, some (.inl (.int x11)), none]) (st' := [.inl (.int (63 : Int32)), .inr (10, 0)]) (S' := S15) ok_X5_readClause.1 (by decide +kernel) rfl rfl ?_
      obtain ⟨S18, hq19, h⟩ := ax_bd_e h
      refine ax_TVv (d := 68) (ka := 10) (i := 0) [.inl (.int (63 : Int32))] [] lk_X5_42 (by decide +kernel) rfl (by decide) rfl (Nat.le_of_ble_eq_true rfl) (Nat.le_of_ble_eq_true rfl) ((t_X10_demand hq19).up (by decide)) ?_
      refine ax_Tgo [.aload_n 0, .getfield 20, .istore 4] (pc' := 83) (L' := [some (.inr (5, i0)), some (.inr (10, 0)), none, some (.inl (.int x11)), some (.inl (.int (ax_fi S18 5 i0 2)))]) (st' := []) (S' := S18) ok_X5_readClause.1 (by decide +kernel) rfl rfl ?_
      obtain ⟨v21, ev21, h⟩ := ax_let_e h
      rw [ev21]
      refine ax_Tgo [.aload_n 0, .bipush 12, .iconst 0] (pc' := 87) (L' := [some (.inr (5, i0)), some (.inr (10, 0)), none, some (.inl (.int x11)), some (.inl (.int v21))]) (st' := [.inl (.int (0 : Int32)), .inl (.int (12 : Int32)), .inr (5, i0)]) (S' := S18) ok_X5_readClause.1 (by decide +kernel) rfl rfl ?_
      obtain ⟨S22, hq23, h⟩ := ax_bd_e h
      refine ax_TVv (d := 68) (ka := 5) (i := i0) [.inl (.int (12 : Int32)), .inl (.int (0 : Int32))] [] lk_X5_57 (by decide +kernel) rfl (by decide) rfl (Nat.le_of_ble_eq_true rfl) (Nat.le_of_ble_eq_true rfl) ((t_X5_emit hq23).up (by decide)) ?_
      refine ax_Tgo [.aload_n 0, .aload_n 1, .iconst 0] (pc' := 93) (L' := [some (.inr (5, i0)), some (.inr (10, 0)), none, some (.inl (.int x11)), some (.inl (.int v21))]) (st' := [.inl (.int (0 : Int32)), .inr (10, 0), .inr (5, i0)]) (S' := S22) ok_X5_readClause.1 (by decide +kernel) rfl rfl ?_
      obtain ⟨S25, hq26, h⟩ := ax_bd_e h
      refine ax_TVv (d := 68) (ka := 5) (i := i0) [.inr (10, 0), .inl (.int (0 : Int32))] [] lk_X5_49 (by decide +kernel) rfl (by decide) rfl (Nat.le_of_ble_eq_true rfl) (Nat.le_of_ble_eq_true rfl) ((tg_Law_3 hq26).up (by decide)) ?_
      refine ax_Tgo [.aload_n 0, .bipush 13, .iconst 0] (pc' := 100) (L' := [some (.inr (5, i0)), some (.inr (10, 0)), none, some (.inl (.int x11)), some (.inl (.int v21))]) (st' := [.inl (.int (0 : Int32)), .inl (.int (13 : Int32)), .inr (5, i0)]) (S' := S25) ok_X5_readClause.1 (by decide +kernel) rfl rfl ?_
      obtain ⟨S28, hq29, h⟩ := ax_bd_e h
      refine ax_TVv (d := 68) (ka := 5) (i := i0) [.inl (.int (13 : Int32)), .inl (.int (0 : Int32))] [] lk_X5_57 (by decide +kernel) rfl (by decide) rfl (Nat.le_of_ble_eq_true rfl) (Nat.le_of_ble_eq_true rfl) ((t_X5_emit hq29).up (by decide)) ?_
      refine ax_Tgo [.iload 4, .aload_n 0, .getfield 11, .arraylength] (pc' := 110) (L' := [some (.inr (5, i0)), some (.inr (10, 0)), none, some (.inl (.int x11)), some (.inl (.int v21))]) (st' := [.inl (.int (Int32.ofNat 241)), .inl (.int v21)]) (S' := S28) ok_X5_readClause.1 (by decide +kernel) rfl rfl ?_
      refine ax_Tic_ge (off := 20) (tgt := 130) (by decide +kernel) (by decide) (fun c31 => ?_) (fun c31 => ?_)
      · rw [if_pos c31] at h
        cases h
        exact ax_Tretv (by decide +kernel) rfl
      · rw [if_neg c31] at h
        refine ax_Tgo [.aload_n 0, .getfield 11, .iload 4, .bipush 12, .aload_n 0, .getfield 20, .bipush 8, .ishl, .ior] (pc' := 129) (L' := [some (.inr (5, i0)), some (.inr (10, 0)), none, some (.inl (.int x11)), some (.inl (.int v21))]) (st' := [.inl (.int ((12 : Int32) ||| ((ax_fi S28 5 i0 2) <<< ((8 : Int32) &&& 31)))), .inl (.int v21), .inr (30, i0)]) (S' := S28) ok_X5_readClause.1 (by decide +kernel) rfl rfl ?_
        obtain ⟨g32, h⟩ := ax_gd_e h
        refine ax_Tasi (n := 241) ok_X5_readClause.1 (by decide +kernel) (by decide) rfl g32 ?_
        obtain ⟨S33, eS33, h⟩ := ax_let_e h
        rw [eS33]
        cases h
        exact ax_Tretv (by decide +kernel) rfl
    · rw [if_neg c14] at h
      refine ax_Tgo [.aload_n 0, .aload_n 1, .iconst 0] (pc' := 42) (L' := [some (.inr (5, i0)), some (.inr (10, 0)), none, some (.inl (.int x11)), none]) (st' := [.inl (.int (0 : Int32)), .inr (10, 0), .inr (5, i0)]) (S' := S12) ok_X5_readClause.1 (by decide +kernel) rfl rfl ?_
      obtain ⟨S34, hq35, h⟩ := ax_bd_e h
      refine ax_TVv (d := 68) (ka := 5) (i := i0) [.inr (10, 0), .inl (.int (0 : Int32))] [] lk_X5_49 (by decide +kernel) rfl (by decide) rfl (Nat.le_of_ble_eq_true rfl) (Nat.le_of_ble_eq_true rfl) ((tg_Law_3 hq35).up (by decide)) ?_
      refine ax_Tgo [.aload_n 1] (pc' := 46) (L' := [some (.inr (5, i0)), some (.inr (10, 0)), none, some (.inl (.int x11)), none]) (st' := [.inr (10, 0)]) (S' := S34) ok_X5_readClause.1 (by decide +kernel) rfl rfl ?_
      obtain ⟨r40, S37, hq38, h⟩ := ax_bu_e h
      refine ax_TVi (d := 68) (ka := 10) (i := 0) [] [] lk_X5_46 (by decide +kernel) rfl (by decide) rfl (Nat.le_of_ble_eq_true rfl) (Nat.le_of_ble_eq_true rfl) ((t_X10_peek hq38).up (by decide)) ?_
      obtain ⟨r44, hq42, h⟩ := ax_bd_e h
      refine ax_TSi (d := 68) [.inl (.int r40)] [] lk_X5_53 (by decide +kernel) rfl rfl (Nat.le_of_ble_eq_true rfl) (Nat.le_of_ble_eq_true rfl) ((t_X5_relationOf hq42).up (by decide)) ?_
      refine ax_Tgo [.iconst (-1)] (pc' := 53) (L' := [some (.inr (5, i0)), some (.inr (10, 0)), none, some (.inl (.int x11)), none]) (st' := [.inl (.int (Int32.ofInt (-1))), .inl (.int r44)]) (S' := S37) ok_X5_readClause.1 (by decide +kernel) rfl rfl ?_
      refine ax_Tic_ne (off := 11) (tgt := 64) (by decide +kernel) (by decide) (fun c45 => ?_) (fun c45 => ?_)
      · rw [if_neg c45] at h
        refine ax_Tgo [.aload_n 0, .aload_n 1, .iconst 0, .iload_n 3] (pc' := 68) (L' := [some (.inr (5, i0)), some (.inr (10, 0)), none, some (.inl (.int x11)), none]) (st' := [.inl (.int x11), .inl (.int (0 : Int32)), .inr (10, 0), .inr (5, i0)]) (S' := S37) ok_X5_readClause.1 (by decide +kernel) rfl rfl ?_
        obtain ⟨S46, hq47, h⟩ := ax_bd_e h
        refine ax_TVv (d := 68) (ka := 5) (i := i0) [.inr (10, 0), .inl (.int (0 : Int32)), .inl (.int x11)] [] lk_X5_61 (by decide +kernel) rfl (by decide) rfl (Nat.le_of_ble_eq_true rfl) (Nat.le_of_ble_eq_true rfl) ((tg_Law_0 hq47).up (by decide)) ?_
        refine ax_Tgo [.aload_n 1, .bipush 63] (pc' := 74) (L' := [some (.inr (5, i0)), some (.inr (10, 0)), none, some (.inl (.int x11)), none]) (st' := [.inl (.int (63 : Int32)), .inr (10, 0)]) (S' := S46) ok_X5_readClause.1 (by decide +kernel) rfl rfl ?_
        obtain ⟨S49, hq50, h⟩ := ax_bd_e h
        refine ax_TVv (d := 68) (ka := 10) (i := 0) [.inl (.int (63 : Int32))] [] lk_X5_42 (by decide +kernel) rfl (by decide) rfl (Nat.le_of_ble_eq_true rfl) (Nat.le_of_ble_eq_true rfl) ((t_X10_demand hq50).up (by decide)) ?_
        refine ax_Tgo [.aload_n 0, .getfield 20, .istore 4] (pc' := 83) (L' := [some (.inr (5, i0)), some (.inr (10, 0)), none, some (.inl (.int x11)), some (.inl (.int (ax_fi S49 5 i0 2)))]) (st' := []) (S' := S49) ok_X5_readClause.1 (by decide +kernel) rfl rfl ?_
        obtain ⟨v52, ev52, h⟩ := ax_let_e h
        rw [ev52]
        refine ax_Tgo [.aload_n 0, .bipush 12, .iconst 0] (pc' := 87) (L' := [some (.inr (5, i0)), some (.inr (10, 0)), none, some (.inl (.int x11)), some (.inl (.int v52))]) (st' := [.inl (.int (0 : Int32)), .inl (.int (12 : Int32)), .inr (5, i0)]) (S' := S49) ok_X5_readClause.1 (by decide +kernel) rfl rfl ?_
        obtain ⟨S53, hq54, h⟩ := ax_bd_e h
        refine ax_TVv (d := 68) (ka := 5) (i := i0) [.inl (.int (12 : Int32)), .inl (.int (0 : Int32))] [] lk_X5_57 (by decide +kernel) rfl (by decide) rfl (Nat.le_of_ble_eq_true rfl) (Nat.le_of_ble_eq_true rfl) ((t_X5_emit hq54).up (by decide)) ?_
        refine ax_Tgo [.aload_n 0, .aload_n 1, .iconst 0] (pc' := 93) (L' := [some (.inr (5, i0)), some (.inr (10, 0)), none, some (.inl (.int x11)), some (.inl (.int v52))]) (st' := [.inl (.int (0 : Int32)), .inr (10, 0), .inr (5, i0)]) (S' := S53) ok_X5_readClause.1 (by decide +kernel) rfl rfl ?_
        obtain ⟨S56, hq57, h⟩ := ax_bd_e h
        refine ax_TVv (d := 68) (ka := 5) (i := i0) [.inr (10, 0), .inl (.int (0 : Int32))] [] lk_X5_49 (by decide +kernel) rfl (by decide) rfl (Nat.le_of_ble_eq_true rfl) (Nat.le_of_ble_eq_true rfl) ((tg_Law_3 hq57).up (by decide)) ?_
        refine ax_Tgo [.aload_n 0, .bipush 13, .iconst 0] (pc' := 100) (L' := [some (.inr (5, i0)), some (.inr (10, 0)), none, some (.inl (.int x11)), some (.inl (.int v52))]) (st' := [.inl (.int (0 : Int32)), .inl (.int (13 : Int32)), .inr (5, i0)]) (S' := S56) ok_X5_readClause.1 (by decide +kernel) rfl rfl ?_
        obtain ⟨S59, hq60, h⟩ := ax_bd_e h
        refine ax_TVv (d := 68) (ka := 5) (i := i0) [.inl (.int (13 : Int32)), .inl (.int (0 : Int32))] [] lk_X5_57 (by decide +kernel) rfl (by decide) rfl (Nat.le_of_ble_eq_true rfl) (Nat.le_of_ble_eq_true rfl) ((t_X5_emit hq60).up (by decide)) ?_
        refine ax_Tgo [.iload 4, .aload_n 0, .getfield 11, .arraylength] (pc' := 110) (L' := [some (.inr (5, i0)), some (.inr (10, 0)), none, some (.inl (.int x11)), some (.inl (.int v52))]) (st' := [.inl (.int (Int32.ofNat 241)), .inl (.int v52)]) (S' := S59) ok_X5_readClause.1 (by decide +kernel) rfl rfl ?_
        refine ax_Tic_ge (off := 20) (tgt := 130) (by decide +kernel) (by decide) (fun c62 => ?_) (fun c62 => ?_)
        · rw [if_pos c62] at h
          cases h
          exact ax_Tretv (by decide +kernel) rfl
        · rw [if_neg c62] at h
          refine ax_Tgo [.aload_n 0, .getfield 11, .iload 4, .bipush 12, .aload_n 0, .getfield 20, .bipush 8, .ishl, .ior] (pc' := 129) (L' := [some (.inr (5, i0)), some (.inr (10, 0)), none, some (.inl (.int x11)), some (.inl (.int v52))]) (st' := [.inl (.int ((12 : Int32) ||| ((ax_fi S59 5 i0 2) <<< ((8 : Int32) &&& 31)))), .inl (.int v52), .inr (30, i0)]) (S' := S59) ok_X5_readClause.1 (by decide +kernel) rfl rfl ?_
          obtain ⟨g63, h⟩ := ax_gd_e h
          refine ax_Tasi (n := 241) ok_X5_readClause.1 (by decide +kernel) (by decide) rfl g63 ?_
          obtain ⟨S64, eS64, h⟩ := ax_let_e h
          rw [eS64]
          cases h
          exact ax_Tretv (by decide +kernel) rfl
      · rw [if_pos c45] at h
        refine ax_Tgo [.aload_n 0, .bipush 13, .iconst 0] (pc' := 60) (L' := [some (.inr (5, i0)), some (.inr (10, 0)), none, some (.inl (.int x11)), none]) (st' := [.inl (.int (0 : Int32)), .inl (.int (13 : Int32)), .inr (5, i0)]) (S' := S37) ok_X5_readClause.1 (by decide +kernel) rfl rfl ?_
        obtain ⟨S65, hq66, h⟩ := ax_bd_e h
        refine ax_TVv (d := 68) (ka := 5) (i := i0) [.inl (.int (13 : Int32)), .inl (.int (0 : Int32))] [] lk_X5_57 (by decide +kernel) rfl (by decide) rfl (Nat.le_of_ble_eq_true rfl) (Nat.le_of_ble_eq_true rfl) ((t_X5_emit hq66).up (by decide)) ?_
        cases h
        exact ax_Tretv (by decide +kernel) rfl
  refine ax_Tic_eq (off := 13) (tgt := 33) (by decide +kernel) (by decide) (fun c68 => ?_) (fun c68 => ?_)
  · rw [if_pos c68] at h
    refine ax_Tgo [.iconst 0] (pc' := 34) (L' := [some (.inr (5, i0)), some (.inr (10, 0)), some (.inl (.int r10)), none, none]) (st' := [.inl (.int (0 : Int32))]) (S' := S7) ok_X5_readClause.1 (by decide +kernel) rfl rfl ?_
    refine ax_Tdrop [true, true, false, true, true] (L' := [some (.inr (5, i0)), some (.inr (10, 0)), none, none, none]) rfl ?_
    exact hJ13 (0 : Int32) S7 _ h
  · rw [if_neg c68] at h
    refine ax_Tgo [.iload_n 2, .bipush 40] (pc' := 26) (L' := [some (.inr (5, i0)), some (.inr (10, 0)), some (.inl (.int r10)), none, none]) (st' := [.inl (.int (40 : Int32)), .inl (.int r10)]) (S' := S7) ok_X5_readClause.1 (by decide +kernel) rfl rfl ?_
    refine ax_Tic_eq (off := 7) (tgt := 33) (by decide +kernel) (by decide) (fun c69 => ?_) (fun c69 => ?_)
    · rw [if_pos c69] at h
      refine ax_Tgo [.iconst 0] (pc' := 34) (L' := [some (.inr (5, i0)), some (.inr (10, 0)), some (.inl (.int r10)), none, none]) (st' := [.inl (.int (0 : Int32))]) (S' := S7) ok_X5_readClause.1 (by decide +kernel) rfl rfl ?_
      refine ax_Tdrop [true, true, false, true, true] (L' := [some (.inr (5, i0)), some (.inr (10, 0)), none, none, none]) rfl ?_
      exact hJ13 (0 : Int32) S7 _ h
    · rw [if_neg c69] at h
      refine ax_Tgo [.iconst 1] (pc' := 30) (L' := [some (.inr (5, i0)), some (.inr (10, 0)), some (.inl (.int r10)), none, none]) (st' := [.inl (.int (1 : Int32))]) (S' := S7) ok_X5_readClause.1 (by decide +kernel) rfl rfl ?_
      refine ax_Tgoto (off := 4) (tgt := 34) (by decide +kernel) (by decide) ?_
      refine ax_Tdrop [true, true, false, true, true] (L' := [some (.inr (5, i0)), some (.inr (10, 0)), none, none, none]) rfl ?_
      exact hJ13 (1 : Int32) S7 _ h
def f_X5_readFrom_L13 (K40 : AS → Option (Int32 × AS)) : Nat → Nat → Int32 → Int32 → AS → Option (Int32 × AS)
  | 0, _, _, _, _ => none
  | n + 1, y5, x6, x7, S8 => (if x6 = (0 : Int32) then K40 S8 else (if (240 : Int32) < x7 then K40 S8 else (f_X5_readClause y5 S8).bind (fun (S11 : AS) => ax_bu (f_X10_goesOn S11) (fun (r17 : Int32) (S14 : AS) => ax_let (x7 + (1 : Int32)) (fun (v18 : Int32) => f_X5_readFrom_L13 K40 n y5 r17 v18 S14)))))
def f_X5_readFrom (i0 : Nat) (S : AS) : Option (Int32 × AS) := ax_let (ax_sfi S 5 i0 2 (0 : Int32)) (fun (S1 : AS) => (f_X10_rewind S1).bind (fun (S2 : AS) => f_X5_readFrom_L13 (fun (S19 : AS) => some ((ax_fi S19 10 0 3), S19)) ax_F i0 (1 : Int32) (0 : Int32) S2))
set_option maxRecDepth 100000 in
theorem t_X5_readFrom_L13 {l : Launch} {K40 : AS → Option (Int32 × AS)} (hK40 : ∀ (S : AS) r Z, K40 S = some (r, Z) → ax_T l 70 ma_X5_readFrom (40, [none, some (.inr (10, 0)), none, none], [], S) (some (.inl (.int r))) Z) : ∀ (n : Nat) (y5 : Nat) (x6 : Int32) (x7 : Int32) (S8 : AS) r Z, f_X5_readFrom_L13 K40 n y5 x6 x7 S8 = some (r, Z) → ax_T l 70 ma_X5_readFrom (13, [some (.inr (5, y5)), some (.inr (10, 0)), some (.inl (.int x6)), some (.inl (.int x7))], [], S8) (some (.inl (.int r))) Z := by
  intro n
  induction n with
  | zero =>
    intro y5 x6 x7 S8 r Z h
    cases h
  | succ n ih =>
    intro y5 x6 x7 S8 r Z h
    unfold f_X5_readFrom_L13 at h
    refine ax_Tgo [.iload_n 2] (pc' := 14) (L' := [some (.inr (5, y5)), some (.inr (10, 0)), some (.inl (.int x6)), some (.inl (.int x7))]) (st' := [.inl (.int x6)]) (S' := S8) ok_X5_readFrom.1 (by decide +kernel) rfl rfl ?_
    refine ax_Tif_eq (off := 26) (tgt := 40) (by decide +kernel) (by decide) (fun c9 => ?_) (fun c9 => ?_)
    · rw [if_pos c9] at h
      refine ax_Tdrop [false, true, false, false] (L' := [none, some (.inr (10, 0)), none, none]) rfl ?_
      exact hK40 S8 _ _ h
    · rw [if_neg c9] at h
      refine ax_Tgo [.iload_n 3, .sipush 240] (pc' := 21) (L' := [some (.inr (5, y5)), some (.inr (10, 0)), some (.inl (.int x6)), some (.inl (.int x7))]) (st' := [.inl (.int (240 : Int32)), .inl (.int x7)]) (S' := S8) ok_X5_readFrom.1 (by decide +kernel) rfl rfl ?_
      refine ax_Tic_gt (off := 19) (tgt := 40) (by decide +kernel) (by decide) (fun c10 => ?_) (fun c10 => ?_)
      · rw [if_pos c10] at h
        refine ax_Tdrop [false, true, false, false] (L' := [none, some (.inr (10, 0)), none, none]) rfl ?_
        exact hK40 S8 _ _ h
      · rw [if_neg c10] at h
        refine ax_Tgo [.aload_n 0, .aload_n 1] (pc' := 26) (L' := [some (.inr (5, y5)), some (.inr (10, 0)), some (.inl (.int x6)), some (.inl (.int x7))]) (st' := [.inr (10, 0), .inr (5, y5)]) (S' := S8) ok_X5_readFrom.1 (by decide +kernel) rfl rfl ?_
        obtain ⟨S11, hq12, h⟩ := ax_bd_e h
        refine ax_TVv (d := 69) (ka := 5) (i := y5) [.inr (10, 0)] [] lk_X5_30 (by decide +kernel) rfl (by decide) rfl (Nat.le_of_ble_eq_true rfl) (Nat.le_of_ble_eq_true rfl) ((t_X5_readClause hq12).up (by decide)) ?_
        refine ax_Tgo [.aload_n 1] (pc' := 30) (L' := [some (.inr (5, y5)), some (.inr (10, 0)), some (.inl (.int x6)), some (.inl (.int x7))]) (st' := [.inr (10, 0)]) (S' := S11) ok_X5_readFrom.1 (by decide +kernel) rfl rfl ?_
        obtain ⟨r17, S14, hq15, h⟩ := ax_bu_e h
        refine ax_TVi (d := 69) (ka := 10) (i := 0) [] [] lk_X5_34 (by decide +kernel) rfl (by decide) rfl (Nat.le_of_ble_eq_true rfl) (Nat.le_of_ble_eq_true rfl) ((t_X10_goesOn hq15).up (by decide)) ?_
        refine ax_Tgo [.istore_n 2, .iinc 3 1] (pc' := 37) (L' := [some (.inr (5, y5)), some (.inr (10, 0)), some (.inl (.int r17)), some (.inl (.int (x7 + (1 : Int32))))]) (st' := []) (S' := S14) ok_X5_readFrom.1 (by decide +kernel) rfl rfl ?_
        obtain ⟨v18, ev18, h⟩ := ax_let_e h
        rw [ev18]
        refine ax_Tgoto (off := (-24)) (tgt := 13) (by decide +kernel) (by decide) ?_
        exact ih y5 r17 v18 S14 _ _ h
set_option maxRecDepth 100000 in
theorem t_X5_readFrom {l : Launch} {i0 : Nat} {S Z : AS} {r : Int32} (h : f_X5_readFrom i0 S = some (r, Z)) : ax_M l 70 ma_X5_readFrom [.inr (5, i0), .inr (10, 0)] S (some (.inl (.int r))) Z := by
  unfold f_X5_readFrom at h
  show ax_T l 70 ma_X5_readFrom (0, [some (.inr (5, i0)), some (.inr (10, 0)), none, none], [], S) (some (.inl (.int r))) Z
  refine ax_Tgo [.aload_n 0, .iconst 0, .putfield 20] (pc' := 5) (L' := [some (.inr (5, i0)), some (.inr (10, 0)), none, none]) (st' := []) (S' := (ax_sfi S 5 i0 2 (0 : Int32))) ok_X5_readFrom.1 (by decide +kernel) rfl rfl ?_
  obtain ⟨S1, eS1, h⟩ := ax_let_e h
  rw [eS1]
  refine ax_Tgo [.aload_n 1] (pc' := 6) (L' := [some (.inr (5, i0)), some (.inr (10, 0)), none, none]) (st' := [.inr (10, 0)]) (S' := S1) ok_X5_readFrom.1 (by decide +kernel) rfl rfl ?_
  obtain ⟨S2, hq3, h⟩ := ax_bd_e h
  refine ax_TVv (d := 69) (ka := 10) (i := 0) [] [] lk_X5_27 (by decide +kernel) rfl (by decide) rfl (Nat.le_of_ble_eq_true rfl) (Nat.le_of_ble_eq_true rfl) ((t_X10_rewind hq3).up (by decide)) ?_
  refine ax_Tgo [.iconst 1, .istore_n 2, .iconst 0, .istore_n 3] (pc' := 13) (L' := [some (.inr (5, i0)), some (.inr (10, 0)), some (.inl (.int (1 : Int32))), some (.inl (.int (0 : Int32)))]) (st' := []) (S' := S2) ok_X5_readFrom.1 (by decide +kernel) rfl rfl ?_
  refine t_X5_readFrom_L13 ?_ _ i0 (1 : Int32) (0 : Int32) S2 _ _ h
  · intro S19 r Z h
    refine ax_Tgo [.aload_n 1] (pc' := 41) (L' := [none, some (.inr (10, 0)), none, none]) (st' := [.inr (10, 0)]) (S' := S19) ok_X5_readFrom.1 (by decide +kernel) rfl rfl ?_
    refine ax_TVi (d := 69) (ka := 10) (i := 0) [] [] lk_X5_38 (by decide +kernel) rfl (by decide) rfl (Nat.le_of_ble_eq_true rfl) (Nat.le_of_ble_eq_true rfl) ((t_X10_faultFound rfl).up (by decide)) ?_
    cases h
    exact ax_Treti (by decide +kernel) rfl rfl
def f_J0_isLatin1_aae02_64x4 (S : AS) : Option (Int32) := some (1 : Int32)
set_option maxRecDepth 100000 in
theorem t_J0_isLatin1_aae02_64x4 {l : Launch} {S : AS} {r : Int32} (h : f_J0_isLatin1_aae02_64x4 S = some r) : ax_M l 0 ma_J0_isLatin1_aae02 [.inr (64, 4)] S (some (.inl (.int r))) S := by
  unfold f_J0_isLatin1_aae02_64x4 at h
  show ax_T l 0 ma_J0_isLatin1_aae02 (0, [some (.inr (64, 4))], [], S) (some (.inl (.int r))) S
  refine ax_Tgo [.getstatic 38] (pc' := 3) (L' := [some (.inr (64, 4))]) (st' := [.inl (.int (1 : Int32))]) (S' := S) ok_J0_isLatin1_aae02.1 (by decide +kernel) rfl rfl ?_
  refine ax_Tif_eq (off := 14) (tgt := 17) (by decide +kernel) (by decide) (fun c1 => absurd c1 (by decide)) (fun _ => ?_)
  refine ax_Tgo [.aload_n 0, .getfield 15] (pc' := 10) (L' := [some (.inr (64, 4))]) (st' := [.inl (.int (0 : Int32))]) (S' := S) ok_J0_isLatin1_aae02.1 (by decide +kernel) rfl rfl ?_
  refine ax_Tif_ne (off := 7) (tgt := 17) (by decide +kernel) (by decide) (fun c2 => absurd rfl c2) (fun _ => ?_)
  refine ax_Tgo [.iconst 1] (pc' := 14) (L' := [some (.inr (64, 4))]) (st' := [.inl (.int (1 : Int32))]) (S' := S) ok_J0_isLatin1_aae02.1 (by decide +kernel) rfl rfl ?_
  refine ax_Tgoto (off := 4) (tgt := 18) (by decide +kernel) (by decide) ?_
  cases h
  exact ax_Treti (by decide +kernel) rfl rfl
def f_J0_coder_7d493_64x4 (S : AS) : Option (Int32) := some (0 : Int32)
set_option maxRecDepth 100000 in
theorem t_J0_coder_7d493_64x4 {l : Launch} {S : AS} {r : Int32} (h : f_J0_coder_7d493_64x4 S = some r) : ax_M l 0 ma_J0_coder_7d493 [.inr (64, 4)] S (some (.inl (.int r))) S := by
  unfold f_J0_coder_7d493_64x4 at h
  show ax_T l 0 ma_J0_coder_7d493 (0, [some (.inr (64, 4))], [], S) (some (.inl (.int r))) S
  refine ax_Tgo [.getstatic 38] (pc' := 3) (L' := [some (.inr (64, 4))]) (st' := [.inl (.int (1 : Int32))]) (S' := S) ok_J0_coder_7d493.1 (by decide +kernel) rfl rfl ?_
  refine ax_Tif_eq (off := 10) (tgt := 13) (by decide +kernel) (by decide) (fun c1 => absurd c1 (by decide)) (fun _ => ?_)
  refine ax_Tgo [.aload_n 0, .getfield 15] (pc' := 10) (L' := [some (.inr (64, 4))]) (st' := [.inl (.int (0 : Int32))]) (S' := S) ok_J0_coder_7d493.1 (by decide +kernel) rfl rfl ?_
  refine ax_Tgoto (off := 4) (tgt := 14) (by decide +kernel) (by decide) ?_
  cases h
  exact ax_Treti (by decide +kernel) rfl rfl
def f_J0_length_8abf5_64x4 (S : AS) : Option (Int32) := some ((Int32.ofNat 5) >>> ((0 : Int32) &&& 31))
set_option maxRecDepth 100000 in
theorem t_J0_length_8abf5_64x4 {l : Launch} {S : AS} {r : Int32} (h : f_J0_length_8abf5_64x4 S = some r) : ax_M l 1 ma_J0_length_8abf5 [.inr (64, 4)] S (some (.inl (.int r))) S := by
  unfold f_J0_length_8abf5_64x4 at h
  show ax_T l 1 ma_J0_length_8abf5 (0, [some (.inr (64, 4))], [], S) (some (.inl (.int r))) S
  refine ax_Tgo [.aload_n 0, .getfield 9, .arraylength, .aload_n 0] (pc' := 6) (L' := [some (.inr (64, 4))]) (st' := [.inr (64, 4), .inl (.int (Int32.ofNat 5))]) (S' := S) ok_J0_length_8abf5.1 (by decide +kernel) rfl rfl ?_
  refine ax_TVi (d := 0) (ka := 64) (i := 4) [] [.inl (.int (Int32.ofNat 5))] lk_J0_335 (by decide +kernel) rfl (by decide) rfl (Nat.le_of_ble_eq_true rfl) (Nat.le_of_ble_eq_true rfl) ((t_J0_coder_7d493_64x4 rfl).up (by decide)) ?_
  refine ax_Tgo [.ishr] (pc' := 10) (L' := [some (.inr (64, 4))]) (st' := [.inl (.int ((Int32.ofNat 5) >>> ((0 : Int32) &&& 31)))]) (S' := S) ok_J0_length_8abf5.1 (by decide +kernel) rfl rfl ?_
  cases h
  exact ax_Treti (by decide +kernel) rfl rfl
def f_J0_indexOf_7cf53_64x4 (a1 : Int32) (a2 : Int32) (S : AS) : Option (Int32) := (f_J1_indexOf_4cfef_65 4 a1 a2 ((Int32.ofNat 5) >>> ((0 : Int32) &&& 31)) S).bind (fun (r11 : Int32) => some r11)
set_option maxRecDepth 100000 in
theorem t_J0_indexOf_7cf53_64x4 {l : Launch} {a1 : Int32} {a2 : Int32} {S : AS} {r : Int32} (h : f_J0_indexOf_7cf53_64x4 a1 a2 S = some r) : ax_M l 2 ma_J0_indexOf_7cf53 [.inr (64, 4), .inl (.int a1), .inl (.int a2)] S (some (.inl (.int r))) S := by
  unfold f_J0_indexOf_7cf53_64x4 at h
  show ax_T l 2 ma_J0_indexOf_7cf53 (0, [some (.inr (64, 4)), some (.inl (.int a1)), some (.inl (.int a2))], [], S) (some (.inl (.int r))) S
  refine ax_Tgo [.aload_n 0] (pc' := 1) (L' := [some (.inr (64, 4)), some (.inl (.int a1)), some (.inl (.int a2))]) (st' := [.inr (64, 4)]) (S' := S) ok_J0_indexOf_7cf53.1 (by decide +kernel) rfl rfl ?_
  refine ax_TVi (d := 1) (ka := 64) (i := 4) [] [] lk_J0_492 (by decide +kernel) rfl (by decide) rfl (Nat.le_of_ble_eq_true rfl) (Nat.le_of_ble_eq_true rfl) ((t_J0_isLatin1_aae02_64x4 rfl).up (by decide)) ?_
  refine ax_Tif_eq (off := 19) (tgt := 23) (by decide +kernel) (by decide) (fun c4 => absurd c4 (by decide)) (fun _ => ?_)
  refine ax_Tgo [.aload_n 0, .getfield 9, .iload_n 1, .iload_n 2, .aload_n 0] (pc' := 14) (L' := [some (.inr (64, 4)), some (.inl (.int a1)), some (.inl (.int a2))]) (st' := [.inr (64, 4), .inl (.int a2), .inl (.int a1), .inr (65, 4)]) (S' := S) ok_J0_indexOf_7cf53.1 (by decide +kernel) rfl rfl ?_
  refine ax_TVi (d := 1) (ka := 64) (i := 4) [] [.inl (.int a2), .inl (.int a1), .inr (65, 4)] lk_J0_505 (by decide +kernel) rfl (by decide) rfl (Nat.le_of_ble_eq_true rfl) (Nat.le_of_ble_eq_true rfl) ((t_J0_length_8abf5_64x4 rfl).up (by decide)) ?_
  obtain ⟨r11, hq9, h⟩ := ax_bd_e h
  refine ax_TSi (d := 1) [.inr (65, 4), .inl (.int a1), .inl (.int a2), .inl (.int ((Int32.ofNat 5) >>> ((0 : Int32) &&& 31)))] [] lk_J0_637 (by decide +kernel) rfl rfl (Nat.le_of_ble_eq_true rfl) (Nat.le_of_ble_eq_true rfl) ((t_J1_indexOf_4cfef_65 hq9).up (by decide)) ?_
  refine ax_Tgoto (off := 16) (tgt := 36) (by decide +kernel) (by decide) ?_
  cases h
  exact ax_Treti (by decide +kernel) rfl rfl
def f_J0_indexOf_0f7a4_64x4 (a1 : Int32) (S : AS) : Option (Int32) := (f_J0_indexOf_7cf53_64x4 a1 (0 : Int32) S).bind (fun (r4 : Int32) => some r4)
set_option maxRecDepth 100000 in
theorem t_J0_indexOf_0f7a4_64x4 {l : Launch} {a1 : Int32} {S : AS} {r : Int32} (h : f_J0_indexOf_0f7a4_64x4 a1 S = some r) : ax_M l 3 ma_J0_indexOf_0f7a4 [.inr (64, 4), .inl (.int a1)] S (some (.inl (.int r))) S := by
  unfold f_J0_indexOf_0f7a4_64x4 at h
  show ax_T l 3 ma_J0_indexOf_0f7a4 (0, [some (.inr (64, 4)), some (.inl (.int a1))], [], S) (some (.inl (.int r))) S
  refine ax_Tgo [.aload_n 0, .iload_n 1, .iconst 0] (pc' := 3) (L' := [some (.inr (64, 4)), some (.inl (.int a1))]) (st' := [.inl (.int (0 : Int32)), .inl (.int a1), .inr (64, 4)]) (S' := S) ok_J0_indexOf_0f7a4.1 (by decide +kernel) rfl rfl ?_
  obtain ⟨r4, hq2, h⟩ := ax_bd_e h
  refine ax_TVi (d := 2) (ka := 64) (i := 4) [.inl (.int a1), .inl (.int (0 : Int32))] [] lk_J0_633 (by decide +kernel) rfl (by decide) rfl (Nat.le_of_ble_eq_true rfl) (Nat.le_of_ble_eq_true rfl) ((t_J0_indexOf_7cf53_64x4 hq2).up (by decide)) ?_
  cases h
  exact ax_Treti (by decide +kernel) rfl rfl
def f_X10_digit (S : AS) : Option (Int32 × AS) := ax_bu (f_X10_peek S) (fun (r4 : Int32) (S1 : AS) => (f_X10_isDigit r4 S1).bind (fun (r8 : Int32) => (if r8 = (0 : Int32) then (f_X10_fail S1).bind (fun (S13 : AS) => some ((0 : Int32), S13)) else (f_X10_pass S1).bind (fun (S10 : AS) => some ((r4 - (48 : Int32)), S10)))))
set_option maxRecDepth 100000 in
theorem t_X10_digit {l : Launch} {S Z : AS} {r : Int32} (h : f_X10_digit S = some (r, Z)) : ax_M l 1 ma_X10_digit [.inr (10, 0)] S (some (.inl (.int r))) Z := by
  unfold f_X10_digit at h
  show ax_T l 1 ma_X10_digit (0, [some (.inr (10, 0)), none], [], S) (some (.inl (.int r))) Z
  refine ax_Tgo [.aload_n 0] (pc' := 1) (L' := [some (.inr (10, 0)), none]) (st' := [.inr (10, 0)]) (S' := S) ok_X10_digit.1 (by decide +kernel) rfl rfl ?_
  obtain ⟨r4, S1, hq2, h⟩ := ax_bu_e h
  refine ax_TVi (d := 0) (ka := 10) (i := 0) [] [] lk_X10_25 (by decide +kernel) rfl (by decide) rfl (Nat.le_of_ble_eq_true rfl) (Nat.le_of_ble_eq_true rfl) ((t_X10_peek hq2).up (by decide)) ?_
  refine ax_Tgo [.istore_n 1, .iload_n 1] (pc' := 6) (L' := [some (.inr (10, 0)), some (.inl (.int r4))]) (st' := [.inl (.int r4)]) (S' := S1) ok_X10_digit.1 (by decide +kernel) rfl rfl ?_
  obtain ⟨r8, hq6, h⟩ := ax_bd_e h
  refine ax_TSi (d := 0) [.inl (.int r4)] [] lk_X10_43 (by decide +kernel) rfl rfl (Nat.le_of_ble_eq_true rfl) (Nat.le_of_ble_eq_true rfl) ((t_X10_isDigit hq6).up (by decide)) ?_
  refine ax_Tif_ne (off := 9) (tgt := 18) (by decide +kernel) (by decide) (fun c9 => ?_) (fun c9 => ?_)
  · rw [if_neg c9] at h
    refine ax_Tgo [.aload_n 0] (pc' := 19) (L' := [some (.inr (10, 0)), some (.inl (.int r4))]) (st' := [.inr (10, 0)]) (S' := S1) ok_X10_digit.1 (by decide +kernel) rfl rfl ?_
    obtain ⟨S10, hq11, h⟩ := ax_bd_e h
    refine ax_TVv (d := 0) (ka := 10) (i := 0) [] [] lk_X10_29 (by decide +kernel) rfl (by decide) rfl (Nat.le_of_ble_eq_true rfl) (Nat.le_of_ble_eq_true rfl) ((t_X10_pass hq11).up (by decide)) ?_
    refine ax_Tgo [.iload_n 1, .bipush 48, .isub] (pc' := 26) (L' := [some (.inr (10, 0)), some (.inl (.int r4))]) (st' := [.inl (.int (r4 - (48 : Int32)))]) (S' := S10) ok_X10_digit.1 (by decide +kernel) rfl rfl ?_
    cases h
    exact ax_Treti (by decide +kernel) rfl rfl
  · rw [if_pos c9] at h
    refine ax_Tgo [.aload_n 0] (pc' := 13) (L' := [some (.inr (10, 0)), some (.inl (.int r4))]) (st' := [.inr (10, 0)]) (S' := S1) ok_X10_digit.1 (by decide +kernel) rfl rfl ?_
    obtain ⟨S13, hq14, h⟩ := ax_bd_e h
    refine ax_TVv (d := 0) (ka := 10) (i := 0) [] [] lk_X10_32 (by decide +kernel) rfl (by decide) rfl (Nat.le_of_ble_eq_true rfl) (Nat.le_of_ble_eq_true rfl) ((t_X10_fail hq14).up (by decide)) ?_
    refine ax_Tgo [.iconst 0] (pc' := 17) (L' := [some (.inr (10, 0)), some (.inl (.int r4))]) (st' := [.inl (.int (0 : Int32))]) (S' := S13) ok_X10_digit.1 (by decide +kernel) rfl rfl ?_
    cases h
    exact ax_Treti (by decide +kernel) rfl rfl
def f_X0_readStep (i0 : Nat) (S : AS) : Option (AS) := ax_bu (f_X10_peek S) (fun (r4 : Int32) (S1 : AS) => (f_J0_indexOf_0f7a4_64x4 (r4.toUInt32 % 65536).toInt32 S1).bind (fun (r8 : Int32) => (if r8 < (0 : Int32) then (f_X10_fail S1).bind (fun (S10 : AS) => some S10) else (if (ax_fi S1 0 i0 2) < (16 : Int32) then (f_X10_pass S1).bind (fun (S14 : AS) => ax_let (fun (x17 : Int32) (S18 : AS) => ax_gd (ax_in (ax_fi S18 0 i0 2) 16) (ax_let (ax_sai S18 20 i0 (ax_fi S18 0 i0 2).toNatClampNeg r8) (fun (S21 : AS) => (if x17 = (0 : Int32) then ax_gd (ax_in (ax_fi S21 0 i0 2) 16) (ax_let (ax_sai S21 21 i0 (ax_fi S21 0 i0 2).toNatClampNeg (Int32.ofInt (-1))) (fun (S24 : AS) => ax_let (ax_sfi S24 0 i0 2 ((ax_fi S24 0 i0 2) + (1 : Int32))) (fun (S25 : AS) => some S25))) else ax_bu (f_X10_digit S21) (fun (r29 : Int32) (S26 : AS) => ax_gd (ax_in (ax_fi S21 0 i0 2) 16) (ax_let (ax_sai S26 21 i0 (ax_fi S21 0 i0 2).toNatClampNeg r29) (fun (S31 : AS) => ax_let (ax_sfi S31 0 i0 2 ((ax_fi S31 0 i0 2) + (1 : Int32))) (fun (S32 : AS) => some S32)))))))) (fun J19 => (if r8 = (0 : Int32) then J19 (1 : Int32) S14 else (if r8 = (1 : Int32) then J19 (1 : Int32) S14 else (if r8 = (3 : Int32) then J19 (1 : Int32) S14 else J19 (0 : Int32) S14))))) else (f_X10_fail S1).bind (fun (S36 : AS) => some S36)))))
set_option maxRecDepth 100000 in
theorem t_X0_readStep {l : Launch} {i0 : Nat} {S Z : AS} (h : f_X0_readStep i0 S = some Z) : ax_M l 4 ma_X0_readStep [.inr (0, i0), .inr (10, 0)] S none Z := by
  unfold f_X0_readStep at h
  show ax_T l 4 ma_X0_readStep (0, [some (.inr (0, i0)), some (.inr (10, 0)), none, none], [], S) none Z
  refine ax_Tgo [.ldc 45, .aload_n 1] (pc' := 3) (L' := [some (.inr (0, i0)), some (.inr (10, 0)), none, none]) (st' := [.inr (10, 0), .inr (64, 4)]) (S' := S) ok_X0_readStep.1 (by decide +kernel) rfl rfl ?_
  obtain ⟨r4, S1, hq2, h⟩ := ax_bu_e h
  refine ax_TVi (d := 3) (ka := 10) (i := 0) [] [.inr (64, 4)] lk_X0_31 (by decide +kernel) rfl (by decide) rfl (Nat.le_of_ble_eq_true rfl) (Nat.le_of_ble_eq_true rfl) ((t_X10_peek hq2).up (by decide)) ?_
  refine ax_Tgo [.i2c] (pc' := 7) (L' := [some (.inr (0, i0)), some (.inr (10, 0)), none, none]) (st' := [.inl (.int (r4.toUInt32 % 65536).toInt32), .inr (64, 4)]) (S' := S1) ok_X0_readStep.1 (by decide +kernel) rfl rfl ?_
  obtain ⟨r8, hq6, h⟩ := ax_bd_e h
  refine ax_TVi (d := 3) (ka := 64) (i := 4) [.inl (.int (r4.toUInt32 % 65536).toInt32)] [] lk_X0_47 (by decide +kernel) rfl (by decide) rfl (Nat.le_of_ble_eq_true rfl) (Nat.le_of_ble_eq_true rfl) ((t_J0_indexOf_0f7a4_64x4 hq6).up (by decide)) ?_
  refine ax_Tgo [.istore_n 2, .iload_n 2] (pc' := 12) (L' := [some (.inr (0, i0)), some (.inr (10, 0)), some (.inl (.int r8)), none]) (st' := [.inl (.int r8)]) (S' := S1) ok_X0_readStep.1 (by decide +kernel) rfl rfl ?_
  refine ax_Tif_lt (off := 12) (tgt := 24) (by decide +kernel) (by decide) (fun c9 => ?_) (fun c9 => ?_)
  · rw [if_pos c9] at h
    refine ax_Tgo [.aload_n 1] (pc' := 25) (L' := [some (.inr (0, i0)), some (.inr (10, 0)), some (.inl (.int r8)), none]) (st' := [.inr (10, 0)]) (S' := S1) ok_X0_readStep.1 (by decide +kernel) rfl rfl ?_
    obtain ⟨S10, hq11, h⟩ := ax_bd_e h
    refine ax_TVv (d := 3) (ka := 10) (i := 0) [] [] lk_X0_35 (by decide +kernel) rfl (by decide) rfl (Nat.le_of_ble_eq_true rfl) (Nat.le_of_ble_eq_true rfl) ((t_X10_fail hq11).up (by decide)) ?_
    cases h
    exact ax_Tretv (by decide +kernel) rfl
  · rw [if_neg c9] at h
    refine ax_Tgo [.aload_n 0, .getfield 18, .bipush 16] (pc' := 21) (L' := [some (.inr (0, i0)), some (.inr (10, 0)), some (.inl (.int r8)), none]) (st' := [.inl (.int (16 : Int32)), .inl (.int (ax_fi S1 0 i0 2))]) (S' := S1) ok_X0_readStep.1 (by decide +kernel) rfl rfl ?_
    refine ax_Tic_lt (off := 8) (tgt := 29) (by decide +kernel) (by decide) (fun c13 => ?_) (fun c13 => ?_)
    · rw [if_pos c13] at h
      refine ax_Tgo [.aload_n 1] (pc' := 30) (L' := [some (.inr (0, i0)), some (.inr (10, 0)), some (.inl (.int r8)), none]) (st' := [.inr (10, 0)]) (S' := S1) ok_X0_readStep.1 (by decide +kernel) rfl rfl ?_
      obtain ⟨S14, hq15, h⟩ := ax_bd_e h
      refine ax_TVv (d := 3) (ka := 10) (i := 0) [] [] lk_X0_53 (by decide +kernel) rfl (by decide) rfl (Nat.le_of_ble_eq_true rfl) (Nat.le_of_ble_eq_true rfl) ((t_X10_pass hq15).up (by decide)) ?_
      refine ax_Tgo [.iload_n 2] (pc' := 34) (L' := [some (.inr (0, i0)), some (.inr (10, 0)), some (.inl (.int r8)), none]) (st' := [.inl (.int r8)]) (S' := S14) ok_X0_readStep.1 (by decide +kernel) rfl rfl ?_
      obtain ⟨J19, eJ19, h⟩ := ax_let_e h
      have hJ19 : ∀ (x17 : Int32) (S18 : AS) Z, J19 x17 S18 = some Z → ax_T l 4 ma_X0_readStep (52, [some (.inr (0, i0)), some (.inr (10, 0)), some (.inl (.int r8)), none], [.inl (.int x17)], S18) none Z := by
        intro x17 S18 Z h
        rw [← eJ19] at h
        try dsimp only at h
        refine ax_Tgo [.istore_n 3, .aload_n 0, .getfield 11, .aload_n 0, .getfield 18, .iload_n 2] (pc' := 62) (L' := [some (.inr (0, i0)), some (.inr (10, 0)), some (.inl (.int r8)), some (.inl (.int x17))]) (st' := [.inl (.int r8), .inl (.int (ax_fi S18 0 i0 2)), .inr (20, i0)]) (S' := S18) ok_X0_readStep.1 (by decide +kernel) rfl rfl ?_
        obtain ⟨g20, h⟩ := ax_gd_e h
        refine ax_Tasi (n := 16) ok_X0_readStep.1 (by decide +kernel) (by decide) rfl g20 ?_
        obtain ⟨S21, eS21, h⟩ := ax_let_e h
        rw [eS21]
        refine ax_Tgo [.aload_n 0, .getfield 15, .aload_n 0, .getfield 18, .iload_n 3] (pc' := 72) (L' := [some (.inr (0, i0)), some (.inr (10, 0)), some (.inl (.int r8)), some (.inl (.int x17))]) (st' := [.inl (.int x17), .inl (.int (ax_fi S21 0 i0 2)), .inr (21, i0)]) (S' := S21) ok_X0_readStep.1 (by decide +kernel) rfl rfl ?_
        refine ax_Tif_eq (off := 10) (tgt := 82) (by decide +kernel) (by decide) (fun c22 => ?_) (fun c22 => ?_)
        · rw [if_pos c22] at h
          refine ax_Tgo [.iconst (-1)] (pc' := 83) (L' := [some (.inr (0, i0)), some (.inr (10, 0)), some (.inl (.int r8)), some (.inl (.int x17))]) (st' := [.inl (.int (Int32.ofInt (-1))), .inl (.int (ax_fi S21 0 i0 2)), .inr (21, i0)]) (S' := S21) ok_X0_readStep.1 (by decide +kernel) rfl rfl ?_
          obtain ⟨g23, h⟩ := ax_gd_e h
          refine ax_Tasi (n := 16) ok_X0_readStep.1 (by decide +kernel) (by decide) rfl g23 ?_
          obtain ⟨S24, eS24, h⟩ := ax_let_e h
          rw [eS24]
          refine ax_Tgo [.aload_n 0, .dup, .getfield 18, .iconst 1, .iadd, .putfield 18] (pc' := 94) (L' := [some (.inr (0, i0)), some (.inr (10, 0)), some (.inl (.int r8)), some (.inl (.int x17))]) (st' := []) (S' := (ax_sfi S24 0 i0 2 ((ax_fi S24 0 i0 2) + (1 : Int32)))) ok_X0_readStep.1 (by decide +kernel) rfl rfl ?_
          obtain ⟨S25, eS25, h⟩ := ax_let_e h
          rw [eS25]
          cases h
          exact ax_Tretv (by decide +kernel) rfl
        · rw [if_neg c22] at h
          refine ax_Tgo [.aload_n 1] (pc' := 76) (L' := [some (.inr (0, i0)), some (.inr (10, 0)), some (.inl (.int r8)), some (.inl (.int x17))]) (st' := [.inr (10, 0), .inl (.int (ax_fi S21 0 i0 2)), .inr (21, i0)]) (S' := S21) ok_X0_readStep.1 (by decide +kernel) rfl rfl ?_
          obtain ⟨r29, S26, hq27, h⟩ := ax_bu_e h
          refine ax_TVi (d := 3) (ka := 10) (i := 0) [] [.inl (.int (ax_fi S21 0 i0 2)), .inr (21, i0)] lk_X0_56 (by decide +kernel) rfl (by decide) rfl (Nat.le_of_ble_eq_true rfl) (Nat.le_of_ble_eq_true rfl) ((t_X10_digit hq27).up (by decide)) ?_
          refine ax_Tgoto (off := 4) (tgt := 83) (by decide +kernel) (by decide) ?_
          obtain ⟨g30, h⟩ := ax_gd_e h
          refine ax_Tasi (n := 16) ok_X0_readStep.1 (by decide +kernel) (by decide) rfl g30 ?_
          obtain ⟨S31, eS31, h⟩ := ax_let_e h
          rw [eS31]
          refine ax_Tgo [.aload_n 0, .dup, .getfield 18, .iconst 1, .iadd, .putfield 18] (pc' := 94) (L' := [some (.inr (0, i0)), some (.inr (10, 0)), some (.inl (.int r8)), some (.inl (.int x17))]) (st' := []) (S' := (ax_sfi S31 0 i0 2 ((ax_fi S31 0 i0 2) + (1 : Int32)))) ok_X0_readStep.1 (by decide +kernel) rfl rfl ?_
          obtain ⟨S32, eS32, h⟩ := ax_let_e h
          rw [eS32]
          cases h
          exact ax_Tretv (by decide +kernel) rfl
      refine ax_Tif_eq (off := 13) (tgt := 47) (by decide +kernel) (by decide) (fun c33 => ?_) (fun c33 => ?_)
      · rw [if_pos c33] at h
        refine ax_Tgo [.iconst 1] (pc' := 48) (L' := [some (.inr (0, i0)), some (.inr (10, 0)), some (.inl (.int r8)), none]) (st' := [.inl (.int (1 : Int32))]) (S' := S14) ok_X0_readStep.1 (by decide +kernel) rfl rfl ?_
        refine ax_Tgoto (off := 4) (tgt := 52) (by decide +kernel) (by decide) ?_
        exact hJ19 (1 : Int32) S14 _ h
      · rw [if_neg c33] at h
        refine ax_Tgo [.iload_n 2, .iconst 1] (pc' := 39) (L' := [some (.inr (0, i0)), some (.inr (10, 0)), some (.inl (.int r8)), none]) (st' := [.inl (.int (1 : Int32)), .inl (.int r8)]) (S' := S14) ok_X0_readStep.1 (by decide +kernel) rfl rfl ?_
        refine ax_Tic_eq (off := 8) (tgt := 47) (by decide +kernel) (by decide) (fun c34 => ?_) (fun c34 => ?_)
        · rw [if_pos c34] at h
          refine ax_Tgo [.iconst 1] (pc' := 48) (L' := [some (.inr (0, i0)), some (.inr (10, 0)), some (.inl (.int r8)), none]) (st' := [.inl (.int (1 : Int32))]) (S' := S14) ok_X0_readStep.1 (by decide +kernel) rfl rfl ?_
          refine ax_Tgoto (off := 4) (tgt := 52) (by decide +kernel) (by decide) ?_
          exact hJ19 (1 : Int32) S14 _ h
        · rw [if_neg c34] at h
          refine ax_Tgo [.iload_n 2, .iconst 3] (pc' := 44) (L' := [some (.inr (0, i0)), some (.inr (10, 0)), some (.inl (.int r8)), none]) (st' := [.inl (.int (3 : Int32)), .inl (.int r8)]) (S' := S14) ok_X0_readStep.1 (by decide +kernel) rfl rfl ?_
          refine ax_Tic_ne (off := 7) (tgt := 51) (by decide +kernel) (by decide) (fun c35 => ?_) (fun c35 => ?_)
          · rw [if_neg c35] at h
            refine ax_Tgo [.iconst 0] (pc' := 52) (L' := [some (.inr (0, i0)), some (.inr (10, 0)), some (.inl (.int r8)), none]) (st' := [.inl (.int (0 : Int32))]) (S' := S14) ok_X0_readStep.1 (by decide +kernel) rfl rfl ?_
            exact hJ19 (0 : Int32) S14 _ h
          · rw [if_pos c35] at h
            refine ax_Tgo [.iconst 1] (pc' := 48) (L' := [some (.inr (0, i0)), some (.inr (10, 0)), some (.inl (.int r8)), none]) (st' := [.inl (.int (1 : Int32))]) (S' := S14) ok_X0_readStep.1 (by decide +kernel) rfl rfl ?_
            refine ax_Tgoto (off := 4) (tgt := 52) (by decide +kernel) (by decide) ?_
            exact hJ19 (1 : Int32) S14 _ h
    · rw [if_neg c13] at h
      refine ax_Tgo [.aload_n 1] (pc' := 25) (L' := [some (.inr (0, i0)), some (.inr (10, 0)), some (.inl (.int r8)), none]) (st' := [.inr (10, 0)]) (S' := S1) ok_X0_readStep.1 (by decide +kernel) rfl rfl ?_
      obtain ⟨S36, hq37, h⟩ := ax_bd_e h
      refine ax_TVv (d := 3) (ka := 10) (i := 0) [] [] lk_X0_35 (by decide +kernel) rfl (by decide) rfl (Nat.le_of_ble_eq_true rfl) (Nat.le_of_ble_eq_true rfl) ((t_X10_fail hq37).up (by decide)) ?_
      cases h
      exact ax_Tretv (by decide +kernel) rfl
def f_X0_readFrom_L13 (K61 : AS → Option (Int32 × AS)) : Nat → Nat → Int32 → Int32 → AS → Option (Int32 × AS)
  | 0, _, _, _, _ => none
  | n + 1, y5, x6, x7, S8 => (if x6 = (0 : Int32) then K61 S8 else (if (16 : Int32) ≤ x7 then K61 S8 else (f_X0_readStep y5 S8).bind (fun (S11 : AS) => (if (ax_fi S11 0 y5 2) = (16 : Int32) then ax_bu (f_X10_peek S11) (fun (r23 : Int32) (S20 : AS) => (if r23 = (59 : Int32) then (f_X10_fail S20).bind (fun (S30 : AS) => ax_bu (f_X10_goesOn S30) (fun (r36 : Int32) (S33 : AS) => ax_let (x7 + (1 : Int32)) (fun (v37 : Int32) => f_X0_readFrom_L13 K61 n y5 r36 v37 S33))) else ax_bu (f_X10_goesOn S20) (fun (r28 : Int32) (S25 : AS) => ax_let (x7 + (1 : Int32)) (fun (v29 : Int32) => f_X0_readFrom_L13 K61 n y5 r28 v29 S25)))) else ax_bu (f_X10_goesOn S11) (fun (r18 : Int32) (S15 : AS) => ax_let (x7 + (1 : Int32)) (fun (v19 : Int32) => f_X0_readFrom_L13 K61 n y5 r18 v19 S15))))))
def f_X0_readFrom (i0 : Nat) (S : AS) : Option (Int32 × AS) := ax_let (ax_sfi S 0 i0 2 (0 : Int32)) (fun (S1 : AS) => (f_X10_rewind S1).bind (fun (S2 : AS) => f_X0_readFrom_L13 (fun (S38 : AS) => some ((ax_fi S38 10 0 3), S38)) ax_F i0 (1 : Int32) (0 : Int32) S2))
set_option maxRecDepth 100000 in
theorem t_X0_readFrom_L13 {l : Launch} {K61 : AS → Option (Int32 × AS)} (hK61 : ∀ (S : AS) r Z, K61 S = some (r, Z) → ax_T l 5 ma_X0_readFrom (61, [none, some (.inr (10, 0)), none, none], [], S) (some (.inl (.int r))) Z) : ∀ (n : Nat) (y5 : Nat) (x6 : Int32) (x7 : Int32) (S8 : AS) r Z, f_X0_readFrom_L13 K61 n y5 x6 x7 S8 = some (r, Z) → ax_T l 5 ma_X0_readFrom (13, [some (.inr (0, y5)), some (.inr (10, 0)), some (.inl (.int x6)), some (.inl (.int x7))], [], S8) (some (.inl (.int r))) Z := by
  intro n
  induction n with
  | zero =>
    intro y5 x6 x7 S8 r Z h
    cases h
  | succ n ih =>
    intro y5 x6 x7 S8 r Z h
    unfold f_X0_readFrom_L13 at h
    refine ax_Tgo [.iload_n 2] (pc' := 14) (L' := [some (.inr (0, y5)), some (.inr (10, 0)), some (.inl (.int x6)), some (.inl (.int x7))]) (st' := [.inl (.int x6)]) (S' := S8) ok_X0_readFrom.1 (by decide +kernel) rfl rfl ?_
    refine ax_Tif_eq (off := 47) (tgt := 61) (by decide +kernel) (by decide) (fun c9 => ?_) (fun c9 => ?_)
    · rw [if_pos c9] at h
      refine ax_Tdrop [false, true, false, false] (L' := [none, some (.inr (10, 0)), none, none]) rfl ?_
      exact hK61 S8 _ _ h
    · rw [if_neg c9] at h
      refine ax_Tgo [.iload_n 3, .bipush 16] (pc' := 20) (L' := [some (.inr (0, y5)), some (.inr (10, 0)), some (.inl (.int x6)), some (.inl (.int x7))]) (st' := [.inl (.int (16 : Int32)), .inl (.int x7)]) (S' := S8) ok_X0_readFrom.1 (by decide +kernel) rfl rfl ?_
      refine ax_Tic_ge (off := 41) (tgt := 61) (by decide +kernel) (by decide) (fun c10 => ?_) (fun c10 => ?_)
      · rw [if_pos c10] at h
        refine ax_Tdrop [false, true, false, false] (L' := [none, some (.inr (10, 0)), none, none]) rfl ?_
        exact hK61 S8 _ _ h
      · rw [if_neg c10] at h
        refine ax_Tgo [.aload_n 0, .aload_n 1] (pc' := 25) (L' := [some (.inr (0, y5)), some (.inr (10, 0)), some (.inl (.int x6)), some (.inl (.int x7))]) (st' := [.inr (10, 0), .inr (0, y5)]) (S' := S8) ok_X0_readFrom.1 (by decide +kernel) rfl rfl ?_
        obtain ⟨S11, hq12, h⟩ := ax_bd_e h
        refine ax_TVv (d := 4) (ka := 0) (i := y5) [.inr (10, 0)] [] lk_X0_27 (by decide +kernel) rfl (by decide) rfl (Nat.le_of_ble_eq_true rfl) (Nat.le_of_ble_eq_true rfl) ((t_X0_readStep hq12).up (by decide)) ?_
        refine ax_Tgo [.aload_n 0, .getfield 18, .bipush 16] (pc' := 34) (L' := [some (.inr (0, y5)), some (.inr (10, 0)), some (.inl (.int x6)), some (.inl (.int x7))]) (st' := [.inl (.int (16 : Int32)), .inl (.int (ax_fi S11 0 y5 2))]) (S' := S11) ok_X0_readFrom.1 (by decide +kernel) rfl rfl ?_
        refine ax_Tic_ne (off := 16) (tgt := 50) (by decide +kernel) (by decide) (fun c14 => ?_) (fun c14 => ?_)
        · rw [if_neg c14] at h
          refine ax_Tgo [.aload_n 1] (pc' := 51) (L' := [some (.inr (0, y5)), some (.inr (10, 0)), some (.inl (.int x6)), some (.inl (.int x7))]) (st' := [.inr (10, 0)]) (S' := S11) ok_X0_readFrom.1 (by decide +kernel) rfl rfl ?_
          obtain ⟨r18, S15, hq16, h⟩ := ax_bu_e h
          refine ax_TVi (d := 4) (ka := 10) (i := 0) [] [] lk_X0_38 (by decide +kernel) rfl (by decide) rfl (Nat.le_of_ble_eq_true rfl) (Nat.le_of_ble_eq_true rfl) ((t_X10_goesOn hq16).up (by decide)) ?_
          refine ax_Tgo [.istore_n 2, .iinc 3 1] (pc' := 58) (L' := [some (.inr (0, y5)), some (.inr (10, 0)), some (.inl (.int r18)), some (.inl (.int (x7 + (1 : Int32))))]) (st' := []) (S' := S15) ok_X0_readFrom.1 (by decide +kernel) rfl rfl ?_
          obtain ⟨v19, ev19, h⟩ := ax_let_e h
          rw [ev19]
          refine ax_Tgoto (off := (-45)) (tgt := 13) (by decide +kernel) (by decide) ?_
          exact ih y5 r18 v19 S15 _ _ h
        · rw [if_pos c14] at h
          refine ax_Tgo [.aload_n 1] (pc' := 38) (L' := [some (.inr (0, y5)), some (.inr (10, 0)), some (.inl (.int x6)), some (.inl (.int x7))]) (st' := [.inr (10, 0)]) (S' := S11) ok_X0_readFrom.1 (by decide +kernel) rfl rfl ?_
          obtain ⟨r23, S20, hq21, h⟩ := ax_bu_e h
          refine ax_TVi (d := 4) (ka := 10) (i := 0) [] [] lk_X0_31 (by decide +kernel) rfl (by decide) rfl (Nat.le_of_ble_eq_true rfl) (Nat.le_of_ble_eq_true rfl) ((t_X10_peek hq21).up (by decide)) ?_
          refine ax_Tgo [.bipush 59] (pc' := 43) (L' := [some (.inr (0, y5)), some (.inr (10, 0)), some (.inl (.int x6)), some (.inl (.int x7))]) (st' := [.inl (.int (59 : Int32)), .inl (.int r23)]) (S' := S20) ok_X0_readFrom.1 (by decide +kernel) rfl rfl ?_
          refine ax_Tic_ne (off := 7) (tgt := 50) (by decide +kernel) (by decide) (fun c24 => ?_) (fun c24 => ?_)
          · rw [if_neg c24] at h
            refine ax_Tgo [.aload_n 1] (pc' := 51) (L' := [some (.inr (0, y5)), some (.inr (10, 0)), some (.inl (.int x6)), some (.inl (.int x7))]) (st' := [.inr (10, 0)]) (S' := S20) ok_X0_readFrom.1 (by decide +kernel) rfl rfl ?_
            obtain ⟨r28, S25, hq26, h⟩ := ax_bu_e h
            refine ax_TVi (d := 4) (ka := 10) (i := 0) [] [] lk_X0_38 (by decide +kernel) rfl (by decide) rfl (Nat.le_of_ble_eq_true rfl) (Nat.le_of_ble_eq_true rfl) ((t_X10_goesOn hq26).up (by decide)) ?_
            refine ax_Tgo [.istore_n 2, .iinc 3 1] (pc' := 58) (L' := [some (.inr (0, y5)), some (.inr (10, 0)), some (.inl (.int r28)), some (.inl (.int (x7 + (1 : Int32))))]) (st' := []) (S' := S25) ok_X0_readFrom.1 (by decide +kernel) rfl rfl ?_
            obtain ⟨v29, ev29, h⟩ := ax_let_e h
            rw [ev29]
            refine ax_Tgoto (off := (-45)) (tgt := 13) (by decide +kernel) (by decide) ?_
            exact ih y5 r28 v29 S25 _ _ h
          · rw [if_pos c24] at h
            refine ax_Tgo [.aload_n 1] (pc' := 47) (L' := [some (.inr (0, y5)), some (.inr (10, 0)), some (.inl (.int x6)), some (.inl (.int x7))]) (st' := [.inr (10, 0)]) (S' := S20) ok_X0_readFrom.1 (by decide +kernel) rfl rfl ?_
            obtain ⟨S30, hq31, h⟩ := ax_bd_e h
            refine ax_TVv (d := 4) (ka := 10) (i := 0) [] [] lk_X0_35 (by decide +kernel) rfl (by decide) rfl (Nat.le_of_ble_eq_true rfl) (Nat.le_of_ble_eq_true rfl) ((t_X10_fail hq31).up (by decide)) ?_
            refine ax_Tgo [.aload_n 1] (pc' := 51) (L' := [some (.inr (0, y5)), some (.inr (10, 0)), some (.inl (.int x6)), some (.inl (.int x7))]) (st' := [.inr (10, 0)]) (S' := S30) ok_X0_readFrom.1 (by decide +kernel) rfl rfl ?_
            obtain ⟨r36, S33, hq34, h⟩ := ax_bu_e h
            refine ax_TVi (d := 4) (ka := 10) (i := 0) [] [] lk_X0_38 (by decide +kernel) rfl (by decide) rfl (Nat.le_of_ble_eq_true rfl) (Nat.le_of_ble_eq_true rfl) ((t_X10_goesOn hq34).up (by decide)) ?_
            refine ax_Tgo [.istore_n 2, .iinc 3 1] (pc' := 58) (L' := [some (.inr (0, y5)), some (.inr (10, 0)), some (.inl (.int r36)), some (.inl (.int (x7 + (1 : Int32))))]) (st' := []) (S' := S33) ok_X0_readFrom.1 (by decide +kernel) rfl rfl ?_
            obtain ⟨v37, ev37, h⟩ := ax_let_e h
            rw [ev37]
            refine ax_Tgoto (off := (-45)) (tgt := 13) (by decide +kernel) (by decide) ?_
            exact ih y5 r36 v37 S33 _ _ h
set_option maxRecDepth 100000 in
theorem t_X0_readFrom {l : Launch} {i0 : Nat} {S Z : AS} {r : Int32} (h : f_X0_readFrom i0 S = some (r, Z)) : ax_M l 5 ma_X0_readFrom [.inr (0, i0), .inr (10, 0)] S (some (.inl (.int r))) Z := by
  unfold f_X0_readFrom at h
  show ax_T l 5 ma_X0_readFrom (0, [some (.inr (0, i0)), some (.inr (10, 0)), none, none], [], S) (some (.inl (.int r))) Z
  refine ax_Tgo [.aload_n 0, .iconst 0, .putfield 18] (pc' := 5) (L' := [some (.inr (0, i0)), some (.inr (10, 0)), none, none]) (st' := []) (S' := (ax_sfi S 0 i0 2 (0 : Int32))) ok_X0_readFrom.1 (by decide +kernel) rfl rfl ?_
  obtain ⟨S1, eS1, h⟩ := ax_let_e h
  rw [eS1]
  refine ax_Tgo [.aload_n 1] (pc' := 6) (L' := [some (.inr (0, i0)), some (.inr (10, 0)), none, none]) (st' := [.inr (10, 0)]) (S' := S1) ok_X0_readFrom.1 (by decide +kernel) rfl rfl ?_
  obtain ⟨S2, hq3, h⟩ := ax_bd_e h
  refine ax_TVv (d := 4) (ka := 10) (i := 0) [] [] lk_X0_22 (by decide +kernel) rfl (by decide) rfl (Nat.le_of_ble_eq_true rfl) (Nat.le_of_ble_eq_true rfl) ((t_X10_rewind hq3).up (by decide)) ?_
  refine ax_Tgo [.iconst 1, .istore_n 2, .iconst 0, .istore_n 3] (pc' := 13) (L' := [some (.inr (0, i0)), some (.inr (10, 0)), some (.inl (.int (1 : Int32))), some (.inl (.int (0 : Int32)))]) (st' := []) (S' := S2) ok_X0_readFrom.1 (by decide +kernel) rfl rfl ?_
  refine t_X0_readFrom_L13 ?_ _ i0 (1 : Int32) (0 : Int32) S2 _ _ h
  · intro S38 r Z h
    refine ax_Tgo [.aload_n 1] (pc' := 62) (L' := [none, some (.inr (10, 0)), none, none]) (st' := [.inr (10, 0)]) (S' := S38) ok_X0_readFrom.1 (by decide +kernel) rfl rfl ?_
    refine ax_TVi (d := 4) (ka := 10) (i := 0) [] [] lk_X0_42 (by decide +kernel) rfl (by decide) rfl (Nat.le_of_ble_eq_true rfl) (Nat.le_of_ble_eq_true rfl) ((t_X10_faultFound rfl).up (by decide)) ?_
    cases h
    exact ax_Treti (by decide +kernel) rfl rfl
def f_X11_fault (a1 : Int32) (S : AS) : Option (Int32 × AS) := (if a1 = (0 : Int32) then ax_bu (f_X4_readFrom (ax_fx S 11 0 15) S) (fun (r5 : Int32) (S2 : AS) => some (r5, S2)) else if a1 = (1 : Int32) then ax_gd (ax_in (ax_fi S 11 0 16) 5) (ax_bu (f_X5_readFrom ((ax_fi S 11 0 16).toNatClampNeg) S) (fun (r11 : Int32) (S8 : AS) => some (r11, S8))) else if a1 = (2 : Int32) then ax_gd (ax_in (ax_fi S 11 0 17) 5) (ax_bu (f_X0_readFrom ((ax_fi S 11 0 17).toNatClampNeg) S) (fun (r17 : Int32) (S14 : AS) => some (r17, S14))) else some (((Int8.ofInt (-2)).toInt32), S))
set_option maxRecDepth 100000 in
theorem t_X11_fault {l : Launch} {a1 : Int32} {S Z : AS} {r : Int32} (h : f_X11_fault a1 S = some (r, Z)) : ax_M l 71 ma_X11_fault [.inr (11, 0), .inl (.int a1)] S (some (.inl (.int r))) Z := by
  unfold f_X11_fault at h
  show ax_T l 71 ma_X11_fault (0, [some (.inr (11, 0)), some (.inl (.int a1))], [], S) (some (.inl (.int r))) Z
  refine ax_Tgo [.iload_n 1] (pc' := 1) (L' := [some (.inr (11, 0)), some (.inl (.int a1))]) (st' := [.inl (.int a1)]) (S' := S) ok_X11_fault.1 (by decide +kernel) rfl rfl ?_
  by_cases c1 : a1 = (0 : Int32)
  · rw [if_pos c1] at h
    refine ax_TtIn (dflt := 73) (lo := 0) (hi := 2) (offs := #[27, 39, 56]) (len := 27) (off := 27) (tgt := 28) (by decide +kernel) (by rw [c1]; decide) (by rw [c1]; decide) (by rw [c1]; rfl) (by decide) ?_
    refine ax_Tgo [.aload_n 0, .getfield 97, .aload_n 0, .getfield 10] (pc' := 36) (L' := [some (.inr (11, 0)), some (.inl (.int a1))]) (st' := [.inr (10, 0), .inr (4, (ax_fx S 11 0 15))]) (S' := S) ok_X11_fault.1 (by decide +kernel) rfl rfl ?_
    obtain ⟨r5, S2, hq3, h⟩ := ax_bu_e h
    refine ax_TVi (d := 70) (ka := 4) (i := (ax_fx S 11 0 15)) [.inr (10, 0)] [] lk_X11_135 (by decide +kernel) rfl (by decide) rfl (Nat.le_of_ble_eq_true rfl) (Nat.le_of_ble_eq_true rfl) ((t_X4_readFrom hq3).up (by decide)) ?_
    cases h
    exact ax_Treti (by decide +kernel) rfl rfl
  · rw [if_neg c1] at h
    by_cases c6 : a1 = (1 : Int32)
    · rw [if_pos c6] at h
      refine ax_TtIn (dflt := 73) (lo := 0) (hi := 2) (offs := #[27, 39, 56]) (len := 27) (off := 39) (tgt := 40) (by decide +kernel) (by rw [c6]; decide) (by rw [c6]; decide) (by rw [c6]; rfl) (by decide) ?_
      refine ax_Tgo [.aload_n 0, .getfield 18, .aload_n 0, .getfield 100] (pc' := 48) (L' := [some (.inr (11, 0)), some (.inl (.int a1))]) (st' := [.inl (.int (ax_fi S 11 0 16)), .inr (41, 0)]) (S' := S) ok_X11_fault.1 (by decide +kernel) rfl rfl ?_
      obtain ⟨g7, h⟩ := ax_gd_e h
      refine ax_Tala5 (n := 5) ok_X11_fault.1 (by decide +kernel) (by decide) rfl g7 ?_
      refine ax_Tgo [.aload_n 0, .getfield 10] (pc' := 53) (L' := [some (.inr (11, 0)), some (.inl (.int a1))]) (st' := [.inr (10, 0), .inr (5, ((ax_fi S 11 0 16).toNatClampNeg))]) (S' := S) ok_X11_fault.1 (by decide +kernel) rfl rfl ?_
      obtain ⟨r11, S8, hq9, h⟩ := ax_bu_e h
      refine ax_TVi (d := 70) (ka := 5) (i := ((ax_fi S 11 0 16).toNatClampNeg)) [.inr (10, 0)] [] lk_X11_139 (by decide +kernel) rfl (by decide) rfl (Nat.le_of_ble_eq_true rfl) (Nat.le_of_ble_eq_true rfl) ((t_X5_readFrom hq9).up (by decide)) ?_
      cases h
      exact ax_Treti (by decide +kernel) rfl rfl
    · rw [if_neg c6] at h
      by_cases c12 : a1 = (2 : Int32)
      · rw [if_pos c12] at h
        refine ax_TtIn (dflt := 73) (lo := 0) (hi := 2) (offs := #[27, 39, 56]) (len := 27) (off := 56) (tgt := 57) (by decide +kernel) (by rw [c12]; decide) (by rw [c12]; decide) (by rw [c12]; rfl) (by decide) ?_
        refine ax_Tgo [.aload_n 0, .getfield 24, .aload_n 0, .getfield 104] (pc' := 65) (L' := [some (.inr (11, 0)), some (.inl (.int a1))]) (st' := [.inl (.int (ax_fi S 11 0 17)), .inr (42, 0)]) (S' := S) ok_X11_fault.1 (by decide +kernel) rfl rfl ?_
        obtain ⟨g13, h⟩ := ax_gd_e h
        refine ax_Tala4 (n := 5) ok_X11_fault.1 (by decide +kernel) (by decide) rfl g13 ?_
        refine ax_Tgo [.aload_n 0, .getfield 10] (pc' := 70) (L' := [some (.inr (11, 0)), some (.inl (.int a1))]) (st' := [.inr (10, 0), .inr (0, ((ax_fi S 11 0 17).toNatClampNeg))]) (S' := S) ok_X11_fault.1 (by decide +kernel) rfl rfl ?_
        obtain ⟨r17, S14, hq15, h⟩ := ax_bu_e h
        refine ax_TVi (d := 70) (ka := 0) (i := ((ax_fi S 11 0 17).toNatClampNeg)) [.inr (10, 0)] [] lk_X11_140 (by decide +kernel) rfl (by decide) rfl (Nat.le_of_ble_eq_true rfl) (Nat.le_of_ble_eq_true rfl) ((t_X0_readFrom hq15).up (by decide)) ?_
        cases h
        exact ax_Treti (by decide +kernel) rfl rfl
      · rw [if_neg c12] at h
        refine ax_TtOut (dflt := 73) (lo := 0) (hi := 2) (offs := #[27, 39, 56]) (len := 27) (tgt := 74) (by decide +kernel) (by have zc1 := lv_neT (a := 0) c1 rfl; have zc6 := lv_neT (a := 1) c6 rfl; have zc12 := lv_neT (a := 2) c12 rfl; omega) (by decide) ?_
        refine ax_Tgo [.bipush (-2)] (pc' := 76) (L' := [some (.inr (11, 0)), some (.inl (.int a1))]) (st' := [.inl (.int ((Int8.ofInt (-2)).toInt32))]) (S' := S) ok_X11_fault.1 (by decide +kernel) rfl rfl ?_
        cases h
        exact ax_Treti (by decide +kernel) rfl rfl
def f_X10_signsOf_L5 (S : AS) (K33 : Int32 → Option (Int32)) : Nat → Int32 → Int32 → Int32 → Option (Int32)
  | 0, _, _, _ => none
  | n + 1, x1, x2, x3 => (if x3 < (0 : Int32) then K33 x2 else (if ((x1.toUInt32 >>> (x3.toUInt32 &&& Int32.toUInt32 31)).toInt32 &&& (255 : Int32)) = (0 : Int32) then ax_let (x2 + (0 : Int32)) (fun (v7 : Int32) => ax_let (x3 + (Int32.ofInt (-8))) (fun (v8 : Int32) => f_X10_signsOf_L5 S K33 n x1 v7 v8)) else ax_let (x2 + (1 : Int32)) (fun (v9 : Int32) => ax_let (x3 + (Int32.ofInt (-8))) (fun (v10 : Int32) => f_X10_signsOf_L5 S K33 n x1 v9 v10))))
def f_X10_signsOf (a0 : Int32) (S : AS) : Option (Int32) := f_X10_signsOf_L5 S (fun (x4 : Int32)  => some x4) ax_F a0 (0 : Int32) (24 : Int32)
set_option maxRecDepth 100000 in
theorem t_X10_signsOf_L5 {l : Launch} {S : AS} {K33 : Int32 → Option (Int32)} (hK33 : ∀ (x4 : Int32) r, K33 x4  = some r → ax_T l 0 ma_X10_signsOf (33, [none, some (.inl (.int x4)), none], [], S) (some (.inl (.int r))) S) : ∀ (n : Nat) (x1 : Int32) (x2 : Int32) (x3 : Int32) r, f_X10_signsOf_L5 S K33 n x1 x2 x3  = some r → ax_T l 0 ma_X10_signsOf (5, [some (.inl (.int x1)), some (.inl (.int x2)), some (.inl (.int x3))], [], S) (some (.inl (.int r))) S := by
  intro n
  induction n with
  | zero =>
    intro x1 x2 x3  r h
    cases h
  | succ n ih =>
    intro x1 x2 x3  r h
    unfold f_X10_signsOf_L5 at h
    refine ax_Tgo [.iload_n 2] (pc' := 6) (L' := [some (.inl (.int x1)), some (.inl (.int x2)), some (.inl (.int x3))]) (st' := [.inl (.int x3)]) (S' := S) ok_X10_signsOf.1 (by decide +kernel) rfl rfl ?_
    refine ax_Tif_lt (off := 27) (tgt := 33) (by decide +kernel) (by decide) (fun c5 => ?_) (fun c5 => ?_)
    · rw [if_pos c5] at h
      refine ax_Tdrop [false, true, false] (L' := [none, some (.inl (.int x2)), none]) rfl ?_
      exact hK33 x2 _ h
    · rw [if_neg c5] at h
      refine ax_Tgo [.iload_n 1, .iload_n 0, .iload_n 2, .iushr, .sipush 255, .iand] (pc' := 17) (L' := [some (.inl (.int x1)), some (.inl (.int x2)), some (.inl (.int x3))]) (st' := [.inl (.int ((x1.toUInt32 >>> (x3.toUInt32 &&& Int32.toUInt32 31)).toInt32 &&& (255 : Int32))), .inl (.int x2)]) (S' := S) ok_X10_signsOf.1 (by decide +kernel) rfl rfl ?_
      refine ax_Tif_eq (off := 7) (tgt := 24) (by decide +kernel) (by decide) (fun c6 => ?_) (fun c6 => ?_)
      · rw [if_pos c6] at h
        refine ax_Tgo [.iconst 0, .iadd, .istore_n 1] (pc' := 27) (L' := [some (.inl (.int x1)), some (.inl (.int (x2 + (0 : Int32)))), some (.inl (.int x3))]) (st' := []) (S' := S) ok_X10_signsOf.1 (by decide +kernel) rfl rfl ?_
        obtain ⟨v7, ev7, h⟩ := ax_let_e h
        rw [ev7]
        refine ax_Tgo [.iinc 2 (-8)] (pc' := 30) (L' := [some (.inl (.int x1)), some (.inl (.int v7)), some (.inl (.int (x3 + (Int32.ofInt (-8)))))]) (st' := []) (S' := S) ok_X10_signsOf.1 (by decide +kernel) rfl rfl ?_
        obtain ⟨v8, ev8, h⟩ := ax_let_e h
        rw [ev8]
        refine ax_Tgoto (off := (-25)) (tgt := 5) (by decide +kernel) (by decide) ?_
        exact ih x1 v7 v8 _ h
      · rw [if_neg c6] at h
        refine ax_Tgo [.iconst 1] (pc' := 21) (L' := [some (.inl (.int x1)), some (.inl (.int x2)), some (.inl (.int x3))]) (st' := [.inl (.int (1 : Int32)), .inl (.int x2)]) (S' := S) ok_X10_signsOf.1 (by decide +kernel) rfl rfl ?_
        refine ax_Tgoto (off := 4) (tgt := 25) (by decide +kernel) (by decide) ?_
        refine ax_Tgo [.iadd, .istore_n 1] (pc' := 27) (L' := [some (.inl (.int x1)), some (.inl (.int (x2 + (1 : Int32)))), some (.inl (.int x3))]) (st' := []) (S' := S) ok_X10_signsOf.1 (by decide +kernel) rfl rfl ?_
        obtain ⟨v9, ev9, h⟩ := ax_let_e h
        rw [ev9]
        refine ax_Tgo [.iinc 2 (-8)] (pc' := 30) (L' := [some (.inl (.int x1)), some (.inl (.int v9)), some (.inl (.int (x3 + (Int32.ofInt (-8)))))]) (st' := []) (S' := S) ok_X10_signsOf.1 (by decide +kernel) rfl rfl ?_
        obtain ⟨v10, ev10, h⟩ := ax_let_e h
        rw [ev10]
        refine ax_Tgoto (off := (-25)) (tgt := 5) (by decide +kernel) (by decide) ?_
        exact ih x1 v9 v10 _ h
set_option maxRecDepth 100000 in
theorem t_X10_signsOf {l : Launch} {a0 : Int32} {S : AS} {r : Int32} (h : f_X10_signsOf a0 S = some r) : ax_M l 0 ma_X10_signsOf [.inl (.int a0)] S (some (.inl (.int r))) S := by
  unfold f_X10_signsOf at h
  show ax_T l 0 ma_X10_signsOf (0, [some (.inl (.int a0)), none, none], [], S) (some (.inl (.int r))) S
  refine ax_Tgo [.iconst 0, .istore_n 1, .bipush 24, .istore_n 2] (pc' := 5) (L' := [some (.inl (.int a0)), some (.inl (.int (0 : Int32))), some (.inl (.int (24 : Int32)))]) (st' := []) (S' := S) ok_X10_signsOf.1 (by decide +kernel) rfl rfl ?_
  refine t_X10_signsOf_L5 ?_ _ a0 (0 : Int32) (24 : Int32) _ h
  · intro x4  r h
    refine ax_Tgo [.iload_n 1] (pc' := 34) (L' := [none, some (.inl (.int x4)), none]) (st' := [.inl (.int x4)]) (S' := S) ok_X10_signsOf.1 (by decide +kernel) rfl rfl ?_
    cases h
    exact ax_Treti (by decide +kernel) rfl rfl
def f_X10_hasRoomFor (a1 : Int32) (S : AS) : Option (Int32) := (if (240 : Int32) < ((ax_fi S 10 0 1) + a1) then some (0 : Int32) else some (1 : Int32))
set_option maxRecDepth 100000 in
theorem t_X10_hasRoomFor {l : Launch} {a1 : Int32} {S : AS} {r : Int32} (h : f_X10_hasRoomFor a1 S = some r) : ax_M l 0 ma_X10_hasRoomFor [.inr (10, 0), .inl (.int a1)] S (some (.inl (.int r))) S := by
  unfold f_X10_hasRoomFor at h
  show ax_T l 0 ma_X10_hasRoomFor (0, [some (.inr (10, 0)), some (.inl (.int a1))], [], S) (some (.inl (.int r))) S
  refine ax_Tgo [.aload_n 0, .getfield 15, .iload_n 1, .iadd, .sipush 240] (pc' := 9) (L' := [some (.inr (10, 0)), some (.inl (.int a1))]) (st' := [.inl (.int (240 : Int32)), .inl (.int ((ax_fi S 10 0 1) + a1))]) (S' := S) ok_X10_hasRoomFor.1 (by decide +kernel) rfl rfl ?_
  refine ax_Tic_gt (off := 7) (tgt := 16) (by decide +kernel) (by decide) (fun c1 => ?_) (fun c1 => ?_)
  · rw [if_pos c1] at h
    refine ax_Tgo [.iconst 0] (pc' := 17) (L' := [some (.inr (10, 0)), some (.inl (.int a1))]) (st' := [.inl (.int (0 : Int32))]) (S' := S) ok_X10_hasRoomFor.1 (by decide +kernel) rfl rfl ?_
    cases h
    exact ax_Treti (by decide +kernel) rfl rfl
  · rw [if_neg c1] at h
    refine ax_Tgo [.iconst 1] (pc' := 13) (L' := [some (.inr (10, 0)), some (.inl (.int a1))]) (st' := [.inl (.int (1 : Int32))]) (S' := S) ok_X10_hasRoomFor.1 (by decide +kernel) rfl rfl ?_
    refine ax_Tgoto (off := 4) (tgt := 17) (by decide +kernel) (by decide) ?_
    cases h
    exact ax_Treti (by decide +kernel) rfl rfl
def f_X10_put_L3 (K55 : AS → Option (AS)) : Nat → Int32 → Int32 → AS → Option (AS)
  | 0, _, _, _ => none
  | n + 1, x1, x2, S3 => (if x2 < (0 : Int32) then K55 S3 else ax_let ((x1.toUInt32 >>> (x2.toUInt32 &&& Int32.toUInt32 31)).toInt32 &&& (255 : Int32)) (fun (v5 : Int32) => (if v5 = (0 : Int32) then ax_let (x2 + (Int32.ofInt (-8))) (fun (v7 : Int32) => f_X10_put_L3 K55 n x1 v7 S3) else (if (240 : Int32) ≤ (ax_fi S3 10 0 1) then ax_let (x2 + (Int32.ofInt (-8))) (fun (v9 : Int32) => f_X10_put_L3 K55 n x1 v9 S3) else ax_gd (ax_in (ax_fi S3 10 0 1) 240) (ax_let (ax_sai S3 40 0 (ax_fi S3 10 0 1).toNatClampNeg v5) (fun (S11 : AS) => ax_let (ax_sfi S11 10 0 1 ((ax_fi S11 10 0 1) + (1 : Int32))) (fun (S12 : AS) => ax_let (x2 + (Int32.ofInt (-8))) (fun (v13 : Int32) => f_X10_put_L3 K55 n x1 v13 S12))))))))
def f_X10_put (a1 : Int32) (S : AS) : Option (AS) := f_X10_put_L3 (fun (S14 : AS) => some S14) ax_F a1 (24 : Int32) S
set_option maxRecDepth 100000 in
theorem t_X10_put_L3 {l : Launch} {K55 : AS → Option (AS)} (hK55 : ∀ (S : AS) Z, K55 S = some Z → ax_T l 0 ma_X10_put (55, [none, none, none, none], [], S) none Z) : ∀ (n : Nat) (x1 : Int32) (x2 : Int32) (S3 : AS) Z, f_X10_put_L3 K55 n x1 x2 S3 = some Z → ax_T l 0 ma_X10_put (3, [some (.inr (10, 0)), some (.inl (.int x1)), some (.inl (.int x2)), none], [], S3) none Z := by
  intro n
  induction n with
  | zero =>
    intro x1 x2 S3 Z h
    cases h
  | succ n ih =>
    intro x1 x2 S3 Z h
    unfold f_X10_put_L3 at h
    refine ax_Tgo [.iload_n 2] (pc' := 4) (L' := [some (.inr (10, 0)), some (.inl (.int x1)), some (.inl (.int x2)), none]) (st' := [.inl (.int x2)]) (S' := S3) ok_X10_put.1 (by decide +kernel) rfl rfl ?_
    refine ax_Tif_lt (off := 51) (tgt := 55) (by decide +kernel) (by decide) (fun c4 => ?_) (fun c4 => ?_)
    · rw [if_pos c4] at h
      refine ax_Tdrop [false, false, false, true] (L' := [none, none, none, none]) rfl ?_
      exact hK55 S3 _ h
    · rw [if_neg c4] at h
      refine ax_Tgo [.iload_n 1, .iload_n 2, .iushr, .sipush 255, .iand, .istore_n 3] (pc' := 15) (L' := [some (.inr (10, 0)), some (.inl (.int x1)), some (.inl (.int x2)), some (.inl (.int ((x1.toUInt32 >>> (x2.toUInt32 &&& Int32.toUInt32 31)).toInt32 &&& (255 : Int32))))]) (st' := []) (S' := S3) ok_X10_put.1 (by decide +kernel) rfl rfl ?_
      obtain ⟨v5, ev5, h⟩ := ax_let_e h
      rw [ev5]
      refine ax_Tgo [.iload_n 3] (pc' := 16) (L' := [some (.inr (10, 0)), some (.inl (.int x1)), some (.inl (.int x2)), some (.inl (.int v5))]) (st' := [.inl (.int v5)]) (S' := S3) ok_X10_put.1 (by decide +kernel) rfl rfl ?_
      refine ax_Tif_eq (off := 33) (tgt := 49) (by decide +kernel) (by decide) (fun c6 => ?_) (fun c6 => ?_)
      · rw [if_pos c6] at h
        refine ax_Tgo [.iinc 2 (-8)] (pc' := 52) (L' := [some (.inr (10, 0)), some (.inl (.int x1)), some (.inl (.int (x2 + (Int32.ofInt (-8))))), some (.inl (.int v5))]) (st' := []) (S' := S3) ok_X10_put.1 (by decide +kernel) rfl rfl ?_
        obtain ⟨v7, ev7, h⟩ := ax_let_e h
        rw [ev7]
        refine ax_Tgoto (off := (-49)) (tgt := 3) (by decide +kernel) (by decide) ?_
        refine ax_Tdrop [true, true, true, false] (L' := [some (.inr (10, 0)), some (.inl (.int x1)), some (.inl (.int v7)), none]) rfl ?_
        exact ih x1 v7 S3 _ h
      · rw [if_neg c6] at h
        refine ax_Tgo [.aload_n 0, .getfield 15, .sipush 240] (pc' := 26) (L' := [some (.inr (10, 0)), some (.inl (.int x1)), some (.inl (.int x2)), some (.inl (.int v5))]) (st' := [.inl (.int (240 : Int32)), .inl (.int (ax_fi S3 10 0 1))]) (S' := S3) ok_X10_put.1 (by decide +kernel) rfl rfl ?_
        refine ax_Tic_ge (off := 23) (tgt := 49) (by decide +kernel) (by decide) (fun c8 => ?_) (fun c8 => ?_)
        · rw [if_pos c8] at h
          refine ax_Tgo [.iinc 2 (-8)] (pc' := 52) (L' := [some (.inr (10, 0)), some (.inl (.int x1)), some (.inl (.int (x2 + (Int32.ofInt (-8))))), some (.inl (.int v5))]) (st' := []) (S' := S3) ok_X10_put.1 (by decide +kernel) rfl rfl ?_
          obtain ⟨v9, ev9, h⟩ := ax_let_e h
          rw [ev9]
          refine ax_Tgoto (off := (-49)) (tgt := 3) (by decide +kernel) (by decide) ?_
          refine ax_Tdrop [true, true, true, false] (L' := [some (.inr (10, 0)), some (.inl (.int x1)), some (.inl (.int v9)), none]) rfl ?_
          exact ih x1 v9 S3 _ h
        · rw [if_neg c8] at h
          refine ax_Tgo [.aload_n 0, .getfield 11, .aload_n 0, .getfield 15, .iload_n 3] (pc' := 38) (L' := [some (.inr (10, 0)), some (.inl (.int x1)), some (.inl (.int x2)), some (.inl (.int v5))]) (st' := [.inl (.int v5), .inl (.int (ax_fi S3 10 0 1)), .inr (40, 0)]) (S' := S3) ok_X10_put.1 (by decide +kernel) rfl rfl ?_
          obtain ⟨g10, h⟩ := ax_gd_e h
          refine ax_Tasi (n := 240) ok_X10_put.1 (by decide +kernel) (by decide) rfl g10 ?_
          obtain ⟨S11, eS11, h⟩ := ax_let_e h
          rw [eS11]
          refine ax_Tgo [.aload_n 0, .dup, .getfield 15, .iconst 1, .iadd, .putfield 15] (pc' := 49) (L' := [some (.inr (10, 0)), some (.inl (.int x1)), some (.inl (.int x2)), some (.inl (.int v5))]) (st' := []) (S' := (ax_sfi S11 10 0 1 ((ax_fi S11 10 0 1) + (1 : Int32)))) ok_X10_put.1 (by decide +kernel) rfl rfl ?_
          obtain ⟨S12, eS12, h⟩ := ax_let_e h
          rw [eS12]
          refine ax_Tgo [.iinc 2 (-8)] (pc' := 52) (L' := [some (.inr (10, 0)), some (.inl (.int x1)), some (.inl (.int (x2 + (Int32.ofInt (-8))))), some (.inl (.int v5))]) (st' := []) (S' := S12) ok_X10_put.1 (by decide +kernel) rfl rfl ?_
          obtain ⟨v13, ev13, h⟩ := ax_let_e h
          rw [ev13]
          refine ax_Tgoto (off := (-49)) (tgt := 3) (by decide +kernel) (by decide) ?_
          refine ax_Tdrop [true, true, true, false] (L' := [some (.inr (10, 0)), some (.inl (.int x1)), some (.inl (.int v13)), none]) rfl ?_
          exact ih x1 v13 S12 _ h
set_option maxRecDepth 100000 in
theorem t_X10_put {l : Launch} {a1 : Int32} {S Z : AS} (h : f_X10_put a1 S = some Z) : ax_M l 0 ma_X10_put [.inr (10, 0), .inl (.int a1)] S none Z := by
  unfold f_X10_put at h
  show ax_T l 0 ma_X10_put (0, [some (.inr (10, 0)), some (.inl (.int a1)), none, none], [], S) none Z
  refine ax_Tgo [.bipush 24, .istore_n 2] (pc' := 3) (L' := [some (.inr (10, 0)), some (.inl (.int a1)), some (.inl (.int (24 : Int32))), none]) (st' := []) (S' := S) ok_X10_put.1 (by decide +kernel) rfl rfl ?_
  refine t_X10_put_L3 ?_ _ a1 (24 : Int32) S _ h
  · intro S14 Z h
    cases h
    exact ax_Tretv (by decide +kernel) rfl
def f_X11_feed (a1 : Int32) (a2 : Int32) (a3 : Int32) (a4 : Int32) (a5 : Int32) (S : AS) : Option (Int32 × AS) := (f_X10_signsOf a1 S).bind (fun (r4 : Int32) => (f_X10_signsOf a2 S).bind (fun (r8 : Int32) => (f_X10_signsOf a3 S).bind (fun (r12 : Int32) => (f_X10_signsOf a4 S).bind (fun (r16 : Int32) => (f_X10_signsOf a5 S).bind (fun (r20 : Int32) => ax_let ((((r4 + r8) + r12) + r16) + r20) (fun (v21 : Int32) => (f_X10_hasRoomFor v21 S).bind (fun (r25 : Int32) => (if r25 = (0 : Int32) then some ((Int32.ofInt (-1)), S) else (f_X10_put a1 S).bind (fun (S27 : AS) => (f_X10_put a2 S27).bind (fun (S30 : AS) => (f_X10_put a3 S30).bind (fun (S33 : AS) => (f_X10_put a4 S33).bind (fun (S36 : AS) => (f_X10_put a5 S36).bind (fun (S39 : AS) => some ((ax_fi S39 10 0 1), S39))))))))))))))
set_option maxRecDepth 100000 in
theorem t_X11_feed {l : Launch} {a1 : Int32} {a2 : Int32} {a3 : Int32} {a4 : Int32} {a5 : Int32} {S Z : AS} {r : Int32} (h : f_X11_feed a1 a2 a3 a4 a5 S = some (r, Z)) : ax_M l 1 ma_X11_feed [.inr (11, 0), .inl (.int a1), .inl (.int a2), .inl (.int a3), .inl (.int a4), .inl (.int a5)] S (some (.inl (.int r))) Z := by
  unfold f_X11_feed at h
  show ax_T l 1 ma_X11_feed (0, [some (.inr (11, 0)), some (.inl (.int a1)), some (.inl (.int a2)), some (.inl (.int a3)), some (.inl (.int a4)), some (.inl (.int a5)), none], [], S) (some (.inl (.int r))) Z
  refine ax_Tgo [.iload_n 1] (pc' := 1) (L' := [some (.inr (11, 0)), some (.inl (.int a1)), some (.inl (.int a2)), some (.inl (.int a3)), some (.inl (.int a4)), some (.inl (.int a5)), none]) (st' := [.inl (.int a1)]) (S' := S) ok_X11_feed.1 (by decide +kernel) rfl rfl ?_
  obtain ⟨r4, hq2, h⟩ := ax_bd_e h
  refine ax_TSi (d := 0) [.inl (.int a1)] [] lk_X11_116 (by decide +kernel) rfl rfl (Nat.le_of_ble_eq_true rfl) (Nat.le_of_ble_eq_true rfl) ((t_X10_signsOf hq2).up (by decide)) ?_
  refine ax_Tgo [.iload_n 2] (pc' := 5) (L' := [some (.inr (11, 0)), some (.inl (.int a1)), some (.inl (.int a2)), some (.inl (.int a3)), some (.inl (.int a4)), some (.inl (.int a5)), none]) (st' := [.inl (.int a2), .inl (.int r4)]) (S' := S) ok_X11_feed.1 (by decide +kernel) rfl rfl ?_
  obtain ⟨r8, hq6, h⟩ := ax_bd_e h
  refine ax_TSi (d := 0) [.inl (.int a2)] [.inl (.int r4)] lk_X11_116 (by decide +kernel) rfl rfl (Nat.le_of_ble_eq_true rfl) (Nat.le_of_ble_eq_true rfl) ((t_X10_signsOf hq6).up (by decide)) ?_
  refine ax_Tgo [.iadd, .iload_n 3] (pc' := 10) (L' := [some (.inr (11, 0)), some (.inl (.int a1)), some (.inl (.int a2)), some (.inl (.int a3)), some (.inl (.int a4)), some (.inl (.int a5)), none]) (st' := [.inl (.int a3), .inl (.int (r4 + r8))]) (S' := S) ok_X11_feed.1 (by decide +kernel) rfl rfl ?_
  obtain ⟨r12, hq10, h⟩ := ax_bd_e h
  refine ax_TSi (d := 0) [.inl (.int a3)] [.inl (.int (r4 + r8))] lk_X11_116 (by decide +kernel) rfl rfl (Nat.le_of_ble_eq_true rfl) (Nat.le_of_ble_eq_true rfl) ((t_X10_signsOf hq10).up (by decide)) ?_
  refine ax_Tgo [.iadd, .iload 4] (pc' := 16) (L' := [some (.inr (11, 0)), some (.inl (.int a1)), some (.inl (.int a2)), some (.inl (.int a3)), some (.inl (.int a4)), some (.inl (.int a5)), none]) (st' := [.inl (.int a4), .inl (.int ((r4 + r8) + r12))]) (S' := S) ok_X11_feed.1 (by decide +kernel) rfl rfl ?_
  obtain ⟨r16, hq14, h⟩ := ax_bd_e h
  refine ax_TSi (d := 0) [.inl (.int a4)] [.inl (.int ((r4 + r8) + r12))] lk_X11_116 (by decide +kernel) rfl rfl (Nat.le_of_ble_eq_true rfl) (Nat.le_of_ble_eq_true rfl) ((t_X10_signsOf hq14).up (by decide)) ?_
  refine ax_Tgo [.iadd, .iload 5] (pc' := 22) (L' := [some (.inr (11, 0)), some (.inl (.int a1)), some (.inl (.int a2)), some (.inl (.int a3)), some (.inl (.int a4)), some (.inl (.int a5)), none]) (st' := [.inl (.int a5), .inl (.int (((r4 + r8) + r12) + r16))]) (S' := S) ok_X11_feed.1 (by decide +kernel) rfl rfl ?_
  obtain ⟨r20, hq18, h⟩ := ax_bd_e h
  refine ax_TSi (d := 0) [.inl (.int a5)] [.inl (.int (((r4 + r8) + r12) + r16))] lk_X11_116 (by decide +kernel) rfl rfl (Nat.le_of_ble_eq_true rfl) (Nat.le_of_ble_eq_true rfl) ((t_X10_signsOf hq18).up (by decide)) ?_
  refine ax_Tgo [.iadd, .istore 6] (pc' := 28) (L' := [some (.inr (11, 0)), some (.inl (.int a1)), some (.inl (.int a2)), some (.inl (.int a3)), some (.inl (.int a4)), some (.inl (.int a5)), some (.inl (.int ((((r4 + r8) + r12) + r16) + r20)))]) (st' := []) (S' := S) ok_X11_feed.1 (by decide +kernel) rfl rfl ?_
  obtain ⟨v21, ev21, h⟩ := ax_let_e h
  rw [ev21]
  refine ax_Tgo [.aload_n 0, .getfield 10, .iload 6] (pc' := 34) (L' := [some (.inr (11, 0)), some (.inl (.int a1)), some (.inl (.int a2)), some (.inl (.int a3)), some (.inl (.int a4)), some (.inl (.int a5)), some (.inl (.int v21))]) (st' := [.inl (.int v21), .inr (10, 0)]) (S' := S) ok_X11_feed.1 (by decide +kernel) rfl rfl ?_
  obtain ⟨r25, hq23, h⟩ := ax_bd_e h
  refine ax_TVi (d := 0) (ka := 10) (i := 0) [.inl (.int v21)] [] lk_X11_120 (by decide +kernel) rfl (by decide) rfl (Nat.le_of_ble_eq_true rfl) (Nat.le_of_ble_eq_true rfl) ((t_X10_hasRoomFor hq23).up (by decide)) ?_
  refine ax_Tif_ne (off := 5) (tgt := 42) (by decide +kernel) (by decide) (fun c26 => ?_) (fun c26 => ?_)
  · rw [if_neg c26] at h
    refine ax_Tgo [.aload_n 0, .getfield 10, .iload_n 1] (pc' := 47) (L' := [some (.inr (11, 0)), some (.inl (.int a1)), some (.inl (.int a2)), some (.inl (.int a3)), some (.inl (.int a4)), some (.inl (.int a5)), some (.inl (.int v21))]) (st' := [.inl (.int a1), .inr (10, 0)]) (S' := S) ok_X11_feed.1 (by decide +kernel) rfl rfl ?_
    obtain ⟨S27, hq28, h⟩ := ax_bd_e h
    refine ax_TVv (d := 0) (ka := 10) (i := 0) [.inl (.int a1)] [] lk_X11_124 (by decide +kernel) rfl (by decide) rfl (Nat.le_of_ble_eq_true rfl) (Nat.le_of_ble_eq_true rfl) ((t_X10_put hq28).up (by decide)) ?_
    refine ax_Tgo [.aload_n 0, .getfield 10, .iload_n 2] (pc' := 55) (L' := [some (.inr (11, 0)), some (.inl (.int a1)), some (.inl (.int a2)), some (.inl (.int a3)), some (.inl (.int a4)), some (.inl (.int a5)), some (.inl (.int v21))]) (st' := [.inl (.int a2), .inr (10, 0)]) (S' := S27) ok_X11_feed.1 (by decide +kernel) rfl rfl ?_
    obtain ⟨S30, hq31, h⟩ := ax_bd_e h
    refine ax_TVv (d := 0) (ka := 10) (i := 0) [.inl (.int a2)] [] lk_X11_124 (by decide +kernel) rfl (by decide) rfl (Nat.le_of_ble_eq_true rfl) (Nat.le_of_ble_eq_true rfl) ((t_X10_put hq31).up (by decide)) ?_
    refine ax_Tgo [.aload_n 0, .getfield 10, .iload_n 3] (pc' := 63) (L' := [some (.inr (11, 0)), some (.inl (.int a1)), some (.inl (.int a2)), some (.inl (.int a3)), some (.inl (.int a4)), some (.inl (.int a5)), some (.inl (.int v21))]) (st' := [.inl (.int a3), .inr (10, 0)]) (S' := S30) ok_X11_feed.1 (by decide +kernel) rfl rfl ?_
    obtain ⟨S33, hq34, h⟩ := ax_bd_e h
    refine ax_TVv (d := 0) (ka := 10) (i := 0) [.inl (.int a3)] [] lk_X11_124 (by decide +kernel) rfl (by decide) rfl (Nat.le_of_ble_eq_true rfl) (Nat.le_of_ble_eq_true rfl) ((t_X10_put hq34).up (by decide)) ?_
    refine ax_Tgo [.aload_n 0, .getfield 10, .iload 4] (pc' := 72) (L' := [some (.inr (11, 0)), some (.inl (.int a1)), some (.inl (.int a2)), some (.inl (.int a3)), some (.inl (.int a4)), some (.inl (.int a5)), some (.inl (.int v21))]) (st' := [.inl (.int a4), .inr (10, 0)]) (S' := S33) ok_X11_feed.1 (by decide +kernel) rfl rfl ?_
    obtain ⟨S36, hq37, h⟩ := ax_bd_e h
    refine ax_TVv (d := 0) (ka := 10) (i := 0) [.inl (.int a4)] [] lk_X11_124 (by decide +kernel) rfl (by decide) rfl (Nat.le_of_ble_eq_true rfl) (Nat.le_of_ble_eq_true rfl) ((t_X10_put hq37).up (by decide)) ?_
    refine ax_Tgo [.aload_n 0, .getfield 10, .iload 5] (pc' := 81) (L' := [some (.inr (11, 0)), some (.inl (.int a1)), some (.inl (.int a2)), some (.inl (.int a3)), some (.inl (.int a4)), some (.inl (.int a5)), some (.inl (.int v21))]) (st' := [.inl (.int a5), .inr (10, 0)]) (S' := S36) ok_X11_feed.1 (by decide +kernel) rfl rfl ?_
    obtain ⟨S39, hq40, h⟩ := ax_bd_e h
    refine ax_TVv (d := 0) (ka := 10) (i := 0) [.inl (.int a5)] [] lk_X11_124 (by decide +kernel) rfl (by decide) rfl (Nat.le_of_ble_eq_true rfl) (Nat.le_of_ble_eq_true rfl) ((t_X10_put hq40).up (by decide)) ?_
    refine ax_Tgo [.aload_n 0, .getfield 10] (pc' := 88) (L' := [some (.inr (11, 0)), some (.inl (.int a1)), some (.inl (.int a2)), some (.inl (.int a3)), some (.inl (.int a4)), some (.inl (.int a5)), some (.inl (.int v21))]) (st' := [.inr (10, 0)]) (S' := S39) ok_X11_feed.1 (by decide +kernel) rfl rfl ?_
    refine ax_TVi (d := 0) (ka := 10) (i := 0) [] [] lk_X11_128 (by decide +kernel) rfl (by decide) rfl (Nat.le_of_ble_eq_true rfl) (Nat.le_of_ble_eq_true rfl) ((t_X10_size rfl).up (by decide)) ?_
    cases h
    exact ax_Treti (by decide +kernel) rfl rfl
  · rw [if_pos c26] at h
    refine ax_Tgo [.iconst (-1)] (pc' := 41) (L' := [some (.inr (11, 0)), some (.inl (.int a1)), some (.inl (.int a2)), some (.inl (.int a3)), some (.inl (.int a4)), some (.inl (.int a5)), some (.inl (.int v21))]) (st' := [.inl (.int (Int32.ofInt (-1)))]) (S' := S) ok_X11_feed.1 (by decide +kernel) rfl rfl ?_
    cases h
    exact ax_Treti (by decide +kernel) rfl rfl
def f_X11_noSuchPair (a1 : Int32) (a2 : Int32) (S : AS) : Option (Int32) := (f_X11_noSuchCaller a1 S).bind (fun (r4 : Int32) => (if r4 = (0 : Int32) then (f_X11_noSuchCaller a2 S).bind (fun (r9 : Int32) => (if r9 = (0 : Int32) then (if a1 = a2 then some (1 : Int32) else some (0 : Int32)) else some (1 : Int32))) else some (1 : Int32)))
set_option maxRecDepth 100000 in
theorem t_X11_noSuchPair {l : Launch} {a1 : Int32} {a2 : Int32} {S : AS} {r : Int32} (h : f_X11_noSuchPair a1 a2 S = some r) : ax_M l 2 ma_X11_noSuchPair [.inr (11, 0), .inl (.int a1), .inl (.int a2)] S (some (.inl (.int r))) S := by
  unfold f_X11_noSuchPair at h
  show ax_T l 2 ma_X11_noSuchPair (0, [some (.inr (11, 0)), some (.inl (.int a1)), some (.inl (.int a2))], [], S) (some (.inl (.int r))) S
  refine ax_Tgo [.aload_n 0, .iload_n 1] (pc' := 2) (L' := [some (.inr (11, 0)), some (.inl (.int a1)), some (.inl (.int a2))]) (st' := [.inl (.int a1), .inr (11, 0)]) (S' := S) ok_X11_noSuchPair.1 (by decide +kernel) rfl rfl ?_
  obtain ⟨r4, hq2, h⟩ := ax_bd_e h
  refine ax_TVi (d := 1) (ka := 11) (i := 0) [.inl (.int a1)] [] lk_X11_183 (by decide +kernel) rfl (by decide) rfl (Nat.le_of_ble_eq_true rfl) (Nat.le_of_ble_eq_true rfl) ((t_X11_noSuchCaller hq2).up (by decide)) ?_
  refine ax_Tif_ne (off := 16) (tgt := 21) (by decide +kernel) (by decide) (fun c5 => ?_) (fun c5 => ?_)
  · rw [if_neg c5] at h
    refine ax_Tgo [.iconst 1] (pc' := 22) (L' := [some (.inr (11, 0)), some (.inl (.int a1)), some (.inl (.int a2))]) (st' := [.inl (.int (1 : Int32))]) (S' := S) ok_X11_noSuchPair.1 (by decide +kernel) rfl rfl ?_
    refine ax_Tgoto (off := 4) (tgt := 26) (by decide +kernel) (by decide) ?_
    cases h
    exact ax_Treti (by decide +kernel) rfl rfl
  · rw [if_pos c5] at h
    refine ax_Tgo [.aload_n 0, .iload_n 2] (pc' := 10) (L' := [some (.inr (11, 0)), some (.inl (.int a1)), some (.inl (.int a2))]) (st' := [.inl (.int a2), .inr (11, 0)]) (S' := S) ok_X11_noSuchPair.1 (by decide +kernel) rfl rfl ?_
    obtain ⟨r9, hq7, h⟩ := ax_bd_e h
    refine ax_TVi (d := 1) (ka := 11) (i := 0) [.inl (.int a2)] [] lk_X11_183 (by decide +kernel) rfl (by decide) rfl (Nat.le_of_ble_eq_true rfl) (Nat.le_of_ble_eq_true rfl) ((t_X11_noSuchCaller hq7).up (by decide)) ?_
    refine ax_Tif_ne (off := 8) (tgt := 21) (by decide +kernel) (by decide) (fun c10 => ?_) (fun c10 => ?_)
    · rw [if_neg c10] at h
      refine ax_Tgo [.iconst 1] (pc' := 22) (L' := [some (.inr (11, 0)), some (.inl (.int a1)), some (.inl (.int a2))]) (st' := [.inl (.int (1 : Int32))]) (S' := S) ok_X11_noSuchPair.1 (by decide +kernel) rfl rfl ?_
      refine ax_Tgoto (off := 4) (tgt := 26) (by decide +kernel) (by decide) ?_
      cases h
      exact ax_Treti (by decide +kernel) rfl rfl
    · rw [if_pos c10] at h
      refine ax_Tgo [.iload_n 1, .iload_n 2] (pc' := 18) (L' := [some (.inr (11, 0)), some (.inl (.int a1)), some (.inl (.int a2))]) (st' := [.inl (.int a2), .inl (.int a1)]) (S' := S) ok_X11_noSuchPair.1 (by decide +kernel) rfl rfl ?_
      refine ax_Tic_ne (off := 7) (tgt := 25) (by decide +kernel) (by decide) (fun c11 => ?_) (fun c11 => ?_)
      · rw [if_neg c11] at h
        refine ax_Tgo [.iconst 0] (pc' := 26) (L' := [some (.inr (11, 0)), some (.inl (.int a1)), some (.inl (.int a2))]) (st' := [.inl (.int (0 : Int32))]) (S' := S) ok_X11_noSuchPair.1 (by decide +kernel) rfl rfl ?_
        cases h
        exact ax_Treti (by decide +kernel) rfl rfl
      · rw [if_pos c11] at h
        refine ax_Tgo [.iconst 1] (pc' := 22) (L' := [some (.inr (11, 0)), some (.inl (.int a1)), some (.inl (.int a2))]) (st' := [.inl (.int (1 : Int32))]) (S' := S) ok_X11_noSuchPair.1 (by decide +kernel) rfl rfl ?_
        refine ax_Tgoto (off := 4) (tgt := 26) (by decide +kernel) (by decide) ?_
        cases h
        exact ax_Treti (by decide +kernel) rfl rfl
def f_X11_outOfTitles (a0 : Int32) (S : AS) : Option (Int32) := (if a0 < (0 : Int32) then some (1 : Int32) else (if a0 ≤ (3 : Int32) then some (0 : Int32) else some (1 : Int32)))
set_option maxRecDepth 100000 in
theorem t_X11_outOfTitles {l : Launch} {a0 : Int32} {S : AS} {r : Int32} (h : f_X11_outOfTitles a0 S = some r) : ax_M l 0 ma_X11_outOfTitles [.inl (.int a0)] S (some (.inl (.int r))) S := by
  unfold f_X11_outOfTitles at h
  show ax_T l 0 ma_X11_outOfTitles (0, [some (.inl (.int a0))], [], S) (some (.inl (.int r))) S
  refine ax_Tgo [.iload_n 0] (pc' := 1) (L' := [some (.inl (.int a0))]) (st' := [.inl (.int a0)]) (S' := S) ok_X11_outOfTitles.1 (by decide +kernel) rfl rfl ?_
  refine ax_Tif_lt (off := 8) (tgt := 9) (by decide +kernel) (by decide) (fun c1 => ?_) (fun c1 => ?_)
  · rw [if_pos c1] at h
    refine ax_Tgo [.iconst 1] (pc' := 10) (L' := [some (.inl (.int a0))]) (st' := [.inl (.int (1 : Int32))]) (S' := S) ok_X11_outOfTitles.1 (by decide +kernel) rfl rfl ?_
    refine ax_Tgoto (off := 4) (tgt := 14) (by decide +kernel) (by decide) ?_
    cases h
    exact ax_Treti (by decide +kernel) rfl rfl
  · rw [if_neg c1] at h
    refine ax_Tgo [.iload_n 0, .iconst 3] (pc' := 6) (L' := [some (.inl (.int a0))]) (st' := [.inl (.int (3 : Int32)), .inl (.int a0)]) (S' := S) ok_X11_outOfTitles.1 (by decide +kernel) rfl rfl ?_
    refine ax_Tic_le (off := 7) (tgt := 13) (by decide +kernel) (by decide) (fun c2 => ?_) (fun c2 => ?_)
    · rw [if_pos c2] at h
      refine ax_Tgo [.iconst 0] (pc' := 14) (L' := [some (.inl (.int a0))]) (st' := [.inl (.int (0 : Int32))]) (S' := S) ok_X11_outOfTitles.1 (by decide +kernel) rfl rfl ?_
      cases h
      exact ax_Treti (by decide +kernel) rfl rfl
    · rw [if_neg c2] at h
      refine ax_Tgo [.iconst 1] (pc' := 10) (L' := [some (.inl (.int a0))]) (st' := [.inl (.int (1 : Int32))]) (S' := S) ok_X11_outOfTitles.1 (by decide +kernel) rfl rfl ?_
      refine ax_Tgoto (off := 4) (tgt := 14) (by decide +kernel) (by decide) ?_
      cases h
      exact ax_Treti (by decide +kernel) rfl rfl
def f_X11_prize (a1 : Int32) (a2 : Int32) (a3 : Int32) (S : AS) : Option (Int32 × AS) := ax_bu (f_X6_beatsTired 0 a1 a2 ((ax_fi S 9 0 3) + a3) S) (fun (r4 : Int32) (S1 : AS) => (f_X6_doneBy a1 r4 S1).bind (fun (r8 : Int32) => (if r8 = (0 : Int32) then some ((0 : Int32), S1) else (f_X4_traitOf (ax_fx S1 11 0 14) a1 (4 : Int32) S1).bind (fun (r13 : Int32) => some (r13, S1)))))
set_option maxRecDepth 100000 in
theorem t_X11_prize {l : Launch} {a1 : Int32} {a2 : Int32} {a3 : Int32} {S Z : AS} {r : Int32} (h : f_X11_prize a1 a2 a3 S = some (r, Z)) : ax_M l 4 ma_X11_prize [.inr (11, 0), .inl (.int a1), .inl (.int a2), .inl (.int a3)] S (some (.inl (.int r))) Z := by
  unfold f_X11_prize at h
  show ax_T l 4 ma_X11_prize (0, [some (.inr (11, 0)), some (.inl (.int a1)), some (.inl (.int a2)), some (.inl (.int a3)), none], [], S) (some (.inl (.int r))) Z
  refine ax_Tgo [.aload_n 0, .getfield 31, .aload_n 0, .getfield 69, .iload_n 1, .iload_n 2, .aload_n 0, .getfield 69, .getfield 216, .iload_n 3, .iadd] (pc' := 19) (L' := [some (.inr (11, 0)), some (.inl (.int a1)), some (.inl (.int a2)), some (.inl (.int a3)), none]) (st' := [.inl (.int ((ax_fi S 9 0 3) + a3)), .inl (.int a2), .inl (.int a1), .inr (9, 0), .inr (6, 0)]) (S' := S) ok_X11_prize.1 (by decide +kernel) rfl rfl ?_
  obtain ⟨r4, S1, hq2, h⟩ := ax_bu_e h
  refine ax_TVi (d := 3) (ka := 6) (i := 0) [.inr (9, 0), .inl (.int a1), .inl (.int a2), .inl (.int ((ax_fi S 9 0 3) + a3))] [] lk_X11_361 (by decide +kernel) rfl (by decide) rfl (Nat.le_of_ble_eq_true rfl) (Nat.le_of_ble_eq_true rfl) ((t_X6_beatsTired hq2).up (by decide)) ?_
  refine ax_Tgo [.istore 4, .aload_n 0, .getfield 31, .iload_n 1, .iload 4] (pc' := 31) (L' := [some (.inr (11, 0)), some (.inl (.int a1)), some (.inl (.int a2)), some (.inl (.int a3)), some (.inl (.int r4))]) (st' := [.inl (.int r4), .inl (.int a1), .inr (6, 0)]) (S' := S1) ok_X11_prize.1 (by decide +kernel) rfl rfl ?_
  obtain ⟨r8, hq6, h⟩ := ax_bd_e h
  refine ax_TVi (d := 3) (ka := 6) (i := 0) [.inl (.int a1), .inl (.int r4)] [] lk_X11_288 (by decide +kernel) rfl (by decide) rfl (Nat.le_of_ble_eq_true rfl) (Nat.le_of_ble_eq_true rfl) ((t_X6_doneBy hq6).up (by decide)) ?_
  refine ax_Tif_eq (off := 15) (tgt := 49) (by decide +kernel) (by decide) (fun c9 => ?_) (fun c9 => ?_)
  · rw [if_pos c9] at h
    refine ax_Tgo [.iconst 0] (pc' := 50) (L' := [some (.inr (11, 0)), some (.inl (.int a1)), some (.inl (.int a2)), some (.inl (.int a3)), some (.inl (.int r4))]) (st' := [.inl (.int (0 : Int32))]) (S' := S1) ok_X11_prize.1 (by decide +kernel) rfl rfl ?_
    cases h
    exact ax_Treti (by decide +kernel) rfl rfl
  · rw [if_neg c9] at h
    refine ax_Tgo [.aload_n 0, .getfield 93, .iload_n 1, .iconst 4] (pc' := 43) (L' := [some (.inr (11, 0)), some (.inl (.int a1)), some (.inl (.int a2)), some (.inl (.int a3)), some (.inl (.int r4))]) (st' := [.inl (.int (4 : Int32)), .inl (.int a1), .inr (4, (ax_fx S1 11 0 14))]) (S' := S1) ok_X11_prize.1 (by decide +kernel) rfl rfl ?_
    obtain ⟨r13, hq11, h⟩ := ax_bd_e h
    refine ax_TVi (d := 3) (ka := 4) (i := (ax_fx S1 11 0 14)) [.inl (.int a1), .inl (.int (4 : Int32))] [] lk_X11_195 (by decide +kernel) rfl (by decide) rfl (Nat.le_of_ble_eq_true rfl) (Nat.le_of_ble_eq_true rfl) ((t_X4_traitOf hq11).up (by decide)) ?_
    refine ax_Tgoto (off := 4) (tgt := 50) (by decide +kernel) (by decide) ?_
    cases h
    exact ax_Treti (by decide +kernel) rfl rfl
def f_X11_share (a0 : Int32) (a1 : Int32) (a2 : Int32) (S : AS) : Option (Int32) := (if a2 ≤ a1 then some ((a0 - a1) - (0 : Int32)) else some ((a0 - a1) - (2 : Int32)))
set_option maxRecDepth 100000 in
theorem t_X11_share {l : Launch} {a0 : Int32} {a1 : Int32} {a2 : Int32} {S : AS} {r : Int32} (h : f_X11_share a0 a1 a2 S = some r) : ax_M l 0 ma_X11_share [.inl (.int a0), .inl (.int a1), .inl (.int a2)] S (some (.inl (.int r))) S := by
  unfold f_X11_share at h
  show ax_T l 0 ma_X11_share (0, [some (.inl (.int a0)), some (.inl (.int a1)), some (.inl (.int a2))], [], S) (some (.inl (.int r))) S
  refine ax_Tgo [.iload_n 0, .iload_n 1, .isub, .iload_n 2, .iload_n 1] (pc' := 5) (L' := [some (.inl (.int a0)), some (.inl (.int a1)), some (.inl (.int a2))]) (st' := [.inl (.int a1), .inl (.int a2), .inl (.int (a0 - a1))]) (S' := S) ok_X11_share.1 (by decide +kernel) rfl rfl ?_
  refine ax_Tic_le (off := 7) (tgt := 12) (by decide +kernel) (by decide) (fun c1 => ?_) (fun c1 => ?_)
  · rw [if_pos c1] at h
    refine ax_Tgo [.iconst 0, .isub] (pc' := 14) (L' := [some (.inl (.int a0)), some (.inl (.int a1)), some (.inl (.int a2))]) (st' := [.inl (.int ((a0 - a1) - (0 : Int32)))]) (S' := S) ok_X11_share.1 (by decide +kernel) rfl rfl ?_
    cases h
    exact ax_Treti (by decide +kernel) rfl rfl
  · rw [if_neg c1] at h
    refine ax_Tgo [.iconst 2] (pc' := 9) (L' := [some (.inl (.int a0)), some (.inl (.int a1)), some (.inl (.int a2))]) (st' := [.inl (.int (2 : Int32)), .inl (.int (a0 - a1))]) (S' := S) ok_X11_share.1 (by decide +kernel) rfl rfl ?_
    refine ax_Tgoto (off := 4) (tgt := 13) (by decide +kernel) (by decide) ?_
    refine ax_Tgo [.isub] (pc' := 14) (L' := [some (.inl (.int a0)), some (.inl (.int a1)), some (.inl (.int a2))]) (st' := [.inl (.int ((a0 - a1) - (2 : Int32)))]) (S' := S) ok_X11_share.1 (by decide +kernel) rfl rfl ?_
    cases h
    exact ax_Treti (by decide +kernel) rfl rfl
def f_X11_game (a1 : Int32) (a2 : Int32) (a3 : Int32) (a4 : Int32) (a5 : Int32) (S : AS) : Option (Int32 × AS) := (f_X11_noSuchPair a1 a2 S).bind (fun (r4 : Int32) => (if r4 = (0 : Int32) then (f_X11_outOfTitles a3 S).bind (fun (r9 : Int32) => (if r9 = (0 : Int32) then (f_X11_outOfTitles a4 S).bind (fun (r14 : Int32) => (if r14 = (0 : Int32) then (if a5 < (0 : Int32) then some ((-1000000 : Int32), S) else (if a5 ≤ (1 : Int32) then (if a5 = (0 : Int32) then ax_bu (f_X11_prize a1 a3 (0 : Int32) S) (fun (r30 : Int32) (S27 : AS) => (f_X11_share r30 a3 a4 S27).bind (fun (r34 : Int32) => some (r34, S27))) else ax_bu (f_X11_prize a2 a4 (1 : Int32) S) (fun (r22 : Int32) (S19 : AS) => (f_X11_share r22 a4 a3 S19).bind (fun (r26 : Int32) => some (r26, S19)))) else some ((-1000000 : Int32), S))) else some ((-1000000 : Int32), S))) else some ((-1000000 : Int32), S))) else some ((-1000000 : Int32), S)))
set_option maxRecDepth 100000 in
theorem t_X11_game {l : Launch} {a1 : Int32} {a2 : Int32} {a3 : Int32} {a4 : Int32} {a5 : Int32} {S Z : AS} {r : Int32} (h : f_X11_game a1 a2 a3 a4 a5 S = some (r, Z)) : ax_M l 5 ma_X11_game [.inr (11, 0), .inl (.int a1), .inl (.int a2), .inl (.int a3), .inl (.int a4), .inl (.int a5)] S (some (.inl (.int r))) Z := by
  unfold f_X11_game at h
  show ax_T l 5 ma_X11_game (0, [some (.inr (11, 0)), some (.inl (.int a1)), some (.inl (.int a2)), some (.inl (.int a3)), some (.inl (.int a4)), some (.inl (.int a5))], [], S) (some (.inl (.int r))) Z
  refine ax_Tgo [.aload_n 0, .iload_n 1, .iload_n 2] (pc' := 3) (L' := [some (.inr (11, 0)), some (.inl (.int a1)), some (.inl (.int a2)), some (.inl (.int a3)), some (.inl (.int a4)), some (.inl (.int a5))]) (st' := [.inl (.int a2), .inl (.int a1), .inr (11, 0)]) (S' := S) ok_X11_game.1 (by decide +kernel) rfl rfl ?_
  obtain ⟨r4, hq2, h⟩ := ax_bd_e h
  refine ax_TVi (d := 4) (ka := 11) (i := 0) [.inl (.int a1), .inl (.int a2)] [] lk_X11_345 (by decide +kernel) rfl (by decide) rfl (Nat.le_of_ble_eq_true rfl) (Nat.le_of_ble_eq_true rfl) ((t_X11_noSuchPair hq2).up (by decide)) ?_
  refine ax_Tif_ne (off := 29) (tgt := 35) (by decide +kernel) (by decide) (fun c5 => ?_) (fun c5 => ?_)
  · rw [if_neg c5] at h
    refine ax_Tgo [.ldc_w 271] (pc' := 38) (L' := [some (.inr (11, 0)), some (.inl (.int a1)), some (.inl (.int a2)), some (.inl (.int a3)), some (.inl (.int a4)), some (.inl (.int a5))]) (st' := [.inl (.int (-1000000 : Int32))]) (S' := S) ok_X11_game.1 (by decide +kernel) rfl rfl ?_
    cases h
    exact ax_Treti (by decide +kernel) rfl rfl
  · rw [if_pos c5] at h
    refine ax_Tgo [.iload_n 3] (pc' := 10) (L' := [some (.inr (11, 0)), some (.inl (.int a1)), some (.inl (.int a2)), some (.inl (.int a3)), some (.inl (.int a4)), some (.inl (.int a5))]) (st' := [.inl (.int a3)]) (S' := S) ok_X11_game.1 (by decide +kernel) rfl rfl ?_
    obtain ⟨r9, hq7, h⟩ := ax_bd_e h
    refine ax_TSi (d := 4) [.inl (.int a3)] [] lk_X11_348 (by decide +kernel) rfl rfl (Nat.le_of_ble_eq_true rfl) (Nat.le_of_ble_eq_true rfl) ((t_X11_outOfTitles hq7).up (by decide)) ?_
    refine ax_Tif_ne (off := 22) (tgt := 35) (by decide +kernel) (by decide) (fun c10 => ?_) (fun c10 => ?_)
    · rw [if_neg c10] at h
      refine ax_Tgo [.ldc_w 271] (pc' := 38) (L' := [some (.inr (11, 0)), some (.inl (.int a1)), some (.inl (.int a2)), some (.inl (.int a3)), some (.inl (.int a4)), some (.inl (.int a5))]) (st' := [.inl (.int (-1000000 : Int32))]) (S' := S) ok_X11_game.1 (by decide +kernel) rfl rfl ?_
      cases h
      exact ax_Treti (by decide +kernel) rfl rfl
    · rw [if_pos c10] at h
      refine ax_Tgo [.iload 4] (pc' := 18) (L' := [some (.inr (11, 0)), some (.inl (.int a1)), some (.inl (.int a2)), some (.inl (.int a3)), some (.inl (.int a4)), some (.inl (.int a5))]) (st' := [.inl (.int a4)]) (S' := S) ok_X11_game.1 (by decide +kernel) rfl rfl ?_
      obtain ⟨r14, hq12, h⟩ := ax_bd_e h
      refine ax_TSi (d := 4) [.inl (.int a4)] [] lk_X11_348 (by decide +kernel) rfl rfl (Nat.le_of_ble_eq_true rfl) (Nat.le_of_ble_eq_true rfl) ((t_X11_outOfTitles hq12).up (by decide)) ?_
      refine ax_Tif_ne (off := 14) (tgt := 35) (by decide +kernel) (by decide) (fun c15 => ?_) (fun c15 => ?_)
      · rw [if_neg c15] at h
        refine ax_Tgo [.ldc_w 271] (pc' := 38) (L' := [some (.inr (11, 0)), some (.inl (.int a1)), some (.inl (.int a2)), some (.inl (.int a3)), some (.inl (.int a4)), some (.inl (.int a5))]) (st' := [.inl (.int (-1000000 : Int32))]) (S' := S) ok_X11_game.1 (by decide +kernel) rfl rfl ?_
        cases h
        exact ax_Treti (by decide +kernel) rfl rfl
      · rw [if_pos c15] at h
        refine ax_Tgo [.iload 5] (pc' := 26) (L' := [some (.inr (11, 0)), some (.inl (.int a1)), some (.inl (.int a2)), some (.inl (.int a3)), some (.inl (.int a4)), some (.inl (.int a5))]) (st' := [.inl (.int a5)]) (S' := S) ok_X11_game.1 (by decide +kernel) rfl rfl ?_
        refine ax_Tif_lt (off := 9) (tgt := 35) (by decide +kernel) (by decide) (fun c16 => ?_) (fun c16 => ?_)
        · rw [if_pos c16] at h
          refine ax_Tgo [.ldc_w 271] (pc' := 38) (L' := [some (.inr (11, 0)), some (.inl (.int a1)), some (.inl (.int a2)), some (.inl (.int a3)), some (.inl (.int a4)), some (.inl (.int a5))]) (st' := [.inl (.int (-1000000 : Int32))]) (S' := S) ok_X11_game.1 (by decide +kernel) rfl rfl ?_
          cases h
          exact ax_Treti (by decide +kernel) rfl rfl
        · rw [if_neg c16] at h
          refine ax_Tgo [.iload 5, .iconst 1] (pc' := 32) (L' := [some (.inr (11, 0)), some (.inl (.int a1)), some (.inl (.int a2)), some (.inl (.int a3)), some (.inl (.int a4)), some (.inl (.int a5))]) (st' := [.inl (.int (1 : Int32)), .inl (.int a5)]) (S' := S) ok_X11_game.1 (by decide +kernel) rfl rfl ?_
          refine ax_Tic_le (off := 7) (tgt := 39) (by decide +kernel) (by decide) (fun c17 => ?_) (fun c17 => ?_)
          · rw [if_pos c17] at h
            refine ax_Tgo [.iload 5] (pc' := 41) (L' := [some (.inr (11, 0)), some (.inl (.int a1)), some (.inl (.int a2)), some (.inl (.int a3)), some (.inl (.int a4)), some (.inl (.int a5))]) (st' := [.inl (.int a5)]) (S' := S) ok_X11_game.1 (by decide +kernel) rfl rfl ?_
            refine ax_Tif_ne (off := 19) (tgt := 60) (by decide +kernel) (by decide) (fun c18 => ?_) (fun c18 => ?_)
            · rw [if_neg c18] at h
              refine ax_Tgo [.aload_n 0, .iload_n 2, .iload 4, .iconst 1] (pc' := 65) (L' := [some (.inr (11, 0)), some (.inl (.int a1)), some (.inl (.int a2)), some (.inl (.int a3)), some (.inl (.int a4)), some (.inl (.int a5))]) (st' := [.inl (.int (1 : Int32)), .inl (.int a4), .inl (.int a2), .inr (11, 0)]) (S' := S) ok_X11_game.1 (by decide +kernel) rfl rfl ?_
              obtain ⟨r22, S19, hq20, h⟩ := ax_bu_e h
              refine ax_TVi (d := 4) (ka := 11) (i := 0) [.inl (.int a2), .inl (.int a4), .inl (.int (1 : Int32))] [] lk_X11_351 (by decide +kernel) rfl (by decide) rfl (Nat.le_of_ble_eq_true rfl) (Nat.le_of_ble_eq_true rfl) ((t_X11_prize hq20).up (by decide)) ?_
              refine ax_Tgo [.iload 4, .iload_n 3] (pc' := 71) (L' := [some (.inr (11, 0)), some (.inl (.int a1)), some (.inl (.int a2)), some (.inl (.int a3)), some (.inl (.int a4)), some (.inl (.int a5))]) (st' := [.inl (.int a3), .inl (.int a4), .inl (.int r22)]) (S' := S19) ok_X11_game.1 (by decide +kernel) rfl rfl ?_
              obtain ⟨r26, hq24, h⟩ := ax_bd_e h
              refine ax_TSi (d := 4) [.inl (.int r22), .inl (.int a4), .inl (.int a3)] [] lk_X11_354 (by decide +kernel) rfl rfl (Nat.le_of_ble_eq_true rfl) (Nat.le_of_ble_eq_true rfl) ((t_X11_share hq24).up (by decide)) ?_
              cases h
              exact ax_Treti (by decide +kernel) rfl rfl
            · rw [if_pos c18] at h
              refine ax_Tgo [.aload_n 0, .iload_n 1, .iload_n 3, .iconst 0] (pc' := 48) (L' := [some (.inr (11, 0)), some (.inl (.int a1)), some (.inl (.int a2)), some (.inl (.int a3)), some (.inl (.int a4)), some (.inl (.int a5))]) (st' := [.inl (.int (0 : Int32)), .inl (.int a3), .inl (.int a1), .inr (11, 0)]) (S' := S) ok_X11_game.1 (by decide +kernel) rfl rfl ?_
              obtain ⟨r30, S27, hq28, h⟩ := ax_bu_e h
              refine ax_TVi (d := 4) (ka := 11) (i := 0) [.inl (.int a1), .inl (.int a3), .inl (.int (0 : Int32))] [] lk_X11_351 (by decide +kernel) rfl (by decide) rfl (Nat.le_of_ble_eq_true rfl) (Nat.le_of_ble_eq_true rfl) ((t_X11_prize hq28).up (by decide)) ?_
              refine ax_Tgo [.iload_n 3, .iload 4] (pc' := 54) (L' := [some (.inr (11, 0)), some (.inl (.int a1)), some (.inl (.int a2)), some (.inl (.int a3)), some (.inl (.int a4)), some (.inl (.int a5))]) (st' := [.inl (.int a4), .inl (.int a3), .inl (.int r30)]) (S' := S27) ok_X11_game.1 (by decide +kernel) rfl rfl ?_
              obtain ⟨r34, hq32, h⟩ := ax_bd_e h
              refine ax_TSi (d := 4) [.inl (.int r30), .inl (.int a3), .inl (.int a4)] [] lk_X11_354 (by decide +kernel) rfl rfl (Nat.le_of_ble_eq_true rfl) (Nat.le_of_ble_eq_true rfl) ((t_X11_share hq32).up (by decide)) ?_
              refine ax_Tgoto (off := 17) (tgt := 74) (by decide +kernel) (by decide) ?_
              cases h
              exact ax_Treti (by decide +kernel) rfl rfl
          · rw [if_neg c17] at h
            refine ax_Tgo [.ldc_w 271] (pc' := 38) (L' := [some (.inr (11, 0)), some (.inl (.int a1)), some (.inl (.int a2)), some (.inl (.int a3)), some (.inl (.int a4)), some (.inl (.int a5))]) (st' := [.inl (.int (-1000000 : Int32))]) (S' := S) ok_X11_game.1 (by decide +kernel) rfl rfl ?_
            cases h
            exact ax_Treti (by decide +kernel) rfl rfl
def f_X11_hards (a1 : Int32) (S : AS) : Option (Int32 × AS) := (f_X11_noSuchCaller a1 S).bind (fun (r4 : Int32) => (if r4 = (0 : Int32) then ax_bu (f_X11_fittingHards a1 S) (fun (r9 : Int32) (S6 : AS) => some (r9, S6)) else some ((Int32.ofInt (-1)), S)))
set_option maxRecDepth 100000 in
theorem t_X11_hards {l : Launch} {a1 : Int32} {S Z : AS} {r : Int32} (h : f_X11_hards a1 S = some (r, Z)) : ax_M l 5 ma_X11_hards [.inr (11, 0), .inl (.int a1)] S (some (.inl (.int r))) Z := by
  unfold f_X11_hards at h
  show ax_T l 5 ma_X11_hards (0, [some (.inr (11, 0)), some (.inl (.int a1))], [], S) (some (.inl (.int r))) Z
  refine ax_Tgo [.aload_n 0, .iload_n 1] (pc' := 2) (L' := [some (.inr (11, 0)), some (.inl (.int a1))]) (st' := [.inl (.int a1), .inr (11, 0)]) (S' := S) ok_X11_hards.1 (by decide +kernel) rfl rfl ?_
  obtain ⟨r4, hq2, h⟩ := ax_bd_e h
  refine ax_TVi (d := 4) (ka := 11) (i := 0) [.inl (.int a1)] [] lk_X11_183 (by decide +kernel) rfl (by decide) rfl (Nat.le_of_ble_eq_true rfl) (Nat.le_of_ble_eq_true rfl) ((t_X11_noSuchCaller hq2).up (by decide)) ?_
  refine ax_Tif_eq (off := 7) (tgt := 12) (by decide +kernel) (by decide) (fun c5 => ?_) (fun c5 => ?_)
  · rw [if_pos c5] at h
    refine ax_Tgo [.aload_n 0, .iload_n 1] (pc' := 14) (L' := [some (.inr (11, 0)), some (.inl (.int a1))]) (st' := [.inl (.int a1), .inr (11, 0)]) (S' := S) ok_X11_hards.1 (by decide +kernel) rfl rfl ?_
    obtain ⟨r9, S6, hq7, h⟩ := ax_bu_e h
    refine ax_TVi (d := 4) (ka := 11) (i := 0) [.inl (.int a1)] [] lk_X11_316 (by decide +kernel) rfl (by decide) rfl (Nat.le_of_ble_eq_true rfl) (Nat.le_of_ble_eq_true rfl) ((t_X11_fittingHards hq7).up (by decide)) ?_
    cases h
    exact ax_Treti (by decide +kernel) rfl rfl
  · rw [if_neg c5] at h
    refine ax_Tgo [.iconst (-1)] (pc' := 9) (L' := [some (.inr (11, 0)), some (.inl (.int a1))]) (st' := [.inl (.int (Int32.ofInt (-1)))]) (S' := S) ok_X11_hards.1 (by decide +kernel) rfl rfl ?_
    refine ax_Tgoto (off := 8) (tgt := 17) (by decide +kernel) (by decide) ?_
    cases h
    exact ax_Treti (by decide +kernel) rfl rfl
def f_X3_add (a1 : Int32) (a2 : Int32) (a3 : Int32) (S : AS) : Option (Int32 × AS) := (if (ax_fi S 3 0 3) < (10 : Int32) then ax_gd (ax_in (ax_fi S 3 0 3) 10) (ax_let (ax_sai S 24 0 (ax_fi S 3 0 3).toNatClampNeg a1) (fun (S3 : AS) => ax_gd (ax_in (ax_fi S3 3 0 3) 10) (ax_let (ax_sai S3 25 0 (ax_fi S3 3 0 3).toNatClampNeg a2) (fun (S5 : AS) => ax_gd (ax_in (ax_fi S5 3 0 3) 10) (ax_let (ax_sai S5 26 0 (ax_fi S5 3 0 3).toNatClampNeg (vp_nar .boolean a3)) (fun (S7 : AS) => ax_let (ax_sfi S7 3 0 3 ((ax_fi S7 3 0 3) + (1 : Int32))) (fun (S8 : AS) => some ((1 : Int32), S8)))))))) else some ((0 : Int32), S))
set_option maxRecDepth 100000 in
theorem t_X3_add {l : Launch} {a1 : Int32} {a2 : Int32} {a3 : Int32} {S Z : AS} {r : Int32} (h : f_X3_add a1 a2 a3 S = some (r, Z)) : ax_M l 0 ma_X3_add [.inr (3, 0), .inl (.int a1), .inl (.int a2), .inl (.int a3)] S (some (.inl (.int r))) Z := by
  unfold f_X3_add at h
  show ax_T l 0 ma_X3_add (0, [some (.inr (3, 0)), some (.inl (.int a1)), some (.inl (.int a2)), some (.inl (.int a3))], [], S) (some (.inl (.int r))) Z
  refine ax_Tgo [.aload_n 0, .getfield 20, .bipush 10] (pc' := 6) (L' := [some (.inr (3, 0)), some (.inl (.int a1)), some (.inl (.int a2)), some (.inl (.int a3))]) (st' := [.inl (.int (10 : Int32)), .inl (.int (ax_fi S 3 0 3))]) (S' := S) ok_X3_add.1 (by decide +kernel) rfl rfl ?_
  refine ax_Tic_lt (off := 5) (tgt := 11) (by decide +kernel) (by decide) (fun c1 => ?_) (fun c1 => ?_)
  · rw [if_pos c1] at h
    refine ax_Tgo [.aload_n 0, .getfield 9, .aload_n 0, .getfield 20, .iload_n 1] (pc' := 20) (L' := [some (.inr (3, 0)), some (.inl (.int a1)), some (.inl (.int a2)), some (.inl (.int a3))]) (st' := [.inl (.int a1), .inl (.int (ax_fi S 3 0 3)), .inr (24, 0)]) (S' := S) ok_X3_add.1 (by decide +kernel) rfl rfl ?_
    obtain ⟨g2, h⟩ := ax_gd_e h
    refine ax_Tasi (n := 10) ok_X3_add.1 (by decide +kernel) (by decide) rfl g2 ?_
    obtain ⟨S3, eS3, h⟩ := ax_let_e h
    rw [eS3]
    refine ax_Tgo [.aload_n 0, .getfield 13, .aload_n 0, .getfield 20, .iload_n 2] (pc' := 30) (L' := [some (.inr (3, 0)), some (.inl (.int a1)), some (.inl (.int a2)), some (.inl (.int a3))]) (st' := [.inl (.int a2), .inl (.int (ax_fi S3 3 0 3)), .inr (25, 0)]) (S' := S3) ok_X3_add.1 (by decide +kernel) rfl rfl ?_
    obtain ⟨g4, h⟩ := ax_gd_e h
    refine ax_Tasi (n := 10) ok_X3_add.1 (by decide +kernel) (by decide) rfl g4 ?_
    obtain ⟨S5, eS5, h⟩ := ax_let_e h
    rw [eS5]
    refine ax_Tgo [.aload_n 0, .getfield 16, .aload_n 0, .getfield 20, .iload_n 3] (pc' := 40) (L' := [some (.inr (3, 0)), some (.inl (.int a1)), some (.inl (.int a2)), some (.inl (.int a3))]) (st' := [.inl (.int a3), .inl (.int (ax_fi S5 3 0 3)), .inr (26, 0)]) (S' := S5) ok_X3_add.1 (by decide +kernel) rfl rfl ?_
    obtain ⟨g6, h⟩ := ax_gd_e h
    refine ax_Tasz (n := 10) ok_X3_add.1 (by decide +kernel) (by decide) rfl g6 ?_
    obtain ⟨S7, eS7, h⟩ := ax_let_e h
    rw [eS7]
    refine ax_Tgo [.aload_n 0, .dup, .getfield 20, .iconst 1, .iadd, .putfield 20] (pc' := 51) (L' := [some (.inr (3, 0)), some (.inl (.int a1)), some (.inl (.int a2)), some (.inl (.int a3))]) (st' := []) (S' := (ax_sfi S7 3 0 3 ((ax_fi S7 3 0 3) + (1 : Int32)))) ok_X3_add.1 (by decide +kernel) rfl rfl ?_
    obtain ⟨S8, eS8, h⟩ := ax_let_e h
    rw [eS8]
    refine ax_Tgo [.iconst 1] (pc' := 52) (L' := [some (.inr (3, 0)), some (.inl (.int a1)), some (.inl (.int a2)), some (.inl (.int a3))]) (st' := [.inl (.int (1 : Int32))]) (S' := S8) ok_X3_add.1 (by decide +kernel) rfl rfl ?_
    cases h
    exact ax_Treti (by decide +kernel) rfl rfl
  · rw [if_neg c1] at h
    refine ax_Tgo [.iconst 0] (pc' := 10) (L' := [some (.inr (3, 0)), some (.inl (.int a1)), some (.inl (.int a2)), some (.inl (.int a3))]) (st' := [.inl (.int (0 : Int32))]) (S' := S) ok_X3_add.1 (by decide +kernel) rfl rfl ?_
    cases h
    exact ax_Treti (by decide +kernel) rfl rfl
def f_X11_heard (a1 : Int32) (a2 : Int32) (a3 : Int32) (S : AS) : Option (Int32 × AS) := (f_X11_noSuchCaller a1 S).bind (fun (r4 : Int32) => (if r4 = (0 : Int32) then (f_X11_outOfBeats a2 S).bind (fun (r9 : Int32) => (if r9 = (0 : Int32) then ax_bu (f_X3_add a1 a2 a3 S) (fun (r14 : Int32) (S11 : AS) => (if r14 = (0 : Int32) then some ((Int32.ofInt (-1)), S11) else some ((ax_fi S11 3 0 3), S11))) else some ((Int32.ofInt (-1)), S))) else some ((Int32.ofInt (-1)), S)))
set_option maxRecDepth 100000 in
theorem t_X11_heard {l : Launch} {a1 : Int32} {a2 : Int32} {a3 : Int32} {S Z : AS} {r : Int32} (h : f_X11_heard a1 a2 a3 S = some (r, Z)) : ax_M l 2 ma_X11_heard [.inr (11, 0), .inl (.int a1), .inl (.int a2), .inl (.int a3)] S (some (.inl (.int r))) Z := by
  unfold f_X11_heard at h
  show ax_T l 2 ma_X11_heard (0, [some (.inr (11, 0)), some (.inl (.int a1)), some (.inl (.int a2)), some (.inl (.int a3))], [], S) (some (.inl (.int r))) Z
  refine ax_Tgo [.aload_n 0, .iload_n 1] (pc' := 2) (L' := [some (.inr (11, 0)), some (.inl (.int a1)), some (.inl (.int a2)), some (.inl (.int a3))]) (st' := [.inl (.int a1), .inr (11, 0)]) (S' := S) ok_X11_heard.1 (by decide +kernel) rfl rfl ?_
  obtain ⟨r4, hq2, h⟩ := ax_bd_e h
  refine ax_TVi (d := 1) (ka := 11) (i := 0) [.inl (.int a1)] [] lk_X11_183 (by decide +kernel) rfl (by decide) rfl (Nat.le_of_ble_eq_true rfl) (Nat.le_of_ble_eq_true rfl) ((t_X11_noSuchCaller hq2).up (by decide)) ?_
  refine ax_Tif_ne (off := 10) (tgt := 15) (by decide +kernel) (by decide) (fun c5 => ?_) (fun c5 => ?_)
  · rw [if_neg c5] at h
    refine ax_Tgo [.iconst (-1)] (pc' := 16) (L' := [some (.inr (11, 0)), some (.inl (.int a1)), some (.inl (.int a2)), some (.inl (.int a3))]) (st' := [.inl (.int (Int32.ofInt (-1)))]) (S' := S) ok_X11_heard.1 (by decide +kernel) rfl rfl ?_
    cases h
    exact ax_Treti (by decide +kernel) rfl rfl
  · rw [if_pos c5] at h
    refine ax_Tgo [.iload_n 2] (pc' := 9) (L' := [some (.inr (11, 0)), some (.inl (.int a1)), some (.inl (.int a2)), some (.inl (.int a3))]) (st' := [.inl (.int a2)]) (S' := S) ok_X11_heard.1 (by decide +kernel) rfl rfl ?_
    obtain ⟨r9, hq7, h⟩ := ax_bd_e h
    refine ax_TSi (d := 1) [.inl (.int a2)] [] lk_X11_308 (by decide +kernel) rfl rfl (Nat.le_of_ble_eq_true rfl) (Nat.le_of_ble_eq_true rfl) ((t_X11_outOfBeats hq7).up (by decide)) ?_
    refine ax_Tif_eq (off := 5) (tgt := 17) (by decide +kernel) (by decide) (fun c10 => ?_) (fun c10 => ?_)
    · rw [if_pos c10] at h
      refine ax_Tgo [.aload_n 0, .getfield 55, .iload_n 1, .iload_n 2, .iload_n 3] (pc' := 24) (L' := [some (.inr (11, 0)), some (.inl (.int a1)), some (.inl (.int a2)), some (.inl (.int a3))]) (st' := [.inl (.int a3), .inl (.int a2), .inl (.int a1), .inr (3, 0)]) (S' := S) ok_X11_heard.1 (by decide +kernel) rfl rfl ?_
      obtain ⟨r14, S11, hq12, h⟩ := ax_bu_e h
      refine ax_TVi (d := 1) (ka := 3) (i := 0) [.inl (.int a1), .inl (.int a2), .inl (.int a3)] [] lk_X11_311 (by decide +kernel) rfl (by decide) rfl (Nat.le_of_ble_eq_true rfl) (Nat.le_of_ble_eq_true rfl) ((t_X3_add hq12).up (by decide)) ?_
      refine ax_Tif_eq (off := 13) (tgt := 40) (by decide +kernel) (by decide) (fun c15 => ?_) (fun c15 => ?_)
      · rw [if_pos c15] at h
        refine ax_Tgo [.iconst (-1)] (pc' := 41) (L' := [some (.inr (11, 0)), some (.inl (.int a1)), some (.inl (.int a2)), some (.inl (.int a3))]) (st' := [.inl (.int (Int32.ofInt (-1)))]) (S' := S11) ok_X11_heard.1 (by decide +kernel) rfl rfl ?_
        cases h
        exact ax_Treti (by decide +kernel) rfl rfl
      · rw [if_neg c15] at h
        refine ax_Tgo [.aload_n 0, .getfield 55] (pc' := 34) (L' := [some (.inr (11, 0)), some (.inl (.int a1)), some (.inl (.int a2)), some (.inl (.int a3))]) (st' := [.inr (3, 0)]) (S' := S11) ok_X11_heard.1 (by decide +kernel) rfl rfl ?_
        refine ax_TVi (d := 1) (ka := 3) (i := 0) [] [] lk_X11_315 (by decide +kernel) rfl (by decide) rfl (Nat.le_of_ble_eq_true rfl) (Nat.le_of_ble_eq_true rfl) ((t_X3_size rfl).up (by decide)) ?_
        refine ax_Tgoto (off := 4) (tgt := 41) (by decide +kernel) (by decide) ?_
        cases h
        exact ax_Treti (by decide +kernel) rfl rfl
    · rw [if_neg c10] at h
      refine ax_Tgo [.iconst (-1)] (pc' := 16) (L' := [some (.inr (11, 0)), some (.inl (.int a1)), some (.inl (.int a2)), some (.inl (.int a3))]) (st' := [.inl (.int (Int32.ofInt (-1)))]) (S' := S) ok_X11_heard.1 (by decide +kernel) rfl rfl ?_
      cases h
      exact ax_Treti (by decide +kernel) rfl rfl
def f_X11_hold (a1 : Int32) (S : AS) : Option (Int32 × AS) := ax_bu (f_X11_act (3 : Int32) a1 S) (fun (r4 : Int32) (S1 : AS) => (if r4 = (0 : Int32) then some ((Int32.ofInt (-1)), S1) else some ((ax_fi S1 9 0 0), S1)))
set_option maxRecDepth 100000 in
theorem t_X11_hold {l : Launch} {a1 : Int32} {S Z : AS} {r : Int32} (h : f_X11_hold a1 S = some (r, Z)) : ax_M l 7 ma_X11_hold [.inr (11, 0), .inl (.int a1)] S (some (.inl (.int r))) Z := by
  unfold f_X11_hold at h
  show ax_T l 7 ma_X11_hold (0, [some (.inr (11, 0)), some (.inl (.int a1))], [], S) (some (.inl (.int r))) Z
  refine ax_Tgo [.aload_n 0, .iconst 3, .iload_n 1] (pc' := 3) (L' := [some (.inr (11, 0)), some (.inl (.int a1))]) (st' := [.inl (.int a1), .inl (.int (3 : Int32)), .inr (11, 0)]) (S' := S) ok_X11_hold.1 (by decide +kernel) rfl rfl ?_
  obtain ⟨r4, S1, hq2, h⟩ := ax_bu_e h
  refine ax_TVi (d := 6) (ka := 11) (i := 0) [.inl (.int (3 : Int32)), .inl (.int a1)] [] lk_X11_209 (by decide +kernel) rfl (by decide) rfl (Nat.le_of_ble_eq_true rfl) (Nat.le_of_ble_eq_true rfl) ((t_X11_act hq2).up (by decide)) ?_
  refine ax_Tif_eq (off := 13) (tgt := 19) (by decide +kernel) (by decide) (fun c5 => ?_) (fun c5 => ?_)
  · rw [if_pos c5] at h
    refine ax_Tgo [.iconst (-1)] (pc' := 20) (L' := [some (.inr (11, 0)), some (.inl (.int a1))]) (st' := [.inl (.int (Int32.ofInt (-1)))]) (S' := S1) ok_X11_hold.1 (by decide +kernel) rfl rfl ?_
    cases h
    exact ax_Treti (by decide +kernel) rfl rfl
  · rw [if_neg c5] at h
    refine ax_Tgo [.aload_n 0, .getfield 69, .getfield 219] (pc' := 16) (L' := [some (.inr (11, 0)), some (.inl (.int a1))]) (st' := [.inl (.int (ax_fi S1 9 0 0))]) (S' := S1) ok_X11_hold.1 (by decide +kernel) rfl rfl ?_
    refine ax_Tgoto (off := 4) (tgt := 20) (by decide +kernel) (by decide) ?_
    cases h
    exact ax_Treti (by decide +kernel) rfl rfl
def f_X11_image (S : AS) : Option (Int32 × AS) := (f_X11_noHouse S).bind (fun (r4 : Int32) => (if r4 = (0 : Int32) then (f_X9_copyFrom 2 0 S).bind (fun (S6 : AS) => (f_X2_copyFrom 1 0 S6).bind (fun (S9 : AS) => ax_let (ax_sfi S9 11 0 19 (1 : Int32)) (fun (S12 : AS) => some ((ax_fi S12 9 0 7), S12)))) else some ((Int32.ofInt (-1)), S)))
set_option maxRecDepth 100000 in
theorem t_X11_image {l : Launch} {S Z : AS} {r : Int32} (h : f_X11_image S = some (r, Z)) : ax_M l 2 ma_X11_image [.inr (11, 0)] S (some (.inl (.int r))) Z := by
  unfold f_X11_image at h
  show ax_T l 2 ma_X11_image (0, [some (.inr (11, 0))], [], S) (some (.inl (.int r))) Z
  refine ax_Tgo [.aload_n 0] (pc' := 1) (L' := [some (.inr (11, 0))]) (st' := [.inr (11, 0)]) (S' := S) ok_X11_image.1 (by decide +kernel) rfl rfl ?_
  obtain ⟨r4, hq2, h⟩ := ax_bd_e h
  refine ax_TVi (d := 1) (ka := 11) (i := 0) [] [] lk_X11_161 (by decide +kernel) rfl (by decide) rfl (Nat.le_of_ble_eq_true rfl) (Nat.le_of_ble_eq_true rfl) ((t_X11_noHouse hq2).up (by decide)) ?_
  refine ax_Tif_eq (off := 5) (tgt := 9) (by decide +kernel) (by decide) (fun c5 => ?_) (fun c5 => ?_)
  · rw [if_pos c5] at h
    refine ax_Tgo [.aload_n 0, .getfield 76, .aload_n 0, .getfield 69] (pc' := 17) (L' := [some (.inr (11, 0))]) (st' := [.inr (9, 0), .inr (9, 2)]) (S' := S) ok_X11_image.1 (by decide +kernel) rfl rfl ?_
    obtain ⟨S6, hq7, h⟩ := ax_bd_e h
    refine ax_TVv (d := 1) (ka := 9) (i := 2) [.inr (9, 0)] [] lk_X11_278 (by decide +kernel) rfl (by decide) rfl (Nat.le_of_ble_eq_true rfl) (Nat.le_of_ble_eq_true rfl) ((t_X9_copyFrom hq7).up (by decide)) ?_
    refine ax_Tgo [.aload_n 0, .getfield 49, .aload_n 0, .getfield 45] (pc' := 28) (L' := [some (.inr (11, 0))]) (st' := [.inr (2, 0), .inr (2, 1)]) (S' := S6) ok_X11_image.1 (by decide +kernel) rfl rfl ?_
    obtain ⟨S9, hq10, h⟩ := ax_bd_e h
    refine ax_TVv (d := 1) (ka := 2) (i := 1) [.inr (2, 0)] [] lk_X11_409 (by decide +kernel) rfl (by decide) rfl (Nat.le_of_ble_eq_true rfl) (Nat.le_of_ble_eq_true rfl) ((t_X2_copyFrom hq10).up (by decide)) ?_
    refine ax_Tgo [.aload_n 0, .iconst 1, .putfield 110] (pc' := 36) (L' := [some (.inr (11, 0))]) (st' := []) (S' := (ax_sfi S9 11 0 19 (1 : Int32))) ok_X11_image.1 (by decide +kernel) rfl rfl ?_
    obtain ⟨S12, eS12, h⟩ := ax_let_e h
    rw [eS12]
    refine ax_Tgo [.aload_n 0, .getfield 69, .getfield 222] (pc' := 43) (L' := [some (.inr (11, 0))]) (st' := [.inl (.int (ax_fi S12 9 0 7))]) (S' := S12) ok_X11_image.1 (by decide +kernel) rfl rfl ?_
    cases h
    exact ax_Treti (by decide +kernel) rfl rfl
  · rw [if_neg c5] at h
    refine ax_Tgo [.iconst (-1)] (pc' := 8) (L' := [some (.inr (11, 0))]) (st' := [.inl (.int (Int32.ofInt (-1)))]) (S' := S) ok_X11_image.1 (by decide +kernel) rfl rfl ?_
    cases h
    exact ax_Treti (by decide +kernel) rfl rfl
def f_X11_isBestAnswer_L18 (S : AS) : Nat → Int32 → Int32 → Int32 → Int32 → Option (Int32)
  | 0, _, _, _, _ => none
  | n + 1, x6, x7, x8, x9 => (if (3 : Int32) < x9 then some (1 : Int32) else ax_gd (ax_in (x6 + x9) 8) ((f_X11_share (ax_ai S 43 0 (x6 + x9).toNatClampNeg) x9 x7 S).bind (fun (r15 : Int32) => (if r15 ≤ x8 then ax_let (x9 + (1 : Int32)) (fun (v17 : Int32) => f_X11_isBestAnswer_L18 S n x6 x7 x8 v17) else some (0 : Int32)))))
def f_X11_isBestAnswer (a1 : Int32) (a2 : Int32) (a3 : Int32) (S : AS) : Option (Int32) := ax_gd (ax_in (a1 + a2) 8) ((f_X11_share (ax_ai S 43 0 (a1 + a2).toNatClampNeg) a2 a3 S).bind (fun (r5 : Int32) => f_X11_isBestAnswer_L18 S ax_F a1 a3 r5 (0 : Int32)))
set_option maxRecDepth 100000 in
theorem t_X11_isBestAnswer_L18 {l : Launch} {S : AS} : ∀ (n : Nat) (x6 : Int32) (x7 : Int32) (x8 : Int32) (x9 : Int32) r, f_X11_isBestAnswer_L18 S n x6 x7 x8 x9  = some r → ax_T l 1 ma_X11_isBestAnswer (18, [some (.inr (11, 0)), some (.inl (.int x6)), none, some (.inl (.int x7)), some (.inl (.int x8)), some (.inl (.int x9))], [], S) (some (.inl (.int r))) S := by
  intro n
  induction n with
  | zero =>
    intro x6 x7 x8 x9  r h
    cases h
  | succ n ih =>
    intro x6 x7 x8 x9  r h
    unfold f_X11_isBestAnswer_L18 at h
    refine ax_Tgo [.iload 5, .iconst 3] (pc' := 21) (L' := [some (.inr (11, 0)), some (.inl (.int x6)), none, some (.inl (.int x7)), some (.inl (.int x8)), some (.inl (.int x9))]) (st' := [.inl (.int (3 : Int32)), .inl (.int x9)]) (S' := S) ok_X11_isBestAnswer.1 (by decide +kernel) rfl rfl ?_
    refine ax_Tic_gt (off := 31) (tgt := 52) (by decide +kernel) (by decide) (fun c10 => ?_) (fun c10 => ?_)
    · rw [if_pos c10] at h
      refine ax_Tgo [.iconst 1] (pc' := 53) (L' := [some (.inr (11, 0)), some (.inl (.int x6)), none, some (.inl (.int x7)), some (.inl (.int x8)), some (.inl (.int x9))]) (st' := [.inl (.int (1 : Int32))]) (S' := S) ok_X11_isBestAnswer.1 (by decide +kernel) rfl rfl ?_
      cases h
      exact ax_Treti (by decide +kernel) rfl rfl
    · rw [if_neg c10] at h
      refine ax_Tgo [.aload_n 0, .getfield 86, .iload_n 1, .iload 5, .iadd] (pc' := 32) (L' := [some (.inr (11, 0)), some (.inl (.int x6)), none, some (.inl (.int x7)), some (.inl (.int x8)), some (.inl (.int x9))]) (st' := [.inl (.int (x6 + x9)), .inr (43, 0)]) (S' := S) ok_X11_isBestAnswer.1 (by decide +kernel) rfl rfl ?_
      obtain ⟨g11, h⟩ := ax_gd_e h
      refine ax_Tali (n := 8) ok_X11_isBestAnswer.1 (by decide +kernel) (by decide) rfl g11 ?_
      refine ax_Tgo [.iload 5, .iload_n 3] (pc' := 36) (L' := [some (.inr (11, 0)), some (.inl (.int x6)), none, some (.inl (.int x7)), some (.inl (.int x8)), some (.inl (.int x9))]) (st' := [.inl (.int x7), .inl (.int x9), .inl (.int (ax_ai S 43 0 (x6 + x9).toNatClampNeg))]) (S' := S) ok_X11_isBestAnswer.1 (by decide +kernel) rfl rfl ?_
      obtain ⟨r15, hq13, h⟩ := ax_bd_e h
      refine ax_TSi (d := 0) [.inl (.int (ax_ai S 43 0 (x6 + x9).toNatClampNeg)), .inl (.int x9), .inl (.int x7)] [] lk_X11_354 (by decide +kernel) rfl rfl (Nat.le_of_ble_eq_true rfl) (Nat.le_of_ble_eq_true rfl) ((t_X11_share hq13).up (by decide)) ?_
      refine ax_Tgo [.iload 4] (pc' := 41) (L' := [some (.inr (11, 0)), some (.inl (.int x6)), none, some (.inl (.int x7)), some (.inl (.int x8)), some (.inl (.int x9))]) (st' := [.inl (.int x8), .inl (.int r15)]) (S' := S) ok_X11_isBestAnswer.1 (by decide +kernel) rfl rfl ?_
      refine ax_Tic_le (off := 5) (tgt := 46) (by decide +kernel) (by decide) (fun c16 => ?_) (fun c16 => ?_)
      · rw [if_pos c16] at h
        refine ax_Tgo [.iinc 5 1] (pc' := 49) (L' := [some (.inr (11, 0)), some (.inl (.int x6)), none, some (.inl (.int x7)), some (.inl (.int x8)), some (.inl (.int (x9 + (1 : Int32))))]) (st' := []) (S' := S) ok_X11_isBestAnswer.1 (by decide +kernel) rfl rfl ?_
        obtain ⟨v17, ev17, h⟩ := ax_let_e h
        rw [ev17]
        refine ax_Tgoto (off := (-31)) (tgt := 18) (by decide +kernel) (by decide) ?_
        exact ih x6 x7 x8 v17 _ h
      · rw [if_neg c16] at h
        refine ax_Tgo [.iconst 0] (pc' := 45) (L' := [some (.inr (11, 0)), some (.inl (.int x6)), none, some (.inl (.int x7)), some (.inl (.int x8)), some (.inl (.int x9))]) (st' := [.inl (.int (0 : Int32))]) (S' := S) ok_X11_isBestAnswer.1 (by decide +kernel) rfl rfl ?_
        cases h
        exact ax_Treti (by decide +kernel) rfl rfl
set_option maxRecDepth 100000 in
theorem t_X11_isBestAnswer {l : Launch} {a1 : Int32} {a2 : Int32} {a3 : Int32} {S : AS} {r : Int32} (h : f_X11_isBestAnswer a1 a2 a3 S = some r) : ax_M l 1 ma_X11_isBestAnswer [.inr (11, 0), .inl (.int a1), .inl (.int a2), .inl (.int a3)] S (some (.inl (.int r))) S := by
  unfold f_X11_isBestAnswer at h
  show ax_T l 1 ma_X11_isBestAnswer (0, [some (.inr (11, 0)), some (.inl (.int a1)), some (.inl (.int a2)), some (.inl (.int a3)), none, none], [], S) (some (.inl (.int r))) S
  refine ax_Tgo [.aload_n 0, .getfield 86, .iload_n 1, .iload_n 2, .iadd] (pc' := 7) (L' := [some (.inr (11, 0)), some (.inl (.int a1)), some (.inl (.int a2)), some (.inl (.int a3)), none, none]) (st' := [.inl (.int (a1 + a2)), .inr (43, 0)]) (S' := S) ok_X11_isBestAnswer.1 (by decide +kernel) rfl rfl ?_
  obtain ⟨g1, h⟩ := ax_gd_e h
  refine ax_Tali (n := 8) ok_X11_isBestAnswer.1 (by decide +kernel) (by decide) rfl g1 ?_
  refine ax_Tgo [.iload_n 2, .iload_n 3] (pc' := 10) (L' := [some (.inr (11, 0)), some (.inl (.int a1)), some (.inl (.int a2)), some (.inl (.int a3)), none, none]) (st' := [.inl (.int a3), .inl (.int a2), .inl (.int (ax_ai S 43 0 (a1 + a2).toNatClampNeg))]) (S' := S) ok_X11_isBestAnswer.1 (by decide +kernel) rfl rfl ?_
  obtain ⟨r5, hq3, h⟩ := ax_bd_e h
  refine ax_TSi (d := 0) [.inl (.int (ax_ai S 43 0 (a1 + a2).toNatClampNeg)), .inl (.int a2), .inl (.int a3)] [] lk_X11_354 (by decide +kernel) rfl rfl (Nat.le_of_ble_eq_true rfl) (Nat.le_of_ble_eq_true rfl) ((t_X11_share hq3).up (by decide)) ?_
  refine ax_Tgo [.istore 4, .iconst 0, .istore 5] (pc' := 18) (L' := [some (.inr (11, 0)), some (.inl (.int a1)), some (.inl (.int a2)), some (.inl (.int a3)), some (.inl (.int r5)), some (.inl (.int (0 : Int32)))]) (st' := []) (S' := S) ok_X11_isBestAnswer.1 (by decide +kernel) rfl rfl ?_
  refine ax_Tdrop [true, true, false, true, true, true] (L' := [some (.inr (11, 0)), some (.inl (.int a1)), none, some (.inl (.int a3)), some (.inl (.int r5)), some (.inl (.int (0 : Int32)))]) rfl ?_
  refine t_X11_isBestAnswer_L18 _ a1 a3 r5 (0 : Int32) _ h
def f_X6_useLaw (i1 : Nat) (S : AS) : Option (AS) := ax_let (ax_sfo S 6 0 2 (some i1)) (fun (S1 : AS) => some S1)
set_option maxRecDepth 100000 in
theorem t_X6_useLaw {l : Launch} {i1 : Nat} {S Z : AS} (h : f_X6_useLaw i1 S = some Z) : ax_M l 0 ma_X6_useLaw [.inr (6, 0), .inr (5, i1)] S none Z := by
  unfold f_X6_useLaw at h
  show ax_T l 0 ma_X6_useLaw (0, [some (.inr (6, 0)), some (.inr (5, i1))], [], S) none Z
  refine ax_Tgo [.aload_n 0, .aload_n 1, .putfield 19] (pc' := 5) (L' := [some (.inr (6, 0)), some (.inr (5, i1))]) (st' := []) (S' := (ax_sfo S 6 0 2 (some i1))) ok_X6_useLaw.1 (by decide +kernel) rfl rfl ?_
  obtain ⟨S1, eS1, h⟩ := ax_let_e h
  rw [eS1]
  cases h
  exact ax_Tretv (by decide +kernel) rfl
def f_X6_useLaw_n (S : AS) : Option (AS) := ax_let (ax_sfo S 6 0 2 none) (fun (S1 : AS) => some S1)
set_option maxRecDepth 100000 in
theorem t_X6_useLaw_n {l : Launch} {S Z : AS} (h : f_X6_useLaw_n S = some Z) : ax_M l 0 ma_X6_useLaw [.inr (6, 0), .inl .null] S none Z := by
  unfold f_X6_useLaw_n at h
  show ax_T l 0 ma_X6_useLaw (0, [some (.inr (6, 0)), some (.inl .null)], [], S) none Z
  refine ax_Tgo [.aload_n 0, .aload_n 1, .putfield 19] (pc' := 5) (L' := [some (.inr (6, 0)), some (.inl .null)]) (st' := []) (S' := (ax_sfo S 6 0 2 none)) ok_X6_useLaw.1 (by decide +kernel) rfl rfl ?_
  obtain ⟨S1, eS1, h⟩ := ax_let_e h
  rw [eS1]
  cases h
  exact ax_Tretv (by decide +kernel) rfl
def f_X11_law (a1 : Int32) (S : AS) : Option (Int32 × AS) := (if a1 < (Int32.ofInt (-1)) then some ((0 : Int32), S) else (if a1 < (ax_fi S 11 0 16) then ax_let (ax_sfi S 11 0 18 a1) (fun (S3 : AS) => (if a1 = (Int32.ofInt (-1)) then (f_X6_useLaw_n S3).bind (fun (S9 : AS) => some ((1 : Int32), S9)) else ax_gd (ax_in a1 5) ((f_X6_useLaw (a1.toNatClampNeg) S3).bind (fun (S6 : AS) => some ((1 : Int32), S6))))) else some ((0 : Int32), S)))
set_option maxRecDepth 100000 in
theorem t_X11_law {l : Launch} {a1 : Int32} {S Z : AS} {r : Int32} (h : f_X11_law a1 S = some (r, Z)) : ax_M l 1 ma_X11_law [.inr (11, 0), .inl (.int a1)] S (some (.inl (.int r))) Z := by
  unfold f_X11_law at h
  show ax_T l 1 ma_X11_law (0, [some (.inr (11, 0)), some (.inl (.int a1))], [], S) (some (.inl (.int r))) Z
  refine ax_Tgo [.iload_n 1, .iconst (-1)] (pc' := 2) (L' := [some (.inr (11, 0)), some (.inl (.int a1))]) (st' := [.inl (.int (Int32.ofInt (-1))), .inl (.int a1)]) (S' := S) ok_X11_law.1 (by decide +kernel) rfl rfl ?_
  refine ax_Tic_lt (off := 11) (tgt := 13) (by decide +kernel) (by decide) (fun c1 => ?_) (fun c1 => ?_)
  · rw [if_pos c1] at h
    refine ax_Tgo [.iconst 0] (pc' := 14) (L' := [some (.inr (11, 0)), some (.inl (.int a1))]) (st' := [.inl (.int (0 : Int32))]) (S' := S) ok_X11_law.1 (by decide +kernel) rfl rfl ?_
    cases h
    exact ax_Treti (by decide +kernel) rfl rfl
  · rw [if_neg c1] at h
    refine ax_Tgo [.iload_n 1, .aload_n 0, .getfield 100] (pc' := 10) (L' := [some (.inr (11, 0)), some (.inl (.int a1))]) (st' := [.inl (.int (ax_fi S 11 0 16)), .inl (.int a1)]) (S' := S) ok_X11_law.1 (by decide +kernel) rfl rfl ?_
    refine ax_Tic_lt (off := 5) (tgt := 15) (by decide +kernel) (by decide) (fun c2 => ?_) (fun c2 => ?_)
    · rw [if_pos c2] at h
      refine ax_Tgo [.aload_n 0, .iload_n 1, .putfield 107] (pc' := 20) (L' := [some (.inr (11, 0)), some (.inl (.int a1))]) (st' := []) (S' := (ax_sfi S 11 0 18 a1)) ok_X11_law.1 (by decide +kernel) rfl rfl ?_
      obtain ⟨S3, eS3, h⟩ := ax_let_e h
      rw [eS3]
      refine ax_Tgo [.aload_n 0, .getfield 31, .iload_n 1, .iconst (-1)] (pc' := 26) (L' := [some (.inr (11, 0)), some (.inl (.int a1))]) (st' := [.inl (.int (Int32.ofInt (-1))), .inl (.int a1), .inr (6, 0)]) (S' := S3) ok_X11_law.1 (by decide +kernel) rfl rfl ?_
      refine ax_Tic_ne (off := 7) (tgt := 33) (by decide +kernel) (by decide) (fun c4 => ?_) (fun c4 => ?_)
      · rw [if_neg c4] at h
        refine ax_Tgo [.aload_n 0, .getfield 18, .iload_n 1] (pc' := 38) (L' := [some (.inr (11, 0)), some (.inl (.int a1))]) (st' := [.inl (.int a1), .inr (41, 0), .inr (6, 0)]) (S' := S3) ok_X11_law.1 (by decide +kernel) rfl rfl ?_
        obtain ⟨g5, h⟩ := ax_gd_e h
        refine ax_Tala5 (n := 5) ok_X11_law.1 (by decide +kernel) (by decide) rfl g5 ?_
        obtain ⟨S6, hq7, h⟩ := ax_bd_e h
        refine ax_TVv (d := 0) (ka := 6) (i := 0) [.inr (5, (a1.toNatClampNeg))] [] lk_X11_199 (by decide +kernel) rfl (by decide) rfl (Nat.le_of_ble_eq_true rfl) (Nat.le_of_ble_eq_true rfl) ((t_X6_useLaw hq7).up (by decide)) ?_
        refine ax_Tgo [.iconst 1] (pc' := 43) (L' := [some (.inr (11, 0)), some (.inl (.int a1))]) (st' := [.inl (.int (1 : Int32))]) (S' := S6) ok_X11_law.1 (by decide +kernel) rfl rfl ?_
        cases h
        exact ax_Treti (by decide +kernel) rfl rfl
      · rw [if_pos c4] at h
        refine ax_Tgo [.aconst_null] (pc' := 30) (L' := [some (.inr (11, 0)), some (.inl (.int a1))]) (st' := [.inl .null, .inr (6, 0)]) (S' := S3) ok_X11_law.1 (by decide +kernel) rfl rfl ?_
        refine ax_Tgoto (off := 9) (tgt := 39) (by decide +kernel) (by decide) ?_
        obtain ⟨S9, hq10, h⟩ := ax_bd_e h
        refine ax_TVv (d := 0) (ka := 6) (i := 0) [.inl .null] [] lk_X11_199 (by decide +kernel) rfl (by decide) rfl (Nat.le_of_ble_eq_true rfl) (Nat.le_of_ble_eq_true rfl) ((t_X6_useLaw_n hq10).up (by decide)) ?_
        refine ax_Tgo [.iconst 1] (pc' := 43) (L' := [some (.inr (11, 0)), some (.inl (.int a1))]) (st' := [.inl (.int (1 : Int32))]) (S' := S9) ok_X11_law.1 (by decide +kernel) rfl rfl ?_
        cases h
        exact ax_Treti (by decide +kernel) rfl rfl
    · rw [if_neg c2] at h
      refine ax_Tgo [.iconst 0] (pc' := 14) (L' := [some (.inr (11, 0)), some (.inl (.int a1))]) (st' := [.inl (.int (0 : Int32))]) (S' := S) ok_X11_law.1 (by decide +kernel) rfl rfl ?_
      cases h
      exact ax_Treti (by decide +kernel) rfl rfl
def f_X1_draw (a1 : Int32) (S : AS) : Option (Int32 × AS) := ax_let (ax_sfl S 1 0 1 (((ax_fl S 1 0 1) * (6364136223846793005 : Int64)) + (1442695040888963407 : Int64))) (fun (S1 : AS) => (if a1 ≤ (0 : Int32) then some ((0 : Int32), S1) else ax_gd (ax_nzl a1.toInt64) (some ((((ax_fl S1 1 0 1).toUInt64 >>> ((33 : Int32).toInt64.toUInt64 &&& Int64.toUInt64 63)).toInt64 - ((ax_fl S1 1 0 1).toUInt64 >>> ((33 : Int32).toInt64.toUInt64 &&& Int64.toUInt64 63)).toInt64 / a1.toInt64 * a1.toInt64).toInt32, S1))))
set_option maxRecDepth 100000 in
theorem t_X1_draw {l : Launch} {a1 : Int32} {S Z : AS} {r : Int32} (h : f_X1_draw a1 S = some (r, Z)) : ax_M l 0 ma_X1_draw [.inr (1, 0), .inl (.int a1)] S (some (.inl (.int r))) Z := by
  unfold f_X1_draw at h
  show ax_T l 0 ma_X1_draw (0, [some (.inr (1, 0)), some (.inl (.int a1))], [], S) (some (.inl (.int r))) Z
  refine ax_Tgo [.aload_n 0, .aload_n 0, .getfield 15, .ldc2_w 23, .lmul, .ldc2_w 25, .ladd, .putfield 15] (pc' := 16) (L' := [some (.inr (1, 0)), some (.inl (.int a1))]) (st' := []) (S' := (ax_sfl S 1 0 1 (((ax_fl S 1 0 1) * (6364136223846793005 : Int64)) + (1442695040888963407 : Int64)))) ok_X1_draw.1 (by decide +kernel) rfl rfl ?_
  obtain ⟨S1, eS1, h⟩ := ax_let_e h
  rw [eS1]
  refine ax_Tgo [.iload_n 1] (pc' := 17) (L' := [some (.inr (1, 0)), some (.inl (.int a1))]) (st' := [.inl (.int a1)]) (S' := S1) ok_X1_draw.1 (by decide +kernel) rfl rfl ?_
  refine ax_Tif_le (off := 17) (tgt := 34) (by decide +kernel) (by decide) (fun c2 => ?_) (fun c2 => ?_)
  · rw [if_pos c2] at h
    refine ax_Tgo [.iconst 0] (pc' := 35) (L' := [some (.inr (1, 0)), some (.inl (.int a1))]) (st' := [.inl (.int (0 : Int32))]) (S' := S1) ok_X1_draw.1 (by decide +kernel) rfl rfl ?_
    cases h
    exact ax_Treti (by decide +kernel) rfl rfl
  · rw [if_neg c2] at h
    refine ax_Tgo [.aload_n 0, .getfield 15, .bipush 33, .lushr, .iload_n 1, .i2l] (pc' := 29) (L' := [some (.inr (1, 0)), some (.inl (.int a1))]) (st' := [.inl (.long a1.toInt64), .inl (.long ((ax_fl S1 1 0 1).toUInt64 >>> ((33 : Int32).toInt64.toUInt64 &&& Int64.toUInt64 63)).toInt64)]) (S' := S1) ok_X1_draw.1 (by decide +kernel) rfl rfl ?_
    obtain ⟨g3, h⟩ := ax_gd_e h
    refine ax_Tlrem ok_X1_draw.1 (by decide +kernel) g3 ?_
    refine ax_Tgo [.l2i] (pc' := 31) (L' := [some (.inr (1, 0)), some (.inl (.int a1))]) (st' := [.inl (.int (((ax_fl S1 1 0 1).toUInt64 >>> ((33 : Int32).toInt64.toUInt64 &&& Int64.toUInt64 63)).toInt64 - ((ax_fl S1 1 0 1).toUInt64 >>> ((33 : Int32).toInt64.toUInt64 &&& Int64.toUInt64 63)).toInt64 / a1.toInt64 * a1.toInt64).toInt32)]) (S' := S1) ok_X1_draw.1 (by decide +kernel) rfl rfl ?_
    refine ax_Tgoto (off := 4) (tgt := 35) (by decide +kernel) (by decide) ?_
    cases h
    exact ax_Treti (by decide +kernel) rfl rfl

/-! METHODS of the reference as functions, by program -/
def f_X12_of (a1 : Int32) (a2 : Int32) (S : AS) : Option (Int32) := ax_gd (ax_in (((7 : Int32) * a1) + a2) 42) (some (ax_ai S 51 0 (((7 : Int32) * a1) + a2).toNatClampNeg))
set_option maxRecDepth 100000 in
theorem t_X12_of {l : Launch} {a1 : Int32} {a2 : Int32} {S : AS} {r : Int32} (h : f_X12_of a1 a2 S = some r) : ax_M l 0 ma_X12_of [.inr (12, 0), .inl (.int a1), .inl (.int a2)] S (some (.inl (.int r))) S := by
  unfold f_X12_of at h
  show ax_T l 0 ma_X12_of (0, [some (.inr (12, 0)), some (.inl (.int a1)), some (.inl (.int a2))], [], S) (some (.inl (.int r))) S
  refine ax_Tgo [.aload_n 0, .getfield 49, .bipush 7, .iload_n 1, .imul, .iload_n 2, .iadd] (pc' := 10) (L' := [some (.inr (12, 0)), some (.inl (.int a1)), some (.inl (.int a2))]) (st' := [.inl (.int (((7 : Int32) * a1) + a2)), .inr (51, 0)]) (S' := S) ok_X12_of.1 (by decide +kernel) rfl rfl ?_
  obtain ⟨g1, h⟩ := ax_gd_e h
  refine ax_Tali (n := 42) ok_X12_of.1 (by decide +kernel) (by decide) rfl g1 ?_
  cases h
  exact ax_Treti (by decide +kernel) rfl rfl
def f_X12_starts_44 (i1 : Nat) (a2 : Int32) (a3 : Int32) (S : AS) : Option (AS) := ax_let (ax_sfx S 12 0 5 i1) (fun (S1 : AS) => ax_let (ax_sfi S1 12 0 8 a2) (fun (S2 : AS) => ax_let (ax_sfi S2 12 0 9 a3) (fun (S3 : AS) => ax_let (ax_sfi S3 12 0 10 (0 : Int32)) (fun (S4 : AS) => ax_let (ax_sfi S4 12 0 11 (Int32.ofInt (-1))) (fun (S5 : AS) => some S5)))))
set_option maxRecDepth 100000 in
theorem t_X12_starts_44 {l : Launch} {i1 : Nat} {a2 : Int32} {a3 : Int32} {S Z : AS} (h : f_X12_starts_44 i1 a2 a3 S = some Z) : ax_M l 0 ma_X12_starts [.inr (12, 0), .inr (44, i1), .inl (.int a2), .inl (.int a3)] S none Z := by
  unfold f_X12_starts_44 at h
  show ax_T l 0 ma_X12_starts (0, [some (.inr (12, 0)), some (.inr (44, i1)), some (.inl (.int a2)), some (.inl (.int a3))], [], S) none Z
  refine ax_Tgo [.aload_n 0, .aload_n 1, .putfield 23] (pc' := 5) (L' := [some (.inr (12, 0)), some (.inr (44, i1)), some (.inl (.int a2)), some (.inl (.int a3))]) (st' := []) (S' := (ax_sfx S 12 0 5 i1)) ok_X12_starts.1 (by decide +kernel) rfl rfl ?_
  obtain ⟨S1, eS1, h⟩ := ax_let_e h
  rw [eS1]
  refine ax_Tgo [.aload_n 0, .iload_n 2, .putfield 122] (pc' := 10) (L' := [some (.inr (12, 0)), some (.inr (44, i1)), some (.inl (.int a2)), some (.inl (.int a3))]) (st' := []) (S' := (ax_sfi S1 12 0 8 a2)) ok_X12_starts.1 (by decide +kernel) rfl rfl ?_
  obtain ⟨S2, eS2, h⟩ := ax_let_e h
  rw [eS2]
  refine ax_Tgo [.aload_n 0, .iload_n 3, .putfield 119] (pc' := 15) (L' := [some (.inr (12, 0)), some (.inr (44, i1)), some (.inl (.int a2)), some (.inl (.int a3))]) (st' := []) (S' := (ax_sfi S2 12 0 9 a3)) ok_X12_starts.1 (by decide +kernel) rfl rfl ?_
  obtain ⟨S3, eS3, h⟩ := ax_let_e h
  rw [eS3]
  refine ax_Tgo [.aload_n 0, .iconst 0, .putfield 116] (pc' := 20) (L' := [some (.inr (12, 0)), some (.inr (44, i1)), some (.inl (.int a2)), some (.inl (.int a3))]) (st' := []) (S' := (ax_sfi S3 12 0 10 (0 : Int32))) ok_X12_starts.1 (by decide +kernel) rfl rfl ?_
  obtain ⟨S4, eS4, h⟩ := ax_let_e h
  rw [eS4]
  refine ax_Tgo [.aload_n 0, .iconst (-1), .putfield 125] (pc' := 25) (L' := [some (.inr (12, 0)), some (.inr (44, i1)), some (.inl (.int a2)), some (.inl (.int a3))]) (st' := []) (S' := (ax_sfi S4 12 0 11 (Int32.ofInt (-1)))) ok_X12_starts.1 (by decide +kernel) rfl rfl ?_
  obtain ⟨S5, eS5, h⟩ := ax_let_e h
  rw [eS5]
  cases h
  exact ax_Tretv (by decide +kernel) rfl
def f_X12_look_L0 (K43 : AS → Option (Int32 × AS)) : Nat → AS → Option (Int32 × AS)
  | 0, _ => none
  | n + 1, S1 => (if (ax_fi S1 12 0 9) ≤ (ax_fi S1 12 0 10) then K43 S1 else ax_gd (ax_in ((ax_fi S1 12 0 8) + (ax_fi S1 12 0 10)) (ax_ln S1 44 (ax_fx S1 12 0 5))) ((if (ax_ai S1 44 (ax_fx S1 12 0 5) ((ax_fi S1 12 0 8) + (ax_fi S1 12 0 10)).toNatClampNeg) = (32 : Int32) then ax_let (ax_sfi S1 12 0 10 ((ax_fi S1 12 0 10) + (1 : Int32))) (fun (S5 : AS) => f_X12_look_L0 K43 n S5) else K43 S1)))
def f_X12_look (S : AS) : Option (Int32 × AS) := f_X12_look_L0 (fun (S6 : AS) => (if (ax_fi S6 12 0 9) ≤ (ax_fi S6 12 0 10) then some ((Int32.ofInt (-1)), S6) else ax_gd (ax_in ((ax_fi S6 12 0 8) + (ax_fi S6 12 0 10)) (ax_ln S6 44 (ax_fx S6 12 0 5))) (some (((ax_ai S6 44 (ax_fx S6 12 0 5) ((ax_fi S6 12 0 8) + (ax_fi S6 12 0 10)).toNatClampNeg) &&& (255 : Int32)), S6)))) ax_F S
set_option maxRecDepth 100000 in
theorem t_X12_look_L0 {l : Launch} {K43 : AS → Option (Int32 × AS)} (hK43 : ∀ (S : AS) r Z, K43 S = some (r, Z) → ax_T l 0 ma_X12_look (43, [some (.inr (12, 0))], [], S) (some (.inl (.int r))) Z) : ∀ (n : Nat) (S1 : AS) r Z, f_X12_look_L0 K43 n S1 = some (r, Z) → ax_T l 0 ma_X12_look (0, [some (.inr (12, 0))], [], S1) (some (.inl (.int r))) Z := by
  intro n
  induction n with
  | zero =>
    intro S1 r Z h
    cases h
  | succ n ih =>
    intro S1 r Z h
    unfold f_X12_look_L0 at h
    refine ax_Tgo [.aload_n 0, .getfield 116, .aload_n 0, .getfield 119] (pc' := 8) (L' := [some (.inr (12, 0))]) (st' := [.inl (.int (ax_fi S1 12 0 9)), .inl (.int (ax_fi S1 12 0 10))]) (S' := S1) ok_X12_look.1 (by decide +kernel) rfl rfl ?_
    refine ax_Tic_ge (off := 35) (tgt := 43) (by decide +kernel) (by decide) (fun c2 => ?_) (fun c2 => ?_)
    · rw [if_pos c2] at h
      exact hK43 S1 _ _ h
    · rw [if_neg c2] at h
      refine ax_Tgo [.aload_n 0, .getfield 23, .aload_n 0, .getfield 122, .aload_n 0, .getfield 116, .iadd] (pc' := 24) (L' := [some (.inr (12, 0))]) (st' := [.inl (.int ((ax_fi S1 12 0 8) + (ax_fi S1 12 0 10))), .inr (44, (ax_fx S1 12 0 5))]) (S' := S1) ok_X12_look.1 (by decide +kernel) rfl rfl ?_
      obtain ⟨g3, h⟩ := ax_gd_e h
      refine ax_Talb (n := (ax_ln S1 44 (ax_fx S1 12 0 5))) ok_X12_look.1 (by decide +kernel) (by decide) rfl g3 ?_
      refine ax_Tgo [.bipush 32] (pc' := 27) (L' := [some (.inr (12, 0))]) (st' := [.inl (.int (32 : Int32)), .inl (.int (ax_ai S1 44 (ax_fx S1 12 0 5) ((ax_fi S1 12 0 8) + (ax_fi S1 12 0 10)).toNatClampNeg))]) (S' := S1) ok_X12_look.1 (by decide +kernel) rfl rfl ?_
      refine ax_Tic_ne (off := 16) (tgt := 43) (by decide +kernel) (by decide) (fun c4 => ?_) (fun c4 => ?_)
      · rw [if_neg c4] at h
        exact hK43 S1 _ _ h
      · rw [if_pos c4] at h
        refine ax_Tgo [.aload_n 0, .dup, .getfield 116, .iconst 1, .iadd, .putfield 116] (pc' := 40) (L' := [some (.inr (12, 0))]) (st' := []) (S' := (ax_sfi S1 12 0 10 ((ax_fi S1 12 0 10) + (1 : Int32)))) ok_X12_look.1 (by decide +kernel) rfl rfl ?_
        obtain ⟨S5, eS5, h⟩ := ax_let_e h
        rw [eS5]
        refine ax_Tgoto (off := (-40)) (tgt := 0) (by decide +kernel) (by decide) ?_
        exact ih S5 _ _ h
set_option maxRecDepth 100000 in
theorem t_X12_look {l : Launch} {S Z : AS} {r : Int32} (h : f_X12_look S = some (r, Z)) : ax_M l 0 ma_X12_look [.inr (12, 0)] S (some (.inl (.int r))) Z := by
  unfold f_X12_look at h
  show ax_T l 0 ma_X12_look (0, [some (.inr (12, 0))], [], S) (some (.inl (.int r))) Z
  refine t_X12_look_L0 ?_ _ S _ _ h
  · intro S6 r Z h
    refine ax_Tgo [.aload_n 0, .getfield 116, .aload_n 0, .getfield 119] (pc' := 51) (L' := [some (.inr (12, 0))]) (st' := [.inl (.int (ax_fi S6 12 0 9)), .inl (.int (ax_fi S6 12 0 10))]) (S' := S6) ok_X12_look.1 (by decide +kernel) rfl rfl ?_
    refine ax_Tic_ge (off := 24) (tgt := 75) (by decide +kernel) (by decide) (fun c7 => ?_) (fun c7 => ?_)
    · rw [if_pos c7] at h
      refine ax_Tgo [.iconst (-1)] (pc' := 76) (L' := [some (.inr (12, 0))]) (st' := [.inl (.int (Int32.ofInt (-1)))]) (S' := S6) ok_X12_look.1 (by decide +kernel) rfl rfl ?_
      cases h
      exact ax_Treti (by decide +kernel) rfl rfl
    · rw [if_neg c7] at h
      refine ax_Tgo [.aload_n 0, .getfield 23, .aload_n 0, .getfield 122, .aload_n 0, .getfield 116, .iadd] (pc' := 67) (L' := [some (.inr (12, 0))]) (st' := [.inl (.int ((ax_fi S6 12 0 8) + (ax_fi S6 12 0 10))), .inr (44, (ax_fx S6 12 0 5))]) (S' := S6) ok_X12_look.1 (by decide +kernel) rfl rfl ?_
      obtain ⟨g8, h⟩ := ax_gd_e h
      refine ax_Talb (n := (ax_ln S6 44 (ax_fx S6 12 0 5))) ok_X12_look.1 (by decide +kernel) (by decide) rfl g8 ?_
      refine ax_Tgo [.sipush 255, .iand] (pc' := 72) (L' := [some (.inr (12, 0))]) (st' := [.inl (.int ((ax_ai S6 44 (ax_fx S6 12 0 5) ((ax_fi S6 12 0 8) + (ax_fi S6 12 0 10)).toNatClampNeg) &&& (255 : Int32)))]) (S' := S6) ok_X12_look.1 (by decide +kernel) rfl rfl ?_
      refine ax_Tgoto (off := 4) (tgt := 76) (by decide +kernel) (by decide) ?_
      cases h
      exact ax_Treti (by decide +kernel) rfl rfl
def f_J0_coder_7d493_64x5 (S : AS) : Option (Int32) := some (0 : Int32)
set_option maxRecDepth 100000 in
theorem t_J0_coder_7d493_64x5 {l : Launch} {S : AS} {r : Int32} (h : f_J0_coder_7d493_64x5 S = some r) : ax_M l 0 ma_J0_coder_7d493 [.inr (64, 5)] S (some (.inl (.int r))) S := by
  unfold f_J0_coder_7d493_64x5 at h
  show ax_T l 0 ma_J0_coder_7d493 (0, [some (.inr (64, 5))], [], S) (some (.inl (.int r))) S
  refine ax_Tgo [.getstatic 38] (pc' := 3) (L' := [some (.inr (64, 5))]) (st' := [.inl (.int (1 : Int32))]) (S' := S) ok_J0_coder_7d493.1 (by decide +kernel) rfl rfl ?_
  refine ax_Tif_eq (off := 10) (tgt := 13) (by decide +kernel) (by decide) (fun c1 => absurd c1 (by decide)) (fun _ => ?_)
  refine ax_Tgo [.aload_n 0, .getfield 15] (pc' := 10) (L' := [some (.inr (64, 5))]) (st' := [.inl (.int (0 : Int32))]) (S' := S) ok_J0_coder_7d493.1 (by decide +kernel) rfl rfl ?_
  refine ax_Tgoto (off := 4) (tgt := 14) (by decide +kernel) (by decide) ?_
  cases h
  exact ax_Treti (by decide +kernel) rfl rfl
def f_J0_length_8abf5_64x5 (S : AS) : Option (Int32) := some ((Int32.ofNat 1) >>> ((0 : Int32) &&& 31))
set_option maxRecDepth 100000 in
theorem t_J0_length_8abf5_64x5 {l : Launch} {S : AS} {r : Int32} (h : f_J0_length_8abf5_64x5 S = some r) : ax_M l 1 ma_J0_length_8abf5 [.inr (64, 5)] S (some (.inl (.int r))) S := by
  unfold f_J0_length_8abf5_64x5 at h
  show ax_T l 1 ma_J0_length_8abf5 (0, [some (.inr (64, 5))], [], S) (some (.inl (.int r))) S
  refine ax_Tgo [.aload_n 0, .getfield 9, .arraylength, .aload_n 0] (pc' := 6) (L' := [some (.inr (64, 5))]) (st' := [.inr (64, 5), .inl (.int (Int32.ofNat 1))]) (S' := S) ok_J0_length_8abf5.1 (by decide +kernel) rfl rfl ?_
  refine ax_TVi (d := 0) (ka := 64) (i := 5) [] [.inl (.int (Int32.ofNat 1))] lk_J0_335 (by decide +kernel) rfl (by decide) rfl (Nat.le_of_ble_eq_true rfl) (Nat.le_of_ble_eq_true rfl) ((t_J0_coder_7d493_64x5 rfl).up (by decide)) ?_
  refine ax_Tgo [.ishr] (pc' := 10) (L' := [some (.inr (64, 5))]) (st' := [.inl (.int ((Int32.ofNat 1) >>> ((0 : Int32) &&& 31)))]) (S' := S) ok_J0_length_8abf5.1 (by decide +kernel) rfl rfl ?_
  cases h
  exact ax_Treti (by decide +kernel) rfl rfl
def f_J0_isLatin1_aae02_64x5 (S : AS) : Option (Int32) := some (1 : Int32)
set_option maxRecDepth 100000 in
theorem t_J0_isLatin1_aae02_64x5 {l : Launch} {S : AS} {r : Int32} (h : f_J0_isLatin1_aae02_64x5 S = some r) : ax_M l 0 ma_J0_isLatin1_aae02 [.inr (64, 5)] S (some (.inl (.int r))) S := by
  unfold f_J0_isLatin1_aae02_64x5 at h
  show ax_T l 0 ma_J0_isLatin1_aae02 (0, [some (.inr (64, 5))], [], S) (some (.inl (.int r))) S
  refine ax_Tgo [.getstatic 38] (pc' := 3) (L' := [some (.inr (64, 5))]) (st' := [.inl (.int (1 : Int32))]) (S' := S) ok_J0_isLatin1_aae02.1 (by decide +kernel) rfl rfl ?_
  refine ax_Tif_eq (off := 14) (tgt := 17) (by decide +kernel) (by decide) (fun c1 => absurd c1 (by decide)) (fun _ => ?_)
  refine ax_Tgo [.aload_n 0, .getfield 15] (pc' := 10) (L' := [some (.inr (64, 5))]) (st' := [.inl (.int (0 : Int32))]) (S' := S) ok_J0_isLatin1_aae02.1 (by decide +kernel) rfl rfl ?_
  refine ax_Tif_ne (off := 7) (tgt := 17) (by decide +kernel) (by decide) (fun c2 => absurd rfl c2) (fun _ => ?_)
  refine ax_Tgo [.iconst 1] (pc' := 14) (L' := [some (.inr (64, 5))]) (st' := [.inl (.int (1 : Int32))]) (S' := S) ok_J0_isLatin1_aae02.1 (by decide +kernel) rfl rfl ?_
  refine ax_Tgoto (off := 4) (tgt := 18) (by decide +kernel) (by decide) ?_
  cases h
  exact ax_Treti (by decide +kernel) rfl rfl
def f_J3_checkIndex_8e157_68x0 (a0 : Int32) (a1 : Int32) (S : AS) : Option (Int32) := (if a0 < (0 : Int32) then none else (if a0 < a1 then some a0 else none))
set_option maxRecDepth 100000 in
theorem t_J3_checkIndex_8e157_68x0 {l : Launch} {a0 : Int32} {a1 : Int32} {S : AS} {r : Int32} (h : f_J3_checkIndex_8e157_68x0 a0 a1 S = some r) : ax_M l 0 ma_J3_checkIndex_8e157 [.inl (.int a0), .inl (.int a1), .inr (68, 0)] S (some (.inl (.int r))) S := by
  unfold f_J3_checkIndex_8e157_68x0 at h
  show ax_T l 0 ma_J3_checkIndex_8e157 (0, [some (.inl (.int a0)), some (.inl (.int a1)), some (.inr (68, 0))], [], S) (some (.inl (.int r))) S
  refine ax_Tgo [.iload_n 0] (pc' := 1) (L' := [some (.inl (.int a0)), some (.inl (.int a1)), some (.inr (68, 0))]) (st' := [.inl (.int a0)]) (S' := S) ok_J3_checkIndex_8e157.1 (by decide +kernel) rfl rfl ?_
  refine ax_Tif_lt (off := 8) (tgt := 9) (by decide +kernel) (by decide) (fun c1 => ?_) (fun c1 => ?_)
  · rw [if_pos c1] at h
    cases h
  · rw [if_neg c1] at h
    refine ax_Tgo [.iload_n 0, .iload_n 1] (pc' := 6) (L' := [some (.inl (.int a0)), some (.inl (.int a1)), some (.inr (68, 0))]) (st' := [.inl (.int a1), .inl (.int a0)]) (S' := S) ok_J3_checkIndex_8e157.1 (by decide +kernel) rfl rfl ?_
    refine ax_Tic_lt (off := 10) (tgt := 16) (by decide +kernel) (by decide) (fun c2 => ?_) (fun c2 => ?_)
    · rw [if_pos c2] at h
      refine ax_Tgo [.iload_n 0] (pc' := 17) (L' := [some (.inl (.int a0)), some (.inl (.int a1)), some (.inr (68, 0))]) (st' := [.inl (.int a0)]) (S' := S) ok_J3_checkIndex_8e157.1 (by decide +kernel) rfl rfl ?_
      cases h
      exact ax_Treti (by decide +kernel) rfl rfl
    · rw [if_neg c2] at h
      cases h
def f_J0_checkIndex_df160 (a0 : Int32) (a1 : Int32) (S : AS) : Option (Unit) := (f_J3_checkIndex_8e157_68x0 a0 a1 S).bind (fun (r4 : Int32) => some ())
set_option maxRecDepth 100000 in
theorem t_J0_checkIndex_df160 {l : Launch} {a0 : Int32} {a1 : Int32} {S : AS} (h : f_J0_checkIndex_df160 a0 a1 S = some ()) : ax_M l 1 ma_J0_checkIndex_df160 [.inl (.int a0), .inl (.int a1)] S none S := by
  unfold f_J0_checkIndex_df160 at h
  show ax_T l 1 ma_J0_checkIndex_df160 (0, [some (.inl (.int a0)), some (.inl (.int a1))], [], S) none S
  refine ax_Tgo [.iload_n 0, .iload_n 1, .getstatic 1053] (pc' := 5) (L' := [some (.inl (.int a0)), some (.inl (.int a1))]) (st' := [.inr (68, 0), .inl (.int a1), .inl (.int a0)]) (S' := S) ok_J0_checkIndex_df160.1 (by decide +kernel) rfl rfl ?_
  obtain ⟨r4, hq2, h⟩ := ax_bd_e h
  refine ax_TSi (d := 0) [.inl (.int a0), .inl (.int a1), .inr (68, 0)] [] lk_J0_1059 (by decide +kernel) rfl rfl (Nat.le_of_ble_eq_true rfl) (Nat.le_of_ble_eq_true rfl) ((t_J3_checkIndex_8e157_68x0 hq2).up (by decide)) ?_
  refine ax_Tgo [.pop] (pc' := 9) (L' := [some (.inl (.int a0)), some (.inl (.int a1))]) (st' := []) (S' := S) ok_J0_checkIndex_df160.1 (by decide +kernel) rfl rfl ?_
  cases h
  exact ax_Tretv (by decide +kernel) rfl
def f_J1_charAt_3b067_65 (i0 : Nat) (a1 : Int32) (S : AS) : Option (Int32) := (f_J0_checkIndex_df160 a1 (Int32.ofNat (ax_ln S 65 i0)) S).bind (fun (_ : Unit) => ax_gd (ax_in a1 (ax_ln S 65 i0)) (ax_gd (ax_nc (((ax_rd S 65 i0 a1.toNatClampNeg) &&& (255 : Int32)).toUInt32 % 65536).toInt32) (some (((ax_rd S 65 i0 a1.toNatClampNeg) &&& (255 : Int32)).toUInt32 % 65536).toInt32)))
set_option maxRecDepth 100000 in
theorem t_J1_charAt_3b067_65 {l : Launch} {i0 : Nat} {a1 : Int32} {S : AS} {r : Int32} (h : f_J1_charAt_3b067_65 i0 a1 S = some r) : ax_M l 2 ma_J1_charAt_3b067 [.inr (65, i0), .inl (.int a1)] S (some (.inl (.int r))) S := by
  unfold f_J1_charAt_3b067_65 at h
  show ax_T l 2 ma_J1_charAt_3b067 (0, [some (.inr (65, i0)), some (.inl (.int a1))], [], S) (some (.inl (.int r))) S
  refine ax_Tgo [.iload_n 1, .aload_n 0, .arraylength] (pc' := 3) (L' := [some (.inr (65, i0)), some (.inl (.int a1))]) (st' := [.inl (.int (Int32.ofNat (ax_ln S 65 i0))), .inl (.int a1)]) (S' := S) ok_J1_charAt_3b067.1 (by decide +kernel) rfl rfl ?_
  obtain ⟨_, hq2, h⟩ := ax_bd_e h
  refine ax_TSv (d := 1) [.inl (.int a1), .inl (.int (Int32.ofNat (ax_ln S 65 i0)))] [] lk_J1_9 (by decide +kernel) rfl rfl (Nat.le_of_ble_eq_true rfl) (Nat.le_of_ble_eq_true rfl) ((t_J0_checkIndex_df160 hq2).up (by decide)) ?_
  refine ax_Tgo [.aload_n 0, .iload_n 1] (pc' := 8) (L' := [some (.inr (65, i0)), some (.inl (.int a1))]) (st' := [.inl (.int a1), .inr (65, i0)]) (S' := S) ok_J1_charAt_3b067.1 (by decide +kernel) rfl rfl ?_
  obtain ⟨g4, h⟩ := ax_gd_e h
  refine ax_Tabc (n := (ax_ln S 65 i0)) ok_J1_charAt_3b067.1 (by decide +kernel) (by decide) rfl g4 ?_
  refine ax_Tgo [.sipush 255, .iand, .i2c] (pc' := 14) (L' := [some (.inr (65, i0)), some (.inl (.int a1))]) (st' := [.inl (.int (((ax_rd S 65 i0 a1.toNatClampNeg) &&& (255 : Int32)).toUInt32 % 65536).toInt32)]) (S' := S) ok_J1_charAt_3b067.1 (by decide +kernel) rfl rfl ?_
  obtain ⟨g5, h⟩ := ax_gd_e h
  cases h
  exact ax_Treti (by decide +kernel) rfl (ax_nc_e g5)
def f_J0_charAt_5068e_64x5 (a1 : Int32) (S : AS) : Option (Int32) := (f_J1_charAt_3b067_65 5 a1 S).bind (fun (r8 : Int32) => ax_gd (ax_nc r8) (some r8))
set_option maxRecDepth 100000 in
theorem t_J0_charAt_5068e_64x5 {l : Launch} {a1 : Int32} {S : AS} {r : Int32} (h : f_J0_charAt_5068e_64x5 a1 S = some r) : ax_M l 3 ma_J0_charAt_5068e [.inr (64, 5), .inl (.int a1)] S (some (.inl (.int r))) S := by
  unfold f_J0_charAt_5068e_64x5 at h
  show ax_T l 3 ma_J0_charAt_5068e (0, [some (.inr (64, 5)), some (.inl (.int a1))], [], S) (some (.inl (.int r))) S
  refine ax_Tgo [.aload_n 0] (pc' := 1) (L' := [some (.inr (64, 5)), some (.inl (.int a1))]) (st' := [.inr (64, 5)]) (S' := S) ok_J0_charAt_5068e.1 (by decide +kernel) rfl rfl ?_
  refine ax_TVi (d := 2) (ka := 64) (i := 5) [] [] lk_J0_492 (by decide +kernel) rfl (by decide) rfl (Nat.le_of_ble_eq_true rfl) (Nat.le_of_ble_eq_true rfl) ((t_J0_isLatin1_aae02_64x5 rfl).up (by decide)) ?_
  refine ax_Tif_eq (off := 12) (tgt := 16) (by decide +kernel) (by decide) (fun c4 => absurd c4 (by decide)) (fun _ => ?_)
  refine ax_Tgo [.aload_n 0, .getfield 9, .iload_n 1] (pc' := 12) (L' := [some (.inr (64, 5)), some (.inl (.int a1))]) (st' := [.inl (.int a1), .inr (65, 5)]) (S' := S) ok_J0_charAt_5068e.1 (by decide +kernel) rfl rfl ?_
  obtain ⟨r8, hq6, h⟩ := ax_bd_e h
  refine ax_TSi (d := 2) [.inr (65, 5), .inl (.int a1)] [] lk_J0_495 (by decide +kernel) rfl rfl (Nat.le_of_ble_eq_true rfl) (Nat.le_of_ble_eq_true rfl) ((t_J1_charAt_3b067_65 hq6).up (by decide)) ?_
  obtain ⟨g9, h⟩ := ax_gd_e h
  cases h
  exact ax_Treti (by decide +kernel) rfl (ax_nc_e g9)
def f_X12_isAmong_64x5_L2 (S : AS) : Nat → Int32 → Int32 → Option (Int32)
  | 0, _, _ => none
  | n + 1, x1, x2 => (if ((Int32.ofNat 1) >>> ((0 : Int32) &&& 31)) ≤ x2 then some (0 : Int32) else (f_J0_charAt_5068e_64x5 x2 S).bind (fun (r10 : Int32) => (if r10 = x1 then some (1 : Int32) else ax_let (x2 + (1 : Int32)) (fun (v12 : Int32) => f_X12_isAmong_64x5_L2 S n x1 v12))))
def f_X12_isAmong_64x5 (a1 : Int32) (S : AS) : Option (Int32) := f_X12_isAmong_64x5_L2 S ax_F a1 (0 : Int32)
set_option maxRecDepth 100000 in
theorem t_X12_isAmong_64x5_L2 {l : Launch} {S : AS} : ∀ (n : Nat) (x1 : Int32) (x2 : Int32) r, f_X12_isAmong_64x5_L2 S n x1 x2  = some r → ax_T l 4 ma_X12_isAmong (2, [some (.inr (64, 5)), some (.inl (.int x1)), some (.inl (.int x2))], [], S) (some (.inl (.int r))) S := by
  intro n
  induction n with
  | zero =>
    intro x1 x2  r h
    cases h
  | succ n ih =>
    intro x1 x2  r h
    unfold f_X12_isAmong_64x5_L2 at h
    refine ax_Tgo [.iload_n 2, .aload_n 0] (pc' := 4) (L' := [some (.inr (64, 5)), some (.inl (.int x1)), some (.inl (.int x2))]) (st' := [.inr (64, 5), .inl (.int x2)]) (S' := S) ok_X12_isAmong.1 (by decide +kernel) rfl rfl ?_
    refine ax_TVi (d := 3) (ka := 64) (i := 5) [] [.inl (.int x2)] lk_X12_96 (by decide +kernel) rfl (by decide) rfl (Nat.le_of_ble_eq_true rfl) (Nat.le_of_ble_eq_true rfl) ((t_J0_length_8abf5_64x5 rfl).up (by decide)) ?_
    refine ax_Tic_ge (off := 20) (tgt := 27) (by decide +kernel) (by decide) (fun c6 => ?_) (fun c6 => ?_)
    · rw [if_pos c6] at h
      refine ax_Tgo [.iconst 0] (pc' := 28) (L' := [some (.inr (64, 5)), some (.inl (.int x1)), some (.inl (.int x2))]) (st' := [.inl (.int (0 : Int32))]) (S' := S) ok_X12_isAmong.1 (by decide +kernel) rfl rfl ?_
      cases h
      exact ax_Treti (by decide +kernel) rfl rfl
    · rw [if_neg c6] at h
      refine ax_Tgo [.aload_n 0, .iload_n 2] (pc' := 12) (L' := [some (.inr (64, 5)), some (.inl (.int x1)), some (.inl (.int x2))]) (st' := [.inl (.int x2), .inr (64, 5)]) (S' := S) ok_X12_isAmong.1 (by decide +kernel) rfl rfl ?_
      obtain ⟨r10, hq8, h⟩ := ax_bd_e h
      refine ax_TVi (d := 3) (ka := 64) (i := 5) [.inl (.int x2)] [] lk_X12_102 (by decide +kernel) rfl (by decide) rfl (Nat.le_of_ble_eq_true rfl) (Nat.le_of_ble_eq_true rfl) ((t_J0_charAt_5068e_64x5 hq8).up (by decide)) ?_
      refine ax_Tgo [.iload_n 1] (pc' := 16) (L' := [some (.inr (64, 5)), some (.inl (.int x1)), some (.inl (.int x2))]) (st' := [.inl (.int x1), .inl (.int r10)]) (S' := S) ok_X12_isAmong.1 (by decide +kernel) rfl rfl ?_
      refine ax_Tic_ne (off := 5) (tgt := 21) (by decide +kernel) (by decide) (fun c11 => ?_) (fun c11 => ?_)
      · rw [if_neg c11] at h
        refine ax_Tgo [.iinc 2 1] (pc' := 24) (L' := [some (.inr (64, 5)), some (.inl (.int x1)), some (.inl (.int (x2 + (1 : Int32))))]) (st' := []) (S' := S) ok_X12_isAmong.1 (by decide +kernel) rfl rfl ?_
        obtain ⟨v12, ev12, h⟩ := ax_let_e h
        rw [ev12]
        refine ax_Tgoto (off := (-22)) (tgt := 2) (by decide +kernel) (by decide) ?_
        exact ih x1 v12 _ h
      · rw [if_pos c11] at h
        refine ax_Tgo [.iconst 1] (pc' := 20) (L' := [some (.inr (64, 5)), some (.inl (.int x1)), some (.inl (.int x2))]) (st' := [.inl (.int (1 : Int32))]) (S' := S) ok_X12_isAmong.1 (by decide +kernel) rfl rfl ?_
        cases h
        exact ax_Treti (by decide +kernel) rfl rfl
set_option maxRecDepth 100000 in
theorem t_X12_isAmong_64x5 {l : Launch} {a1 : Int32} {S : AS} {r : Int32} (h : f_X12_isAmong_64x5 a1 S = some r) : ax_M l 4 ma_X12_isAmong [.inr (64, 5), .inl (.int a1)] S (some (.inl (.int r))) S := by
  unfold f_X12_isAmong_64x5 at h
  show ax_T l 4 ma_X12_isAmong (0, [some (.inr (64, 5)), some (.inl (.int a1)), none], [], S) (some (.inl (.int r))) S
  refine ax_Tgo [.iconst 0, .istore_n 2] (pc' := 2) (L' := [some (.inr (64, 5)), some (.inl (.int a1)), some (.inl (.int (0 : Int32)))]) (st' := []) (S' := S) ok_X12_isAmong.1 (by decide +kernel) rfl rfl ?_
  refine t_X12_isAmong_64x5_L2 _ a1 (0 : Int32) _ h
def f_X12_fails (S : AS) : Option (Int32 × AS) := (if (ax_fi S 12 0 11) = (Int32.ofInt (-1)) then ax_let (ax_sfi S 12 0 11 (ax_fi S 12 0 10)) (fun (S2 : AS) => some ((0 : Int32), S2)) else some ((0 : Int32), S))
set_option maxRecDepth 100000 in
theorem t_X12_fails {l : Launch} {S Z : AS} {r : Int32} (h : f_X12_fails S = some (r, Z)) : ax_M l 0 ma_X12_fails [.inr (12, 0)] S (some (.inl (.int r))) Z := by
  unfold f_X12_fails at h
  show ax_T l 0 ma_X12_fails (0, [some (.inr (12, 0))], [], S) (some (.inl (.int r))) Z
  refine ax_Tgo [.aload_n 0, .getfield 125, .iconst (-1)] (pc' := 5) (L' := [some (.inr (12, 0))]) (st' := [.inl (.int (Int32.ofInt (-1))), .inl (.int (ax_fi S 12 0 11))]) (S' := S) ok_X12_fails.1 (by decide +kernel) rfl rfl ?_
  refine ax_Tic_ne (off := 11) (tgt := 16) (by decide +kernel) (by decide) (fun c1 => ?_) (fun c1 => ?_)
  · rw [if_neg c1] at h
    refine ax_Tgo [.iconst 0] (pc' := 17) (L' := [some (.inr (12, 0))]) (st' := [.inl (.int (0 : Int32))]) (S' := S) ok_X12_fails.1 (by decide +kernel) rfl rfl ?_
    cases h
    exact ax_Treti (by decide +kernel) rfl rfl
  · rw [if_pos c1] at h
    refine ax_Tgo [.aload_n 0, .aload_n 0, .getfield 116, .putfield 125] (pc' := 16) (L' := [some (.inr (12, 0))]) (st' := []) (S' := (ax_sfi S 12 0 11 (ax_fi S 12 0 10))) ok_X12_fails.1 (by decide +kernel) rfl rfl ?_
    obtain ⟨S2, eS2, h⟩ := ax_let_e h
    rw [eS2]
    refine ax_Tgo [.iconst 0] (pc' := 17) (L' := [some (.inr (12, 0))]) (st' := [.inl (.int (0 : Int32))]) (S' := S2) ok_X12_fails.1 (by decide +kernel) rfl rfl ?_
    cases h
    exact ax_Treti (by decide +kernel) rfl rfl
def f_X12_takes (a1 : Int32) (S : AS) : Option (Int32 × AS) := (if (ax_fi S 12 0 11) = (Int32.ofInt (-1)) then ax_bu (f_X12_look S) (fun (r10 : Int32) (S7 : AS) => (if r10 = a1 then ax_let (ax_sfi S7 12 0 10 ((ax_fi S7 12 0 10) + (1 : Int32))) (fun (S12 : AS) => some ((1 : Int32), S12)) else ax_bu (f_X12_fails S7) (fun (r16 : Int32) (S13 : AS) => ax_gd (ax_bo r16) (some (r16, S13))))) else ax_bu (f_X12_fails S) (fun (r5 : Int32) (S2 : AS) => ax_gd (ax_bo r5) (some (r5, S2))))
set_option maxRecDepth 100000 in
theorem t_X12_takes {l : Launch} {a1 : Int32} {S Z : AS} {r : Int32} (h : f_X12_takes a1 S = some (r, Z)) : ax_M l 1 ma_X12_takes [.inr (12, 0), .inl (.int a1)] S (some (.inl (.int r))) Z := by
  unfold f_X12_takes at h
  show ax_T l 1 ma_X12_takes (0, [some (.inr (12, 0)), some (.inl (.int a1))], [], S) (some (.inl (.int r))) Z
  refine ax_Tgo [.aload_n 0, .getfield 125, .iconst (-1)] (pc' := 5) (L' := [some (.inr (12, 0)), some (.inl (.int a1))]) (st' := [.inl (.int (Int32.ofInt (-1))), .inl (.int (ax_fi S 12 0 11))]) (S' := S) ok_X12_takes.1 (by decide +kernel) rfl rfl ?_
  refine ax_Tic_ne (off := 11) (tgt := 16) (by decide +kernel) (by decide) (fun c1 => ?_) (fun c1 => ?_)
  · rw [if_neg c1] at h
    refine ax_Tgo [.aload_n 0] (pc' := 17) (L' := [some (.inr (12, 0)), some (.inl (.int a1))]) (st' := [.inr (12, 0)]) (S' := S) ok_X12_takes.1 (by decide +kernel) rfl rfl ?_
    obtain ⟨r5, S2, hq3, h⟩ := ax_bu_e h
    refine ax_TVi (d := 0) (ka := 12) (i := 0) [] [] lk_X12_131 (by decide +kernel) rfl (by decide) rfl (Nat.le_of_ble_eq_true rfl) (Nat.le_of_ble_eq_true rfl) ((t_X12_fails hq3).up (by decide)) ?_
    obtain ⟨g6, h⟩ := ax_gd_e h
    cases h
    exact ax_Tretz (by decide +kernel) rfl g6
  · rw [if_pos c1] at h
    refine ax_Tgo [.aload_n 0] (pc' := 9) (L' := [some (.inr (12, 0)), some (.inl (.int a1))]) (st' := [.inr (12, 0)]) (S' := S) ok_X12_takes.1 (by decide +kernel) rfl rfl ?_
    obtain ⟨r10, S7, hq8, h⟩ := ax_bu_e h
    refine ax_TVi (d := 0) (ka := 12) (i := 0) [] [] lk_X12_135 (by decide +kernel) rfl (by decide) rfl (Nat.le_of_ble_eq_true rfl) (Nat.le_of_ble_eq_true rfl) ((t_X12_look hq8).up (by decide)) ?_
    refine ax_Tgo [.iload_n 1] (pc' := 13) (L' := [some (.inr (12, 0)), some (.inl (.int a1))]) (st' := [.inl (.int a1), .inl (.int r10)]) (S' := S7) ok_X12_takes.1 (by decide +kernel) rfl rfl ?_
    refine ax_Tic_eq (off := 8) (tgt := 21) (by decide +kernel) (by decide) (fun c11 => ?_) (fun c11 => ?_)
    · rw [if_pos c11] at h
      refine ax_Tgo [.aload_n 0, .dup, .getfield 116, .iconst 1, .iadd, .putfield 116] (pc' := 31) (L' := [some (.inr (12, 0)), some (.inl (.int a1))]) (st' := []) (S' := (ax_sfi S7 12 0 10 ((ax_fi S7 12 0 10) + (1 : Int32)))) ok_X12_takes.1 (by decide +kernel) rfl rfl ?_
      obtain ⟨S12, eS12, h⟩ := ax_let_e h
      rw [eS12]
      refine ax_Tgo [.iconst 1] (pc' := 32) (L' := [some (.inr (12, 0)), some (.inl (.int a1))]) (st' := [.inl (.int (1 : Int32))]) (S' := S12) ok_X12_takes.1 (by decide +kernel) rfl rfl ?_
      cases h
      exact ax_Treti (by decide +kernel) rfl rfl
    · rw [if_neg c11] at h
      refine ax_Tgo [.aload_n 0] (pc' := 17) (L' := [some (.inr (12, 0)), some (.inl (.int a1))]) (st' := [.inr (12, 0)]) (S' := S7) ok_X12_takes.1 (by decide +kernel) rfl rfl ?_
      obtain ⟨r16, S13, hq14, h⟩ := ax_bu_e h
      refine ax_TVi (d := 0) (ka := 12) (i := 0) [] [] lk_X12_131 (by decide +kernel) rfl (by decide) rfl (Nat.le_of_ble_eq_true rfl) (Nat.le_of_ble_eq_true rfl) ((t_X12_fails hq14).up (by decide)) ?_
      obtain ⟨g17, h⟩ := ax_gd_e h
      cases h
      exact ax_Tretz (by decide +kernel) rfl g17
def f_J0_charAt_5068e_64x3 (a1 : Int32) (S : AS) : Option (Int32) := (f_J1_charAt_3b067_65 3 a1 S).bind (fun (r8 : Int32) => ax_gd (ax_nc r8) (some r8))
set_option maxRecDepth 100000 in
theorem t_J0_charAt_5068e_64x3 {l : Launch} {a1 : Int32} {S : AS} {r : Int32} (h : f_J0_charAt_5068e_64x3 a1 S = some r) : ax_M l 3 ma_J0_charAt_5068e [.inr (64, 3), .inl (.int a1)] S (some (.inl (.int r))) S := by
  unfold f_J0_charAt_5068e_64x3 at h
  show ax_T l 3 ma_J0_charAt_5068e (0, [some (.inr (64, 3)), some (.inl (.int a1))], [], S) (some (.inl (.int r))) S
  refine ax_Tgo [.aload_n 0] (pc' := 1) (L' := [some (.inr (64, 3)), some (.inl (.int a1))]) (st' := [.inr (64, 3)]) (S' := S) ok_J0_charAt_5068e.1 (by decide +kernel) rfl rfl ?_
  refine ax_TVi (d := 2) (ka := 64) (i := 3) [] [] lk_J0_492 (by decide +kernel) rfl (by decide) rfl (Nat.le_of_ble_eq_true rfl) (Nat.le_of_ble_eq_true rfl) ((t_J0_isLatin1_aae02_64x3 rfl).up (by decide)) ?_
  refine ax_Tif_eq (off := 12) (tgt := 16) (by decide +kernel) (by decide) (fun c4 => absurd c4 (by decide)) (fun _ => ?_)
  refine ax_Tgo [.aload_n 0, .getfield 9, .iload_n 1] (pc' := 12) (L' := [some (.inr (64, 3)), some (.inl (.int a1))]) (st' := [.inl (.int a1), .inr (65, 3)]) (S' := S) ok_J0_charAt_5068e.1 (by decide +kernel) rfl rfl ?_
  obtain ⟨r8, hq6, h⟩ := ax_bd_e h
  refine ax_TSi (d := 2) [.inr (65, 3), .inl (.int a1)] [] lk_J0_495 (by decide +kernel) rfl rfl (Nat.le_of_ble_eq_true rfl) (Nat.le_of_ble_eq_true rfl) ((t_J1_charAt_3b067_65 hq6).up (by decide)) ?_
  obtain ⟨g9, h⟩ := ax_gd_e h
  cases h
  exact ax_Treti (by decide +kernel) rfl (ax_nc_e g9)
def f_X12_isAmong_64x3_L2 (S : AS) : Nat → Int32 → Int32 → Option (Int32)
  | 0, _, _ => none
  | n + 1, x1, x2 => (if ((Int32.ofNat 6) >>> ((0 : Int32) &&& 31)) ≤ x2 then some (0 : Int32) else (f_J0_charAt_5068e_64x3 x2 S).bind (fun (r10 : Int32) => (if r10 = x1 then some (1 : Int32) else ax_let (x2 + (1 : Int32)) (fun (v12 : Int32) => f_X12_isAmong_64x3_L2 S n x1 v12))))
def f_X12_isAmong_64x3 (a1 : Int32) (S : AS) : Option (Int32) := f_X12_isAmong_64x3_L2 S ax_F a1 (0 : Int32)
set_option maxRecDepth 100000 in
theorem t_X12_isAmong_64x3_L2 {l : Launch} {S : AS} : ∀ (n : Nat) (x1 : Int32) (x2 : Int32) r, f_X12_isAmong_64x3_L2 S n x1 x2  = some r → ax_T l 4 ma_X12_isAmong (2, [some (.inr (64, 3)), some (.inl (.int x1)), some (.inl (.int x2))], [], S) (some (.inl (.int r))) S := by
  intro n
  induction n with
  | zero =>
    intro x1 x2  r h
    cases h
  | succ n ih =>
    intro x1 x2  r h
    unfold f_X12_isAmong_64x3_L2 at h
    refine ax_Tgo [.iload_n 2, .aload_n 0] (pc' := 4) (L' := [some (.inr (64, 3)), some (.inl (.int x1)), some (.inl (.int x2))]) (st' := [.inr (64, 3), .inl (.int x2)]) (S' := S) ok_X12_isAmong.1 (by decide +kernel) rfl rfl ?_
    refine ax_TVi (d := 3) (ka := 64) (i := 3) [] [.inl (.int x2)] lk_X12_96 (by decide +kernel) rfl (by decide) rfl (Nat.le_of_ble_eq_true rfl) (Nat.le_of_ble_eq_true rfl) ((t_J0_length_8abf5_64x3 rfl).up (by decide)) ?_
    refine ax_Tic_ge (off := 20) (tgt := 27) (by decide +kernel) (by decide) (fun c6 => ?_) (fun c6 => ?_)
    · rw [if_pos c6] at h
      refine ax_Tgo [.iconst 0] (pc' := 28) (L' := [some (.inr (64, 3)), some (.inl (.int x1)), some (.inl (.int x2))]) (st' := [.inl (.int (0 : Int32))]) (S' := S) ok_X12_isAmong.1 (by decide +kernel) rfl rfl ?_
      cases h
      exact ax_Treti (by decide +kernel) rfl rfl
    · rw [if_neg c6] at h
      refine ax_Tgo [.aload_n 0, .iload_n 2] (pc' := 12) (L' := [some (.inr (64, 3)), some (.inl (.int x1)), some (.inl (.int x2))]) (st' := [.inl (.int x2), .inr (64, 3)]) (S' := S) ok_X12_isAmong.1 (by decide +kernel) rfl rfl ?_
      obtain ⟨r10, hq8, h⟩ := ax_bd_e h
      refine ax_TVi (d := 3) (ka := 64) (i := 3) [.inl (.int x2)] [] lk_X12_102 (by decide +kernel) rfl (by decide) rfl (Nat.le_of_ble_eq_true rfl) (Nat.le_of_ble_eq_true rfl) ((t_J0_charAt_5068e_64x3 hq8).up (by decide)) ?_
      refine ax_Tgo [.iload_n 1] (pc' := 16) (L' := [some (.inr (64, 3)), some (.inl (.int x1)), some (.inl (.int x2))]) (st' := [.inl (.int x1), .inl (.int r10)]) (S' := S) ok_X12_isAmong.1 (by decide +kernel) rfl rfl ?_
      refine ax_Tic_ne (off := 5) (tgt := 21) (by decide +kernel) (by decide) (fun c11 => ?_) (fun c11 => ?_)
      · rw [if_neg c11] at h
        refine ax_Tgo [.iinc 2 1] (pc' := 24) (L' := [some (.inr (64, 3)), some (.inl (.int x1)), some (.inl (.int (x2 + (1 : Int32))))]) (st' := []) (S' := S) ok_X12_isAmong.1 (by decide +kernel) rfl rfl ?_
        obtain ⟨v12, ev12, h⟩ := ax_let_e h
        rw [ev12]
        refine ax_Tgoto (off := (-22)) (tgt := 2) (by decide +kernel) (by decide) ?_
        exact ih x1 v12 _ h
      · rw [if_pos c11] at h
        refine ax_Tgo [.iconst 1] (pc' := 20) (L' := [some (.inr (64, 3)), some (.inl (.int x1)), some (.inl (.int x2))]) (st' := [.inl (.int (1 : Int32))]) (S' := S) ok_X12_isAmong.1 (by decide +kernel) rfl rfl ?_
        cases h
        exact ax_Treti (by decide +kernel) rfl rfl
set_option maxRecDepth 100000 in
theorem t_X12_isAmong_64x3 {l : Launch} {a1 : Int32} {S : AS} {r : Int32} (h : f_X12_isAmong_64x3 a1 S = some r) : ax_M l 4 ma_X12_isAmong [.inr (64, 3), .inl (.int a1)] S (some (.inl (.int r))) S := by
  unfold f_X12_isAmong_64x3 at h
  show ax_T l 4 ma_X12_isAmong (0, [some (.inr (64, 3)), some (.inl (.int a1)), none], [], S) (some (.inl (.int r))) S
  refine ax_Tgo [.iconst 0, .istore_n 2] (pc' := 2) (L' := [some (.inr (64, 3)), some (.inl (.int a1)), some (.inl (.int (0 : Int32)))]) (st' := []) (S' := S) ok_X12_isAmong.1 (by decide +kernel) rfl rfl ?_
  refine t_X12_isAmong_64x3_L2 _ a1 (0 : Int32) _ h
def f_X12_isDigit (S : AS) : Option (Int32) := (if (ax_fi S 12 0 9) ≤ (ax_fi S 12 0 10) then some (0 : Int32) else ax_gd (ax_in ((ax_fi S 12 0 8) + (ax_fi S 12 0 10)) (ax_ln S 44 (ax_fx S 12 0 5))) ((if (ax_ai S 44 (ax_fx S 12 0 5) ((ax_fi S 12 0 8) + (ax_fi S 12 0 10)).toNatClampNeg) < (48 : Int32) then some (0 : Int32) else ax_gd (ax_in ((ax_fi S 12 0 8) + (ax_fi S 12 0 10)) (ax_ln S 44 (ax_fx S 12 0 5))) ((if (57 : Int32) < (ax_ai S 44 (ax_fx S 12 0 5) ((ax_fi S 12 0 8) + (ax_fi S 12 0 10)).toNatClampNeg) then some (0 : Int32) else some (1 : Int32))))))
set_option maxRecDepth 100000 in
theorem t_X12_isDigit {l : Launch} {S : AS} {r : Int32} (h : f_X12_isDigit S = some r) : ax_M l 0 ma_X12_isDigit [.inr (12, 0)] S (some (.inl (.int r))) S := by
  unfold f_X12_isDigit at h
  show ax_T l 0 ma_X12_isDigit (0, [some (.inr (12, 0))], [], S) (some (.inl (.int r))) S
  refine ax_Tgo [.aload_n 0, .getfield 116, .aload_n 0, .getfield 119] (pc' := 8) (L' := [some (.inr (12, 0))]) (st' := [.inl (.int (ax_fi S 12 0 9)), .inl (.int (ax_fi S 12 0 10))]) (S' := S) ok_X12_isDigit.1 (by decide +kernel) rfl rfl ?_
  refine ax_Tic_ge (off := 45) (tgt := 53) (by decide +kernel) (by decide) (fun c1 => ?_) (fun c1 => ?_)
  · rw [if_pos c1] at h
    refine ax_Tgo [.iconst 0] (pc' := 54) (L' := [some (.inr (12, 0))]) (st' := [.inl (.int (0 : Int32))]) (S' := S) ok_X12_isDigit.1 (by decide +kernel) rfl rfl ?_
    cases h
    exact ax_Treti (by decide +kernel) rfl rfl
  · rw [if_neg c1] at h
    refine ax_Tgo [.aload_n 0, .getfield 23, .aload_n 0, .getfield 122, .aload_n 0, .getfield 116, .iadd] (pc' := 24) (L' := [some (.inr (12, 0))]) (st' := [.inl (.int ((ax_fi S 12 0 8) + (ax_fi S 12 0 10))), .inr (44, (ax_fx S 12 0 5))]) (S' := S) ok_X12_isDigit.1 (by decide +kernel) rfl rfl ?_
    obtain ⟨g2, h⟩ := ax_gd_e h
    refine ax_Talb (n := (ax_ln S 44 (ax_fx S 12 0 5))) ok_X12_isDigit.1 (by decide +kernel) (by decide) rfl g2 ?_
    refine ax_Tgo [.bipush 48] (pc' := 27) (L' := [some (.inr (12, 0))]) (st' := [.inl (.int (48 : Int32)), .inl (.int (ax_ai S 44 (ax_fx S 12 0 5) ((ax_fi S 12 0 8) + (ax_fi S 12 0 10)).toNatClampNeg))]) (S' := S) ok_X12_isDigit.1 (by decide +kernel) rfl rfl ?_
    refine ax_Tic_lt (off := 26) (tgt := 53) (by decide +kernel) (by decide) (fun c3 => ?_) (fun c3 => ?_)
    · rw [if_pos c3] at h
      refine ax_Tgo [.iconst 0] (pc' := 54) (L' := [some (.inr (12, 0))]) (st' := [.inl (.int (0 : Int32))]) (S' := S) ok_X12_isDigit.1 (by decide +kernel) rfl rfl ?_
      cases h
      exact ax_Treti (by decide +kernel) rfl rfl
    · rw [if_neg c3] at h
      refine ax_Tgo [.aload_n 0, .getfield 23, .aload_n 0, .getfield 122, .aload_n 0, .getfield 116, .iadd] (pc' := 43) (L' := [some (.inr (12, 0))]) (st' := [.inl (.int ((ax_fi S 12 0 8) + (ax_fi S 12 0 10))), .inr (44, (ax_fx S 12 0 5))]) (S' := S) ok_X12_isDigit.1 (by decide +kernel) rfl rfl ?_
      obtain ⟨g4, h⟩ := ax_gd_e h
      refine ax_Talb (n := (ax_ln S 44 (ax_fx S 12 0 5))) ok_X12_isDigit.1 (by decide +kernel) (by decide) rfl g4 ?_
      refine ax_Tgo [.bipush 57] (pc' := 46) (L' := [some (.inr (12, 0))]) (st' := [.inl (.int (57 : Int32)), .inl (.int (ax_ai S 44 (ax_fx S 12 0 5) ((ax_fi S 12 0 8) + (ax_fi S 12 0 10)).toNatClampNeg))]) (S' := S) ok_X12_isDigit.1 (by decide +kernel) rfl rfl ?_
      refine ax_Tic_gt (off := 7) (tgt := 53) (by decide +kernel) (by decide) (fun c5 => ?_) (fun c5 => ?_)
      · rw [if_pos c5] at h
        refine ax_Tgo [.iconst 0] (pc' := 54) (L' := [some (.inr (12, 0))]) (st' := [.inl (.int (0 : Int32))]) (S' := S) ok_X12_isDigit.1 (by decide +kernel) rfl rfl ?_
        cases h
        exact ax_Treti (by decide +kernel) rfl rfl
      · rw [if_neg c5] at h
        refine ax_Tgo [.iconst 1] (pc' := 50) (L' := [some (.inr (12, 0))]) (st' := [.inl (.int (1 : Int32))]) (S' := S) ok_X12_isDigit.1 (by decide +kernel) rfl rfl ?_
        refine ax_Tgoto (off := 4) (tgt := 54) (by decide +kernel) (by decide) ?_
        cases h
        exact ax_Treti (by decide +kernel) rfl rfl
def f_X12_goesIn (S : AS) : Option (Int32 × AS) := (if (ax_fi S 12 0 12) = (6 : Int32) then ax_bu (f_X12_fails S) (fun (r7 : Int32) (S4 : AS) => ax_gd (ax_bo r7) (some (r7, S4))) else ax_let (ax_sfi S 12 0 12 ((ax_fi S 12 0 12) + (1 : Int32))) (fun (S2 : AS) => ax_let (ax_sfi S2 12 0 10 ((ax_fi S2 12 0 10) + (1 : Int32))) (fun (S3 : AS) => some ((1 : Int32), S3))))
set_option maxRecDepth 100000 in
theorem t_X12_goesIn {l : Launch} {S Z : AS} {r : Int32} (h : f_X12_goesIn S = some (r, Z)) : ax_M l 1 ma_X12_goesIn [.inr (12, 0)] S (some (.inl (.int r))) Z := by
  unfold f_X12_goesIn at h
  show ax_T l 1 ma_X12_goesIn (0, [some (.inr (12, 0))], [], S) (some (.inl (.int r))) Z
  refine ax_Tgo [.aload_n 0, .getfield 128, .bipush 6] (pc' := 6) (L' := [some (.inr (12, 0))]) (st' := [.inl (.int (6 : Int32)), .inl (.int (ax_fi S 12 0 12))]) (S' := S) ok_X12_goesIn.1 (by decide +kernel) rfl rfl ?_
  refine ax_Tic_ne (off := 8) (tgt := 14) (by decide +kernel) (by decide) (fun c1 => ?_) (fun c1 => ?_)
  · rw [if_neg c1] at h
    refine ax_Tgo [.aload_n 0, .dup, .getfield 128, .iconst 1, .iadd, .putfield 128] (pc' := 24) (L' := [some (.inr (12, 0))]) (st' := []) (S' := (ax_sfi S 12 0 12 ((ax_fi S 12 0 12) + (1 : Int32)))) ok_X12_goesIn.1 (by decide +kernel) rfl rfl ?_
    obtain ⟨S2, eS2, h⟩ := ax_let_e h
    rw [eS2]
    refine ax_Tgo [.aload_n 0, .dup, .getfield 116, .iconst 1, .iadd, .putfield 116] (pc' := 34) (L' := [some (.inr (12, 0))]) (st' := []) (S' := (ax_sfi S2 12 0 10 ((ax_fi S2 12 0 10) + (1 : Int32)))) ok_X12_goesIn.1 (by decide +kernel) rfl rfl ?_
    obtain ⟨S3, eS3, h⟩ := ax_let_e h
    rw [eS3]
    refine ax_Tgo [.iconst 1] (pc' := 35) (L' := [some (.inr (12, 0))]) (st' := [.inl (.int (1 : Int32))]) (S' := S3) ok_X12_goesIn.1 (by decide +kernel) rfl rfl ?_
    cases h
    exact ax_Treti (by decide +kernel) rfl rfl
  · rw [if_pos c1] at h
    refine ax_Tgo [.aload_n 0] (pc' := 10) (L' := [some (.inr (12, 0))]) (st' := [.inr (12, 0)]) (S' := S) ok_X12_goesIn.1 (by decide +kernel) rfl rfl ?_
    obtain ⟨r7, S4, hq5, h⟩ := ax_bu_e h
    refine ax_TVi (d := 0) (ka := 12) (i := 0) [] [] lk_X12_131 (by decide +kernel) rfl (by decide) rfl (Nat.le_of_ble_eq_true rfl) (Nat.le_of_ble_eq_true rfl) ((t_X12_fails hq5).up (by decide)) ?_
    obtain ⟨g8, h⟩ := ax_gd_e h
    cases h
    exact ax_Tretz (by decide +kernel) rfl g8
def f_J9_min_f86c9 (a0 : Int64) (a1 : Int64) (S : AS) : Option (Int64) := (if (0 : Int32) < (lg_cmp a0 a1) then some a1 else some a0)
set_option maxRecDepth 100000 in
theorem t_J9_min_f86c9 {l : Launch} {a0 : Int64} {a1 : Int64} {S : AS} {r : Int64} (h : f_J9_min_f86c9 a0 a1 S = some r) : ax_M l 0 ma_J9_min_f86c9 [.inl (.long a0), .inl (.long a1)] S (some (.inl (.long r))) S := by
  unfold f_J9_min_f86c9 at h
  show ax_T l 0 ma_J9_min_f86c9 (0, [some (.inl (.long a0)), none, some (.inl (.long a1)), none], [], S) (some (.inl (.long r))) S
  refine ax_Tgo [.lload_n 0, .lload_n 2, .lcmp] (pc' := 3) (L' := [some (.inl (.long a0)), none, some (.inl (.long a1)), none]) (st' := [.inl (.int (lg_cmp a0 a1))]) (S' := S) ok_J9_min_f86c9.1 (by decide +kernel) rfl rfl ?_
  refine ax_Tif_gt (off := 7) (tgt := 10) (by decide +kernel) (by decide) (fun c1 => ?_) (fun c1 => ?_)
  · rw [if_pos c1] at h
    refine ax_Tgo [.lload_n 2] (pc' := 11) (L' := [some (.inl (.long a0)), none, some (.inl (.long a1)), none]) (st' := [.inl (.long a1)]) (S' := S) ok_J9_min_f86c9.1 (by decide +kernel) rfl rfl ?_
    cases h
    exact ax_Tretl (by decide +kernel) rfl
  · rw [if_neg c1] at h
    refine ax_Tgo [.lload_n 0] (pc' := 7) (L' := [some (.inl (.long a0)), none, some (.inl (.long a1)), none]) (st' := [.inl (.long a0)]) (S' := S) ok_J9_min_f86c9.1 (by decide +kernel) rfl rfl ?_
    refine ax_Tgoto (off := 4) (tgt := 11) (by decide +kernel) (by decide) ?_
    cases h
    exact ax_Tretl (by decide +kernel) rfl
def f_J9_max_f86c9 (a0 : Int64) (a1 : Int64) (S : AS) : Option (Int64) := (if (lg_cmp a0 a1) < (0 : Int32) then some a1 else some a0)
set_option maxRecDepth 100000 in
theorem t_J9_max_f86c9 {l : Launch} {a0 : Int64} {a1 : Int64} {S : AS} {r : Int64} (h : f_J9_max_f86c9 a0 a1 S = some r) : ax_M l 0 ma_J9_max_f86c9 [.inl (.long a0), .inl (.long a1)] S (some (.inl (.long r))) S := by
  unfold f_J9_max_f86c9 at h
  show ax_T l 0 ma_J9_max_f86c9 (0, [some (.inl (.long a0)), none, some (.inl (.long a1)), none], [], S) (some (.inl (.long r))) S
  refine ax_Tgo [.lload_n 0, .lload_n 2, .lcmp] (pc' := 3) (L' := [some (.inl (.long a0)), none, some (.inl (.long a1)), none]) (st' := [.inl (.int (lg_cmp a0 a1))]) (S' := S) ok_J9_max_f86c9.1 (by decide +kernel) rfl rfl ?_
  refine ax_Tif_lt (off := 7) (tgt := 10) (by decide +kernel) (by decide) (fun c1 => ?_) (fun c1 => ?_)
  · rw [if_pos c1] at h
    refine ax_Tgo [.lload_n 2] (pc' := 11) (L' := [some (.inl (.long a0)), none, some (.inl (.long a1)), none]) (st' := [.inl (.long a1)]) (S' := S) ok_J9_max_f86c9.1 (by decide +kernel) rfl rfl ?_
    cases h
    exact ax_Tretl (by decide +kernel) rfl
  · rw [if_neg c1] at h
    refine ax_Tgo [.lload_n 0] (pc' := 7) (L' := [some (.inl (.long a0)), none, some (.inl (.long a1)), none]) (st' := [.inl (.long a0)]) (S' := S) ok_J9_max_f86c9.1 (by decide +kernel) rfl rfl ?_
    refine ax_Tgoto (off := 4) (tgt := 11) (by decide +kernel) (by decide) ?_
    cases h
    exact ax_Tretl (by decide +kernel) rfl
def f_X12_within (a0 : Int64) (S : AS) : Option (Int32) := (f_J9_min_f86c9 (1000000 : Int64) a0 S).bind (fun (r4 : Int64) => (f_J9_max_f86c9 (-1000000 : Int64) r4 S).bind (fun (r8 : Int64) => some r8.toInt32))
set_option maxRecDepth 100000 in
theorem t_X12_within {l : Launch} {a0 : Int64} {S : AS} {r : Int32} (h : f_X12_within a0 S = some r) : ax_M l 1 ma_X12_within [.inl (.long a0)] S (some (.inl (.int r))) S := by
  unfold f_X12_within at h
  show ax_T l 1 ma_X12_within (0, [some (.inl (.long a0)), none], [], S) (some (.inl (.int r))) S
  refine ax_Tgo [.ldc2_w 138, .ldc2_w 140, .lload_n 0] (pc' := 7) (L' := [some (.inl (.long a0)), none]) (st' := [.inl (.long a0), .inl (.long (1000000 : Int64)), .inl (.long (-1000000 : Int64))]) (S' := S) ok_X12_within.1 (by decide +kernel) rfl rfl ?_
  obtain ⟨r4, hq2, h⟩ := ax_bd_e h
  refine ax_TSl (d := 0) [.inl (.long (1000000 : Int64)), .inl (.long a0)] [.inl (.long (-1000000 : Int64))] lk_X12_142 (by decide +kernel) rfl rfl (Nat.le_of_ble_eq_true rfl) (Nat.le_of_ble_eq_true rfl) ((t_J9_min_f86c9 hq2).up (by decide)) ?_
  obtain ⟨r8, hq6, h⟩ := ax_bd_e h
  refine ax_TSl (d := 0) [.inl (.long (-1000000 : Int64)), .inl (.long r4)] [] lk_X12_148 (by decide +kernel) rfl rfl (Nat.le_of_ble_eq_true rfl) (Nat.le_of_ble_eq_true rfl) ((t_J9_max_f86c9 hq6).up (by decide)) ?_
  refine ax_Tgo [.l2i] (pc' := 14) (L' := [some (.inl (.long a0)), none]) (st' := [.inl (.int r8.toInt32)]) (S' := S) ok_X12_within.1 (by decide +kernel) rfl rfl ?_
  cases h
  exact ax_Treti (by decide +kernel) rfl rfl
def f_X12_isSign (a0 : Int32) (S : AS) : Option (Int32) := (if a0 = (61 : Int32) then some (1 : Int32) else (if a0 = (60 : Int32) then some (1 : Int32) else (if a0 = (62 : Int32) then some (1 : Int32) else some (0 : Int32))))
set_option maxRecDepth 100000 in
theorem t_X12_isSign {l : Launch} {a0 : Int32} {S : AS} {r : Int32} (h : f_X12_isSign a0 S = some r) : ax_M l 0 ma_X12_isSign [.inl (.int a0)] S (some (.inl (.int r))) S := by
  unfold f_X12_isSign at h
  show ax_T l 0 ma_X12_isSign (0, [some (.inl (.int a0))], [], S) (some (.inl (.int r))) S
  refine ax_Tgo [.iload_n 0, .bipush 61] (pc' := 3) (L' := [some (.inl (.int a0))]) (st' := [.inl (.int (61 : Int32)), .inl (.int a0)]) (S' := S) ok_X12_isSign.1 (by decide +kernel) rfl rfl ?_
  refine ax_Tic_eq (off := 15) (tgt := 18) (by decide +kernel) (by decide) (fun c1 => ?_) (fun c1 => ?_)
  · rw [if_pos c1] at h
    refine ax_Tgo [.iconst 1] (pc' := 19) (L' := [some (.inl (.int a0))]) (st' := [.inl (.int (1 : Int32))]) (S' := S) ok_X12_isSign.1 (by decide +kernel) rfl rfl ?_
    refine ax_Tgoto (off := 4) (tgt := 23) (by decide +kernel) (by decide) ?_
    cases h
    exact ax_Treti (by decide +kernel) rfl rfl
  · rw [if_neg c1] at h
    refine ax_Tgo [.iload_n 0, .bipush 60] (pc' := 9) (L' := [some (.inl (.int a0))]) (st' := [.inl (.int (60 : Int32)), .inl (.int a0)]) (S' := S) ok_X12_isSign.1 (by decide +kernel) rfl rfl ?_
    refine ax_Tic_eq (off := 9) (tgt := 18) (by decide +kernel) (by decide) (fun c2 => ?_) (fun c2 => ?_)
    · rw [if_pos c2] at h
      refine ax_Tgo [.iconst 1] (pc' := 19) (L' := [some (.inl (.int a0))]) (st' := [.inl (.int (1 : Int32))]) (S' := S) ok_X12_isSign.1 (by decide +kernel) rfl rfl ?_
      refine ax_Tgoto (off := 4) (tgt := 23) (by decide +kernel) (by decide) ?_
      cases h
      exact ax_Treti (by decide +kernel) rfl rfl
    · rw [if_neg c2] at h
      refine ax_Tgo [.iload_n 0, .bipush 62] (pc' := 15) (L' := [some (.inl (.int a0))]) (st' := [.inl (.int (62 : Int32)), .inl (.int a0)]) (S' := S) ok_X12_isSign.1 (by decide +kernel) rfl rfl ?_
      refine ax_Tic_ne (off := 7) (tgt := 22) (by decide +kernel) (by decide) (fun c3 => ?_) (fun c3 => ?_)
      · rw [if_neg c3] at h
        refine ax_Tgo [.iconst 0] (pc' := 23) (L' := [some (.inl (.int a0))]) (st' := [.inl (.int (0 : Int32))]) (S' := S) ok_X12_isSign.1 (by decide +kernel) rfl rfl ?_
        cases h
        exact ax_Treti (by decide +kernel) rfl rfl
      · rw [if_pos c3] at h
        refine ax_Tgo [.iconst 1] (pc' := 19) (L' := [some (.inl (.int a0))]) (st' := [.inl (.int (1 : Int32))]) (S' := S) ok_X12_isSign.1 (by decide +kernel) rfl rfl ?_
        refine ax_Tgoto (off := 4) (tgt := 23) (by decide +kernel) (by decide) ?_
        cases h
        exact ax_Treti (by decide +kernel) rfl rfl
def f_X12_atom_L90 (rec : Nat → Int32 → Int32 → AS → Option (Int32 × AS)) : Nat → Int32 → Int32 → AS → Option (Int32 × AS)
  | 0, _, _, _ => none
  | n + 1, x16, x17, S18 => (f_X12_isDigit S18).bind (fun (r22 : Int32) => (if r22 = (0 : Int32) then some (x16, S18) else (if (ax_fi S18 12 0 11) = (Int32.ofInt (-1)) then (if x17 = (4 : Int32) then ax_bu (f_X12_fails S18) (fun (r33 : Int32) (S30 : AS) => some ((0 : Int32), S30)) else ax_gd (ax_in ((ax_fi S18 12 0 8) + (ax_fi S18 12 0 10)) (ax_ln S18 44 (ax_fx S18 12 0 5))) (ax_let ((((10 : Int32) * x16) + (ax_ai S18 44 (ax_fx S18 12 0 5) ((ax_fi S18 12 0 8) + (ax_fi S18 12 0 10)).toNatClampNeg)) - (48 : Int32)) (fun (v27 : Int32) => ax_let (ax_sfi S18 12 0 10 ((ax_fi S18 12 0 10) + (1 : Int32))) (fun (S28 : AS) => ax_let (x17 + (1 : Int32)) (fun (v29 : Int32) => f_X12_atom_L90 rec n v27 v29 S28))))) else some (x16, S18))))
def b_X12_atom (rec : Nat → Int32 → Int32 → AS → Option (Int32 × AS)) (S : AS) : Option (Int32 × AS) := ax_bu (f_X12_look S) (fun (r4 : Int32) (S1 : AS) => (f_X12_isAmong_64x3 r4 S1).bind (fun (r8 : Int32) => (if r8 = (0 : Int32) then (if r4 = (91 : Int32) then ax_bu (f_X12_goesIn S1) (fun (r43 : Int32) (S40 : AS) => (if r43 = (0 : Int32) then some ((0 : Int32), S40) else ax_bu (rec 2 (0 : Int32) (0 : Int32) S40) (fun (r48 : Int32) (S45 : AS) => ax_bu (f_X12_takes (93 : Int32) S45) (fun (r52 : Int32) (S49 : AS) => (if r52 = (0 : Int32) then some ((0 : Int32), S49) else ax_let (ax_sfi S49 12 0 12 ((ax_fi S49 12 0 12) - (1 : Int32))) (fun (S54 : AS) => some (r48, S54))))))) else (f_X12_isDigit S1).bind (fun (r14 : Int32) => (if r14 = (0 : Int32) then ax_bu (f_X12_fails S1) (fun (r37 : Int32) (S34 : AS) => f_X12_atom_L90 rec ax_F (0 : Int32) (0 : Int32) S34) else f_X12_atom_L90 rec ax_F (0 : Int32) (0 : Int32) S1))) else ax_let (ax_sfi S1 12 0 10 ((ax_fi S1 12 0 10) + (1 : Int32))) (fun (S55 : AS) => ax_gd (ax_in r4 128) (some ((ax_ai S55 46 0 r4.toNatClampNeg), S55))))))
def f_X12_term_L5 (rec : Nat → Int32 → Int32 → AS → Option (Int32 × AS)) (K94 : Int32 → AS → Option (Int32 × AS)) : Nat → Int32 → AS → Option (Int32 × AS)
  | 0, _, _ => none
  | n + 1, x5, S7 => (if (ax_fi S7 12 0 11) = (Int32.ofInt (-1)) then ax_bu (f_X12_look S7) (fun (r12 : Int32) (S9 : AS) => (if r12 = (42 : Int32) then ax_bu (f_X12_look S9) (fun (r17 : Int32) (S14 : AS) => ax_let (fun (x18 : Int32) (S19 : AS) => ax_let (ax_sfi S19 12 0 10 ((ax_fi S19 12 0 10) + (1 : Int32))) (fun (S21 : AS) => ax_bu (rec 0 (0 : Int32) (0 : Int32) S21) (fun (r25 : Int32) (S22 : AS) => ax_let (r25.toInt64) (fun (v26 : Int64) => (if x18 = (0 : Int32) then (if (lg_cmp v26 (0 : Int64)) = (0 : Int32) then (f_X12_within (0 : Int64) S22).bind (fun (r37 : Int32) => f_X12_term_L5 rec K94 n r37 S22) else ax_gd (ax_nzl v26) ((f_X12_within (x5.toInt64 / v26) S22).bind (fun (r33 : Int32) => f_X12_term_L5 rec K94 n r33 S22))) else (f_X12_within (x5.toInt64 * v26) S22).bind (fun (r41 : Int32) => f_X12_term_L5 rec K94 n r41 S22)))))) (fun J20 => (if r17 = (42 : Int32) then J20 (1 : Int32) S14 else J20 (0 : Int32) S14))) else ax_bu (f_X12_look S9) (fun (r46 : Int32) (S43 : AS) => (if r46 = (47 : Int32) then ax_bu (f_X12_look S43) (fun (r51 : Int32) (S48 : AS) => ax_let (fun (x52 : Int32) (S53 : AS) => ax_let (ax_sfi S53 12 0 10 ((ax_fi S53 12 0 10) + (1 : Int32))) (fun (S55 : AS) => ax_bu (rec 0 (0 : Int32) (0 : Int32) S55) (fun (r59 : Int32) (S56 : AS) => ax_let (r59.toInt64) (fun (v60 : Int64) => (if x52 = (0 : Int32) then (if (lg_cmp v60 (0 : Int64)) = (0 : Int32) then (f_X12_within (0 : Int64) S56).bind (fun (r71 : Int32) => f_X12_term_L5 rec K94 n r71 S56) else ax_gd (ax_nzl v60) ((f_X12_within (x5.toInt64 / v60) S56).bind (fun (r67 : Int32) => f_X12_term_L5 rec K94 n r67 S56))) else (f_X12_within (x5.toInt64 * v60) S56).bind (fun (r75 : Int32) => f_X12_term_L5 rec K94 n r75 S56)))))) (fun J54 => (if r51 = (42 : Int32) then J54 (1 : Int32) S48 else J54 (0 : Int32) S48))) else K94 x5 S43)))) else K94 x5 S7)
def b_X12_term (rec : Nat → Int32 → Int32 → AS → Option (Int32 × AS)) (S : AS) : Option (Int32 × AS) := ax_bu (rec 0 (0 : Int32) (0 : Int32) S) (fun (r4 : Int32) (S1 : AS) => f_X12_term_L5 rec (fun (x6 : Int32) (S77 : AS) => some (x6, S77)) ax_F r4 S1)
def f_X12_sum_L5 (rec : Nat → Int32 → Int32 → AS → Option (Int32 × AS)) (K84 : Int32 → AS → Option (Int32 × AS)) : Nat → Int32 → AS → Option (Int32 × AS)
  | 0, _, _ => none
  | n + 1, x5, S7 => (if (ax_fi S7 12 0 11) = (Int32.ofInt (-1)) then ax_bu (f_X12_look S7) (fun (r12 : Int32) (S9 : AS) => (if r12 = (43 : Int32) then ax_bu (f_X12_look S9) (fun (r17 : Int32) (S14 : AS) => ax_let (fun (x18 : Int32) (S19 : AS) => ax_let (ax_sfi S19 12 0 10 ((ax_fi S19 12 0 10) + (1 : Int32))) (fun (S21 : AS) => ax_bu (rec 1 (0 : Int32) (0 : Int32) S21) (fun (r25 : Int32) (S22 : AS) => ax_let (r25.toInt64) (fun (v26 : Int64) => (if x18 = (0 : Int32) then (f_X12_within (x5.toInt64 - v26) S22).bind (fun (r31 : Int32) => f_X12_sum_L5 rec K84 n r31 S22) else (f_X12_within (x5.toInt64 + v26) S22).bind (fun (r35 : Int32) => f_X12_sum_L5 rec K84 n r35 S22)))))) (fun J20 => (if r17 = (43 : Int32) then J20 (1 : Int32) S14 else J20 (0 : Int32) S14))) else ax_bu (f_X12_look S9) (fun (r40 : Int32) (S37 : AS) => (if r40 = (45 : Int32) then ax_bu (f_X12_look S37) (fun (r45 : Int32) (S42 : AS) => ax_let (fun (x46 : Int32) (S47 : AS) => ax_let (ax_sfi S47 12 0 10 ((ax_fi S47 12 0 10) + (1 : Int32))) (fun (S49 : AS) => ax_bu (rec 1 (0 : Int32) (0 : Int32) S49) (fun (r53 : Int32) (S50 : AS) => ax_let (r53.toInt64) (fun (v54 : Int64) => (if x46 = (0 : Int32) then (f_X12_within (x5.toInt64 - v54) S50).bind (fun (r59 : Int32) => f_X12_sum_L5 rec K84 n r59 S50) else (f_X12_within (x5.toInt64 + v54) S50).bind (fun (r63 : Int32) => f_X12_sum_L5 rec K84 n r63 S50)))))) (fun J48 => (if r45 = (43 : Int32) then J48 (1 : Int32) S42 else J48 (0 : Int32) S42))) else K84 x5 S37)))) else K84 x5 S7)
def b_X12_sum (rec : Nat → Int32 → Int32 → AS → Option (Int32 × AS)) (S : AS) : Option (Int32 × AS) := ax_bu (rec 1 (0 : Int32) (0 : Int32) S) (fun (r4 : Int32) (S1 : AS) => f_X12_sum_L5 rec (fun (x6 : Int32) (S65 : AS) => some (x6, S65)) ax_F r4 S1)
def b_X12_compares (rec : Nat → Int32 → Int32 → AS → Option (Int32 × AS)) (a1 : Int32) (a2 : Int32) (S : AS) : Option (Int32 × AS) := ax_let (fun (x1 : Int32) (S2 : AS) => (if (ax_fi S2 12 0 11) = (Int32.ofInt (-1)) then ax_bu (f_X12_look S2) (fun (r8 : Int32) (S5 : AS) => (f_X12_isSign r8 S5).bind (fun (r12 : Int32) => (if r12 = (0 : Int32) then ax_bu (f_X12_fails S5) (fun (r27 : Int32) (S24 : AS) => ax_gd (ax_bo r27) (some (r27, S24))) else ax_let (ax_sfi S5 12 0 10 ((ax_fi S5 12 0 10) + (1 : Int32))) (fun (S14 : AS) => ax_bu (rec 2 (0 : Int32) (0 : Int32) S14) (fun (r18 : Int32) (S15 : AS) => (if r8 = (61 : Int32) then (if x1 = r18 then some ((1 : Int32), S15) else some ((0 : Int32), S15)) else (if r8 = (60 : Int32) then (if r18 ≤ x1 then some ((0 : Int32), S15) else some ((1 : Int32), S15)) else (if x1 ≤ r18 then some ((0 : Int32), S15) else some ((1 : Int32), S15))))))))) else some ((0 : Int32), S2))) (fun J3 => (if a1 = (0 : Int32) then ax_bu (rec 2 (0 : Int32) (0 : Int32) S) (fun (r33 : Int32) (S30 : AS) => J3 r33 S30) else J3 a2 S))
def b_X12_unit (rec : Nat → Int32 → Int32 → AS → Option (Int32 × AS)) (S : AS) : Option (Int32 × AS) := ax_bu (f_X12_look S) (fun (r4 : Int32) (S1 : AS) => (if r4 = (33 : Int32) then ax_bu (f_X12_goesIn S1) (fun (r31 : Int32) (S28 : AS) => (if r31 = (0 : Int32) then some ((0 : Int32), S28) else ax_bu (rec 4 (0 : Int32) (0 : Int32) S28) (fun (r36 : Int32) (S33 : AS) => ax_let (ax_sfi S33 12 0 12 ((ax_fi S33 12 0 12) - (1 : Int32))) (fun (S37 : AS) => (if r36 = (0 : Int32) then some ((1 : Int32), S37) else some ((0 : Int32), S37)))))) else (if r4 = (40 : Int32) then ax_bu (f_X12_goesIn S1) (fun (r15 : Int32) (S12 : AS) => (if r15 = (0 : Int32) then some ((0 : Int32), S12) else ax_bu (rec 6 (0 : Int32) (0 : Int32) S12) (fun (r20 : Int32) (S17 : AS) => ax_bu (f_X12_takes (41 : Int32) S17) (fun (r24 : Int32) (S21 : AS) => (if r24 = (0 : Int32) then some ((0 : Int32), S21) else ax_let (ax_sfi S21 12 0 12 ((ax_fi S21 12 0 12) - (1 : Int32))) (fun (S26 : AS) => ax_gd (ax_bo r20) (some (r20, S26)))))))) else ax_bu (rec 3 (0 : Int32) (0 : Int32) S1) (fun (r10 : Int32) (S7 : AS) => ax_gd (ax_bo r10) (some (r10, S7))))))
def f_X12_part_L18 (rec : Nat → Int32 → Int32 → AS → Option (Int32 × AS)) (K69 : Int32 → AS → Option (Int32 × AS)) : Nat → Int32 → AS → Option (Int32 × AS)
  | 0, _, _ => none
  | n + 1, x6, S8 => (if (ax_fi S8 12 0 11) = (Int32.ofInt (-1)) then ax_bu (f_X12_look S8) (fun (r13 : Int32) (S10 : AS) => (if r13 = (38 : Int32) then ax_let (ax_sfi S10 12 0 10 ((ax_fi S10 12 0 10) + (1 : Int32))) (fun (S15 : AS) => ax_bu (rec 4 (0 : Int32) (0 : Int32) S15) (fun (r19 : Int32) (S16 : AS) => (if x6 = (0 : Int32) then f_X12_part_L18 rec K69 n (0 : Int32) S16 else (if r19 = (0 : Int32) then f_X12_part_L18 rec K69 n (0 : Int32) S16 else f_X12_part_L18 rec K69 n (1 : Int32) S16)))) else K69 x6 S10)) else K69 x6 S8)
def b_X12_part (rec : Nat → Int32 → Int32 → AS → Option (Int32 × AS)) (a1 : Int32) (a2 : Int32) (S : AS) : Option (Int32 × AS) := (if a1 = (0 : Int32) then ax_bu (rec 4 (0 : Int32) (0 : Int32) S) (fun (r5 : Int32) (S2 : AS) => f_X12_part_L18 rec (fun (x7 : Int32) (S22 : AS) => ax_gd (ax_bo x7) (some (x7, S22))) ax_F r5 S2) else ax_bu (rec 3 (1 : Int32) a2 S) (fun (r27 : Int32) (S24 : AS) => f_X12_part_L18 rec (fun (x7 : Int32) (S29 : AS) => ax_gd (ax_bo x7) (some (x7, S29))) ax_F r27 S24))
def f_X12_condition_L7 (rec : Nat → Int32 → Int32 → AS → Option (Int32 × AS)) (K60 : Int32 → AS → Option (Int32 × AS)) : Nat → Int32 → AS → Option (Int32 × AS)
  | 0, _, _ => none
  | n + 1, x5, S7 => (if (ax_fi S7 12 0 11) = (Int32.ofInt (-1)) then ax_bu (f_X12_look S7) (fun (r12 : Int32) (S9 : AS) => (if r12 = (124 : Int32) then ax_let (ax_sfi S9 12 0 10 ((ax_fi S9 12 0 10) + (1 : Int32))) (fun (S14 : AS) => ax_bu (rec 5 (0 : Int32) (0 : Int32) S14) (fun (r18 : Int32) (S15 : AS) => (if x5 = (0 : Int32) then (if r18 = (0 : Int32) then f_X12_condition_L7 rec K60 n (0 : Int32) S15 else f_X12_condition_L7 rec K60 n (1 : Int32) S15) else f_X12_condition_L7 rec K60 n (1 : Int32) S15))) else K60 x5 S9)) else K60 x5 S7)
def b_X12_condition (rec : Nat → Int32 → Int32 → AS → Option (Int32 × AS)) (a1 : Int32) (a2 : Int32) (S : AS) : Option (Int32 × AS) := ax_bu (rec 5 a1 a2 S) (fun (r4 : Int32) (S1 : AS) => f_X12_condition_L7 rec (fun (x6 : Int32) (S21 : AS) => ax_gd (ax_bo x6) (some (x6, S21))) ax_F r4 S1)
def g_Parse : Nat → Nat → Int32 → Int32 → AS → Option (Int32 × AS)
  | 0, _, _, _, _ => none
  | n + 1, 0, b0, b1, S => b_X12_atom (g_Parse n)  S
  | n + 1, 1, b0, b1, S => b_X12_term (g_Parse n)  S
  | n + 1, 2, b0, b1, S => b_X12_sum (g_Parse n)  S
  | n + 1, 3, b0, b1, S => b_X12_compares (g_Parse n) b0 b1 S
  | n + 1, 4, b0, b1, S => b_X12_unit (g_Parse n)  S
  | n + 1, 5, b0, b1, S => b_X12_part (g_Parse n) b0 b1 S
  | n + 1, 6, b0, b1, S => b_X12_condition (g_Parse n) b0 b1 S
  | _ + 1, _ + 7, _, _, _ => none
set_option maxRecDepth 100000 in
theorem t_X12_atom_L90 {l : Launch} {d : Nat} (hd : 5 ≤ d) {rec : Nat → Int32 → Int32 → AS → Option (Int32 × AS)} (hrec_0 : ∀ {S Z : AS} {r : Int32}, rec 0 (0 : Int32) (0 : Int32) S = some (r, Z) → ax_M l d ma_X12_atom [.inr (12, 0)] S (some (.inl (.int r))) Z) (hrec_1 : ∀ {S Z : AS} {r : Int32}, rec 1 (0 : Int32) (0 : Int32) S = some (r, Z) → ax_M l d ma_X12_term [.inr (12, 0)] S (some (.inl (.int r))) Z) (hrec_2 : ∀ {S Z : AS} {r : Int32}, rec 2 (0 : Int32) (0 : Int32) S = some (r, Z) → ax_M l d ma_X12_sum [.inr (12, 0)] S (some (.inl (.int r))) Z) (hrec_3 : ∀ {a1 : Int32} {a2 : Int32} {S Z : AS} {r : Int32}, rec 3 a1 a2 S = some (r, Z) → ax_M l d ma_X12_compares [.inr (12, 0), .inl (.int a1), .inl (.int a2)] S (some (.inl (.int r))) Z) (hrec_4 : ∀ {S Z : AS} {r : Int32}, rec 4 (0 : Int32) (0 : Int32) S = some (r, Z) → ax_M l d ma_X12_unit [.inr (12, 0)] S (some (.inl (.int r))) Z) (hrec_5 : ∀ {a1 : Int32} {a2 : Int32} {S Z : AS} {r : Int32}, rec 5 a1 a2 S = some (r, Z) → ax_M l d ma_X12_part [.inr (12, 0), .inl (.int a1), .inl (.int a2)] S (some (.inl (.int r))) Z) (hrec_6 : ∀ {a1 : Int32} {a2 : Int32} {S Z : AS} {r : Int32}, rec 6 a1 a2 S = some (r, Z) → ax_M l d ma_X12_condition [.inr (12, 0), .inl (.int a1), .inl (.int a2)] S (some (.inl (.int r))) Z) : ∀ (n : Nat) (x16 : Int32) (x17 : Int32) (S18 : AS) r Z, f_X12_atom_L90 rec n x16 x17 S18 = some (r, Z) → ax_T l (d + 1) ma_X12_atom (90, [some (.inr (12, 0)), none, some (.inl (.int x16)), some (.inl (.int x17))], [], S18) (some (.inl (.int r))) Z := by
  intro n
  induction n with
  | zero =>
    intro x16 x17 S18 r Z h
    cases h
  | succ n ih =>
    intro x16 x17 S18 r Z h
    unfold f_X12_atom_L90 at h
    refine ax_Tgo [.aload_n 0] (pc' := 91) (L' := [some (.inr (12, 0)), none, some (.inl (.int x16)), some (.inl (.int x17))]) (st' := [.inr (12, 0)]) (S' := S18) ok_X12_atom.1 (by decide +kernel) rfl rfl ?_
    obtain ⟨r22, hq20, h⟩ := ax_bd_e h
    refine ax_TVi (d := d) (ka := 12) (i := 0) [] [] lk_X12_165 (by decide +kernel) rfl (by decide) rfl (Nat.le_of_ble_eq_true rfl) (Nat.le_of_ble_eq_true rfl) ((t_X12_isDigit hq20).up (by omega)) ?_
    refine ax_Tif_eq (off := 62) (tgt := 156) (by decide +kernel) (by decide) (fun c23 => ?_) (fun c23 => ?_)
    · rw [if_pos c23] at h
      refine ax_Tgo [.iload_n 2] (pc' := 157) (L' := [some (.inr (12, 0)), none, some (.inl (.int x16)), some (.inl (.int x17))]) (st' := [.inl (.int x16)]) (S' := S18) ok_X12_atom.1 (by decide +kernel) rfl rfl ?_
      cases h
      exact ax_Treti (by decide +kernel) rfl rfl
    · rw [if_neg c23] at h
      refine ax_Tgo [.aload_n 0, .getfield 125, .iconst (-1)] (pc' := 102) (L' := [some (.inr (12, 0)), none, some (.inl (.int x16)), some (.inl (.int x17))]) (st' := [.inl (.int (Int32.ofInt (-1))), .inl (.int (ax_fi S18 12 0 11))]) (S' := S18) ok_X12_atom.1 (by decide +kernel) rfl rfl ?_
      refine ax_Tic_ne (off := 54) (tgt := 156) (by decide +kernel) (by decide) (fun c24 => ?_) (fun c24 => ?_)
      · rw [if_neg c24] at h
        refine ax_Tgo [.iload_n 2] (pc' := 157) (L' := [some (.inr (12, 0)), none, some (.inl (.int x16)), some (.inl (.int x17))]) (st' := [.inl (.int x16)]) (S' := S18) ok_X12_atom.1 (by decide +kernel) rfl rfl ?_
        cases h
        exact ax_Treti (by decide +kernel) rfl rfl
      · rw [if_pos c24] at h
        refine ax_Tgo [.iload_n 3, .iconst 4] (pc' := 107) (L' := [some (.inr (12, 0)), none, some (.inl (.int x16)), some (.inl (.int x17))]) (st' := [.inl (.int (4 : Int32)), .inl (.int x17)]) (S' := S18) ok_X12_atom.1 (by decide +kernel) rfl rfl ?_
        refine ax_Tic_ne (off := 10) (tgt := 117) (by decide +kernel) (by decide) (fun c25 => ?_) (fun c25 => ?_)
        · rw [if_neg c25] at h
          refine ax_Tgo [.bipush 10, .iload_n 2, .imul, .aload_n 0, .getfield 23, .aload_n 0, .getfield 122, .aload_n 0, .getfield 116, .iadd] (pc' := 134) (L' := [some (.inr (12, 0)), none, some (.inl (.int x16)), some (.inl (.int x17))]) (st' := [.inl (.int ((ax_fi S18 12 0 8) + (ax_fi S18 12 0 10))), .inr (44, (ax_fx S18 12 0 5)), .inl (.int ((10 : Int32) * x16))]) (S' := S18) ok_X12_atom.1 (by decide +kernel) rfl rfl ?_
          obtain ⟨g26, h⟩ := ax_gd_e h
          refine ax_Talb (n := (ax_ln S18 44 (ax_fx S18 12 0 5))) ok_X12_atom.1 (by decide +kernel) (by decide) rfl g26 ?_
          refine ax_Tgo [.iadd, .bipush 48, .isub, .istore_n 2] (pc' := 140) (L' := [some (.inr (12, 0)), none, some (.inl (.int ((((10 : Int32) * x16) + (ax_ai S18 44 (ax_fx S18 12 0 5) ((ax_fi S18 12 0 8) + (ax_fi S18 12 0 10)).toNatClampNeg)) - (48 : Int32)))), some (.inl (.int x17))]) (st' := []) (S' := S18) ok_X12_atom.1 (by decide +kernel) rfl rfl ?_
          obtain ⟨v27, ev27, h⟩ := ax_let_e h
          rw [ev27]
          refine ax_Tgo [.aload_n 0, .dup, .getfield 116, .iconst 1, .iadd, .putfield 116] (pc' := 150) (L' := [some (.inr (12, 0)), none, some (.inl (.int v27)), some (.inl (.int x17))]) (st' := []) (S' := (ax_sfi S18 12 0 10 ((ax_fi S18 12 0 10) + (1 : Int32)))) ok_X12_atom.1 (by decide +kernel) rfl rfl ?_
          obtain ⟨S28, eS28, h⟩ := ax_let_e h
          rw [eS28]
          refine ax_Tgo [.iinc 3 1] (pc' := 153) (L' := [some (.inr (12, 0)), none, some (.inl (.int v27)), some (.inl (.int (x17 + (1 : Int32))))]) (st' := []) (S' := S28) ok_X12_atom.1 (by decide +kernel) rfl rfl ?_
          obtain ⟨v29, ev29, h⟩ := ax_let_e h
          rw [ev29]
          refine ax_Tgoto (off := (-63)) (tgt := 90) (by decide +kernel) (by decide) ?_
          exact ih v27 v29 S28 _ _ h
        · rw [if_pos c25] at h
          refine ax_Tgo [.aload_n 0] (pc' := 111) (L' := [some (.inr (12, 0)), none, some (.inl (.int x16)), some (.inl (.int x17))]) (st' := [.inr (12, 0)]) (S' := S18) ok_X12_atom.1 (by decide +kernel) rfl rfl ?_
          obtain ⟨r33, S30, hq31, h⟩ := ax_bu_e h
          refine ax_TVi (d := d) (ka := 12) (i := 0) [] [] lk_X12_131 (by decide +kernel) rfl (by decide) rfl (Nat.le_of_ble_eq_true rfl) (Nat.le_of_ble_eq_true rfl) ((t_X12_fails hq31).up (by omega)) ?_
          refine ax_Tgo [.pop, .iconst 0] (pc' := 116) (L' := [some (.inr (12, 0)), none, some (.inl (.int x16)), some (.inl (.int x17))]) (st' := [.inl (.int (0 : Int32))]) (S' := S30) ok_X12_atom.1 (by decide +kernel) rfl rfl ?_
          cases h
          exact ax_Treti (by decide +kernel) rfl rfl
set_option maxRecDepth 100000 in
theorem tb_X12_atom {l : Launch} {d : Nat} (hd : 5 ≤ d) {rec : Nat → Int32 → Int32 → AS → Option (Int32 × AS)} (hrec_0 : ∀ {S Z : AS} {r : Int32}, rec 0 (0 : Int32) (0 : Int32) S = some (r, Z) → ax_M l d ma_X12_atom [.inr (12, 0)] S (some (.inl (.int r))) Z) (hrec_1 : ∀ {S Z : AS} {r : Int32}, rec 1 (0 : Int32) (0 : Int32) S = some (r, Z) → ax_M l d ma_X12_term [.inr (12, 0)] S (some (.inl (.int r))) Z) (hrec_2 : ∀ {S Z : AS} {r : Int32}, rec 2 (0 : Int32) (0 : Int32) S = some (r, Z) → ax_M l d ma_X12_sum [.inr (12, 0)] S (some (.inl (.int r))) Z) (hrec_3 : ∀ {a1 : Int32} {a2 : Int32} {S Z : AS} {r : Int32}, rec 3 a1 a2 S = some (r, Z) → ax_M l d ma_X12_compares [.inr (12, 0), .inl (.int a1), .inl (.int a2)] S (some (.inl (.int r))) Z) (hrec_4 : ∀ {S Z : AS} {r : Int32}, rec 4 (0 : Int32) (0 : Int32) S = some (r, Z) → ax_M l d ma_X12_unit [.inr (12, 0)] S (some (.inl (.int r))) Z) (hrec_5 : ∀ {a1 : Int32} {a2 : Int32} {S Z : AS} {r : Int32}, rec 5 a1 a2 S = some (r, Z) → ax_M l d ma_X12_part [.inr (12, 0), .inl (.int a1), .inl (.int a2)] S (some (.inl (.int r))) Z) (hrec_6 : ∀ {a1 : Int32} {a2 : Int32} {S Z : AS} {r : Int32}, rec 6 a1 a2 S = some (r, Z) → ax_M l d ma_X12_condition [.inr (12, 0), .inl (.int a1), .inl (.int a2)] S (some (.inl (.int r))) Z) {S Z : AS} {r : Int32} (h : b_X12_atom rec S = some (r, Z)) : ax_M l (d + 1) ma_X12_atom [.inr (12, 0)] S (some (.inl (.int r))) Z := by
  unfold b_X12_atom at h
  show ax_T l (d + 1) ma_X12_atom (0, [some (.inr (12, 0)), none, none, none], [], S) (some (.inl (.int r))) Z
  refine ax_Tgo [.aload_n 0] (pc' := 1) (L' := [some (.inr (12, 0)), none, none, none]) (st' := [.inr (12, 0)]) (S' := S) ok_X12_atom.1 (by decide +kernel) rfl rfl ?_
  obtain ⟨r4, S1, hq2, h⟩ := ax_bu_e h
  refine ax_TVi (d := d) (ka := 12) (i := 0) [] [] lk_X12_135 (by decide +kernel) rfl (by decide) rfl (Nat.le_of_ble_eq_true rfl) (Nat.le_of_ble_eq_true rfl) ((t_X12_look hq2).up (by omega)) ?_
  refine ax_Tgo [.istore_n 1, .ldc 32, .iload_n 1] (pc' := 8) (L' := [some (.inr (12, 0)), some (.inl (.int r4)), none, none]) (st' := [.inl (.int r4), .inr (64, 3)]) (S' := S1) ok_X12_atom.1 (by decide +kernel) rfl rfl ?_
  obtain ⟨r8, hq6, h⟩ := ax_bd_e h
  refine ax_TSi (d := d) [.inr (64, 3), .inl (.int r4)] [] lk_X12_151 (by decide +kernel) rfl rfl (Nat.le_of_ble_eq_true rfl) (Nat.le_of_ble_eq_true rfl) ((t_X12_isAmong_64x3 hq6).up (by omega)) ?_
  refine ax_Tif_eq (off := 20) (tgt := 31) (by decide +kernel) (by decide) (fun c9 => ?_) (fun c9 => ?_)
  · rw [if_pos c9] at h
    refine ax_Tgo [.iload_n 1, .bipush 91] (pc' := 34) (L' := [some (.inr (12, 0)), some (.inl (.int r4)), none, none]) (st' := [.inl (.int (91 : Int32)), .inl (.int r4)]) (S' := S1) ok_X12_atom.1 (by decide +kernel) rfl rfl ?_
    refine ax_Tic_ne (off := 40) (tgt := 74) (by decide +kernel) (by decide) (fun c10 => ?_) (fun c10 => ?_)
    · rw [if_neg c10] at h
      refine ax_Tgo [.aload_n 0] (pc' := 75) (L' := [some (.inr (12, 0)), some (.inl (.int r4)), none, none]) (st' := [.inr (12, 0)]) (S' := S1) ok_X12_atom.1 (by decide +kernel) rfl rfl ?_
      obtain ⟨r14, hq12, h⟩ := ax_bd_e h
      refine ax_TVi (d := d) (ka := 12) (i := 0) [] [] lk_X12_165 (by decide +kernel) rfl (by decide) rfl (Nat.le_of_ble_eq_true rfl) (Nat.le_of_ble_eq_true rfl) ((t_X12_isDigit hq12).up (by omega)) ?_
      refine ax_Tif_ne (off := 8) (tgt := 86) (by decide +kernel) (by decide) (fun c15 => ?_) (fun c15 => ?_)
      · rw [if_neg c15] at h
        refine ax_Tgo [.iconst 0, .istore_n 2, .iconst 0, .istore_n 3] (pc' := 90) (L' := [some (.inr (12, 0)), some (.inl (.int r4)), some (.inl (.int (0 : Int32))), some (.inl (.int (0 : Int32)))]) (st' := []) (S' := S1) ok_X12_atom.1 (by decide +kernel) rfl rfl ?_
        refine ax_Tdrop [true, false, true, true] (L' := [some (.inr (12, 0)), none, some (.inl (.int (0 : Int32))), some (.inl (.int (0 : Int32)))]) rfl ?_
        refine t_X12_atom_L90 hd hrec_0 hrec_1 hrec_2 hrec_3 hrec_4 hrec_5 hrec_6 _ (0 : Int32) (0 : Int32) S1 _ _ h
      · rw [if_pos c15] at h
        refine ax_Tgo [.aload_n 0] (pc' := 82) (L' := [some (.inr (12, 0)), some (.inl (.int r4)), none, none]) (st' := [.inr (12, 0)]) (S' := S1) ok_X12_atom.1 (by decide +kernel) rfl rfl ?_
        obtain ⟨r37, S34, hq35, h⟩ := ax_bu_e h
        refine ax_TVi (d := d) (ka := 12) (i := 0) [] [] lk_X12_131 (by decide +kernel) rfl (by decide) rfl (Nat.le_of_ble_eq_true rfl) (Nat.le_of_ble_eq_true rfl) ((t_X12_fails hq35).up (by omega)) ?_
        refine ax_Tgo [.pop, .iconst 0, .istore_n 2, .iconst 0, .istore_n 3] (pc' := 90) (L' := [some (.inr (12, 0)), some (.inl (.int r4)), some (.inl (.int (0 : Int32))), some (.inl (.int (0 : Int32)))]) (st' := []) (S' := S34) ok_X12_atom.1 (by decide +kernel) rfl rfl ?_
        refine ax_Tdrop [true, false, true, true] (L' := [some (.inr (12, 0)), none, some (.inl (.int (0 : Int32))), some (.inl (.int (0 : Int32)))]) rfl ?_
        refine t_X12_atom_L90 hd hrec_0 hrec_1 hrec_2 hrec_3 hrec_4 hrec_5 hrec_6 _ (0 : Int32) (0 : Int32) S34 _ _ h
    · rw [if_pos c10] at h
      refine ax_Tgo [.aload_n 0] (pc' := 38) (L' := [some (.inr (12, 0)), some (.inl (.int r4)), none, none]) (st' := [.inr (12, 0)]) (S' := S1) ok_X12_atom.1 (by decide +kernel) rfl rfl ?_
      obtain ⟨r43, S40, hq41, h⟩ := ax_bu_e h
      refine ax_TVi (d := d) (ka := 12) (i := 0) [] [] lk_X12_155 (by decide +kernel) rfl (by decide) rfl (Nat.le_of_ble_eq_true rfl) (Nat.le_of_ble_eq_true rfl) ((t_X12_goesIn hq41).up (by omega)) ?_
      refine ax_Tif_ne (off := 5) (tgt := 46) (by decide +kernel) (by decide) (fun c44 => ?_) (fun c44 => ?_)
      · rw [if_neg c44] at h
        refine ax_Tgo [.aload_n 0] (pc' := 47) (L' := [some (.inr (12, 0)), some (.inl (.int r4)), none, none]) (st' := [.inr (12, 0)]) (S' := S40) ok_X12_atom.1 (by decide +kernel) rfl rfl ?_
        obtain ⟨r48, S45, hq46, h⟩ := ax_bu_e h
        refine ax_TVi (d := d) (ka := 12) (i := 0) [] [] lk_X12_158 (by decide +kernel) rfl (by decide) rfl (Nat.le_of_ble_eq_true rfl) (Nat.le_of_ble_eq_true rfl) (hrec_2 hq46) ?_
        refine ax_Tgo [.istore_n 2, .aload_n 0, .bipush 93] (pc' := 54) (L' := [some (.inr (12, 0)), some (.inl (.int r4)), some (.inl (.int r48)), none]) (st' := [.inl (.int (93 : Int32)), .inr (12, 0)]) (S' := S45) ok_X12_atom.1 (by decide +kernel) rfl rfl ?_
        obtain ⟨r52, S49, hq50, h⟩ := ax_bu_e h
        refine ax_TVi (d := d) (ka := 12) (i := 0) [.inl (.int (93 : Int32))] [] lk_X12_161 (by decide +kernel) rfl (by decide) rfl (Nat.le_of_ble_eq_true rfl) (Nat.le_of_ble_eq_true rfl) ((t_X12_takes hq50).up (by omega)) ?_
        refine ax_Tif_ne (off := 5) (tgt := 62) (by decide +kernel) (by decide) (fun c53 => ?_) (fun c53 => ?_)
        · rw [if_neg c53] at h
          refine ax_Tgo [.aload_n 0, .dup, .getfield 128, .iconst 1, .isub, .putfield 128] (pc' := 72) (L' := [some (.inr (12, 0)), some (.inl (.int r4)), some (.inl (.int r48)), none]) (st' := []) (S' := (ax_sfi S49 12 0 12 ((ax_fi S49 12 0 12) - (1 : Int32)))) ok_X12_atom.1 (by decide +kernel) rfl rfl ?_
          obtain ⟨S54, eS54, h⟩ := ax_let_e h
          rw [eS54]
          refine ax_Tgo [.iload_n 2] (pc' := 73) (L' := [some (.inr (12, 0)), some (.inl (.int r4)), some (.inl (.int r48)), none]) (st' := [.inl (.int r48)]) (S' := S54) ok_X12_atom.1 (by decide +kernel) rfl rfl ?_
          cases h
          exact ax_Treti (by decide +kernel) rfl rfl
        · rw [if_pos c53] at h
          refine ax_Tgo [.iconst 0] (pc' := 61) (L' := [some (.inr (12, 0)), some (.inl (.int r4)), some (.inl (.int r48)), none]) (st' := [.inl (.int (0 : Int32))]) (S' := S49) ok_X12_atom.1 (by decide +kernel) rfl rfl ?_
          cases h
          exact ax_Treti (by decide +kernel) rfl rfl
      · rw [if_pos c44] at h
        refine ax_Tgo [.iconst 0] (pc' := 45) (L' := [some (.inr (12, 0)), some (.inl (.int r4)), none, none]) (st' := [.inl (.int (0 : Int32))]) (S' := S40) ok_X12_atom.1 (by decide +kernel) rfl rfl ?_
        cases h
        exact ax_Treti (by decide +kernel) rfl rfl
  · rw [if_neg c9] at h
    refine ax_Tgo [.aload_n 0, .dup, .getfield 116, .iconst 1, .iadd, .putfield 116] (pc' := 24) (L' := [some (.inr (12, 0)), some (.inl (.int r4)), none, none]) (st' := []) (S' := (ax_sfi S1 12 0 10 ((ax_fi S1 12 0 10) + (1 : Int32)))) ok_X12_atom.1 (by decide +kernel) rfl rfl ?_
    obtain ⟨S55, eS55, h⟩ := ax_let_e h
    rw [eS55]
    refine ax_Tgo [.aload_n 0, .getfield 20, .iload_n 1] (pc' := 29) (L' := [some (.inr (12, 0)), some (.inl (.int r4)), none, none]) (st' := [.inl (.int r4), .inr (46, 0)]) (S' := S55) ok_X12_atom.1 (by decide +kernel) rfl rfl ?_
    obtain ⟨g56, h⟩ := ax_gd_e h
    refine ax_Tali (n := 128) ok_X12_atom.1 (by decide +kernel) (by decide) rfl g56 ?_
    cases h
    exact ax_Treti (by decide +kernel) rfl rfl
set_option maxRecDepth 100000 in
theorem t_X12_term_L5 {l : Launch} {d : Nat} (hd : 5 ≤ d) {rec : Nat → Int32 → Int32 → AS → Option (Int32 × AS)} (hrec_0 : ∀ {S Z : AS} {r : Int32}, rec 0 (0 : Int32) (0 : Int32) S = some (r, Z) → ax_M l d ma_X12_atom [.inr (12, 0)] S (some (.inl (.int r))) Z) (hrec_1 : ∀ {S Z : AS} {r : Int32}, rec 1 (0 : Int32) (0 : Int32) S = some (r, Z) → ax_M l d ma_X12_term [.inr (12, 0)] S (some (.inl (.int r))) Z) (hrec_2 : ∀ {S Z : AS} {r : Int32}, rec 2 (0 : Int32) (0 : Int32) S = some (r, Z) → ax_M l d ma_X12_sum [.inr (12, 0)] S (some (.inl (.int r))) Z) (hrec_3 : ∀ {a1 : Int32} {a2 : Int32} {S Z : AS} {r : Int32}, rec 3 a1 a2 S = some (r, Z) → ax_M l d ma_X12_compares [.inr (12, 0), .inl (.int a1), .inl (.int a2)] S (some (.inl (.int r))) Z) (hrec_4 : ∀ {S Z : AS} {r : Int32}, rec 4 (0 : Int32) (0 : Int32) S = some (r, Z) → ax_M l d ma_X12_unit [.inr (12, 0)] S (some (.inl (.int r))) Z) (hrec_5 : ∀ {a1 : Int32} {a2 : Int32} {S Z : AS} {r : Int32}, rec 5 a1 a2 S = some (r, Z) → ax_M l d ma_X12_part [.inr (12, 0), .inl (.int a1), .inl (.int a2)] S (some (.inl (.int r))) Z) (hrec_6 : ∀ {a1 : Int32} {a2 : Int32} {S Z : AS} {r : Int32}, rec 6 a1 a2 S = some (r, Z) → ax_M l d ma_X12_condition [.inr (12, 0), .inl (.int a1), .inl (.int a2)] S (some (.inl (.int r))) Z) {K94 : Int32 → AS → Option (Int32 × AS)} (hK94 : ∀ (x6 : Int32) (S : AS) r Z, K94 x6 S = some (r, Z) → ax_T l (d + 1) ma_X12_term (94, [none, some (.inl (.int x6)), none, none, none], [], S) (some (.inl (.int r))) Z) : ∀ (n : Nat) (x5 : Int32) (S7 : AS) r Z, f_X12_term_L5 rec K94 n x5 S7 = some (r, Z) → ax_T l (d + 1) ma_X12_term (5, [some (.inr (12, 0)), some (.inl (.int x5)), none, none, none], [], S7) (some (.inl (.int r))) Z := by
  intro n
  induction n with
  | zero =>
    intro x5 S7 r Z h
    cases h
  | succ n ih =>
    intro x5 S7 r Z h
    unfold f_X12_term_L5 at h
    refine ax_Tgo [.aload_n 0, .getfield 125, .iconst (-1)] (pc' := 10) (L' := [some (.inr (12, 0)), some (.inl (.int x5)), none, none, none]) (st' := [.inl (.int (Int32.ofInt (-1))), .inl (.int (ax_fi S7 12 0 11))]) (S' := S7) ok_X12_term.1 (by decide +kernel) rfl rfl ?_
    refine ax_Tic_ne (off := 84) (tgt := 94) (by decide +kernel) (by decide) (fun c8 => ?_) (fun c8 => ?_)
    · rw [if_neg c8] at h
      refine ax_Tdrop [false, true, true, true, true] (L' := [none, some (.inl (.int x5)), none, none, none]) rfl ?_
      exact hK94 x5 S7 _ _ h
    · rw [if_pos c8] at h
      refine ax_Tgo [.aload_n 0] (pc' := 14) (L' := [some (.inr (12, 0)), some (.inl (.int x5)), none, none, none]) (st' := [.inr (12, 0)]) (S' := S7) ok_X12_term.1 (by decide +kernel) rfl rfl ?_
      obtain ⟨r12, S9, hq10, h⟩ := ax_bu_e h
      refine ax_TVi (d := d) (ka := 12) (i := 0) [] [] lk_X12_135 (by decide +kernel) rfl (by decide) rfl (Nat.le_of_ble_eq_true rfl) (Nat.le_of_ble_eq_true rfl) ((t_X12_look hq10).up (by omega)) ?_
      refine ax_Tgo [.bipush 42] (pc' := 19) (L' := [some (.inr (12, 0)), some (.inl (.int x5)), none, none, none]) (st' := [.inl (.int (42 : Int32)), .inl (.int r12)]) (S' := S9) ok_X12_term.1 (by decide +kernel) rfl rfl ?_
      refine ax_Tic_eq (off := 12) (tgt := 31) (by decide +kernel) (by decide) (fun c13 => ?_) (fun c13 => ?_)
      · rw [if_pos c13] at h
        refine ax_Tgo [.aload_n 0] (pc' := 32) (L' := [some (.inr (12, 0)), some (.inl (.int x5)), none, none, none]) (st' := [.inr (12, 0)]) (S' := S9) ok_X12_term.1 (by decide +kernel) rfl rfl ?_
        obtain ⟨r17, S14, hq15, h⟩ := ax_bu_e h
        refine ax_TVi (d := d) (ka := 12) (i := 0) [] [] lk_X12_135 (by decide +kernel) rfl (by decide) rfl (Nat.le_of_ble_eq_true rfl) (Nat.le_of_ble_eq_true rfl) ((t_X12_look hq15).up (by omega)) ?_
        refine ax_Tgo [.bipush 42] (pc' := 37) (L' := [some (.inr (12, 0)), some (.inl (.int x5)), none, none, none]) (st' := [.inl (.int (42 : Int32)), .inl (.int r17)]) (S' := S14) ok_X12_term.1 (by decide +kernel) rfl rfl ?_
        obtain ⟨J20, eJ20, h⟩ := ax_let_e h
        have hJ20 : ∀ (x18 : Int32) (S19 : AS) r Z, J20 x18 S19 = some (r, Z) → ax_T l (d + 1) ma_X12_term (45, [some (.inr (12, 0)), some (.inl (.int x5)), none, none, none], [.inl (.int x18)], S19) (some (.inl (.int r))) Z := by
          intro x18 S19 r Z h
          rw [← eJ20] at h
          try dsimp only at h
          refine ax_Tgo [.istore_n 2, .aload_n 0, .dup, .getfield 116, .iconst 1, .iadd, .putfield 116] (pc' := 56) (L' := [some (.inr (12, 0)), some (.inl (.int x5)), some (.inl (.int x18)), none, none]) (st' := []) (S' := (ax_sfi S19 12 0 10 ((ax_fi S19 12 0 10) + (1 : Int32)))) ok_X12_term.1 (by decide +kernel) rfl rfl ?_
          obtain ⟨S21, eS21, h⟩ := ax_let_e h
          rw [eS21]
          refine ax_Tgo [.aload_n 0] (pc' := 57) (L' := [some (.inr (12, 0)), some (.inl (.int x5)), some (.inl (.int x18)), none, none]) (st' := [.inr (12, 0)]) (S' := S21) ok_X12_term.1 (by decide +kernel) rfl rfl ?_
          obtain ⟨r25, S22, hq23, h⟩ := ax_bu_e h
          refine ax_TVi (d := d) (ka := 12) (i := 0) [] [] lk_X12_168 (by decide +kernel) rfl (by decide) rfl (Nat.le_of_ble_eq_true rfl) (Nat.le_of_ble_eq_true rfl) (hrec_0 hq23) ?_
          refine ax_Tgo [.i2l, .lstore_n 3] (pc' := 62) (L' := [some (.inr (12, 0)), some (.inl (.int x5)), some (.inl (.int x18)), some (.inl (.long r25.toInt64)), none]) (st' := []) (S' := S22) ok_X12_term.1 (by decide +kernel) rfl rfl ?_
          obtain ⟨v26, ev26, h⟩ := ax_let_e h
          rw [ev26]
          refine ax_Tgo [.iload_n 2] (pc' := 63) (L' := [some (.inr (12, 0)), some (.inl (.int x5)), some (.inl (.int x18)), some (.inl (.long v26)), none]) (st' := [.inl (.int x18)]) (S' := S22) ok_X12_term.1 (by decide +kernel) rfl rfl ?_
          refine ax_Tif_eq (off := 10) (tgt := 73) (by decide +kernel) (by decide) (fun c27 => ?_) (fun c27 => ?_)
          · rw [if_pos c27] at h
            refine ax_Tgo [.lload_n 3, .lconst 0, .lcmp] (pc' := 76) (L' := [some (.inr (12, 0)), some (.inl (.int x5)), some (.inl (.int x18)), some (.inl (.long v26)), none]) (st' := [.inl (.int (lg_cmp v26 (0 : Int64)))]) (S' := S22) ok_X12_term.1 (by decide +kernel) rfl rfl ?_
            refine ax_Tif_ne (off := 7) (tgt := 83) (by decide +kernel) (by decide) (fun c28 => ?_) (fun c28 => ?_)
            · rw [if_neg c28] at h
              refine ax_Tgo [.iload_n 1, .i2l, .lload_n 3] (pc' := 86) (L' := [some (.inr (12, 0)), some (.inl (.int x5)), some (.inl (.int x18)), some (.inl (.long v26)), none]) (st' := [.inl (.long v26), .inl (.long x5.toInt64)]) (S' := S22) ok_X12_term.1 (by decide +kernel) rfl rfl ?_
              obtain ⟨g29, h⟩ := ax_gd_e h
              refine ax_Tldiv ok_X12_term.1 (by decide +kernel) g29 ?_
              obtain ⟨r33, hq31, h⟩ := ax_bd_e h
              refine ax_TSi (d := d) [.inl (.long (x5.toInt64 / v26))] [] lk_X12_171 (by decide +kernel) rfl rfl (Nat.le_of_ble_eq_true rfl) (Nat.le_of_ble_eq_true rfl) ((t_X12_within hq31).up (by omega)) ?_
              refine ax_Tgo [.istore_n 1] (pc' := 91) (L' := [some (.inr (12, 0)), some (.inl (.int r33)), some (.inl (.int x18)), some (.inl (.long v26)), none]) (st' := []) (S' := S22) ok_X12_term.1 (by decide +kernel) rfl rfl ?_
              refine ax_Tgoto (off := (-86)) (tgt := 5) (by decide +kernel) (by decide) ?_
              refine ax_Tdrop [true, true, false, false, true] (L' := [some (.inr (12, 0)), some (.inl (.int r33)), none, none, none]) rfl ?_
              exact ih r33 S22 _ _ h
            · rw [if_pos c28] at h
              refine ax_Tgo [.lconst 0] (pc' := 80) (L' := [some (.inr (12, 0)), some (.inl (.int x5)), some (.inl (.int x18)), some (.inl (.long v26)), none]) (st' := [.inl (.long (0 : Int64))]) (S' := S22) ok_X12_term.1 (by decide +kernel) rfl rfl ?_
              refine ax_Tgoto (off := 7) (tgt := 87) (by decide +kernel) (by decide) ?_
              obtain ⟨r37, hq35, h⟩ := ax_bd_e h
              refine ax_TSi (d := d) [.inl (.long (0 : Int64))] [] lk_X12_171 (by decide +kernel) rfl rfl (Nat.le_of_ble_eq_true rfl) (Nat.le_of_ble_eq_true rfl) ((t_X12_within hq35).up (by omega)) ?_
              refine ax_Tgo [.istore_n 1] (pc' := 91) (L' := [some (.inr (12, 0)), some (.inl (.int r37)), some (.inl (.int x18)), some (.inl (.long v26)), none]) (st' := []) (S' := S22) ok_X12_term.1 (by decide +kernel) rfl rfl ?_
              refine ax_Tgoto (off := (-86)) (tgt := 5) (by decide +kernel) (by decide) ?_
              refine ax_Tdrop [true, true, false, false, true] (L' := [some (.inr (12, 0)), some (.inl (.int r37)), none, none, none]) rfl ?_
              exact ih r37 S22 _ _ h
          · rw [if_neg c27] at h
            refine ax_Tgo [.iload_n 1, .i2l, .lload_n 3, .lmul] (pc' := 70) (L' := [some (.inr (12, 0)), some (.inl (.int x5)), some (.inl (.int x18)), some (.inl (.long v26)), none]) (st' := [.inl (.long (x5.toInt64 * v26))]) (S' := S22) ok_X12_term.1 (by decide +kernel) rfl rfl ?_
            refine ax_Tgoto (off := 17) (tgt := 87) (by decide +kernel) (by decide) ?_
            obtain ⟨r41, hq39, h⟩ := ax_bd_e h
            refine ax_TSi (d := d) [.inl (.long (x5.toInt64 * v26))] [] lk_X12_171 (by decide +kernel) rfl rfl (Nat.le_of_ble_eq_true rfl) (Nat.le_of_ble_eq_true rfl) ((t_X12_within hq39).up (by omega)) ?_
            refine ax_Tgo [.istore_n 1] (pc' := 91) (L' := [some (.inr (12, 0)), some (.inl (.int r41)), some (.inl (.int x18)), some (.inl (.long v26)), none]) (st' := []) (S' := S22) ok_X12_term.1 (by decide +kernel) rfl rfl ?_
            refine ax_Tgoto (off := (-86)) (tgt := 5) (by decide +kernel) (by decide) ?_
            refine ax_Tdrop [true, true, false, false, true] (L' := [some (.inr (12, 0)), some (.inl (.int r41)), none, none, none]) rfl ?_
            exact ih r41 S22 _ _ h
        refine ax_Tic_ne (off := 7) (tgt := 44) (by decide +kernel) (by decide) (fun c42 => ?_) (fun c42 => ?_)
        · rw [if_neg c42] at h
          refine ax_Tgo [.iconst 0] (pc' := 45) (L' := [some (.inr (12, 0)), some (.inl (.int x5)), none, none, none]) (st' := [.inl (.int (0 : Int32))]) (S' := S14) ok_X12_term.1 (by decide +kernel) rfl rfl ?_
          exact hJ20 (0 : Int32) S14 _ _ h
        · rw [if_pos c42] at h
          refine ax_Tgo [.iconst 1] (pc' := 41) (L' := [some (.inr (12, 0)), some (.inl (.int x5)), none, none, none]) (st' := [.inl (.int (1 : Int32))]) (S' := S14) ok_X12_term.1 (by decide +kernel) rfl rfl ?_
          refine ax_Tgoto (off := 4) (tgt := 45) (by decide +kernel) (by decide) ?_
          exact hJ20 (1 : Int32) S14 _ _ h
      · rw [if_neg c13] at h
        refine ax_Tgo [.aload_n 0] (pc' := 23) (L' := [some (.inr (12, 0)), some (.inl (.int x5)), none, none, none]) (st' := [.inr (12, 0)]) (S' := S9) ok_X12_term.1 (by decide +kernel) rfl rfl ?_
        obtain ⟨r46, S43, hq44, h⟩ := ax_bu_e h
        refine ax_TVi (d := d) (ka := 12) (i := 0) [] [] lk_X12_135 (by decide +kernel) rfl (by decide) rfl (Nat.le_of_ble_eq_true rfl) (Nat.le_of_ble_eq_true rfl) ((t_X12_look hq44).up (by omega)) ?_
        refine ax_Tgo [.bipush 47] (pc' := 28) (L' := [some (.inr (12, 0)), some (.inl (.int x5)), none, none, none]) (st' := [.inl (.int (47 : Int32)), .inl (.int r46)]) (S' := S43) ok_X12_term.1 (by decide +kernel) rfl rfl ?_
        refine ax_Tic_ne (off := 66) (tgt := 94) (by decide +kernel) (by decide) (fun c47 => ?_) (fun c47 => ?_)
        · rw [if_neg c47] at h
          refine ax_Tdrop [false, true, true, true, true] (L' := [none, some (.inl (.int x5)), none, none, none]) rfl ?_
          exact hK94 x5 S43 _ _ h
        · rw [if_pos c47] at h
          refine ax_Tgo [.aload_n 0] (pc' := 32) (L' := [some (.inr (12, 0)), some (.inl (.int x5)), none, none, none]) (st' := [.inr (12, 0)]) (S' := S43) ok_X12_term.1 (by decide +kernel) rfl rfl ?_
          obtain ⟨r51, S48, hq49, h⟩ := ax_bu_e h
          refine ax_TVi (d := d) (ka := 12) (i := 0) [] [] lk_X12_135 (by decide +kernel) rfl (by decide) rfl (Nat.le_of_ble_eq_true rfl) (Nat.le_of_ble_eq_true rfl) ((t_X12_look hq49).up (by omega)) ?_
          refine ax_Tgo [.bipush 42] (pc' := 37) (L' := [some (.inr (12, 0)), some (.inl (.int x5)), none, none, none]) (st' := [.inl (.int (42 : Int32)), .inl (.int r51)]) (S' := S48) ok_X12_term.1 (by decide +kernel) rfl rfl ?_
          obtain ⟨J54, eJ54, h⟩ := ax_let_e h
          have hJ54 : ∀ (x52 : Int32) (S53 : AS) r Z, J54 x52 S53 = some (r, Z) → ax_T l (d + 1) ma_X12_term (45, [some (.inr (12, 0)), some (.inl (.int x5)), none, none, none], [.inl (.int x52)], S53) (some (.inl (.int r))) Z := by
            intro x52 S53 r Z h
            rw [← eJ54] at h
            try dsimp only at h
            refine ax_Tgo [.istore_n 2, .aload_n 0, .dup, .getfield 116, .iconst 1, .iadd, .putfield 116] (pc' := 56) (L' := [some (.inr (12, 0)), some (.inl (.int x5)), some (.inl (.int x52)), none, none]) (st' := []) (S' := (ax_sfi S53 12 0 10 ((ax_fi S53 12 0 10) + (1 : Int32)))) ok_X12_term.1 (by decide +kernel) rfl rfl ?_
            obtain ⟨S55, eS55, h⟩ := ax_let_e h
            rw [eS55]
            refine ax_Tgo [.aload_n 0] (pc' := 57) (L' := [some (.inr (12, 0)), some (.inl (.int x5)), some (.inl (.int x52)), none, none]) (st' := [.inr (12, 0)]) (S' := S55) ok_X12_term.1 (by decide +kernel) rfl rfl ?_
            obtain ⟨r59, S56, hq57, h⟩ := ax_bu_e h
            refine ax_TVi (d := d) (ka := 12) (i := 0) [] [] lk_X12_168 (by decide +kernel) rfl (by decide) rfl (Nat.le_of_ble_eq_true rfl) (Nat.le_of_ble_eq_true rfl) (hrec_0 hq57) ?_
            refine ax_Tgo [.i2l, .lstore_n 3] (pc' := 62) (L' := [some (.inr (12, 0)), some (.inl (.int x5)), some (.inl (.int x52)), some (.inl (.long r59.toInt64)), none]) (st' := []) (S' := S56) ok_X12_term.1 (by decide +kernel) rfl rfl ?_
            obtain ⟨v60, ev60, h⟩ := ax_let_e h
            rw [ev60]
            refine ax_Tgo [.iload_n 2] (pc' := 63) (L' := [some (.inr (12, 0)), some (.inl (.int x5)), some (.inl (.int x52)), some (.inl (.long v60)), none]) (st' := [.inl (.int x52)]) (S' := S56) ok_X12_term.1 (by decide +kernel) rfl rfl ?_
            refine ax_Tif_eq (off := 10) (tgt := 73) (by decide +kernel) (by decide) (fun c61 => ?_) (fun c61 => ?_)
            · rw [if_pos c61] at h
              refine ax_Tgo [.lload_n 3, .lconst 0, .lcmp] (pc' := 76) (L' := [some (.inr (12, 0)), some (.inl (.int x5)), some (.inl (.int x52)), some (.inl (.long v60)), none]) (st' := [.inl (.int (lg_cmp v60 (0 : Int64)))]) (S' := S56) ok_X12_term.1 (by decide +kernel) rfl rfl ?_
              refine ax_Tif_ne (off := 7) (tgt := 83) (by decide +kernel) (by decide) (fun c62 => ?_) (fun c62 => ?_)
              · rw [if_neg c62] at h
                refine ax_Tgo [.iload_n 1, .i2l, .lload_n 3] (pc' := 86) (L' := [some (.inr (12, 0)), some (.inl (.int x5)), some (.inl (.int x52)), some (.inl (.long v60)), none]) (st' := [.inl (.long v60), .inl (.long x5.toInt64)]) (S' := S56) ok_X12_term.1 (by decide +kernel) rfl rfl ?_
                obtain ⟨g63, h⟩ := ax_gd_e h
                refine ax_Tldiv ok_X12_term.1 (by decide +kernel) g63 ?_
                obtain ⟨r67, hq65, h⟩ := ax_bd_e h
                refine ax_TSi (d := d) [.inl (.long (x5.toInt64 / v60))] [] lk_X12_171 (by decide +kernel) rfl rfl (Nat.le_of_ble_eq_true rfl) (Nat.le_of_ble_eq_true rfl) ((t_X12_within hq65).up (by omega)) ?_
                refine ax_Tgo [.istore_n 1] (pc' := 91) (L' := [some (.inr (12, 0)), some (.inl (.int r67)), some (.inl (.int x52)), some (.inl (.long v60)), none]) (st' := []) (S' := S56) ok_X12_term.1 (by decide +kernel) rfl rfl ?_
                refine ax_Tgoto (off := (-86)) (tgt := 5) (by decide +kernel) (by decide) ?_
                refine ax_Tdrop [true, true, false, false, true] (L' := [some (.inr (12, 0)), some (.inl (.int r67)), none, none, none]) rfl ?_
                exact ih r67 S56 _ _ h
              · rw [if_pos c62] at h
                refine ax_Tgo [.lconst 0] (pc' := 80) (L' := [some (.inr (12, 0)), some (.inl (.int x5)), some (.inl (.int x52)), some (.inl (.long v60)), none]) (st' := [.inl (.long (0 : Int64))]) (S' := S56) ok_X12_term.1 (by decide +kernel) rfl rfl ?_
                refine ax_Tgoto (off := 7) (tgt := 87) (by decide +kernel) (by decide) ?_
                obtain ⟨r71, hq69, h⟩ := ax_bd_e h
                refine ax_TSi (d := d) [.inl (.long (0 : Int64))] [] lk_X12_171 (by decide +kernel) rfl rfl (Nat.le_of_ble_eq_true rfl) (Nat.le_of_ble_eq_true rfl) ((t_X12_within hq69).up (by omega)) ?_
                refine ax_Tgo [.istore_n 1] (pc' := 91) (L' := [some (.inr (12, 0)), some (.inl (.int r71)), some (.inl (.int x52)), some (.inl (.long v60)), none]) (st' := []) (S' := S56) ok_X12_term.1 (by decide +kernel) rfl rfl ?_
                refine ax_Tgoto (off := (-86)) (tgt := 5) (by decide +kernel) (by decide) ?_
                refine ax_Tdrop [true, true, false, false, true] (L' := [some (.inr (12, 0)), some (.inl (.int r71)), none, none, none]) rfl ?_
                exact ih r71 S56 _ _ h
            · rw [if_neg c61] at h
              refine ax_Tgo [.iload_n 1, .i2l, .lload_n 3, .lmul] (pc' := 70) (L' := [some (.inr (12, 0)), some (.inl (.int x5)), some (.inl (.int x52)), some (.inl (.long v60)), none]) (st' := [.inl (.long (x5.toInt64 * v60))]) (S' := S56) ok_X12_term.1 (by decide +kernel) rfl rfl ?_
              refine ax_Tgoto (off := 17) (tgt := 87) (by decide +kernel) (by decide) ?_
              obtain ⟨r75, hq73, h⟩ := ax_bd_e h
              refine ax_TSi (d := d) [.inl (.long (x5.toInt64 * v60))] [] lk_X12_171 (by decide +kernel) rfl rfl (Nat.le_of_ble_eq_true rfl) (Nat.le_of_ble_eq_true rfl) ((t_X12_within hq73).up (by omega)) ?_
              refine ax_Tgo [.istore_n 1] (pc' := 91) (L' := [some (.inr (12, 0)), some (.inl (.int r75)), some (.inl (.int x52)), some (.inl (.long v60)), none]) (st' := []) (S' := S56) ok_X12_term.1 (by decide +kernel) rfl rfl ?_
              refine ax_Tgoto (off := (-86)) (tgt := 5) (by decide +kernel) (by decide) ?_
              refine ax_Tdrop [true, true, false, false, true] (L' := [some (.inr (12, 0)), some (.inl (.int r75)), none, none, none]) rfl ?_
              exact ih r75 S56 _ _ h
          refine ax_Tic_ne (off := 7) (tgt := 44) (by decide +kernel) (by decide) (fun c76 => ?_) (fun c76 => ?_)
          · rw [if_neg c76] at h
            refine ax_Tgo [.iconst 0] (pc' := 45) (L' := [some (.inr (12, 0)), some (.inl (.int x5)), none, none, none]) (st' := [.inl (.int (0 : Int32))]) (S' := S48) ok_X12_term.1 (by decide +kernel) rfl rfl ?_
            exact hJ54 (0 : Int32) S48 _ _ h
          · rw [if_pos c76] at h
            refine ax_Tgo [.iconst 1] (pc' := 41) (L' := [some (.inr (12, 0)), some (.inl (.int x5)), none, none, none]) (st' := [.inl (.int (1 : Int32))]) (S' := S48) ok_X12_term.1 (by decide +kernel) rfl rfl ?_
            refine ax_Tgoto (off := 4) (tgt := 45) (by decide +kernel) (by decide) ?_
            exact hJ54 (1 : Int32) S48 _ _ h
set_option maxRecDepth 100000 in
theorem tb_X12_term {l : Launch} {d : Nat} (hd : 5 ≤ d) {rec : Nat → Int32 → Int32 → AS → Option (Int32 × AS)} (hrec_0 : ∀ {S Z : AS} {r : Int32}, rec 0 (0 : Int32) (0 : Int32) S = some (r, Z) → ax_M l d ma_X12_atom [.inr (12, 0)] S (some (.inl (.int r))) Z) (hrec_1 : ∀ {S Z : AS} {r : Int32}, rec 1 (0 : Int32) (0 : Int32) S = some (r, Z) → ax_M l d ma_X12_term [.inr (12, 0)] S (some (.inl (.int r))) Z) (hrec_2 : ∀ {S Z : AS} {r : Int32}, rec 2 (0 : Int32) (0 : Int32) S = some (r, Z) → ax_M l d ma_X12_sum [.inr (12, 0)] S (some (.inl (.int r))) Z) (hrec_3 : ∀ {a1 : Int32} {a2 : Int32} {S Z : AS} {r : Int32}, rec 3 a1 a2 S = some (r, Z) → ax_M l d ma_X12_compares [.inr (12, 0), .inl (.int a1), .inl (.int a2)] S (some (.inl (.int r))) Z) (hrec_4 : ∀ {S Z : AS} {r : Int32}, rec 4 (0 : Int32) (0 : Int32) S = some (r, Z) → ax_M l d ma_X12_unit [.inr (12, 0)] S (some (.inl (.int r))) Z) (hrec_5 : ∀ {a1 : Int32} {a2 : Int32} {S Z : AS} {r : Int32}, rec 5 a1 a2 S = some (r, Z) → ax_M l d ma_X12_part [.inr (12, 0), .inl (.int a1), .inl (.int a2)] S (some (.inl (.int r))) Z) (hrec_6 : ∀ {a1 : Int32} {a2 : Int32} {S Z : AS} {r : Int32}, rec 6 a1 a2 S = some (r, Z) → ax_M l d ma_X12_condition [.inr (12, 0), .inl (.int a1), .inl (.int a2)] S (some (.inl (.int r))) Z) {S Z : AS} {r : Int32} (h : b_X12_term rec S = some (r, Z)) : ax_M l (d + 1) ma_X12_term [.inr (12, 0)] S (some (.inl (.int r))) Z := by
  unfold b_X12_term at h
  show ax_T l (d + 1) ma_X12_term (0, [some (.inr (12, 0)), none, none, none, none], [], S) (some (.inl (.int r))) Z
  refine ax_Tgo [.aload_n 0] (pc' := 1) (L' := [some (.inr (12, 0)), none, none, none, none]) (st' := [.inr (12, 0)]) (S' := S) ok_X12_term.1 (by decide +kernel) rfl rfl ?_
  obtain ⟨r4, S1, hq2, h⟩ := ax_bu_e h
  refine ax_TVi (d := d) (ka := 12) (i := 0) [] [] lk_X12_168 (by decide +kernel) rfl (by decide) rfl (Nat.le_of_ble_eq_true rfl) (Nat.le_of_ble_eq_true rfl) (hrec_0 hq2) ?_
  refine ax_Tgo [.istore_n 1] (pc' := 5) (L' := [some (.inr (12, 0)), some (.inl (.int r4)), none, none, none]) (st' := []) (S' := S1) ok_X12_term.1 (by decide +kernel) rfl rfl ?_
  refine t_X12_term_L5 hd hrec_0 hrec_1 hrec_2 hrec_3 hrec_4 hrec_5 hrec_6 ?_ _ r4 S1 _ _ h
  · intro x6 S77 r Z h
    refine ax_Tgo [.iload_n 1] (pc' := 95) (L' := [none, some (.inl (.int x6)), none, none, none]) (st' := [.inl (.int x6)]) (S' := S77) ok_X12_term.1 (by decide +kernel) rfl rfl ?_
    cases h
    exact ax_Treti (by decide +kernel) rfl rfl
set_option maxRecDepth 100000 in
theorem t_X12_sum_L5 {l : Launch} {d : Nat} (hd : 5 ≤ d) {rec : Nat → Int32 → Int32 → AS → Option (Int32 × AS)} (hrec_0 : ∀ {S Z : AS} {r : Int32}, rec 0 (0 : Int32) (0 : Int32) S = some (r, Z) → ax_M l d ma_X12_atom [.inr (12, 0)] S (some (.inl (.int r))) Z) (hrec_1 : ∀ {S Z : AS} {r : Int32}, rec 1 (0 : Int32) (0 : Int32) S = some (r, Z) → ax_M l d ma_X12_term [.inr (12, 0)] S (some (.inl (.int r))) Z) (hrec_2 : ∀ {S Z : AS} {r : Int32}, rec 2 (0 : Int32) (0 : Int32) S = some (r, Z) → ax_M l d ma_X12_sum [.inr (12, 0)] S (some (.inl (.int r))) Z) (hrec_3 : ∀ {a1 : Int32} {a2 : Int32} {S Z : AS} {r : Int32}, rec 3 a1 a2 S = some (r, Z) → ax_M l d ma_X12_compares [.inr (12, 0), .inl (.int a1), .inl (.int a2)] S (some (.inl (.int r))) Z) (hrec_4 : ∀ {S Z : AS} {r : Int32}, rec 4 (0 : Int32) (0 : Int32) S = some (r, Z) → ax_M l d ma_X12_unit [.inr (12, 0)] S (some (.inl (.int r))) Z) (hrec_5 : ∀ {a1 : Int32} {a2 : Int32} {S Z : AS} {r : Int32}, rec 5 a1 a2 S = some (r, Z) → ax_M l d ma_X12_part [.inr (12, 0), .inl (.int a1), .inl (.int a2)] S (some (.inl (.int r))) Z) (hrec_6 : ∀ {a1 : Int32} {a2 : Int32} {S Z : AS} {r : Int32}, rec 6 a1 a2 S = some (r, Z) → ax_M l d ma_X12_condition [.inr (12, 0), .inl (.int a1), .inl (.int a2)] S (some (.inl (.int r))) Z) {K84 : Int32 → AS → Option (Int32 × AS)} (hK84 : ∀ (x6 : Int32) (S : AS) r Z, K84 x6 S = some (r, Z) → ax_T l (d + 1) ma_X12_sum (84, [none, some (.inl (.int x6)), none, none, none], [], S) (some (.inl (.int r))) Z) : ∀ (n : Nat) (x5 : Int32) (S7 : AS) r Z, f_X12_sum_L5 rec K84 n x5 S7 = some (r, Z) → ax_T l (d + 1) ma_X12_sum (5, [some (.inr (12, 0)), some (.inl (.int x5)), none, none, none], [], S7) (some (.inl (.int r))) Z := by
  intro n
  induction n with
  | zero =>
    intro x5 S7 r Z h
    cases h
  | succ n ih =>
    intro x5 S7 r Z h
    unfold f_X12_sum_L5 at h
    refine ax_Tgo [.aload_n 0, .getfield 125, .iconst (-1)] (pc' := 10) (L' := [some (.inr (12, 0)), some (.inl (.int x5)), none, none, none]) (st' := [.inl (.int (Int32.ofInt (-1))), .inl (.int (ax_fi S7 12 0 11))]) (S' := S7) ok_X12_sum.1 (by decide +kernel) rfl rfl ?_
    refine ax_Tic_ne (off := 74) (tgt := 84) (by decide +kernel) (by decide) (fun c8 => ?_) (fun c8 => ?_)
    · rw [if_neg c8] at h
      refine ax_Tdrop [false, true, true, true, true] (L' := [none, some (.inl (.int x5)), none, none, none]) rfl ?_
      exact hK84 x5 S7 _ _ h
    · rw [if_pos c8] at h
      refine ax_Tgo [.aload_n 0] (pc' := 14) (L' := [some (.inr (12, 0)), some (.inl (.int x5)), none, none, none]) (st' := [.inr (12, 0)]) (S' := S7) ok_X12_sum.1 (by decide +kernel) rfl rfl ?_
      obtain ⟨r12, S9, hq10, h⟩ := ax_bu_e h
      refine ax_TVi (d := d) (ka := 12) (i := 0) [] [] lk_X12_135 (by decide +kernel) rfl (by decide) rfl (Nat.le_of_ble_eq_true rfl) (Nat.le_of_ble_eq_true rfl) ((t_X12_look hq10).up (by omega)) ?_
      refine ax_Tgo [.bipush 43] (pc' := 19) (L' := [some (.inr (12, 0)), some (.inl (.int x5)), none, none, none]) (st' := [.inl (.int (43 : Int32)), .inl (.int r12)]) (S' := S9) ok_X12_sum.1 (by decide +kernel) rfl rfl ?_
      refine ax_Tic_eq (off := 12) (tgt := 31) (by decide +kernel) (by decide) (fun c13 => ?_) (fun c13 => ?_)
      · rw [if_pos c13] at h
        refine ax_Tgo [.aload_n 0] (pc' := 32) (L' := [some (.inr (12, 0)), some (.inl (.int x5)), none, none, none]) (st' := [.inr (12, 0)]) (S' := S9) ok_X12_sum.1 (by decide +kernel) rfl rfl ?_
        obtain ⟨r17, S14, hq15, h⟩ := ax_bu_e h
        refine ax_TVi (d := d) (ka := 12) (i := 0) [] [] lk_X12_135 (by decide +kernel) rfl (by decide) rfl (Nat.le_of_ble_eq_true rfl) (Nat.le_of_ble_eq_true rfl) ((t_X12_look hq15).up (by omega)) ?_
        refine ax_Tgo [.bipush 43] (pc' := 37) (L' := [some (.inr (12, 0)), some (.inl (.int x5)), none, none, none]) (st' := [.inl (.int (43 : Int32)), .inl (.int r17)]) (S' := S14) ok_X12_sum.1 (by decide +kernel) rfl rfl ?_
        obtain ⟨J20, eJ20, h⟩ := ax_let_e h
        have hJ20 : ∀ (x18 : Int32) (S19 : AS) r Z, J20 x18 S19 = some (r, Z) → ax_T l (d + 1) ma_X12_sum (45, [some (.inr (12, 0)), some (.inl (.int x5)), none, none, none], [.inl (.int x18)], S19) (some (.inl (.int r))) Z := by
          intro x18 S19 r Z h
          rw [← eJ20] at h
          try dsimp only at h
          refine ax_Tgo [.istore_n 2, .aload_n 0, .dup, .getfield 116, .iconst 1, .iadd, .putfield 116] (pc' := 56) (L' := [some (.inr (12, 0)), some (.inl (.int x5)), some (.inl (.int x18)), none, none]) (st' := []) (S' := (ax_sfi S19 12 0 10 ((ax_fi S19 12 0 10) + (1 : Int32)))) ok_X12_sum.1 (by decide +kernel) rfl rfl ?_
          obtain ⟨S21, eS21, h⟩ := ax_let_e h
          rw [eS21]
          refine ax_Tgo [.aload_n 0] (pc' := 57) (L' := [some (.inr (12, 0)), some (.inl (.int x5)), some (.inl (.int x18)), none, none]) (st' := [.inr (12, 0)]) (S' := S21) ok_X12_sum.1 (by decide +kernel) rfl rfl ?_
          obtain ⟨r25, S22, hq23, h⟩ := ax_bu_e h
          refine ax_TVi (d := d) (ka := 12) (i := 0) [] [] lk_X12_175 (by decide +kernel) rfl (by decide) rfl (Nat.le_of_ble_eq_true rfl) (Nat.le_of_ble_eq_true rfl) (hrec_1 hq23) ?_
          refine ax_Tgo [.i2l, .lstore_n 3] (pc' := 62) (L' := [some (.inr (12, 0)), some (.inl (.int x5)), some (.inl (.int x18)), some (.inl (.long r25.toInt64)), none]) (st' := []) (S' := S22) ok_X12_sum.1 (by decide +kernel) rfl rfl ?_
          obtain ⟨v26, ev26, h⟩ := ax_let_e h
          rw [ev26]
          refine ax_Tgo [.iload_n 2] (pc' := 63) (L' := [some (.inr (12, 0)), some (.inl (.int x5)), some (.inl (.int x18)), some (.inl (.long v26)), none]) (st' := [.inl (.int x18)]) (S' := S22) ok_X12_sum.1 (by decide +kernel) rfl rfl ?_
          refine ax_Tif_eq (off := 10) (tgt := 73) (by decide +kernel) (by decide) (fun c27 => ?_) (fun c27 => ?_)
          · rw [if_pos c27] at h
            refine ax_Tgo [.iload_n 1, .i2l, .lload_n 3, .lsub] (pc' := 77) (L' := [some (.inr (12, 0)), some (.inl (.int x5)), some (.inl (.int x18)), some (.inl (.long v26)), none]) (st' := [.inl (.long (x5.toInt64 - v26))]) (S' := S22) ok_X12_sum.1 (by decide +kernel) rfl rfl ?_
            obtain ⟨r31, hq29, h⟩ := ax_bd_e h
            refine ax_TSi (d := d) [.inl (.long (x5.toInt64 - v26))] [] lk_X12_171 (by decide +kernel) rfl rfl (Nat.le_of_ble_eq_true rfl) (Nat.le_of_ble_eq_true rfl) ((t_X12_within hq29).up (by omega)) ?_
            refine ax_Tgo [.istore_n 1] (pc' := 81) (L' := [some (.inr (12, 0)), some (.inl (.int r31)), some (.inl (.int x18)), some (.inl (.long v26)), none]) (st' := []) (S' := S22) ok_X12_sum.1 (by decide +kernel) rfl rfl ?_
            refine ax_Tgoto (off := (-76)) (tgt := 5) (by decide +kernel) (by decide) ?_
            refine ax_Tdrop [true, true, false, false, true] (L' := [some (.inr (12, 0)), some (.inl (.int r31)), none, none, none]) rfl ?_
            exact ih r31 S22 _ _ h
          · rw [if_neg c27] at h
            refine ax_Tgo [.iload_n 1, .i2l, .lload_n 3, .ladd] (pc' := 70) (L' := [some (.inr (12, 0)), some (.inl (.int x5)), some (.inl (.int x18)), some (.inl (.long v26)), none]) (st' := [.inl (.long (x5.toInt64 + v26))]) (S' := S22) ok_X12_sum.1 (by decide +kernel) rfl rfl ?_
            refine ax_Tgoto (off := 7) (tgt := 77) (by decide +kernel) (by decide) ?_
            obtain ⟨r35, hq33, h⟩ := ax_bd_e h
            refine ax_TSi (d := d) [.inl (.long (x5.toInt64 + v26))] [] lk_X12_171 (by decide +kernel) rfl rfl (Nat.le_of_ble_eq_true rfl) (Nat.le_of_ble_eq_true rfl) ((t_X12_within hq33).up (by omega)) ?_
            refine ax_Tgo [.istore_n 1] (pc' := 81) (L' := [some (.inr (12, 0)), some (.inl (.int r35)), some (.inl (.int x18)), some (.inl (.long v26)), none]) (st' := []) (S' := S22) ok_X12_sum.1 (by decide +kernel) rfl rfl ?_
            refine ax_Tgoto (off := (-76)) (tgt := 5) (by decide +kernel) (by decide) ?_
            refine ax_Tdrop [true, true, false, false, true] (L' := [some (.inr (12, 0)), some (.inl (.int r35)), none, none, none]) rfl ?_
            exact ih r35 S22 _ _ h
        refine ax_Tic_ne (off := 7) (tgt := 44) (by decide +kernel) (by decide) (fun c36 => ?_) (fun c36 => ?_)
        · rw [if_neg c36] at h
          refine ax_Tgo [.iconst 0] (pc' := 45) (L' := [some (.inr (12, 0)), some (.inl (.int x5)), none, none, none]) (st' := [.inl (.int (0 : Int32))]) (S' := S14) ok_X12_sum.1 (by decide +kernel) rfl rfl ?_
          exact hJ20 (0 : Int32) S14 _ _ h
        · rw [if_pos c36] at h
          refine ax_Tgo [.iconst 1] (pc' := 41) (L' := [some (.inr (12, 0)), some (.inl (.int x5)), none, none, none]) (st' := [.inl (.int (1 : Int32))]) (S' := S14) ok_X12_sum.1 (by decide +kernel) rfl rfl ?_
          refine ax_Tgoto (off := 4) (tgt := 45) (by decide +kernel) (by decide) ?_
          exact hJ20 (1 : Int32) S14 _ _ h
      · rw [if_neg c13] at h
        refine ax_Tgo [.aload_n 0] (pc' := 23) (L' := [some (.inr (12, 0)), some (.inl (.int x5)), none, none, none]) (st' := [.inr (12, 0)]) (S' := S9) ok_X12_sum.1 (by decide +kernel) rfl rfl ?_
        obtain ⟨r40, S37, hq38, h⟩ := ax_bu_e h
        refine ax_TVi (d := d) (ka := 12) (i := 0) [] [] lk_X12_135 (by decide +kernel) rfl (by decide) rfl (Nat.le_of_ble_eq_true rfl) (Nat.le_of_ble_eq_true rfl) ((t_X12_look hq38).up (by omega)) ?_
        refine ax_Tgo [.bipush 45] (pc' := 28) (L' := [some (.inr (12, 0)), some (.inl (.int x5)), none, none, none]) (st' := [.inl (.int (45 : Int32)), .inl (.int r40)]) (S' := S37) ok_X12_sum.1 (by decide +kernel) rfl rfl ?_
        refine ax_Tic_ne (off := 56) (tgt := 84) (by decide +kernel) (by decide) (fun c41 => ?_) (fun c41 => ?_)
        · rw [if_neg c41] at h
          refine ax_Tdrop [false, true, true, true, true] (L' := [none, some (.inl (.int x5)), none, none, none]) rfl ?_
          exact hK84 x5 S37 _ _ h
        · rw [if_pos c41] at h
          refine ax_Tgo [.aload_n 0] (pc' := 32) (L' := [some (.inr (12, 0)), some (.inl (.int x5)), none, none, none]) (st' := [.inr (12, 0)]) (S' := S37) ok_X12_sum.1 (by decide +kernel) rfl rfl ?_
          obtain ⟨r45, S42, hq43, h⟩ := ax_bu_e h
          refine ax_TVi (d := d) (ka := 12) (i := 0) [] [] lk_X12_135 (by decide +kernel) rfl (by decide) rfl (Nat.le_of_ble_eq_true rfl) (Nat.le_of_ble_eq_true rfl) ((t_X12_look hq43).up (by omega)) ?_
          refine ax_Tgo [.bipush 43] (pc' := 37) (L' := [some (.inr (12, 0)), some (.inl (.int x5)), none, none, none]) (st' := [.inl (.int (43 : Int32)), .inl (.int r45)]) (S' := S42) ok_X12_sum.1 (by decide +kernel) rfl rfl ?_
          obtain ⟨J48, eJ48, h⟩ := ax_let_e h
          have hJ48 : ∀ (x46 : Int32) (S47 : AS) r Z, J48 x46 S47 = some (r, Z) → ax_T l (d + 1) ma_X12_sum (45, [some (.inr (12, 0)), some (.inl (.int x5)), none, none, none], [.inl (.int x46)], S47) (some (.inl (.int r))) Z := by
            intro x46 S47 r Z h
            rw [← eJ48] at h
            try dsimp only at h
            refine ax_Tgo [.istore_n 2, .aload_n 0, .dup, .getfield 116, .iconst 1, .iadd, .putfield 116] (pc' := 56) (L' := [some (.inr (12, 0)), some (.inl (.int x5)), some (.inl (.int x46)), none, none]) (st' := []) (S' := (ax_sfi S47 12 0 10 ((ax_fi S47 12 0 10) + (1 : Int32)))) ok_X12_sum.1 (by decide +kernel) rfl rfl ?_
            obtain ⟨S49, eS49, h⟩ := ax_let_e h
            rw [eS49]
            refine ax_Tgo [.aload_n 0] (pc' := 57) (L' := [some (.inr (12, 0)), some (.inl (.int x5)), some (.inl (.int x46)), none, none]) (st' := [.inr (12, 0)]) (S' := S49) ok_X12_sum.1 (by decide +kernel) rfl rfl ?_
            obtain ⟨r53, S50, hq51, h⟩ := ax_bu_e h
            refine ax_TVi (d := d) (ka := 12) (i := 0) [] [] lk_X12_175 (by decide +kernel) rfl (by decide) rfl (Nat.le_of_ble_eq_true rfl) (Nat.le_of_ble_eq_true rfl) (hrec_1 hq51) ?_
            refine ax_Tgo [.i2l, .lstore_n 3] (pc' := 62) (L' := [some (.inr (12, 0)), some (.inl (.int x5)), some (.inl (.int x46)), some (.inl (.long r53.toInt64)), none]) (st' := []) (S' := S50) ok_X12_sum.1 (by decide +kernel) rfl rfl ?_
            obtain ⟨v54, ev54, h⟩ := ax_let_e h
            rw [ev54]
            refine ax_Tgo [.iload_n 2] (pc' := 63) (L' := [some (.inr (12, 0)), some (.inl (.int x5)), some (.inl (.int x46)), some (.inl (.long v54)), none]) (st' := [.inl (.int x46)]) (S' := S50) ok_X12_sum.1 (by decide +kernel) rfl rfl ?_
            refine ax_Tif_eq (off := 10) (tgt := 73) (by decide +kernel) (by decide) (fun c55 => ?_) (fun c55 => ?_)
            · rw [if_pos c55] at h
              refine ax_Tgo [.iload_n 1, .i2l, .lload_n 3, .lsub] (pc' := 77) (L' := [some (.inr (12, 0)), some (.inl (.int x5)), some (.inl (.int x46)), some (.inl (.long v54)), none]) (st' := [.inl (.long (x5.toInt64 - v54))]) (S' := S50) ok_X12_sum.1 (by decide +kernel) rfl rfl ?_
              obtain ⟨r59, hq57, h⟩ := ax_bd_e h
              refine ax_TSi (d := d) [.inl (.long (x5.toInt64 - v54))] [] lk_X12_171 (by decide +kernel) rfl rfl (Nat.le_of_ble_eq_true rfl) (Nat.le_of_ble_eq_true rfl) ((t_X12_within hq57).up (by omega)) ?_
              refine ax_Tgo [.istore_n 1] (pc' := 81) (L' := [some (.inr (12, 0)), some (.inl (.int r59)), some (.inl (.int x46)), some (.inl (.long v54)), none]) (st' := []) (S' := S50) ok_X12_sum.1 (by decide +kernel) rfl rfl ?_
              refine ax_Tgoto (off := (-76)) (tgt := 5) (by decide +kernel) (by decide) ?_
              refine ax_Tdrop [true, true, false, false, true] (L' := [some (.inr (12, 0)), some (.inl (.int r59)), none, none, none]) rfl ?_
              exact ih r59 S50 _ _ h
            · rw [if_neg c55] at h
              refine ax_Tgo [.iload_n 1, .i2l, .lload_n 3, .ladd] (pc' := 70) (L' := [some (.inr (12, 0)), some (.inl (.int x5)), some (.inl (.int x46)), some (.inl (.long v54)), none]) (st' := [.inl (.long (x5.toInt64 + v54))]) (S' := S50) ok_X12_sum.1 (by decide +kernel) rfl rfl ?_
              refine ax_Tgoto (off := 7) (tgt := 77) (by decide +kernel) (by decide) ?_
              obtain ⟨r63, hq61, h⟩ := ax_bd_e h
              refine ax_TSi (d := d) [.inl (.long (x5.toInt64 + v54))] [] lk_X12_171 (by decide +kernel) rfl rfl (Nat.le_of_ble_eq_true rfl) (Nat.le_of_ble_eq_true rfl) ((t_X12_within hq61).up (by omega)) ?_
              refine ax_Tgo [.istore_n 1] (pc' := 81) (L' := [some (.inr (12, 0)), some (.inl (.int r63)), some (.inl (.int x46)), some (.inl (.long v54)), none]) (st' := []) (S' := S50) ok_X12_sum.1 (by decide +kernel) rfl rfl ?_
              refine ax_Tgoto (off := (-76)) (tgt := 5) (by decide +kernel) (by decide) ?_
              refine ax_Tdrop [true, true, false, false, true] (L' := [some (.inr (12, 0)), some (.inl (.int r63)), none, none, none]) rfl ?_
              exact ih r63 S50 _ _ h
          refine ax_Tic_ne (off := 7) (tgt := 44) (by decide +kernel) (by decide) (fun c64 => ?_) (fun c64 => ?_)
          · rw [if_neg c64] at h
            refine ax_Tgo [.iconst 0] (pc' := 45) (L' := [some (.inr (12, 0)), some (.inl (.int x5)), none, none, none]) (st' := [.inl (.int (0 : Int32))]) (S' := S42) ok_X12_sum.1 (by decide +kernel) rfl rfl ?_
            exact hJ48 (0 : Int32) S42 _ _ h
          · rw [if_pos c64] at h
            refine ax_Tgo [.iconst 1] (pc' := 41) (L' := [some (.inr (12, 0)), some (.inl (.int x5)), none, none, none]) (st' := [.inl (.int (1 : Int32))]) (S' := S42) ok_X12_sum.1 (by decide +kernel) rfl rfl ?_
            refine ax_Tgoto (off := 4) (tgt := 45) (by decide +kernel) (by decide) ?_
            exact hJ48 (1 : Int32) S42 _ _ h
set_option maxRecDepth 100000 in
theorem tb_X12_sum {l : Launch} {d : Nat} (hd : 5 ≤ d) {rec : Nat → Int32 → Int32 → AS → Option (Int32 × AS)} (hrec_0 : ∀ {S Z : AS} {r : Int32}, rec 0 (0 : Int32) (0 : Int32) S = some (r, Z) → ax_M l d ma_X12_atom [.inr (12, 0)] S (some (.inl (.int r))) Z) (hrec_1 : ∀ {S Z : AS} {r : Int32}, rec 1 (0 : Int32) (0 : Int32) S = some (r, Z) → ax_M l d ma_X12_term [.inr (12, 0)] S (some (.inl (.int r))) Z) (hrec_2 : ∀ {S Z : AS} {r : Int32}, rec 2 (0 : Int32) (0 : Int32) S = some (r, Z) → ax_M l d ma_X12_sum [.inr (12, 0)] S (some (.inl (.int r))) Z) (hrec_3 : ∀ {a1 : Int32} {a2 : Int32} {S Z : AS} {r : Int32}, rec 3 a1 a2 S = some (r, Z) → ax_M l d ma_X12_compares [.inr (12, 0), .inl (.int a1), .inl (.int a2)] S (some (.inl (.int r))) Z) (hrec_4 : ∀ {S Z : AS} {r : Int32}, rec 4 (0 : Int32) (0 : Int32) S = some (r, Z) → ax_M l d ma_X12_unit [.inr (12, 0)] S (some (.inl (.int r))) Z) (hrec_5 : ∀ {a1 : Int32} {a2 : Int32} {S Z : AS} {r : Int32}, rec 5 a1 a2 S = some (r, Z) → ax_M l d ma_X12_part [.inr (12, 0), .inl (.int a1), .inl (.int a2)] S (some (.inl (.int r))) Z) (hrec_6 : ∀ {a1 : Int32} {a2 : Int32} {S Z : AS} {r : Int32}, rec 6 a1 a2 S = some (r, Z) → ax_M l d ma_X12_condition [.inr (12, 0), .inl (.int a1), .inl (.int a2)] S (some (.inl (.int r))) Z) {S Z : AS} {r : Int32} (h : b_X12_sum rec S = some (r, Z)) : ax_M l (d + 1) ma_X12_sum [.inr (12, 0)] S (some (.inl (.int r))) Z := by
  unfold b_X12_sum at h
  show ax_T l (d + 1) ma_X12_sum (0, [some (.inr (12, 0)), none, none, none, none], [], S) (some (.inl (.int r))) Z
  refine ax_Tgo [.aload_n 0] (pc' := 1) (L' := [some (.inr (12, 0)), none, none, none, none]) (st' := [.inr (12, 0)]) (S' := S) ok_X12_sum.1 (by decide +kernel) rfl rfl ?_
  obtain ⟨r4, S1, hq2, h⟩ := ax_bu_e h
  refine ax_TVi (d := d) (ka := 12) (i := 0) [] [] lk_X12_175 (by decide +kernel) rfl (by decide) rfl (Nat.le_of_ble_eq_true rfl) (Nat.le_of_ble_eq_true rfl) (hrec_1 hq2) ?_
  refine ax_Tgo [.istore_n 1] (pc' := 5) (L' := [some (.inr (12, 0)), some (.inl (.int r4)), none, none, none]) (st' := []) (S' := S1) ok_X12_sum.1 (by decide +kernel) rfl rfl ?_
  refine t_X12_sum_L5 hd hrec_0 hrec_1 hrec_2 hrec_3 hrec_4 hrec_5 hrec_6 ?_ _ r4 S1 _ _ h
  · intro x6 S65 r Z h
    refine ax_Tgo [.iload_n 1] (pc' := 85) (L' := [none, some (.inl (.int x6)), none, none, none]) (st' := [.inl (.int x6)]) (S' := S65) ok_X12_sum.1 (by decide +kernel) rfl rfl ?_
    cases h
    exact ax_Treti (by decide +kernel) rfl rfl
set_option maxRecDepth 100000 in
theorem tb_X12_compares {l : Launch} {d : Nat} (hd : 5 ≤ d) {rec : Nat → Int32 → Int32 → AS → Option (Int32 × AS)} (hrec_0 : ∀ {S Z : AS} {r : Int32}, rec 0 (0 : Int32) (0 : Int32) S = some (r, Z) → ax_M l d ma_X12_atom [.inr (12, 0)] S (some (.inl (.int r))) Z) (hrec_1 : ∀ {S Z : AS} {r : Int32}, rec 1 (0 : Int32) (0 : Int32) S = some (r, Z) → ax_M l d ma_X12_term [.inr (12, 0)] S (some (.inl (.int r))) Z) (hrec_2 : ∀ {S Z : AS} {r : Int32}, rec 2 (0 : Int32) (0 : Int32) S = some (r, Z) → ax_M l d ma_X12_sum [.inr (12, 0)] S (some (.inl (.int r))) Z) (hrec_3 : ∀ {a1 : Int32} {a2 : Int32} {S Z : AS} {r : Int32}, rec 3 a1 a2 S = some (r, Z) → ax_M l d ma_X12_compares [.inr (12, 0), .inl (.int a1), .inl (.int a2)] S (some (.inl (.int r))) Z) (hrec_4 : ∀ {S Z : AS} {r : Int32}, rec 4 (0 : Int32) (0 : Int32) S = some (r, Z) → ax_M l d ma_X12_unit [.inr (12, 0)] S (some (.inl (.int r))) Z) (hrec_5 : ∀ {a1 : Int32} {a2 : Int32} {S Z : AS} {r : Int32}, rec 5 a1 a2 S = some (r, Z) → ax_M l d ma_X12_part [.inr (12, 0), .inl (.int a1), .inl (.int a2)] S (some (.inl (.int r))) Z) (hrec_6 : ∀ {a1 : Int32} {a2 : Int32} {S Z : AS} {r : Int32}, rec 6 a1 a2 S = some (r, Z) → ax_M l d ma_X12_condition [.inr (12, 0), .inl (.int a1), .inl (.int a2)] S (some (.inl (.int r))) Z) {a1 : Int32} {a2 : Int32} {S Z : AS} {r : Int32} (h : b_X12_compares rec a1 a2 S = some (r, Z)) : ax_M l (d + 1) ma_X12_compares [.inr (12, 0), .inl (.int a1), .inl (.int a2)] S (some (.inl (.int r))) Z := by
  unfold b_X12_compares at h
  show ax_T l (d + 1) ma_X12_compares (0, [some (.inr (12, 0)), some (.inl (.int a1)), some (.inl (.int a2)), none, none, none], [], S) (some (.inl (.int r))) Z
  refine ax_Tgo [.iload_n 1] (pc' := 1) (L' := [some (.inr (12, 0)), some (.inl (.int a1)), some (.inl (.int a2)), none, none, none]) (st' := [.inl (.int a1)]) (S' := S) ok_X12_compares.1 (by decide +kernel) rfl rfl ?_
  obtain ⟨J3, eJ3, h⟩ := ax_let_e h
  have hJ3 : ∀ (x1 : Int32) (S2 : AS) r Z, J3 x1 S2 = some (r, Z) → ax_T l (d + 1) ma_X12_compares (12, [some (.inr (12, 0)), none, none, none, none, none], [.inl (.int x1)], S2) (some (.inl (.int r))) Z := by
    intro x1 S2 r Z h
    rw [← eJ3] at h
    try dsimp only at h
    refine ax_Tgo [.istore_n 3, .aload_n 0, .getfield 125, .iconst (-1)] (pc' := 18) (L' := [some (.inr (12, 0)), none, none, some (.inl (.int x1)), none, none]) (st' := [.inl (.int (Int32.ofInt (-1))), .inl (.int (ax_fi S2 12 0 11))]) (S' := S2) ok_X12_compares.1 (by decide +kernel) rfl rfl ?_
    refine ax_Tic_eq (off := 5) (tgt := 23) (by decide +kernel) (by decide) (fun c4 => ?_) (fun c4 => ?_)
    · rw [if_pos c4] at h
      refine ax_Tgo [.aload_n 0] (pc' := 24) (L' := [some (.inr (12, 0)), none, none, some (.inl (.int x1)), none, none]) (st' := [.inr (12, 0)]) (S' := S2) ok_X12_compares.1 (by decide +kernel) rfl rfl ?_
      obtain ⟨r8, S5, hq6, h⟩ := ax_bu_e h
      refine ax_TVi (d := d) (ka := 12) (i := 0) [] [] lk_X12_135 (by decide +kernel) rfl (by decide) rfl (Nat.le_of_ble_eq_true rfl) (Nat.le_of_ble_eq_true rfl) ((t_X12_look hq6).up (by omega)) ?_
      refine ax_Tgo [.istore 4, .iload 4] (pc' := 31) (L' := [some (.inr (12, 0)), none, none, some (.inl (.int x1)), some (.inl (.int r8)), none]) (st' := [.inl (.int r8)]) (S' := S5) ok_X12_compares.1 (by decide +kernel) rfl rfl ?_
      obtain ⟨r12, hq10, h⟩ := ax_bd_e h
      refine ax_TSi (d := d) [.inl (.int r8)] [] lk_X12_178 (by decide +kernel) rfl rfl (Nat.le_of_ble_eq_true rfl) (Nat.le_of_ble_eq_true rfl) ((t_X12_isSign hq10).up (by omega)) ?_
      refine ax_Tif_ne (off := 8) (tgt := 42) (by decide +kernel) (by decide) (fun c13 => ?_) (fun c13 => ?_)
      · rw [if_neg c13] at h
        refine ax_Tgo [.aload_n 0, .dup, .getfield 116, .iconst 1, .iadd, .putfield 116] (pc' := 52) (L' := [some (.inr (12, 0)), none, none, some (.inl (.int x1)), some (.inl (.int r8)), none]) (st' := []) (S' := (ax_sfi S5 12 0 10 ((ax_fi S5 12 0 10) + (1 : Int32)))) ok_X12_compares.1 (by decide +kernel) rfl rfl ?_
        obtain ⟨S14, eS14, h⟩ := ax_let_e h
        rw [eS14]
        refine ax_Tgo [.aload_n 0] (pc' := 53) (L' := [some (.inr (12, 0)), none, none, some (.inl (.int x1)), some (.inl (.int r8)), none]) (st' := [.inr (12, 0)]) (S' := S14) ok_X12_compares.1 (by decide +kernel) rfl rfl ?_
        obtain ⟨r18, S15, hq16, h⟩ := ax_bu_e h
        refine ax_TVi (d := d) (ka := 12) (i := 0) [] [] lk_X12_158 (by decide +kernel) rfl (by decide) rfl (Nat.le_of_ble_eq_true rfl) (Nat.le_of_ble_eq_true rfl) (hrec_2 hq16) ?_
        refine ax_Tgo [.istore 5, .iload 4, .bipush 61] (pc' := 62) (L' := [some (.inr (12, 0)), none, none, some (.inl (.int x1)), some (.inl (.int r8)), some (.inl (.int r18))]) (st' := [.inl (.int (61 : Int32)), .inl (.int r8)]) (S' := S15) ok_X12_compares.1 (by decide +kernel) rfl rfl ?_
        refine ax_Tic_ne (off := 17) (tgt := 79) (by decide +kernel) (by decide) (fun c19 => ?_) (fun c19 => ?_)
        · rw [if_neg c19] at h
          refine ax_Tgo [.iload 4, .bipush 60] (pc' := 83) (L' := [some (.inr (12, 0)), none, none, some (.inl (.int x1)), some (.inl (.int r8)), some (.inl (.int r18))]) (st' := [.inl (.int (60 : Int32)), .inl (.int r8)]) (S' := S15) ok_X12_compares.1 (by decide +kernel) rfl rfl ?_
          refine ax_Tic_ne (off := 17) (tgt := 100) (by decide +kernel) (by decide) (fun c20 => ?_) (fun c20 => ?_)
          · rw [if_neg c20] at h
            refine ax_Tgo [.iload_n 3, .iload 5] (pc' := 103) (L' := [some (.inr (12, 0)), none, none, some (.inl (.int x1)), some (.inl (.int r8)), some (.inl (.int r18))]) (st' := [.inl (.int r18), .inl (.int x1)]) (S' := S15) ok_X12_compares.1 (by decide +kernel) rfl rfl ?_
            refine ax_Tic_le (off := 7) (tgt := 110) (by decide +kernel) (by decide) (fun c21 => ?_) (fun c21 => ?_)
            · rw [if_pos c21] at h
              refine ax_Tgo [.iconst 0] (pc' := 111) (L' := [some (.inr (12, 0)), none, none, some (.inl (.int x1)), some (.inl (.int r8)), some (.inl (.int r18))]) (st' := [.inl (.int (0 : Int32))]) (S' := S15) ok_X12_compares.1 (by decide +kernel) rfl rfl ?_
              cases h
              exact ax_Treti (by decide +kernel) rfl rfl
            · rw [if_neg c21] at h
              refine ax_Tgo [.iconst 1] (pc' := 107) (L' := [some (.inr (12, 0)), none, none, some (.inl (.int x1)), some (.inl (.int r8)), some (.inl (.int r18))]) (st' := [.inl (.int (1 : Int32))]) (S' := S15) ok_X12_compares.1 (by decide +kernel) rfl rfl ?_
              refine ax_Tgoto (off := 4) (tgt := 111) (by decide +kernel) (by decide) ?_
              cases h
              exact ax_Treti (by decide +kernel) rfl rfl
          · rw [if_pos c20] at h
            refine ax_Tgo [.iload_n 3, .iload 5] (pc' := 89) (L' := [some (.inr (12, 0)), none, none, some (.inl (.int x1)), some (.inl (.int r8)), some (.inl (.int r18))]) (st' := [.inl (.int r18), .inl (.int x1)]) (S' := S15) ok_X12_compares.1 (by decide +kernel) rfl rfl ?_
            refine ax_Tic_ge (off := 7) (tgt := 96) (by decide +kernel) (by decide) (fun c22 => ?_) (fun c22 => ?_)
            · rw [if_pos c22] at h
              refine ax_Tgo [.iconst 0] (pc' := 97) (L' := [some (.inr (12, 0)), none, none, some (.inl (.int x1)), some (.inl (.int r8)), some (.inl (.int r18))]) (st' := [.inl (.int (0 : Int32))]) (S' := S15) ok_X12_compares.1 (by decide +kernel) rfl rfl ?_
              refine ax_Tgoto (off := 14) (tgt := 111) (by decide +kernel) (by decide) ?_
              cases h
              exact ax_Treti (by decide +kernel) rfl rfl
            · rw [if_neg c22] at h
              refine ax_Tgo [.iconst 1] (pc' := 93) (L' := [some (.inr (12, 0)), none, none, some (.inl (.int x1)), some (.inl (.int r8)), some (.inl (.int r18))]) (st' := [.inl (.int (1 : Int32))]) (S' := S15) ok_X12_compares.1 (by decide +kernel) rfl rfl ?_
              refine ax_Tgoto (off := 18) (tgt := 111) (by decide +kernel) (by decide) ?_
              cases h
              exact ax_Treti (by decide +kernel) rfl rfl
        · rw [if_pos c19] at h
          refine ax_Tgo [.iload_n 3, .iload 5] (pc' := 68) (L' := [some (.inr (12, 0)), none, none, some (.inl (.int x1)), some (.inl (.int r8)), some (.inl (.int r18))]) (st' := [.inl (.int r18), .inl (.int x1)]) (S' := S15) ok_X12_compares.1 (by decide +kernel) rfl rfl ?_
          refine ax_Tic_ne (off := 7) (tgt := 75) (by decide +kernel) (by decide) (fun c23 => ?_) (fun c23 => ?_)
          · rw [if_neg c23] at h
            refine ax_Tgo [.iconst 0] (pc' := 76) (L' := [some (.inr (12, 0)), none, none, some (.inl (.int x1)), some (.inl (.int r8)), some (.inl (.int r18))]) (st' := [.inl (.int (0 : Int32))]) (S' := S15) ok_X12_compares.1 (by decide +kernel) rfl rfl ?_
            refine ax_Tgoto (off := 35) (tgt := 111) (by decide +kernel) (by decide) ?_
            cases h
            exact ax_Treti (by decide +kernel) rfl rfl
          · rw [if_pos c23] at h
            refine ax_Tgo [.iconst 1] (pc' := 72) (L' := [some (.inr (12, 0)), none, none, some (.inl (.int x1)), some (.inl (.int r8)), some (.inl (.int r18))]) (st' := [.inl (.int (1 : Int32))]) (S' := S15) ok_X12_compares.1 (by decide +kernel) rfl rfl ?_
            refine ax_Tgoto (off := 39) (tgt := 111) (by decide +kernel) (by decide) ?_
            cases h
            exact ax_Treti (by decide +kernel) rfl rfl
      · rw [if_pos c13] at h
        refine ax_Tgo [.aload_n 0] (pc' := 38) (L' := [some (.inr (12, 0)), none, none, some (.inl (.int x1)), some (.inl (.int r8)), none]) (st' := [.inr (12, 0)]) (S' := S5) ok_X12_compares.1 (by decide +kernel) rfl rfl ?_
        obtain ⟨r27, S24, hq25, h⟩ := ax_bu_e h
        refine ax_TVi (d := d) (ka := 12) (i := 0) [] [] lk_X12_131 (by decide +kernel) rfl (by decide) rfl (Nat.le_of_ble_eq_true rfl) (Nat.le_of_ble_eq_true rfl) ((t_X12_fails hq25).up (by omega)) ?_
        obtain ⟨g28, h⟩ := ax_gd_e h
        cases h
        exact ax_Tretz (by decide +kernel) rfl g28
    · rw [if_neg c4] at h
      refine ax_Tgo [.iconst 0] (pc' := 22) (L' := [some (.inr (12, 0)), none, none, some (.inl (.int x1)), none, none]) (st' := [.inl (.int (0 : Int32))]) (S' := S2) ok_X12_compares.1 (by decide +kernel) rfl rfl ?_
      cases h
      exact ax_Treti (by decide +kernel) rfl rfl
  refine ax_Tif_eq (off := 7) (tgt := 8) (by decide +kernel) (by decide) (fun c29 => ?_) (fun c29 => ?_)
  · rw [if_pos c29] at h
    refine ax_Tgo [.aload_n 0] (pc' := 9) (L' := [some (.inr (12, 0)), some (.inl (.int a1)), some (.inl (.int a2)), none, none, none]) (st' := [.inr (12, 0)]) (S' := S) ok_X12_compares.1 (by decide +kernel) rfl rfl ?_
    obtain ⟨r33, S30, hq31, h⟩ := ax_bu_e h
    refine ax_TVi (d := d) (ka := 12) (i := 0) [] [] lk_X12_158 (by decide +kernel) rfl (by decide) rfl (Nat.le_of_ble_eq_true rfl) (Nat.le_of_ble_eq_true rfl) (hrec_2 hq31) ?_
    refine ax_Tdrop [true, false, false, true, true, true] (L' := [some (.inr (12, 0)), none, none, none, none, none]) rfl ?_
    exact hJ3 r33 S30 _ _ h
  · rw [if_neg c29] at h
    refine ax_Tgo [.iload_n 2] (pc' := 5) (L' := [some (.inr (12, 0)), some (.inl (.int a1)), some (.inl (.int a2)), none, none, none]) (st' := [.inl (.int a2)]) (S' := S) ok_X12_compares.1 (by decide +kernel) rfl rfl ?_
    refine ax_Tgoto (off := 7) (tgt := 12) (by decide +kernel) (by decide) ?_
    refine ax_Tdrop [true, false, false, true, true, true] (L' := [some (.inr (12, 0)), none, none, none, none, none]) rfl ?_
    exact hJ3 a2 S _ _ h
set_option maxRecDepth 100000 in
theorem tb_X12_unit {l : Launch} {d : Nat} (hd : 5 ≤ d) {rec : Nat → Int32 → Int32 → AS → Option (Int32 × AS)} (hrec_0 : ∀ {S Z : AS} {r : Int32}, rec 0 (0 : Int32) (0 : Int32) S = some (r, Z) → ax_M l d ma_X12_atom [.inr (12, 0)] S (some (.inl (.int r))) Z) (hrec_1 : ∀ {S Z : AS} {r : Int32}, rec 1 (0 : Int32) (0 : Int32) S = some (r, Z) → ax_M l d ma_X12_term [.inr (12, 0)] S (some (.inl (.int r))) Z) (hrec_2 : ∀ {S Z : AS} {r : Int32}, rec 2 (0 : Int32) (0 : Int32) S = some (r, Z) → ax_M l d ma_X12_sum [.inr (12, 0)] S (some (.inl (.int r))) Z) (hrec_3 : ∀ {a1 : Int32} {a2 : Int32} {S Z : AS} {r : Int32}, rec 3 a1 a2 S = some (r, Z) → ax_M l d ma_X12_compares [.inr (12, 0), .inl (.int a1), .inl (.int a2)] S (some (.inl (.int r))) Z) (hrec_4 : ∀ {S Z : AS} {r : Int32}, rec 4 (0 : Int32) (0 : Int32) S = some (r, Z) → ax_M l d ma_X12_unit [.inr (12, 0)] S (some (.inl (.int r))) Z) (hrec_5 : ∀ {a1 : Int32} {a2 : Int32} {S Z : AS} {r : Int32}, rec 5 a1 a2 S = some (r, Z) → ax_M l d ma_X12_part [.inr (12, 0), .inl (.int a1), .inl (.int a2)] S (some (.inl (.int r))) Z) (hrec_6 : ∀ {a1 : Int32} {a2 : Int32} {S Z : AS} {r : Int32}, rec 6 a1 a2 S = some (r, Z) → ax_M l d ma_X12_condition [.inr (12, 0), .inl (.int a1), .inl (.int a2)] S (some (.inl (.int r))) Z) {S Z : AS} {r : Int32} (h : b_X12_unit rec S = some (r, Z)) : ax_M l (d + 1) ma_X12_unit [.inr (12, 0)] S (some (.inl (.int r))) Z := by
  unfold b_X12_unit at h
  show ax_T l (d + 1) ma_X12_unit (0, [some (.inr (12, 0)), none, none], [], S) (some (.inl (.int r))) Z
  refine ax_Tgo [.aload_n 0] (pc' := 1) (L' := [some (.inr (12, 0)), none, none]) (st' := [.inr (12, 0)]) (S' := S) ok_X12_unit.1 (by decide +kernel) rfl rfl ?_
  obtain ⟨r4, S1, hq2, h⟩ := ax_bu_e h
  refine ax_TVi (d := d) (ka := 12) (i := 0) [] [] lk_X12_135 (by decide +kernel) rfl (by decide) rfl (Nat.le_of_ble_eq_true rfl) (Nat.le_of_ble_eq_true rfl) ((t_X12_look hq2).up (by omega)) ?_
  refine ax_Tgo [.istore_n 1, .iload_n 1, .bipush 33] (pc' := 8) (L' := [some (.inr (12, 0)), some (.inl (.int r4)), none]) (st' := [.inl (.int (33 : Int32)), .inl (.int r4)]) (S' := S1) ok_X12_unit.1 (by decide +kernel) rfl rfl ?_
  refine ax_Tic_ne (off := 37) (tgt := 45) (by decide +kernel) (by decide) (fun c5 => ?_) (fun c5 => ?_)
  · rw [if_neg c5] at h
    refine ax_Tgo [.iload_n 1, .bipush 40] (pc' := 48) (L' := [some (.inr (12, 0)), some (.inl (.int r4)), none]) (st' := [.inl (.int (40 : Int32)), .inl (.int r4)]) (S' := S1) ok_X12_unit.1 (by decide +kernel) rfl rfl ?_
    refine ax_Tic_ne (off := 42) (tgt := 90) (by decide +kernel) (by decide) (fun c6 => ?_) (fun c6 => ?_)
    · rw [if_neg c6] at h
      refine ax_Tgo [.aload_n 0, .iconst 0, .iconst 0] (pc' := 93) (L' := [some (.inr (12, 0)), some (.inl (.int r4)), none]) (st' := [.inl (.int (0 : Int32)), .inl (.int (0 : Int32)), .inr (12, 0)]) (S' := S1) ok_X12_unit.1 (by decide +kernel) rfl rfl ?_
      obtain ⟨r10, S7, hq8, h⟩ := ax_bu_e h
      refine ax_TVi (d := d) (ka := 12) (i := 0) [.inl (.int (0 : Int32)), .inl (.int (0 : Int32))] [] lk_X12_188 (by decide +kernel) rfl (by decide) rfl (Nat.le_of_ble_eq_true rfl) (Nat.le_of_ble_eq_true rfl) (hrec_3 hq8) ?_
      obtain ⟨g11, h⟩ := ax_gd_e h
      cases h
      exact ax_Tretz (by decide +kernel) rfl g11
    · rw [if_pos c6] at h
      refine ax_Tgo [.aload_n 0] (pc' := 52) (L' := [some (.inr (12, 0)), some (.inl (.int r4)), none]) (st' := [.inr (12, 0)]) (S' := S1) ok_X12_unit.1 (by decide +kernel) rfl rfl ?_
      obtain ⟨r15, S12, hq13, h⟩ := ax_bu_e h
      refine ax_TVi (d := d) (ka := 12) (i := 0) [] [] lk_X12_155 (by decide +kernel) rfl (by decide) rfl (Nat.le_of_ble_eq_true rfl) (Nat.le_of_ble_eq_true rfl) ((t_X12_goesIn hq13).up (by omega)) ?_
      refine ax_Tif_ne (off := 5) (tgt := 60) (by decide +kernel) (by decide) (fun c16 => ?_) (fun c16 => ?_)
      · rw [if_neg c16] at h
        refine ax_Tgo [.aload_n 0, .iconst 0, .iconst 0] (pc' := 63) (L' := [some (.inr (12, 0)), some (.inl (.int r4)), none]) (st' := [.inl (.int (0 : Int32)), .inl (.int (0 : Int32)), .inr (12, 0)]) (S' := S12) ok_X12_unit.1 (by decide +kernel) rfl rfl ?_
        obtain ⟨r20, S17, hq18, h⟩ := ax_bu_e h
        refine ax_TVi (d := d) (ka := 12) (i := 0) [.inl (.int (0 : Int32)), .inl (.int (0 : Int32))] [] lk_X12_184 (by decide +kernel) rfl (by decide) rfl (Nat.le_of_ble_eq_true rfl) (Nat.le_of_ble_eq_true rfl) (hrec_6 hq18) ?_
        refine ax_Tgo [.istore_n 2, .aload_n 0, .bipush 41] (pc' := 70) (L' := [some (.inr (12, 0)), some (.inl (.int r4)), some (.inl (.int r20))]) (st' := [.inl (.int (41 : Int32)), .inr (12, 0)]) (S' := S17) ok_X12_unit.1 (by decide +kernel) rfl rfl ?_
        obtain ⟨r24, S21, hq22, h⟩ := ax_bu_e h
        refine ax_TVi (d := d) (ka := 12) (i := 0) [.inl (.int (41 : Int32))] [] lk_X12_161 (by decide +kernel) rfl (by decide) rfl (Nat.le_of_ble_eq_true rfl) (Nat.le_of_ble_eq_true rfl) ((t_X12_takes hq22).up (by omega)) ?_
        refine ax_Tif_ne (off := 5) (tgt := 78) (by decide +kernel) (by decide) (fun c25 => ?_) (fun c25 => ?_)
        · rw [if_neg c25] at h
          refine ax_Tgo [.aload_n 0, .dup, .getfield 128, .iconst 1, .isub, .putfield 128] (pc' := 88) (L' := [some (.inr (12, 0)), some (.inl (.int r4)), some (.inl (.int r20))]) (st' := []) (S' := (ax_sfi S21 12 0 12 ((ax_fi S21 12 0 12) - (1 : Int32)))) ok_X12_unit.1 (by decide +kernel) rfl rfl ?_
          obtain ⟨S26, eS26, h⟩ := ax_let_e h
          rw [eS26]
          refine ax_Tgo [.iload_n 2] (pc' := 89) (L' := [some (.inr (12, 0)), some (.inl (.int r4)), some (.inl (.int r20))]) (st' := [.inl (.int r20)]) (S' := S26) ok_X12_unit.1 (by decide +kernel) rfl rfl ?_
          obtain ⟨g27, h⟩ := ax_gd_e h
          cases h
          exact ax_Tretz (by decide +kernel) rfl g27
        · rw [if_pos c25] at h
          refine ax_Tgo [.iconst 0] (pc' := 77) (L' := [some (.inr (12, 0)), some (.inl (.int r4)), some (.inl (.int r20))]) (st' := [.inl (.int (0 : Int32))]) (S' := S21) ok_X12_unit.1 (by decide +kernel) rfl rfl ?_
          cases h
          exact ax_Treti (by decide +kernel) rfl rfl
      · rw [if_pos c16] at h
        refine ax_Tgo [.iconst 0] (pc' := 59) (L' := [some (.inr (12, 0)), some (.inl (.int r4)), none]) (st' := [.inl (.int (0 : Int32))]) (S' := S12) ok_X12_unit.1 (by decide +kernel) rfl rfl ?_
        cases h
        exact ax_Treti (by decide +kernel) rfl rfl
  · rw [if_pos c5] at h
    refine ax_Tgo [.aload_n 0] (pc' := 12) (L' := [some (.inr (12, 0)), some (.inl (.int r4)), none]) (st' := [.inr (12, 0)]) (S' := S1) ok_X12_unit.1 (by decide +kernel) rfl rfl ?_
    obtain ⟨r31, S28, hq29, h⟩ := ax_bu_e h
    refine ax_TVi (d := d) (ka := 12) (i := 0) [] [] lk_X12_155 (by decide +kernel) rfl (by decide) rfl (Nat.le_of_ble_eq_true rfl) (Nat.le_of_ble_eq_true rfl) ((t_X12_goesIn hq29).up (by omega)) ?_
    refine ax_Tif_ne (off := 5) (tgt := 20) (by decide +kernel) (by decide) (fun c32 => ?_) (fun c32 => ?_)
    · rw [if_neg c32] at h
      refine ax_Tgo [.aload_n 0] (pc' := 21) (L' := [some (.inr (12, 0)), some (.inl (.int r4)), none]) (st' := [.inr (12, 0)]) (S' := S28) ok_X12_unit.1 (by decide +kernel) rfl rfl ?_
      obtain ⟨r36, S33, hq34, h⟩ := ax_bu_e h
      refine ax_TVi (d := d) (ka := 12) (i := 0) [] [] lk_X12_181 (by decide +kernel) rfl (by decide) rfl (Nat.le_of_ble_eq_true rfl) (Nat.le_of_ble_eq_true rfl) (hrec_4 hq34) ?_
      refine ax_Tgo [.istore_n 2, .aload_n 0, .dup, .getfield 128, .iconst 1, .isub, .putfield 128] (pc' := 35) (L' := [some (.inr (12, 0)), some (.inl (.int r4)), some (.inl (.int r36))]) (st' := []) (S' := (ax_sfi S33 12 0 12 ((ax_fi S33 12 0 12) - (1 : Int32)))) ok_X12_unit.1 (by decide +kernel) rfl rfl ?_
      obtain ⟨S37, eS37, h⟩ := ax_let_e h
      rw [eS37]
      refine ax_Tgo [.iload_n 2] (pc' := 36) (L' := [some (.inr (12, 0)), some (.inl (.int r4)), some (.inl (.int r36))]) (st' := [.inl (.int r36)]) (S' := S37) ok_X12_unit.1 (by decide +kernel) rfl rfl ?_
      refine ax_Tif_ne (off := 7) (tgt := 43) (by decide +kernel) (by decide) (fun c38 => ?_) (fun c38 => ?_)
      · rw [if_neg c38] at h
        refine ax_Tgo [.iconst 0] (pc' := 44) (L' := [some (.inr (12, 0)), some (.inl (.int r4)), some (.inl (.int r36))]) (st' := [.inl (.int (0 : Int32))]) (S' := S37) ok_X12_unit.1 (by decide +kernel) rfl rfl ?_
        cases h
        exact ax_Treti (by decide +kernel) rfl rfl
      · rw [if_pos c38] at h
        refine ax_Tgo [.iconst 1] (pc' := 40) (L' := [some (.inr (12, 0)), some (.inl (.int r4)), some (.inl (.int r36))]) (st' := [.inl (.int (1 : Int32))]) (S' := S37) ok_X12_unit.1 (by decide +kernel) rfl rfl ?_
        refine ax_Tgoto (off := 4) (tgt := 44) (by decide +kernel) (by decide) ?_
        cases h
        exact ax_Treti (by decide +kernel) rfl rfl
    · rw [if_pos c32] at h
      refine ax_Tgo [.iconst 0] (pc' := 19) (L' := [some (.inr (12, 0)), some (.inl (.int r4)), none]) (st' := [.inl (.int (0 : Int32))]) (S' := S28) ok_X12_unit.1 (by decide +kernel) rfl rfl ?_
      cases h
      exact ax_Treti (by decide +kernel) rfl rfl
set_option maxRecDepth 100000 in
theorem t_X12_part_L18 {l : Launch} {d : Nat} (hd : 5 ≤ d) {rec : Nat → Int32 → Int32 → AS → Option (Int32 × AS)} (hrec_0 : ∀ {S Z : AS} {r : Int32}, rec 0 (0 : Int32) (0 : Int32) S = some (r, Z) → ax_M l d ma_X12_atom [.inr (12, 0)] S (some (.inl (.int r))) Z) (hrec_1 : ∀ {S Z : AS} {r : Int32}, rec 1 (0 : Int32) (0 : Int32) S = some (r, Z) → ax_M l d ma_X12_term [.inr (12, 0)] S (some (.inl (.int r))) Z) (hrec_2 : ∀ {S Z : AS} {r : Int32}, rec 2 (0 : Int32) (0 : Int32) S = some (r, Z) → ax_M l d ma_X12_sum [.inr (12, 0)] S (some (.inl (.int r))) Z) (hrec_3 : ∀ {a1 : Int32} {a2 : Int32} {S Z : AS} {r : Int32}, rec 3 a1 a2 S = some (r, Z) → ax_M l d ma_X12_compares [.inr (12, 0), .inl (.int a1), .inl (.int a2)] S (some (.inl (.int r))) Z) (hrec_4 : ∀ {S Z : AS} {r : Int32}, rec 4 (0 : Int32) (0 : Int32) S = some (r, Z) → ax_M l d ma_X12_unit [.inr (12, 0)] S (some (.inl (.int r))) Z) (hrec_5 : ∀ {a1 : Int32} {a2 : Int32} {S Z : AS} {r : Int32}, rec 5 a1 a2 S = some (r, Z) → ax_M l d ma_X12_part [.inr (12, 0), .inl (.int a1), .inl (.int a2)] S (some (.inl (.int r))) Z) (hrec_6 : ∀ {a1 : Int32} {a2 : Int32} {S Z : AS} {r : Int32}, rec 6 a1 a2 S = some (r, Z) → ax_M l d ma_X12_condition [.inr (12, 0), .inl (.int a1), .inl (.int a2)] S (some (.inl (.int r))) Z) {K69 : Int32 → AS → Option (Int32 × AS)} (hK69 : ∀ (x7 : Int32) (S : AS) r Z, K69 x7 S = some (r, Z) → ax_T l (d + 1) ma_X12_part (69, [none, none, none, some (.inl (.int x7)), none], [], S) (some (.inl (.int r))) Z) : ∀ (n : Nat) (x6 : Int32) (S8 : AS) r Z, f_X12_part_L18 rec K69 n x6 S8 = some (r, Z) → ax_T l (d + 1) ma_X12_part (18, [some (.inr (12, 0)), none, none, some (.inl (.int x6)), none], [], S8) (some (.inl (.int r))) Z := by
  intro n
  induction n with
  | zero =>
    intro x6 S8 r Z h
    cases h
  | succ n ih =>
    intro x6 S8 r Z h
    unfold f_X12_part_L18 at h
    refine ax_Tgo [.aload_n 0, .getfield 125, .iconst (-1)] (pc' := 23) (L' := [some (.inr (12, 0)), none, none, some (.inl (.int x6)), none]) (st' := [.inl (.int (Int32.ofInt (-1))), .inl (.int (ax_fi S8 12 0 11))]) (S' := S8) ok_X12_part.1 (by decide +kernel) rfl rfl ?_
    refine ax_Tic_ne (off := 46) (tgt := 69) (by decide +kernel) (by decide) (fun c9 => ?_) (fun c9 => ?_)
    · rw [if_neg c9] at h
      refine ax_Tdrop [false, true, true, true, true] (L' := [none, none, none, some (.inl (.int x6)), none]) rfl ?_
      exact hK69 x6 S8 _ _ h
    · rw [if_pos c9] at h
      refine ax_Tgo [.aload_n 0] (pc' := 27) (L' := [some (.inr (12, 0)), none, none, some (.inl (.int x6)), none]) (st' := [.inr (12, 0)]) (S' := S8) ok_X12_part.1 (by decide +kernel) rfl rfl ?_
      obtain ⟨r13, S10, hq11, h⟩ := ax_bu_e h
      refine ax_TVi (d := d) (ka := 12) (i := 0) [] [] lk_X12_135 (by decide +kernel) rfl (by decide) rfl (Nat.le_of_ble_eq_true rfl) (Nat.le_of_ble_eq_true rfl) ((t_X12_look hq11).up (by omega)) ?_
      refine ax_Tgo [.bipush 38] (pc' := 32) (L' := [some (.inr (12, 0)), none, none, some (.inl (.int x6)), none]) (st' := [.inl (.int (38 : Int32)), .inl (.int r13)]) (S' := S10) ok_X12_part.1 (by decide +kernel) rfl rfl ?_
      refine ax_Tic_ne (off := 37) (tgt := 69) (by decide +kernel) (by decide) (fun c14 => ?_) (fun c14 => ?_)
      · rw [if_neg c14] at h
        refine ax_Tdrop [false, true, true, true, true] (L' := [none, none, none, some (.inl (.int x6)), none]) rfl ?_
        exact hK69 x6 S10 _ _ h
      · rw [if_pos c14] at h
        refine ax_Tgo [.aload_n 0, .dup, .getfield 116, .iconst 1, .iadd, .putfield 116] (pc' := 45) (L' := [some (.inr (12, 0)), none, none, some (.inl (.int x6)), none]) (st' := []) (S' := (ax_sfi S10 12 0 10 ((ax_fi S10 12 0 10) + (1 : Int32)))) ok_X12_part.1 (by decide +kernel) rfl rfl ?_
        obtain ⟨S15, eS15, h⟩ := ax_let_e h
        rw [eS15]
        refine ax_Tgo [.aload_n 0] (pc' := 46) (L' := [some (.inr (12, 0)), none, none, some (.inl (.int x6)), none]) (st' := [.inr (12, 0)]) (S' := S15) ok_X12_part.1 (by decide +kernel) rfl rfl ?_
        obtain ⟨r19, S16, hq17, h⟩ := ax_bu_e h
        refine ax_TVi (d := d) (ka := 12) (i := 0) [] [] lk_X12_181 (by decide +kernel) rfl (by decide) rfl (Nat.le_of_ble_eq_true rfl) (Nat.le_of_ble_eq_true rfl) (hrec_4 hq17) ?_
        refine ax_Tgo [.istore 4, .iload_n 3] (pc' := 52) (L' := [some (.inr (12, 0)), none, none, some (.inl (.int x6)), some (.inl (.int r19))]) (st' := [.inl (.int x6)]) (S' := S16) ok_X12_part.1 (by decide +kernel) rfl rfl ?_
        refine ax_Tif_eq (off := 12) (tgt := 64) (by decide +kernel) (by decide) (fun c20 => ?_) (fun c20 => ?_)
        · rw [if_pos c20] at h
          refine ax_Tgo [.iconst 0, .istore_n 3] (pc' := 66) (L' := [some (.inr (12, 0)), none, none, some (.inl (.int (0 : Int32))), some (.inl (.int r19))]) (st' := []) (S' := S16) ok_X12_part.1 (by decide +kernel) rfl rfl ?_
          refine ax_Tgoto (off := (-48)) (tgt := 18) (by decide +kernel) (by decide) ?_
          refine ax_Tdrop [true, true, true, true, false] (L' := [some (.inr (12, 0)), none, none, some (.inl (.int (0 : Int32))), none]) rfl ?_
          exact ih (0 : Int32) S16 _ _ h
        · rw [if_neg c20] at h
          refine ax_Tgo [.iload 4] (pc' := 57) (L' := [some (.inr (12, 0)), none, none, some (.inl (.int x6)), some (.inl (.int r19))]) (st' := [.inl (.int r19)]) (S' := S16) ok_X12_part.1 (by decide +kernel) rfl rfl ?_
          refine ax_Tif_eq (off := 7) (tgt := 64) (by decide +kernel) (by decide) (fun c21 => ?_) (fun c21 => ?_)
          · rw [if_pos c21] at h
            refine ax_Tgo [.iconst 0, .istore_n 3] (pc' := 66) (L' := [some (.inr (12, 0)), none, none, some (.inl (.int (0 : Int32))), some (.inl (.int r19))]) (st' := []) (S' := S16) ok_X12_part.1 (by decide +kernel) rfl rfl ?_
            refine ax_Tgoto (off := (-48)) (tgt := 18) (by decide +kernel) (by decide) ?_
            refine ax_Tdrop [true, true, true, true, false] (L' := [some (.inr (12, 0)), none, none, some (.inl (.int (0 : Int32))), none]) rfl ?_
            exact ih (0 : Int32) S16 _ _ h
          · rw [if_neg c21] at h
            refine ax_Tgo [.iconst 1] (pc' := 61) (L' := [some (.inr (12, 0)), none, none, some (.inl (.int x6)), some (.inl (.int r19))]) (st' := [.inl (.int (1 : Int32))]) (S' := S16) ok_X12_part.1 (by decide +kernel) rfl rfl ?_
            refine ax_Tgoto (off := 4) (tgt := 65) (by decide +kernel) (by decide) ?_
            refine ax_Tgo [.istore_n 3] (pc' := 66) (L' := [some (.inr (12, 0)), none, none, some (.inl (.int (1 : Int32))), some (.inl (.int r19))]) (st' := []) (S' := S16) ok_X12_part.1 (by decide +kernel) rfl rfl ?_
            refine ax_Tgoto (off := (-48)) (tgt := 18) (by decide +kernel) (by decide) ?_
            refine ax_Tdrop [true, true, true, true, false] (L' := [some (.inr (12, 0)), none, none, some (.inl (.int (1 : Int32))), none]) rfl ?_
            exact ih (1 : Int32) S16 _ _ h
set_option maxRecDepth 100000 in
theorem tb_X12_part {l : Launch} {d : Nat} (hd : 5 ≤ d) {rec : Nat → Int32 → Int32 → AS → Option (Int32 × AS)} (hrec_0 : ∀ {S Z : AS} {r : Int32}, rec 0 (0 : Int32) (0 : Int32) S = some (r, Z) → ax_M l d ma_X12_atom [.inr (12, 0)] S (some (.inl (.int r))) Z) (hrec_1 : ∀ {S Z : AS} {r : Int32}, rec 1 (0 : Int32) (0 : Int32) S = some (r, Z) → ax_M l d ma_X12_term [.inr (12, 0)] S (some (.inl (.int r))) Z) (hrec_2 : ∀ {S Z : AS} {r : Int32}, rec 2 (0 : Int32) (0 : Int32) S = some (r, Z) → ax_M l d ma_X12_sum [.inr (12, 0)] S (some (.inl (.int r))) Z) (hrec_3 : ∀ {a1 : Int32} {a2 : Int32} {S Z : AS} {r : Int32}, rec 3 a1 a2 S = some (r, Z) → ax_M l d ma_X12_compares [.inr (12, 0), .inl (.int a1), .inl (.int a2)] S (some (.inl (.int r))) Z) (hrec_4 : ∀ {S Z : AS} {r : Int32}, rec 4 (0 : Int32) (0 : Int32) S = some (r, Z) → ax_M l d ma_X12_unit [.inr (12, 0)] S (some (.inl (.int r))) Z) (hrec_5 : ∀ {a1 : Int32} {a2 : Int32} {S Z : AS} {r : Int32}, rec 5 a1 a2 S = some (r, Z) → ax_M l d ma_X12_part [.inr (12, 0), .inl (.int a1), .inl (.int a2)] S (some (.inl (.int r))) Z) (hrec_6 : ∀ {a1 : Int32} {a2 : Int32} {S Z : AS} {r : Int32}, rec 6 a1 a2 S = some (r, Z) → ax_M l d ma_X12_condition [.inr (12, 0), .inl (.int a1), .inl (.int a2)] S (some (.inl (.int r))) Z) {a1 : Int32} {a2 : Int32} {S Z : AS} {r : Int32} (h : b_X12_part rec a1 a2 S = some (r, Z)) : ax_M l (d + 1) ma_X12_part [.inr (12, 0), .inl (.int a1), .inl (.int a2)] S (some (.inl (.int r))) Z := by
  unfold b_X12_part at h
  show ax_T l (d + 1) ma_X12_part (0, [some (.inr (12, 0)), some (.inl (.int a1)), some (.inl (.int a2)), none, none], [], S) (some (.inl (.int r))) Z
  refine ax_Tgo [.iload_n 1] (pc' := 1) (L' := [some (.inr (12, 0)), some (.inl (.int a1)), some (.inl (.int a2)), none, none]) (st' := [.inl (.int a1)]) (S' := S) ok_X12_part.1 (by decide +kernel) rfl rfl ?_
  refine ax_Tif_eq (off := 12) (tgt := 13) (by decide +kernel) (by decide) (fun c1 => ?_) (fun c1 => ?_)
  · rw [if_pos c1] at h
    refine ax_Tgo [.aload_n 0] (pc' := 14) (L' := [some (.inr (12, 0)), some (.inl (.int a1)), some (.inl (.int a2)), none, none]) (st' := [.inr (12, 0)]) (S' := S) ok_X12_part.1 (by decide +kernel) rfl rfl ?_
    obtain ⟨r5, S2, hq3, h⟩ := ax_bu_e h
    refine ax_TVi (d := d) (ka := 12) (i := 0) [] [] lk_X12_181 (by decide +kernel) rfl (by decide) rfl (Nat.le_of_ble_eq_true rfl) (Nat.le_of_ble_eq_true rfl) (hrec_4 hq3) ?_
    refine ax_Tgo [.istore_n 3] (pc' := 18) (L' := [some (.inr (12, 0)), some (.inl (.int a1)), some (.inl (.int a2)), some (.inl (.int r5)), none]) (st' := []) (S' := S2) ok_X12_part.1 (by decide +kernel) rfl rfl ?_
    refine ax_Tdrop [true, false, false, true, true] (L' := [some (.inr (12, 0)), none, none, some (.inl (.int r5)), none]) rfl ?_
    refine t_X12_part_L18 hd hrec_0 hrec_1 hrec_2 hrec_3 hrec_4 hrec_5 hrec_6 ?_ _ r5 S2 _ _ h
    · intro x7 S22 r Z h
      refine ax_Tgo [.iload_n 3] (pc' := 70) (L' := [none, none, none, some (.inl (.int x7)), none]) (st' := [.inl (.int x7)]) (S' := S22) ok_X12_part.1 (by decide +kernel) rfl rfl ?_
      obtain ⟨g23, h⟩ := ax_gd_e h
      cases h
      exact ax_Tretz (by decide +kernel) rfl g23
  · rw [if_neg c1] at h
    refine ax_Tgo [.aload_n 0, .iconst 1, .iload_n 2] (pc' := 7) (L' := [some (.inr (12, 0)), some (.inl (.int a1)), some (.inl (.int a2)), none, none]) (st' := [.inl (.int a2), .inl (.int (1 : Int32)), .inr (12, 0)]) (S' := S) ok_X12_part.1 (by decide +kernel) rfl rfl ?_
    obtain ⟨r27, S24, hq25, h⟩ := ax_bu_e h
    refine ax_TVi (d := d) (ka := 12) (i := 0) [.inl (.int (1 : Int32)), .inl (.int a2)] [] lk_X12_188 (by decide +kernel) rfl (by decide) rfl (Nat.le_of_ble_eq_true rfl) (Nat.le_of_ble_eq_true rfl) (hrec_3 hq25) ?_
    refine ax_Tgoto (off := 7) (tgt := 17) (by decide +kernel) (by decide) ?_
    refine ax_Tgo [.istore_n 3] (pc' := 18) (L' := [some (.inr (12, 0)), some (.inl (.int a1)), some (.inl (.int a2)), some (.inl (.int r27)), none]) (st' := []) (S' := S24) ok_X12_part.1 (by decide +kernel) rfl rfl ?_
    refine ax_Tdrop [true, false, false, true, true] (L' := [some (.inr (12, 0)), none, none, some (.inl (.int r27)), none]) rfl ?_
    refine t_X12_part_L18 hd hrec_0 hrec_1 hrec_2 hrec_3 hrec_4 hrec_5 hrec_6 ?_ _ r27 S24 _ _ h
    · intro x7 S29 r Z h
      refine ax_Tgo [.iload_n 3] (pc' := 70) (L' := [none, none, none, some (.inl (.int x7)), none]) (st' := [.inl (.int x7)]) (S' := S29) ok_X12_part.1 (by decide +kernel) rfl rfl ?_
      obtain ⟨g30, h⟩ := ax_gd_e h
      cases h
      exact ax_Tretz (by decide +kernel) rfl g30
set_option maxRecDepth 100000 in
theorem t_X12_condition_L7 {l : Launch} {d : Nat} (hd : 5 ≤ d) {rec : Nat → Int32 → Int32 → AS → Option (Int32 × AS)} (hrec_0 : ∀ {S Z : AS} {r : Int32}, rec 0 (0 : Int32) (0 : Int32) S = some (r, Z) → ax_M l d ma_X12_atom [.inr (12, 0)] S (some (.inl (.int r))) Z) (hrec_1 : ∀ {S Z : AS} {r : Int32}, rec 1 (0 : Int32) (0 : Int32) S = some (r, Z) → ax_M l d ma_X12_term [.inr (12, 0)] S (some (.inl (.int r))) Z) (hrec_2 : ∀ {S Z : AS} {r : Int32}, rec 2 (0 : Int32) (0 : Int32) S = some (r, Z) → ax_M l d ma_X12_sum [.inr (12, 0)] S (some (.inl (.int r))) Z) (hrec_3 : ∀ {a1 : Int32} {a2 : Int32} {S Z : AS} {r : Int32}, rec 3 a1 a2 S = some (r, Z) → ax_M l d ma_X12_compares [.inr (12, 0), .inl (.int a1), .inl (.int a2)] S (some (.inl (.int r))) Z) (hrec_4 : ∀ {S Z : AS} {r : Int32}, rec 4 (0 : Int32) (0 : Int32) S = some (r, Z) → ax_M l d ma_X12_unit [.inr (12, 0)] S (some (.inl (.int r))) Z) (hrec_5 : ∀ {a1 : Int32} {a2 : Int32} {S Z : AS} {r : Int32}, rec 5 a1 a2 S = some (r, Z) → ax_M l d ma_X12_part [.inr (12, 0), .inl (.int a1), .inl (.int a2)] S (some (.inl (.int r))) Z) (hrec_6 : ∀ {a1 : Int32} {a2 : Int32} {S Z : AS} {r : Int32}, rec 6 a1 a2 S = some (r, Z) → ax_M l d ma_X12_condition [.inr (12, 0), .inl (.int a1), .inl (.int a2)] S (some (.inl (.int r))) Z) {K60 : Int32 → AS → Option (Int32 × AS)} (hK60 : ∀ (x6 : Int32) (S : AS) r Z, K60 x6 S = some (r, Z) → ax_T l (d + 1) ma_X12_condition (60, [none, none, none, some (.inl (.int x6)), none], [], S) (some (.inl (.int r))) Z) : ∀ (n : Nat) (x5 : Int32) (S7 : AS) r Z, f_X12_condition_L7 rec K60 n x5 S7 = some (r, Z) → ax_T l (d + 1) ma_X12_condition (7, [some (.inr (12, 0)), none, none, some (.inl (.int x5)), none], [], S7) (some (.inl (.int r))) Z := by
  intro n
  induction n with
  | zero =>
    intro x5 S7 r Z h
    cases h
  | succ n ih =>
    intro x5 S7 r Z h
    unfold f_X12_condition_L7 at h
    refine ax_Tgo [.aload_n 0, .getfield 125, .iconst (-1)] (pc' := 12) (L' := [some (.inr (12, 0)), none, none, some (.inl (.int x5)), none]) (st' := [.inl (.int (Int32.ofInt (-1))), .inl (.int (ax_fi S7 12 0 11))]) (S' := S7) ok_X12_condition.1 (by decide +kernel) rfl rfl ?_
    refine ax_Tic_ne (off := 48) (tgt := 60) (by decide +kernel) (by decide) (fun c8 => ?_) (fun c8 => ?_)
    · rw [if_neg c8] at h
      refine ax_Tdrop [false, true, true, true, true] (L' := [none, none, none, some (.inl (.int x5)), none]) rfl ?_
      exact hK60 x5 S7 _ _ h
    · rw [if_pos c8] at h
      refine ax_Tgo [.aload_n 0] (pc' := 16) (L' := [some (.inr (12, 0)), none, none, some (.inl (.int x5)), none]) (st' := [.inr (12, 0)]) (S' := S7) ok_X12_condition.1 (by decide +kernel) rfl rfl ?_
      obtain ⟨r12, S9, hq10, h⟩ := ax_bu_e h
      refine ax_TVi (d := d) (ka := 12) (i := 0) [] [] lk_X12_135 (by decide +kernel) rfl (by decide) rfl (Nat.le_of_ble_eq_true rfl) (Nat.le_of_ble_eq_true rfl) ((t_X12_look hq10).up (by omega)) ?_
      refine ax_Tgo [.bipush 124] (pc' := 21) (L' := [some (.inr (12, 0)), none, none, some (.inl (.int x5)), none]) (st' := [.inl (.int (124 : Int32)), .inl (.int r12)]) (S' := S9) ok_X12_condition.1 (by decide +kernel) rfl rfl ?_
      refine ax_Tic_ne (off := 39) (tgt := 60) (by decide +kernel) (by decide) (fun c13 => ?_) (fun c13 => ?_)
      · rw [if_neg c13] at h
        refine ax_Tdrop [false, true, true, true, true] (L' := [none, none, none, some (.inl (.int x5)), none]) rfl ?_
        exact hK60 x5 S9 _ _ h
      · rw [if_pos c13] at h
        refine ax_Tgo [.aload_n 0, .dup, .getfield 116, .iconst 1, .iadd, .putfield 116] (pc' := 34) (L' := [some (.inr (12, 0)), none, none, some (.inl (.int x5)), none]) (st' := []) (S' := (ax_sfi S9 12 0 10 ((ax_fi S9 12 0 10) + (1 : Int32)))) ok_X12_condition.1 (by decide +kernel) rfl rfl ?_
        obtain ⟨S14, eS14, h⟩ := ax_let_e h
        rw [eS14]
        refine ax_Tgo [.aload_n 0, .iconst 0, .iconst 0] (pc' := 37) (L' := [some (.inr (12, 0)), none, none, some (.inl (.int x5)), none]) (st' := [.inl (.int (0 : Int32)), .inl (.int (0 : Int32)), .inr (12, 0)]) (S' := S14) ok_X12_condition.1 (by decide +kernel) rfl rfl ?_
        obtain ⟨r18, S15, hq16, h⟩ := ax_bu_e h
        refine ax_TVi (d := d) (ka := 12) (i := 0) [.inl (.int (0 : Int32)), .inl (.int (0 : Int32))] [] lk_X12_191 (by decide +kernel) rfl (by decide) rfl (Nat.le_of_ble_eq_true rfl) (Nat.le_of_ble_eq_true rfl) (hrec_5 hq16) ?_
        refine ax_Tgo [.istore 4, .iload_n 3] (pc' := 43) (L' := [some (.inr (12, 0)), none, none, some (.inl (.int x5)), some (.inl (.int r18))]) (st' := [.inl (.int x5)]) (S' := S15) ok_X12_condition.1 (by decide +kernel) rfl rfl ?_
        refine ax_Tif_ne (off := 8) (tgt := 51) (by decide +kernel) (by decide) (fun c19 => ?_) (fun c19 => ?_)
        · rw [if_neg c19] at h
          refine ax_Tgo [.iconst 1] (pc' := 52) (L' := [some (.inr (12, 0)), none, none, some (.inl (.int x5)), some (.inl (.int r18))]) (st' := [.inl (.int (1 : Int32))]) (S' := S15) ok_X12_condition.1 (by decide +kernel) rfl rfl ?_
          refine ax_Tgoto (off := 4) (tgt := 56) (by decide +kernel) (by decide) ?_
          refine ax_Tgo [.istore_n 3] (pc' := 57) (L' := [some (.inr (12, 0)), none, none, some (.inl (.int (1 : Int32))), some (.inl (.int r18))]) (st' := []) (S' := S15) ok_X12_condition.1 (by decide +kernel) rfl rfl ?_
          refine ax_Tgoto (off := (-50)) (tgt := 7) (by decide +kernel) (by decide) ?_
          refine ax_Tdrop [true, true, true, true, false] (L' := [some (.inr (12, 0)), none, none, some (.inl (.int (1 : Int32))), none]) rfl ?_
          exact ih (1 : Int32) S15 _ _ h
        · rw [if_pos c19] at h
          refine ax_Tgo [.iload 4] (pc' := 48) (L' := [some (.inr (12, 0)), none, none, some (.inl (.int x5)), some (.inl (.int r18))]) (st' := [.inl (.int r18)]) (S' := S15) ok_X12_condition.1 (by decide +kernel) rfl rfl ?_
          refine ax_Tif_eq (off := 7) (tgt := 55) (by decide +kernel) (by decide) (fun c20 => ?_) (fun c20 => ?_)
          · rw [if_pos c20] at h
            refine ax_Tgo [.iconst 0, .istore_n 3] (pc' := 57) (L' := [some (.inr (12, 0)), none, none, some (.inl (.int (0 : Int32))), some (.inl (.int r18))]) (st' := []) (S' := S15) ok_X12_condition.1 (by decide +kernel) rfl rfl ?_
            refine ax_Tgoto (off := (-50)) (tgt := 7) (by decide +kernel) (by decide) ?_
            refine ax_Tdrop [true, true, true, true, false] (L' := [some (.inr (12, 0)), none, none, some (.inl (.int (0 : Int32))), none]) rfl ?_
            exact ih (0 : Int32) S15 _ _ h
          · rw [if_neg c20] at h
            refine ax_Tgo [.iconst 1] (pc' := 52) (L' := [some (.inr (12, 0)), none, none, some (.inl (.int x5)), some (.inl (.int r18))]) (st' := [.inl (.int (1 : Int32))]) (S' := S15) ok_X12_condition.1 (by decide +kernel) rfl rfl ?_
            refine ax_Tgoto (off := 4) (tgt := 56) (by decide +kernel) (by decide) ?_
            refine ax_Tgo [.istore_n 3] (pc' := 57) (L' := [some (.inr (12, 0)), none, none, some (.inl (.int (1 : Int32))), some (.inl (.int r18))]) (st' := []) (S' := S15) ok_X12_condition.1 (by decide +kernel) rfl rfl ?_
            refine ax_Tgoto (off := (-50)) (tgt := 7) (by decide +kernel) (by decide) ?_
            refine ax_Tdrop [true, true, true, true, false] (L' := [some (.inr (12, 0)), none, none, some (.inl (.int (1 : Int32))), none]) rfl ?_
            exact ih (1 : Int32) S15 _ _ h
set_option maxRecDepth 100000 in
theorem tb_X12_condition {l : Launch} {d : Nat} (hd : 5 ≤ d) {rec : Nat → Int32 → Int32 → AS → Option (Int32 × AS)} (hrec_0 : ∀ {S Z : AS} {r : Int32}, rec 0 (0 : Int32) (0 : Int32) S = some (r, Z) → ax_M l d ma_X12_atom [.inr (12, 0)] S (some (.inl (.int r))) Z) (hrec_1 : ∀ {S Z : AS} {r : Int32}, rec 1 (0 : Int32) (0 : Int32) S = some (r, Z) → ax_M l d ma_X12_term [.inr (12, 0)] S (some (.inl (.int r))) Z) (hrec_2 : ∀ {S Z : AS} {r : Int32}, rec 2 (0 : Int32) (0 : Int32) S = some (r, Z) → ax_M l d ma_X12_sum [.inr (12, 0)] S (some (.inl (.int r))) Z) (hrec_3 : ∀ {a1 : Int32} {a2 : Int32} {S Z : AS} {r : Int32}, rec 3 a1 a2 S = some (r, Z) → ax_M l d ma_X12_compares [.inr (12, 0), .inl (.int a1), .inl (.int a2)] S (some (.inl (.int r))) Z) (hrec_4 : ∀ {S Z : AS} {r : Int32}, rec 4 (0 : Int32) (0 : Int32) S = some (r, Z) → ax_M l d ma_X12_unit [.inr (12, 0)] S (some (.inl (.int r))) Z) (hrec_5 : ∀ {a1 : Int32} {a2 : Int32} {S Z : AS} {r : Int32}, rec 5 a1 a2 S = some (r, Z) → ax_M l d ma_X12_part [.inr (12, 0), .inl (.int a1), .inl (.int a2)] S (some (.inl (.int r))) Z) (hrec_6 : ∀ {a1 : Int32} {a2 : Int32} {S Z : AS} {r : Int32}, rec 6 a1 a2 S = some (r, Z) → ax_M l d ma_X12_condition [.inr (12, 0), .inl (.int a1), .inl (.int a2)] S (some (.inl (.int r))) Z) {a1 : Int32} {a2 : Int32} {S Z : AS} {r : Int32} (h : b_X12_condition rec a1 a2 S = some (r, Z)) : ax_M l (d + 1) ma_X12_condition [.inr (12, 0), .inl (.int a1), .inl (.int a2)] S (some (.inl (.int r))) Z := by
  unfold b_X12_condition at h
  show ax_T l (d + 1) ma_X12_condition (0, [some (.inr (12, 0)), some (.inl (.int a1)), some (.inl (.int a2)), none, none], [], S) (some (.inl (.int r))) Z
  refine ax_Tgo [.aload_n 0, .iload_n 1, .iload_n 2] (pc' := 3) (L' := [some (.inr (12, 0)), some (.inl (.int a1)), some (.inl (.int a2)), none, none]) (st' := [.inl (.int a2), .inl (.int a1), .inr (12, 0)]) (S' := S) ok_X12_condition.1 (by decide +kernel) rfl rfl ?_
  obtain ⟨r4, S1, hq2, h⟩ := ax_bu_e h
  refine ax_TVi (d := d) (ka := 12) (i := 0) [.inl (.int a1), .inl (.int a2)] [] lk_X12_191 (by decide +kernel) rfl (by decide) rfl (Nat.le_of_ble_eq_true rfl) (Nat.le_of_ble_eq_true rfl) (hrec_5 hq2) ?_
  refine ax_Tgo [.istore_n 3] (pc' := 7) (L' := [some (.inr (12, 0)), some (.inl (.int a1)), some (.inl (.int a2)), some (.inl (.int r4)), none]) (st' := []) (S' := S1) ok_X12_condition.1 (by decide +kernel) rfl rfl ?_
  refine ax_Tdrop [true, false, false, true, true] (L' := [some (.inr (12, 0)), none, none, some (.inl (.int r4)), none]) rfl ?_
  refine t_X12_condition_L7 hd hrec_0 hrec_1 hrec_2 hrec_3 hrec_4 hrec_5 hrec_6 ?_ _ r4 S1 _ _ h
  · intro x6 S21 r Z h
    refine ax_Tgo [.iload_n 3] (pc' := 61) (L' := [none, none, none, some (.inl (.int x6)), none]) (st' := [.inl (.int x6)]) (S' := S21) ok_X12_condition.1 (by decide +kernel) rfl rfl ?_
    obtain ⟨g22, h⟩ := ax_gd_e h
    cases h
    exact ax_Tretz (by decide +kernel) rfl g22
theorem tg_Parse {l : Launch} : ∀ (n : Nat), (∀ {S Z : AS} {r : Int32}, g_Parse n 0 (0 : Int32) (0 : Int32) S = some (r, Z) → ax_M l (n + 5) ma_X12_atom [.inr (12, 0)] S (some (.inl (.int r))) Z) ∧ (∀ {S Z : AS} {r : Int32}, g_Parse n 1 (0 : Int32) (0 : Int32) S = some (r, Z) → ax_M l (n + 5) ma_X12_term [.inr (12, 0)] S (some (.inl (.int r))) Z) ∧ (∀ {S Z : AS} {r : Int32}, g_Parse n 2 (0 : Int32) (0 : Int32) S = some (r, Z) → ax_M l (n + 5) ma_X12_sum [.inr (12, 0)] S (some (.inl (.int r))) Z) ∧ (∀ {a1 : Int32} {a2 : Int32} {S Z : AS} {r : Int32}, g_Parse n 3 a1 a2 S = some (r, Z) → ax_M l (n + 5) ma_X12_compares [.inr (12, 0), .inl (.int a1), .inl (.int a2)] S (some (.inl (.int r))) Z) ∧ (∀ {S Z : AS} {r : Int32}, g_Parse n 4 (0 : Int32) (0 : Int32) S = some (r, Z) → ax_M l (n + 5) ma_X12_unit [.inr (12, 0)] S (some (.inl (.int r))) Z) ∧ (∀ {a1 : Int32} {a2 : Int32} {S Z : AS} {r : Int32}, g_Parse n 5 a1 a2 S = some (r, Z) → ax_M l (n + 5) ma_X12_part [.inr (12, 0), .inl (.int a1), .inl (.int a2)] S (some (.inl (.int r))) Z) ∧ (∀ {a1 : Int32} {a2 : Int32} {S Z : AS} {r : Int32}, g_Parse n 6 a1 a2 S = some (r, Z) → ax_M l (n + 5) ma_X12_condition [.inr (12, 0), .inl (.int a1), .inl (.int a2)] S (some (.inl (.int r))) Z) := by
  intro n
  induction n with
  | zero =>
    refine ⟨?_, ?_, ?_, ?_, ?_, ?_, ?_⟩ <;> (intros; rename_i h; cases h)
  | succ n ih =>
    obtain ⟨q0, q1, q2, q3, q4, q5, q6⟩ := ih
    have hd : 5 ≤ n + 5 := by omega
    rw [show n + 1 + 5 = n + 5 + 1 by omega]
    refine ⟨?_, ?_, ?_, ?_, ?_, ?_, ?_⟩
    · intro S Z r h
      exact tb_X12_atom hd q0 q1 q2 q3 q4 q5 q6 h
    · intro S Z r h
      exact tb_X12_term hd q0 q1 q2 q3 q4 q5 q6 h
    · intro S Z r h
      exact tb_X12_sum hd q0 q1 q2 q3 q4 q5 q6 h
    · intro a1 a2 S Z r h
      exact tb_X12_compares hd q0 q1 q2 q3 q4 q5 q6 h
    · intro S Z r h
      exact tb_X12_unit hd q0 q1 q2 q3 q4 q5 q6 h
    · intro a1 a2 S Z r h
      exact tb_X12_part hd q0 q1 q2 q3 q4 q5 q6 h
    · intro a1 a2 S Z r h
      exact tb_X12_condition hd q0 q1 q2 q3 q4 q5 q6 h
theorem tg_Parse_0 {l : Launch} : ∀ {S Z : AS} {r : Int32}, g_Parse ax_D 0 (0 : Int32) (0 : Int32) S = some (r, Z) → ax_M l 69 ma_X12_atom [.inr (12, 0)] S (some (.inl (.int r))) Z := (tg_Parse ax_D).1
theorem tg_Parse_1 {l : Launch} : ∀ {S Z : AS} {r : Int32}, g_Parse ax_D 1 (0 : Int32) (0 : Int32) S = some (r, Z) → ax_M l 69 ma_X12_term [.inr (12, 0)] S (some (.inl (.int r))) Z := (tg_Parse ax_D).2.1
theorem tg_Parse_2 {l : Launch} : ∀ {S Z : AS} {r : Int32}, g_Parse ax_D 2 (0 : Int32) (0 : Int32) S = some (r, Z) → ax_M l 69 ma_X12_sum [.inr (12, 0)] S (some (.inl (.int r))) Z := (tg_Parse ax_D).2.2.1
theorem tg_Parse_3 {l : Launch} : ∀ {a1 : Int32} {a2 : Int32} {S Z : AS} {r : Int32}, g_Parse ax_D 3 a1 a2 S = some (r, Z) → ax_M l 69 ma_X12_compares [.inr (12, 0), .inl (.int a1), .inl (.int a2)] S (some (.inl (.int r))) Z := (tg_Parse ax_D).2.2.2.1
theorem tg_Parse_4 {l : Launch} : ∀ {S Z : AS} {r : Int32}, g_Parse ax_D 4 (0 : Int32) (0 : Int32) S = some (r, Z) → ax_M l 69 ma_X12_unit [.inr (12, 0)] S (some (.inl (.int r))) Z := (tg_Parse ax_D).2.2.2.2.1
theorem tg_Parse_5 {l : Launch} : ∀ {a1 : Int32} {a2 : Int32} {S Z : AS} {r : Int32}, g_Parse ax_D 5 a1 a2 S = some (r, Z) → ax_M l 69 ma_X12_part [.inr (12, 0), .inl (.int a1), .inl (.int a2)] S (some (.inl (.int r))) Z := (tg_Parse ax_D).2.2.2.2.2.1
theorem tg_Parse_6 {l : Launch} : ∀ {a1 : Int32} {a2 : Int32} {S Z : AS} {r : Int32}, g_Parse ax_D 6 a1 a2 S = some (r, Z) → ax_M l 69 ma_X12_condition [.inr (12, 0), .inl (.int a1), .inl (.int a2)] S (some (.inl (.int r))) Z := (tg_Parse ax_D).2.2.2.2.2.2
def f_X12_clause (S : AS) : Option (AS) := ax_bu (f_X12_look S) (fun (r4 : Int32) (S1 : AS) => (f_X12_isAmong_64x5 r4 S1).bind (fun (r8 : Int32) => (if r8 = (0 : Int32) then ax_bu (f_X12_fails S1) (fun (r108 : Int32) (S105 : AS) => some S105) else ax_let (ax_sfi S1 12 0 10 ((ax_fi S1 12 0 10) + (1 : Int32))) (fun (S10 : AS) => ax_bu (f_X12_takes (58 : Int32) S10) (fun (r14 : Int32) (S11 : AS) => (if r14 = (0 : Int32) then some S11 else ax_bu (f_X12_look S11) (fun (r19 : Int32) (S16 : AS) => (if r19 = (33 : Int32) then ax_bu (g_Parse ax_D 6 (0 : Int32) (0 : Int32) S16) (fun (r24 : Int32) (S21 : AS) => ax_bu (f_X12_takes (63 : Int32) S21) (fun (r28 : Int32) (S25 : AS) => (if r28 = (0 : Int32) then some S25 else ax_bu (g_Parse ax_D 2 (0 : Int32) (0 : Int32) S25) (fun (r33 : Int32) (S30 : AS) => (if (ax_fi S30 12 0 11) = (Int32.ofInt (-1)) then (if (ax_fi S30 12 0 17) = (0 : Int32) then (if r4 = (ax_fi S30 12 0 13) then (if r24 = (0 : Int32) then some S30 else ax_let (ax_sfi S30 12 0 17 (1 : Int32)) (fun (S38 : AS) => ax_let (ax_sfi S38 12 0 14 r33) (fun (S39 : AS) => some S39))) else some S30) else some S30) else some S30))))) else (if r19 = (40 : Int32) then ax_bu (g_Parse ax_D 6 (0 : Int32) (0 : Int32) S16) (fun (r89 : Int32) (S86 : AS) => ax_bu (f_X12_takes (63 : Int32) S86) (fun (r93 : Int32) (S90 : AS) => (if r93 = (0 : Int32) then some S90 else ax_bu (g_Parse ax_D 2 (0 : Int32) (0 : Int32) S90) (fun (r98 : Int32) (S95 : AS) => (if (ax_fi S95 12 0 11) = (Int32.ofInt (-1)) then (if (ax_fi S95 12 0 17) = (0 : Int32) then (if r4 = (ax_fi S95 12 0 13) then (if r89 = (0 : Int32) then some S95 else ax_let (ax_sfi S95 12 0 17 (1 : Int32)) (fun (S103 : AS) => ax_let (ax_sfi S103 12 0 14 r98) (fun (S104 : AS) => some S104))) else some S95) else some S95) else some S95))))) else ax_bu (g_Parse ax_D 2 (0 : Int32) (0 : Int32) S16) (fun (r44 : Int32) (S41 : AS) => (if (ax_fi S41 12 0 11) = (Int32.ofInt (-1)) then ax_bu (f_X12_look S41) (fun (r55 : Int32) (S52 : AS) => (f_X12_isSign r55 S52).bind (fun (r59 : Int32) => (if r59 = (0 : Int32) then (if (ax_fi S52 12 0 11) = (Int32.ofInt (-1)) then (if (ax_fi S52 12 0 17) = (0 : Int32) then (if r4 = (ax_fi S52 12 0 13) then ax_let (ax_sfi S52 12 0 17 (1 : Int32)) (fun (S65 : AS) => ax_let (ax_sfi S65 12 0 14 r44) (fun (S66 : AS) => some S66)) else some S52) else some S52) else some S52) else ax_bu (g_Parse ax_D 6 (1 : Int32) r44 S52) (fun (r70 : Int32) (S67 : AS) => ax_bu (f_X12_takes (63 : Int32) S67) (fun (r74 : Int32) (S71 : AS) => (if r74 = (0 : Int32) then some S71 else ax_bu (g_Parse ax_D 2 (0 : Int32) (0 : Int32) S71) (fun (r79 : Int32) (S76 : AS) => (if (ax_fi S76 12 0 11) = (Int32.ofInt (-1)) then (if (ax_fi S76 12 0 17) = (0 : Int32) then (if r4 = (ax_fi S76 12 0 13) then (if r70 = (0 : Int32) then some S76 else ax_let (ax_sfi S76 12 0 17 (1 : Int32)) (fun (S84 : AS) => ax_let (ax_sfi S84 12 0 14 r79) (fun (S85 : AS) => some S85))) else some S76) else some S76) else some S76)))))))) else (if (ax_fi S41 12 0 11) = (Int32.ofInt (-1)) then (if (ax_fi S41 12 0 17) = (0 : Int32) then (if r4 = (ax_fi S41 12 0 13) then ax_let (ax_sfi S41 12 0 17 (1 : Int32)) (fun (S50 : AS) => ax_let (ax_sfi S50 12 0 14 r44) (fun (S51 : AS) => some S51)) else some S41) else some S41) else some S41))))))))))))
set_option maxRecDepth 100000 in
theorem t_X12_clause {l : Launch} {S Z : AS} (h : f_X12_clause S = some Z) : ax_M l 70 ma_X12_clause [.inr (12, 0)] S none Z := by
  unfold f_X12_clause at h
  show ax_T l 70 ma_X12_clause (0, [some (.inr (12, 0)), none, none, none, none], [], S) none Z
  refine ax_Tgo [.aload_n 0] (pc' := 1) (L' := [some (.inr (12, 0)), none, none, none, none]) (st' := [.inr (12, 0)]) (S' := S) ok_X12_clause.1 (by decide +kernel) rfl rfl ?_
  obtain ⟨r4, S1, hq2, h⟩ := ax_bu_e h
  refine ax_TVi (d := 69) (ka := 12) (i := 0) [] [] lk_X12_135 (by decide +kernel) rfl (by decide) rfl (Nat.le_of_ble_eq_true rfl) (Nat.le_of_ble_eq_true rfl) ((t_X12_look hq2).up (by decide)) ?_
  refine ax_Tgo [.istore_n 1, .ldc 26, .iload_n 1] (pc' := 8) (L' := [some (.inr (12, 0)), some (.inl (.int r4)), none, none, none]) (st' := [.inl (.int r4), .inr (64, 5)]) (S' := S1) ok_X12_clause.1 (by decide +kernel) rfl rfl ?_
  obtain ⟨r8, hq6, h⟩ := ax_bd_e h
  refine ax_TSi (d := 69) [.inr (64, 5), .inl (.int r4)] [] lk_X12_151 (by decide +kernel) rfl rfl (Nat.le_of_ble_eq_true rfl) (Nat.le_of_ble_eq_true rfl) ((t_X12_isAmong_64x5 hq6).up (by decide)) ?_
  refine ax_Tif_ne (off := 9) (tgt := 20) (by decide +kernel) (by decide) (fun c9 => ?_) (fun c9 => ?_)
  · rw [if_neg c9] at h
    refine ax_Tgo [.aload_n 0, .dup, .getfield 116, .iconst 1, .iadd, .putfield 116] (pc' := 30) (L' := [some (.inr (12, 0)), some (.inl (.int r4)), none, none, none]) (st' := []) (S' := (ax_sfi S1 12 0 10 ((ax_fi S1 12 0 10) + (1 : Int32)))) ok_X12_clause.1 (by decide +kernel) rfl rfl ?_
    obtain ⟨S10, eS10, h⟩ := ax_let_e h
    rw [eS10]
    refine ax_Tgo [.aload_n 0, .bipush 58] (pc' := 33) (L' := [some (.inr (12, 0)), some (.inl (.int r4)), none, none, none]) (st' := [.inl (.int (58 : Int32)), .inr (12, 0)]) (S' := S10) ok_X12_clause.1 (by decide +kernel) rfl rfl ?_
    obtain ⟨r14, S11, hq12, h⟩ := ax_bu_e h
    refine ax_TVi (d := 69) (ka := 12) (i := 0) [.inl (.int (58 : Int32))] [] lk_X12_161 (by decide +kernel) rfl (by decide) rfl (Nat.le_of_ble_eq_true rfl) (Nat.le_of_ble_eq_true rfl) ((t_X12_takes hq12).up (by decide)) ?_
    refine ax_Tif_ne (off := 4) (tgt := 40) (by decide +kernel) (by decide) (fun c15 => ?_) (fun c15 => ?_)
    · rw [if_neg c15] at h
      refine ax_Tgo [.iconst 1, .istore_n 2, .iconst 0, .istore_n 3, .aload_n 0] (pc' := 45) (L' := [some (.inr (12, 0)), some (.inl (.int r4)), some (.inl (.int (1 : Int32))), some (.inl (.int (0 : Int32))), none]) (st' := [.inr (12, 0)]) (S' := S11) ok_X12_clause.1 (by decide +kernel) rfl rfl ?_
      obtain ⟨r19, S16, hq17, h⟩ := ax_bu_e h
      refine ax_TVi (d := 69) (ka := 12) (i := 0) [] [] lk_X12_135 (by decide +kernel) rfl (by decide) rfl (Nat.le_of_ble_eq_true rfl) (Nat.le_of_ble_eq_true rfl) ((t_X12_look hq17).up (by decide)) ?_
      refine ax_Tgo [.istore 4, .iload 4, .bipush 33] (pc' := 54) (L' := [some (.inr (12, 0)), some (.inl (.int r4)), some (.inl (.int (1 : Int32))), some (.inl (.int (0 : Int32))), some (.inl (.int r19))]) (st' := [.inl (.int (33 : Int32)), .inl (.int r19)]) (S' := S16) ok_X12_clause.1 (by decide +kernel) rfl rfl ?_
      refine ax_Tic_eq (off := 10) (tgt := 64) (by decide +kernel) (by decide) (fun c20 => ?_) (fun c20 => ?_)
      · rw [if_pos c20] at h
        refine ax_Tgo [.aload_n 0, .iconst 0, .iconst 0] (pc' := 67) (L' := [some (.inr (12, 0)), some (.inl (.int r4)), some (.inl (.int (1 : Int32))), some (.inl (.int (0 : Int32))), some (.inl (.int r19))]) (st' := [.inl (.int (0 : Int32)), .inl (.int (0 : Int32)), .inr (12, 0)]) (S' := S16) ok_X12_clause.1 (by decide +kernel) rfl rfl ?_
        obtain ⟨r24, S21, hq22, h⟩ := ax_bu_e h
        refine ax_TVi (d := 69) (ka := 12) (i := 0) [.inl (.int (0 : Int32)), .inl (.int (0 : Int32))] [] lk_X12_184 (by decide +kernel) rfl (by decide) rfl (Nat.le_of_ble_eq_true rfl) (Nat.le_of_ble_eq_true rfl) ((tg_Parse_6 hq22).up (by decide)) ?_
        refine ax_Tgo [.istore_n 2, .aload_n 0, .bipush 63] (pc' := 74) (L' := [some (.inr (12, 0)), some (.inl (.int r4)), some (.inl (.int r24)), some (.inl (.int (0 : Int32))), some (.inl (.int r19))]) (st' := [.inl (.int (63 : Int32)), .inr (12, 0)]) (S' := S21) ok_X12_clause.1 (by decide +kernel) rfl rfl ?_
        obtain ⟨r28, S25, hq26, h⟩ := ax_bu_e h
        refine ax_TVi (d := 69) (ka := 12) (i := 0) [.inl (.int (63 : Int32))] [] lk_X12_161 (by decide +kernel) rfl (by decide) rfl (Nat.le_of_ble_eq_true rfl) (Nat.le_of_ble_eq_true rfl) ((t_X12_takes hq26).up (by decide)) ?_
        refine ax_Tif_ne (off := 4) (tgt := 81) (by decide +kernel) (by decide) (fun c29 => ?_) (fun c29 => ?_)
        · rw [if_neg c29] at h
          refine ax_Tgo [.aload_n 0] (pc' := 82) (L' := [some (.inr (12, 0)), some (.inl (.int r4)), some (.inl (.int r24)), some (.inl (.int (0 : Int32))), some (.inl (.int r19))]) (st' := [.inr (12, 0)]) (S' := S25) ok_X12_clause.1 (by decide +kernel) rfl rfl ?_
          obtain ⟨r33, S30, hq31, h⟩ := ax_bu_e h
          refine ax_TVi (d := 69) (ka := 12) (i := 0) [] [] lk_X12_158 (by decide +kernel) rfl (by decide) rfl (Nat.le_of_ble_eq_true rfl) (Nat.le_of_ble_eq_true rfl) ((tg_Parse_2 hq31).up (by decide)) ?_
          refine ax_Tgo [.istore_n 3] (pc' := 86) (L' := [some (.inr (12, 0)), some (.inl (.int r4)), some (.inl (.int r24)), some (.inl (.int r33)), some (.inl (.int r19))]) (st' := []) (S' := S30) ok_X12_clause.1 (by decide +kernel) rfl rfl ?_
          refine ax_Tgoto (off := 48) (tgt := 134) (by decide +kernel) (by decide) ?_
          refine ax_Tgo [.aload_n 0, .getfield 125, .iconst (-1)] (pc' := 139) (L' := [some (.inr (12, 0)), some (.inl (.int r4)), some (.inl (.int r24)), some (.inl (.int r33)), some (.inl (.int r19))]) (st' := [.inl (.int (Int32.ofInt (-1))), .inl (.int (ax_fi S30 12 0 11))]) (S' := S30) ok_X12_clause.1 (by decide +kernel) rfl rfl ?_
          refine ax_Tic_ne (off := 22) (tgt := 161) (by decide +kernel) (by decide) (fun c34 => ?_) (fun c34 => ?_)
          · rw [if_neg c34] at h
            cases h
            exact ax_Tretv (by decide +kernel) rfl
          · rw [if_pos c34] at h
            refine ax_Tgo [.aload_n 0, .getfield 194] (pc' := 146) (L' := [some (.inr (12, 0)), some (.inl (.int r4)), some (.inl (.int r24)), some (.inl (.int r33)), some (.inl (.int r19))]) (st' := [.inl (.int (ax_fi S30 12 0 17))]) (S' := S30) ok_X12_clause.1 (by decide +kernel) rfl rfl ?_
            refine ax_Tif_ne (off := 15) (tgt := 161) (by decide +kernel) (by decide) (fun c35 => ?_) (fun c35 => ?_)
            · rw [if_neg c35] at h
              cases h
              exact ax_Tretv (by decide +kernel) rfl
            · rw [if_pos c35] at h
              refine ax_Tgo [.iload_n 1, .aload_n 0, .getfield 198] (pc' := 154) (L' := [some (.inr (12, 0)), some (.inl (.int r4)), some (.inl (.int r24)), some (.inl (.int r33)), some (.inl (.int r19))]) (st' := [.inl (.int (ax_fi S30 12 0 13)), .inl (.int r4)]) (S' := S30) ok_X12_clause.1 (by decide +kernel) rfl rfl ?_
              refine ax_Tic_ne (off := 7) (tgt := 161) (by decide +kernel) (by decide) (fun c36 => ?_) (fun c36 => ?_)
              · rw [if_neg c36] at h
                cases h
                exact ax_Tretv (by decide +kernel) rfl
              · rw [if_pos c36] at h
                refine ax_Tgo [.iload_n 2] (pc' := 158) (L' := [some (.inr (12, 0)), some (.inl (.int r4)), some (.inl (.int r24)), some (.inl (.int r33)), some (.inl (.int r19))]) (st' := [.inl (.int r24)]) (S' := S30) ok_X12_clause.1 (by decide +kernel) rfl rfl ?_
                refine ax_Tif_ne (off := 4) (tgt := 162) (by decide +kernel) (by decide) (fun c37 => ?_) (fun c37 => ?_)
                · rw [if_neg c37] at h
                  refine ax_Tgo [.aload_n 0, .iconst 1, .putfield 194] (pc' := 167) (L' := [some (.inr (12, 0)), some (.inl (.int r4)), some (.inl (.int r24)), some (.inl (.int r33)), some (.inl (.int r19))]) (st' := []) (S' := (ax_sfi S30 12 0 17 (1 : Int32))) ok_X12_clause.1 (by decide +kernel) rfl rfl ?_
                  obtain ⟨S38, eS38, h⟩ := ax_let_e h
                  rw [eS38]
                  refine ax_Tgo [.aload_n 0, .iload_n 3, .putfield 201] (pc' := 172) (L' := [some (.inr (12, 0)), some (.inl (.int r4)), some (.inl (.int r24)), some (.inl (.int r33)), some (.inl (.int r19))]) (st' := []) (S' := (ax_sfi S38 12 0 14 r33)) ok_X12_clause.1 (by decide +kernel) rfl rfl ?_
                  obtain ⟨S39, eS39, h⟩ := ax_let_e h
                  rw [eS39]
                  cases h
                  exact ax_Tretv (by decide +kernel) rfl
                · rw [if_pos c37] at h
                  cases h
                  exact ax_Tretv (by decide +kernel) rfl
        · rw [if_pos c29] at h
          cases h
          exact ax_Tretv (by decide +kernel) rfl
      · rw [if_neg c20] at h
        refine ax_Tgo [.iload 4, .bipush 40] (pc' := 61) (L' := [some (.inr (12, 0)), some (.inl (.int r4)), some (.inl (.int (1 : Int32))), some (.inl (.int (0 : Int32))), some (.inl (.int r19))]) (st' := [.inl (.int (40 : Int32)), .inl (.int r19)]) (S' := S16) ok_X12_clause.1 (by decide +kernel) rfl rfl ?_
        refine ax_Tic_ne (off := 28) (tgt := 89) (by decide +kernel) (by decide) (fun c40 => ?_) (fun c40 => ?_)
        · rw [if_neg c40] at h
          refine ax_Tgo [.aload_n 0] (pc' := 90) (L' := [some (.inr (12, 0)), some (.inl (.int r4)), some (.inl (.int (1 : Int32))), some (.inl (.int (0 : Int32))), some (.inl (.int r19))]) (st' := [.inr (12, 0)]) (S' := S16) ok_X12_clause.1 (by decide +kernel) rfl rfl ?_
          obtain ⟨r44, S41, hq42, h⟩ := ax_bu_e h
          refine ax_TVi (d := 69) (ka := 12) (i := 0) [] [] lk_X12_158 (by decide +kernel) rfl (by decide) rfl (Nat.le_of_ble_eq_true rfl) (Nat.le_of_ble_eq_true rfl) ((tg_Parse_2 hq42).up (by decide)) ?_
          refine ax_Tgo [.istore_n 3, .aload_n 0, .getfield 125, .iconst (-1)] (pc' := 99) (L' := [some (.inr (12, 0)), some (.inl (.int r4)), some (.inl (.int (1 : Int32))), some (.inl (.int r44)), some (.inl (.int r19))]) (st' := [.inl (.int (Int32.ofInt (-1))), .inl (.int (ax_fi S41 12 0 11))]) (S' := S41) ok_X12_clause.1 (by decide +kernel) rfl rfl ?_
          refine ax_Tic_ne (off := 35) (tgt := 134) (by decide +kernel) (by decide) (fun c45 => ?_) (fun c45 => ?_)
          · rw [if_neg c45] at h
            refine ax_Tgo [.aload_n 0, .getfield 125, .iconst (-1)] (pc' := 139) (L' := [some (.inr (12, 0)), some (.inl (.int r4)), some (.inl (.int (1 : Int32))), some (.inl (.int r44)), some (.inl (.int r19))]) (st' := [.inl (.int (Int32.ofInt (-1))), .inl (.int (ax_fi S41 12 0 11))]) (S' := S41) ok_X12_clause.1 (by decide +kernel) rfl rfl ?_
            refine ax_Tic_ne (off := 22) (tgt := 161) (by decide +kernel) (by decide) (fun c46 => ?_) (fun c46 => ?_)
            · rw [if_neg c46] at h
              cases h
              exact ax_Tretv (by decide +kernel) rfl
            · rw [if_pos c46] at h
              refine ax_Tgo [.aload_n 0, .getfield 194] (pc' := 146) (L' := [some (.inr (12, 0)), some (.inl (.int r4)), some (.inl (.int (1 : Int32))), some (.inl (.int r44)), some (.inl (.int r19))]) (st' := [.inl (.int (ax_fi S41 12 0 17))]) (S' := S41) ok_X12_clause.1 (by decide +kernel) rfl rfl ?_
              refine ax_Tif_ne (off := 15) (tgt := 161) (by decide +kernel) (by decide) (fun c47 => ?_) (fun c47 => ?_)
              · rw [if_neg c47] at h
                cases h
                exact ax_Tretv (by decide +kernel) rfl
              · rw [if_pos c47] at h
                refine ax_Tgo [.iload_n 1, .aload_n 0, .getfield 198] (pc' := 154) (L' := [some (.inr (12, 0)), some (.inl (.int r4)), some (.inl (.int (1 : Int32))), some (.inl (.int r44)), some (.inl (.int r19))]) (st' := [.inl (.int (ax_fi S41 12 0 13)), .inl (.int r4)]) (S' := S41) ok_X12_clause.1 (by decide +kernel) rfl rfl ?_
                refine ax_Tic_ne (off := 7) (tgt := 161) (by decide +kernel) (by decide) (fun c48 => ?_) (fun c48 => ?_)
                · rw [if_neg c48] at h
                  cases h
                  exact ax_Tretv (by decide +kernel) rfl
                · rw [if_pos c48] at h
                  refine ax_Tgo [.iload_n 2] (pc' := 158) (L' := [some (.inr (12, 0)), some (.inl (.int r4)), some (.inl (.int (1 : Int32))), some (.inl (.int r44)), some (.inl (.int r19))]) (st' := [.inl (.int (1 : Int32))]) (S' := S41) ok_X12_clause.1 (by decide +kernel) rfl rfl ?_
                  refine ax_Tif_ne (off := 4) (tgt := 162) (by decide +kernel) (by decide) (fun _ => ?_) (fun c49 => absurd c49 (by decide))
                  refine ax_Tgo [.aload_n 0, .iconst 1, .putfield 194] (pc' := 167) (L' := [some (.inr (12, 0)), some (.inl (.int r4)), some (.inl (.int (1 : Int32))), some (.inl (.int r44)), some (.inl (.int r19))]) (st' := []) (S' := (ax_sfi S41 12 0 17 (1 : Int32))) ok_X12_clause.1 (by decide +kernel) rfl rfl ?_
                  obtain ⟨S50, eS50, h⟩ := ax_let_e h
                  rw [eS50]
                  refine ax_Tgo [.aload_n 0, .iload_n 3, .putfield 201] (pc' := 172) (L' := [some (.inr (12, 0)), some (.inl (.int r4)), some (.inl (.int (1 : Int32))), some (.inl (.int r44)), some (.inl (.int r19))]) (st' := []) (S' := (ax_sfi S50 12 0 14 r44)) ok_X12_clause.1 (by decide +kernel) rfl rfl ?_
                  obtain ⟨S51, eS51, h⟩ := ax_let_e h
                  rw [eS51]
                  cases h
                  exact ax_Tretv (by decide +kernel) rfl
          · rw [if_pos c45] at h
            refine ax_Tgo [.aload_n 0] (pc' := 103) (L' := [some (.inr (12, 0)), some (.inl (.int r4)), some (.inl (.int (1 : Int32))), some (.inl (.int r44)), some (.inl (.int r19))]) (st' := [.inr (12, 0)]) (S' := S41) ok_X12_clause.1 (by decide +kernel) rfl rfl ?_
            obtain ⟨r55, S52, hq53, h⟩ := ax_bu_e h
            refine ax_TVi (d := 69) (ka := 12) (i := 0) [] [] lk_X12_135 (by decide +kernel) rfl (by decide) rfl (Nat.le_of_ble_eq_true rfl) (Nat.le_of_ble_eq_true rfl) ((t_X12_look hq53).up (by decide)) ?_
            obtain ⟨r59, hq57, h⟩ := ax_bd_e h
            refine ax_TSi (d := 69) [.inl (.int r55)] [] lk_X12_178 (by decide +kernel) rfl rfl (Nat.le_of_ble_eq_true rfl) (Nat.le_of_ble_eq_true rfl) ((t_X12_isSign hq57).up (by decide)) ?_
            refine ax_Tif_eq (off := 25) (tgt := 134) (by decide +kernel) (by decide) (fun c60 => ?_) (fun c60 => ?_)
            · rw [if_pos c60] at h
              refine ax_Tgo [.aload_n 0, .getfield 125, .iconst (-1)] (pc' := 139) (L' := [some (.inr (12, 0)), some (.inl (.int r4)), some (.inl (.int (1 : Int32))), some (.inl (.int r44)), some (.inl (.int r19))]) (st' := [.inl (.int (Int32.ofInt (-1))), .inl (.int (ax_fi S52 12 0 11))]) (S' := S52) ok_X12_clause.1 (by decide +kernel) rfl rfl ?_
              refine ax_Tic_ne (off := 22) (tgt := 161) (by decide +kernel) (by decide) (fun c61 => ?_) (fun c61 => ?_)
              · rw [if_neg c61] at h
                cases h
                exact ax_Tretv (by decide +kernel) rfl
              · rw [if_pos c61] at h
                refine ax_Tgo [.aload_n 0, .getfield 194] (pc' := 146) (L' := [some (.inr (12, 0)), some (.inl (.int r4)), some (.inl (.int (1 : Int32))), some (.inl (.int r44)), some (.inl (.int r19))]) (st' := [.inl (.int (ax_fi S52 12 0 17))]) (S' := S52) ok_X12_clause.1 (by decide +kernel) rfl rfl ?_
                refine ax_Tif_ne (off := 15) (tgt := 161) (by decide +kernel) (by decide) (fun c62 => ?_) (fun c62 => ?_)
                · rw [if_neg c62] at h
                  cases h
                  exact ax_Tretv (by decide +kernel) rfl
                · rw [if_pos c62] at h
                  refine ax_Tgo [.iload_n 1, .aload_n 0, .getfield 198] (pc' := 154) (L' := [some (.inr (12, 0)), some (.inl (.int r4)), some (.inl (.int (1 : Int32))), some (.inl (.int r44)), some (.inl (.int r19))]) (st' := [.inl (.int (ax_fi S52 12 0 13)), .inl (.int r4)]) (S' := S52) ok_X12_clause.1 (by decide +kernel) rfl rfl ?_
                  refine ax_Tic_ne (off := 7) (tgt := 161) (by decide +kernel) (by decide) (fun c63 => ?_) (fun c63 => ?_)
                  · rw [if_neg c63] at h
                    cases h
                    exact ax_Tretv (by decide +kernel) rfl
                  · rw [if_pos c63] at h
                    refine ax_Tgo [.iload_n 2] (pc' := 158) (L' := [some (.inr (12, 0)), some (.inl (.int r4)), some (.inl (.int (1 : Int32))), some (.inl (.int r44)), some (.inl (.int r19))]) (st' := [.inl (.int (1 : Int32))]) (S' := S52) ok_X12_clause.1 (by decide +kernel) rfl rfl ?_
                    refine ax_Tif_ne (off := 4) (tgt := 162) (by decide +kernel) (by decide) (fun _ => ?_) (fun c64 => absurd c64 (by decide))
                    refine ax_Tgo [.aload_n 0, .iconst 1, .putfield 194] (pc' := 167) (L' := [some (.inr (12, 0)), some (.inl (.int r4)), some (.inl (.int (1 : Int32))), some (.inl (.int r44)), some (.inl (.int r19))]) (st' := []) (S' := (ax_sfi S52 12 0 17 (1 : Int32))) ok_X12_clause.1 (by decide +kernel) rfl rfl ?_
                    obtain ⟨S65, eS65, h⟩ := ax_let_e h
                    rw [eS65]
                    refine ax_Tgo [.aload_n 0, .iload_n 3, .putfield 201] (pc' := 172) (L' := [some (.inr (12, 0)), some (.inl (.int r4)), some (.inl (.int (1 : Int32))), some (.inl (.int r44)), some (.inl (.int r19))]) (st' := []) (S' := (ax_sfi S65 12 0 14 r44)) ok_X12_clause.1 (by decide +kernel) rfl rfl ?_
                    obtain ⟨S66, eS66, h⟩ := ax_let_e h
                    rw [eS66]
                    cases h
                    exact ax_Tretv (by decide +kernel) rfl
            · rw [if_neg c60] at h
              refine ax_Tgo [.aload_n 0, .iconst 1, .iload_n 3] (pc' := 115) (L' := [some (.inr (12, 0)), some (.inl (.int r4)), some (.inl (.int (1 : Int32))), some (.inl (.int r44)), some (.inl (.int r19))]) (st' := [.inl (.int r44), .inl (.int (1 : Int32)), .inr (12, 0)]) (S' := S52) ok_X12_clause.1 (by decide +kernel) rfl rfl ?_
              obtain ⟨r70, S67, hq68, h⟩ := ax_bu_e h
              refine ax_TVi (d := 69) (ka := 12) (i := 0) [.inl (.int (1 : Int32)), .inl (.int r44)] [] lk_X12_184 (by decide +kernel) rfl (by decide) rfl (Nat.le_of_ble_eq_true rfl) (Nat.le_of_ble_eq_true rfl) ((tg_Parse_6 hq68).up (by decide)) ?_
              refine ax_Tgo [.istore_n 2, .aload_n 0, .bipush 63] (pc' := 122) (L' := [some (.inr (12, 0)), some (.inl (.int r4)), some (.inl (.int r70)), some (.inl (.int r44)), some (.inl (.int r19))]) (st' := [.inl (.int (63 : Int32)), .inr (12, 0)]) (S' := S67) ok_X12_clause.1 (by decide +kernel) rfl rfl ?_
              obtain ⟨r74, S71, hq72, h⟩ := ax_bu_e h
              refine ax_TVi (d := 69) (ka := 12) (i := 0) [.inl (.int (63 : Int32))] [] lk_X12_161 (by decide +kernel) rfl (by decide) rfl (Nat.le_of_ble_eq_true rfl) (Nat.le_of_ble_eq_true rfl) ((t_X12_takes hq72).up (by decide)) ?_
              refine ax_Tif_ne (off := 4) (tgt := 129) (by decide +kernel) (by decide) (fun c75 => ?_) (fun c75 => ?_)
              · rw [if_neg c75] at h
                refine ax_Tgo [.aload_n 0] (pc' := 130) (L' := [some (.inr (12, 0)), some (.inl (.int r4)), some (.inl (.int r70)), some (.inl (.int r44)), some (.inl (.int r19))]) (st' := [.inr (12, 0)]) (S' := S71) ok_X12_clause.1 (by decide +kernel) rfl rfl ?_
                obtain ⟨r79, S76, hq77, h⟩ := ax_bu_e h
                refine ax_TVi (d := 69) (ka := 12) (i := 0) [] [] lk_X12_158 (by decide +kernel) rfl (by decide) rfl (Nat.le_of_ble_eq_true rfl) (Nat.le_of_ble_eq_true rfl) ((tg_Parse_2 hq77).up (by decide)) ?_
                refine ax_Tgo [.istore_n 3, .aload_n 0, .getfield 125, .iconst (-1)] (pc' := 139) (L' := [some (.inr (12, 0)), some (.inl (.int r4)), some (.inl (.int r70)), some (.inl (.int r79)), some (.inl (.int r19))]) (st' := [.inl (.int (Int32.ofInt (-1))), .inl (.int (ax_fi S76 12 0 11))]) (S' := S76) ok_X12_clause.1 (by decide +kernel) rfl rfl ?_
                refine ax_Tic_ne (off := 22) (tgt := 161) (by decide +kernel) (by decide) (fun c80 => ?_) (fun c80 => ?_)
                · rw [if_neg c80] at h
                  cases h
                  exact ax_Tretv (by decide +kernel) rfl
                · rw [if_pos c80] at h
                  refine ax_Tgo [.aload_n 0, .getfield 194] (pc' := 146) (L' := [some (.inr (12, 0)), some (.inl (.int r4)), some (.inl (.int r70)), some (.inl (.int r79)), some (.inl (.int r19))]) (st' := [.inl (.int (ax_fi S76 12 0 17))]) (S' := S76) ok_X12_clause.1 (by decide +kernel) rfl rfl ?_
                  refine ax_Tif_ne (off := 15) (tgt := 161) (by decide +kernel) (by decide) (fun c81 => ?_) (fun c81 => ?_)
                  · rw [if_neg c81] at h
                    cases h
                    exact ax_Tretv (by decide +kernel) rfl
                  · rw [if_pos c81] at h
                    refine ax_Tgo [.iload_n 1, .aload_n 0, .getfield 198] (pc' := 154) (L' := [some (.inr (12, 0)), some (.inl (.int r4)), some (.inl (.int r70)), some (.inl (.int r79)), some (.inl (.int r19))]) (st' := [.inl (.int (ax_fi S76 12 0 13)), .inl (.int r4)]) (S' := S76) ok_X12_clause.1 (by decide +kernel) rfl rfl ?_
                    refine ax_Tic_ne (off := 7) (tgt := 161) (by decide +kernel) (by decide) (fun c82 => ?_) (fun c82 => ?_)
                    · rw [if_neg c82] at h
                      cases h
                      exact ax_Tretv (by decide +kernel) rfl
                    · rw [if_pos c82] at h
                      refine ax_Tgo [.iload_n 2] (pc' := 158) (L' := [some (.inr (12, 0)), some (.inl (.int r4)), some (.inl (.int r70)), some (.inl (.int r79)), some (.inl (.int r19))]) (st' := [.inl (.int r70)]) (S' := S76) ok_X12_clause.1 (by decide +kernel) rfl rfl ?_
                      refine ax_Tif_ne (off := 4) (tgt := 162) (by decide +kernel) (by decide) (fun c83 => ?_) (fun c83 => ?_)
                      · rw [if_neg c83] at h
                        refine ax_Tgo [.aload_n 0, .iconst 1, .putfield 194] (pc' := 167) (L' := [some (.inr (12, 0)), some (.inl (.int r4)), some (.inl (.int r70)), some (.inl (.int r79)), some (.inl (.int r19))]) (st' := []) (S' := (ax_sfi S76 12 0 17 (1 : Int32))) ok_X12_clause.1 (by decide +kernel) rfl rfl ?_
                        obtain ⟨S84, eS84, h⟩ := ax_let_e h
                        rw [eS84]
                        refine ax_Tgo [.aload_n 0, .iload_n 3, .putfield 201] (pc' := 172) (L' := [some (.inr (12, 0)), some (.inl (.int r4)), some (.inl (.int r70)), some (.inl (.int r79)), some (.inl (.int r19))]) (st' := []) (S' := (ax_sfi S84 12 0 14 r79)) ok_X12_clause.1 (by decide +kernel) rfl rfl ?_
                        obtain ⟨S85, eS85, h⟩ := ax_let_e h
                        rw [eS85]
                        cases h
                        exact ax_Tretv (by decide +kernel) rfl
                      · rw [if_pos c83] at h
                        cases h
                        exact ax_Tretv (by decide +kernel) rfl
              · rw [if_pos c75] at h
                cases h
                exact ax_Tretv (by decide +kernel) rfl
        · rw [if_pos c40] at h
          refine ax_Tgo [.aload_n 0, .iconst 0, .iconst 0] (pc' := 67) (L' := [some (.inr (12, 0)), some (.inl (.int r4)), some (.inl (.int (1 : Int32))), some (.inl (.int (0 : Int32))), some (.inl (.int r19))]) (st' := [.inl (.int (0 : Int32)), .inl (.int (0 : Int32)), .inr (12, 0)]) (S' := S16) ok_X12_clause.1 (by decide +kernel) rfl rfl ?_
          obtain ⟨r89, S86, hq87, h⟩ := ax_bu_e h
          refine ax_TVi (d := 69) (ka := 12) (i := 0) [.inl (.int (0 : Int32)), .inl (.int (0 : Int32))] [] lk_X12_184 (by decide +kernel) rfl (by decide) rfl (Nat.le_of_ble_eq_true rfl) (Nat.le_of_ble_eq_true rfl) ((tg_Parse_6 hq87).up (by decide)) ?_
          refine ax_Tgo [.istore_n 2, .aload_n 0, .bipush 63] (pc' := 74) (L' := [some (.inr (12, 0)), some (.inl (.int r4)), some (.inl (.int r89)), some (.inl (.int (0 : Int32))), some (.inl (.int r19))]) (st' := [.inl (.int (63 : Int32)), .inr (12, 0)]) (S' := S86) ok_X12_clause.1 (by decide +kernel) rfl rfl ?_
          obtain ⟨r93, S90, hq91, h⟩ := ax_bu_e h
          refine ax_TVi (d := 69) (ka := 12) (i := 0) [.inl (.int (63 : Int32))] [] lk_X12_161 (by decide +kernel) rfl (by decide) rfl (Nat.le_of_ble_eq_true rfl) (Nat.le_of_ble_eq_true rfl) ((t_X12_takes hq91).up (by decide)) ?_
          refine ax_Tif_ne (off := 4) (tgt := 81) (by decide +kernel) (by decide) (fun c94 => ?_) (fun c94 => ?_)
          · rw [if_neg c94] at h
            refine ax_Tgo [.aload_n 0] (pc' := 82) (L' := [some (.inr (12, 0)), some (.inl (.int r4)), some (.inl (.int r89)), some (.inl (.int (0 : Int32))), some (.inl (.int r19))]) (st' := [.inr (12, 0)]) (S' := S90) ok_X12_clause.1 (by decide +kernel) rfl rfl ?_
            obtain ⟨r98, S95, hq96, h⟩ := ax_bu_e h
            refine ax_TVi (d := 69) (ka := 12) (i := 0) [] [] lk_X12_158 (by decide +kernel) rfl (by decide) rfl (Nat.le_of_ble_eq_true rfl) (Nat.le_of_ble_eq_true rfl) ((tg_Parse_2 hq96).up (by decide)) ?_
            refine ax_Tgo [.istore_n 3] (pc' := 86) (L' := [some (.inr (12, 0)), some (.inl (.int r4)), some (.inl (.int r89)), some (.inl (.int r98)), some (.inl (.int r19))]) (st' := []) (S' := S95) ok_X12_clause.1 (by decide +kernel) rfl rfl ?_
            refine ax_Tgoto (off := 48) (tgt := 134) (by decide +kernel) (by decide) ?_
            refine ax_Tgo [.aload_n 0, .getfield 125, .iconst (-1)] (pc' := 139) (L' := [some (.inr (12, 0)), some (.inl (.int r4)), some (.inl (.int r89)), some (.inl (.int r98)), some (.inl (.int r19))]) (st' := [.inl (.int (Int32.ofInt (-1))), .inl (.int (ax_fi S95 12 0 11))]) (S' := S95) ok_X12_clause.1 (by decide +kernel) rfl rfl ?_
            refine ax_Tic_ne (off := 22) (tgt := 161) (by decide +kernel) (by decide) (fun c99 => ?_) (fun c99 => ?_)
            · rw [if_neg c99] at h
              cases h
              exact ax_Tretv (by decide +kernel) rfl
            · rw [if_pos c99] at h
              refine ax_Tgo [.aload_n 0, .getfield 194] (pc' := 146) (L' := [some (.inr (12, 0)), some (.inl (.int r4)), some (.inl (.int r89)), some (.inl (.int r98)), some (.inl (.int r19))]) (st' := [.inl (.int (ax_fi S95 12 0 17))]) (S' := S95) ok_X12_clause.1 (by decide +kernel) rfl rfl ?_
              refine ax_Tif_ne (off := 15) (tgt := 161) (by decide +kernel) (by decide) (fun c100 => ?_) (fun c100 => ?_)
              · rw [if_neg c100] at h
                cases h
                exact ax_Tretv (by decide +kernel) rfl
              · rw [if_pos c100] at h
                refine ax_Tgo [.iload_n 1, .aload_n 0, .getfield 198] (pc' := 154) (L' := [some (.inr (12, 0)), some (.inl (.int r4)), some (.inl (.int r89)), some (.inl (.int r98)), some (.inl (.int r19))]) (st' := [.inl (.int (ax_fi S95 12 0 13)), .inl (.int r4)]) (S' := S95) ok_X12_clause.1 (by decide +kernel) rfl rfl ?_
                refine ax_Tic_ne (off := 7) (tgt := 161) (by decide +kernel) (by decide) (fun c101 => ?_) (fun c101 => ?_)
                · rw [if_neg c101] at h
                  cases h
                  exact ax_Tretv (by decide +kernel) rfl
                · rw [if_pos c101] at h
                  refine ax_Tgo [.iload_n 2] (pc' := 158) (L' := [some (.inr (12, 0)), some (.inl (.int r4)), some (.inl (.int r89)), some (.inl (.int r98)), some (.inl (.int r19))]) (st' := [.inl (.int r89)]) (S' := S95) ok_X12_clause.1 (by decide +kernel) rfl rfl ?_
                  refine ax_Tif_ne (off := 4) (tgt := 162) (by decide +kernel) (by decide) (fun c102 => ?_) (fun c102 => ?_)
                  · rw [if_neg c102] at h
                    refine ax_Tgo [.aload_n 0, .iconst 1, .putfield 194] (pc' := 167) (L' := [some (.inr (12, 0)), some (.inl (.int r4)), some (.inl (.int r89)), some (.inl (.int r98)), some (.inl (.int r19))]) (st' := []) (S' := (ax_sfi S95 12 0 17 (1 : Int32))) ok_X12_clause.1 (by decide +kernel) rfl rfl ?_
                    obtain ⟨S103, eS103, h⟩ := ax_let_e h
                    rw [eS103]
                    refine ax_Tgo [.aload_n 0, .iload_n 3, .putfield 201] (pc' := 172) (L' := [some (.inr (12, 0)), some (.inl (.int r4)), some (.inl (.int r89)), some (.inl (.int r98)), some (.inl (.int r19))]) (st' := []) (S' := (ax_sfi S103 12 0 14 r98)) ok_X12_clause.1 (by decide +kernel) rfl rfl ?_
                    obtain ⟨S104, eS104, h⟩ := ax_let_e h
                    rw [eS104]
                    cases h
                    exact ax_Tretv (by decide +kernel) rfl
                  · rw [if_pos c102] at h
                    cases h
                    exact ax_Tretv (by decide +kernel) rfl
          · rw [if_pos c94] at h
            cases h
            exact ax_Tretv (by decide +kernel) rfl
    · rw [if_pos c15] at h
      cases h
      exact ax_Tretv (by decide +kernel) rfl
  · rw [if_pos c9] at h
    refine ax_Tgo [.aload_n 0] (pc' := 15) (L' := [some (.inr (12, 0)), some (.inl (.int r4)), none, none, none]) (st' := [.inr (12, 0)]) (S' := S1) ok_X12_clause.1 (by decide +kernel) rfl rfl ?_
    obtain ⟨r108, S105, hq106, h⟩ := ax_bu_e h
    refine ax_TVi (d := 69) (ka := 12) (i := 0) [] [] lk_X12_131 (by decide +kernel) rfl (by decide) rfl (Nat.le_of_ble_eq_true rfl) (Nat.le_of_ble_eq_true rfl) ((t_X12_fails hq106).up (by decide)) ?_
    refine ax_Tgo [.pop] (pc' := 19) (L' := [some (.inr (12, 0)), some (.inl (.int r4)), none, none, none]) (st' := []) (S' := S105) ok_X12_clause.1 (by decide +kernel) rfl rfl ?_
    cases h
    exact ax_Tretv (by decide +kernel) rfl
def f_X12_goThrough_44_L32 (K66 : AS → Option (AS)) : Nat → AS → Option (AS)
  | 0, _ => none
  | n + 1, S11 => (if (ax_fi S11 12 0 11) = (Int32.ofInt (-1)) then ax_bu (f_X12_look S11) (fun (r16 : Int32) (S13 : AS) => (if r16 = (59 : Int32) then ax_let (ax_sfi S13 12 0 10 ((ax_fi S13 12 0 10) + (1 : Int32))) (fun (S18 : AS) => (f_X12_clause S18).bind (fun (S19 : AS) => f_X12_goThrough_44_L32 K66 n S19)) else K66 S13)) else K66 S11)
def f_X12_goThrough_44 (i1 : Nat) (a2 : Int32) (a3 : Int32) (S : AS) : Option (AS) := (f_X12_starts_44 i1 a2 a3 S).bind (fun (S1 : AS) => ax_let (ax_sfi S1 12 0 13 (121 : Int32)) (fun (S4 : AS) => ax_let (ax_sfi S4 12 0 12 (0 : Int32)) (fun (S5 : AS) => ax_let (ax_sfi S5 12 0 17 (0 : Int32)) (fun (S6 : AS) => ax_let (ax_sfi S6 12 0 14 (0 : Int32)) (fun (S7 : AS) => (f_X12_clause S7).bind (fun (S8 : AS) => f_X12_goThrough_44_L32 (fun (S22 : AS) => (if (ax_fi S22 12 0 11) = (Int32.ofInt (-1)) then ax_bu (f_X12_look S22) (fun (r27 : Int32) (S24 : AS) => (if r27 = (Int32.ofInt (-1)) then some S24 else ax_bu (f_X12_fails S24) (fun (r32 : Int32) (S29 : AS) => some S29))) else some S22)) ax_F S8))))))
set_option maxRecDepth 100000 in
theorem t_X12_goThrough_44_L32 {l : Launch} {K66 : AS → Option (AS)} (hK66 : ∀ (S : AS) Z, K66 S = some Z → ax_T l 71 ma_X12_goThrough (66, [some (.inr (12, 0)), none, none, none], [], S) none Z) : ∀ (n : Nat) (S11 : AS) Z, f_X12_goThrough_44_L32 K66 n S11 = some Z → ax_T l 71 ma_X12_goThrough (32, [some (.inr (12, 0)), none, none, none], [], S11) none Z := by
  intro n
  induction n with
  | zero =>
    intro S11 Z h
    cases h
  | succ n ih =>
    intro S11 Z h
    unfold f_X12_goThrough_44_L32 at h
    refine ax_Tgo [.aload_n 0, .getfield 125, .iconst (-1)] (pc' := 37) (L' := [some (.inr (12, 0)), none, none, none]) (st' := [.inl (.int (Int32.ofInt (-1))), .inl (.int (ax_fi S11 12 0 11))]) (S' := S11) ok_X12_goThrough.1 (by decide +kernel) rfl rfl ?_
    refine ax_Tic_ne (off := 29) (tgt := 66) (by decide +kernel) (by decide) (fun c12 => ?_) (fun c12 => ?_)
    · rw [if_neg c12] at h
      exact hK66 S11 _ h
    · rw [if_pos c12] at h
      refine ax_Tgo [.aload_n 0] (pc' := 41) (L' := [some (.inr (12, 0)), none, none, none]) (st' := [.inr (12, 0)]) (S' := S11) ok_X12_goThrough.1 (by decide +kernel) rfl rfl ?_
      obtain ⟨r16, S13, hq14, h⟩ := ax_bu_e h
      refine ax_TVi (d := 70) (ka := 12) (i := 0) [] [] lk_X12_135 (by decide +kernel) rfl (by decide) rfl (Nat.le_of_ble_eq_true rfl) (Nat.le_of_ble_eq_true rfl) ((t_X12_look hq14).up (by decide)) ?_
      refine ax_Tgo [.bipush 59] (pc' := 46) (L' := [some (.inr (12, 0)), none, none, none]) (st' := [.inl (.int (59 : Int32)), .inl (.int r16)]) (S' := S13) ok_X12_goThrough.1 (by decide +kernel) rfl rfl ?_
      refine ax_Tic_ne (off := 20) (tgt := 66) (by decide +kernel) (by decide) (fun c17 => ?_) (fun c17 => ?_)
      · rw [if_neg c17] at h
        exact hK66 S13 _ h
      · rw [if_pos c17] at h
        refine ax_Tgo [.aload_n 0, .dup, .getfield 116, .iconst 1, .iadd, .putfield 116] (pc' := 59) (L' := [some (.inr (12, 0)), none, none, none]) (st' := []) (S' := (ax_sfi S13 12 0 10 ((ax_fi S13 12 0 10) + (1 : Int32)))) ok_X12_goThrough.1 (by decide +kernel) rfl rfl ?_
        obtain ⟨S18, eS18, h⟩ := ax_let_e h
        rw [eS18]
        refine ax_Tgo [.aload_n 0] (pc' := 60) (L' := [some (.inr (12, 0)), none, none, none]) (st' := [.inr (12, 0)]) (S' := S18) ok_X12_goThrough.1 (by decide +kernel) rfl rfl ?_
        obtain ⟨S19, hq20, h⟩ := ax_bd_e h
        refine ax_TVv (d := 70) (ka := 12) (i := 0) [] [] lk_X12_208 (by decide +kernel) rfl (by decide) rfl (Nat.le_of_ble_eq_true rfl) (Nat.le_of_ble_eq_true rfl) ((t_X12_clause hq20).up (by decide)) ?_
        refine ax_Tgoto (off := (-31)) (tgt := 32) (by decide +kernel) (by decide) ?_
        exact ih S19 _ h
set_option maxRecDepth 100000 in
theorem t_X12_goThrough_44 {l : Launch} {i1 : Nat} {a2 : Int32} {a3 : Int32} {S Z : AS} (h : f_X12_goThrough_44 i1 a2 a3 S = some Z) : ax_M l 71 ma_X12_goThrough [.inr (12, 0), .inr (44, i1), .inl (.int a2), .inl (.int a3)] S none Z := by
  unfold f_X12_goThrough_44 at h
  show ax_T l 71 ma_X12_goThrough (0, [some (.inr (12, 0)), some (.inr (44, i1)), some (.inl (.int a2)), some (.inl (.int a3))], [], S) none Z
  refine ax_Tgo [.aload_n 0, .aload_n 1, .iload_n 2, .iload_n 3] (pc' := 4) (L' := [some (.inr (12, 0)), some (.inr (44, i1)), some (.inl (.int a2)), some (.inl (.int a3))]) (st' := [.inl (.int a3), .inl (.int a2), .inr (44, i1), .inr (12, 0)]) (S' := S) ok_X12_goThrough.1 (by decide +kernel) rfl rfl ?_
  obtain ⟨S1, hq2, h⟩ := ax_bd_e h
  refine ax_TVv (d := 70) (ka := 12) (i := 0) [.inr (44, i1), .inl (.int a2), .inl (.int a3)] [] lk_X12_204 (by decide +kernel) rfl (by decide) rfl (Nat.le_of_ble_eq_true rfl) (Nat.le_of_ble_eq_true rfl) ((t_X12_starts_44 hq2).up (by decide)) ?_
  refine ax_Tgo [.aload_n 0, .bipush 121, .putfield 198] (pc' := 13) (L' := [some (.inr (12, 0)), some (.inr (44, i1)), some (.inl (.int a2)), some (.inl (.int a3))]) (st' := []) (S' := (ax_sfi S1 12 0 13 (121 : Int32))) ok_X12_goThrough.1 (by decide +kernel) rfl rfl ?_
  obtain ⟨S4, eS4, h⟩ := ax_let_e h
  rw [eS4]
  refine ax_Tgo [.aload_n 0, .iconst 0, .putfield 128] (pc' := 18) (L' := [some (.inr (12, 0)), some (.inr (44, i1)), some (.inl (.int a2)), some (.inl (.int a3))]) (st' := []) (S' := (ax_sfi S4 12 0 12 (0 : Int32))) ok_X12_goThrough.1 (by decide +kernel) rfl rfl ?_
  obtain ⟨S5, eS5, h⟩ := ax_let_e h
  rw [eS5]
  refine ax_Tgo [.aload_n 0, .iconst 0, .putfield 194] (pc' := 23) (L' := [some (.inr (12, 0)), some (.inr (44, i1)), some (.inl (.int a2)), some (.inl (.int a3))]) (st' := []) (S' := (ax_sfi S5 12 0 17 (0 : Int32))) ok_X12_goThrough.1 (by decide +kernel) rfl rfl ?_
  obtain ⟨S6, eS6, h⟩ := ax_let_e h
  rw [eS6]
  refine ax_Tgo [.aload_n 0, .iconst 0, .putfield 201] (pc' := 28) (L' := [some (.inr (12, 0)), some (.inr (44, i1)), some (.inl (.int a2)), some (.inl (.int a3))]) (st' := []) (S' := (ax_sfi S6 12 0 14 (0 : Int32))) ok_X12_goThrough.1 (by decide +kernel) rfl rfl ?_
  obtain ⟨S7, eS7, h⟩ := ax_let_e h
  rw [eS7]
  refine ax_Tgo [.aload_n 0] (pc' := 29) (L' := [some (.inr (12, 0)), some (.inr (44, i1)), some (.inl (.int a2)), some (.inl (.int a3))]) (st' := [.inr (12, 0)]) (S' := S7) ok_X12_goThrough.1 (by decide +kernel) rfl rfl ?_
  obtain ⟨S8, hq9, h⟩ := ax_bd_e h
  refine ax_TVv (d := 70) (ka := 12) (i := 0) [] [] lk_X12_208 (by decide +kernel) rfl (by decide) rfl (Nat.le_of_ble_eq_true rfl) (Nat.le_of_ble_eq_true rfl) ((t_X12_clause hq9).up (by decide)) ?_
  refine ax_Tdrop [true, false, false, false] (L' := [some (.inr (12, 0)), none, none, none]) rfl ?_
  refine t_X12_goThrough_44_L32 ?_ _ S8 _ h
  · intro S22 Z h
    refine ax_Tgo [.aload_n 0, .getfield 125, .iconst (-1)] (pc' := 71) (L' := [some (.inr (12, 0)), none, none, none]) (st' := [.inl (.int (Int32.ofInt (-1))), .inl (.int (ax_fi S22 12 0 11))]) (S' := S22) ok_X12_goThrough.1 (by decide +kernel) rfl rfl ?_
    refine ax_Tic_ne (off := 16) (tgt := 87) (by decide +kernel) (by decide) (fun c23 => ?_) (fun c23 => ?_)
    · rw [if_neg c23] at h
      cases h
      exact ax_Tretv (by decide +kernel) rfl
    · rw [if_pos c23] at h
      refine ax_Tgo [.aload_n 0] (pc' := 75) (L' := [some (.inr (12, 0)), none, none, none]) (st' := [.inr (12, 0)]) (S' := S22) ok_X12_goThrough.1 (by decide +kernel) rfl rfl ?_
      obtain ⟨r27, S24, hq25, h⟩ := ax_bu_e h
      refine ax_TVi (d := 70) (ka := 12) (i := 0) [] [] lk_X12_135 (by decide +kernel) rfl (by decide) rfl (Nat.le_of_ble_eq_true rfl) (Nat.le_of_ble_eq_true rfl) ((t_X12_look hq25).up (by decide)) ?_
      refine ax_Tgo [.iconst (-1)] (pc' := 79) (L' := [some (.inr (12, 0)), none, none, none]) (st' := [.inl (.int (Int32.ofInt (-1))), .inl (.int r27)]) (S' := S24) ok_X12_goThrough.1 (by decide +kernel) rfl rfl ?_
      refine ax_Tic_eq (off := 8) (tgt := 87) (by decide +kernel) (by decide) (fun c28 => ?_) (fun c28 => ?_)
      · rw [if_pos c28] at h
        cases h
        exact ax_Tretv (by decide +kernel) rfl
      · rw [if_neg c28] at h
        refine ax_Tgo [.aload_n 0] (pc' := 83) (L' := [some (.inr (12, 0)), none, none, none]) (st' := [.inr (12, 0)]) (S' := S24) ok_X12_goThrough.1 (by decide +kernel) rfl rfl ?_
        obtain ⟨r32, S29, hq30, h⟩ := ax_bu_e h
        refine ax_TVi (d := 70) (ka := 12) (i := 0) [] [] lk_X12_131 (by decide +kernel) rfl (by decide) rfl (Nat.le_of_ble_eq_true rfl) (Nat.le_of_ble_eq_true rfl) ((t_X12_fails hq30).up (by decide)) ?_
        refine ax_Tgo [.pop] (pc' := 87) (L' := [some (.inr (12, 0)), none, none, none]) (st' := []) (S' := S29) ok_X12_goThrough.1 (by decide +kernel) rfl rfl ?_
        cases h
        exact ax_Tretv (by decide +kernel) rfl
def f_X12_worthOf (a1 : Int32) (a2 : Int32) (a3 : Int32) (a4 : Int32) (a5 : Int32) (a6 : Int32) (S : AS) : Option (Int32 × AS) := ax_let ((1 : Int64) + (ax_fi S 12 0 34).toInt64) (fun (v1 : Int64) => ax_let (((10 : Int64) * v1) + a1.toInt64) (fun (v2 : Int64) => ax_let (((10 : Int64) * v2) + a2.toInt64) (fun (v3 : Int64) => ax_let (((10 : Int64) * v3) + a3.toInt64) (fun (v4 : Int64) => ax_let (((20 : Int64) * v4) + a4.toInt64) (fun (v5 : Int64) => ax_let (((2 : Int64) * v5) + a5.toInt64) (fun (v6 : Int64) => ax_let (((2000 : Int64) * v6) + a6.toInt64) (fun (v7 : Int64) => ax_let (v7 - v7 / (8191 : Int64) * (8191 : Int64)).toInt32 (fun (v9 : Int32) => ax_gd (ax_in v9 8191) ((if (lg_cmp (ax_al S 57 0 v9.toNatClampNeg) v7) = (0 : Int32) then ax_gd (ax_in v9 8191) (some ((ax_ai S 58 0 v9.toNatClampNeg), S)) else ax_gd (ax_in (110 : Int32) 128) (ax_let (ax_sai S 46 0 (110 : Int32).toNatClampNeg a1) (fun (S13 : AS) => ax_gd (ax_in (112 : Int32) 128) (ax_let (ax_sai S13 46 0 (112 : Int32).toNatClampNeg a2) (fun (S15 : AS) => ax_gd (ax_in (116 : Int32) 128) (ax_let (ax_sai S15 46 0 (116 : Int32).toNatClampNeg a3) (fun (S17 : AS) => ax_gd (ax_in (103 : Int32) 128) (ax_let (ax_sai S17 46 0 (103 : Int32).toNatClampNeg a4) (fun (S19 : AS) => ax_gd (ax_in (115 : Int32) 128) (ax_let (ax_sai S19 46 0 (115 : Int32).toNatClampNeg a5) (fun (S21 : AS) => ax_gd (ax_in (100 : Int32) 128) (ax_let (ax_sai S21 46 0 (100 : Int32).toNatClampNeg a6) (fun (S23 : AS) => ax_gd (ax_in (ax_fi S23 12 0 34) 4) ((f_X12_goThrough_44 1 ((240 : Int32) * (ax_fi S23 12 0 34)) (ax_ai S23 45 0 (ax_fi S23 12 0 34).toNatClampNeg) S23).bind (fun (S25 : AS) => ax_gd (ax_in v9 8191) (ax_let (ax_sal S25 57 0 v9.toNatClampNeg v7) (fun (S29 : AS) => ax_gd (ax_in v9 8191) (ax_let (ax_sai S29 58 0 v9.toNatClampNeg (ax_fi S29 12 0 14)) (fun (S31 : AS) => some ((ax_fi S31 12 0 14), S31)))))))))))))))))))))))))))))
set_option maxRecDepth 100000 in
theorem t_X12_worthOf {l : Launch} {a1 : Int32} {a2 : Int32} {a3 : Int32} {a4 : Int32} {a5 : Int32} {a6 : Int32} {S Z : AS} {r : Int32} (h : f_X12_worthOf a1 a2 a3 a4 a5 a6 S = some (r, Z)) : ax_M l 72 ma_X12_worthOf [.inr (12, 0), .inl (.int a1), .inl (.int a2), .inl (.int a3), .inl (.int a4), .inl (.int a5), .inl (.int a6)] S (some (.inl (.int r))) Z := by
  unfold f_X12_worthOf at h
  show ax_T l 72 ma_X12_worthOf (0, [some (.inr (12, 0)), some (.inl (.int a1)), some (.inl (.int a2)), some (.inl (.int a3)), some (.inl (.int a4)), some (.inl (.int a5)), some (.inl (.int a6)), none, none, none], [], S) (some (.inl (.int r))) Z
  refine ax_Tgo [.lconst 1, .aload_n 0, .getfield 67, .i2l, .ladd, .lstore 7] (pc' := 9) (L' := [some (.inr (12, 0)), some (.inl (.int a1)), some (.inl (.int a2)), some (.inl (.int a3)), some (.inl (.int a4)), some (.inl (.int a5)), some (.inl (.int a6)), some (.inl (.long ((1 : Int64) + (ax_fi S 12 0 34).toInt64))), none, none]) (st' := []) (S' := S) ok_X12_worthOf.1 (by decide +kernel) rfl rfl ?_
  obtain ⟨v1, ev1, h⟩ := ax_let_e h
  rw [ev1]
  refine ax_Tgo [.ldc2_w 303, .lload 7, .lmul, .iload_n 1, .i2l, .ladd, .lstore 7] (pc' := 20) (L' := [some (.inr (12, 0)), some (.inl (.int a1)), some (.inl (.int a2)), some (.inl (.int a3)), some (.inl (.int a4)), some (.inl (.int a5)), some (.inl (.int a6)), some (.inl (.long (((10 : Int64) * v1) + a1.toInt64))), none, none]) (st' := []) (S' := S) ok_X12_worthOf.1 (by decide +kernel) rfl rfl ?_
  obtain ⟨v2, ev2, h⟩ := ax_let_e h
  rw [ev2]
  refine ax_Tgo [.ldc2_w 303, .lload 7, .lmul, .iload_n 2, .i2l, .ladd, .lstore 7] (pc' := 31) (L' := [some (.inr (12, 0)), some (.inl (.int a1)), some (.inl (.int a2)), some (.inl (.int a3)), some (.inl (.int a4)), some (.inl (.int a5)), some (.inl (.int a6)), some (.inl (.long (((10 : Int64) * v2) + a2.toInt64))), none, none]) (st' := []) (S' := S) ok_X12_worthOf.1 (by decide +kernel) rfl rfl ?_
  obtain ⟨v3, ev3, h⟩ := ax_let_e h
  rw [ev3]
  refine ax_Tgo [.ldc2_w 303, .lload 7, .lmul, .iload_n 3, .i2l, .ladd, .lstore 7] (pc' := 42) (L' := [some (.inr (12, 0)), some (.inl (.int a1)), some (.inl (.int a2)), some (.inl (.int a3)), some (.inl (.int a4)), some (.inl (.int a5)), some (.inl (.int a6)), some (.inl (.long (((10 : Int64) * v3) + a3.toInt64))), none, none]) (st' := []) (S' := S) ok_X12_worthOf.1 (by decide +kernel) rfl rfl ?_
  obtain ⟨v4, ev4, h⟩ := ax_let_e h
  rw [ev4]
  refine ax_Tgo [.ldc2_w 305, .lload 7, .lmul, .iload 4, .i2l, .ladd, .lstore 7] (pc' := 54) (L' := [some (.inr (12, 0)), some (.inl (.int a1)), some (.inl (.int a2)), some (.inl (.int a3)), some (.inl (.int a4)), some (.inl (.int a5)), some (.inl (.int a6)), some (.inl (.long (((20 : Int64) * v4) + a4.toInt64))), none, none]) (st' := []) (S' := S) ok_X12_worthOf.1 (by decide +kernel) rfl rfl ?_
  obtain ⟨v5, ev5, h⟩ := ax_let_e h
  rw [ev5]
  refine ax_Tgo [.ldc2_w 269, .lload 7, .lmul, .iload 5, .i2l, .ladd, .lstore 7] (pc' := 66) (L' := [some (.inr (12, 0)), some (.inl (.int a1)), some (.inl (.int a2)), some (.inl (.int a3)), some (.inl (.int a4)), some (.inl (.int a5)), some (.inl (.int a6)), some (.inl (.long (((2 : Int64) * v5) + a5.toInt64))), none, none]) (st' := []) (S' := S) ok_X12_worthOf.1 (by decide +kernel) rfl rfl ?_
  obtain ⟨v6, ev6, h⟩ := ax_let_e h
  rw [ev6]
  refine ax_Tgo [.ldc2_w 307, .lload 7, .lmul, .iload 6, .i2l, .ladd, .lstore 7] (pc' := 78) (L' := [some (.inr (12, 0)), some (.inl (.int a1)), some (.inl (.int a2)), some (.inl (.int a3)), some (.inl (.int a4)), some (.inl (.int a5)), some (.inl (.int a6)), some (.inl (.long (((2000 : Int64) * v6) + a6.toInt64))), none, none]) (st' := []) (S' := S) ok_X12_worthOf.1 (by decide +kernel) rfl rfl ?_
  obtain ⟨v7, ev7, h⟩ := ax_let_e h
  rw [ev7]
  refine ax_Tgo [.lload 7, .ldc2_w 309] (pc' := 83) (L' := [some (.inr (12, 0)), some (.inl (.int a1)), some (.inl (.int a2)), some (.inl (.int a3)), some (.inl (.int a4)), some (.inl (.int a5)), some (.inl (.int a6)), some (.inl (.long v7)), none, none]) (st' := [.inl (.long (8191 : Int64)), .inl (.long v7)]) (S' := S) ok_X12_worthOf.1 (by decide +kernel) rfl rfl ?_
  refine ax_Tlrem ok_X12_worthOf.1 (by decide +kernel) (by decide) ?_
  refine ax_Tgo [.l2i, .istore 9] (pc' := 87) (L' := [some (.inr (12, 0)), some (.inl (.int a1)), some (.inl (.int a2)), some (.inl (.int a3)), some (.inl (.int a4)), some (.inl (.int a5)), some (.inl (.int a6)), some (.inl (.long v7)), none, some (.inl (.int (v7 - v7 / (8191 : Int64) * (8191 : Int64)).toInt32))]) (st' := []) (S' := S) ok_X12_worthOf.1 (by decide +kernel) rfl rfl ?_
  obtain ⟨v9, ev9, h⟩ := ax_let_e h
  rw [ev9]
  refine ax_Tgo [.aload_n 0, .getfield 74, .iload 9] (pc' := 93) (L' := [some (.inr (12, 0)), some (.inl (.int a1)), some (.inl (.int a2)), some (.inl (.int a3)), some (.inl (.int a4)), some (.inl (.int a5)), some (.inl (.int a6)), some (.inl (.long v7)), none, some (.inl (.int v9))]) (st' := [.inl (.int v9), .inr (57, 0)]) (S' := S) ok_X12_worthOf.1 (by decide +kernel) rfl rfl ?_
  obtain ⟨g10, h⟩ := ax_gd_e h
  refine ax_Tall (n := 8191) ok_X12_worthOf.1 (by decide +kernel) (by decide) rfl g10 ?_
  refine ax_Tgo [.lload 7, .lcmp] (pc' := 97) (L' := [some (.inr (12, 0)), some (.inl (.int a1)), some (.inl (.int a2)), some (.inl (.int a3)), some (.inl (.int a4)), some (.inl (.int a5)), some (.inl (.int a6)), some (.inl (.long v7)), none, some (.inl (.int v9))]) (st' := [.inl (.int (lg_cmp (ax_al S 57 0 v9.toNatClampNeg) v7))]) (S' := S) ok_X12_worthOf.1 (by decide +kernel) rfl rfl ?_
  refine ax_Tif_ne (off := 11) (tgt := 108) (by decide +kernel) (by decide) (fun c11 => ?_) (fun c11 => ?_)
  · rw [if_neg c11] at h
    refine ax_Tgo [.aload_n 0, .getfield 20, .bipush 110, .iload_n 1] (pc' := 115) (L' := [some (.inr (12, 0)), some (.inl (.int a1)), some (.inl (.int a2)), some (.inl (.int a3)), some (.inl (.int a4)), some (.inl (.int a5)), some (.inl (.int a6)), some (.inl (.long v7)), none, some (.inl (.int v9))]) (st' := [.inl (.int a1), .inl (.int (110 : Int32)), .inr (46, 0)]) (S' := S) ok_X12_worthOf.1 (by decide +kernel) rfl rfl ?_
    obtain ⟨g12, h⟩ := ax_gd_e h
    refine ax_Tasi (n := 128) ok_X12_worthOf.1 (by decide +kernel) (by decide) rfl g12 ?_
    obtain ⟨S13, eS13, h⟩ := ax_let_e h
    rw [eS13]
    refine ax_Tgo [.aload_n 0, .getfield 20, .bipush 112, .iload_n 2] (pc' := 123) (L' := [some (.inr (12, 0)), some (.inl (.int a1)), some (.inl (.int a2)), some (.inl (.int a3)), some (.inl (.int a4)), some (.inl (.int a5)), some (.inl (.int a6)), some (.inl (.long v7)), none, some (.inl (.int v9))]) (st' := [.inl (.int a2), .inl (.int (112 : Int32)), .inr (46, 0)]) (S' := S13) ok_X12_worthOf.1 (by decide +kernel) rfl rfl ?_
    obtain ⟨g14, h⟩ := ax_gd_e h
    refine ax_Tasi (n := 128) ok_X12_worthOf.1 (by decide +kernel) (by decide) rfl g14 ?_
    obtain ⟨S15, eS15, h⟩ := ax_let_e h
    rw [eS15]
    refine ax_Tgo [.aload_n 0, .getfield 20, .bipush 116, .iload_n 3] (pc' := 131) (L' := [some (.inr (12, 0)), some (.inl (.int a1)), some (.inl (.int a2)), some (.inl (.int a3)), some (.inl (.int a4)), some (.inl (.int a5)), some (.inl (.int a6)), some (.inl (.long v7)), none, some (.inl (.int v9))]) (st' := [.inl (.int a3), .inl (.int (116 : Int32)), .inr (46, 0)]) (S' := S15) ok_X12_worthOf.1 (by decide +kernel) rfl rfl ?_
    obtain ⟨g16, h⟩ := ax_gd_e h
    refine ax_Tasi (n := 128) ok_X12_worthOf.1 (by decide +kernel) (by decide) rfl g16 ?_
    obtain ⟨S17, eS17, h⟩ := ax_let_e h
    rw [eS17]
    refine ax_Tgo [.aload_n 0, .getfield 20, .bipush 103, .iload 4] (pc' := 140) (L' := [some (.inr (12, 0)), some (.inl (.int a1)), some (.inl (.int a2)), some (.inl (.int a3)), some (.inl (.int a4)), some (.inl (.int a5)), some (.inl (.int a6)), some (.inl (.long v7)), none, some (.inl (.int v9))]) (st' := [.inl (.int a4), .inl (.int (103 : Int32)), .inr (46, 0)]) (S' := S17) ok_X12_worthOf.1 (by decide +kernel) rfl rfl ?_
    obtain ⟨g18, h⟩ := ax_gd_e h
    refine ax_Tasi (n := 128) ok_X12_worthOf.1 (by decide +kernel) (by decide) rfl g18 ?_
    obtain ⟨S19, eS19, h⟩ := ax_let_e h
    rw [eS19]
    refine ax_Tgo [.aload_n 0, .getfield 20, .bipush 115, .iload 5] (pc' := 149) (L' := [some (.inr (12, 0)), some (.inl (.int a1)), some (.inl (.int a2)), some (.inl (.int a3)), some (.inl (.int a4)), some (.inl (.int a5)), some (.inl (.int a6)), some (.inl (.long v7)), none, some (.inl (.int v9))]) (st' := [.inl (.int a5), .inl (.int (115 : Int32)), .inr (46, 0)]) (S' := S19) ok_X12_worthOf.1 (by decide +kernel) rfl rfl ?_
    obtain ⟨g20, h⟩ := ax_gd_e h
    refine ax_Tasi (n := 128) ok_X12_worthOf.1 (by decide +kernel) (by decide) rfl g20 ?_
    obtain ⟨S21, eS21, h⟩ := ax_let_e h
    rw [eS21]
    refine ax_Tgo [.aload_n 0, .getfield 20, .bipush 100, .iload 6] (pc' := 158) (L' := [some (.inr (12, 0)), some (.inl (.int a1)), some (.inl (.int a2)), some (.inl (.int a3)), some (.inl (.int a4)), some (.inl (.int a5)), some (.inl (.int a6)), some (.inl (.long v7)), none, some (.inl (.int v9))]) (st' := [.inl (.int a6), .inl (.int (100 : Int32)), .inr (46, 0)]) (S' := S21) ok_X12_worthOf.1 (by decide +kernel) rfl rfl ?_
    obtain ⟨g22, h⟩ := ax_gd_e h
    refine ax_Tasi (n := 128) ok_X12_worthOf.1 (by decide +kernel) (by decide) rfl g22 ?_
    obtain ⟨S23, eS23, h⟩ := ax_let_e h
    rw [eS23]
    refine ax_Tgo [.aload_n 0, .aload_n 0, .getfield 13, .sipush 240, .aload_n 0, .getfield 67, .imul, .aload_n 0, .getfield 16, .aload_n 0, .getfield 67] (pc' := 180) (L' := [some (.inr (12, 0)), some (.inl (.int a1)), some (.inl (.int a2)), some (.inl (.int a3)), some (.inl (.int a4)), some (.inl (.int a5)), some (.inl (.int a6)), some (.inl (.long v7)), none, some (.inl (.int v9))]) (st' := [.inl (.int (ax_fi S23 12 0 34)), .inr (45, 0), .inl (.int ((240 : Int32) * (ax_fi S23 12 0 34))), .inr (44, 1), .inr (12, 0)]) (S' := S23) ok_X12_worthOf.1 (by decide +kernel) rfl rfl ?_
    obtain ⟨g24, h⟩ := ax_gd_e h
    refine ax_Tali (n := 4) ok_X12_worthOf.1 (by decide +kernel) (by decide) rfl g24 ?_
    obtain ⟨S25, hq26, h⟩ := ax_bd_e h
    refine ax_TVv (d := 71) (ka := 12) (i := 0) [.inr (44, 1), .inl (.int ((240 : Int32) * (ax_fi S23 12 0 34))), .inl (.int (ax_ai S23 45 0 (ax_fi S23 12 0 34).toNatClampNeg))] [] lk_X12_274 (by decide +kernel) rfl (by decide) rfl (Nat.le_of_ble_eq_true rfl) (Nat.le_of_ble_eq_true rfl) ((t_X12_goThrough_44 hq26).up (by decide)) ?_
    refine ax_Tgo [.aload_n 0, .getfield 74, .iload 9, .lload 7] (pc' := 192) (L' := [some (.inr (12, 0)), some (.inl (.int a1)), some (.inl (.int a2)), some (.inl (.int a3)), some (.inl (.int a4)), some (.inl (.int a5)), some (.inl (.int a6)), some (.inl (.long v7)), none, some (.inl (.int v9))]) (st' := [.inl (.long v7), .inl (.int v9), .inr (57, 0)]) (S' := S25) ok_X12_worthOf.1 (by decide +kernel) rfl rfl ?_
    obtain ⟨g28, h⟩ := ax_gd_e h
    refine ax_Tasl (n := 8191) ok_X12_worthOf.1 (by decide +kernel) (by decide) rfl g28 ?_
    obtain ⟨S29, eS29, h⟩ := ax_let_e h
    rw [eS29]
    refine ax_Tgo [.aload_n 0, .getfield 78, .iload 9, .aload_n 0, .getfield 201] (pc' := 203) (L' := [some (.inr (12, 0)), some (.inl (.int a1)), some (.inl (.int a2)), some (.inl (.int a3)), some (.inl (.int a4)), some (.inl (.int a5)), some (.inl (.int a6)), some (.inl (.long v7)), none, some (.inl (.int v9))]) (st' := [.inl (.int (ax_fi S29 12 0 14)), .inl (.int v9), .inr (58, 0)]) (S' := S29) ok_X12_worthOf.1 (by decide +kernel) rfl rfl ?_
    obtain ⟨g30, h⟩ := ax_gd_e h
    refine ax_Tasi (n := 8191) ok_X12_worthOf.1 (by decide +kernel) (by decide) rfl g30 ?_
    obtain ⟨S31, eS31, h⟩ := ax_let_e h
    rw [eS31]
    refine ax_Tgo [.aload_n 0, .getfield 201] (pc' := 208) (L' := [some (.inr (12, 0)), some (.inl (.int a1)), some (.inl (.int a2)), some (.inl (.int a3)), some (.inl (.int a4)), some (.inl (.int a5)), some (.inl (.int a6)), some (.inl (.long v7)), none, some (.inl (.int v9))]) (st' := [.inl (.int (ax_fi S31 12 0 14))]) (S' := S31) ok_X12_worthOf.1 (by decide +kernel) rfl rfl ?_
    cases h
    exact ax_Treti (by decide +kernel) rfl rfl
  · rw [if_pos c11] at h
    refine ax_Tgo [.aload_n 0, .getfield 78, .iload 9] (pc' := 106) (L' := [some (.inr (12, 0)), some (.inl (.int a1)), some (.inl (.int a2)), some (.inl (.int a3)), some (.inl (.int a4)), some (.inl (.int a5)), some (.inl (.int a6)), some (.inl (.long v7)), none, some (.inl (.int v9))]) (st' := [.inl (.int v9), .inr (58, 0)]) (S' := S) ok_X12_worthOf.1 (by decide +kernel) rfl rfl ?_
    obtain ⟨g32, h⟩ := ax_gd_e h
    refine ax_Tali (n := 8191) ok_X12_worthOf.1 (by decide +kernel) (by decide) rfl g32 ?_
    cases h
    exact ax_Treti (by decide +kernel) rfl rfl
def f_X12_takes_ (a1 : Int32) (a2 : Int32) (a3 : Int32) (a4 : Int32) (a5 : Int32) (a6 : Int32) (S : AS) : Option (Int32 × AS) := (f_X12_of a1 (0 : Int32) S).bind (fun (r4 : Int32) => ax_gd (ax_in (1 : Int32) 3) (ax_let ((r4 + (a2 * (ax_ai S 47 0 (1 : Int32).toNatClampNeg))) + ((2 : Int32) * a3)) (fun (v6 : Int32) => ax_let (fun (x7 : Int32) (S8 : AS) => ax_let (x7 + (a4 / (2 : Int32))) (fun (v11 : Int32) => (if (ax_fi S8 12 0 34) = (Int32.ofInt (-1)) then (f_J9_min_7cf53 (60 : Int32) v11 S8).bind (fun (r16 : Int32) => (f_J9_max_7cf53 (1 : Int32) r16 S8).bind (fun (r20 : Int32) => some (r20, S8))) else (f_X12_of a1 (0 : Int32) S8).bind (fun (r24 : Int32) => ax_bu (f_X12_worthOf r24 a2 a3 a4 a5 a6 S8) (fun (r28 : Int32) (S25 : AS) => (f_J9_min_7cf53 (60 : Int32) r28 S25).bind (fun (r32 : Int32) => (f_J9_max_7cf53 (1 : Int32) r32 S25).bind (fun (r36 : Int32) => some (r36, S25)))))))) (fun J9 => (if a5 = (1 : Int32) then ax_let (v6 / (2 : Int32)) (fun (v39 : Int32) => J9 v39 S) else J9 v6 S)))))
set_option maxRecDepth 100000 in
theorem t_X12_takes_ {l : Launch} {a1 : Int32} {a2 : Int32} {a3 : Int32} {a4 : Int32} {a5 : Int32} {a6 : Int32} {S Z : AS} {r : Int32} (h : f_X12_takes_ a1 a2 a3 a4 a5 a6 S = some (r, Z)) : ax_M l 73 ma_X12_takes_ [.inr (12, 0), .inl (.int a1), .inl (.int a2), .inl (.int a3), .inl (.int a4), .inl (.int a5), .inl (.int a6)] S (some (.inl (.int r))) Z := by
  unfold f_X12_takes_ at h
  show ax_T l 73 ma_X12_takes_ (0, [some (.inr (12, 0)), some (.inl (.int a1)), some (.inl (.int a2)), some (.inl (.int a3)), some (.inl (.int a4)), some (.inl (.int a5)), some (.inl (.int a6)), none], [], S) (some (.inl (.int r))) Z
  refine ax_Tgo [.aload_n 0, .iload_n 1, .iconst 0] (pc' := 3) (L' := [some (.inr (12, 0)), some (.inl (.int a1)), some (.inl (.int a2)), some (.inl (.int a3)), some (.inl (.int a4)), some (.inl (.int a5)), some (.inl (.int a6)), none]) (st' := [.inl (.int (0 : Int32)), .inl (.int a1), .inr (12, 0)]) (S' := S) ok_X12_takes_.1 (by decide +kernel) rfl rfl ?_
  obtain ⟨r4, hq2, h⟩ := ax_bd_e h
  refine ax_TVi (d := 72) (ka := 12) (i := 0) [.inl (.int a1), .inl (.int (0 : Int32))] [] lk_X12_311 (by decide +kernel) rfl (by decide) rfl (Nat.le_of_ble_eq_true rfl) (Nat.le_of_ble_eq_true rfl) ((t_X12_of hq2).up (by decide)) ?_
  refine ax_Tgo [.iload_n 2, .aload_n 0, .getfield 37, .iconst 1] (pc' := 12) (L' := [some (.inr (12, 0)), some (.inl (.int a1)), some (.inl (.int a2)), some (.inl (.int a3)), some (.inl (.int a4)), some (.inl (.int a5)), some (.inl (.int a6)), none]) (st' := [.inl (.int (1 : Int32)), .inr (47, 0), .inl (.int a2), .inl (.int r4)]) (S' := S) ok_X12_takes_.1 (by decide +kernel) rfl rfl ?_
  obtain ⟨g5, h⟩ := ax_gd_e h
  refine ax_Tali (n := 3) ok_X12_takes_.1 (by decide +kernel) (by decide) rfl g5 ?_
  refine ax_Tgo [.imul, .iadd, .iconst 2, .iload_n 3, .imul, .iadd, .istore 7] (pc' := 21) (L' := [some (.inr (12, 0)), some (.inl (.int a1)), some (.inl (.int a2)), some (.inl (.int a3)), some (.inl (.int a4)), some (.inl (.int a5)), some (.inl (.int a6)), some (.inl (.int ((r4 + (a2 * (ax_ai S 47 0 (1 : Int32).toNatClampNeg))) + ((2 : Int32) * a3))))]) (st' := []) (S' := S) ok_X12_takes_.1 (by decide +kernel) rfl rfl ?_
  obtain ⟨v6, ev6, h⟩ := ax_let_e h
  rw [ev6]
  refine ax_Tgo [.iload 5, .iconst 1] (pc' := 24) (L' := [some (.inr (12, 0)), some (.inl (.int a1)), some (.inl (.int a2)), some (.inl (.int a3)), some (.inl (.int a4)), some (.inl (.int a5)), some (.inl (.int a6)), some (.inl (.int v6))]) (st' := [.inl (.int (1 : Int32)), .inl (.int a5)]) (S' := S) ok_X12_takes_.1 (by decide +kernel) rfl rfl ?_
  obtain ⟨J9, eJ9, h⟩ := ax_let_e h
  have hJ9 : ∀ (x7 : Int32) (S8 : AS) r Z, J9 x7 S8 = some (r, Z) → ax_T l 73 ma_X12_takes_ (33, [some (.inr (12, 0)), some (.inl (.int a1)), some (.inl (.int a2)), some (.inl (.int a3)), some (.inl (.int a4)), some (.inl (.int a5)), some (.inl (.int a6)), some (.inl (.int x7))], [], S8) (some (.inl (.int r))) Z := by
    intro x7 S8 r Z h
    rw [← eJ9] at h
    try dsimp only at h
    refine ax_Tgo [.iload 7, .iload 4, .iconst 2] (pc' := 38) (L' := [some (.inr (12, 0)), some (.inl (.int a1)), some (.inl (.int a2)), some (.inl (.int a3)), some (.inl (.int a4)), some (.inl (.int a5)), some (.inl (.int a6)), some (.inl (.int x7))]) (st' := [.inl (.int (2 : Int32)), .inl (.int a4), .inl (.int x7)]) (S' := S8) ok_X12_takes_.1 (by decide +kernel) rfl rfl ?_
    refine ax_Tidiv ok_X12_takes_.1 (by decide +kernel) (by decide) ?_
    refine ax_Tgo [.iadd, .istore 7] (pc' := 42) (L' := [some (.inr (12, 0)), some (.inl (.int a1)), some (.inl (.int a2)), some (.inl (.int a3)), some (.inl (.int a4)), some (.inl (.int a5)), some (.inl (.int a6)), some (.inl (.int (x7 + (a4 / (2 : Int32)))))]) (st' := []) (S' := S8) ok_X12_takes_.1 (by decide +kernel) rfl rfl ?_
    obtain ⟨v11, ev11, h⟩ := ax_let_e h
    rw [ev11]
    refine ax_Tgo [.aload_n 0, .getfield 67, .iconst (-1)] (pc' := 47) (L' := [some (.inr (12, 0)), some (.inl (.int a1)), some (.inl (.int a2)), some (.inl (.int a3)), some (.inl (.int a4)), some (.inl (.int a5)), some (.inl (.int a6)), some (.inl (.int v11))]) (st' := [.inl (.int (Int32.ofInt (-1))), .inl (.int (ax_fi S8 12 0 34))]) (S' := S8) ok_X12_takes_.1 (by decide +kernel) rfl rfl ?_
    refine ax_Tic_eq (off := 23) (tgt := 70) (by decide +kernel) (by decide) (fun c12 => ?_) (fun c12 => ?_)
    · rw [if_pos c12] at h
      refine ax_Tgo [.iconst 1, .bipush 60, .iload 7] (pc' := 75) (L' := [some (.inr (12, 0)), some (.inl (.int a1)), some (.inl (.int a2)), some (.inl (.int a3)), some (.inl (.int a4)), some (.inl (.int a5)), some (.inl (.int a6)), some (.inl (.int v11))]) (st' := [.inl (.int v11), .inl (.int (60 : Int32)), .inl (.int (1 : Int32))]) (S' := S8) ok_X12_takes_.1 (by decide +kernel) rfl rfl ?_
      obtain ⟨r16, hq14, h⟩ := ax_bd_e h
      refine ax_TSi (d := 72) [.inl (.int (60 : Int32)), .inl (.int v11)] [.inl (.int (1 : Int32))] lk_X12_318 (by decide +kernel) rfl rfl (Nat.le_of_ble_eq_true rfl) (Nat.le_of_ble_eq_true rfl) ((t_J9_min_7cf53 hq14).up (by decide)) ?_
      obtain ⟨r20, hq18, h⟩ := ax_bd_e h
      refine ax_TSi (d := 72) [.inl (.int (1 : Int32)), .inl (.int r16)] [] lk_X12_320 (by decide +kernel) rfl rfl (Nat.le_of_ble_eq_true rfl) (Nat.le_of_ble_eq_true rfl) ((t_J9_max_7cf53 hq18).up (by decide)) ?_
      cases h
      exact ax_Treti (by decide +kernel) rfl rfl
    · rw [if_neg c12] at h
      refine ax_Tgo [.aload_n 0, .aload_n 0, .iload_n 1, .iconst 0] (pc' := 54) (L' := [some (.inr (12, 0)), some (.inl (.int a1)), some (.inl (.int a2)), some (.inl (.int a3)), some (.inl (.int a4)), some (.inl (.int a5)), some (.inl (.int a6)), some (.inl (.int v11))]) (st' := [.inl (.int (0 : Int32)), .inl (.int a1), .inr (12, 0), .inr (12, 0)]) (S' := S8) ok_X12_takes_.1 (by decide +kernel) rfl rfl ?_
      obtain ⟨r24, hq22, h⟩ := ax_bd_e h
      refine ax_TVi (d := 72) (ka := 12) (i := 0) [.inl (.int a1), .inl (.int (0 : Int32))] [.inr (12, 0)] lk_X12_311 (by decide +kernel) rfl (by decide) rfl (Nat.le_of_ble_eq_true rfl) (Nat.le_of_ble_eq_true rfl) ((t_X12_of hq22).up (by decide)) ?_
      refine ax_Tgo [.iload_n 2, .iload_n 3, .iload 4, .iload 5, .iload 6] (pc' := 65) (L' := [some (.inr (12, 0)), some (.inl (.int a1)), some (.inl (.int a2)), some (.inl (.int a3)), some (.inl (.int a4)), some (.inl (.int a5)), some (.inl (.int a6)), some (.inl (.int v11))]) (st' := [.inl (.int a6), .inl (.int a5), .inl (.int a4), .inl (.int a3), .inl (.int a2), .inl (.int r24), .inr (12, 0)]) (S' := S8) ok_X12_takes_.1 (by decide +kernel) rfl rfl ?_
      obtain ⟨r28, S25, hq26, h⟩ := ax_bu_e h
      refine ax_TVi (d := 72) (ka := 12) (i := 0) [.inl (.int r24), .inl (.int a2), .inl (.int a3), .inl (.int a4), .inl (.int a5), .inl (.int a6)] [] lk_X12_314 (by decide +kernel) rfl (by decide) rfl (Nat.le_of_ble_eq_true rfl) (Nat.le_of_ble_eq_true rfl) ((t_X12_worthOf hq26).up (by decide)) ?_
      refine ax_Tgo [.istore 7, .iconst 1, .bipush 60, .iload 7] (pc' := 75) (L' := [some (.inr (12, 0)), some (.inl (.int a1)), some (.inl (.int a2)), some (.inl (.int a3)), some (.inl (.int a4)), some (.inl (.int a5)), some (.inl (.int a6)), some (.inl (.int r28))]) (st' := [.inl (.int r28), .inl (.int (60 : Int32)), .inl (.int (1 : Int32))]) (S' := S25) ok_X12_takes_.1 (by decide +kernel) rfl rfl ?_
      obtain ⟨r32, hq30, h⟩ := ax_bd_e h
      refine ax_TSi (d := 72) [.inl (.int (60 : Int32)), .inl (.int r28)] [.inl (.int (1 : Int32))] lk_X12_318 (by decide +kernel) rfl rfl (Nat.le_of_ble_eq_true rfl) (Nat.le_of_ble_eq_true rfl) ((t_J9_min_7cf53 hq30).up (by decide)) ?_
      obtain ⟨r36, hq34, h⟩ := ax_bd_e h
      refine ax_TSi (d := 72) [.inl (.int (1 : Int32)), .inl (.int r32)] [] lk_X12_320 (by decide +kernel) rfl rfl (Nat.le_of_ble_eq_true rfl) (Nat.le_of_ble_eq_true rfl) ((t_J9_max_7cf53 hq34).up (by decide)) ?_
      cases h
      exact ax_Treti (by decide +kernel) rfl rfl
  refine ax_Tic_ne (off := 9) (tgt := 33) (by decide +kernel) (by decide) (fun c37 => ?_) (fun c37 => ?_)
  · rw [if_neg c37] at h
    exact hJ9 v6 S _ _ h
  · rw [if_pos c37] at h
    refine ax_Tgo [.iload 7, .iconst 2] (pc' := 30) (L' := [some (.inr (12, 0)), some (.inl (.int a1)), some (.inl (.int a2)), some (.inl (.int a3)), some (.inl (.int a4)), some (.inl (.int a5)), some (.inl (.int a6)), some (.inl (.int v6))]) (st' := [.inl (.int (2 : Int32)), .inl (.int v6)]) (S' := S) ok_X12_takes_.1 (by decide +kernel) rfl rfl ?_
    refine ax_Tidiv ok_X12_takes_.1 (by decide +kernel) (by decide) ?_
    refine ax_Tgo [.istore 7] (pc' := 33) (L' := [some (.inr (12, 0)), some (.inl (.int a1)), some (.inl (.int a2)), some (.inl (.int a3)), some (.inl (.int a4)), some (.inl (.int a5)), some (.inl (.int a6)), some (.inl (.int (v6 / (2 : Int32))))]) (st' := []) (S' := S) ok_X12_takes_.1 (by decide +kernel) rfl rfl ?_
    obtain ⟨v39, ev39, h⟩ := ax_let_e h
    rw [ev39]
    exact hJ9 v39 S _ _ h
def f_X12_takesIn_55x0 (a2 : Int32) (S : AS) : Option (Int32 × AS) := (f_X12_of a2 (1 : Int32) S).bind (fun (r4 : Int32) => ax_gd (ax_in (((2 : Int32) * a2) + (0 : Int32)) 204) (ax_gd (ax_in (17 : Int32) 204) (ax_gd (ax_in (18 : Int32) 204) (ax_gd (ax_in (22 : Int32) 204) (ax_bu (f_X12_takes_ a2 r4 (ax_ai S 55 0 (((2 : Int32) * a2) + (0 : Int32)).toNatClampNeg) (ax_ai S 55 0 (17 : Int32).toNatClampNeg) (ax_ai S 55 0 (18 : Int32).toNatClampNeg) (ax_ai S 55 0 (22 : Int32).toNatClampNeg) S) (fun (r12 : Int32) (S9 : AS) => some (r12, S9)))))))
set_option maxRecDepth 100000 in
theorem t_X12_takesIn_55x0 {l : Launch} {a2 : Int32} {S Z : AS} {r : Int32} (h : f_X12_takesIn_55x0 a2 S = some (r, Z)) : ax_M l 74 ma_X12_takesIn [.inr (12, 0), .inr (55, 0), .inl (.int a2)] S (some (.inl (.int r))) Z := by
  unfold f_X12_takesIn_55x0 at h
  show ax_T l 74 ma_X12_takesIn (0, [some (.inr (12, 0)), some (.inr (55, 0)), some (.inl (.int a2))], [], S) (some (.inl (.int r))) Z
  refine ax_Tgo [.aload_n 0, .iload_n 2, .aload_n 0, .iload_n 2, .iconst 1] (pc' := 5) (L' := [some (.inr (12, 0)), some (.inr (55, 0)), some (.inl (.int a2))]) (st' := [.inl (.int (1 : Int32)), .inl (.int a2), .inr (12, 0), .inl (.int a2), .inr (12, 0)]) (S' := S) ok_X12_takesIn.1 (by decide +kernel) rfl rfl ?_
  obtain ⟨r4, hq2, h⟩ := ax_bd_e h
  refine ax_TVi (d := 73) (ka := 12) (i := 0) [.inl (.int a2), .inl (.int (1 : Int32))] [.inl (.int a2), .inr (12, 0)] lk_X12_311 (by decide +kernel) rfl (by decide) rfl (Nat.le_of_ble_eq_true rfl) (Nat.le_of_ble_eq_true rfl) ((t_X12_of hq2).up (by decide)) ?_
  refine ax_Tgo [.aload_n 1, .iconst 2, .iload_n 2, .imul, .iconst 0, .iadd] (pc' := 14) (L' := [some (.inr (12, 0)), some (.inr (55, 0)), some (.inl (.int a2))]) (st' := [.inl (.int (((2 : Int32) * a2) + (0 : Int32))), .inr (55, 0), .inl (.int r4), .inl (.int a2), .inr (12, 0)]) (S' := S) ok_X12_takesIn.1 (by decide +kernel) rfl rfl ?_
  obtain ⟨g5, h⟩ := ax_gd_e h
  refine ax_Tali (n := 204) ok_X12_takesIn.1 (by decide +kernel) (by decide) rfl g5 ?_
  refine ax_Tgo [.aload_n 1, .bipush 17] (pc' := 18) (L' := [some (.inr (12, 0)), some (.inr (55, 0)), some (.inl (.int a2))]) (st' := [.inl (.int (17 : Int32)), .inr (55, 0), .inl (.int (ax_ai S 55 0 (((2 : Int32) * a2) + (0 : Int32)).toNatClampNeg)), .inl (.int r4), .inl (.int a2), .inr (12, 0)]) (S' := S) ok_X12_takesIn.1 (by decide +kernel) rfl rfl ?_
  obtain ⟨g6, h⟩ := ax_gd_e h
  refine ax_Tali (n := 204) ok_X12_takesIn.1 (by decide +kernel) (by decide) rfl g6 ?_
  refine ax_Tgo [.aload_n 1, .bipush 18] (pc' := 22) (L' := [some (.inr (12, 0)), some (.inr (55, 0)), some (.inl (.int a2))]) (st' := [.inl (.int (18 : Int32)), .inr (55, 0), .inl (.int (ax_ai S 55 0 (17 : Int32).toNatClampNeg)), .inl (.int (ax_ai S 55 0 (((2 : Int32) * a2) + (0 : Int32)).toNatClampNeg)), .inl (.int r4), .inl (.int a2), .inr (12, 0)]) (S' := S) ok_X12_takesIn.1 (by decide +kernel) rfl rfl ?_
  obtain ⟨g7, h⟩ := ax_gd_e h
  refine ax_Tali (n := 204) ok_X12_takesIn.1 (by decide +kernel) (by decide) rfl g7 ?_
  refine ax_Tgo [.aload_n 1, .bipush 22] (pc' := 26) (L' := [some (.inr (12, 0)), some (.inr (55, 0)), some (.inl (.int a2))]) (st' := [.inl (.int (22 : Int32)), .inr (55, 0), .inl (.int (ax_ai S 55 0 (18 : Int32).toNatClampNeg)), .inl (.int (ax_ai S 55 0 (17 : Int32).toNatClampNeg)), .inl (.int (ax_ai S 55 0 (((2 : Int32) * a2) + (0 : Int32)).toNatClampNeg)), .inl (.int r4), .inl (.int a2), .inr (12, 0)]) (S' := S) ok_X12_takesIn.1 (by decide +kernel) rfl rfl ?_
  obtain ⟨g8, h⟩ := ax_gd_e h
  refine ax_Tali (n := 204) ok_X12_takesIn.1 (by decide +kernel) (by decide) rfl g8 ?_
  obtain ⟨r12, S9, hq10, h⟩ := ax_bu_e h
  refine ax_TVi (d := 73) (ka := 12) (i := 0) [.inl (.int a2), .inl (.int r4), .inl (.int (ax_ai S 55 0 (((2 : Int32) * a2) + (0 : Int32)).toNatClampNeg)), .inl (.int (ax_ai S 55 0 (17 : Int32).toNatClampNeg)), .inl (.int (ax_ai S 55 0 (18 : Int32).toNatClampNeg)), .inl (.int (ax_ai S 55 0 (22 : Int32).toNatClampNeg))] [] lk_X12_322 (by decide +kernel) rfl (by decide) rfl (Nat.le_of_ble_eq_true rfl) (Nat.le_of_ble_eq_true rfl) ((t_X12_takes_ hq10).up (by decide)) ?_
  cases h
  exact ax_Treti (by decide +kernel) rfl rfl
def f_X12_valueOf (a1 : Int32) (a2 : Int32) (S : AS) : Option (Int32 × AS) := (if a1 = (1 : Int32) then ax_bu (f_X12_takesIn_55x0 a2 S) (fun (r5 : Int32) (S2 : AS) => some (r5, S2)) else if a1 = (2 : Int32) then ax_bu (f_X12_takesIn_55x0 a2 S) (fun (r10 : Int32) (S7 : AS) => some ((-r10), S7)) else if a1 = (3 : Int32) then (f_X12_of a2 (4 : Int32) S).bind (fun (r15 : Int32) => some (r15, S)) else if a1 = (4 : Int32) then (f_X12_of a2 (3 : Int32) S).bind (fun (r20 : Int32) => some (r20, S)) else ax_gd (ax_in (((2 : Int32) * a2) + (0 : Int32)) 204) (some ((ax_ai S 55 0 (((2 : Int32) * a2) + (0 : Int32)).toNatClampNeg), S)))
set_option maxRecDepth 100000 in
theorem t_X12_valueOf {l : Launch} {a1 : Int32} {a2 : Int32} {S Z : AS} {r : Int32} (h : f_X12_valueOf a1 a2 S = some (r, Z)) : ax_M l 75 ma_X12_valueOf [.inr (12, 0), .inl (.int a1), .inl (.int a2)] S (some (.inl (.int r))) Z := by
  unfold f_X12_valueOf at h
  show ax_T l 75 ma_X12_valueOf (0, [some (.inr (12, 0)), some (.inl (.int a1)), some (.inl (.int a2))], [], S) (some (.inl (.int r))) Z
  refine ax_Tgo [.iload_n 1] (pc' := 1) (L' := [some (.inr (12, 0)), some (.inl (.int a1)), some (.inl (.int a2))]) (st' := [.inl (.int a1)]) (S' := S) ok_X12_valueOf.1 (by decide +kernel) rfl rfl ?_
  by_cases c1 : a1 = (1 : Int32)
  · rw [if_pos c1] at h
    refine ax_TtIn (dflt := 66) (lo := 1) (hi := 4) (offs := #[31, 41, 52, 59]) (len := 31) (off := 31) (tgt := 32) (by decide +kernel) (by rw [c1]; decide) (by rw [c1]; decide) (by rw [c1]; rfl) (by decide) ?_
    refine ax_Tgo [.aload_n 0, .aload_n 0, .getfield 61, .iload_n 2] (pc' := 38) (L' := [some (.inr (12, 0)), some (.inl (.int a1)), some (.inl (.int a2))]) (st' := [.inl (.int a2), .inr (55, 0), .inr (12, 0)]) (S' := S) ok_X12_valueOf.1 (by decide +kernel) rfl rfl ?_
    obtain ⟨r5, S2, hq3, h⟩ := ax_bu_e h
    refine ax_TVi (d := 74) (ka := 12) (i := 0) [.inr (55, 0), .inl (.int a2)] [] lk_X12_327 (by decide +kernel) rfl (by decide) rfl (Nat.le_of_ble_eq_true rfl) (Nat.le_of_ble_eq_true rfl) ((t_X12_takesIn_55x0 hq3).up (by decide)) ?_
    cases h
    exact ax_Treti (by decide +kernel) rfl rfl
  · rw [if_neg c1] at h
    by_cases c6 : a1 = (2 : Int32)
    · rw [if_pos c6] at h
      refine ax_TtIn (dflt := 66) (lo := 1) (hi := 4) (offs := #[31, 41, 52, 59]) (len := 31) (off := 41) (tgt := 42) (by decide +kernel) (by rw [c6]; decide) (by rw [c6]; decide) (by rw [c6]; rfl) (by decide) ?_
      refine ax_Tgo [.aload_n 0, .aload_n 0, .getfield 61, .iload_n 2] (pc' := 48) (L' := [some (.inr (12, 0)), some (.inl (.int a1)), some (.inl (.int a2))]) (st' := [.inl (.int a2), .inr (55, 0), .inr (12, 0)]) (S' := S) ok_X12_valueOf.1 (by decide +kernel) rfl rfl ?_
      obtain ⟨r10, S7, hq8, h⟩ := ax_bu_e h
      refine ax_TVi (d := 74) (ka := 12) (i := 0) [.inr (55, 0), .inl (.int a2)] [] lk_X12_327 (by decide +kernel) rfl (by decide) rfl (Nat.le_of_ble_eq_true rfl) (Nat.le_of_ble_eq_true rfl) ((t_X12_takesIn_55x0 hq8).up (by decide)) ?_
      refine ax_Tgo [.ineg] (pc' := 52) (L' := [some (.inr (12, 0)), some (.inl (.int a1)), some (.inl (.int a2))]) (st' := [.inl (.int (-r10))]) (S' := S7) ok_X12_valueOf.1 (by decide +kernel) rfl rfl ?_
      cases h
      exact ax_Treti (by decide +kernel) rfl rfl
    · rw [if_neg c6] at h
      by_cases c11 : a1 = (3 : Int32)
      · rw [if_pos c11] at h
        refine ax_TtIn (dflt := 66) (lo := 1) (hi := 4) (offs := #[31, 41, 52, 59]) (len := 31) (off := 52) (tgt := 53) (by decide +kernel) (by rw [c11]; decide) (by rw [c11]; decide) (by rw [c11]; rfl) (by decide) ?_
        refine ax_Tgo [.aload_n 0, .iload_n 2, .iconst 4] (pc' := 56) (L' := [some (.inr (12, 0)), some (.inl (.int a1)), some (.inl (.int a2))]) (st' := [.inl (.int (4 : Int32)), .inl (.int a2), .inr (12, 0)]) (S' := S) ok_X12_valueOf.1 (by decide +kernel) rfl rfl ?_
        obtain ⟨r15, hq13, h⟩ := ax_bd_e h
        refine ax_TVi (d := 74) (ka := 12) (i := 0) [.inl (.int a2), .inl (.int (4 : Int32))] [] lk_X12_311 (by decide +kernel) rfl (by decide) rfl (Nat.le_of_ble_eq_true rfl) (Nat.le_of_ble_eq_true rfl) ((t_X12_of hq13).up (by decide)) ?_
        cases h
        exact ax_Treti (by decide +kernel) rfl rfl
      · rw [if_neg c11] at h
        by_cases c16 : a1 = (4 : Int32)
        · rw [if_pos c16] at h
          refine ax_TtIn (dflt := 66) (lo := 1) (hi := 4) (offs := #[31, 41, 52, 59]) (len := 31) (off := 59) (tgt := 60) (by decide +kernel) (by rw [c16]; decide) (by rw [c16]; decide) (by rw [c16]; rfl) (by decide) ?_
          refine ax_Tgo [.aload_n 0, .iload_n 2, .iconst 3] (pc' := 63) (L' := [some (.inr (12, 0)), some (.inl (.int a1)), some (.inl (.int a2))]) (st' := [.inl (.int (3 : Int32)), .inl (.int a2), .inr (12, 0)]) (S' := S) ok_X12_valueOf.1 (by decide +kernel) rfl rfl ?_
          obtain ⟨r20, hq18, h⟩ := ax_bd_e h
          refine ax_TVi (d := 74) (ka := 12) (i := 0) [.inl (.int a2), .inl (.int (3 : Int32))] [] lk_X12_311 (by decide +kernel) rfl (by decide) rfl (Nat.le_of_ble_eq_true rfl) (Nat.le_of_ble_eq_true rfl) ((t_X12_of hq18).up (by decide)) ?_
          cases h
          exact ax_Treti (by decide +kernel) rfl rfl
        · rw [if_neg c16] at h
          refine ax_TtOut (dflt := 66) (lo := 1) (hi := 4) (offs := #[31, 41, 52, 59]) (len := 31) (tgt := 67) (by decide +kernel) (by have zc1 := lv_neT (a := 1) c1 rfl; have zc6 := lv_neT (a := 2) c6 rfl; have zc11 := lv_neT (a := 3) c11 rfl; have zc16 := lv_neT (a := 4) c16 rfl; omega) (by decide) ?_
          refine ax_Tgo [.aload_n 0, .getfield 61, .iconst 2, .iload_n 2, .imul, .iconst 0, .iadd] (pc' := 76) (L' := [some (.inr (12, 0)), some (.inl (.int a1)), some (.inl (.int a2))]) (st' := [.inl (.int (((2 : Int32) * a2) + (0 : Int32))), .inr (55, 0)]) (S' := S) ok_X12_valueOf.1 (by decide +kernel) rfl rfl ?_
          obtain ⟨g21, h⟩ := ax_gd_e h
          refine ax_Tali (n := 204) ok_X12_valueOf.1 (by decide +kernel) (by decide) rfl g21 ?_
          cases h
          exact ax_Treti (by decide +kernel) rfl rfl
def f_X12_greatest_L4 (K39 : Int32 → AS → Option (Int32 × AS)) : Nat → Int32 → Int32 → Int32 → AS → Option (Int32 × AS)
  | 0, _, _, _, _ => none
  | n + 1, x1, x2, x3, S5 => (if (ax_fi S5 12 0 27) ≤ x3 then K39 x2 S5 else ax_bu (f_X12_valueOf x1 x3 S5) (fun (r10 : Int32) (S7 : AS) => ax_bu (f_X12_valueOf x1 x2 S7) (fun (r14 : Int32) (S11 : AS) => (if r10 ≤ r14 then ax_let (x3 + (1 : Int32)) (fun (v16 : Int32) => f_X12_greatest_L4 K39 n x1 x2 v16 S11) else ax_let (x3 + (1 : Int32)) (fun (v17 : Int32) => f_X12_greatest_L4 K39 n x1 x3 v17 S11)))))
def f_X12_greatest (a1 : Int32) (S : AS) : Option (Int32 × AS) := f_X12_greatest_L4 (fun (x4 : Int32) (S18 : AS) => some (x4, S18)) ax_F a1 (0 : Int32) (1 : Int32) S
set_option maxRecDepth 100000 in
theorem t_X12_greatest_L4 {l : Launch} {K39 : Int32 → AS → Option (Int32 × AS)} (hK39 : ∀ (x4 : Int32) (S : AS) r Z, K39 x4 S = some (r, Z) → ax_T l 76 ma_X12_greatest (39, [none, none, some (.inl (.int x4)), none], [], S) (some (.inl (.int r))) Z) : ∀ (n : Nat) (x1 : Int32) (x2 : Int32) (x3 : Int32) (S5 : AS) r Z, f_X12_greatest_L4 K39 n x1 x2 x3 S5 = some (r, Z) → ax_T l 76 ma_X12_greatest (4, [some (.inr (12, 0)), some (.inl (.int x1)), some (.inl (.int x2)), some (.inl (.int x3))], [], S5) (some (.inl (.int r))) Z := by
  intro n
  induction n with
  | zero =>
    intro x1 x2 x3 S5 r Z h
    cases h
  | succ n ih =>
    intro x1 x2 x3 S5 r Z h
    unfold f_X12_greatest_L4 at h
    refine ax_Tgo [.iload_n 3, .aload_n 0, .getfield 291] (pc' := 9) (L' := [some (.inr (12, 0)), some (.inl (.int x1)), some (.inl (.int x2)), some (.inl (.int x3))]) (st' := [.inl (.int (ax_fi S5 12 0 27)), .inl (.int x3)]) (S' := S5) ok_X12_greatest.1 (by decide +kernel) rfl rfl ?_
    refine ax_Tic_ge (off := 30) (tgt := 39) (by decide +kernel) (by decide) (fun c6 => ?_) (fun c6 => ?_)
    · rw [if_pos c6] at h
      refine ax_Tdrop [false, false, true, false] (L' := [none, none, some (.inl (.int x2)), none]) rfl ?_
      exact hK39 x2 S5 _ _ h
    · rw [if_neg c6] at h
      refine ax_Tgo [.aload_n 0, .iload_n 1, .iload_n 3] (pc' := 15) (L' := [some (.inr (12, 0)), some (.inl (.int x1)), some (.inl (.int x2)), some (.inl (.int x3))]) (st' := [.inl (.int x3), .inl (.int x1), .inr (12, 0)]) (S' := S5) ok_X12_greatest.1 (by decide +kernel) rfl rfl ?_
      obtain ⟨r10, S7, hq8, h⟩ := ax_bu_e h
      refine ax_TVi (d := 75) (ka := 12) (i := 0) [.inl (.int x1), .inl (.int x3)] [] lk_X12_460 (by decide +kernel) rfl (by decide) rfl (Nat.le_of_ble_eq_true rfl) (Nat.le_of_ble_eq_true rfl) ((t_X12_valueOf hq8).up (by decide)) ?_
      refine ax_Tgo [.aload_n 0, .iload_n 1, .iload_n 2] (pc' := 21) (L' := [some (.inr (12, 0)), some (.inl (.int x1)), some (.inl (.int x2)), some (.inl (.int x3))]) (st' := [.inl (.int x2), .inl (.int x1), .inr (12, 0), .inl (.int r10)]) (S' := S7) ok_X12_greatest.1 (by decide +kernel) rfl rfl ?_
      obtain ⟨r14, S11, hq12, h⟩ := ax_bu_e h
      refine ax_TVi (d := 75) (ka := 12) (i := 0) [.inl (.int x1), .inl (.int x2)] [.inl (.int r10)] lk_X12_460 (by decide +kernel) rfl (by decide) rfl (Nat.le_of_ble_eq_true rfl) (Nat.le_of_ble_eq_true rfl) ((t_X12_valueOf hq12).up (by decide)) ?_
      refine ax_Tic_le (off := 7) (tgt := 31) (by decide +kernel) (by decide) (fun c15 => ?_) (fun c15 => ?_)
      · rw [if_pos c15] at h
        refine ax_Tgo [.iload_n 2, .istore_n 2, .iinc 3 1] (pc' := 36) (L' := [some (.inr (12, 0)), some (.inl (.int x1)), some (.inl (.int x2)), some (.inl (.int (x3 + (1 : Int32))))]) (st' := []) (S' := S11) ok_X12_greatest.1 (by decide +kernel) rfl rfl ?_
        obtain ⟨v16, ev16, h⟩ := ax_let_e h
        rw [ev16]
        refine ax_Tgoto (off := (-32)) (tgt := 4) (by decide +kernel) (by decide) ?_
        exact ih x1 x2 v16 S11 _ _ h
      · rw [if_neg c15] at h
        refine ax_Tgo [.iload_n 3] (pc' := 28) (L' := [some (.inr (12, 0)), some (.inl (.int x1)), some (.inl (.int x2)), some (.inl (.int x3))]) (st' := [.inl (.int x3)]) (S' := S11) ok_X12_greatest.1 (by decide +kernel) rfl rfl ?_
        refine ax_Tgoto (off := 4) (tgt := 32) (by decide +kernel) (by decide) ?_
        refine ax_Tgo [.istore_n 2, .iinc 3 1] (pc' := 36) (L' := [some (.inr (12, 0)), some (.inl (.int x1)), some (.inl (.int x3)), some (.inl (.int (x3 + (1 : Int32))))]) (st' := []) (S' := S11) ok_X12_greatest.1 (by decide +kernel) rfl rfl ?_
        obtain ⟨v17, ev17, h⟩ := ax_let_e h
        rw [ev17]
        refine ax_Tgoto (off := (-32)) (tgt := 4) (by decide +kernel) (by decide) ?_
        exact ih x1 x3 v17 S11 _ _ h
set_option maxRecDepth 100000 in
theorem t_X12_greatest {l : Launch} {a1 : Int32} {S Z : AS} {r : Int32} (h : f_X12_greatest a1 S = some (r, Z)) : ax_M l 76 ma_X12_greatest [.inr (12, 0), .inl (.int a1)] S (some (.inl (.int r))) Z := by
  unfold f_X12_greatest at h
  show ax_T l 76 ma_X12_greatest (0, [some (.inr (12, 0)), some (.inl (.int a1)), none, none], [], S) (some (.inl (.int r))) Z
  refine ax_Tgo [.iconst 0, .istore_n 2, .iconst 1, .istore_n 3] (pc' := 4) (L' := [some (.inr (12, 0)), some (.inl (.int a1)), some (.inl (.int (0 : Int32))), some (.inl (.int (1 : Int32)))]) (st' := []) (S' := S) ok_X12_greatest.1 (by decide +kernel) rfl rfl ?_
  refine t_X12_greatest_L4 ?_ _ a1 (0 : Int32) (1 : Int32) S _ _ h
  · intro x4 S18 r Z h
    refine ax_Tgo [.iload_n 2] (pc' := 40) (L' := [none, none, some (.inl (.int x4)), none]) (st' := [.inl (.int x4)]) (S' := S18) ok_X12_greatest.1 (by decide +kernel) rfl rfl ?_
    cases h
    exact ax_Treti (by decide +kernel) rfl rfl
def f_X12_keenest_L4 (S : AS) (K43 : Int32 → Option (Int32)) : Nat → Int32 → Int32 → Option (Int32)
  | 0, _, _ => none
  | n + 1, x1, x2 => (if (ax_fi S 12 0 26) ≤ x2 then K43 x1 else ax_gd (ax_in ((2 : Int32) * x2) 8) (ax_gd (ax_in ((2 : Int32) * x1) 8) ((if (ax_ai S 49 0 ((2 : Int32) * x2).toNatClampNeg) ≤ (ax_ai S 49 0 ((2 : Int32) * x1).toNatClampNeg) then ax_let (x2 + (1 : Int32)) (fun (v8 : Int32) => f_X12_keenest_L4 S K43 n x1 v8) else ax_let (x2 + (1 : Int32)) (fun (v9 : Int32) => f_X12_keenest_L4 S K43 n x2 v9)))))
def f_X12_keenest (S : AS) : Option (Int32) := f_X12_keenest_L4 S (fun (x3 : Int32)  => some x3) ax_F (0 : Int32) (1 : Int32)
set_option maxRecDepth 100000 in
theorem t_X12_keenest_L4 {l : Launch} {S : AS} {K43 : Int32 → Option (Int32)} (hK43 : ∀ (x3 : Int32) r, K43 x3  = some r → ax_T l 0 ma_X12_keenest (43, [none, some (.inl (.int x3)), none], [], S) (some (.inl (.int r))) S) : ∀ (n : Nat) (x1 : Int32) (x2 : Int32) r, f_X12_keenest_L4 S K43 n x1 x2  = some r → ax_T l 0 ma_X12_keenest (4, [some (.inr (12, 0)), some (.inl (.int x1)), some (.inl (.int x2))], [], S) (some (.inl (.int r))) S := by
  intro n
  induction n with
  | zero =>
    intro x1 x2  r h
    cases h
  | succ n ih =>
    intro x1 x2  r h
    unfold f_X12_keenest_L4 at h
    refine ax_Tgo [.iload_n 2, .aload_n 0, .getfield 288] (pc' := 9) (L' := [some (.inr (12, 0)), some (.inl (.int x1)), some (.inl (.int x2))]) (st' := [.inl (.int (ax_fi S 12 0 26)), .inl (.int x2)]) (S' := S) ok_X12_keenest.1 (by decide +kernel) rfl rfl ?_
    refine ax_Tic_ge (off := 34) (tgt := 43) (by decide +kernel) (by decide) (fun c4 => ?_) (fun c4 => ?_)
    · rw [if_pos c4] at h
      refine ax_Tdrop [false, true, false] (L' := [none, some (.inl (.int x1)), none]) rfl ?_
      exact hK43 x1 _ h
    · rw [if_neg c4] at h
      refine ax_Tgo [.aload_n 0, .getfield 43, .iconst 2, .iload_n 2, .imul] (pc' := 19) (L' := [some (.inr (12, 0)), some (.inl (.int x1)), some (.inl (.int x2))]) (st' := [.inl (.int ((2 : Int32) * x2)), .inr (49, 0)]) (S' := S) ok_X12_keenest.1 (by decide +kernel) rfl rfl ?_
      obtain ⟨g5, h⟩ := ax_gd_e h
      refine ax_Tali (n := 8) ok_X12_keenest.1 (by decide +kernel) (by decide) rfl g5 ?_
      refine ax_Tgo [.aload_n 0, .getfield 43, .iconst 2, .iload_n 1, .imul] (pc' := 27) (L' := [some (.inr (12, 0)), some (.inl (.int x1)), some (.inl (.int x2))]) (st' := [.inl (.int ((2 : Int32) * x1)), .inr (49, 0), .inl (.int (ax_ai S 49 0 ((2 : Int32) * x2).toNatClampNeg))]) (S' := S) ok_X12_keenest.1 (by decide +kernel) rfl rfl ?_
      obtain ⟨g6, h⟩ := ax_gd_e h
      refine ax_Tali (n := 8) ok_X12_keenest.1 (by decide +kernel) (by decide) rfl g6 ?_
      refine ax_Tic_le (off := 7) (tgt := 35) (by decide +kernel) (by decide) (fun c7 => ?_) (fun c7 => ?_)
      · rw [if_pos c7] at h
        refine ax_Tgo [.iload_n 1, .istore_n 1, .iinc 2 1] (pc' := 40) (L' := [some (.inr (12, 0)), some (.inl (.int x1)), some (.inl (.int (x2 + (1 : Int32))))]) (st' := []) (S' := S) ok_X12_keenest.1 (by decide +kernel) rfl rfl ?_
        obtain ⟨v8, ev8, h⟩ := ax_let_e h
        rw [ev8]
        refine ax_Tgoto (off := (-36)) (tgt := 4) (by decide +kernel) (by decide) ?_
        exact ih x1 v8 _ h
      · rw [if_neg c7] at h
        refine ax_Tgo [.iload_n 2] (pc' := 32) (L' := [some (.inr (12, 0)), some (.inl (.int x1)), some (.inl (.int x2))]) (st' := [.inl (.int x2)]) (S' := S) ok_X12_keenest.1 (by decide +kernel) rfl rfl ?_
        refine ax_Tgoto (off := 4) (tgt := 36) (by decide +kernel) (by decide) ?_
        refine ax_Tgo [.istore_n 1, .iinc 2 1] (pc' := 40) (L' := [some (.inr (12, 0)), some (.inl (.int x2)), some (.inl (.int (x2 + (1 : Int32))))]) (st' := []) (S' := S) ok_X12_keenest.1 (by decide +kernel) rfl rfl ?_
        obtain ⟨v9, ev9, h⟩ := ax_let_e h
        rw [ev9]
        refine ax_Tgoto (off := (-36)) (tgt := 4) (by decide +kernel) (by decide) ?_
        exact ih x2 v9 _ h
set_option maxRecDepth 100000 in
theorem t_X12_keenest {l : Launch} {S : AS} {r : Int32} (h : f_X12_keenest S = some r) : ax_M l 0 ma_X12_keenest [.inr (12, 0)] S (some (.inl (.int r))) S := by
  unfold f_X12_keenest at h
  show ax_T l 0 ma_X12_keenest (0, [some (.inr (12, 0)), none, none], [], S) (some (.inl (.int r))) S
  refine ax_Tgo [.iconst 0, .istore_n 1, .iconst 1, .istore_n 2] (pc' := 4) (L' := [some (.inr (12, 0)), some (.inl (.int (0 : Int32))), some (.inl (.int (1 : Int32)))]) (st' := []) (S' := S) ok_X12_keenest.1 (by decide +kernel) rfl rfl ?_
  refine t_X12_keenest_L4 ?_ _ (0 : Int32) (1 : Int32) _ h
  · intro x3  r h
    refine ax_Tgo [.iload_n 1] (pc' := 44) (L' := [none, some (.inl (.int x3)), none]) (st' := [.inl (.int x3)]) (S' := S) ok_X12_keenest.1 (by decide +kernel) rfl rfl ?_
    cases h
    exact ax_Treti (by decide +kernel) rfl rfl
def f_X12_isCaller (a1 : Int32) (S : AS) : Option (Int32) := (if a1 < (0 : Int32) then some (0 : Int32) else (if (ax_fi S 12 0 27) ≤ a1 then some (0 : Int32) else some (1 : Int32)))
set_option maxRecDepth 100000 in
theorem t_X12_isCaller {l : Launch} {a1 : Int32} {S : AS} {r : Int32} (h : f_X12_isCaller a1 S = some r) : ax_M l 0 ma_X12_isCaller [.inr (12, 0), .inl (.int a1)] S (some (.inl (.int r))) S := by
  unfold f_X12_isCaller at h
  show ax_T l 0 ma_X12_isCaller (0, [some (.inr (12, 0)), some (.inl (.int a1))], [], S) (some (.inl (.int r))) S
  refine ax_Tgo [.iload_n 1] (pc' := 1) (L' := [some (.inr (12, 0)), some (.inl (.int a1))]) (st' := [.inl (.int a1)]) (S' := S) ok_X12_isCaller.1 (by decide +kernel) rfl rfl ?_
  refine ax_Tif_lt (off := 15) (tgt := 16) (by decide +kernel) (by decide) (fun c1 => ?_) (fun c1 => ?_)
  · rw [if_pos c1] at h
    refine ax_Tgo [.iconst 0] (pc' := 17) (L' := [some (.inr (12, 0)), some (.inl (.int a1))]) (st' := [.inl (.int (0 : Int32))]) (S' := S) ok_X12_isCaller.1 (by decide +kernel) rfl rfl ?_
    cases h
    exact ax_Treti (by decide +kernel) rfl rfl
  · rw [if_neg c1] at h
    refine ax_Tgo [.iload_n 1, .aload_n 0, .getfield 291] (pc' := 9) (L' := [some (.inr (12, 0)), some (.inl (.int a1))]) (st' := [.inl (.int (ax_fi S 12 0 27)), .inl (.int a1)]) (S' := S) ok_X12_isCaller.1 (by decide +kernel) rfl rfl ?_
    refine ax_Tic_ge (off := 7) (tgt := 16) (by decide +kernel) (by decide) (fun c2 => ?_) (fun c2 => ?_)
    · rw [if_pos c2] at h
      refine ax_Tgo [.iconst 0] (pc' := 17) (L' := [some (.inr (12, 0)), some (.inl (.int a1))]) (st' := [.inl (.int (0 : Int32))]) (S' := S) ok_X12_isCaller.1 (by decide +kernel) rfl rfl ?_
      cases h
      exact ax_Treti (by decide +kernel) rfl rfl
    · rw [if_neg c2] at h
      refine ax_Tgo [.iconst 1] (pc' := 13) (L' := [some (.inr (12, 0)), some (.inl (.int a1))]) (st' := [.inl (.int (1 : Int32))]) (S' := S) ok_X12_isCaller.1 (by decide +kernel) rfl rfl ?_
      refine ax_Tgoto (off := 4) (tgt := 17) (by decide +kernel) (by decide) ?_
      cases h
      exact ax_Treti (by decide +kernel) rfl rfl
def f_X12_canCall_55x0 (a2 : Int32) (S : AS) : Option (Int32 × AS) := (f_X12_isCaller a2 S).bind (fun (r4 : Int32) => (if r4 = (0 : Int32) then some ((0 : Int32), S) else ax_gd (ax_in (((2 : Int32) * a2) + (1 : Int32)) 204) ((if (ax_ai S 55 0 (((2 : Int32) * a2) + (1 : Int32)).toNatClampNeg) = (1 : Int32) then some ((0 : Int32), S) else (f_X12_of a2 (5 : Int32) S).bind (fun (r11 : Int32) => ax_gd (ax_in ((12 : Int32) + r11) 204) (ax_gd (ax_in (((2 : Int32) * r11) + (1 : Int32)) 8) ((if (ax_ai S 49 0 (((2 : Int32) * r11) + (1 : Int32)).toNatClampNeg) ≤ (ax_ai S 55 0 ((12 : Int32) + r11).toNatClampNeg) then some ((0 : Int32), S) else ax_gd (ax_in (16 : Int32) 204) (ax_bu (f_X12_takesIn_55x0 a2 S) (fun (r19 : Int32) (S16 : AS) => ax_gd (ax_in (0 : Int32) 3) ((if (ax_ai S16 47 0 (0 : Int32).toNatClampNeg) < ((ax_ai S 55 0 (16 : Int32).toNatClampNeg) + r19) then some ((0 : Int32), S16) else some ((1 : Int32), S16)))))))))))))
set_option maxRecDepth 100000 in
theorem t_X12_canCall_55x0 {l : Launch} {a2 : Int32} {S Z : AS} {r : Int32} (h : f_X12_canCall_55x0 a2 S = some (r, Z)) : ax_M l 75 ma_X12_canCall [.inr (12, 0), .inr (55, 0), .inl (.int a2)] S (some (.inl (.int r))) Z := by
  unfold f_X12_canCall_55x0 at h
  show ax_T l 75 ma_X12_canCall (0, [some (.inr (12, 0)), some (.inr (55, 0)), some (.inl (.int a2)), none], [], S) (some (.inl (.int r))) Z
  refine ax_Tgo [.aload_n 0, .iload_n 2] (pc' := 2) (L' := [some (.inr (12, 0)), some (.inr (55, 0)), some (.inl (.int a2)), none]) (st' := [.inl (.int a2), .inr (12, 0)]) (S' := S) ok_X12_canCall.1 (by decide +kernel) rfl rfl ?_
  obtain ⟨r4, hq2, h⟩ := ax_bd_e h
  refine ax_TVi (d := 74) (ka := 12) (i := 0) [.inl (.int a2)] [] lk_X12_324 (by decide +kernel) rfl (by decide) rfl (Nat.le_of_ble_eq_true rfl) (Nat.le_of_ble_eq_true rfl) ((t_X12_isCaller hq2).up (by decide)) ?_
  refine ax_Tif_eq (off := 14) (tgt := 19) (by decide +kernel) (by decide) (fun c5 => ?_) (fun c5 => ?_)
  · rw [if_pos c5] at h
    refine ax_Tgo [.iconst 0] (pc' := 20) (L' := [some (.inr (12, 0)), some (.inr (55, 0)), some (.inl (.int a2)), none]) (st' := [.inl (.int (0 : Int32))]) (S' := S) ok_X12_canCall.1 (by decide +kernel) rfl rfl ?_
    cases h
    exact ax_Treti (by decide +kernel) rfl rfl
  · rw [if_neg c5] at h
    refine ax_Tgo [.aload_n 1, .iconst 2, .iload_n 2, .imul, .iconst 1, .iadd] (pc' := 14) (L' := [some (.inr (12, 0)), some (.inr (55, 0)), some (.inl (.int a2)), none]) (st' := [.inl (.int (((2 : Int32) * a2) + (1 : Int32))), .inr (55, 0)]) (S' := S) ok_X12_canCall.1 (by decide +kernel) rfl rfl ?_
    obtain ⟨g6, h⟩ := ax_gd_e h
    refine ax_Tali (n := 204) ok_X12_canCall.1 (by decide +kernel) (by decide) rfl g6 ?_
    refine ax_Tgo [.iconst 1] (pc' := 16) (L' := [some (.inr (12, 0)), some (.inr (55, 0)), some (.inl (.int a2)), none]) (st' := [.inl (.int (1 : Int32)), .inl (.int (ax_ai S 55 0 (((2 : Int32) * a2) + (1 : Int32)).toNatClampNeg))]) (S' := S) ok_X12_canCall.1 (by decide +kernel) rfl rfl ?_
    refine ax_Tic_ne (off := 5) (tgt := 21) (by decide +kernel) (by decide) (fun c7 => ?_) (fun c7 => ?_)
    · rw [if_neg c7] at h
      refine ax_Tgo [.aload_n 0, .iload_n 2, .iconst 5] (pc' := 24) (L' := [some (.inr (12, 0)), some (.inr (55, 0)), some (.inl (.int a2)), none]) (st' := [.inl (.int (5 : Int32)), .inl (.int a2), .inr (12, 0)]) (S' := S) ok_X12_canCall.1 (by decide +kernel) rfl rfl ?_
      obtain ⟨r11, hq9, h⟩ := ax_bd_e h
      refine ax_TVi (d := 74) (ka := 12) (i := 0) [.inl (.int a2), .inl (.int (5 : Int32))] [] lk_X12_311 (by decide +kernel) rfl (by decide) rfl (Nat.le_of_ble_eq_true rfl) (Nat.le_of_ble_eq_true rfl) ((t_X12_of hq9).up (by decide)) ?_
      refine ax_Tgo [.istore_n 3, .aload_n 1, .bipush 12, .iload_n 3, .iadd] (pc' := 33) (L' := [some (.inr (12, 0)), some (.inr (55, 0)), some (.inl (.int a2)), some (.inl (.int r11))]) (st' := [.inl (.int ((12 : Int32) + r11)), .inr (55, 0)]) (S' := S) ok_X12_canCall.1 (by decide +kernel) rfl rfl ?_
      obtain ⟨g12, h⟩ := ax_gd_e h
      refine ax_Tali (n := 204) ok_X12_canCall.1 (by decide +kernel) (by decide) rfl g12 ?_
      refine ax_Tgo [.aload_n 0, .getfield 43, .iconst 2, .iload_n 3, .imul, .iconst 1, .iadd] (pc' := 43) (L' := [some (.inr (12, 0)), some (.inr (55, 0)), some (.inl (.int a2)), some (.inl (.int r11))]) (st' := [.inl (.int (((2 : Int32) * r11) + (1 : Int32))), .inr (49, 0), .inl (.int (ax_ai S 55 0 ((12 : Int32) + r11).toNatClampNeg))]) (S' := S) ok_X12_canCall.1 (by decide +kernel) rfl rfl ?_
      obtain ⟨g13, h⟩ := ax_gd_e h
      refine ax_Tali (n := 8) ok_X12_canCall.1 (by decide +kernel) (by decide) rfl g13 ?_
      refine ax_Tic_ge (off := 27) (tgt := 71) (by decide +kernel) (by decide) (fun c14 => ?_) (fun c14 => ?_)
      · rw [if_pos c14] at h
        refine ax_Tgo [.iconst 0] (pc' := 72) (L' := [some (.inr (12, 0)), some (.inr (55, 0)), some (.inl (.int a2)), some (.inl (.int r11))]) (st' := [.inl (.int (0 : Int32))]) (S' := S) ok_X12_canCall.1 (by decide +kernel) rfl rfl ?_
        cases h
        exact ax_Treti (by decide +kernel) rfl rfl
      · rw [if_neg c14] at h
        refine ax_Tgo [.aload_n 1, .bipush 16] (pc' := 50) (L' := [some (.inr (12, 0)), some (.inr (55, 0)), some (.inl (.int a2)), some (.inl (.int r11))]) (st' := [.inl (.int (16 : Int32)), .inr (55, 0)]) (S' := S) ok_X12_canCall.1 (by decide +kernel) rfl rfl ?_
        obtain ⟨g15, h⟩ := ax_gd_e h
        refine ax_Tali (n := 204) ok_X12_canCall.1 (by decide +kernel) (by decide) rfl g15 ?_
        refine ax_Tgo [.aload_n 0, .aload_n 1, .iload_n 2] (pc' := 54) (L' := [some (.inr (12, 0)), some (.inr (55, 0)), some (.inl (.int a2)), some (.inl (.int r11))]) (st' := [.inl (.int a2), .inr (55, 0), .inr (12, 0), .inl (.int (ax_ai S 55 0 (16 : Int32).toNatClampNeg))]) (S' := S) ok_X12_canCall.1 (by decide +kernel) rfl rfl ?_
        obtain ⟨r19, S16, hq17, h⟩ := ax_bu_e h
        refine ax_TVi (d := 74) (ka := 12) (i := 0) [.inr (55, 0), .inl (.int a2)] [.inl (.int (ax_ai S 55 0 (16 : Int32).toNatClampNeg))] lk_X12_327 (by decide +kernel) rfl (by decide) rfl (Nat.le_of_ble_eq_true rfl) (Nat.le_of_ble_eq_true rfl) ((t_X12_takesIn_55x0 hq17).up (by decide)) ?_
        refine ax_Tgo [.iadd, .aload_n 0, .getfield 37, .iconst 0] (pc' := 63) (L' := [some (.inr (12, 0)), some (.inr (55, 0)), some (.inl (.int a2)), some (.inl (.int r11))]) (st' := [.inl (.int (0 : Int32)), .inr (47, 0), .inl (.int ((ax_ai S 55 0 (16 : Int32).toNatClampNeg) + r19))]) (S' := S16) ok_X12_canCall.1 (by decide +kernel) rfl rfl ?_
        obtain ⟨g20, h⟩ := ax_gd_e h
        refine ax_Tali (n := 3) ok_X12_canCall.1 (by decide +kernel) (by decide) rfl g20 ?_
        refine ax_Tic_gt (off := 7) (tgt := 71) (by decide +kernel) (by decide) (fun c21 => ?_) (fun c21 => ?_)
        · rw [if_pos c21] at h
          refine ax_Tgo [.iconst 0] (pc' := 72) (L' := [some (.inr (12, 0)), some (.inr (55, 0)), some (.inl (.int a2)), some (.inl (.int r11))]) (st' := [.inl (.int (0 : Int32))]) (S' := S16) ok_X12_canCall.1 (by decide +kernel) rfl rfl ?_
          cases h
          exact ax_Treti (by decide +kernel) rfl rfl
        · rw [if_neg c21] at h
          refine ax_Tgo [.iconst 1] (pc' := 68) (L' := [some (.inr (12, 0)), some (.inr (55, 0)), some (.inl (.int a2)), some (.inl (.int r11))]) (st' := [.inl (.int (1 : Int32))]) (S' := S16) ok_X12_canCall.1 (by decide +kernel) rfl rfl ?_
          refine ax_Tgoto (off := 4) (tgt := 72) (by decide +kernel) (by decide) ?_
          cases h
          exact ax_Treti (by decide +kernel) rfl rfl
    · rw [if_pos c7] at h
      refine ax_Tgo [.iconst 0] (pc' := 20) (L' := [some (.inr (12, 0)), some (.inr (55, 0)), some (.inl (.int a2)), none]) (st' := [.inl (.int (0 : Int32))]) (S' := S) ok_X12_canCall.1 (by decide +kernel) rfl rfl ?_
      cases h
      exact ax_Treti (by decide +kernel) rfl rfl
def f_X12_would (a1 : Int32) (S : AS) : Option (Int32 × AS) := ax_bu (f_X12_takesIn_55x0 a1 S) (fun (r4 : Int32) (S1 : AS) => (f_X12_of a1 (3 : Int32) S1).bind (fun (r8 : Int32) => (if r4 < r8 then some ((0 : Int32), S1) else some ((1 : Int32), S1))))
set_option maxRecDepth 100000 in
theorem t_X12_would {l : Launch} {a1 : Int32} {S Z : AS} {r : Int32} (h : f_X12_would a1 S = some (r, Z)) : ax_M l 75 ma_X12_would [.inr (12, 0), .inl (.int a1)] S (some (.inl (.int r))) Z := by
  unfold f_X12_would at h
  show ax_T l 75 ma_X12_would (0, [some (.inr (12, 0)), some (.inl (.int a1))], [], S) (some (.inl (.int r))) Z
  refine ax_Tgo [.aload_n 0, .aload_n 0, .getfield 61, .iload_n 1] (pc' := 6) (L' := [some (.inr (12, 0)), some (.inl (.int a1))]) (st' := [.inl (.int a1), .inr (55, 0), .inr (12, 0)]) (S' := S) ok_X12_would.1 (by decide +kernel) rfl rfl ?_
  obtain ⟨r4, S1, hq2, h⟩ := ax_bu_e h
  refine ax_TVi (d := 74) (ka := 12) (i := 0) [.inr (55, 0), .inl (.int a1)] [] lk_X12_327 (by decide +kernel) rfl (by decide) rfl (Nat.le_of_ble_eq_true rfl) (Nat.le_of_ble_eq_true rfl) ((t_X12_takesIn_55x0 hq2).up (by decide)) ?_
  refine ax_Tgo [.aload_n 0, .iload_n 1, .iconst 3] (pc' := 12) (L' := [some (.inr (12, 0)), some (.inl (.int a1))]) (st' := [.inl (.int (3 : Int32)), .inl (.int a1), .inr (12, 0), .inl (.int r4)]) (S' := S1) ok_X12_would.1 (by decide +kernel) rfl rfl ?_
  obtain ⟨r8, hq6, h⟩ := ax_bd_e h
  refine ax_TVi (d := 74) (ka := 12) (i := 0) [.inl (.int a1), .inl (.int (3 : Int32))] [.inl (.int r4)] lk_X12_311 (by decide +kernel) rfl (by decide) rfl (Nat.le_of_ble_eq_true rfl) (Nat.le_of_ble_eq_true rfl) ((t_X12_of hq6).up (by decide)) ?_
  refine ax_Tic_lt (off := 7) (tgt := 22) (by decide +kernel) (by decide) (fun c9 => ?_) (fun c9 => ?_)
  · rw [if_pos c9] at h
    refine ax_Tgo [.iconst 0] (pc' := 23) (L' := [some (.inr (12, 0)), some (.inl (.int a1))]) (st' := [.inl (.int (0 : Int32))]) (S' := S1) ok_X12_would.1 (by decide +kernel) rfl rfl ?_
    cases h
    exact ax_Treti (by decide +kernel) rfl rfl
  · rw [if_neg c9] at h
    refine ax_Tgo [.iconst 1] (pc' := 19) (L' := [some (.inr (12, 0)), some (.inl (.int a1))]) (st' := [.inl (.int (1 : Int32))]) (S' := S1) ok_X12_would.1 (by decide +kernel) rfl rfl ?_
    refine ax_Tgoto (off := 4) (tgt := 23) (by decide +kernel) (by decide) ?_
    cases h
    exact ax_Treti (by decide +kernel) rfl rfl

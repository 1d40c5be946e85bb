/-! METHODS of the reference as functions, by program -/
def f_X12_calls_56x0 (a2 : Int32) (S : AS) : Option (Int32 × AS) := ax_bu (f_X12_takesIn_56x0 a2 S) (fun (r4 : Int32) (S1 : AS) => (f_X12_of a2 (5 : Int32) S1).bind (fun (r8 : Int32) => (f_X12_of a2 (3 : Int32) S1).bind (fun (r12 : Int32) => ax_let (fun (x13 : Int32) (S14 : AS) => ax_gd (ax_in (16 : Int32) 204) (ax_gd (ax_in (16 : Int32) 204) (ax_let (ax_sai S14 56 0 (16 : Int32).toNatClampNeg ((ax_ai S14 56 0 (16 : Int32).toNatClampNeg) + r4)) (fun (S18 : AS) => ax_gd (ax_in ((12 : Int32) + r8) 204) (ax_gd (ax_in ((12 : Int32) + r8) 204) (ax_let (ax_sai S18 56 0 ((12 : Int32) + r8).toNatClampNeg ((ax_ai S18 56 0 ((12 : Int32) + r8).toNatClampNeg) + (1 : Int32))) (fun (S21 : AS) => ax_gd (ax_in (((2 : Int32) * a2) + (1 : Int32)) 204) (ax_let (ax_sai S21 56 0 (((2 : Int32) * a2) + (1 : Int32)).toNatClampNeg (1 : Int32)) (fun (S23 : AS) => ax_gd (ax_in (17 : Int32) 204) (ax_gd (ax_in (17 : Int32) 204) (ax_let (ax_sai S23 56 0 (17 : Int32).toNatClampNeg ((ax_ai S23 56 0 (17 : Int32).toNatClampNeg) + (1 : Int32))) (fun (S26 : AS) => (if x13 = (0 : Int32) then ax_gd (ax_bo x13) (some (x13, S26)) else ax_gd (ax_in (20 : Int32) 204) (ax_gd (ax_in (20 : Int32) 204) (ax_let (ax_sai S26 56 0 (20 : Int32).toNatClampNeg ((ax_ai S26 56 0 (20 : Int32).toNatClampNeg) + (1 : Int32))) (fun (S31 : AS) => ax_gd (ax_in (19 : Int32) 204) ((f_X12_gainOf a2 S31).bind (fun (r36 : Int32) => (f_J9_min_7cf53 (9999 : Int32) ((ax_ai S31 56 0 (19 : Int32).toNatClampNeg) + r36) S31).bind (fun (r40 : Int32) => ax_gd (ax_in (19 : Int32) 204) (ax_let (ax_sai S31 56 0 (19 : Int32).toNatClampNeg r40) (fun (S42 : AS) => ax_gd (ax_bo x13) (some (x13, S42))))))))))))))))))))))) (fun J15 => (if r4 < r12 then J15 (0 : Int32) S1 else J15 (1 : Int32) S1)))))
set_option maxRecDepth 100000 in
theorem t_X12_calls_56x0 {l : Launch} {a2 : Int32} {S Z : AS} {r : Int32} (h : f_X12_calls_56x0 a2 S = some (r, Z)) : ax_M l 75 ma_X12_calls [.inr (12, 0), .inr (56, 0), .inl (.int a2)] S (some (.inl (.int r))) Z := by
  unfold f_X12_calls_56x0 at h
  show ax_T l 75 ma_X12_calls (0, [some (.inr (12, 0)), some (.inr (56, 0)), some (.inl (.int a2)), none, none, none], [], S) (some (.inl (.int r))) Z
  refine ax_Tgo [.aload_n 0, .aload_n 1, .iload_n 2] (pc' := 3) (L' := [some (.inr (12, 0)), some (.inr (56, 0)), some (.inl (.int a2)), none, none, none]) (st' := [.inl (.int a2), .inr (56, 0), .inr (12, 0)]) (S' := S) ok_X12_calls.1 (by decide +kernel) rfl rfl ?_
  obtain ⟨r4, S1, hq2, h⟩ := ax_bu_e h
  refine ax_TVi (d := 74) (ka := 12) (i := 0) [.inr (56, 0), .inl (.int a2)] [] lk_X12_327 (by decide +kernel) rfl (by decide) rfl (Nat.le_of_ble_eq_true rfl) (Nat.le_of_ble_eq_true rfl) ((t_X12_takesIn_56x0 hq2).up (by decide)) ?_
  refine ax_Tgo [.istore_n 3, .aload_n 0, .iload_n 2, .iconst 5] (pc' := 10) (L' := [some (.inr (12, 0)), some (.inr (56, 0)), some (.inl (.int a2)), some (.inl (.int r4)), none, none]) (st' := [.inl (.int (5 : Int32)), .inl (.int a2), .inr (12, 0)]) (S' := S1) ok_X12_calls.1 (by decide +kernel) rfl rfl ?_
  obtain ⟨r8, hq6, h⟩ := ax_bd_e h
  refine ax_TVi (d := 74) (ka := 12) (i := 0) [.inl (.int a2), .inl (.int (5 : Int32))] [] lk_X12_311 (by decide +kernel) rfl (by decide) rfl (Nat.le_of_ble_eq_true rfl) (Nat.le_of_ble_eq_true rfl) ((t_X12_of hq6).up (by decide)) ?_
  refine ax_Tgo [.istore 4, .iload_n 3, .aload_n 0, .iload_n 2, .iconst 3] (pc' := 19) (L' := [some (.inr (12, 0)), some (.inr (56, 0)), some (.inl (.int a2)), some (.inl (.int r4)), some (.inl (.int r8)), none]) (st' := [.inl (.int (3 : Int32)), .inl (.int a2), .inr (12, 0), .inl (.int r4)]) (S' := S1) ok_X12_calls.1 (by decide +kernel) rfl rfl ?_
  obtain ⟨r12, hq10, h⟩ := ax_bd_e h
  refine ax_TVi (d := 74) (ka := 12) (i := 0) [.inl (.int a2), .inl (.int (3 : Int32))] [.inl (.int r4)] lk_X12_311 (by decide +kernel) rfl (by decide) rfl (Nat.le_of_ble_eq_true rfl) (Nat.le_of_ble_eq_true rfl) ((t_X12_of hq10).up (by decide)) ?_
  obtain ⟨J15, eJ15, h⟩ := ax_let_e h
  have hJ15 : ∀ (x13 : Int32) (S14 : AS) r Z, J15 x13 S14 = some (r, Z) → ax_T l 75 ma_X12_calls (30, [some (.inr (12, 0)), some (.inr (56, 0)), some (.inl (.int a2)), some (.inl (.int r4)), some (.inl (.int r8)), none], [.inl (.int x13)], S14) (some (.inl (.int r))) Z := by
    intro x13 S14 r Z h
    rw [← eJ15] at h
    try dsimp only at h
    refine ax_Tgo [.istore 5, .aload_n 1, .bipush 16, .dup2] (pc' := 36) (L' := [some (.inr (12, 0)), some (.inr (56, 0)), some (.inl (.int a2)), some (.inl (.int r4)), some (.inl (.int r8)), some (.inl (.int x13))]) (st' := [.inl (.int (16 : Int32)), .inr (56, 0), .inl (.int (16 : Int32)), .inr (56, 0)]) (S' := S14) ok_X12_calls.1 (by decide +kernel) rfl rfl ?_
    obtain ⟨g16, h⟩ := ax_gd_e h
    refine ax_Tali (n := 204) ok_X12_calls.1 (by decide +kernel) (by decide) rfl g16 ?_
    refine ax_Tgo [.iload_n 3, .iadd] (pc' := 39) (L' := [some (.inr (12, 0)), some (.inr (56, 0)), some (.inl (.int a2)), some (.inl (.int r4)), some (.inl (.int r8)), some (.inl (.int x13))]) (st' := [.inl (.int ((ax_ai S14 56 0 (16 : Int32).toNatClampNeg) + r4)), .inl (.int (16 : Int32)), .inr (56, 0)]) (S' := S14) ok_X12_calls.1 (by decide +kernel) rfl rfl ?_
    obtain ⟨g17, h⟩ := ax_gd_e h
    refine ax_Tasi (n := 204) ok_X12_calls.1 (by decide +kernel) (by decide) rfl g17 ?_
    obtain ⟨S18, eS18, h⟩ := ax_let_e h
    rw [eS18]
    refine ax_Tgo [.aload_n 1, .bipush 12, .iload 4, .iadd, .dup2] (pc' := 47) (L' := [some (.inr (12, 0)), some (.inr (56, 0)), some (.inl (.int a2)), some (.inl (.int r4)), some (.inl (.int r8)), some (.inl (.int x13))]) (st' := [.inl (.int ((12 : Int32) + r8)), .inr (56, 0), .inl (.int ((12 : Int32) + r8)), .inr (56, 0)]) (S' := S18) ok_X12_calls.1 (by decide +kernel) rfl rfl ?_
    obtain ⟨g19, h⟩ := ax_gd_e h
    refine ax_Tali (n := 204) ok_X12_calls.1 (by decide +kernel) (by decide) rfl g19 ?_
    refine ax_Tgo [.iconst 1, .iadd] (pc' := 50) (L' := [some (.inr (12, 0)), some (.inr (56, 0)), some (.inl (.int a2)), some (.inl (.int r4)), some (.inl (.int r8)), some (.inl (.int x13))]) (st' := [.inl (.int ((ax_ai S18 56 0 ((12 : Int32) + r8).toNatClampNeg) + (1 : Int32))), .inl (.int ((12 : Int32) + r8)), .inr (56, 0)]) (S' := S18) ok_X12_calls.1 (by decide +kernel) rfl rfl ?_
    obtain ⟨g20, h⟩ := ax_gd_e h
    refine ax_Tasi (n := 204) ok_X12_calls.1 (by decide +kernel) (by decide) rfl g20 ?_
    obtain ⟨S21, eS21, h⟩ := ax_let_e h
    rw [eS21]
    refine ax_Tgo [.aload_n 1, .iconst 2, .iload_n 2, .imul, .iconst 1, .iadd, .iconst 1] (pc' := 58) (L' := [some (.inr (12, 0)), some (.inr (56, 0)), some (.inl (.int a2)), some (.inl (.int r4)), some (.inl (.int r8)), some (.inl (.int x13))]) (st' := [.inl (.int (1 : Int32)), .inl (.int (((2 : Int32) * a2) + (1 : Int32))), .inr (56, 0)]) (S' := S21) ok_X12_calls.1 (by decide +kernel) rfl rfl ?_
    obtain ⟨g22, h⟩ := ax_gd_e h
    refine ax_Tasi (n := 204) ok_X12_calls.1 (by decide +kernel) (by decide) rfl g22 ?_
    obtain ⟨S23, eS23, h⟩ := ax_let_e h
    rw [eS23]
    refine ax_Tgo [.aload_n 1, .bipush 17, .dup2] (pc' := 63) (L' := [some (.inr (12, 0)), some (.inr (56, 0)), some (.inl (.int a2)), some (.inl (.int r4)), some (.inl (.int r8)), some (.inl (.int x13))]) (st' := [.inl (.int (17 : Int32)), .inr (56, 0), .inl (.int (17 : Int32)), .inr (56, 0)]) (S' := S23) ok_X12_calls.1 (by decide +kernel) rfl rfl ?_
    obtain ⟨g24, h⟩ := ax_gd_e h
    refine ax_Tali (n := 204) ok_X12_calls.1 (by decide +kernel) (by decide) rfl g24 ?_
    refine ax_Tgo [.iconst 1, .iadd] (pc' := 66) (L' := [some (.inr (12, 0)), some (.inr (56, 0)), some (.inl (.int a2)), some (.inl (.int r4)), some (.inl (.int r8)), some (.inl (.int x13))]) (st' := [.inl (.int ((ax_ai S23 56 0 (17 : Int32).toNatClampNeg) + (1 : Int32))), .inl (.int (17 : Int32)), .inr (56, 0)]) (S' := S23) ok_X12_calls.1 (by decide +kernel) rfl rfl ?_
    obtain ⟨g25, h⟩ := ax_gd_e h
    refine ax_Tasi (n := 204) ok_X12_calls.1 (by decide +kernel) (by decide) rfl g25 ?_
    obtain ⟨S26, eS26, h⟩ := ax_let_e h
    rw [eS26]
    refine ax_Tgo [.iload 5] (pc' := 69) (L' := [some (.inr (12, 0)), some (.inr (56, 0)), some (.inl (.int a2)), some (.inl (.int r4)), some (.inl (.int r8)), some (.inl (.int x13))]) (st' := [.inl (.int x13)]) (S' := S26) ok_X12_calls.1 (by decide +kernel) rfl rfl ?_
    refine ax_Tif_eq (off := 31) (tgt := 100) (by decide +kernel) (by decide) (fun c27 => ?_) (fun c27 => ?_)
    · rw [if_pos c27] at h
      refine ax_Tgo [.iload 5] (pc' := 102) (L' := [some (.inr (12, 0)), some (.inr (56, 0)), some (.inl (.int a2)), some (.inl (.int r4)), some (.inl (.int r8)), some (.inl (.int x13))]) (st' := [.inl (.int x13)]) (S' := S26) ok_X12_calls.1 (by decide +kernel) rfl rfl ?_
      obtain ⟨g28, h⟩ := ax_gd_e h
      cases h
      exact ax_Tretz (by decide +kernel) rfl g28
    · rw [if_neg c27] at h
      refine ax_Tgo [.aload_n 1, .bipush 20, .dup2] (pc' := 76) (L' := [some (.inr (12, 0)), some (.inr (56, 0)), some (.inl (.int a2)), some (.inl (.int r4)), some (.inl (.int r8)), some (.inl (.int x13))]) (st' := [.inl (.int (20 : Int32)), .inr (56, 0), .inl (.int (20 : Int32)), .inr (56, 0)]) (S' := S26) ok_X12_calls.1 (by decide +kernel) rfl rfl ?_
      obtain ⟨g29, h⟩ := ax_gd_e h
      refine ax_Tali (n := 204) ok_X12_calls.1 (by decide +kernel) (by decide) rfl g29 ?_
      refine ax_Tgo [.iconst 1, .iadd] (pc' := 79) (L' := [some (.inr (12, 0)), some (.inr (56, 0)), some (.inl (.int a2)), some (.inl (.int r4)), some (.inl (.int r8)), some (.inl (.int x13))]) (st' := [.inl (.int ((ax_ai S26 56 0 (20 : Int32).toNatClampNeg) + (1 : Int32))), .inl (.int (20 : Int32)), .inr (56, 0)]) (S' := S26) ok_X12_calls.1 (by decide +kernel) rfl rfl ?_
      obtain ⟨g30, h⟩ := ax_gd_e h
      refine ax_Tasi (n := 204) ok_X12_calls.1 (by decide +kernel) (by decide) rfl g30 ?_
      obtain ⟨S31, eS31, h⟩ := ax_let_e h
      rw [eS31]
      refine ax_Tgo [.aload_n 1, .bipush 19, .sipush 9999, .aload_n 1, .bipush 19] (pc' := 89) (L' := [some (.inr (12, 0)), some (.inr (56, 0)), some (.inl (.int a2)), some (.inl (.int r4)), some (.inl (.int r8)), some (.inl (.int x13))]) (st' := [.inl (.int (19 : Int32)), .inr (56, 0), .inl (.int (9999 : Int32)), .inl (.int (19 : Int32)), .inr (56, 0)]) (S' := S31) ok_X12_calls.1 (by decide +kernel) rfl rfl ?_
      obtain ⟨g32, h⟩ := ax_gd_e h
      refine ax_Tali (n := 204) ok_X12_calls.1 (by decide +kernel) (by decide) rfl g32 ?_
      refine ax_Tgo [.aload_n 0, .iload_n 2] (pc' := 92) (L' := [some (.inr (12, 0)), some (.inr (56, 0)), some (.inl (.int a2)), some (.inl (.int r4)), some (.inl (.int r8)), some (.inl (.int x13))]) (st' := [.inl (.int a2), .inr (12, 0), .inl (.int (ax_ai S31 56 0 (19 : Int32).toNatClampNeg)), .inl (.int (9999 : Int32)), .inl (.int (19 : Int32)), .inr (56, 0)]) (S' := S31) ok_X12_calls.1 (by decide +kernel) rfl rfl ?_
      obtain ⟨r36, hq34, h⟩ := ax_bd_e h
      refine ax_TVi (d := 74) (ka := 12) (i := 0) [.inl (.int a2)] [.inl (.int (ax_ai S31 56 0 (19 : Int32).toNatClampNeg)), .inl (.int (9999 : Int32)), .inl (.int (19 : Int32)), .inr (56, 0)] lk_X12_331 (by decide +kernel) rfl (by decide) rfl (Nat.le_of_ble_eq_true rfl) (Nat.le_of_ble_eq_true rfl) ((t_X12_gainOf hq34).up (by decide)) ?_
      refine ax_Tgo [.iadd] (pc' := 96) (L' := [some (.inr (12, 0)), some (.inr (56, 0)), some (.inl (.int a2)), some (.inl (.int r4)), some (.inl (.int r8)), some (.inl (.int x13))]) (st' := [.inl (.int ((ax_ai S31 56 0 (19 : Int32).toNatClampNeg) + r36)), .inl (.int (9999 : Int32)), .inl (.int (19 : Int32)), .inr (56, 0)]) (S' := S31) ok_X12_calls.1 (by decide +kernel) rfl rfl ?_
      obtain ⟨r40, hq38, h⟩ := ax_bd_e h
      refine ax_TSi (d := 74) [.inl (.int (9999 : Int32)), .inl (.int ((ax_ai S31 56 0 (19 : Int32).toNatClampNeg) + r36))] [.inl (.int (19 : Int32)), .inr (56, 0)] lk_X12_318 (by decide +kernel) rfl rfl (Nat.le_of_ble_eq_true rfl) (Nat.le_of_ble_eq_true rfl) ((t_J9_min_7cf53 hq38).up (by decide)) ?_
      obtain ⟨g41, h⟩ := ax_gd_e h
      refine ax_Tasi (n := 204) ok_X12_calls.1 (by decide +kernel) (by decide) rfl g41 ?_
      obtain ⟨S42, eS42, h⟩ := ax_let_e h
      rw [eS42]
      refine ax_Tgo [.iload 5] (pc' := 102) (L' := [some (.inr (12, 0)), some (.inr (56, 0)), some (.inl (.int a2)), some (.inl (.int r4)), some (.inl (.int r8)), some (.inl (.int x13))]) (st' := [.inl (.int x13)]) (S' := S42) ok_X12_calls.1 (by decide +kernel) rfl rfl ?_
      obtain ⟨g43, h⟩ := ax_gd_e h
      cases h
      exact ax_Tretz (by decide +kernel) rfl g43
  refine ax_Tic_lt (off := 7) (tgt := 29) (by decide +kernel) (by decide) (fun c44 => ?_) (fun c44 => ?_)
  · rw [if_pos c44] at h
    refine ax_Tgo [.iconst 0] (pc' := 30) (L' := [some (.inr (12, 0)), some (.inr (56, 0)), some (.inl (.int a2)), some (.inl (.int r4)), some (.inl (.int r8)), none]) (st' := [.inl (.int (0 : Int32))]) (S' := S1) ok_X12_calls.1 (by decide +kernel) rfl rfl ?_
    exact hJ15 (0 : Int32) S1 _ _ h
  · rw [if_neg c44] at h
    refine ax_Tgo [.iconst 1] (pc' := 26) (L' := [some (.inr (12, 0)), some (.inr (56, 0)), some (.inl (.int a2)), some (.inl (.int r4)), some (.inl (.int r8)), none]) (st' := [.inl (.int (1 : Int32))]) (S' := S1) ok_X12_calls.1 (by decide +kernel) rfl rfl ?_
    refine ax_Tgoto (off := 4) (tgt := 30) (by decide +kernel) (by decide) ?_
    exact hJ15 (1 : Int32) S1 _ _ h
def f_X12_goOrder_L116 (rec : Nat → Int32 → Int32 → Int32 → AS → Option (AS)) (K148 : Int32 → Int32 → Int32 → AS → Option (AS)) : Nat → Int32 → Int32 → Int32 → Int32 → AS → Option (AS)
  | 0, _, _, _, _, _ => none
  | n + 1, x8, x9, x10, x11, S15 => (if (23 : Int32) < x11 then K148 x8 x9 x10 S15 else ax_gd (ax_in x11 204) (ax_gd (ax_in (((24 : Int32) * x8) + x11) 168) (ax_let (ax_sai S15 60 0 (((24 : Int32) * x8) + x11).toNatClampNeg (ax_ai S15 56 0 x11.toNatClampNeg)) (fun (S19 : AS) => ax_let (x11 + (1 : Int32)) (fun (v20 : Int32) => f_X12_goOrder_L116 rec K148 n x8 x9 x10 v20 S19)))))
def f_X12_goOrder_L231 (rec : Nat → Int32 → Int32 → Int32 → AS → Option (AS)) (K263 : Int32 → Int32 → Int32 → Int32 → AS → Option (AS)) : Nat → Int32 → Int32 → Int32 → Int32 → Int32 → AS → Option (AS)
  | 0, _, _, _, _, _, _ => none
  | n + 1, x44, x45, x46, x47, x48, S53 => (if (23 : Int32) < x48 then K263 x44 x45 x46 x47 S53 else ax_gd (ax_in (((24 : Int32) * x44) + x48) 168) (ax_gd (ax_in x48 204) (ax_let (ax_sai S53 56 0 x48.toNatClampNeg (ax_ai S53 60 0 (((24 : Int32) * x44) + x48).toNatClampNeg)) (fun (S57 : AS) => ax_let (x48 + (1 : Int32)) (fun (v58 : Int32) => f_X12_goOrder_L231 rec K263 n x44 x45 x46 x47 v58 S57)))))
def f_X12_goOrder_L151 (rec : Nat → Int32 → Int32 → Int32 → AS → Option (AS)) (K269 : AS → Option (AS)) : Nat → Int32 → Int32 → Int32 → Int32 → AS → Option (AS)
  | 0, _, _, _, _, _ => none
  | n + 1, x22, x23, x24, x25, S26 => (if (ax_fi S26 12 0 27) ≤ x25 then K269 S26 else ax_bu (f_X12_canCall_56x0 x25 S26) (fun (r31 : Int32) (S28 : AS) => (if r31 = (0 : Int32) then ax_let (x25 + (1 : Int32)) (fun (v76 : Int32) => f_X12_goOrder_L151 rec K269 n x22 x23 x24 v76 S28) else ax_bu (f_X12_calls_56x0 x25 S28) (fun (r36 : Int32) (S33 : AS) => ax_let (fun (x37 : Int32) (S38 : AS) => (if x22 = (0 : Int32) then (rec 0 (x22 + (1 : Int32)) x37 x25 S38).bind (fun (S61 : AS) => f_X12_goOrder_L231 rec (fun (x49 : Int32) (x50 : Int32) (x51 : Int32) (x52 : Int32) (S69 : AS) => ax_let (x52 + (1 : Int32)) (fun (v70 : Int32) => f_X12_goOrder_L151 rec K269 n x49 x50 x51 v70 S69)) ax_F x22 x23 x24 x25 (0 : Int32) S61) else (rec 0 (x22 + (1 : Int32)) x37 (((10 : Int32) * x24) + x25) S38).bind (fun (S41 : AS) => f_X12_goOrder_L231 rec (fun (x49 : Int32) (x50 : Int32) (x51 : Int32) (x52 : Int32) (S59 : AS) => ax_let (x52 + (1 : Int32)) (fun (v60 : Int32) => f_X12_goOrder_L151 rec K269 n x49 x50 x51 v60 S59)) ax_F x22 x23 x24 x25 (0 : Int32) S41))) (fun J39 => (if r36 = (0 : Int32) then J39 x23 S33 else (f_X12_gainOf x25 S33).bind (fun (r75 : Int32) => J39 (x23 + r75) S33)))))))
def b_X12_goOrder (rec : Nat → Int32 → Int32 → Int32 → AS → Option (AS)) (a1 : Int32) (a2 : Int32) (a3 : Int32) (S : AS) : Option (AS) := ax_let (fun (x1 : Int32) (S2 : AS) => ax_let (fun (x4 : Int32) (S5 : AS) => (if x4 = (0 : Int32) then f_X12_goOrder_L116 rec (fun (x12 : Int32) (x13 : Int32) (x14 : Int32) (S21 : AS) => f_X12_goOrder_L151 rec (fun (S77 : AS) => some S77) ax_F x12 x13 x14 (0 : Int32) S21) ax_F a1 a2 a3 (0 : Int32) S5 else ax_let (ax_sfi S5 12 0 42 a2) (fun (S78 : AS) => ax_gd (ax_in (16 : Int32) 204) (ax_let (ax_sfi S78 12 0 43 (ax_ai S78 56 0 (16 : Int32).toNatClampNeg)) (fun (S80 : AS) => ax_let (ax_sfi S80 12 0 44 a1) (fun (S81 : AS) => ax_let (ax_sfi S81 12 0 41 a3) (fun (S82 : AS) => f_X12_goOrder_L116 rec (fun (x12 : Int32) (x13 : Int32) (x14 : Int32) (S87 : AS) => f_X12_goOrder_L151 rec (fun (S92 : AS) => some S92) ax_F x12 x13 x14 (0 : Int32) S87) ax_F a1 a2 a3 (0 : Int32) S82))))))) (fun J6 => (if a2 = (ax_fi S2 12 0 42) then ax_gd (ax_in (16 : Int32) 204) ((if (ax_ai S2 56 0 (16 : Int32).toNatClampNeg) < (ax_fi S2 12 0 43) then J6 (1 : Int32) S2 else ax_gd (ax_in (16 : Int32) 204) ((if (ax_ai S2 56 0 (16 : Int32).toNatClampNeg) = (ax_fi S2 12 0 43) then (if a1 < (ax_fi S2 12 0 44) then J6 (1 : Int32) S2 else (if a1 = (ax_fi S2 12 0 44) then (if (ax_fi S2 12 0 41) ≤ a3 then J6 (0 : Int32) S2 else J6 (1 : Int32) S2) else J6 (0 : Int32) S2)) else J6 (0 : Int32) S2)))) else J6 x1 S2))) (fun J3 => (if a2 ≤ (ax_fi S 12 0 42) then J3 (0 : Int32) S else J3 (1 : Int32) S))
def g_Order : Nat → Nat → Int32 → Int32 → Int32 → AS → Option (AS)
  | 0, _, _, _, _, _ => none
  | n + 1, 0, b0, b1, b2, S => b_X12_goOrder (g_Order n) b0 b1 b2 S
  | _ + 1, _ + 1, _, _, _, _ => none
set_option maxRecDepth 100000 in
theorem t_X12_goOrder_L116 {l : Launch} {d : Nat} (hd : 76 ≤ d) {rec : Nat → Int32 → Int32 → Int32 → AS → Option (AS)} (hrec_0 : ∀ {a1 : Int32} {a2 : Int32} {a3 : Int32} {S Z : AS}, rec 0 a1 a2 a3 S = some Z → ax_M l d ma_X12_goOrder [.inr (12, 0), .inl (.int a1), .inl (.int a2), .inl (.int a3)] S none Z) {K148 : Int32 → Int32 → Int32 → AS → Option (AS)} (hK148 : ∀ (x12 : Int32) (x13 : Int32) (x14 : Int32) (S : AS) Z, K148 x12 x13 x14 S = some Z → ax_T l (d + 1) ma_X12_goOrder (148, [some (.inr (12, 0)), some (.inl (.int x12)), some (.inl (.int x13)), some (.inl (.int x14)), none, none, none, none], [], S) none Z) : ∀ (n : Nat) (x8 : Int32) (x9 : Int32) (x10 : Int32) (x11 : Int32) (S15 : AS) Z, f_X12_goOrder_L116 rec K148 n x8 x9 x10 x11 S15 = some Z → ax_T l (d + 1) ma_X12_goOrder (116, [some (.inr (12, 0)), some (.inl (.int x8)), some (.inl (.int x9)), some (.inl (.int x10)), none, some (.inl (.int x11)), none, none], [], S15) none Z := by
  intro n
  induction n with
  | zero =>
    intro x8 x9 x10 x11 S15 Z h
    cases h
  | succ n ih =>
    intro x8 x9 x10 x11 S15 Z h
    unfold f_X12_goOrder_L116 at h
    refine ax_Tgo [.iload 5, .bipush 23] (pc' := 120) (L' := [some (.inr (12, 0)), some (.inl (.int x8)), some (.inl (.int x9)), some (.inl (.int x10)), none, some (.inl (.int x11)), none, none]) (st' := [.inl (.int (23 : Int32)), .inl (.int x11)]) (S' := S15) ok_X12_goOrder.1 (by decide +kernel) rfl rfl ?_
    refine ax_Tic_gt (off := 28) (tgt := 148) (by decide +kernel) (by decide) (fun c16 => ?_) (fun c16 => ?_)
    · rw [if_pos c16] at h
      refine ax_Tdrop [true, true, true, true, true, false, true, true] (L' := [some (.inr (12, 0)), some (.inl (.int x8)), some (.inl (.int x9)), some (.inl (.int x10)), none, none, none, none]) rfl ?_
      exact hK148 x8 x9 x10 S15 _ h
    · rw [if_neg c16] at h
      refine ax_Tgo [.aload_n 0, .getfield 84, .bipush 24, .iload_n 1, .imul, .iload 5, .iadd, .aload_n 0, .getfield 64, .iload 5] (pc' := 140) (L' := [some (.inr (12, 0)), some (.inl (.int x8)), some (.inl (.int x9)), some (.inl (.int x10)), none, some (.inl (.int x11)), none, none]) (st' := [.inl (.int x11), .inr (56, 0), .inl (.int (((24 : Int32) * x8) + x11)), .inr (60, 0)]) (S' := S15) ok_X12_goOrder.1 (by decide +kernel) rfl rfl ?_
      obtain ⟨g17, h⟩ := ax_gd_e h
      refine ax_Tali (n := 204) ok_X12_goOrder.1 (by decide +kernel) (by decide) rfl g17 ?_
      obtain ⟨g18, h⟩ := ax_gd_e h
      refine ax_Tasi (n := 168) ok_X12_goOrder.1 (by decide +kernel) (by decide) rfl g18 ?_
      obtain ⟨S19, eS19, h⟩ := ax_let_e h
      rw [eS19]
      refine ax_Tgo [.iinc 5 1] (pc' := 145) (L' := [some (.inr (12, 0)), some (.inl (.int x8)), some (.inl (.int x9)), some (.inl (.int x10)), none, some (.inl (.int (x11 + (1 : Int32)))), none, none]) (st' := []) (S' := S19) ok_X12_goOrder.1 (by decide +kernel) rfl rfl ?_
      obtain ⟨v20, ev20, h⟩ := ax_let_e h
      rw [ev20]
      refine ax_Tgoto (off := (-29)) (tgt := 116) (by decide +kernel) (by decide) ?_
      exact ih x8 x9 x10 v20 S19 _ h
set_option maxRecDepth 100000 in
theorem t_X12_goOrder_L231 {l : Launch} {d : Nat} (hd : 76 ≤ d) {rec : Nat → Int32 → Int32 → Int32 → AS → Option (AS)} (hrec_0 : ∀ {a1 : Int32} {a2 : Int32} {a3 : Int32} {S Z : AS}, rec 0 a1 a2 a3 S = some Z → ax_M l d ma_X12_goOrder [.inr (12, 0), .inl (.int a1), .inl (.int a2), .inl (.int a3)] S none Z) {K263 : Int32 → Int32 → Int32 → Int32 → AS → Option (AS)} (hK263 : ∀ (x49 : Int32) (x50 : Int32) (x51 : Int32) (x52 : Int32) (S : AS) Z, K263 x49 x50 x51 x52 S = some Z → ax_T l (d + 1) ma_X12_goOrder (263, [some (.inr (12, 0)), some (.inl (.int x49)), some (.inl (.int x50)), some (.inl (.int x51)), none, some (.inl (.int x52)), none, none], [], S) none Z) : ∀ (n : Nat) (x44 : Int32) (x45 : Int32) (x46 : Int32) (x47 : Int32) (x48 : Int32) (S53 : AS) Z, f_X12_goOrder_L231 rec K263 n x44 x45 x46 x47 x48 S53 = some Z → ax_T l (d + 1) ma_X12_goOrder (231, [some (.inr (12, 0)), some (.inl (.int x44)), some (.inl (.int x45)), some (.inl (.int x46)), none, some (.inl (.int x47)), none, some (.inl (.int x48))], [], S53) none Z := by
  intro n
  induction n with
  | zero =>
    intro x44 x45 x46 x47 x48 S53 Z h
    cases h
  | succ n ih =>
    intro x44 x45 x46 x47 x48 S53 Z h
    unfold f_X12_goOrder_L231 at h
    refine ax_Tgo [.iload 7, .bipush 23] (pc' := 235) (L' := [some (.inr (12, 0)), some (.inl (.int x44)), some (.inl (.int x45)), some (.inl (.int x46)), none, some (.inl (.int x47)), none, some (.inl (.int x48))]) (st' := [.inl (.int (23 : Int32)), .inl (.int x48)]) (S' := S53) ok_X12_goOrder.1 (by decide +kernel) rfl rfl ?_
    refine ax_Tic_gt (off := 28) (tgt := 263) (by decide +kernel) (by decide) (fun c54 => ?_) (fun c54 => ?_)
    · rw [if_pos c54] at h
      refine ax_Tdrop [true, true, true, true, true, true, true, false] (L' := [some (.inr (12, 0)), some (.inl (.int x44)), some (.inl (.int x45)), some (.inl (.int x46)), none, some (.inl (.int x47)), none, none]) rfl ?_
      exact hK263 x44 x45 x46 x47 S53 _ h
    · rw [if_neg c54] at h
      refine ax_Tgo [.aload_n 0, .getfield 64, .iload 7, .aload_n 0, .getfield 84, .bipush 24, .iload_n 1, .imul, .iload 7, .iadd] (pc' := 255) (L' := [some (.inr (12, 0)), some (.inl (.int x44)), some (.inl (.int x45)), some (.inl (.int x46)), none, some (.inl (.int x47)), none, some (.inl (.int x48))]) (st' := [.inl (.int (((24 : Int32) * x44) + x48)), .inr (60, 0), .inl (.int x48), .inr (56, 0)]) (S' := S53) ok_X12_goOrder.1 (by decide +kernel) rfl rfl ?_
      obtain ⟨g55, h⟩ := ax_gd_e h
      refine ax_Tali (n := 168) ok_X12_goOrder.1 (by decide +kernel) (by decide) rfl g55 ?_
      obtain ⟨g56, h⟩ := ax_gd_e h
      refine ax_Tasi (n := 204) ok_X12_goOrder.1 (by decide +kernel) (by decide) rfl g56 ?_
      obtain ⟨S57, eS57, h⟩ := ax_let_e h
      rw [eS57]
      refine ax_Tgo [.iinc 7 1] (pc' := 260) (L' := [some (.inr (12, 0)), some (.inl (.int x44)), some (.inl (.int x45)), some (.inl (.int x46)), none, some (.inl (.int x47)), none, some (.inl (.int (x48 + (1 : Int32))))]) (st' := []) (S' := S57) ok_X12_goOrder.1 (by decide +kernel) rfl rfl ?_
      obtain ⟨v58, ev58, h⟩ := ax_let_e h
      rw [ev58]
      refine ax_Tgoto (off := (-29)) (tgt := 231) (by decide +kernel) (by decide) ?_
      exact ih x44 x45 x46 x47 v58 S57 _ h
set_option maxRecDepth 100000 in
theorem t_X12_goOrder_L151 {l : Launch} {d : Nat} (hd : 76 ≤ d) {rec : Nat → Int32 → Int32 → Int32 → AS → Option (AS)} (hrec_0 : ∀ {a1 : Int32} {a2 : Int32} {a3 : Int32} {S Z : AS}, rec 0 a1 a2 a3 S = some Z → ax_M l d ma_X12_goOrder [.inr (12, 0), .inl (.int a1), .inl (.int a2), .inl (.int a3)] S none Z) {K269 : AS → Option (AS)} (hK269 : ∀ (S : AS) Z, K269 S = some Z → ax_T l (d + 1) ma_X12_goOrder (269, [none, none, none, none, none, none, none, none], [], S) none Z) : ∀ (n : Nat) (x22 : Int32) (x23 : Int32) (x24 : Int32) (x25 : Int32) (S26 : AS) Z, f_X12_goOrder_L151 rec K269 n x22 x23 x24 x25 S26 = some Z → ax_T l (d + 1) ma_X12_goOrder (151, [some (.inr (12, 0)), some (.inl (.int x22)), some (.inl (.int x23)), some (.inl (.int x24)), none, some (.inl (.int x25)), none, none], [], S26) none Z := by
  intro n
  induction n with
  | zero =>
    intro x22 x23 x24 x25 S26 Z h
    cases h
  | succ n ih =>
    intro x22 x23 x24 x25 S26 Z h
    unfold f_X12_goOrder_L151 at h
    refine ax_Tgo [.iload 5, .aload_n 0, .getfield 291] (pc' := 157) (L' := [some (.inr (12, 0)), some (.inl (.int x22)), some (.inl (.int x23)), some (.inl (.int x24)), none, some (.inl (.int x25)), none, none]) (st' := [.inl (.int (ax_fi S26 12 0 27)), .inl (.int x25)]) (S' := S26) ok_X12_goOrder.1 (by decide +kernel) rfl rfl ?_
    refine ax_Tic_ge (off := 112) (tgt := 269) (by decide +kernel) (by decide) (fun c27 => ?_) (fun c27 => ?_)
    · rw [if_pos c27] at h
      refine ax_Tdrop [false, false, false, false, true, false, true, true] (L' := [none, none, none, none, none, none, none, none]) rfl ?_
      exact hK269 S26 _ h
    · rw [if_neg c27] at h
      refine ax_Tgo [.aload_n 0, .aload_n 0, .getfield 64, .iload 5] (pc' := 167) (L' := [some (.inr (12, 0)), some (.inl (.int x22)), some (.inl (.int x23)), some (.inl (.int x24)), none, some (.inl (.int x25)), none, none]) (st' := [.inl (.int x25), .inr (56, 0), .inr (12, 0)]) (S' := S26) ok_X12_goOrder.1 (by decide +kernel) rfl rfl ?_
      obtain ⟨r31, S28, hq29, h⟩ := ax_bu_e h
      refine ax_TVi (d := d) (ka := 12) (i := 0) [.inr (56, 0), .inl (.int x25)] [] lk_X12_348 (by decide +kernel) rfl (by decide) rfl (Nat.le_of_ble_eq_true rfl) (Nat.le_of_ble_eq_true rfl) ((t_X12_canCall_56x0 hq29).up (by omega)) ?_
      refine ax_Tif_ne (off := 6) (tgt := 176) (by decide +kernel) (by decide) (fun c32 => ?_) (fun c32 => ?_)
      · rw [if_neg c32] at h
        refine ax_Tgo [.aload_n 0, .aload_n 0, .getfield 64, .iload 5] (pc' := 183) (L' := [some (.inr (12, 0)), some (.inl (.int x22)), some (.inl (.int x23)), some (.inl (.int x24)), none, some (.inl (.int x25)), none, none]) (st' := [.inl (.int x25), .inr (56, 0), .inr (12, 0)]) (S' := S28) ok_X12_goOrder.1 (by decide +kernel) rfl rfl ?_
        obtain ⟨r36, S33, hq34, h⟩ := ax_bu_e h
        refine ax_TVi (d := d) (ka := 12) (i := 0) [.inr (56, 0), .inl (.int x25)] [] lk_X12_355 (by decide +kernel) rfl (by decide) rfl (Nat.le_of_ble_eq_true rfl) (Nat.le_of_ble_eq_true rfl) ((t_X12_calls_56x0 hq34).up (by omega)) ?_
        refine ax_Tgo [.istore 6, .aload_n 0, .iload_n 1, .iconst 1, .iadd, .iload 6] (pc' := 194) (L' := [some (.inr (12, 0)), some (.inl (.int x22)), some (.inl (.int x23)), some (.inl (.int x24)), none, some (.inl (.int x25)), some (.inl (.int r36)), none]) (st' := [.inl (.int r36), .inl (.int (x22 + (1 : Int32))), .inr (12, 0)]) (S' := S33) ok_X12_goOrder.1 (by decide +kernel) rfl rfl ?_
        obtain ⟨J39, eJ39, h⟩ := ax_let_e h
        have hJ39 : ∀ (x37 : Int32) (S38 : AS) Z, J39 x37 S38 = some Z → ax_T l (d + 1) ma_X12_goOrder (209, [some (.inr (12, 0)), some (.inl (.int x22)), some (.inl (.int x23)), some (.inl (.int x24)), none, some (.inl (.int x25)), none, none], [.inl (.int x37), .inl (.int (x22 + (1 : Int32))), .inr (12, 0)], S38) none Z := by
          intro x37 S38 Z h
          rw [← eJ39] at h
          try dsimp only at h
          refine ax_Tgo [.iload_n 1] (pc' := 210) (L' := [some (.inr (12, 0)), some (.inl (.int x22)), some (.inl (.int x23)), some (.inl (.int x24)), none, some (.inl (.int x25)), none, none]) (st' := [.inl (.int x22), .inl (.int x37), .inl (.int (x22 + (1 : Int32))), .inr (12, 0)]) (S' := S38) ok_X12_goOrder.1 (by decide +kernel) rfl rfl ?_
          refine ax_Tif_ne (off := 8) (tgt := 218) (by decide +kernel) (by decide) (fun c40 => ?_) (fun c40 => ?_)
          · rw [if_neg c40] at h
            refine ax_Tgo [.bipush 10, .iload_n 3, .imul, .iload 5, .iadd] (pc' := 225) (L' := [some (.inr (12, 0)), some (.inl (.int x22)), some (.inl (.int x23)), some (.inl (.int x24)), none, some (.inl (.int x25)), none, none]) (st' := [.inl (.int (((10 : Int32) * x24) + x25)), .inl (.int x37), .inl (.int (x22 + (1 : Int32))), .inr (12, 0)]) (S' := S38) ok_X12_goOrder.1 (by decide +kernel) rfl rfl ?_
            obtain ⟨S41, hq42, h⟩ := ax_bd_e h
            refine ax_TVv (d := d) (ka := 12) (i := 0) [.inl (.int (x22 + (1 : Int32))), .inl (.int x37), .inl (.int (((10 : Int32) * x24) + x25))] [] lk_X12_414 (by decide +kernel) rfl (by decide) rfl (Nat.le_of_ble_eq_true rfl) (Nat.le_of_ble_eq_true rfl) (hrec_0 hq42) ?_
            refine ax_Tgo [.iconst 0, .istore 7] (pc' := 231) (L' := [some (.inr (12, 0)), some (.inl (.int x22)), some (.inl (.int x23)), some (.inl (.int x24)), none, some (.inl (.int x25)), none, some (.inl (.int (0 : Int32)))]) (st' := []) (S' := S41) ok_X12_goOrder.1 (by decide +kernel) rfl rfl ?_
            refine t_X12_goOrder_L231 hd hrec_0 ?_ _ x22 x23 x24 x25 (0 : Int32) S41 _ h
            · intro x49 x50 x51 x52 S59 Z h
              refine ax_Tgo [.iinc 5 1] (pc' := 266) (L' := [some (.inr (12, 0)), some (.inl (.int x49)), some (.inl (.int x50)), some (.inl (.int x51)), none, some (.inl (.int (x52 + (1 : Int32)))), none, none]) (st' := []) (S' := S59) ok_X12_goOrder.1 (by decide +kernel) rfl rfl ?_
              obtain ⟨v60, ev60, h⟩ := ax_let_e h
              rw [ev60]
              refine ax_Tgoto (off := (-115)) (tgt := 151) (by decide +kernel) (by decide) ?_
              exact ih x49 x50 x51 v60 S59 _ h
          · rw [if_pos c40] at h
            refine ax_Tgo [.iload 5] (pc' := 215) (L' := [some (.inr (12, 0)), some (.inl (.int x22)), some (.inl (.int x23)), some (.inl (.int x24)), none, some (.inl (.int x25)), none, none]) (st' := [.inl (.int x25), .inl (.int x37), .inl (.int (x22 + (1 : Int32))), .inr (12, 0)]) (S' := S38) ok_X12_goOrder.1 (by decide +kernel) rfl rfl ?_
            refine ax_Tgoto (off := 10) (tgt := 225) (by decide +kernel) (by decide) ?_
            obtain ⟨S61, hq62, h⟩ := ax_bd_e h
            refine ax_TVv (d := d) (ka := 12) (i := 0) [.inl (.int (x22 + (1 : Int32))), .inl (.int x37), .inl (.int x25)] [] lk_X12_414 (by decide +kernel) rfl (by decide) rfl (Nat.le_of_ble_eq_true rfl) (Nat.le_of_ble_eq_true rfl) (hrec_0 hq62) ?_
            refine ax_Tgo [.iconst 0, .istore 7] (pc' := 231) (L' := [some (.inr (12, 0)), some (.inl (.int x22)), some (.inl (.int x23)), some (.inl (.int x24)), none, some (.inl (.int x25)), none, some (.inl (.int (0 : Int32)))]) (st' := []) (S' := S61) ok_X12_goOrder.1 (by decide +kernel) rfl rfl ?_
            refine t_X12_goOrder_L231 hd hrec_0 ?_ _ x22 x23 x24 x25 (0 : Int32) S61 _ h
            · intro x49 x50 x51 x52 S69 Z h
              refine ax_Tgo [.iinc 5 1] (pc' := 266) (L' := [some (.inr (12, 0)), some (.inl (.int x49)), some (.inl (.int x50)), some (.inl (.int x51)), none, some (.inl (.int (x52 + (1 : Int32)))), none, none]) (st' := []) (S' := S69) ok_X12_goOrder.1 (by decide +kernel) rfl rfl ?_
              obtain ⟨v70, ev70, h⟩ := ax_let_e h
              rw [ev70]
              refine ax_Tgoto (off := (-115)) (tgt := 151) (by decide +kernel) (by decide) ?_
              exact ih x49 x50 x51 v70 S69 _ h
        refine ax_Tif_eq (off := 14) (tgt := 208) (by decide +kernel) (by decide) (fun c71 => ?_) (fun c71 => ?_)
        · rw [if_pos c71] at h
          refine ax_Tgo [.iload_n 2] (pc' := 209) (L' := [some (.inr (12, 0)), some (.inl (.int x22)), some (.inl (.int x23)), some (.inl (.int x24)), none, some (.inl (.int x25)), some (.inl (.int r36)), none]) (st' := [.inl (.int x23), .inl (.int (x22 + (1 : Int32))), .inr (12, 0)]) (S' := S33) ok_X12_goOrder.1 (by decide +kernel) rfl rfl ?_
          refine ax_Tdrop [true, true, true, true, true, true, false, true] (L' := [some (.inr (12, 0)), some (.inl (.int x22)), some (.inl (.int x23)), some (.inl (.int x24)), none, some (.inl (.int x25)), none, none]) rfl ?_
          exact hJ39 x23 S33 _ h
        · rw [if_neg c71] at h
          refine ax_Tgo [.iload_n 2, .aload_n 0, .iload 5] (pc' := 201) (L' := [some (.inr (12, 0)), some (.inl (.int x22)), some (.inl (.int x23)), some (.inl (.int x24)), none, some (.inl (.int x25)), some (.inl (.int r36)), none]) (st' := [.inl (.int x25), .inr (12, 0), .inl (.int x23), .inl (.int (x22 + (1 : Int32))), .inr (12, 0)]) (S' := S33) ok_X12_goOrder.1 (by decide +kernel) rfl rfl ?_
          obtain ⟨r75, hq73, h⟩ := ax_bd_e h
          refine ax_TVi (d := d) (ka := 12) (i := 0) [.inl (.int x25)] [.inl (.int x23), .inl (.int (x22 + (1 : Int32))), .inr (12, 0)] lk_X12_331 (by decide +kernel) rfl (by decide) rfl (Nat.le_of_ble_eq_true rfl) (Nat.le_of_ble_eq_true rfl) ((t_X12_gainOf hq73).up (by omega)) ?_
          refine ax_Tgo [.iadd] (pc' := 205) (L' := [some (.inr (12, 0)), some (.inl (.int x22)), some (.inl (.int x23)), some (.inl (.int x24)), none, some (.inl (.int x25)), some (.inl (.int r36)), none]) (st' := [.inl (.int (x23 + r75)), .inl (.int (x22 + (1 : Int32))), .inr (12, 0)]) (S' := S33) ok_X12_goOrder.1 (by decide +kernel) rfl rfl ?_
          refine ax_Tgoto (off := 4) (tgt := 209) (by decide +kernel) (by decide) ?_
          refine ax_Tdrop [true, true, true, true, true, true, false, true] (L' := [some (.inr (12, 0)), some (.inl (.int x22)), some (.inl (.int x23)), some (.inl (.int x24)), none, some (.inl (.int x25)), none, none]) rfl ?_
          exact hJ39 (x23 + r75) S33 _ h
      · rw [if_pos c32] at h
        refine ax_Tgoto (off := 90) (tgt := 263) (by decide +kernel) (by decide) ?_
        refine ax_Tgo [.iinc 5 1] (pc' := 266) (L' := [some (.inr (12, 0)), some (.inl (.int x22)), some (.inl (.int x23)), some (.inl (.int x24)), none, some (.inl (.int (x25 + (1 : Int32)))), none, none]) (st' := []) (S' := S28) ok_X12_goOrder.1 (by decide +kernel) rfl rfl ?_
        obtain ⟨v76, ev76, h⟩ := ax_let_e h
        rw [ev76]
        refine ax_Tgoto (off := (-115)) (tgt := 151) (by decide +kernel) (by decide) ?_
        exact ih x22 x23 x24 v76 S28 _ h
set_option maxRecDepth 100000 in
theorem tb_X12_goOrder {l : Launch} {d : Nat} (hd : 76 ≤ d) {rec : Nat → Int32 → Int32 → Int32 → AS → Option (AS)} (hrec_0 : ∀ {a1 : Int32} {a2 : Int32} {a3 : Int32} {S Z : AS}, rec 0 a1 a2 a3 S = some Z → ax_M l d ma_X12_goOrder [.inr (12, 0), .inl (.int a1), .inl (.int a2), .inl (.int a3)] S none Z) {a1 : Int32} {a2 : Int32} {a3 : Int32} {S Z : AS} (h : b_X12_goOrder rec a1 a2 a3 S = some Z) : ax_M l (d + 1) ma_X12_goOrder [.inr (12, 0), .inl (.int a1), .inl (.int a2), .inl (.int a3)] S none Z := by
  unfold b_X12_goOrder at h
  show ax_T l (d + 1) ma_X12_goOrder (0, [some (.inr (12, 0)), some (.inl (.int a1)), some (.inl (.int a2)), some (.inl (.int a3)), none, none, none, none], [], S) none Z
  refine ax_Tgo [.iload_n 2, .aload_n 0, .getfield 402] (pc' := 5) (L' := [some (.inr (12, 0)), some (.inl (.int a1)), some (.inl (.int a2)), some (.inl (.int a3)), none, none, none, none]) (st' := [.inl (.int (ax_fi S 12 0 42)), .inl (.int a2)]) (S' := S) ok_X12_goOrder.1 (by decide +kernel) rfl rfl ?_
  obtain ⟨J3, eJ3, h⟩ := ax_let_e h
  have hJ3 : ∀ (x1 : Int32) (S2 : AS) Z, J3 x1 S2 = some Z → ax_T l (d + 1) ma_X12_goOrder (13, [some (.inr (12, 0)), some (.inl (.int a1)), some (.inl (.int a2)), some (.inl (.int a3)), none, none, none, none], [.inl (.int x1)], S2) none Z := by
    intro x1 S2 Z h
    rw [← eJ3] at h
    try dsimp only at h
    refine ax_Tgo [.istore 4, .iload_n 2, .aload_n 0, .getfield 402] (pc' := 20) (L' := [some (.inr (12, 0)), some (.inl (.int a1)), some (.inl (.int a2)), some (.inl (.int a3)), some (.inl (.int x1)), none, none, none]) (st' := [.inl (.int (ax_fi S2 12 0 42)), .inl (.int a2)]) (S' := S2) ok_X12_goOrder.1 (by decide +kernel) rfl rfl ?_
    obtain ⟨J6, eJ6, h⟩ := ax_let_e h
    have hJ6 : ∀ (x4 : Int32) (S5 : AS) Z, J6 x4 S5 = some Z → ax_T l (d + 1) ma_X12_goOrder (82, [some (.inr (12, 0)), some (.inl (.int a1)), some (.inl (.int a2)), some (.inl (.int a3)), some (.inl (.int x4)), none, none, none], [], S5) none Z := by
      intro x4 S5 Z h
      rw [← eJ6] at h
      try dsimp only at h
      refine ax_Tgo [.iload 4] (pc' := 84) (L' := [some (.inr (12, 0)), some (.inl (.int a1)), some (.inl (.int a2)), some (.inl (.int a3)), some (.inl (.int x4)), none, none, none]) (st' := [.inl (.int x4)]) (S' := S5) ok_X12_goOrder.1 (by decide +kernel) rfl rfl ?_
      refine ax_Tif_eq (off := 29) (tgt := 113) (by decide +kernel) (by decide) (fun c7 => ?_) (fun c7 => ?_)
      · rw [if_pos c7] at h
        refine ax_Tgo [.iconst 0, .istore 5] (pc' := 116) (L' := [some (.inr (12, 0)), some (.inl (.int a1)), some (.inl (.int a2)), some (.inl (.int a3)), some (.inl (.int x4)), some (.inl (.int (0 : Int32))), none, none]) (st' := []) (S' := S5) ok_X12_goOrder.1 (by decide +kernel) rfl rfl ?_
        refine ax_Tdrop [true, true, true, true, false, true, true, true] (L' := [some (.inr (12, 0)), some (.inl (.int a1)), some (.inl (.int a2)), some (.inl (.int a3)), none, some (.inl (.int (0 : Int32))), none, none]) rfl ?_
        refine t_X12_goOrder_L116 hd hrec_0 ?_ _ a1 a2 a3 (0 : Int32) S5 _ h
        · intro x12 x13 x14 S21 Z h
          refine ax_Tgo [.iconst 0, .istore 5] (pc' := 151) (L' := [some (.inr (12, 0)), some (.inl (.int x12)), some (.inl (.int x13)), some (.inl (.int x14)), none, some (.inl (.int (0 : Int32))), none, none]) (st' := []) (S' := S21) ok_X12_goOrder.1 (by decide +kernel) rfl rfl ?_
          refine t_X12_goOrder_L151 hd hrec_0 ?_ _ x12 x13 x14 (0 : Int32) S21 _ h
          · intro S77 Z h
            cases h
            exact ax_Tretv (by decide +kernel) rfl
      · rw [if_neg c7] at h
        refine ax_Tgo [.aload_n 0, .iload_n 2, .putfield 402] (pc' := 92) (L' := [some (.inr (12, 0)), some (.inl (.int a1)), some (.inl (.int a2)), some (.inl (.int a3)), some (.inl (.int x4)), none, none, none]) (st' := []) (S' := (ax_sfi S5 12 0 42 a2)) ok_X12_goOrder.1 (by decide +kernel) rfl rfl ?_
        obtain ⟨S78, eS78, h⟩ := ax_let_e h
        rw [eS78]
        refine ax_Tgo [.aload_n 0, .aload_n 0, .getfield 64, .bipush 16] (pc' := 99) (L' := [some (.inr (12, 0)), some (.inl (.int a1)), some (.inl (.int a2)), some (.inl (.int a3)), some (.inl (.int x4)), none, none, none]) (st' := [.inl (.int (16 : Int32)), .inr (56, 0), .inr (12, 0)]) (S' := S78) ok_X12_goOrder.1 (by decide +kernel) rfl rfl ?_
        obtain ⟨g79, h⟩ := ax_gd_e h
        refine ax_Tali (n := 204) ok_X12_goOrder.1 (by decide +kernel) (by decide) rfl g79 ?_
        refine ax_Tgo [.putfield 405] (pc' := 103) (L' := [some (.inr (12, 0)), some (.inl (.int a1)), some (.inl (.int a2)), some (.inl (.int a3)), some (.inl (.int x4)), none, none, none]) (st' := []) (S' := (ax_sfi S78 12 0 43 (ax_ai S78 56 0 (16 : Int32).toNatClampNeg))) ok_X12_goOrder.1 (by decide +kernel) rfl rfl ?_
        obtain ⟨S80, eS80, h⟩ := ax_let_e h
        rw [eS80]
        refine ax_Tgo [.aload_n 0, .iload_n 1, .putfield 408] (pc' := 108) (L' := [some (.inr (12, 0)), some (.inl (.int a1)), some (.inl (.int a2)), some (.inl (.int a3)), some (.inl (.int x4)), none, none, none]) (st' := []) (S' := (ax_sfi S80 12 0 44 a1)) ok_X12_goOrder.1 (by decide +kernel) rfl rfl ?_
        obtain ⟨S81, eS81, h⟩ := ax_let_e h
        rw [eS81]
        refine ax_Tgo [.aload_n 0, .iload_n 3, .putfield 411] (pc' := 113) (L' := [some (.inr (12, 0)), some (.inl (.int a1)), some (.inl (.int a2)), some (.inl (.int a3)), some (.inl (.int x4)), none, none, none]) (st' := []) (S' := (ax_sfi S81 12 0 41 a3)) ok_X12_goOrder.1 (by decide +kernel) rfl rfl ?_
        obtain ⟨S82, eS82, h⟩ := ax_let_e h
        rw [eS82]
        refine ax_Tgo [.iconst 0, .istore 5] (pc' := 116) (L' := [some (.inr (12, 0)), some (.inl (.int a1)), some (.inl (.int a2)), some (.inl (.int a3)), some (.inl (.int x4)), some (.inl (.int (0 : Int32))), none, none]) (st' := []) (S' := S82) ok_X12_goOrder.1 (by decide +kernel) rfl rfl ?_
        refine ax_Tdrop [true, true, true, true, false, true, true, true] (L' := [some (.inr (12, 0)), some (.inl (.int a1)), some (.inl (.int a2)), some (.inl (.int a3)), none, some (.inl (.int (0 : Int32))), none, none]) rfl ?_
        refine t_X12_goOrder_L116 hd hrec_0 ?_ _ a1 a2 a3 (0 : Int32) S82 _ h
        · intro x12 x13 x14 S87 Z h
          refine ax_Tgo [.iconst 0, .istore 5] (pc' := 151) (L' := [some (.inr (12, 0)), some (.inl (.int x12)), some (.inl (.int x13)), some (.inl (.int x14)), none, some (.inl (.int (0 : Int32))), none, none]) (st' := []) (S' := S87) ok_X12_goOrder.1 (by decide +kernel) rfl rfl ?_
          refine t_X12_goOrder_L151 hd hrec_0 ?_ _ x12 x13 x14 (0 : Int32) S87 _ h
          · intro S92 Z h
            cases h
            exact ax_Tretv (by decide +kernel) rfl
    refine ax_Tic_ne (off := 62) (tgt := 82) (by decide +kernel) (by decide) (fun c93 => ?_) (fun c93 => ?_)
    · rw [if_neg c93] at h
      exact hJ6 x1 S2 _ h
    · rw [if_pos c93] at h
      refine ax_Tgo [.aload_n 0, .getfield 64, .bipush 16] (pc' := 29) (L' := [some (.inr (12, 0)), some (.inl (.int a1)), some (.inl (.int a2)), some (.inl (.int a3)), some (.inl (.int x1)), none, none, none]) (st' := [.inl (.int (16 : Int32)), .inr (56, 0)]) (S' := S2) ok_X12_goOrder.1 (by decide +kernel) rfl rfl ?_
      obtain ⟨g94, h⟩ := ax_gd_e h
      refine ax_Tali (n := 204) ok_X12_goOrder.1 (by decide +kernel) (by decide) rfl g94 ?_
      refine ax_Tgo [.aload_n 0, .getfield 405] (pc' := 34) (L' := [some (.inr (12, 0)), some (.inl (.int a1)), some (.inl (.int a2)), some (.inl (.int a3)), some (.inl (.int x1)), none, none, none]) (st' := [.inl (.int (ax_fi S2 12 0 43)), .inl (.int (ax_ai S2 56 0 (16 : Int32).toNatClampNeg))]) (S' := S2) ok_X12_goOrder.1 (by decide +kernel) rfl rfl ?_
      refine ax_Tic_lt (off := 41) (tgt := 75) (by decide +kernel) (by decide) (fun c95 => ?_) (fun c95 => ?_)
      · rw [if_pos c95] at h
        refine ax_Tgo [.iconst 1] (pc' := 76) (L' := [some (.inr (12, 0)), some (.inl (.int a1)), some (.inl (.int a2)), some (.inl (.int a3)), some (.inl (.int x1)), none, none, none]) (st' := [.inl (.int (1 : Int32))]) (S' := S2) ok_X12_goOrder.1 (by decide +kernel) rfl rfl ?_
        refine ax_Tgoto (off := 4) (tgt := 80) (by decide +kernel) (by decide) ?_
        refine ax_Tgo [.istore 4] (pc' := 82) (L' := [some (.inr (12, 0)), some (.inl (.int a1)), some (.inl (.int a2)), some (.inl (.int a3)), some (.inl (.int (1 : Int32))), none, none, none]) (st' := []) (S' := S2) ok_X12_goOrder.1 (by decide +kernel) rfl rfl ?_
        exact hJ6 (1 : Int32) S2 _ h
      · rw [if_neg c95] at h
        refine ax_Tgo [.aload_n 0, .getfield 64, .bipush 16] (pc' := 43) (L' := [some (.inr (12, 0)), some (.inl (.int a1)), some (.inl (.int a2)), some (.inl (.int a3)), some (.inl (.int x1)), none, none, none]) (st' := [.inl (.int (16 : Int32)), .inr (56, 0)]) (S' := S2) ok_X12_goOrder.1 (by decide +kernel) rfl rfl ?_
        obtain ⟨g96, h⟩ := ax_gd_e h
        refine ax_Tali (n := 204) ok_X12_goOrder.1 (by decide +kernel) (by decide) rfl g96 ?_
        refine ax_Tgo [.aload_n 0, .getfield 405] (pc' := 48) (L' := [some (.inr (12, 0)), some (.inl (.int a1)), some (.inl (.int a2)), some (.inl (.int a3)), some (.inl (.int x1)), none, none, none]) (st' := [.inl (.int (ax_fi S2 12 0 43)), .inl (.int (ax_ai S2 56 0 (16 : Int32).toNatClampNeg))]) (S' := S2) ok_X12_goOrder.1 (by decide +kernel) rfl rfl ?_
        refine ax_Tic_ne (off := 31) (tgt := 79) (by decide +kernel) (by decide) (fun c97 => ?_) (fun c97 => ?_)
        · rw [if_neg c97] at h
          refine ax_Tgo [.iconst 0, .istore 4] (pc' := 82) (L' := [some (.inr (12, 0)), some (.inl (.int a1)), some (.inl (.int a2)), some (.inl (.int a3)), some (.inl (.int (0 : Int32))), none, none, none]) (st' := []) (S' := S2) ok_X12_goOrder.1 (by decide +kernel) rfl rfl ?_
          exact hJ6 (0 : Int32) S2 _ h
        · rw [if_pos c97] at h
          refine ax_Tgo [.iload_n 1, .aload_n 0, .getfield 408] (pc' := 56) (L' := [some (.inr (12, 0)), some (.inl (.int a1)), some (.inl (.int a2)), some (.inl (.int a3)), some (.inl (.int x1)), none, none, none]) (st' := [.inl (.int (ax_fi S2 12 0 44)), .inl (.int a1)]) (S' := S2) ok_X12_goOrder.1 (by decide +kernel) rfl rfl ?_
          refine ax_Tic_lt (off := 19) (tgt := 75) (by decide +kernel) (by decide) (fun c98 => ?_) (fun c98 => ?_)
          · rw [if_pos c98] at h
            refine ax_Tgo [.iconst 1] (pc' := 76) (L' := [some (.inr (12, 0)), some (.inl (.int a1)), some (.inl (.int a2)), some (.inl (.int a3)), some (.inl (.int x1)), none, none, none]) (st' := [.inl (.int (1 : Int32))]) (S' := S2) ok_X12_goOrder.1 (by decide +kernel) rfl rfl ?_
            refine ax_Tgoto (off := 4) (tgt := 80) (by decide +kernel) (by decide) ?_
            refine ax_Tgo [.istore 4] (pc' := 82) (L' := [some (.inr (12, 0)), some (.inl (.int a1)), some (.inl (.int a2)), some (.inl (.int a3)), some (.inl (.int (1 : Int32))), none, none, none]) (st' := []) (S' := S2) ok_X12_goOrder.1 (by decide +kernel) rfl rfl ?_
            exact hJ6 (1 : Int32) S2 _ h
          · rw [if_neg c98] at h
            refine ax_Tgo [.iload_n 1, .aload_n 0, .getfield 408] (pc' := 64) (L' := [some (.inr (12, 0)), some (.inl (.int a1)), some (.inl (.int a2)), some (.inl (.int a3)), some (.inl (.int x1)), none, none, none]) (st' := [.inl (.int (ax_fi S2 12 0 44)), .inl (.int a1)]) (S' := S2) ok_X12_goOrder.1 (by decide +kernel) rfl rfl ?_
            refine ax_Tic_ne (off := 15) (tgt := 79) (by decide +kernel) (by decide) (fun c99 => ?_) (fun c99 => ?_)
            · rw [if_neg c99] at h
              refine ax_Tgo [.iconst 0, .istore 4] (pc' := 82) (L' := [some (.inr (12, 0)), some (.inl (.int a1)), some (.inl (.int a2)), some (.inl (.int a3)), some (.inl (.int (0 : Int32))), none, none, none]) (st' := []) (S' := S2) ok_X12_goOrder.1 (by decide +kernel) rfl rfl ?_
              exact hJ6 (0 : Int32) S2 _ h
            · rw [if_pos c99] at h
              refine ax_Tgo [.iload_n 3, .aload_n 0, .getfield 411] (pc' := 72) (L' := [some (.inr (12, 0)), some (.inl (.int a1)), some (.inl (.int a2)), some (.inl (.int a3)), some (.inl (.int x1)), none, none, none]) (st' := [.inl (.int (ax_fi S2 12 0 41)), .inl (.int a3)]) (S' := S2) ok_X12_goOrder.1 (by decide +kernel) rfl rfl ?_
              refine ax_Tic_ge (off := 7) (tgt := 79) (by decide +kernel) (by decide) (fun c100 => ?_) (fun c100 => ?_)
              · rw [if_pos c100] at h
                refine ax_Tgo [.iconst 0, .istore 4] (pc' := 82) (L' := [some (.inr (12, 0)), some (.inl (.int a1)), some (.inl (.int a2)), some (.inl (.int a3)), some (.inl (.int (0 : Int32))), none, none, none]) (st' := []) (S' := S2) ok_X12_goOrder.1 (by decide +kernel) rfl rfl ?_
                exact hJ6 (0 : Int32) S2 _ h
              · rw [if_neg c100] at h
                refine ax_Tgo [.iconst 1] (pc' := 76) (L' := [some (.inr (12, 0)), some (.inl (.int a1)), some (.inl (.int a2)), some (.inl (.int a3)), some (.inl (.int x1)), none, none, none]) (st' := [.inl (.int (1 : Int32))]) (S' := S2) ok_X12_goOrder.1 (by decide +kernel) rfl rfl ?_
                refine ax_Tgoto (off := 4) (tgt := 80) (by decide +kernel) (by decide) ?_
                refine ax_Tgo [.istore 4] (pc' := 82) (L' := [some (.inr (12, 0)), some (.inl (.int a1)), some (.inl (.int a2)), some (.inl (.int a3)), some (.inl (.int (1 : Int32))), none, none, none]) (st' := []) (S' := S2) ok_X12_goOrder.1 (by decide +kernel) rfl rfl ?_
                exact hJ6 (1 : Int32) S2 _ h
  refine ax_Tic_le (off := 7) (tgt := 12) (by decide +kernel) (by decide) (fun c101 => ?_) (fun c101 => ?_)
  · rw [if_pos c101] at h
    refine ax_Tgo [.iconst 0] (pc' := 13) (L' := [some (.inr (12, 0)), some (.inl (.int a1)), some (.inl (.int a2)), some (.inl (.int a3)), none, none, none, none]) (st' := [.inl (.int (0 : Int32))]) (S' := S) ok_X12_goOrder.1 (by decide +kernel) rfl rfl ?_
    exact hJ3 (0 : Int32) S _ h
  · rw [if_neg c101] at h
    refine ax_Tgo [.iconst 1] (pc' := 9) (L' := [some (.inr (12, 0)), some (.inl (.int a1)), some (.inl (.int a2)), some (.inl (.int a3)), none, none, none, none]) (st' := [.inl (.int (1 : Int32))]) (S' := S) ok_X12_goOrder.1 (by decide +kernel) rfl rfl ?_
    refine ax_Tgoto (off := 4) (tgt := 13) (by decide +kernel) (by decide) ?_
    exact hJ3 (1 : Int32) S _ h
theorem tg_Order {l : Launch} : ∀ (n : Nat), (∀ {a1 : Int32} {a2 : Int32} {a3 : Int32} {S Z : AS}, g_Order n 0 a1 a2 a3 S = some Z → ax_M l (n + 76) ma_X12_goOrder [.inr (12, 0), .inl (.int a1), .inl (.int a2), .inl (.int a3)] S none Z) := by
  intro n
  induction n with
  | zero =>
    intros; rename_i h; cases h
  | succ n ih =>
    have q0 := @ih
    have hd : 76 ≤ n + 76 := by omega
    rw [show n + 1 + 76 = n + 76 + 1 by omega]
    · intro a1 a2 a3 S Z h
      exact tb_X12_goOrder hd q0 h
theorem tg_Order_0 {l : Launch} : ∀ {a1 : Int32} {a2 : Int32} {a3 : Int32} {S Z : AS}, g_Order ax_D 0 a1 a2 a3 S = some Z → ax_M l 140 ma_X12_goOrder [.inr (12, 0), .inl (.int a1), .inl (.int a2), .inl (.int a3)] S none Z := (tg_Order ax_D)
def f_X12_order (a1 : Int32) (S : AS) : Option (Int32 × AS) := ax_let (ax_sfi S 12 0 0 (0 : Int32)) (fun (S1 : AS) => (if (ax_fi S1 12 0 27) = (0 : Int32) then some ((Int32.ofInt (-1)), S1) else (f_X12_isIn (a1.toInt64) (0 : Int64) (2 : Int64) S1).bind (fun (r6 : Int32) => (if r6 = (0 : Int32) then some ((Int32.ofInt (-1)), S1) else (f_X12_copy_55x0_56x0 S1).bind (fun (S8 : AS) => ax_let (ax_sfi S8 12 0 41 (Int32.ofInt (-1))) (fun (S11 : AS) => ax_let (ax_sfi S11 12 0 42 (Int32.ofInt (-1))) (fun (S12 : AS) => ax_let (ax_sfi S12 12 0 43 (0 : Int32)) (fun (S13 : AS) => ax_let (ax_sfi S13 12 0 44 (0 : Int32)) (fun (S14 : AS) => (g_Order ax_D 0 (0 : Int32) (0 : Int32) (Int32.ofInt (-1)) S14).bind (fun (S15 : AS) => (if a1 = (0 : Int32) then some ((ax_fi S15 12 0 41), S15) else (if a1 = (1 : Int32) then some ((ax_fi S15 12 0 42), S15) else some ((ax_fi S15 12 0 43), S15)))))))))))))
set_option maxRecDepth 100000 in
theorem t_X12_order {l : Launch} {a1 : Int32} {S Z : AS} {r : Int32} (h : f_X12_order a1 S = some (r, Z)) : ax_M l 141 ma_X12_order [.inr (12, 0), .inl (.int a1)] S (some (.inl (.int r))) Z := by
  unfold f_X12_order at h
  show ax_T l 141 ma_X12_order (0, [some (.inr (12, 0)), some (.inl (.int a1))], [], S) (some (.inl (.int r))) Z
  refine ax_Tgo [.aload_n 0, .iconst 0, .putfield 93] (pc' := 5) (L' := [some (.inr (12, 0)), some (.inl (.int a1))]) (st' := []) (S' := (ax_sfi S 12 0 0 (0 : Int32))) ok_X12_order.1 (by decide +kernel) rfl rfl ?_
  obtain ⟨S1, eS1, h⟩ := ax_let_e h
  rw [eS1]
  refine ax_Tgo [.aload_n 0, .getfield 291] (pc' := 9) (L' := [some (.inr (12, 0)), some (.inl (.int a1))]) (st' := [.inl (.int (ax_fi S1 12 0 27))]) (S' := S1) ok_X12_order.1 (by decide +kernel) rfl rfl ?_
  refine ax_Tif_eq (off := 15) (tgt := 24) (by decide +kernel) (by decide) (fun c2 => ?_) (fun c2 => ?_)
  · rw [if_pos c2] at h
    refine ax_Tgo [.iconst (-1)] (pc' := 25) (L' := [some (.inr (12, 0)), some (.inl (.int a1))]) (st' := [.inl (.int (Int32.ofInt (-1)))]) (S' := S1) ok_X12_order.1 (by decide +kernel) rfl rfl ?_
    cases h
    exact ax_Treti (by decide +kernel) rfl rfl
  · rw [if_neg c2] at h
    refine ax_Tgo [.iload_n 1, .i2l, .lconst 0, .ldc2_w 269] (pc' := 18) (L' := [some (.inr (12, 0)), some (.inl (.int a1))]) (st' := [.inl (.long (2 : Int64)), .inl (.long (0 : Int64)), .inl (.long a1.toInt64)]) (S' := S1) ok_X12_order.1 (by decide +kernel) rfl rfl ?_
    obtain ⟨r6, hq4, h⟩ := ax_bd_e h
    refine ax_TSi (d := 140) [.inl (.long a1.toInt64), .inl (.long (0 : Int64)), .inl (.long (2 : Int64))] [] lk_X12_214 (by decide +kernel) rfl rfl (Nat.le_of_ble_eq_true rfl) (Nat.le_of_ble_eq_true rfl) ((t_X12_isIn hq4).up (by decide)) ?_
    refine ax_Tif_ne (off := 5) (tgt := 26) (by decide +kernel) (by decide) (fun c7 => ?_) (fun c7 => ?_)
    · rw [if_neg c7] at h
      refine ax_Tgo [.aload_n 0, .getfield 61, .aload_n 0, .getfield 64] (pc' := 34) (L' := [some (.inr (12, 0)), some (.inl (.int a1))]) (st' := [.inr (56, 0), .inr (55, 0)]) (S' := S1) ok_X12_order.1 (by decide +kernel) rfl rfl ?_
      obtain ⟨S8, hq9, h⟩ := ax_bd_e h
      refine ax_TSv (d := 140) [.inr (55, 0), .inr (56, 0)] [] lk_X12_389 (by decide +kernel) rfl rfl (Nat.le_of_ble_eq_true rfl) (Nat.le_of_ble_eq_true rfl) ((t_X12_copy_55x0_56x0 hq9).up (by decide)) ?_
      refine ax_Tgo [.aload_n 0, .iconst (-1), .putfield 411] (pc' := 42) (L' := [some (.inr (12, 0)), some (.inl (.int a1))]) (st' := []) (S' := (ax_sfi S8 12 0 41 (Int32.ofInt (-1)))) ok_X12_order.1 (by decide +kernel) rfl rfl ?_
      obtain ⟨S11, eS11, h⟩ := ax_let_e h
      rw [eS11]
      refine ax_Tgo [.aload_n 0, .iconst (-1), .putfield 402] (pc' := 47) (L' := [some (.inr (12, 0)), some (.inl (.int a1))]) (st' := []) (S' := (ax_sfi S11 12 0 42 (Int32.ofInt (-1)))) ok_X12_order.1 (by decide +kernel) rfl rfl ?_
      obtain ⟨S12, eS12, h⟩ := ax_let_e h
      rw [eS12]
      refine ax_Tgo [.aload_n 0, .iconst 0, .putfield 405] (pc' := 52) (L' := [some (.inr (12, 0)), some (.inl (.int a1))]) (st' := []) (S' := (ax_sfi S12 12 0 43 (0 : Int32))) ok_X12_order.1 (by decide +kernel) rfl rfl ?_
      obtain ⟨S13, eS13, h⟩ := ax_let_e h
      rw [eS13]
      refine ax_Tgo [.aload_n 0, .iconst 0, .putfield 408] (pc' := 57) (L' := [some (.inr (12, 0)), some (.inl (.int a1))]) (st' := []) (S' := (ax_sfi S13 12 0 44 (0 : Int32))) ok_X12_order.1 (by decide +kernel) rfl rfl ?_
      obtain ⟨S14, eS14, h⟩ := ax_let_e h
      rw [eS14]
      refine ax_Tgo [.aload_n 0, .iconst 0, .iconst 0, .iconst (-1)] (pc' := 61) (L' := [some (.inr (12, 0)), some (.inl (.int a1))]) (st' := [.inl (.int (Int32.ofInt (-1))), .inl (.int (0 : Int32)), .inl (.int (0 : Int32)), .inr (12, 0)]) (S' := S14) ok_X12_order.1 (by decide +kernel) rfl rfl ?_
      obtain ⟨S15, hq16, h⟩ := ax_bd_e h
      refine ax_TVv (d := 140) (ka := 12) (i := 0) [.inl (.int (0 : Int32)), .inl (.int (0 : Int32)), .inl (.int (Int32.ofInt (-1)))] [] lk_X12_414 (by decide +kernel) rfl (by decide) rfl (Nat.le_of_ble_eq_true rfl) (Nat.le_of_ble_eq_true rfl) ((tg_Order_0 hq16).up (by decide)) ?_
      refine ax_Tgo [.iload_n 1] (pc' := 65) (L' := [some (.inr (12, 0)), some (.inl (.int a1))]) (st' := [.inl (.int a1)]) (S' := S15) ok_X12_order.1 (by decide +kernel) rfl rfl ?_
      refine ax_Tif_ne (off := 10) (tgt := 75) (by decide +kernel) (by decide) (fun c18 => ?_) (fun c18 => ?_)
      · rw [if_neg c18] at h
        refine ax_Tgo [.iload_n 1, .iconst 1] (pc' := 77) (L' := [some (.inr (12, 0)), some (.inl (.int a1))]) (st' := [.inl (.int (1 : Int32)), .inl (.int a1)]) (S' := S15) ok_X12_order.1 (by decide +kernel) rfl rfl ?_
        refine ax_Tic_ne (off := 10) (tgt := 87) (by decide +kernel) (by decide) (fun c19 => ?_) (fun c19 => ?_)
        · rw [if_neg c19] at h
          refine ax_Tgo [.aload_n 0, .getfield 405] (pc' := 91) (L' := [some (.inr (12, 0)), some (.inl (.int a1))]) (st' := [.inl (.int (ax_fi S15 12 0 43))]) (S' := S15) ok_X12_order.1 (by decide +kernel) rfl rfl ?_
          cases h
          exact ax_Treti (by decide +kernel) rfl rfl
        · rw [if_pos c19] at h
          refine ax_Tgo [.aload_n 0, .getfield 402] (pc' := 84) (L' := [some (.inr (12, 0)), some (.inl (.int a1))]) (st' := [.inl (.int (ax_fi S15 12 0 42))]) (S' := S15) ok_X12_order.1 (by decide +kernel) rfl rfl ?_
          refine ax_Tgoto (off := 7) (tgt := 91) (by decide +kernel) (by decide) ?_
          cases h
          exact ax_Treti (by decide +kernel) rfl rfl
      · rw [if_pos c18] at h
        refine ax_Tgo [.aload_n 0, .getfield 411] (pc' := 72) (L' := [some (.inr (12, 0)), some (.inl (.int a1))]) (st' := [.inl (.int (ax_fi S15 12 0 41))]) (S' := S15) ok_X12_order.1 (by decide +kernel) rfl rfl ?_
        refine ax_Tgoto (off := 19) (tgt := 91) (by decide +kernel) (by decide) ?_
        cases h
        exact ax_Treti (by decide +kernel) rfl rfl
    · rw [if_pos c7] at h
      refine ax_Tgo [.iconst (-1)] (pc' := 25) (L' := [some (.inr (12, 0)), some (.inl (.int a1))]) (st' := [.inl (.int (Int32.ofInt (-1)))]) (S' := S1) ok_X12_order.1 (by decide +kernel) rfl rfl ?_
      cases h
      exact ax_Treti (by decide +kernel) rfl rfl
def f_X12_canTitle_55x0 (a2 : Int32) (S : AS) : Option (Int32) := (f_X12_isCaller a2 S).bind (fun (r4 : Int32) => (if r4 = (0 : Int32) then some (0 : Int32) else ax_gd (ax_in (((2 : Int32) * a2) + (0 : Int32)) 204) ((if (3 : Int32) ≤ (ax_ai S 55 0 (((2 : Int32) * a2) + (0 : Int32)).toNatClampNeg) then some (0 : Int32) else ax_gd (ax_in (21 : Int32) 204) ((if (ax_ai S 55 0 (21 : Int32).toNatClampNeg) < (2 : Int32) then some (0 : Int32) else some (1 : Int32)))))))
set_option maxRecDepth 100000 in
theorem t_X12_canTitle_55x0 {l : Launch} {a2 : Int32} {S : AS} {r : Int32} (h : f_X12_canTitle_55x0 a2 S = some r) : ax_M l 1 ma_X12_canTitle [.inr (12, 0), .inr (55, 0), .inl (.int a2)] S (some (.inl (.int r))) S := by
  unfold f_X12_canTitle_55x0 at h
  show ax_T l 1 ma_X12_canTitle (0, [some (.inr (12, 0)), some (.inr (55, 0)), some (.inl (.int a2))], [], S) (some (.inl (.int r))) S
  refine ax_Tgo [.aload_n 0, .iload_n 2] (pc' := 2) (L' := [some (.inr (12, 0)), some (.inr (55, 0)), some (.inl (.int a2))]) (st' := [.inl (.int a2), .inr (12, 0)]) (S' := S) ok_X12_canTitle.1 (by decide +kernel) rfl rfl ?_
  obtain ⟨r4, hq2, h⟩ := ax_bd_e h
  refine ax_TVi (d := 0) (ka := 12) (i := 0) [.inl (.int a2)] [] lk_X12_324 (by decide +kernel) rfl (by decide) rfl (Nat.le_of_ble_eq_true rfl) (Nat.le_of_ble_eq_true rfl) ((t_X12_isCaller hq2).up (by decide)) ?_
  refine ax_Tif_eq (off := 26) (tgt := 31) (by decide +kernel) (by decide) (fun c5 => ?_) (fun c5 => ?_)
  · rw [if_pos c5] at h
    refine ax_Tgo [.iconst 0] (pc' := 32) (L' := [some (.inr (12, 0)), some (.inr (55, 0)), some (.inl (.int a2))]) (st' := [.inl (.int (0 : Int32))]) (S' := S) ok_X12_canTitle.1 (by decide +kernel) rfl rfl ?_
    cases h
    exact ax_Treti (by decide +kernel) rfl rfl
  · rw [if_neg c5] at h
    refine ax_Tgo [.aload_n 1, .iconst 2, .iload_n 2, .imul, .iconst 0, .iadd] (pc' := 14) (L' := [some (.inr (12, 0)), some (.inr (55, 0)), some (.inl (.int a2))]) (st' := [.inl (.int (((2 : Int32) * a2) + (0 : Int32))), .inr (55, 0)]) (S' := S) ok_X12_canTitle.1 (by decide +kernel) rfl rfl ?_
    obtain ⟨g6, h⟩ := ax_gd_e h
    refine ax_Tali (n := 204) ok_X12_canTitle.1 (by decide +kernel) (by decide) rfl g6 ?_
    refine ax_Tgo [.iconst 3] (pc' := 16) (L' := [some (.inr (12, 0)), some (.inr (55, 0)), some (.inl (.int a2))]) (st' := [.inl (.int (3 : Int32)), .inl (.int (ax_ai S 55 0 (((2 : Int32) * a2) + (0 : Int32)).toNatClampNeg))]) (S' := S) ok_X12_canTitle.1 (by decide +kernel) rfl rfl ?_
    refine ax_Tic_ge (off := 15) (tgt := 31) (by decide +kernel) (by decide) (fun c7 => ?_) (fun c7 => ?_)
    · rw [if_pos c7] at h
      refine ax_Tgo [.iconst 0] (pc' := 32) (L' := [some (.inr (12, 0)), some (.inr (55, 0)), some (.inl (.int a2))]) (st' := [.inl (.int (0 : Int32))]) (S' := S) ok_X12_canTitle.1 (by decide +kernel) rfl rfl ?_
      cases h
      exact ax_Treti (by decide +kernel) rfl rfl
    · rw [if_neg c7] at h
      refine ax_Tgo [.aload_n 1, .bipush 21] (pc' := 22) (L' := [some (.inr (12, 0)), some (.inr (55, 0)), some (.inl (.int a2))]) (st' := [.inl (.int (21 : Int32)), .inr (55, 0)]) (S' := S) ok_X12_canTitle.1 (by decide +kernel) rfl rfl ?_
      obtain ⟨g8, h⟩ := ax_gd_e h
      refine ax_Tali (n := 204) ok_X12_canTitle.1 (by decide +kernel) (by decide) rfl g8 ?_
      refine ax_Tgo [.iconst 2] (pc' := 24) (L' := [some (.inr (12, 0)), some (.inr (55, 0)), some (.inl (.int a2))]) (st' := [.inl (.int (2 : Int32)), .inl (.int (ax_ai S 55 0 (21 : Int32).toNatClampNeg))]) (S' := S) ok_X12_canTitle.1 (by decide +kernel) rfl rfl ?_
      refine ax_Tic_lt (off := 7) (tgt := 31) (by decide +kernel) (by decide) (fun c9 => ?_) (fun c9 => ?_)
      · rw [if_pos c9] at h
        refine ax_Tgo [.iconst 0] (pc' := 32) (L' := [some (.inr (12, 0)), some (.inr (55, 0)), some (.inl (.int a2))]) (st' := [.inl (.int (0 : Int32))]) (S' := S) ok_X12_canTitle.1 (by decide +kernel) rfl rfl ?_
        cases h
        exact ax_Treti (by decide +kernel) rfl rfl
      · rw [if_neg c9] at h
        refine ax_Tgo [.iconst 1] (pc' := 28) (L' := [some (.inr (12, 0)), some (.inr (55, 0)), some (.inl (.int a2))]) (st' := [.inl (.int (1 : Int32))]) (S' := S) ok_X12_canTitle.1 (by decide +kernel) rfl rfl ?_
        refine ax_Tgoto (off := 4) (tgt := 32) (by decide +kernel) (by decide) ?_
        cases h
        exact ax_Treti (by decide +kernel) rfl rfl
def f_X12_canStep_55x0 (a2 : Int32) (S : AS) : Option (Int32 × AS) := ax_gd (ax_in (a2 + (1 : Int32)) 160) (ax_let (ax_ai S 53 0 (a2 + (1 : Int32)).toNatClampNeg) (fun (v2 : Int32) => ax_gd (ax_in a2 160) (ax_let (ax_ai S 53 0 a2.toNatClampNeg) (fun (v4 : Int32) => (if v4 = (0 : Int32) then ax_bu (f_X12_canCall_55x0 v2 S) (fun (r9 : Int32) (S6 : AS) => ax_gd (ax_bo r9) (some (r9, S6))) else if v4 = (1 : Int32) then (f_X12_canTitle_55x0 v2 S).bind (fun (r15 : Int32) => ax_gd (ax_bo r15) (some (r15, S))) else if v4 = (2 : Int32) then some ((1 : Int32), S) else if v4 = (3 : Int32) then (f_X12_canHold_55x0 v2 S).bind (fun (r22 : Int32) => ax_gd (ax_bo r22) (some (r22, S))) else ax_gd (ax_in (22 : Int32) 204) ((if (999 : Int32) ≤ (ax_ai S 55 0 (22 : Int32).toNatClampNeg) then some ((0 : Int32), S) else some ((1 : Int32), S))))))))
set_option maxRecDepth 100000 in
theorem t_X12_canStep_55x0 {l : Launch} {a2 : Int32} {S Z : AS} {r : Int32} (h : f_X12_canStep_55x0 a2 S = some (r, Z)) : ax_M l 76 ma_X12_canStep [.inr (12, 0), .inr (55, 0), .inl (.int a2)] S (some (.inl (.int r))) Z := by
  unfold f_X12_canStep_55x0 at h
  show ax_T l 76 ma_X12_canStep (0, [some (.inr (12, 0)), some (.inr (55, 0)), some (.inl (.int a2)), none], [], S) (some (.inl (.int r))) Z
  refine ax_Tgo [.aload_n 0, .getfield 55, .iload_n 2, .iconst 1, .iadd] (pc' := 7) (L' := [some (.inr (12, 0)), some (.inr (55, 0)), some (.inl (.int a2)), none]) (st' := [.inl (.int (a2 + (1 : Int32))), .inr (53, 0)]) (S' := S) ok_X12_canStep.1 (by decide +kernel) rfl rfl ?_
  obtain ⟨g1, h⟩ := ax_gd_e h
  refine ax_Tali (n := 160) ok_X12_canStep.1 (by decide +kernel) (by decide) rfl g1 ?_
  refine ax_Tgo [.istore_n 3] (pc' := 9) (L' := [some (.inr (12, 0)), some (.inr (55, 0)), some (.inl (.int a2)), some (.inl (.int (ax_ai S 53 0 (a2 + (1 : Int32)).toNatClampNeg)))]) (st' := []) (S' := S) ok_X12_canStep.1 (by decide +kernel) rfl rfl ?_
  obtain ⟨v2, ev2, h⟩ := ax_let_e h
  rw [ev2]
  refine ax_Tgo [.aload_n 0, .getfield 55, .iload_n 2] (pc' := 14) (L' := [some (.inr (12, 0)), some (.inr (55, 0)), some (.inl (.int a2)), some (.inl (.int v2))]) (st' := [.inl (.int a2), .inr (53, 0)]) (S' := S) ok_X12_canStep.1 (by decide +kernel) rfl rfl ?_
  obtain ⟨g3, h⟩ := ax_gd_e h
  refine ax_Tali (n := 160) ok_X12_canStep.1 (by decide +kernel) (by decide) rfl g3 ?_
  obtain ⟨v4, ev4, h⟩ := ax_let_e h
  rw [ev4]
  by_cases c5 : v4 = (0 : Int32)
  · rw [if_pos c5] at h
    refine ax_TtIn (dflt := 52) (lo := 0) (hi := 3) (offs := #[29, 36, 43, 45]) (len := 29) (off := 29) (tgt := 44) (by decide +kernel) (by rw [c5]; decide) (by rw [c5]; decide) (by rw [c5]; rfl) (by decide) ?_
    refine ax_Tgo [.aload_n 0, .aload_n 1, .iload_n 3] (pc' := 47) (L' := [some (.inr (12, 0)), some (.inr (55, 0)), some (.inl (.int a2)), some (.inl (.int v2))]) (st' := [.inl (.int v2), .inr (55, 0), .inr (12, 0)]) (S' := S) ok_X12_canStep.1 (by decide +kernel) rfl rfl ?_
    obtain ⟨r9, S6, hq7, h⟩ := ax_bu_e h
    refine ax_TVi (d := 75) (ka := 12) (i := 0) [.inr (55, 0), .inl (.int v2)] [] lk_X12_348 (by decide +kernel) rfl (by decide) rfl (Nat.le_of_ble_eq_true rfl) (Nat.le_of_ble_eq_true rfl) ((t_X12_canCall_55x0 hq7).up (by decide)) ?_
    obtain ⟨g10, h⟩ := ax_gd_e h
    cases h
    exact ax_Tretz (by decide +kernel) rfl g10
  · rw [if_neg c5] at h
    by_cases c11 : v4 = (1 : Int32)
    · rw [if_pos c11] at h
      refine ax_TtIn (dflt := 52) (lo := 0) (hi := 3) (offs := #[29, 36, 43, 45]) (len := 29) (off := 36) (tgt := 51) (by decide +kernel) (by rw [c11]; decide) (by rw [c11]; decide) (by rw [c11]; rfl) (by decide) ?_
      refine ax_Tgo [.aload_n 0, .aload_n 1, .iload_n 3] (pc' := 54) (L' := [some (.inr (12, 0)), some (.inr (55, 0)), some (.inl (.int a2)), some (.inl (.int v2))]) (st' := [.inl (.int v2), .inr (55, 0), .inr (12, 0)]) (S' := S) ok_X12_canStep.1 (by decide +kernel) rfl rfl ?_
      obtain ⟨r15, hq13, h⟩ := ax_bd_e h
      refine ax_TVi (d := 75) (ka := 12) (i := 0) [.inr (55, 0), .inl (.int v2)] [] lk_X12_358 (by decide +kernel) rfl (by decide) rfl (Nat.le_of_ble_eq_true rfl) (Nat.le_of_ble_eq_true rfl) ((t_X12_canTitle_55x0 hq13).up (by decide)) ?_
      obtain ⟨g16, h⟩ := ax_gd_e h
      cases h
      exact ax_Tretz (by decide +kernel) rfl g16
    · rw [if_neg c11] at h
      by_cases c17 : v4 = (2 : Int32)
      · rw [if_pos c17] at h
        refine ax_TtIn (dflt := 52) (lo := 0) (hi := 3) (offs := #[29, 36, 43, 45]) (len := 29) (off := 43) (tgt := 58) (by decide +kernel) (by rw [c17]; decide) (by rw [c17]; decide) (by rw [c17]; rfl) (by decide) ?_
        refine ax_Tgo [.iconst 1] (pc' := 59) (L' := [some (.inr (12, 0)), some (.inr (55, 0)), some (.inl (.int a2)), some (.inl (.int v2))]) (st' := [.inl (.int (1 : Int32))]) (S' := S) ok_X12_canStep.1 (by decide +kernel) rfl rfl ?_
        cases h
        exact ax_Treti (by decide +kernel) rfl rfl
      · rw [if_neg c17] at h
        by_cases c18 : v4 = (3 : Int32)
        · rw [if_pos c18] at h
          refine ax_TtIn (dflt := 52) (lo := 0) (hi := 3) (offs := #[29, 36, 43, 45]) (len := 29) (off := 45) (tgt := 60) (by decide +kernel) (by rw [c18]; decide) (by rw [c18]; decide) (by rw [c18]; rfl) (by decide) ?_
          refine ax_Tgo [.aload_n 0, .aload_n 1, .iload_n 3] (pc' := 63) (L' := [some (.inr (12, 0)), some (.inr (55, 0)), some (.inl (.int a2)), some (.inl (.int v2))]) (st' := [.inl (.int v2), .inr (55, 0), .inr (12, 0)]) (S' := S) ok_X12_canStep.1 (by decide +kernel) rfl rfl ?_
          obtain ⟨r22, hq20, h⟩ := ax_bd_e h
          refine ax_TVi (d := 75) (ka := 12) (i := 0) [.inr (55, 0), .inl (.int v2)] [] lk_X12_365 (by decide +kernel) rfl (by decide) rfl (Nat.le_of_ble_eq_true rfl) (Nat.le_of_ble_eq_true rfl) ((t_X12_canHold_55x0 hq20).up (by decide)) ?_
          obtain ⟨g23, h⟩ := ax_gd_e h
          cases h
          exact ax_Tretz (by decide +kernel) rfl g23
        · rw [if_neg c18] at h
          refine ax_TtOut (dflt := 52) (lo := 0) (hi := 3) (offs := #[29, 36, 43, 45]) (len := 29) (tgt := 67) (by decide +kernel) (by have zc5 := lv_neT (a := 0) c5 rfl; have zc11 := lv_neT (a := 1) c11 rfl; have zc17 := lv_neT (a := 2) c17 rfl; have zc18 := lv_neT (a := 3) c18 rfl; omega) (by decide) ?_
          refine ax_Tgo [.aload_n 1, .bipush 22] (pc' := 70) (L' := [some (.inr (12, 0)), some (.inr (55, 0)), some (.inl (.int a2)), some (.inl (.int v2))]) (st' := [.inl (.int (22 : Int32)), .inr (55, 0)]) (S' := S) ok_X12_canStep.1 (by decide +kernel) rfl rfl ?_
          obtain ⟨g24, h⟩ := ax_gd_e h
          refine ax_Tali (n := 204) ok_X12_canStep.1 (by decide +kernel) (by decide) rfl g24 ?_
          refine ax_Tgo [.sipush 999] (pc' := 74) (L' := [some (.inr (12, 0)), some (.inr (55, 0)), some (.inl (.int a2)), some (.inl (.int v2))]) (st' := [.inl (.int (999 : Int32)), .inl (.int (ax_ai S 55 0 (22 : Int32).toNatClampNeg))]) (S' := S) ok_X12_canStep.1 (by decide +kernel) rfl rfl ?_
          refine ax_Tic_ge (off := 7) (tgt := 81) (by decide +kernel) (by decide) (fun c25 => ?_) (fun c25 => ?_)
          · rw [if_pos c25] at h
            refine ax_Tgo [.iconst 0] (pc' := 82) (L' := [some (.inr (12, 0)), some (.inr (55, 0)), some (.inl (.int a2)), some (.inl (.int v2))]) (st' := [.inl (.int (0 : Int32))]) (S' := S) ok_X12_canStep.1 (by decide +kernel) rfl rfl ?_
            cases h
            exact ax_Treti (by decide +kernel) rfl rfl
          · rw [if_neg c25] at h
            refine ax_Tgo [.iconst 1] (pc' := 78) (L' := [some (.inr (12, 0)), some (.inr (55, 0)), some (.inl (.int a2)), some (.inl (.int v2))]) (st' := [.inl (.int (1 : Int32))]) (S' := S) ok_X12_canStep.1 (by decide +kernel) rfl rfl ?_
            refine ax_Tgoto (off := 4) (tgt := 82) (by decide +kernel) (by decide) ?_
            cases h
            exact ax_Treti (by decide +kernel) rfl rfl
def f_X12_titles_55x0 (a1 : Int32) (S : AS) : Option (AS) := ax_gd (ax_in (((2 : Int32) * a1) + (0 : Int32)) 204) (ax_gd (ax_in (((2 : Int32) * a1) + (0 : Int32)) 204) (ax_let (ax_sai S 55 0 (((2 : Int32) * a1) + (0 : Int32)).toNatClampNeg ((ax_ai S 55 0 (((2 : Int32) * a1) + (0 : Int32)).toNatClampNeg) + (1 : Int32))) (fun (S3 : AS) => ax_gd (ax_in (21 : Int32) 204) (ax_gd (ax_in (21 : Int32) 204) (ax_let (ax_sai S3 55 0 (21 : Int32).toNatClampNeg ((ax_ai S3 55 0 (21 : Int32).toNatClampNeg) - (2 : Int32))) (fun (S6 : AS) => some S6))))))
set_option maxRecDepth 100000 in
theorem t_X12_titles_55x0 {l : Launch} {a1 : Int32} {S Z : AS} (h : f_X12_titles_55x0 a1 S = some Z) : ax_M l 0 ma_X12_titles [.inr (55, 0), .inl (.int a1)] S none Z := by
  unfold f_X12_titles_55x0 at h
  show ax_T l 0 ma_X12_titles (0, [some (.inr (55, 0)), some (.inl (.int a1))], [], S) none Z
  refine ax_Tgo [.aload_n 0, .iconst 2, .iload_n 1, .imul, .iconst 0, .iadd, .dup2] (pc' := 7) (L' := [some (.inr (55, 0)), some (.inl (.int a1))]) (st' := [.inl (.int (((2 : Int32) * a1) + (0 : Int32))), .inr (55, 0), .inl (.int (((2 : Int32) * a1) + (0 : Int32))), .inr (55, 0)]) (S' := S) ok_X12_titles.1 (by decide +kernel) rfl rfl ?_
  obtain ⟨g1, h⟩ := ax_gd_e h
  refine ax_Tali (n := 204) ok_X12_titles.1 (by decide +kernel) (by decide) rfl g1 ?_
  refine ax_Tgo [.iconst 1, .iadd] (pc' := 10) (L' := [some (.inr (55, 0)), some (.inl (.int a1))]) (st' := [.inl (.int ((ax_ai S 55 0 (((2 : Int32) * a1) + (0 : Int32)).toNatClampNeg) + (1 : Int32))), .inl (.int (((2 : Int32) * a1) + (0 : Int32))), .inr (55, 0)]) (S' := S) ok_X12_titles.1 (by decide +kernel) rfl rfl ?_
  obtain ⟨g2, h⟩ := ax_gd_e h
  refine ax_Tasi (n := 204) ok_X12_titles.1 (by decide +kernel) (by decide) rfl g2 ?_
  obtain ⟨S3, eS3, h⟩ := ax_let_e h
  rw [eS3]
  refine ax_Tgo [.aload_n 0, .bipush 21, .dup2] (pc' := 15) (L' := [some (.inr (55, 0)), some (.inl (.int a1))]) (st' := [.inl (.int (21 : Int32)), .inr (55, 0), .inl (.int (21 : Int32)), .inr (55, 0)]) (S' := S3) ok_X12_titles.1 (by decide +kernel) rfl rfl ?_
  obtain ⟨g4, h⟩ := ax_gd_e h
  refine ax_Tali (n := 204) ok_X12_titles.1 (by decide +kernel) (by decide) rfl g4 ?_
  refine ax_Tgo [.iconst 2, .isub] (pc' := 18) (L' := [some (.inr (55, 0)), some (.inl (.int a1))]) (st' := [.inl (.int ((ax_ai S3 55 0 (21 : Int32).toNatClampNeg) - (2 : Int32))), .inl (.int (21 : Int32)), .inr (55, 0)]) (S' := S3) ok_X12_titles.1 (by decide +kernel) rfl rfl ?_
  obtain ⟨g5, h⟩ := ax_gd_e h
  refine ax_Tasi (n := 204) ok_X12_titles.1 (by decide +kernel) (by decide) rfl g5 ?_
  obtain ⟨S6, eS6, h⟩ := ax_let_e h
  rw [eS6]
  cases h
  exact ax_Tretv (by decide +kernel) rfl
def f_X12_goStep_55x0 (a2 : Int32) (S : AS) : Option (AS) := ax_gd (ax_in (a2 + (1 : Int32)) 160) (ax_let (ax_ai S 53 0 (a2 + (1 : Int32)).toNatClampNeg) (fun (v2 : Int32) => ax_gd (ax_in a2 160) (ax_let (ax_ai S 53 0 a2.toNatClampNeg) (fun (v4 : Int32) => (if v4 = (0 : Int32) then ax_bu (f_X12_calls_55x0 v2 S) (fun (r9 : Int32) (S6 : AS) => some S6) else if v4 = (1 : Int32) then (f_X12_titles_55x0 v2 S).bind (fun (S11 : AS) => some S11) else if v4 = (2 : Int32) then ax_gd (ax_in (18 : Int32) 204) (ax_gd (ax_in (18 : Int32) 204) (ax_let (ax_sai S 55 0 (18 : Int32).toNatClampNeg ((1 : Int32) - (ax_ai S 55 0 (18 : Int32).toNatClampNeg))) (fun (S17 : AS) => some S17))) else if v4 = (3 : Int32) then ax_gd (ax_in (16 : Int32) 204) (ax_gd (ax_in (16 : Int32) 204) (ax_let (ax_sai S 55 0 (16 : Int32).toNatClampNeg ((ax_ai S 55 0 (16 : Int32).toNatClampNeg) + v2)) (fun (S21 : AS) => some S21))) else (f_X12_goDay_55x0 S).bind (fun (S22 : AS) => some S22))))))
set_option maxRecDepth 100000 in
theorem t_X12_goStep_55x0 {l : Launch} {a2 : Int32} {S Z : AS} (h : f_X12_goStep_55x0 a2 S = some Z) : ax_M l 76 ma_X12_goStep [.inr (12, 0), .inr (55, 0), .inl (.int a2)] S none Z := by
  unfold f_X12_goStep_55x0 at h
  show ax_T l 76 ma_X12_goStep (0, [some (.inr (12, 0)), some (.inr (55, 0)), some (.inl (.int a2)), none, none], [], S) none Z
  refine ax_Tgo [.aload_n 0, .getfield 55, .iload_n 2, .iconst 1, .iadd] (pc' := 7) (L' := [some (.inr (12, 0)), some (.inr (55, 0)), some (.inl (.int a2)), none, none]) (st' := [.inl (.int (a2 + (1 : Int32))), .inr (53, 0)]) (S' := S) ok_X12_goStep.1 (by decide +kernel) rfl rfl ?_
  obtain ⟨g1, h⟩ := ax_gd_e h
  refine ax_Tali (n := 160) ok_X12_goStep.1 (by decide +kernel) (by decide) rfl g1 ?_
  refine ax_Tgo [.istore_n 3] (pc' := 9) (L' := [some (.inr (12, 0)), some (.inr (55, 0)), some (.inl (.int a2)), some (.inl (.int (ax_ai S 53 0 (a2 + (1 : Int32)).toNatClampNeg))), none]) (st' := []) (S' := S) ok_X12_goStep.1 (by decide +kernel) rfl rfl ?_
  obtain ⟨v2, ev2, h⟩ := ax_let_e h
  rw [ev2]
  refine ax_Tgo [.aload_n 0, .getfield 55, .iload_n 2] (pc' := 14) (L' := [some (.inr (12, 0)), some (.inr (55, 0)), some (.inl (.int a2)), some (.inl (.int v2)), none]) (st' := [.inl (.int a2), .inr (53, 0)]) (S' := S) ok_X12_goStep.1 (by decide +kernel) rfl rfl ?_
  obtain ⟨g3, h⟩ := ax_gd_e h
  refine ax_Tali (n := 160) ok_X12_goStep.1 (by decide +kernel) (by decide) rfl g3 ?_
  obtain ⟨v4, ev4, h⟩ := ax_let_e h
  rw [ev4]
  by_cases c5 : v4 = (0 : Int32)
  · rw [if_pos c5] at h
    refine ax_TtIn (dflt := 72) (lo := 0) (hi := 3) (offs := #[29, 40, 48, 61]) (len := 29) (off := 29) (tgt := 44) (by decide +kernel) (by rw [c5]; decide) (by rw [c5]; decide) (by rw [c5]; rfl) (by decide) ?_
    refine ax_Tgo [.aload_n 0, .aload_n 1, .iload_n 3] (pc' := 47) (L' := [some (.inr (12, 0)), some (.inr (55, 0)), some (.inl (.int a2)), some (.inl (.int v2)), none]) (st' := [.inl (.int v2), .inr (55, 0), .inr (12, 0)]) (S' := S) ok_X12_goStep.1 (by decide +kernel) rfl rfl ?_
    obtain ⟨r9, S6, hq7, h⟩ := ax_bu_e h
    refine ax_TVi (d := 75) (ka := 12) (i := 0) [.inr (55, 0), .inl (.int v2)] [] lk_X12_355 (by decide +kernel) rfl (by decide) rfl (Nat.le_of_ble_eq_true rfl) (Nat.le_of_ble_eq_true rfl) ((t_X12_calls_55x0 hq7).up (by decide)) ?_
    refine ax_Tgo [.istore 4] (pc' := 52) (L' := [some (.inr (12, 0)), some (.inr (55, 0)), some (.inl (.int a2)), some (.inl (.int v2)), some (.inl (.int r9))]) (st' := []) (S' := S6) ok_X12_goStep.1 (by decide +kernel) rfl rfl ?_
    refine ax_Tgoto (off := 40) (tgt := 92) (by decide +kernel) (by decide) ?_
    cases h
    exact ax_Tretv (by decide +kernel) rfl
  · rw [if_neg c5] at h
    by_cases c10 : v4 = (1 : Int32)
    · rw [if_pos c10] at h
      refine ax_TtIn (dflt := 72) (lo := 0) (hi := 3) (offs := #[29, 40, 48, 61]) (len := 29) (off := 40) (tgt := 55) (by decide +kernel) (by rw [c10]; decide) (by rw [c10]; decide) (by rw [c10]; rfl) (by decide) ?_
      refine ax_Tgo [.aload_n 1, .iload_n 3] (pc' := 57) (L' := [some (.inr (12, 0)), some (.inr (55, 0)), some (.inl (.int a2)), some (.inl (.int v2)), none]) (st' := [.inl (.int v2), .inr (55, 0)]) (S' := S) ok_X12_goStep.1 (by decide +kernel) rfl rfl ?_
      obtain ⟨S11, hq12, h⟩ := ax_bd_e h
      refine ax_TSv (d := 75) [.inr (55, 0), .inl (.int v2)] [] lk_X12_361 (by decide +kernel) rfl rfl (Nat.le_of_ble_eq_true rfl) (Nat.le_of_ble_eq_true rfl) ((t_X12_titles_55x0 hq12).up (by decide)) ?_
      refine ax_Tgoto (off := 32) (tgt := 92) (by decide +kernel) (by decide) ?_
      cases h
      exact ax_Tretv (by decide +kernel) rfl
    · rw [if_neg c10] at h
      by_cases c14 : v4 = (2 : Int32)
      · rw [if_pos c14] at h
        refine ax_TtIn (dflt := 72) (lo := 0) (hi := 3) (offs := #[29, 40, 48, 61]) (len := 29) (off := 48) (tgt := 63) (by decide +kernel) (by rw [c14]; decide) (by rw [c14]; decide) (by rw [c14]; rfl) (by decide) ?_
        refine ax_Tgo [.aload_n 1, .bipush 18, .iconst 1, .aload_n 1, .bipush 18] (pc' := 70) (L' := [some (.inr (12, 0)), some (.inr (55, 0)), some (.inl (.int a2)), some (.inl (.int v2)), none]) (st' := [.inl (.int (18 : Int32)), .inr (55, 0), .inl (.int (1 : Int32)), .inl (.int (18 : Int32)), .inr (55, 0)]) (S' := S) ok_X12_goStep.1 (by decide +kernel) rfl rfl ?_
        obtain ⟨g15, h⟩ := ax_gd_e h
        refine ax_Tali (n := 204) ok_X12_goStep.1 (by decide +kernel) (by decide) rfl g15 ?_
        refine ax_Tgo [.isub] (pc' := 72) (L' := [some (.inr (12, 0)), some (.inr (55, 0)), some (.inl (.int a2)), some (.inl (.int v2)), none]) (st' := [.inl (.int ((1 : Int32) - (ax_ai S 55 0 (18 : Int32).toNatClampNeg))), .inl (.int (18 : Int32)), .inr (55, 0)]) (S' := S) ok_X12_goStep.1 (by decide +kernel) rfl rfl ?_
        obtain ⟨g16, h⟩ := ax_gd_e h
        refine ax_Tasi (n := 204) ok_X12_goStep.1 (by decide +kernel) (by decide) rfl g16 ?_
        obtain ⟨S17, eS17, h⟩ := ax_let_e h
        rw [eS17]
        refine ax_Tgoto (off := 19) (tgt := 92) (by decide +kernel) (by decide) ?_
        cases h
        exact ax_Tretv (by decide +kernel) rfl
      · rw [if_neg c14] at h
        by_cases c18 : v4 = (3 : Int32)
        · rw [if_pos c18] at h
          refine ax_TtIn (dflt := 72) (lo := 0) (hi := 3) (offs := #[29, 40, 48, 61]) (len := 29) (off := 61) (tgt := 76) (by decide +kernel) (by rw [c18]; decide) (by rw [c18]; decide) (by rw [c18]; rfl) (by decide) ?_
          refine ax_Tgo [.aload_n 1, .bipush 16, .dup2] (pc' := 80) (L' := [some (.inr (12, 0)), some (.inr (55, 0)), some (.inl (.int a2)), some (.inl (.int v2)), none]) (st' := [.inl (.int (16 : Int32)), .inr (55, 0), .inl (.int (16 : Int32)), .inr (55, 0)]) (S' := S) ok_X12_goStep.1 (by decide +kernel) rfl rfl ?_
          obtain ⟨g19, h⟩ := ax_gd_e h
          refine ax_Tali (n := 204) ok_X12_goStep.1 (by decide +kernel) (by decide) rfl g19 ?_
          refine ax_Tgo [.iload_n 3, .iadd] (pc' := 83) (L' := [some (.inr (12, 0)), some (.inr (55, 0)), some (.inl (.int a2)), some (.inl (.int v2)), none]) (st' := [.inl (.int ((ax_ai S 55 0 (16 : Int32).toNatClampNeg) + v2)), .inl (.int (16 : Int32)), .inr (55, 0)]) (S' := S) ok_X12_goStep.1 (by decide +kernel) rfl rfl ?_
          obtain ⟨g20, h⟩ := ax_gd_e h
          refine ax_Tasi (n := 204) ok_X12_goStep.1 (by decide +kernel) (by decide) rfl g20 ?_
          obtain ⟨S21, eS21, h⟩ := ax_let_e h
          rw [eS21]
          refine ax_Tgoto (off := 8) (tgt := 92) (by decide +kernel) (by decide) ?_
          cases h
          exact ax_Tretv (by decide +kernel) rfl
        · rw [if_neg c18] at h
          refine ax_TtOut (dflt := 72) (lo := 0) (hi := 3) (offs := #[29, 40, 48, 61]) (len := 29) (tgt := 87) (by decide +kernel) (by have zc5 := lv_neT (a := 0) c5 rfl; have zc10 := lv_neT (a := 1) c10 rfl; have zc14 := lv_neT (a := 2) c14 rfl; have zc18 := lv_neT (a := 3) c18 rfl; omega) (by decide) ?_
          refine ax_Tgo [.aload_n 0, .aload_n 1] (pc' := 89) (L' := [some (.inr (12, 0)), some (.inr (55, 0)), some (.inl (.int a2)), some (.inl (.int v2)), none]) (st' := [.inr (55, 0), .inr (12, 0)]) (S' := S) ok_X12_goStep.1 (by decide +kernel) rfl rfl ?_
          obtain ⟨S22, hq23, h⟩ := ax_bd_e h
          refine ax_TVv (d := 75) (ka := 12) (i := 0) [.inr (55, 0)] [] lk_X12_368 (by decide +kernel) rfl (by decide) rfl (Nat.le_of_ble_eq_true rfl) (Nat.le_of_ble_eq_true rfl) ((t_X12_goDay_55x0 hq23).up (by decide)) ?_
          cases h
          exact ax_Tretv (by decide +kernel) rfl
def f_X12_perform_L24 (K79 : Int32 → AS → Option (Int32 × AS)) : Nat → Int32 → Int32 → AS → Option (Int32 × AS)
  | 0, _, _, _ => none
  | n + 1, x8, x9, S11 => ax_gd (ax_in x8 5) ((if (ax_ai S11 54 0 x8.toNatClampNeg) ≤ x9 then K79 x9 S11 else ax_bu (f_X12_canStep_55x0 ((2 : Int32) * (((16 : Int32) * x8) + x9)) S11) (fun (r17 : Int32) (S14 : AS) => (if r17 = (0 : Int32) then K79 x9 S14 else (f_X12_remember S14).bind (fun (S19 : AS) => (f_X12_goStep_55x0 ((2 : Int32) * (((16 : Int32) * x8) + x9)) S19).bind (fun (S22 : AS) => ax_let (x9 + (1 : Int32)) (fun (v25 : Int32) => f_X12_perform_L24 K79 n x8 v25 S22)))))))
def f_X12_perform (a1 : Int32) (S : AS) : Option (Int32 × AS) := ax_let (ax_sfi S 12 0 0 (0 : Int32)) (fun (S1 : AS) => (f_X12_isPlan a1 S1).bind (fun (r5 : Int32) => (if r5 = (0 : Int32) then some ((Int32.ofInt (-1)), S1) else (if (ax_fi S1 12 0 27) = (0 : Int32) then some ((Int32.ofInt (-1)), S1) else f_X12_perform_L24 (fun (x10 : Int32) (S26 : AS) => some (x10, S26)) ax_F a1 (0 : Int32) S1))))
set_option maxRecDepth 100000 in
theorem t_X12_perform_L24 {l : Launch} {K79 : Int32 → AS → Option (Int32 × AS)} (hK79 : ∀ (x10 : Int32) (S : AS) r Z, K79 x10 S = some (r, Z) → ax_T l 77 ma_X12_perform (79, [none, none, some (.inl (.int x10))], [], S) (some (.inl (.int r))) Z) : ∀ (n : Nat) (x8 : Int32) (x9 : Int32) (S11 : AS) r Z, f_X12_perform_L24 K79 n x8 x9 S11 = some (r, Z) → ax_T l 77 ma_X12_perform (24, [some (.inr (12, 0)), some (.inl (.int x8)), some (.inl (.int x9))], [], S11) (some (.inl (.int r))) Z := by
  intro n
  induction n with
  | zero =>
    intro x8 x9 S11 r Z h
    cases h
  | succ n ih =>
    intro x8 x9 S11 r Z h
    unfold f_X12_perform_L24 at h
    refine ax_Tgo [.iload_n 2, .aload_n 0, .getfield 58, .iload_n 1] (pc' := 30) (L' := [some (.inr (12, 0)), some (.inl (.int x8)), some (.inl (.int x9))]) (st' := [.inl (.int x8), .inr (54, 0), .inl (.int x9)]) (S' := S11) ok_X12_perform.1 (by decide +kernel) rfl rfl ?_
    obtain ⟨g12, h⟩ := ax_gd_e h
    refine ax_Tali (n := 5) ok_X12_perform.1 (by decide +kernel) (by decide) rfl g12 ?_
    refine ax_Tic_ge (off := 48) (tgt := 79) (by decide +kernel) (by decide) (fun c13 => ?_) (fun c13 => ?_)
    · rw [if_pos c13] at h
      refine ax_Tdrop [false, false, true] (L' := [none, none, some (.inl (.int x9))]) rfl ?_
      exact hK79 x9 S11 _ _ h
    · rw [if_neg c13] at h
      refine ax_Tgo [.aload_n 0, .aload_n 0, .getfield 61, .iconst 2, .bipush 16, .iload_n 1, .imul, .iload_n 2, .iadd, .imul] (pc' := 47) (L' := [some (.inr (12, 0)), some (.inl (.int x8)), some (.inl (.int x9))]) (st' := [.inl (.int ((2 : Int32) * (((16 : Int32) * x8) + x9))), .inr (55, 0), .inr (12, 0)]) (S' := S11) ok_X12_perform.1 (by decide +kernel) rfl rfl ?_
      obtain ⟨r17, S14, hq15, h⟩ := ax_bu_e h
      refine ax_TVi (d := 76) (ka := 12) (i := 0) [.inr (55, 0), .inl (.int ((2 : Int32) * (((16 : Int32) * x8) + x9)))] [] lk_X12_393 (by decide +kernel) rfl (by decide) rfl (Nat.le_of_ble_eq_true rfl) (Nat.le_of_ble_eq_true rfl) ((t_X12_canStep_55x0 hq15).up (by decide)) ?_
      refine ax_Tif_eq (off := 29) (tgt := 79) (by decide +kernel) (by decide) (fun c18 => ?_) (fun c18 => ?_)
      · rw [if_pos c18] at h
        refine ax_Tdrop [false, false, true] (L' := [none, none, some (.inl (.int x9))]) rfl ?_
        exact hK79 x9 S14 _ _ h
      · rw [if_neg c18] at h
        refine ax_Tgo [.aload_n 0] (pc' := 54) (L' := [some (.inr (12, 0)), some (.inl (.int x8)), some (.inl (.int x9))]) (st' := [.inr (12, 0)]) (S' := S14) ok_X12_perform.1 (by decide +kernel) rfl rfl ?_
        obtain ⟨S19, hq20, h⟩ := ax_bd_e h
        refine ax_TVv (d := 76) (ka := 12) (i := 0) [] [] lk_X12_352 (by decide +kernel) rfl (by decide) rfl (Nat.le_of_ble_eq_true rfl) (Nat.le_of_ble_eq_true rfl) ((t_X12_remember hq20).up (by decide)) ?_
        refine ax_Tgo [.aload_n 0, .aload_n 0, .getfield 61, .iconst 2, .bipush 16, .iload_n 1, .imul, .iload_n 2, .iadd, .imul] (pc' := 70) (L' := [some (.inr (12, 0)), some (.inl (.int x8)), some (.inl (.int x9))]) (st' := [.inl (.int ((2 : Int32) * (((16 : Int32) * x8) + x9))), .inr (55, 0), .inr (12, 0)]) (S' := S19) ok_X12_perform.1 (by decide +kernel) rfl rfl ?_
        obtain ⟨S22, hq23, h⟩ := ax_bd_e h
        refine ax_TVv (d := 76) (ka := 12) (i := 0) [.inr (55, 0), .inl (.int ((2 : Int32) * (((16 : Int32) * x8) + x9)))] [] lk_X12_396 (by decide +kernel) rfl (by decide) rfl (Nat.le_of_ble_eq_true rfl) (Nat.le_of_ble_eq_true rfl) ((t_X12_goStep_55x0 hq23).up (by decide)) ?_
        refine ax_Tgo [.iinc 2 1] (pc' := 76) (L' := [some (.inr (12, 0)), some (.inl (.int x8)), some (.inl (.int (x9 + (1 : Int32))))]) (st' := []) (S' := S22) ok_X12_perform.1 (by decide +kernel) rfl rfl ?_
        obtain ⟨v25, ev25, h⟩ := ax_let_e h
        rw [ev25]
        refine ax_Tgoto (off := (-52)) (tgt := 24) (by decide +kernel) (by decide) ?_
        exact ih x8 v25 S22 _ _ h
set_option maxRecDepth 100000 in
theorem t_X12_perform {l : Launch} {a1 : Int32} {S Z : AS} {r : Int32} (h : f_X12_perform a1 S = some (r, Z)) : ax_M l 77 ma_X12_perform [.inr (12, 0), .inl (.int a1)] S (some (.inl (.int r))) Z := by
  unfold f_X12_perform at h
  show ax_T l 77 ma_X12_perform (0, [some (.inr (12, 0)), some (.inl (.int a1)), none], [], S) (some (.inl (.int r))) Z
  refine ax_Tgo [.aload_n 0, .iconst 0, .putfield 93] (pc' := 5) (L' := [some (.inr (12, 0)), some (.inl (.int a1)), none]) (st' := []) (S' := (ax_sfi S 12 0 0 (0 : Int32))) ok_X12_perform.1 (by decide +kernel) rfl rfl ?_
  obtain ⟨S1, eS1, h⟩ := ax_let_e h
  rw [eS1]
  refine ax_Tgo [.aload_n 0, .iload_n 1] (pc' := 7) (L' := [some (.inr (12, 0)), some (.inl (.int a1)), none]) (st' := [.inl (.int a1), .inr (12, 0)]) (S' := S1) ok_X12_perform.1 (by decide +kernel) rfl rfl ?_
  obtain ⟨r5, hq3, h⟩ := ax_bd_e h
  refine ax_TVi (d := 76) (ka := 12) (i := 0) [.inl (.int a1)] [] lk_X12_385 (by decide +kernel) rfl (by decide) rfl (Nat.le_of_ble_eq_true rfl) (Nat.le_of_ble_eq_true rfl) ((t_X12_isPlan hq3).up (by decide)) ?_
  refine ax_Tif_eq (off := 10) (tgt := 20) (by decide +kernel) (by decide) (fun c6 => ?_) (fun c6 => ?_)
  · rw [if_pos c6] at h
    refine ax_Tgo [.iconst (-1)] (pc' := 21) (L' := [some (.inr (12, 0)), some (.inl (.int a1)), none]) (st' := [.inl (.int (Int32.ofInt (-1)))]) (S' := S1) ok_X12_perform.1 (by decide +kernel) rfl rfl ?_
    cases h
    exact ax_Treti (by decide +kernel) rfl rfl
  · rw [if_neg c6] at h
    refine ax_Tgo [.aload_n 0, .getfield 291] (pc' := 17) (L' := [some (.inr (12, 0)), some (.inl (.int a1)), none]) (st' := [.inl (.int (ax_fi S1 12 0 27))]) (S' := S1) ok_X12_perform.1 (by decide +kernel) rfl rfl ?_
    refine ax_Tif_ne (off := 5) (tgt := 22) (by decide +kernel) (by decide) (fun c7 => ?_) (fun c7 => ?_)
    · rw [if_neg c7] at h
      refine ax_Tgo [.iconst 0, .istore_n 2] (pc' := 24) (L' := [some (.inr (12, 0)), some (.inl (.int a1)), some (.inl (.int (0 : Int32)))]) (st' := []) (S' := S1) ok_X12_perform.1 (by decide +kernel) rfl rfl ?_
      refine t_X12_perform_L24 ?_ _ a1 (0 : Int32) S1 _ _ h
      · intro x10 S26 r Z h
        refine ax_Tgo [.iload_n 2] (pc' := 80) (L' := [none, none, some (.inl (.int x10))]) (st' := [.inl (.int x10)]) (S' := S26) ok_X12_perform.1 (by decide +kernel) rfl rfl ?_
        cases h
        exact ax_Treti (by decide +kernel) rfl rfl
    · rw [if_pos c7] at h
      refine ax_Tgo [.iconst (-1)] (pc' := 21) (L' := [some (.inr (12, 0)), some (.inl (.int a1)), none]) (st' := [.inl (.int (Int32.ofInt (-1)))]) (S' := S1) ok_X12_perform.1 (by decide +kernel) rfl rfl ?_
      cases h
      exact ax_Treti (by decide +kernel) rfl rfl
def f_X12_queue_L55 (K169 : Int32 → Int32 → Int32 → Int32 → Int32 → AS → Option (Int32 × AS)) : Nat → Int32 → Int32 → Int32 → Int32 → Int32 → Int32 → AS → Option (Int32 × AS)
  | 0, _, _, _, _, _, _, _ => none
  | n + 1, x21, x22, x23, x24, x25, x26, S32 => (if (ax_fi S32 12 0 27) ≤ x26 then K169 x21 x22 x23 x24 x25 S32 else ax_gd (ax_in (((2 : Int32) * x26) + (1 : Int32)) 204) ((if (ax_ai S32 55 0 (((2 : Int32) * x26) + (1 : Int32)).toNatClampNeg) = (1 : Int32) then ax_let (x26 + (1 : Int32)) (fun (v36 : Int32) => f_X12_queue_L55 K169 n x21 x22 x23 x24 x25 v36 S32) else ax_bu (f_X12_takesIn_55x0 x26 S32) (fun (r40 : Int32) (S37 : AS) => (if r40 = x25 then ax_let (fun (x42 : Int32) (S43 : AS) => ax_let (fun (x45 : Int32) (S46 : AS) => (if x45 = (0 : Int32) then ax_let (x26 + (1 : Int32)) (fun (v55 : Int32) => f_X12_queue_L55 K169 n x21 x42 x23 x45 x25 v55 S46) else ax_bu (f_X12_calls_56x0 x26 S46) (fun (r52 : Int32) (S49 : AS) => ax_let (x23 + (1 : Int32)) (fun (v53 : Int32) => ax_let (x26 + (1 : Int32)) (fun (v54 : Int32) => f_X12_queue_L55 K169 n x21 x42 v53 x45 x25 v54 S49))))) (fun J47 => (if x24 = (0 : Int32) then J47 (0 : Int32) S43 else ax_bu (f_X12_canCall_56x0 x26 S43) (fun (r60 : Int32) (S57 : AS) => (if r60 = (0 : Int32) then J47 (0 : Int32) S57 else J47 (1 : Int32) S57))))) (fun J44 => (if x22 = (Int32.ofInt (-1)) then J44 x26 S37 else J44 (((10 : Int32) * x22) + x26) S37)) else ax_let (x26 + (1 : Int32)) (fun (v63 : Int32) => f_X12_queue_L55 K169 n x21 x22 x23 x24 x25 v63 S37))))))
def f_X12_queue_L45 (K175 : Int32 → Int32 → Int32 → AS → Option (Int32 × AS)) : Nat → Int32 → Int32 → Int32 → Int32 → Int32 → AS → Option (Int32 × AS)
  | 0, _, _, _, _, _, _ => none
  | n + 1, x11, x12, x13, x14, x15, S19 => (if (60 : Int32) < x15 then K175 x11 x12 x13 S19 else f_X12_queue_L55 (fun (x27 : Int32) (x28 : Int32) (x29 : Int32) (x30 : Int32) (x31 : Int32) (S64 : AS) => ax_let (x31 + (1 : Int32)) (fun (v65 : Int32) => f_X12_queue_L45 K175 n x27 x28 x29 x30 v65 S64)) ax_F x11 x12 x13 x14 x15 (0 : Int32) S19)
def f_X12_queue (a1 : Int32) (S : AS) : Option (Int32 × AS) := ax_let (ax_sfi S 12 0 0 (0 : Int32)) (fun (S1 : AS) => (if (ax_fi S1 12 0 27) = (0 : Int32) then some ((Int32.ofInt (-1)), S1) else (f_X12_isIn (a1.toInt64) (0 : Int64) (1 : Int64) S1).bind (fun (r6 : Int32) => (if r6 = (0 : Int32) then some ((Int32.ofInt (-1)), S1) else (f_X12_copy_55x0_56x0 S1).bind (fun (S8 : AS) => f_X12_queue_L45 (fun (x16 : Int32) (x17 : Int32) (x18 : Int32) (S66 : AS) => (if x16 = (0 : Int32) then some (x17, S66) else some (x18, S66))) ax_F a1 (Int32.ofInt (-1)) (0 : Int32) (1 : Int32) (1 : Int32) S8)))))
set_option maxRecDepth 100000 in
theorem t_X12_queue_L55 {l : Launch} {K169 : Int32 → Int32 → Int32 → Int32 → Int32 → AS → Option (Int32 × AS)} (hK169 : ∀ (x27 : Int32) (x28 : Int32) (x29 : Int32) (x30 : Int32) (x31 : Int32) (S : AS) r Z, K169 x27 x28 x29 x30 x31 S = some (r, Z) → ax_T l 76 ma_X12_queue (169, [some (.inr (12, 0)), some (.inl (.int x27)), some (.inl (.int x28)), some (.inl (.int x29)), some (.inl (.int x30)), some (.inl (.int x31)), none, none], [], S) (some (.inl (.int r))) Z) : ∀ (n : Nat) (x21 : Int32) (x22 : Int32) (x23 : Int32) (x24 : Int32) (x25 : Int32) (x26 : Int32) (S32 : AS) r Z, f_X12_queue_L55 K169 n x21 x22 x23 x24 x25 x26 S32 = some (r, Z) → ax_T l 76 ma_X12_queue (55, [some (.inr (12, 0)), some (.inl (.int x21)), some (.inl (.int x22)), some (.inl (.int x23)), some (.inl (.int x24)), some (.inl (.int x25)), some (.inl (.int x26)), none], [], S32) (some (.inl (.int r))) Z := by
  intro n
  induction n with
  | zero =>
    intro x21 x22 x23 x24 x25 x26 S32 r Z h
    cases h
  | succ n ih =>
    intro x21 x22 x23 x24 x25 x26 S32 r Z h
    unfold f_X12_queue_L55 at h
    refine ax_Tgo [.iload 6, .aload_n 0, .getfield 291] (pc' := 61) (L' := [some (.inr (12, 0)), some (.inl (.int x21)), some (.inl (.int x22)), some (.inl (.int x23)), some (.inl (.int x24)), some (.inl (.int x25)), some (.inl (.int x26)), none]) (st' := [.inl (.int (ax_fi S32 12 0 27)), .inl (.int x26)]) (S' := S32) ok_X12_queue.1 (by decide +kernel) rfl rfl ?_
    refine ax_Tic_ge (off := 108) (tgt := 169) (by decide +kernel) (by decide) (fun c33 => ?_) (fun c33 => ?_)
    · rw [if_pos c33] at h
      refine ax_Tdrop [true, true, true, true, true, true, false, true] (L' := [some (.inr (12, 0)), some (.inl (.int x21)), some (.inl (.int x22)), some (.inl (.int x23)), some (.inl (.int x24)), some (.inl (.int x25)), none, none]) rfl ?_
      exact hK169 x21 x22 x23 x24 x25 S32 _ _ h
    · rw [if_neg c33] at h
      refine ax_Tgo [.aload_n 0, .getfield 61, .iconst 2, .iload 6, .imul, .iconst 1, .iadd] (pc' := 74) (L' := [some (.inr (12, 0)), some (.inl (.int x21)), some (.inl (.int x22)), some (.inl (.int x23)), some (.inl (.int x24)), some (.inl (.int x25)), some (.inl (.int x26)), none]) (st' := [.inl (.int (((2 : Int32) * x26) + (1 : Int32))), .inr (55, 0)]) (S' := S32) ok_X12_queue.1 (by decide +kernel) rfl rfl ?_
      obtain ⟨g34, h⟩ := ax_gd_e h
      refine ax_Tali (n := 204) ok_X12_queue.1 (by decide +kernel) (by decide) rfl g34 ?_
      refine ax_Tgo [.iconst 1] (pc' := 76) (L' := [some (.inr (12, 0)), some (.inl (.int x21)), some (.inl (.int x22)), some (.inl (.int x23)), some (.inl (.int x24)), some (.inl (.int x25)), some (.inl (.int x26)), none]) (st' := [.inl (.int (1 : Int32)), .inl (.int (ax_ai S32 55 0 (((2 : Int32) * x26) + (1 : Int32)).toNatClampNeg))]) (S' := S32) ok_X12_queue.1 (by decide +kernel) rfl rfl ?_
      refine ax_Tic_eq (off := 87) (tgt := 163) (by decide +kernel) (by decide) (fun c35 => ?_) (fun c35 => ?_)
      · rw [if_pos c35] at h
        refine ax_Tgo [.iinc 6 1] (pc' := 166) (L' := [some (.inr (12, 0)), some (.inl (.int x21)), some (.inl (.int x22)), some (.inl (.int x23)), some (.inl (.int x24)), some (.inl (.int x25)), some (.inl (.int (x26 + (1 : Int32)))), none]) (st' := []) (S' := S32) ok_X12_queue.1 (by decide +kernel) rfl rfl ?_
        obtain ⟨v36, ev36, h⟩ := ax_let_e h
        rw [ev36]
        refine ax_Tgoto (off := (-111)) (tgt := 55) (by decide +kernel) (by decide) ?_
        exact ih x21 x22 x23 x24 x25 v36 S32 _ _ h
      · rw [if_neg c35] at h
        refine ax_Tgo [.aload_n 0, .aload_n 0, .getfield 61, .iload 6] (pc' := 86) (L' := [some (.inr (12, 0)), some (.inl (.int x21)), some (.inl (.int x22)), some (.inl (.int x23)), some (.inl (.int x24)), some (.inl (.int x25)), some (.inl (.int x26)), none]) (st' := [.inl (.int x26), .inr (55, 0), .inr (12, 0)]) (S' := S32) ok_X12_queue.1 (by decide +kernel) rfl rfl ?_
        obtain ⟨r40, S37, hq38, h⟩ := ax_bu_e h
        refine ax_TVi (d := 75) (ka := 12) (i := 0) [.inr (55, 0), .inl (.int x26)] [] lk_X12_327 (by decide +kernel) rfl (by decide) rfl (Nat.le_of_ble_eq_true rfl) (Nat.le_of_ble_eq_true rfl) ((t_X12_takesIn_55x0 hq38).up (by decide)) ?_
        refine ax_Tgo [.iload 5] (pc' := 91) (L' := [some (.inr (12, 0)), some (.inl (.int x21)), some (.inl (.int x22)), some (.inl (.int x23)), some (.inl (.int x24)), some (.inl (.int x25)), some (.inl (.int x26)), none]) (st' := [.inl (.int x25), .inl (.int r40)]) (S' := S37) ok_X12_queue.1 (by decide +kernel) rfl rfl ?_
        refine ax_Tic_eq (off := 6) (tgt := 97) (by decide +kernel) (by decide) (fun c41 => ?_) (fun c41 => ?_)
        · rw [if_pos c41] at h
          refine ax_Tgo [.iload_n 2, .iconst (-1)] (pc' := 99) (L' := [some (.inr (12, 0)), some (.inl (.int x21)), some (.inl (.int x22)), some (.inl (.int x23)), some (.inl (.int x24)), some (.inl (.int x25)), some (.inl (.int x26)), none]) (st' := [.inl (.int (Int32.ofInt (-1))), .inl (.int x22)]) (S' := S37) ok_X12_queue.1 (by decide +kernel) rfl rfl ?_
          obtain ⟨J44, eJ44, h⟩ := ax_let_e h
          have hJ44 : ∀ (x42 : Int32) (S43 : AS) r Z, J44 x42 S43 = some (r, Z) → ax_T l 76 ma_X12_queue (114, [some (.inr (12, 0)), some (.inl (.int x21)), none, some (.inl (.int x23)), some (.inl (.int x24)), some (.inl (.int x25)), some (.inl (.int x26)), none], [.inl (.int x42)], S43) (some (.inl (.int r))) Z := by
            intro x42 S43 r Z h
            rw [← eJ44] at h
            try dsimp only at h
            refine ax_Tgo [.istore_n 2, .iload 4] (pc' := 117) (L' := [some (.inr (12, 0)), some (.inl (.int x21)), some (.inl (.int x42)), some (.inl (.int x23)), some (.inl (.int x24)), some (.inl (.int x25)), some (.inl (.int x26)), none]) (st' := [.inl (.int x24)]) (S' := S43) ok_X12_queue.1 (by decide +kernel) rfl rfl ?_
            obtain ⟨J47, eJ47, h⟩ := ax_let_e h
            have hJ47 : ∀ (x45 : Int32) (S46 : AS) r Z, J47 x45 S46 = some (r, Z) → ax_T l 76 ma_X12_queue (138, [some (.inr (12, 0)), some (.inl (.int x21)), some (.inl (.int x42)), some (.inl (.int x23)), none, some (.inl (.int x25)), some (.inl (.int x26)), none], [.inl (.int x45)], S46) (some (.inl (.int r))) Z := by
              intro x45 S46 r Z h
              rw [← eJ47] at h
              try dsimp only at h
              refine ax_Tgo [.istore 4, .iload 4] (pc' := 142) (L' := [some (.inr (12, 0)), some (.inl (.int x21)), some (.inl (.int x42)), some (.inl (.int x23)), some (.inl (.int x45)), some (.inl (.int x25)), some (.inl (.int x26)), none]) (st' := [.inl (.int x45)]) (S' := S46) ok_X12_queue.1 (by decide +kernel) rfl rfl ?_
              refine ax_Tif_ne (off := 6) (tgt := 148) (by decide +kernel) (by decide) (fun c48 => ?_) (fun c48 => ?_)
              · rw [if_neg c48] at h
                refine ax_Tgo [.aload_n 0, .aload_n 0, .getfield 64, .iload 6] (pc' := 155) (L' := [some (.inr (12, 0)), some (.inl (.int x21)), some (.inl (.int x42)), some (.inl (.int x23)), some (.inl (.int x45)), some (.inl (.int x25)), some (.inl (.int x26)), none]) (st' := [.inl (.int x26), .inr (56, 0), .inr (12, 0)]) (S' := S46) ok_X12_queue.1 (by decide +kernel) rfl rfl ?_
                obtain ⟨r52, S49, hq50, h⟩ := ax_bu_e h
                refine ax_TVi (d := 75) (ka := 12) (i := 0) [.inr (56, 0), .inl (.int x26)] [] lk_X12_355 (by decide +kernel) rfl (by decide) rfl (Nat.le_of_ble_eq_true rfl) (Nat.le_of_ble_eq_true rfl) ((t_X12_calls_56x0 hq50).up (by decide)) ?_
                refine ax_Tgo [.istore 7, .iinc 3 1] (pc' := 163) (L' := [some (.inr (12, 0)), some (.inl (.int x21)), some (.inl (.int x42)), some (.inl (.int (x23 + (1 : Int32)))), some (.inl (.int x45)), some (.inl (.int x25)), some (.inl (.int x26)), some (.inl (.int r52))]) (st' := []) (S' := S49) ok_X12_queue.1 (by decide +kernel) rfl rfl ?_
                obtain ⟨v53, ev53, h⟩ := ax_let_e h
                rw [ev53]
                refine ax_Tgo [.iinc 6 1] (pc' := 166) (L' := [some (.inr (12, 0)), some (.inl (.int x21)), some (.inl (.int x42)), some (.inl (.int v53)), some (.inl (.int x45)), some (.inl (.int x25)), some (.inl (.int (x26 + (1 : Int32)))), some (.inl (.int r52))]) (st' := []) (S' := S49) ok_X12_queue.1 (by decide +kernel) rfl rfl ?_
                obtain ⟨v54, ev54, h⟩ := ax_let_e h
                rw [ev54]
                refine ax_Tgoto (off := (-111)) (tgt := 55) (by decide +kernel) (by decide) ?_
                refine ax_Tdrop [true, true, true, true, true, true, true, false] (L' := [some (.inr (12, 0)), some (.inl (.int x21)), some (.inl (.int x42)), some (.inl (.int v53)), some (.inl (.int x45)), some (.inl (.int x25)), some (.inl (.int v54)), none]) rfl ?_
                exact ih x21 x42 v53 x45 x25 v54 S49 _ _ h
              · rw [if_pos c48] at h
                refine ax_Tgoto (off := 18) (tgt := 163) (by decide +kernel) (by decide) ?_
                refine ax_Tgo [.iinc 6 1] (pc' := 166) (L' := [some (.inr (12, 0)), some (.inl (.int x21)), some (.inl (.int x42)), some (.inl (.int x23)), some (.inl (.int x45)), some (.inl (.int x25)), some (.inl (.int (x26 + (1 : Int32)))), none]) (st' := []) (S' := S46) ok_X12_queue.1 (by decide +kernel) rfl rfl ?_
                obtain ⟨v55, ev55, h⟩ := ax_let_e h
                rw [ev55]
                refine ax_Tgoto (off := (-111)) (tgt := 55) (by decide +kernel) (by decide) ?_
                exact ih x21 x42 x23 x45 x25 v55 S46 _ _ h
            refine ax_Tif_eq (off := 20) (tgt := 137) (by decide +kernel) (by decide) (fun c56 => ?_) (fun c56 => ?_)
            · rw [if_pos c56] at h
              refine ax_Tgo [.iconst 0] (pc' := 138) (L' := [some (.inr (12, 0)), some (.inl (.int x21)), some (.inl (.int x42)), some (.inl (.int x23)), some (.inl (.int x24)), some (.inl (.int x25)), some (.inl (.int x26)), none]) (st' := [.inl (.int (0 : Int32))]) (S' := S43) ok_X12_queue.1 (by decide +kernel) rfl rfl ?_
              refine ax_Tdrop [true, true, true, true, false, true, true, true] (L' := [some (.inr (12, 0)), some (.inl (.int x21)), some (.inl (.int x42)), some (.inl (.int x23)), none, some (.inl (.int x25)), some (.inl (.int x26)), none]) rfl ?_
              exact hJ47 (0 : Int32) S43 _ _ h
            · rw [if_neg c56] at h
              refine ax_Tgo [.aload_n 0, .aload_n 0, .getfield 64, .iload 6] (pc' := 127) (L' := [some (.inr (12, 0)), some (.inl (.int x21)), some (.inl (.int x42)), some (.inl (.int x23)), some (.inl (.int x24)), some (.inl (.int x25)), some (.inl (.int x26)), none]) (st' := [.inl (.int x26), .inr (56, 0), .inr (12, 0)]) (S' := S43) ok_X12_queue.1 (by decide +kernel) rfl rfl ?_
              obtain ⟨r60, S57, hq58, h⟩ := ax_bu_e h
              refine ax_TVi (d := 75) (ka := 12) (i := 0) [.inr (56, 0), .inl (.int x26)] [] lk_X12_348 (by decide +kernel) rfl (by decide) rfl (Nat.le_of_ble_eq_true rfl) (Nat.le_of_ble_eq_true rfl) ((t_X12_canCall_56x0 hq58).up (by decide)) ?_
              refine ax_Tif_eq (off := 7) (tgt := 137) (by decide +kernel) (by decide) (fun c61 => ?_) (fun c61 => ?_)
              · rw [if_pos c61] at h
                refine ax_Tgo [.iconst 0] (pc' := 138) (L' := [some (.inr (12, 0)), some (.inl (.int x21)), some (.inl (.int x42)), some (.inl (.int x23)), some (.inl (.int x24)), some (.inl (.int x25)), some (.inl (.int x26)), none]) (st' := [.inl (.int (0 : Int32))]) (S' := S57) ok_X12_queue.1 (by decide +kernel) rfl rfl ?_
                refine ax_Tdrop [true, true, true, true, false, true, true, true] (L' := [some (.inr (12, 0)), some (.inl (.int x21)), some (.inl (.int x42)), some (.inl (.int x23)), none, some (.inl (.int x25)), some (.inl (.int x26)), none]) rfl ?_
                exact hJ47 (0 : Int32) S57 _ _ h
              · rw [if_neg c61] at h
                refine ax_Tgo [.iconst 1] (pc' := 134) (L' := [some (.inr (12, 0)), some (.inl (.int x21)), some (.inl (.int x42)), some (.inl (.int x23)), some (.inl (.int x24)), some (.inl (.int x25)), some (.inl (.int x26)), none]) (st' := [.inl (.int (1 : Int32))]) (S' := S57) ok_X12_queue.1 (by decide +kernel) rfl rfl ?_
                refine ax_Tgoto (off := 4) (tgt := 138) (by decide +kernel) (by decide) ?_
                refine ax_Tdrop [true, true, true, true, false, true, true, true] (L' := [some (.inr (12, 0)), some (.inl (.int x21)), some (.inl (.int x42)), some (.inl (.int x23)), none, some (.inl (.int x25)), some (.inl (.int x26)), none]) rfl ?_
                exact hJ47 (1 : Int32) S57 _ _ h
          refine ax_Tic_ne (off := 8) (tgt := 107) (by decide +kernel) (by decide) (fun c62 => ?_) (fun c62 => ?_)
          · rw [if_neg c62] at h
            refine ax_Tgo [.bipush 10, .iload_n 2, .imul, .iload 6, .iadd] (pc' := 114) (L' := [some (.inr (12, 0)), some (.inl (.int x21)), some (.inl (.int x22)), some (.inl (.int x23)), some (.inl (.int x24)), some (.inl (.int x25)), some (.inl (.int x26)), none]) (st' := [.inl (.int (((10 : Int32) * x22) + x26))]) (S' := S37) ok_X12_queue.1 (by decide +kernel) rfl rfl ?_
            refine ax_Tdrop [true, true, false, true, true, true, true, true] (L' := [some (.inr (12, 0)), some (.inl (.int x21)), none, some (.inl (.int x23)), some (.inl (.int x24)), some (.inl (.int x25)), some (.inl (.int x26)), none]) rfl ?_
            exact hJ44 (((10 : Int32) * x22) + x26) S37 _ _ h
          · rw [if_pos c62] at h
            refine ax_Tgo [.iload 6] (pc' := 104) (L' := [some (.inr (12, 0)), some (.inl (.int x21)), some (.inl (.int x22)), some (.inl (.int x23)), some (.inl (.int x24)), some (.inl (.int x25)), some (.inl (.int x26)), none]) (st' := [.inl (.int x26)]) (S' := S37) ok_X12_queue.1 (by decide +kernel) rfl rfl ?_
            refine ax_Tgoto (off := 10) (tgt := 114) (by decide +kernel) (by decide) ?_
            refine ax_Tdrop [true, true, false, true, true, true, true, true] (L' := [some (.inr (12, 0)), some (.inl (.int x21)), none, some (.inl (.int x23)), some (.inl (.int x24)), some (.inl (.int x25)), some (.inl (.int x26)), none]) rfl ?_
            exact hJ44 x26 S37 _ _ h
        · rw [if_neg c41] at h
          refine ax_Tgoto (off := 69) (tgt := 163) (by decide +kernel) (by decide) ?_
          refine ax_Tgo [.iinc 6 1] (pc' := 166) (L' := [some (.inr (12, 0)), some (.inl (.int x21)), some (.inl (.int x22)), some (.inl (.int x23)), some (.inl (.int x24)), some (.inl (.int x25)), some (.inl (.int (x26 + (1 : Int32)))), none]) (st' := []) (S' := S37) ok_X12_queue.1 (by decide +kernel) rfl rfl ?_
          obtain ⟨v63, ev63, h⟩ := ax_let_e h
          rw [ev63]
          refine ax_Tgoto (off := (-111)) (tgt := 55) (by decide +kernel) (by decide) ?_
          exact ih x21 x22 x23 x24 x25 v63 S37 _ _ h
set_option maxRecDepth 100000 in
theorem t_X12_queue_L45 {l : Launch} {K175 : Int32 → Int32 → Int32 → AS → Option (Int32 × AS)} (hK175 : ∀ (x16 : Int32) (x17 : Int32) (x18 : Int32) (S : AS) r Z, K175 x16 x17 x18 S = some (r, Z) → ax_T l 76 ma_X12_queue (175, [none, some (.inl (.int x16)), some (.inl (.int x17)), some (.inl (.int x18)), none, none, none, none], [], S) (some (.inl (.int r))) Z) : ∀ (n : Nat) (x11 : Int32) (x12 : Int32) (x13 : Int32) (x14 : Int32) (x15 : Int32) (S19 : AS) r Z, f_X12_queue_L45 K175 n x11 x12 x13 x14 x15 S19 = some (r, Z) → ax_T l 76 ma_X12_queue (45, [some (.inr (12, 0)), some (.inl (.int x11)), some (.inl (.int x12)), some (.inl (.int x13)), some (.inl (.int x14)), some (.inl (.int x15)), none, none], [], S19) (some (.inl (.int r))) Z := by
  intro n
  induction n with
  | zero =>
    intro x11 x12 x13 x14 x15 S19 r Z h
    cases h
  | succ n ih =>
    intro x11 x12 x13 x14 x15 S19 r Z h
    unfold f_X12_queue_L45 at h
    refine ax_Tgo [.iload 5, .bipush 60] (pc' := 49) (L' := [some (.inr (12, 0)), some (.inl (.int x11)), some (.inl (.int x12)), some (.inl (.int x13)), some (.inl (.int x14)), some (.inl (.int x15)), none, none]) (st' := [.inl (.int (60 : Int32)), .inl (.int x15)]) (S' := S19) ok_X12_queue.1 (by decide +kernel) rfl rfl ?_
    refine ax_Tic_gt (off := 126) (tgt := 175) (by decide +kernel) (by decide) (fun c20 => ?_) (fun c20 => ?_)
    · rw [if_pos c20] at h
      refine ax_Tdrop [false, true, true, true, false, false, true, true] (L' := [none, some (.inl (.int x11)), some (.inl (.int x12)), some (.inl (.int x13)), none, none, none, none]) rfl ?_
      exact hK175 x11 x12 x13 S19 _ _ h
    · rw [if_neg c20] at h
      refine ax_Tgo [.iconst 0, .istore 6] (pc' := 55) (L' := [some (.inr (12, 0)), some (.inl (.int x11)), some (.inl (.int x12)), some (.inl (.int x13)), some (.inl (.int x14)), some (.inl (.int x15)), some (.inl (.int (0 : Int32))), none]) (st' := []) (S' := S19) ok_X12_queue.1 (by decide +kernel) rfl rfl ?_
      refine t_X12_queue_L55 ?_ _ x11 x12 x13 x14 x15 (0 : Int32) S19 _ _ h
      · intro x27 x28 x29 x30 x31 S64 r Z h
        refine ax_Tgo [.iinc 5 1] (pc' := 172) (L' := [some (.inr (12, 0)), some (.inl (.int x27)), some (.inl (.int x28)), some (.inl (.int x29)), some (.inl (.int x30)), some (.inl (.int (x31 + (1 : Int32)))), none, none]) (st' := []) (S' := S64) ok_X12_queue.1 (by decide +kernel) rfl rfl ?_
        obtain ⟨v65, ev65, h⟩ := ax_let_e h
        rw [ev65]
        refine ax_Tgoto (off := (-127)) (tgt := 45) (by decide +kernel) (by decide) ?_
        exact ih x27 x28 x29 x30 v65 S64 _ _ h
set_option maxRecDepth 100000 in
theorem t_X12_queue {l : Launch} {a1 : Int32} {S Z : AS} {r : Int32} (h : f_X12_queue a1 S = some (r, Z)) : ax_M l 76 ma_X12_queue [.inr (12, 0), .inl (.int a1)] S (some (.inl (.int r))) Z := by
  unfold f_X12_queue at h
  show ax_T l 76 ma_X12_queue (0, [some (.inr (12, 0)), some (.inl (.int a1)), none, none, none, none, none, none], [], S) (some (.inl (.int r))) Z
  refine ax_Tgo [.aload_n 0, .iconst 0, .putfield 93] (pc' := 5) (L' := [some (.inr (12, 0)), some (.inl (.int a1)), none, none, none, none, none, none]) (st' := []) (S' := (ax_sfi S 12 0 0 (0 : Int32))) ok_X12_queue.1 (by decide +kernel) rfl rfl ?_
  obtain ⟨S1, eS1, h⟩ := ax_let_e h
  rw [eS1]
  refine ax_Tgo [.aload_n 0, .getfield 291] (pc' := 9) (L' := [some (.inr (12, 0)), some (.inl (.int a1)), none, none, none, none, none, none]) (st' := [.inl (.int (ax_fi S1 12 0 27))]) (S' := S1) ok_X12_queue.1 (by decide +kernel) rfl rfl ?_
  refine ax_Tif_eq (off := 13) (tgt := 22) (by decide +kernel) (by decide) (fun c2 => ?_) (fun c2 => ?_)
  · rw [if_pos c2] at h
    refine ax_Tgo [.iconst (-1)] (pc' := 23) (L' := [some (.inr (12, 0)), some (.inl (.int a1)), none, none, none, none, none, none]) (st' := [.inl (.int (Int32.ofInt (-1)))]) (S' := S1) ok_X12_queue.1 (by decide +kernel) rfl rfl ?_
    cases h
    exact ax_Treti (by decide +kernel) rfl rfl
  · rw [if_neg c2] at h
    refine ax_Tgo [.iload_n 1, .i2l, .lconst 0, .lconst 1] (pc' := 16) (L' := [some (.inr (12, 0)), some (.inl (.int a1)), none, none, none, none, none, none]) (st' := [.inl (.long (1 : Int64)), .inl (.long (0 : Int64)), .inl (.long a1.toInt64)]) (S' := S1) ok_X12_queue.1 (by decide +kernel) rfl rfl ?_
    obtain ⟨r6, hq4, h⟩ := ax_bd_e h
    refine ax_TSi (d := 75) [.inl (.long a1.toInt64), .inl (.long (0 : Int64)), .inl (.long (1 : Int64))] [] lk_X12_214 (by decide +kernel) rfl rfl (Nat.le_of_ble_eq_true rfl) (Nat.le_of_ble_eq_true rfl) ((t_X12_isIn hq4).up (by decide)) ?_
    refine ax_Tif_ne (off := 5) (tgt := 24) (by decide +kernel) (by decide) (fun c7 => ?_) (fun c7 => ?_)
    · rw [if_neg c7] at h
      refine ax_Tgo [.aload_n 0, .getfield 61, .aload_n 0, .getfield 64] (pc' := 32) (L' := [some (.inr (12, 0)), some (.inl (.int a1)), none, none, none, none, none, none]) (st' := [.inr (56, 0), .inr (55, 0)]) (S' := S1) ok_X12_queue.1 (by decide +kernel) rfl rfl ?_
      obtain ⟨S8, hq9, h⟩ := ax_bd_e h
      refine ax_TSv (d := 75) [.inr (55, 0), .inr (56, 0)] [] lk_X12_389 (by decide +kernel) rfl rfl (Nat.le_of_ble_eq_true rfl) (Nat.le_of_ble_eq_true rfl) ((t_X12_copy_55x0_56x0 hq9).up (by decide)) ?_
      refine ax_Tgo [.iconst (-1), .istore_n 2, .iconst 0, .istore_n 3, .iconst 1, .istore 4, .iconst 1, .istore 5] (pc' := 45) (L' := [some (.inr (12, 0)), some (.inl (.int a1)), some (.inl (.int (Int32.ofInt (-1)))), some (.inl (.int (0 : Int32))), some (.inl (.int (1 : Int32))), some (.inl (.int (1 : Int32))), none, none]) (st' := []) (S' := S8) ok_X12_queue.1 (by decide +kernel) rfl rfl ?_
      refine t_X12_queue_L45 ?_ _ a1 (Int32.ofInt (-1)) (0 : Int32) (1 : Int32) (1 : Int32) S8 _ _ h
      · intro x16 x17 x18 S66 r Z h
        refine ax_Tgo [.iload_n 1] (pc' := 176) (L' := [none, some (.inl (.int x16)), some (.inl (.int x17)), some (.inl (.int x18)), none, none, none, none]) (st' := [.inl (.int x16)]) (S' := S66) ok_X12_queue.1 (by decide +kernel) rfl rfl ?_
        refine ax_Tif_ne (off := 7) (tgt := 183) (by decide +kernel) (by decide) (fun c67 => ?_) (fun c67 => ?_)
        · rw [if_neg c67] at h
          refine ax_Tgo [.iload_n 3] (pc' := 184) (L' := [none, some (.inl (.int x16)), some (.inl (.int x17)), some (.inl (.int x18)), none, none, none, none]) (st' := [.inl (.int x18)]) (S' := S66) ok_X12_queue.1 (by decide +kernel) rfl rfl ?_
          cases h
          exact ax_Treti (by decide +kernel) rfl rfl
        · rw [if_pos c67] at h
          refine ax_Tgo [.iload_n 2] (pc' := 180) (L' := [none, some (.inl (.int x16)), some (.inl (.int x17)), some (.inl (.int x18)), none, none, none, none]) (st' := [.inl (.int x17)]) (S' := S66) ok_X12_queue.1 (by decide +kernel) rfl rfl ?_
          refine ax_Tgoto (off := 4) (tgt := 184) (by decide +kernel) (by decide) ?_
          cases h
          exact ax_Treti (by decide +kernel) rfl rfl
    · rw [if_pos c7] at h
      refine ax_Tgo [.iconst (-1)] (pc' := 23) (L' := [some (.inr (12, 0)), some (.inl (.int a1)), none, none, none, none, none, none]) (st' := [.inl (.int (Int32.ofInt (-1)))]) (S' := S1) ok_X12_queue.1 (by decide +kernel) rfl rfl ?_
      cases h
      exact ax_Treti (by decide +kernel) rfl rfl
def f_X12_rests_L48 (K122 : Int32 → Int32 → Int32 → Int32 → Int32 → Int32 → Int32 → AS → Option (Int32 × AS)) : Nat → Int32 → Int32 → Int32 → Int32 → Int32 → Int32 → Int32 → Int32 → AS → Option (Int32 × AS)
  | 0, _, _, _, _, _, _, _, _, _ => none
  | n + 1, x30, x31, x32, x33, x34, x35, x36, x37, S45 => (if (4 : Int32) ≤ x37 then K122 x30 x31 x32 x33 x34 x35 x36 S45 else (if x36 = (0 : Int32) then ax_let (x37 + (1 : Int32)) (fun (v48 : Int32) => f_X12_rests_L48 K122 n x30 x31 x32 x33 x34 x35 (0 : Int32) v48 S45) else ax_bu (f_X12_gameOf x30 x31 x37 x35 (0 : Int32) S45) (fun (r52 : Int32) (S49 : AS) => ax_bu (f_X12_gameOf x30 x31 x34 x35 (0 : Int32) S49) (fun (r56 : Int32) (S53 : AS) => (if r56 < r52 then ax_let (x37 + (1 : Int32)) (fun (v58 : Int32) => f_X12_rests_L48 K122 n x30 x31 x32 x33 x34 x35 (0 : Int32) v58 S53) else ax_bu (f_X12_gameOf x30 x31 x34 x37 (1 : Int32) S53) (fun (r62 : Int32) (S59 : AS) => ax_bu (f_X12_gameOf x30 x31 x34 x35 (1 : Int32) S59) (fun (r66 : Int32) (S63 : AS) => (if r66 < r62 then ax_let (x37 + (1 : Int32)) (fun (v68 : Int32) => f_X12_rests_L48 K122 n x30 x31 x32 x33 x34 x35 (0 : Int32) v68 S63) else ax_let (x37 + (1 : Int32)) (fun (v69 : Int32) => f_X12_rests_L48 K122 n x30 x31 x32 x33 x34 x35 (1 : Int32) v69 S63)))))))))
def f_X12_rests_L36 (K154 : Int32 → Int32 → Int32 → Int32 → Int32 → AS → Option (Int32 × AS)) : Nat → Int32 → Int32 → Int32 → Int32 → Int32 → Int32 → AS → Option (Int32 × AS)
  | 0, _, _, _, _, _, _, _ => none
  | n + 1, x17, x18, x19, x20, x21, x22, S28 => (if (4 : Int32) ≤ x22 then K154 x17 x18 x19 x20 x21 S28 else f_X12_rests_L48 (fun (x38 : Int32) (x39 : Int32) (x40 : Int32) (x41 : Int32) (x42 : Int32) (x43 : Int32) (x44 : Int32) (S70 : AS) => (if x44 = (0 : Int32) then ax_let (x43 + (1 : Int32)) (fun (v75 : Int32) => f_X12_rests_L36 K154 n x38 x39 x40 x41 x42 v75 S70) else (if x41 = x40 then some ((((10 : Int32) * x42) + x43), S70) else ax_let (x41 + (1 : Int32)) (fun (v73 : Int32) => ax_let (x43 + (1 : Int32)) (fun (v74 : Int32) => f_X12_rests_L36 K154 n x38 x39 x40 v73 x42 v74 S70))))) ax_F x17 x18 x19 x20 x21 x22 (1 : Int32) (0 : Int32) S28)
def f_X12_rests_L27 (K160 : Int32 → Int32 → AS → Option (Int32 × AS)) : Nat → Int32 → Int32 → Int32 → Int32 → Int32 → AS → Option (Int32 × AS)
  | 0, _, _, _, _, _, _ => none
  | n + 1, x8, x9, x10, x11, x12, S15 => (if (4 : Int32) ≤ x12 then K160 x10 x11 S15 else f_X12_rests_L36 (fun (x23 : Int32) (x24 : Int32) (x25 : Int32) (x26 : Int32) (x27 : Int32) (S76 : AS) => ax_let (x27 + (1 : Int32)) (fun (v77 : Int32) => f_X12_rests_L27 K160 n x23 x24 x25 x26 v77 S76)) ax_F x8 x9 x10 x11 x12 (0 : Int32) S15)
def f_X12_rests (a1 : Int32) (a2 : Int32) (a3 : Int32) (S : AS) : Option (Int32 × AS) := ax_let (ax_sfi S 12 0 0 (0 : Int32)) (fun (S1 : AS) => (f_X12_isGame a1 a2 S1).bind (fun (r5 : Int32) => (if r5 = (0 : Int32) then some ((Int32.ofInt (-1)), S1) else (if (Int32.ofInt (-1)) ≤ a3 then f_X12_rests_L27 (fun (x13 : Int32) (x14 : Int32) (S78 : AS) => (if x13 = (Int32.ofInt (-1)) then some (x14, S78) else some ((Int32.ofInt (-1)), S78))) ax_F a1 a2 a3 (0 : Int32) (0 : Int32) S1 else some ((Int32.ofInt (-1)), S1)))))
set_option maxRecDepth 100000 in
theorem t_X12_rests_L48 {l : Launch} {K122 : Int32 → Int32 → Int32 → Int32 → Int32 → Int32 → Int32 → AS → Option (Int32 × AS)} (hK122 : ∀ (x38 : Int32) (x39 : Int32) (x40 : Int32) (x41 : Int32) (x42 : Int32) (x43 : Int32) (x44 : Int32) (S : AS) r Z, K122 x38 x39 x40 x41 x42 x43 x44 S = some (r, Z) → ax_T l 76 ma_X12_rests (122, [some (.inr (12, 0)), some (.inl (.int x38)), some (.inl (.int x39)), some (.inl (.int x40)), some (.inl (.int x41)), some (.inl (.int x42)), some (.inl (.int x43)), some (.inl (.int x44)), none], [], S) (some (.inl (.int r))) Z) : ∀ (n : Nat) (x30 : Int32) (x31 : Int32) (x32 : Int32) (x33 : Int32) (x34 : Int32) (x35 : Int32) (x36 : Int32) (x37 : Int32) (S45 : AS) r Z, f_X12_rests_L48 K122 n x30 x31 x32 x33 x34 x35 x36 x37 S45 = some (r, Z) → ax_T l 76 ma_X12_rests (48, [some (.inr (12, 0)), some (.inl (.int x30)), some (.inl (.int x31)), some (.inl (.int x32)), some (.inl (.int x33)), some (.inl (.int x34)), some (.inl (.int x35)), some (.inl (.int x36)), some (.inl (.int x37))], [], S45) (some (.inl (.int r))) Z := by
  intro n
  induction n with
  | zero =>
    intro x30 x31 x32 x33 x34 x35 x36 x37 S45 r Z h
    cases h
  | succ n ih =>
    intro x30 x31 x32 x33 x34 x35 x36 x37 S45 r Z h
    unfold f_X12_rests_L48 at h
    refine ax_Tgo [.iload 8, .iconst 4] (pc' := 51) (L' := [some (.inr (12, 0)), some (.inl (.int x30)), some (.inl (.int x31)), some (.inl (.int x32)), some (.inl (.int x33)), some (.inl (.int x34)), some (.inl (.int x35)), some (.inl (.int x36)), some (.inl (.int x37))]) (st' := [.inl (.int (4 : Int32)), .inl (.int x37)]) (S' := S45) ok_X12_rests.1 (by decide +kernel) rfl rfl ?_
    refine ax_Tic_ge (off := 71) (tgt := 122) (by decide +kernel) (by decide) (fun c46 => ?_) (fun c46 => ?_)
    · rw [if_pos c46] at h
      refine ax_Tdrop [true, true, true, true, true, true, true, true, false] (L' := [some (.inr (12, 0)), some (.inl (.int x30)), some (.inl (.int x31)), some (.inl (.int x32)), some (.inl (.int x33)), some (.inl (.int x34)), some (.inl (.int x35)), some (.inl (.int x36)), none]) rfl ?_
      exact hK122 x30 x31 x32 x33 x34 x35 x36 S45 _ _ h
    · rw [if_neg c46] at h
      refine ax_Tgo [.iload 7] (pc' := 56) (L' := [some (.inr (12, 0)), some (.inl (.int x30)), some (.inl (.int x31)), some (.inl (.int x32)), some (.inl (.int x33)), some (.inl (.int x34)), some (.inl (.int x35)), some (.inl (.int x36)), some (.inl (.int x37))]) (st' := [.inl (.int x36)]) (S' := S45) ok_X12_rests.1 (by decide +kernel) rfl rfl ?_
      refine ax_Tif_eq (off := 57) (tgt := 113) (by decide +kernel) (by decide) (fun c47 => ?_) (fun c47 => ?_)
      · rw [if_pos c47] at h
        refine ax_Tgo [.iconst 0, .istore 7, .iinc 8 1] (pc' := 119) (L' := [some (.inr (12, 0)), some (.inl (.int x30)), some (.inl (.int x31)), some (.inl (.int x32)), some (.inl (.int x33)), some (.inl (.int x34)), some (.inl (.int x35)), some (.inl (.int (0 : Int32))), some (.inl (.int (x37 + (1 : Int32))))]) (st' := []) (S' := S45) ok_X12_rests.1 (by decide +kernel) rfl rfl ?_
        obtain ⟨v48, ev48, h⟩ := ax_let_e h
        rw [ev48]
        refine ax_Tgoto (off := (-71)) (tgt := 48) (by decide +kernel) (by decide) ?_
        exact ih x30 x31 x32 x33 x34 x35 (0 : Int32) v48 S45 _ _ h
      · rw [if_neg c47] at h
        refine ax_Tgo [.aload_n 0, .iload_n 1, .iload_n 2, .iload 8, .iload 6, .iconst 0] (pc' := 67) (L' := [some (.inr (12, 0)), some (.inl (.int x30)), some (.inl (.int x31)), some (.inl (.int x32)), some (.inl (.int x33)), some (.inl (.int x34)), some (.inl (.int x35)), some (.inl (.int x36)), some (.inl (.int x37))]) (st' := [.inl (.int (0 : Int32)), .inl (.int x35), .inl (.int x37), .inl (.int x31), .inl (.int x30), .inr (12, 0)]) (S' := S45) ok_X12_rests.1 (by decide +kernel) rfl rfl ?_
        obtain ⟨r52, S49, hq50, h⟩ := ax_bu_e h
        refine ax_TVi (d := 75) (ka := 12) (i := 0) [.inl (.int x30), .inl (.int x31), .inl (.int x37), .inl (.int x35), .inl (.int (0 : Int32))] [] lk_X12_447 (by decide +kernel) rfl (by decide) rfl (Nat.le_of_ble_eq_true rfl) (Nat.le_of_ble_eq_true rfl) ((t_X12_gameOf hq50).up (by decide)) ?_
        refine ax_Tgo [.aload_n 0, .iload_n 1, .iload_n 2, .iload 5, .iload 6, .iconst 0] (pc' := 78) (L' := [some (.inr (12, 0)), some (.inl (.int x30)), some (.inl (.int x31)), some (.inl (.int x32)), some (.inl (.int x33)), some (.inl (.int x34)), some (.inl (.int x35)), some (.inl (.int x36)), some (.inl (.int x37))]) (st' := [.inl (.int (0 : Int32)), .inl (.int x35), .inl (.int x34), .inl (.int x31), .inl (.int x30), .inr (12, 0), .inl (.int r52)]) (S' := S49) ok_X12_rests.1 (by decide +kernel) rfl rfl ?_
        obtain ⟨r56, S53, hq54, h⟩ := ax_bu_e h
        refine ax_TVi (d := 75) (ka := 12) (i := 0) [.inl (.int x30), .inl (.int x31), .inl (.int x34), .inl (.int x35), .inl (.int (0 : Int32))] [.inl (.int r52)] lk_X12_447 (by decide +kernel) rfl (by decide) rfl (Nat.le_of_ble_eq_true rfl) (Nat.le_of_ble_eq_true rfl) ((t_X12_gameOf hq54).up (by decide)) ?_
        refine ax_Tic_gt (off := 32) (tgt := 113) (by decide +kernel) (by decide) (fun c57 => ?_) (fun c57 => ?_)
        · rw [if_pos c57] at h
          refine ax_Tgo [.iconst 0, .istore 7, .iinc 8 1] (pc' := 119) (L' := [some (.inr (12, 0)), some (.inl (.int x30)), some (.inl (.int x31)), some (.inl (.int x32)), some (.inl (.int x33)), some (.inl (.int x34)), some (.inl (.int x35)), some (.inl (.int (0 : Int32))), some (.inl (.int (x37 + (1 : Int32))))]) (st' := []) (S' := S53) ok_X12_rests.1 (by decide +kernel) rfl rfl ?_
          obtain ⟨v58, ev58, h⟩ := ax_let_e h
          rw [ev58]
          refine ax_Tgoto (off := (-71)) (tgt := 48) (by decide +kernel) (by decide) ?_
          exact ih x30 x31 x32 x33 x34 x35 (0 : Int32) v58 S53 _ _ h
        · rw [if_neg c57] at h
          refine ax_Tgo [.aload_n 0, .iload_n 1, .iload_n 2, .iload 5, .iload 8, .iconst 1] (pc' := 92) (L' := [some (.inr (12, 0)), some (.inl (.int x30)), some (.inl (.int x31)), some (.inl (.int x32)), some (.inl (.int x33)), some (.inl (.int x34)), some (.inl (.int x35)), some (.inl (.int x36)), some (.inl (.int x37))]) (st' := [.inl (.int (1 : Int32)), .inl (.int x37), .inl (.int x34), .inl (.int x31), .inl (.int x30), .inr (12, 0)]) (S' := S53) ok_X12_rests.1 (by decide +kernel) rfl rfl ?_
          obtain ⟨r62, S59, hq60, h⟩ := ax_bu_e h
          refine ax_TVi (d := 75) (ka := 12) (i := 0) [.inl (.int x30), .inl (.int x31), .inl (.int x34), .inl (.int x37), .inl (.int (1 : Int32))] [] lk_X12_447 (by decide +kernel) rfl (by decide) rfl (Nat.le_of_ble_eq_true rfl) (Nat.le_of_ble_eq_true rfl) ((t_X12_gameOf hq60).up (by decide)) ?_
          refine ax_Tgo [.aload_n 0, .iload_n 1, .iload_n 2, .iload 5, .iload 6, .iconst 1] (pc' := 103) (L' := [some (.inr (12, 0)), some (.inl (.int x30)), some (.inl (.int x31)), some (.inl (.int x32)), some (.inl (.int x33)), some (.inl (.int x34)), some (.inl (.int x35)), some (.inl (.int x36)), some (.inl (.int x37))]) (st' := [.inl (.int (1 : Int32)), .inl (.int x35), .inl (.int x34), .inl (.int x31), .inl (.int x30), .inr (12, 0), .inl (.int r62)]) (S' := S59) ok_X12_rests.1 (by decide +kernel) rfl rfl ?_
          obtain ⟨r66, S63, hq64, h⟩ := ax_bu_e h
          refine ax_TVi (d := 75) (ka := 12) (i := 0) [.inl (.int x30), .inl (.int x31), .inl (.int x34), .inl (.int x35), .inl (.int (1 : Int32))] [.inl (.int r62)] lk_X12_447 (by decide +kernel) rfl (by decide) rfl (Nat.le_of_ble_eq_true rfl) (Nat.le_of_ble_eq_true rfl) ((t_X12_gameOf hq64).up (by decide)) ?_
          refine ax_Tic_gt (off := 7) (tgt := 113) (by decide +kernel) (by decide) (fun c67 => ?_) (fun c67 => ?_)
          · rw [if_pos c67] at h
            refine ax_Tgo [.iconst 0, .istore 7, .iinc 8 1] (pc' := 119) (L' := [some (.inr (12, 0)), some (.inl (.int x30)), some (.inl (.int x31)), some (.inl (.int x32)), some (.inl (.int x33)), some (.inl (.int x34)), some (.inl (.int x35)), some (.inl (.int (0 : Int32))), some (.inl (.int (x37 + (1 : Int32))))]) (st' := []) (S' := S63) ok_X12_rests.1 (by decide +kernel) rfl rfl ?_
            obtain ⟨v68, ev68, h⟩ := ax_let_e h
            rw [ev68]
            refine ax_Tgoto (off := (-71)) (tgt := 48) (by decide +kernel) (by decide) ?_
            exact ih x30 x31 x32 x33 x34 x35 (0 : Int32) v68 S63 _ _ h
          · rw [if_neg c67] at h
            refine ax_Tgo [.iconst 1] (pc' := 110) (L' := [some (.inr (12, 0)), some (.inl (.int x30)), some (.inl (.int x31)), some (.inl (.int x32)), some (.inl (.int x33)), some (.inl (.int x34)), some (.inl (.int x35)), some (.inl (.int x36)), some (.inl (.int x37))]) (st' := [.inl (.int (1 : Int32))]) (S' := S63) ok_X12_rests.1 (by decide +kernel) rfl rfl ?_
            refine ax_Tgoto (off := 4) (tgt := 114) (by decide +kernel) (by decide) ?_
            refine ax_Tgo [.istore 7, .iinc 8 1] (pc' := 119) (L' := [some (.inr (12, 0)), some (.inl (.int x30)), some (.inl (.int x31)), some (.inl (.int x32)), some (.inl (.int x33)), some (.inl (.int x34)), some (.inl (.int x35)), some (.inl (.int (1 : Int32))), some (.inl (.int (x37 + (1 : Int32))))]) (st' := []) (S' := S63) ok_X12_rests.1 (by decide +kernel) rfl rfl ?_
            obtain ⟨v69, ev69, h⟩ := ax_let_e h
            rw [ev69]
            refine ax_Tgoto (off := (-71)) (tgt := 48) (by decide +kernel) (by decide) ?_
            exact ih x30 x31 x32 x33 x34 x35 (1 : Int32) v69 S63 _ _ h
set_option maxRecDepth 100000 in
theorem t_X12_rests_L36 {l : Launch} {K154 : Int32 → Int32 → Int32 → Int32 → Int32 → AS → Option (Int32 × AS)} (hK154 : ∀ (x23 : Int32) (x24 : Int32) (x25 : Int32) (x26 : Int32) (x27 : Int32) (S : AS) r Z, K154 x23 x24 x25 x26 x27 S = some (r, Z) → ax_T l 76 ma_X12_rests (154, [some (.inr (12, 0)), some (.inl (.int x23)), some (.inl (.int x24)), some (.inl (.int x25)), some (.inl (.int x26)), some (.inl (.int x27)), none, none, none], [], S) (some (.inl (.int r))) Z) : ∀ (n : Nat) (x17 : Int32) (x18 : Int32) (x19 : Int32) (x20 : Int32) (x21 : Int32) (x22 : Int32) (S28 : AS) r Z, f_X12_rests_L36 K154 n x17 x18 x19 x20 x21 x22 S28 = some (r, Z) → ax_T l 76 ma_X12_rests (36, [some (.inr (12, 0)), some (.inl (.int x17)), some (.inl (.int x18)), some (.inl (.int x19)), some (.inl (.int x20)), some (.inl (.int x21)), some (.inl (.int x22)), none, none], [], S28) (some (.inl (.int r))) Z := by
  intro n
  induction n with
  | zero =>
    intro x17 x18 x19 x20 x21 x22 S28 r Z h
    cases h
  | succ n ih =>
    intro x17 x18 x19 x20 x21 x22 S28 r Z h
    unfold f_X12_rests_L36 at h
    refine ax_Tgo [.iload 6, .iconst 4] (pc' := 39) (L' := [some (.inr (12, 0)), some (.inl (.int x17)), some (.inl (.int x18)), some (.inl (.int x19)), some (.inl (.int x20)), some (.inl (.int x21)), some (.inl (.int x22)), none, none]) (st' := [.inl (.int (4 : Int32)), .inl (.int x22)]) (S' := S28) ok_X12_rests.1 (by decide +kernel) rfl rfl ?_
    refine ax_Tic_ge (off := 115) (tgt := 154) (by decide +kernel) (by decide) (fun c29 => ?_) (fun c29 => ?_)
    · rw [if_pos c29] at h
      refine ax_Tdrop [true, true, true, true, true, true, false, true, true] (L' := [some (.inr (12, 0)), some (.inl (.int x17)), some (.inl (.int x18)), some (.inl (.int x19)), some (.inl (.int x20)), some (.inl (.int x21)), none, none, none]) rfl ?_
      exact hK154 x17 x18 x19 x20 x21 S28 _ _ h
    · rw [if_neg c29] at h
      refine ax_Tgo [.iconst 1, .istore 7, .iconst 0, .istore 8] (pc' := 48) (L' := [some (.inr (12, 0)), some (.inl (.int x17)), some (.inl (.int x18)), some (.inl (.int x19)), some (.inl (.int x20)), some (.inl (.int x21)), some (.inl (.int x22)), some (.inl (.int (1 : Int32))), some (.inl (.int (0 : Int32)))]) (st' := []) (S' := S28) ok_X12_rests.1 (by decide +kernel) rfl rfl ?_
      refine t_X12_rests_L48 ?_ _ x17 x18 x19 x20 x21 x22 (1 : Int32) (0 : Int32) S28 _ _ h
      · intro x38 x39 x40 x41 x42 x43 x44 S70 r Z h
        refine ax_Tgo [.iload 7] (pc' := 124) (L' := [some (.inr (12, 0)), some (.inl (.int x38)), some (.inl (.int x39)), some (.inl (.int x40)), some (.inl (.int x41)), some (.inl (.int x42)), some (.inl (.int x43)), some (.inl (.int x44)), none]) (st' := [.inl (.int x44)]) (S' := S70) ok_X12_rests.1 (by decide +kernel) rfl rfl ?_
        refine ax_Tif_ne (off := 6) (tgt := 130) (by decide +kernel) (by decide) (fun c71 => ?_) (fun c71 => ?_)
        · rw [if_neg c71] at h
          refine ax_Tgo [.iload 4, .iload_n 3] (pc' := 133) (L' := [some (.inr (12, 0)), some (.inl (.int x38)), some (.inl (.int x39)), some (.inl (.int x40)), some (.inl (.int x41)), some (.inl (.int x42)), some (.inl (.int x43)), some (.inl (.int x44)), none]) (st' := [.inl (.int x40), .inl (.int x41)]) (S' := S70) ok_X12_rests.1 (by decide +kernel) rfl rfl ?_
          refine ax_Tic_ne (off := 12) (tgt := 145) (by decide +kernel) (by decide) (fun c72 => ?_) (fun c72 => ?_)
          · rw [if_neg c72] at h
            refine ax_Tgo [.iinc 4 1] (pc' := 148) (L' := [some (.inr (12, 0)), some (.inl (.int x38)), some (.inl (.int x39)), some (.inl (.int x40)), some (.inl (.int (x41 + (1 : Int32)))), some (.inl (.int x42)), some (.inl (.int x43)), some (.inl (.int x44)), none]) (st' := []) (S' := S70) ok_X12_rests.1 (by decide +kernel) rfl rfl ?_
            obtain ⟨v73, ev73, h⟩ := ax_let_e h
            rw [ev73]
            refine ax_Tgo [.iinc 6 1] (pc' := 151) (L' := [some (.inr (12, 0)), some (.inl (.int x38)), some (.inl (.int x39)), some (.inl (.int x40)), some (.inl (.int v73)), some (.inl (.int x42)), some (.inl (.int (x43 + (1 : Int32)))), some (.inl (.int x44)), none]) (st' := []) (S' := S70) ok_X12_rests.1 (by decide +kernel) rfl rfl ?_
            obtain ⟨v74, ev74, h⟩ := ax_let_e h
            rw [ev74]
            refine ax_Tgoto (off := (-115)) (tgt := 36) (by decide +kernel) (by decide) ?_
            refine ax_Tdrop [true, true, true, true, true, true, true, false, true] (L' := [some (.inr (12, 0)), some (.inl (.int x38)), some (.inl (.int x39)), some (.inl (.int x40)), some (.inl (.int v73)), some (.inl (.int x42)), some (.inl (.int v74)), none, none]) rfl ?_
            exact ih x38 x39 x40 v73 x42 v74 S70 _ _ h
          · rw [if_pos c72] at h
            refine ax_Tgo [.bipush 10, .iload 5, .imul, .iload 6, .iadd] (pc' := 144) (L' := [some (.inr (12, 0)), some (.inl (.int x38)), some (.inl (.int x39)), some (.inl (.int x40)), some (.inl (.int x41)), some (.inl (.int x42)), some (.inl (.int x43)), some (.inl (.int x44)), none]) (st' := [.inl (.int (((10 : Int32) * x42) + x43))]) (S' := S70) ok_X12_rests.1 (by decide +kernel) rfl rfl ?_
            cases h
            exact ax_Treti (by decide +kernel) rfl rfl
        · rw [if_pos c71] at h
          refine ax_Tgoto (off := 21) (tgt := 148) (by decide +kernel) (by decide) ?_
          refine ax_Tgo [.iinc 6 1] (pc' := 151) (L' := [some (.inr (12, 0)), some (.inl (.int x38)), some (.inl (.int x39)), some (.inl (.int x40)), some (.inl (.int x41)), some (.inl (.int x42)), some (.inl (.int (x43 + (1 : Int32)))), some (.inl (.int x44)), none]) (st' := []) (S' := S70) ok_X12_rests.1 (by decide +kernel) rfl rfl ?_
          obtain ⟨v75, ev75, h⟩ := ax_let_e h
          rw [ev75]
          refine ax_Tgoto (off := (-115)) (tgt := 36) (by decide +kernel) (by decide) ?_
          refine ax_Tdrop [true, true, true, true, true, true, true, false, true] (L' := [some (.inr (12, 0)), some (.inl (.int x38)), some (.inl (.int x39)), some (.inl (.int x40)), some (.inl (.int x41)), some (.inl (.int x42)), some (.inl (.int v75)), none, none]) rfl ?_
          exact ih x38 x39 x40 x41 x42 v75 S70 _ _ h
set_option maxRecDepth 100000 in
theorem t_X12_rests_L27 {l : Launch} {K160 : Int32 → Int32 → AS → Option (Int32 × AS)} (hK160 : ∀ (x13 : Int32) (x14 : Int32) (S : AS) r Z, K160 x13 x14 S = some (r, Z) → ax_T l 76 ma_X12_rests (160, [none, none, none, some (.inl (.int x13)), some (.inl (.int x14)), none, none, none, none], [], S) (some (.inl (.int r))) Z) : ∀ (n : Nat) (x8 : Int32) (x9 : Int32) (x10 : Int32) (x11 : Int32) (x12 : Int32) (S15 : AS) r Z, f_X12_rests_L27 K160 n x8 x9 x10 x11 x12 S15 = some (r, Z) → ax_T l 76 ma_X12_rests (27, [some (.inr (12, 0)), some (.inl (.int x8)), some (.inl (.int x9)), some (.inl (.int x10)), some (.inl (.int x11)), some (.inl (.int x12)), none, none, none], [], S15) (some (.inl (.int r))) Z := by
  intro n
  induction n with
  | zero =>
    intro x8 x9 x10 x11 x12 S15 r Z h
    cases h
  | succ n ih =>
    intro x8 x9 x10 x11 x12 S15 r Z h
    unfold f_X12_rests_L27 at h
    refine ax_Tgo [.iload 5, .iconst 4] (pc' := 30) (L' := [some (.inr (12, 0)), some (.inl (.int x8)), some (.inl (.int x9)), some (.inl (.int x10)), some (.inl (.int x11)), some (.inl (.int x12)), none, none, none]) (st' := [.inl (.int (4 : Int32)), .inl (.int x12)]) (S' := S15) ok_X12_rests.1 (by decide +kernel) rfl rfl ?_
    refine ax_Tic_ge (off := 130) (tgt := 160) (by decide +kernel) (by decide) (fun c16 => ?_) (fun c16 => ?_)
    · rw [if_pos c16] at h
      refine ax_Tdrop [false, false, false, true, true, false, true, true, true] (L' := [none, none, none, some (.inl (.int x10)), some (.inl (.int x11)), none, none, none, none]) rfl ?_
      exact hK160 x10 x11 S15 _ _ h
    · rw [if_neg c16] at h
      refine ax_Tgo [.iconst 0, .istore 6] (pc' := 36) (L' := [some (.inr (12, 0)), some (.inl (.int x8)), some (.inl (.int x9)), some (.inl (.int x10)), some (.inl (.int x11)), some (.inl (.int x12)), some (.inl (.int (0 : Int32))), none, none]) (st' := []) (S' := S15) ok_X12_rests.1 (by decide +kernel) rfl rfl ?_
      refine t_X12_rests_L36 ?_ _ x8 x9 x10 x11 x12 (0 : Int32) S15 _ _ h
      · intro x23 x24 x25 x26 x27 S76 r Z h
        refine ax_Tgo [.iinc 5 1] (pc' := 157) (L' := [some (.inr (12, 0)), some (.inl (.int x23)), some (.inl (.int x24)), some (.inl (.int x25)), some (.inl (.int x26)), some (.inl (.int (x27 + (1 : Int32)))), none, none, none]) (st' := []) (S' := S76) ok_X12_rests.1 (by decide +kernel) rfl rfl ?_
        obtain ⟨v77, ev77, h⟩ := ax_let_e h
        rw [ev77]
        refine ax_Tgoto (off := (-130)) (tgt := 27) (by decide +kernel) (by decide) ?_
        exact ih x23 x24 x25 x26 v77 S76 _ _ h
set_option maxRecDepth 100000 in
theorem t_X12_rests {l : Launch} {a1 : Int32} {a2 : Int32} {a3 : Int32} {S Z : AS} {r : Int32} (h : f_X12_rests a1 a2 a3 S = some (r, Z)) : ax_M l 76 ma_X12_rests [.inr (12, 0), .inl (.int a1), .inl (.int a2), .inl (.int a3)] S (some (.inl (.int r))) Z := by
  unfold f_X12_rests at h
  show ax_T l 76 ma_X12_rests (0, [some (.inr (12, 0)), some (.inl (.int a1)), some (.inl (.int a2)), some (.inl (.int a3)), none, none, none, none, none], [], S) (some (.inl (.int r))) Z
  refine ax_Tgo [.aload_n 0, .iconst 0, .putfield 93] (pc' := 5) (L' := [some (.inr (12, 0)), some (.inl (.int a1)), some (.inl (.int a2)), some (.inl (.int a3)), none, none, none, none, none]) (st' := []) (S' := (ax_sfi S 12 0 0 (0 : Int32))) ok_X12_rests.1 (by decide +kernel) rfl rfl ?_
  obtain ⟨S1, eS1, h⟩ := ax_let_e h
  rw [eS1]
  refine ax_Tgo [.aload_n 0, .iload_n 1, .iload_n 2] (pc' := 8) (L' := [some (.inr (12, 0)), some (.inl (.int a1)), some (.inl (.int a2)), some (.inl (.int a3)), none, none, none, none, none]) (st' := [.inl (.int a2), .inl (.int a1), .inr (12, 0)]) (S' := S1) ok_X12_rests.1 (by decide +kernel) rfl rfl ?_
  obtain ⟨r5, hq3, h⟩ := ax_bd_e h
  refine ax_TVi (d := 75) (ka := 12) (i := 0) [.inl (.int a1), .inl (.int a2)] [] lk_X12_442 (by decide +kernel) rfl (by decide) rfl (Nat.le_of_ble_eq_true rfl) (Nat.le_of_ble_eq_true rfl) ((t_X12_isGame hq3).up (by decide)) ?_
  refine ax_Tif_eq (off := 8) (tgt := 19) (by decide +kernel) (by decide) (fun c6 => ?_) (fun c6 => ?_)
  · rw [if_pos c6] at h
    refine ax_Tgo [.iconst (-1)] (pc' := 20) (L' := [some (.inr (12, 0)), some (.inl (.int a1)), some (.inl (.int a2)), some (.inl (.int a3)), none, none, none, none, none]) (st' := [.inl (.int (Int32.ofInt (-1)))]) (S' := S1) ok_X12_rests.1 (by decide +kernel) rfl rfl ?_
    cases h
    exact ax_Treti (by decide +kernel) rfl rfl
  · rw [if_neg c6] at h
    refine ax_Tgo [.iload_n 3, .iconst (-1)] (pc' := 16) (L' := [some (.inr (12, 0)), some (.inl (.int a1)), some (.inl (.int a2)), some (.inl (.int a3)), none, none, none, none, none]) (st' := [.inl (.int (Int32.ofInt (-1))), .inl (.int a3)]) (S' := S1) ok_X12_rests.1 (by decide +kernel) rfl rfl ?_
    refine ax_Tic_ge (off := 5) (tgt := 21) (by decide +kernel) (by decide) (fun c7 => ?_) (fun c7 => ?_)
    · rw [if_pos c7] at h
      refine ax_Tgo [.iconst 0, .istore 4, .iconst 0, .istore 5] (pc' := 27) (L' := [some (.inr (12, 0)), some (.inl (.int a1)), some (.inl (.int a2)), some (.inl (.int a3)), some (.inl (.int (0 : Int32))), some (.inl (.int (0 : Int32))), none, none, none]) (st' := []) (S' := S1) ok_X12_rests.1 (by decide +kernel) rfl rfl ?_
      refine t_X12_rests_L27 ?_ _ a1 a2 a3 (0 : Int32) (0 : Int32) S1 _ _ h
      · intro x13 x14 S78 r Z h
        refine ax_Tgo [.iload_n 3, .iconst (-1)] (pc' := 162) (L' := [none, none, none, some (.inl (.int x13)), some (.inl (.int x14)), none, none, none, none]) (st' := [.inl (.int (Int32.ofInt (-1))), .inl (.int x13)]) (S' := S78) ok_X12_rests.1 (by decide +kernel) rfl rfl ?_
        refine ax_Tic_ne (off := 8) (tgt := 170) (by decide +kernel) (by decide) (fun c79 => ?_) (fun c79 => ?_)
        · rw [if_neg c79] at h
          refine ax_Tgo [.iconst (-1)] (pc' := 171) (L' := [none, none, none, some (.inl (.int x13)), some (.inl (.int x14)), none, none, none, none]) (st' := [.inl (.int (Int32.ofInt (-1)))]) (S' := S78) ok_X12_rests.1 (by decide +kernel) rfl rfl ?_
          cases h
          exact ax_Treti (by decide +kernel) rfl rfl
        · rw [if_pos c79] at h
          refine ax_Tgo [.iload 4] (pc' := 167) (L' := [none, none, none, some (.inl (.int x13)), some (.inl (.int x14)), none, none, none, none]) (st' := [.inl (.int x14)]) (S' := S78) ok_X12_rests.1 (by decide +kernel) rfl rfl ?_
          refine ax_Tgoto (off := 4) (tgt := 171) (by decide +kernel) (by decide) ?_
          cases h
          exact ax_Treti (by decide +kernel) rfl rfl
    · rw [if_neg c7] at h
      refine ax_Tgo [.iconst (-1)] (pc' := 20) (L' := [some (.inr (12, 0)), some (.inl (.int a1)), some (.inl (.int a2)), some (.inl (.int a3)), none, none, none, none, none]) (st' := [.inl (.int (Int32.ofInt (-1)))]) (S' := S1) ok_X12_rests.1 (by decide +kernel) rfl rfl ?_
      cases h
      exact ax_Treti (by decide +kernel) rfl rfl
def f_X12_rule (a1 : Int32) (S : AS) : Option (Int32 × AS) := ax_let (ax_sfi S 12 0 0 (0 : Int32)) (fun (S1 : AS) => (if (ax_fi S1 12 0 27) = (0 : Int32) then some ((Int32.ofInt (-1)), S1) else (f_X12_isIn (a1.toInt64) (0 : Int64) (2 : Int64) S1).bind (fun (r6 : Int32) => (if r6 = (0 : Int32) then some ((Int32.ofInt (-1)), S1) else (if a1 = (2 : Int32) then ax_gd (ax_in (21 : Int32) 204) (some ((ax_ai S1 55 0 (21 : Int32).toNatClampNeg), S1)) else ax_gd (ax_in a1 3) (some ((ax_ai S1 47 0 a1.toNatClampNeg), S1)))))))
set_option maxRecDepth 100000 in
theorem t_X12_rule {l : Launch} {a1 : Int32} {S Z : AS} {r : Int32} (h : f_X12_rule a1 S = some (r, Z)) : ax_M l 1 ma_X12_rule [.inr (12, 0), .inl (.int a1)] S (some (.inl (.int r))) Z := by
  unfold f_X12_rule at h
  show ax_T l 1 ma_X12_rule (0, [some (.inr (12, 0)), some (.inl (.int a1))], [], S) (some (.inl (.int r))) Z
  refine ax_Tgo [.aload_n 0, .iconst 0, .putfield 93] (pc' := 5) (L' := [some (.inr (12, 0)), some (.inl (.int a1))]) (st' := []) (S' := (ax_sfi S 12 0 0 (0 : Int32))) ok_X12_rule.1 (by decide +kernel) rfl rfl ?_
  obtain ⟨S1, eS1, h⟩ := ax_let_e h
  rw [eS1]
  refine ax_Tgo [.aload_n 0, .getfield 291] (pc' := 9) (L' := [some (.inr (12, 0)), some (.inl (.int a1))]) (st' := [.inl (.int (ax_fi S1 12 0 27))]) (S' := S1) ok_X12_rule.1 (by decide +kernel) rfl rfl ?_
  refine ax_Tif_eq (off := 15) (tgt := 24) (by decide +kernel) (by decide) (fun c2 => ?_) (fun c2 => ?_)
  · rw [if_pos c2] at h
    refine ax_Tgo [.iconst (-1)] (pc' := 25) (L' := [some (.inr (12, 0)), some (.inl (.int a1))]) (st' := [.inl (.int (Int32.ofInt (-1)))]) (S' := S1) ok_X12_rule.1 (by decide +kernel) rfl rfl ?_
    cases h
    exact ax_Treti (by decide +kernel) rfl rfl
  · rw [if_neg c2] at h
    refine ax_Tgo [.iload_n 1, .i2l, .lconst 0, .ldc2_w 269] (pc' := 18) (L' := [some (.inr (12, 0)), some (.inl (.int a1))]) (st' := [.inl (.long (2 : Int64)), .inl (.long (0 : Int64)), .inl (.long a1.toInt64)]) (S' := S1) ok_X12_rule.1 (by decide +kernel) rfl rfl ?_
    obtain ⟨r6, hq4, h⟩ := ax_bd_e h
    refine ax_TSi (d := 0) [.inl (.long a1.toInt64), .inl (.long (0 : Int64)), .inl (.long (2 : Int64))] [] lk_X12_214 (by decide +kernel) rfl rfl (Nat.le_of_ble_eq_true rfl) (Nat.le_of_ble_eq_true rfl) ((t_X12_isIn hq4).up (by decide)) ?_
    refine ax_Tif_ne (off := 5) (tgt := 26) (by decide +kernel) (by decide) (fun c7 => ?_) (fun c7 => ?_)
    · rw [if_neg c7] at h
      refine ax_Tgo [.iload_n 1, .iconst 2] (pc' := 28) (L' := [some (.inr (12, 0)), some (.inl (.int a1))]) (st' := [.inl (.int (2 : Int32)), .inl (.int a1)]) (S' := S1) ok_X12_rule.1 (by decide +kernel) rfl rfl ?_
      refine ax_Tic_ne (off := 13) (tgt := 41) (by decide +kernel) (by decide) (fun c8 => ?_) (fun c8 => ?_)
      · rw [if_neg c8] at h
        refine ax_Tgo [.aload_n 0, .getfield 37, .iload_n 1] (pc' := 46) (L' := [some (.inr (12, 0)), some (.inl (.int a1))]) (st' := [.inl (.int a1), .inr (47, 0)]) (S' := S1) ok_X12_rule.1 (by decide +kernel) rfl rfl ?_
        obtain ⟨g9, h⟩ := ax_gd_e h
        refine ax_Tali (n := 3) ok_X12_rule.1 (by decide +kernel) (by decide) rfl g9 ?_
        cases h
        exact ax_Treti (by decide +kernel) rfl rfl
      · rw [if_pos c8] at h
        refine ax_Tgo [.aload_n 0, .getfield 61, .bipush 21] (pc' := 37) (L' := [some (.inr (12, 0)), some (.inl (.int a1))]) (st' := [.inl (.int (21 : Int32)), .inr (55, 0)]) (S' := S1) ok_X12_rule.1 (by decide +kernel) rfl rfl ?_
        obtain ⟨g10, h⟩ := ax_gd_e h
        refine ax_Tali (n := 204) ok_X12_rule.1 (by decide +kernel) (by decide) rfl g10 ?_
        refine ax_Tgoto (off := 9) (tgt := 47) (by decide +kernel) (by decide) ?_
        cases h
        exact ax_Treti (by decide +kernel) rfl rfl
    · rw [if_pos c7] at h
      refine ax_Tgo [.iconst (-1)] (pc' := 25) (L' := [some (.inr (12, 0)), some (.inl (.int a1))]) (st' := [.inl (.int (Int32.ofInt (-1)))]) (S' := S1) ok_X12_rule.1 (by decide +kernel) rfl rfl ?_
      cases h
      exact ax_Treti (by decide +kernel) rfl rfl
def f_X12_canTitle_56x0 (a2 : Int32) (S : AS) : Option (Int32) := (f_X12_isCaller a2 S).bind (fun (r4 : Int32) => (if r4 = (0 : Int32) then some (0 : Int32) else ax_gd (ax_in (((2 : Int32) * a2) + (0 : Int32)) 204) ((if (3 : Int32) ≤ (ax_ai S 56 0 (((2 : Int32) * a2) + (0 : Int32)).toNatClampNeg) then some (0 : Int32) else ax_gd (ax_in (21 : Int32) 204) ((if (ax_ai S 56 0 (21 : Int32).toNatClampNeg) < (2 : Int32) then some (0 : Int32) else some (1 : Int32)))))))
set_option maxRecDepth 100000 in
theorem t_X12_canTitle_56x0 {l : Launch} {a2 : Int32} {S : AS} {r : Int32} (h : f_X12_canTitle_56x0 a2 S = some r) : ax_M l 1 ma_X12_canTitle [.inr (12, 0), .inr (56, 0), .inl (.int a2)] S (some (.inl (.int r))) S := by
  unfold f_X12_canTitle_56x0 at h
  show ax_T l 1 ma_X12_canTitle (0, [some (.inr (12, 0)), some (.inr (56, 0)), some (.inl (.int a2))], [], S) (some (.inl (.int r))) S
  refine ax_Tgo [.aload_n 0, .iload_n 2] (pc' := 2) (L' := [some (.inr (12, 0)), some (.inr (56, 0)), some (.inl (.int a2))]) (st' := [.inl (.int a2), .inr (12, 0)]) (S' := S) ok_X12_canTitle.1 (by decide +kernel) rfl rfl ?_
  obtain ⟨r4, hq2, h⟩ := ax_bd_e h
  refine ax_TVi (d := 0) (ka := 12) (i := 0) [.inl (.int a2)] [] lk_X12_324 (by decide +kernel) rfl (by decide) rfl (Nat.le_of_ble_eq_true rfl) (Nat.le_of_ble_eq_true rfl) ((t_X12_isCaller hq2).up (by decide)) ?_
  refine ax_Tif_eq (off := 26) (tgt := 31) (by decide +kernel) (by decide) (fun c5 => ?_) (fun c5 => ?_)
  · rw [if_pos c5] at h
    refine ax_Tgo [.iconst 0] (pc' := 32) (L' := [some (.inr (12, 0)), some (.inr (56, 0)), some (.inl (.int a2))]) (st' := [.inl (.int (0 : Int32))]) (S' := S) ok_X12_canTitle.1 (by decide +kernel) rfl rfl ?_
    cases h
    exact ax_Treti (by decide +kernel) rfl rfl
  · rw [if_neg c5] at h
    refine ax_Tgo [.aload_n 1, .iconst 2, .iload_n 2, .imul, .iconst 0, .iadd] (pc' := 14) (L' := [some (.inr (12, 0)), some (.inr (56, 0)), some (.inl (.int a2))]) (st' := [.inl (.int (((2 : Int32) * a2) + (0 : Int32))), .inr (56, 0)]) (S' := S) ok_X12_canTitle.1 (by decide +kernel) rfl rfl ?_
    obtain ⟨g6, h⟩ := ax_gd_e h
    refine ax_Tali (n := 204) ok_X12_canTitle.1 (by decide +kernel) (by decide) rfl g6 ?_
    refine ax_Tgo [.iconst 3] (pc' := 16) (L' := [some (.inr (12, 0)), some (.inr (56, 0)), some (.inl (.int a2))]) (st' := [.inl (.int (3 : Int32)), .inl (.int (ax_ai S 56 0 (((2 : Int32) * a2) + (0 : Int32)).toNatClampNeg))]) (S' := S) ok_X12_canTitle.1 (by decide +kernel) rfl rfl ?_
    refine ax_Tic_ge (off := 15) (tgt := 31) (by decide +kernel) (by decide) (fun c7 => ?_) (fun c7 => ?_)
    · rw [if_pos c7] at h
      refine ax_Tgo [.iconst 0] (pc' := 32) (L' := [some (.inr (12, 0)), some (.inr (56, 0)), some (.inl (.int a2))]) (st' := [.inl (.int (0 : Int32))]) (S' := S) ok_X12_canTitle.1 (by decide +kernel) rfl rfl ?_
      cases h
      exact ax_Treti (by decide +kernel) rfl rfl
    · rw [if_neg c7] at h
      refine ax_Tgo [.aload_n 1, .bipush 21] (pc' := 22) (L' := [some (.inr (12, 0)), some (.inr (56, 0)), some (.inl (.int a2))]) (st' := [.inl (.int (21 : Int32)), .inr (56, 0)]) (S' := S) ok_X12_canTitle.1 (by decide +kernel) rfl rfl ?_
      obtain ⟨g8, h⟩ := ax_gd_e h
      refine ax_Tali (n := 204) ok_X12_canTitle.1 (by decide +kernel) (by decide) rfl g8 ?_
      refine ax_Tgo [.iconst 2] (pc' := 24) (L' := [some (.inr (12, 0)), some (.inr (56, 0)), some (.inl (.int a2))]) (st' := [.inl (.int (2 : Int32)), .inl (.int (ax_ai S 56 0 (21 : Int32).toNatClampNeg))]) (S' := S) ok_X12_canTitle.1 (by decide +kernel) rfl rfl ?_
      refine ax_Tic_lt (off := 7) (tgt := 31) (by decide +kernel) (by decide) (fun c9 => ?_) (fun c9 => ?_)
      · rw [if_pos c9] at h
        refine ax_Tgo [.iconst 0] (pc' := 32) (L' := [some (.inr (12, 0)), some (.inr (56, 0)), some (.inl (.int a2))]) (st' := [.inl (.int (0 : Int32))]) (S' := S) ok_X12_canTitle.1 (by decide +kernel) rfl rfl ?_
        cases h
        exact ax_Treti (by decide +kernel) rfl rfl
      · rw [if_neg c9] at h
        refine ax_Tgo [.iconst 1] (pc' := 28) (L' := [some (.inr (12, 0)), some (.inr (56, 0)), some (.inl (.int a2))]) (st' := [.inl (.int (1 : Int32))]) (S' := S) ok_X12_canTitle.1 (by decide +kernel) rfl rfl ?_
        refine ax_Tgoto (off := 4) (tgt := 32) (by decide +kernel) (by decide) ?_
        cases h
        exact ax_Treti (by decide +kernel) rfl rfl
def f_X12_canHold_56x0 (a2 : Int32) (S : AS) : Option (Int32) := (f_X12_isIn (a2.toInt64) (1 : Int64) (20 : Int64) S).bind (fun (r4 : Int32) => (if r4 = (0 : Int32) then some (0 : Int32) else ax_gd (ax_in (16 : Int32) 204) (ax_gd (ax_in (0 : Int32) 3) ((if (ax_ai S 47 0 (0 : Int32).toNatClampNeg) < ((ax_ai S 56 0 (16 : Int32).toNatClampNeg) + a2) then some (0 : Int32) else some (1 : Int32))))))
set_option maxRecDepth 100000 in
theorem t_X12_canHold_56x0 {l : Launch} {a2 : Int32} {S : AS} {r : Int32} (h : f_X12_canHold_56x0 a2 S = some r) : ax_M l 1 ma_X12_canHold [.inr (12, 0), .inr (56, 0), .inl (.int a2)] S (some (.inl (.int r))) S := by
  unfold f_X12_canHold_56x0 at h
  show ax_T l 1 ma_X12_canHold (0, [some (.inr (12, 0)), some (.inr (56, 0)), some (.inl (.int a2))], [], S) (some (.inl (.int r))) S
  refine ax_Tgo [.iload_n 2, .i2l, .lconst 1, .ldc2_w 305] (pc' := 6) (L' := [some (.inr (12, 0)), some (.inr (56, 0)), some (.inl (.int a2))]) (st' := [.inl (.long (20 : Int64)), .inl (.long (1 : Int64)), .inl (.long a2.toInt64)]) (S' := S) ok_X12_canHold.1 (by decide +kernel) rfl rfl ?_
  obtain ⟨r4, hq2, h⟩ := ax_bd_e h
  refine ax_TSi (d := 0) [.inl (.long a2.toInt64), .inl (.long (1 : Int64)), .inl (.long (20 : Int64))] [] lk_X12_214 (by decide +kernel) rfl rfl (Nat.le_of_ble_eq_true rfl) (Nat.le_of_ble_eq_true rfl) ((t_X12_isIn hq2).up (by decide)) ?_
  refine ax_Tif_eq (off := 22) (tgt := 31) (by decide +kernel) (by decide) (fun c5 => ?_) (fun c5 => ?_)
  · rw [if_pos c5] at h
    refine ax_Tgo [.iconst 0] (pc' := 32) (L' := [some (.inr (12, 0)), some (.inr (56, 0)), some (.inl (.int a2))]) (st' := [.inl (.int (0 : Int32))]) (S' := S) ok_X12_canHold.1 (by decide +kernel) rfl rfl ?_
    cases h
    exact ax_Treti (by decide +kernel) rfl rfl
  · rw [if_neg c5] at h
    refine ax_Tgo [.aload_n 1, .bipush 16] (pc' := 15) (L' := [some (.inr (12, 0)), some (.inr (56, 0)), some (.inl (.int a2))]) (st' := [.inl (.int (16 : Int32)), .inr (56, 0)]) (S' := S) ok_X12_canHold.1 (by decide +kernel) rfl rfl ?_
    obtain ⟨g6, h⟩ := ax_gd_e h
    refine ax_Tali (n := 204) ok_X12_canHold.1 (by decide +kernel) (by decide) rfl g6 ?_
    refine ax_Tgo [.iload_n 2, .iadd, .aload_n 0, .getfield 37, .iconst 0] (pc' := 23) (L' := [some (.inr (12, 0)), some (.inr (56, 0)), some (.inl (.int a2))]) (st' := [.inl (.int (0 : Int32)), .inr (47, 0), .inl (.int ((ax_ai S 56 0 (16 : Int32).toNatClampNeg) + a2))]) (S' := S) ok_X12_canHold.1 (by decide +kernel) rfl rfl ?_
    obtain ⟨g7, h⟩ := ax_gd_e h
    refine ax_Tali (n := 3) ok_X12_canHold.1 (by decide +kernel) (by decide) rfl g7 ?_
    refine ax_Tic_gt (off := 7) (tgt := 31) (by decide +kernel) (by decide) (fun c8 => ?_) (fun c8 => ?_)
    · rw [if_pos c8] at h
      refine ax_Tgo [.iconst 0] (pc' := 32) (L' := [some (.inr (12, 0)), some (.inr (56, 0)), some (.inl (.int a2))]) (st' := [.inl (.int (0 : Int32))]) (S' := S) ok_X12_canHold.1 (by decide +kernel) rfl rfl ?_
      cases h
      exact ax_Treti (by decide +kernel) rfl rfl
    · rw [if_neg c8] at h
      refine ax_Tgo [.iconst 1] (pc' := 28) (L' := [some (.inr (12, 0)), some (.inr (56, 0)), some (.inl (.int a2))]) (st' := [.inl (.int (1 : Int32))]) (S' := S) ok_X12_canHold.1 (by decide +kernel) rfl rfl ?_
      refine ax_Tgoto (off := 4) (tgt := 32) (by decide +kernel) (by decide) ?_
      cases h
      exact ax_Treti (by decide +kernel) rfl rfl
def f_X12_canStep_56x0 (a2 : Int32) (S : AS) : Option (Int32 × AS) := ax_gd (ax_in (a2 + (1 : Int32)) 160) (ax_let (ax_ai S 53 0 (a2 + (1 : Int32)).toNatClampNeg) (fun (v2 : Int32) => ax_gd (ax_in a2 160) (ax_let (ax_ai S 53 0 a2.toNatClampNeg) (fun (v4 : Int32) => (if v4 = (0 : Int32) then ax_bu (f_X12_canCall_56x0 v2 S) (fun (r9 : Int32) (S6 : AS) => ax_gd (ax_bo r9) (some (r9, S6))) else if v4 = (1 : Int32) then (f_X12_canTitle_56x0 v2 S).bind (fun (r15 : Int32) => ax_gd (ax_bo r15) (some (r15, S))) else if v4 = (2 : Int32) then some ((1 : Int32), S) else if v4 = (3 : Int32) then (f_X12_canHold_56x0 v2 S).bind (fun (r22 : Int32) => ax_gd (ax_bo r22) (some (r22, S))) else ax_gd (ax_in (22 : Int32) 204) ((if (999 : Int32) ≤ (ax_ai S 56 0 (22 : Int32).toNatClampNeg) then some ((0 : Int32), S) else some ((1 : Int32), S))))))))
set_option maxRecDepth 100000 in
theorem t_X12_canStep_56x0 {l : Launch} {a2 : Int32} {S Z : AS} {r : Int32} (h : f_X12_canStep_56x0 a2 S = some (r, Z)) : ax_M l 76 ma_X12_canStep [.inr (12, 0), .inr (56, 0), .inl (.int a2)] S (some (.inl (.int r))) Z := by
  unfold f_X12_canStep_56x0 at h
  show ax_T l 76 ma_X12_canStep (0, [some (.inr (12, 0)), some (.inr (56, 0)), some (.inl (.int a2)), none], [], S) (some (.inl (.int r))) Z
  refine ax_Tgo [.aload_n 0, .getfield 55, .iload_n 2, .iconst 1, .iadd] (pc' := 7) (L' := [some (.inr (12, 0)), some (.inr (56, 0)), some (.inl (.int a2)), none]) (st' := [.inl (.int (a2 + (1 : Int32))), .inr (53, 0)]) (S' := S) ok_X12_canStep.1 (by decide +kernel) rfl rfl ?_
  obtain ⟨g1, h⟩ := ax_gd_e h
  refine ax_Tali (n := 160) ok_X12_canStep.1 (by decide +kernel) (by decide) rfl g1 ?_
  refine ax_Tgo [.istore_n 3] (pc' := 9) (L' := [some (.inr (12, 0)), some (.inr (56, 0)), some (.inl (.int a2)), some (.inl (.int (ax_ai S 53 0 (a2 + (1 : Int32)).toNatClampNeg)))]) (st' := []) (S' := S) ok_X12_canStep.1 (by decide +kernel) rfl rfl ?_
  obtain ⟨v2, ev2, h⟩ := ax_let_e h
  rw [ev2]
  refine ax_Tgo [.aload_n 0, .getfield 55, .iload_n 2] (pc' := 14) (L' := [some (.inr (12, 0)), some (.inr (56, 0)), some (.inl (.int a2)), some (.inl (.int v2))]) (st' := [.inl (.int a2), .inr (53, 0)]) (S' := S) ok_X12_canStep.1 (by decide +kernel) rfl rfl ?_
  obtain ⟨g3, h⟩ := ax_gd_e h
  refine ax_Tali (n := 160) ok_X12_canStep.1 (by decide +kernel) (by decide) rfl g3 ?_
  obtain ⟨v4, ev4, h⟩ := ax_let_e h
  rw [ev4]
  by_cases c5 : v4 = (0 : Int32)
  · rw [if_pos c5] at h
    refine ax_TtIn (dflt := 52) (lo := 0) (hi := 3) (offs := #[29, 36, 43, 45]) (len := 29) (off := 29) (tgt := 44) (by decide +kernel) (by rw [c5]; decide) (by rw [c5]; decide) (by rw [c5]; rfl) (by decide) ?_
    refine ax_Tgo [.aload_n 0, .aload_n 1, .iload_n 3] (pc' := 47) (L' := [some (.inr (12, 0)), some (.inr (56, 0)), some (.inl (.int a2)), some (.inl (.int v2))]) (st' := [.inl (.int v2), .inr (56, 0), .inr (12, 0)]) (S' := S) ok_X12_canStep.1 (by decide +kernel) rfl rfl ?_
    obtain ⟨r9, S6, hq7, h⟩ := ax_bu_e h
    refine ax_TVi (d := 75) (ka := 12) (i := 0) [.inr (56, 0), .inl (.int v2)] [] lk_X12_348 (by decide +kernel) rfl (by decide) rfl (Nat.le_of_ble_eq_true rfl) (Nat.le_of_ble_eq_true rfl) ((t_X12_canCall_56x0 hq7).up (by decide)) ?_
    obtain ⟨g10, h⟩ := ax_gd_e h
    cases h
    exact ax_Tretz (by decide +kernel) rfl g10
  · rw [if_neg c5] at h
    by_cases c11 : v4 = (1 : Int32)
    · rw [if_pos c11] at h
      refine ax_TtIn (dflt := 52) (lo := 0) (hi := 3) (offs := #[29, 36, 43, 45]) (len := 29) (off := 36) (tgt := 51) (by decide +kernel) (by rw [c11]; decide) (by rw [c11]; decide) (by rw [c11]; rfl) (by decide) ?_
      refine ax_Tgo [.aload_n 0, .aload_n 1, .iload_n 3] (pc' := 54) (L' := [some (.inr (12, 0)), some (.inr (56, 0)), some (.inl (.int a2)), some (.inl (.int v2))]) (st' := [.inl (.int v2), .inr (56, 0), .inr (12, 0)]) (S' := S) ok_X12_canStep.1 (by decide +kernel) rfl rfl ?_
      obtain ⟨r15, hq13, h⟩ := ax_bd_e h
      refine ax_TVi (d := 75) (ka := 12) (i := 0) [.inr (56, 0), .inl (.int v2)] [] lk_X12_358 (by decide +kernel) rfl (by decide) rfl (Nat.le_of_ble_eq_true rfl) (Nat.le_of_ble_eq_true rfl) ((t_X12_canTitle_56x0 hq13).up (by decide)) ?_
      obtain ⟨g16, h⟩ := ax_gd_e h
      cases h
      exact ax_Tretz (by decide +kernel) rfl g16
    · rw [if_neg c11] at h
      by_cases c17 : v4 = (2 : Int32)
      · rw [if_pos c17] at h
        refine ax_TtIn (dflt := 52) (lo := 0) (hi := 3) (offs := #[29, 36, 43, 45]) (len := 29) (off := 43) (tgt := 58) (by decide +kernel) (by rw [c17]; decide) (by rw [c17]; decide) (by rw [c17]; rfl) (by decide) ?_
        refine ax_Tgo [.iconst 1] (pc' := 59) (L' := [some (.inr (12, 0)), some (.inr (56, 0)), some (.inl (.int a2)), some (.inl (.int v2))]) (st' := [.inl (.int (1 : Int32))]) (S' := S) ok_X12_canStep.1 (by decide +kernel) rfl rfl ?_
        cases h
        exact ax_Treti (by decide +kernel) rfl rfl
      · rw [if_neg c17] at h
        by_cases c18 : v4 = (3 : Int32)
        · rw [if_pos c18] at h
          refine ax_TtIn (dflt := 52) (lo := 0) (hi := 3) (offs := #[29, 36, 43, 45]) (len := 29) (off := 45) (tgt := 60) (by decide +kernel) (by rw [c18]; decide) (by rw [c18]; decide) (by rw [c18]; rfl) (by decide) ?_
          refine ax_Tgo [.aload_n 0, .aload_n 1, .iload_n 3] (pc' := 63) (L' := [some (.inr (12, 0)), some (.inr (56, 0)), some (.inl (.int a2)), some (.inl (.int v2))]) (st' := [.inl (.int v2), .inr (56, 0), .inr (12, 0)]) (S' := S) ok_X12_canStep.1 (by decide +kernel) rfl rfl ?_
          obtain ⟨r22, hq20, h⟩ := ax_bd_e h
          refine ax_TVi (d := 75) (ka := 12) (i := 0) [.inr (56, 0), .inl (.int v2)] [] lk_X12_365 (by decide +kernel) rfl (by decide) rfl (Nat.le_of_ble_eq_true rfl) (Nat.le_of_ble_eq_true rfl) ((t_X12_canHold_56x0 hq20).up (by decide)) ?_
          obtain ⟨g23, h⟩ := ax_gd_e h
          cases h
          exact ax_Tretz (by decide +kernel) rfl g23
        · rw [if_neg c18] at h
          refine ax_TtOut (dflt := 52) (lo := 0) (hi := 3) (offs := #[29, 36, 43, 45]) (len := 29) (tgt := 67) (by decide +kernel) (by have zc5 := lv_neT (a := 0) c5 rfl; have zc11 := lv_neT (a := 1) c11 rfl; have zc17 := lv_neT (a := 2) c17 rfl; have zc18 := lv_neT (a := 3) c18 rfl; omega) (by decide) ?_
          refine ax_Tgo [.aload_n 1, .bipush 22] (pc' := 70) (L' := [some (.inr (12, 0)), some (.inr (56, 0)), some (.inl (.int a2)), some (.inl (.int v2))]) (st' := [.inl (.int (22 : Int32)), .inr (56, 0)]) (S' := S) ok_X12_canStep.1 (by decide +kernel) rfl rfl ?_
          obtain ⟨g24, h⟩ := ax_gd_e h
          refine ax_Tali (n := 204) ok_X12_canStep.1 (by decide +kernel) (by decide) rfl g24 ?_
          refine ax_Tgo [.sipush 999] (pc' := 74) (L' := [some (.inr (12, 0)), some (.inr (56, 0)), some (.inl (.int a2)), some (.inl (.int v2))]) (st' := [.inl (.int (999 : Int32)), .inl (.int (ax_ai S 56 0 (22 : Int32).toNatClampNeg))]) (S' := S) ok_X12_canStep.1 (by decide +kernel) rfl rfl ?_
          refine ax_Tic_ge (off := 7) (tgt := 81) (by decide +kernel) (by decide) (fun c25 => ?_) (fun c25 => ?_)
          · rw [if_pos c25] at h
            refine ax_Tgo [.iconst 0] (pc' := 82) (L' := [some (.inr (12, 0)), some (.inr (56, 0)), some (.inl (.int a2)), some (.inl (.int v2))]) (st' := [.inl (.int (0 : Int32))]) (S' := S) ok_X12_canStep.1 (by decide +kernel) rfl rfl ?_
            cases h
            exact ax_Treti (by decide +kernel) rfl rfl
          · rw [if_neg c25] at h
            refine ax_Tgo [.iconst 1] (pc' := 78) (L' := [some (.inr (12, 0)), some (.inr (56, 0)), some (.inl (.int a2)), some (.inl (.int v2))]) (st' := [.inl (.int (1 : Int32))]) (S' := S) ok_X12_canStep.1 (by decide +kernel) rfl rfl ?_
            refine ax_Tgoto (off := 4) (tgt := 82) (by decide +kernel) (by decide) ?_
            cases h
            exact ax_Treti (by decide +kernel) rfl rfl
def f_X12_titles_56x0 (a1 : Int32) (S : AS) : Option (AS) := ax_gd (ax_in (((2 : Int32) * a1) + (0 : Int32)) 204) (ax_gd (ax_in (((2 : Int32) * a1) + (0 : Int32)) 204) (ax_let (ax_sai S 56 0 (((2 : Int32) * a1) + (0 : Int32)).toNatClampNeg ((ax_ai S 56 0 (((2 : Int32) * a1) + (0 : Int32)).toNatClampNeg) + (1 : Int32))) (fun (S3 : AS) => ax_gd (ax_in (21 : Int32) 204) (ax_gd (ax_in (21 : Int32) 204) (ax_let (ax_sai S3 56 0 (21 : Int32).toNatClampNeg ((ax_ai S3 56 0 (21 : Int32).toNatClampNeg) - (2 : Int32))) (fun (S6 : AS) => some S6))))))
set_option maxRecDepth 100000 in
theorem t_X12_titles_56x0 {l : Launch} {a1 : Int32} {S Z : AS} (h : f_X12_titles_56x0 a1 S = some Z) : ax_M l 0 ma_X12_titles [.inr (56, 0), .inl (.int a1)] S none Z := by
  unfold f_X12_titles_56x0 at h
  show ax_T l 0 ma_X12_titles (0, [some (.inr (56, 0)), some (.inl (.int a1))], [], S) none Z
  refine ax_Tgo [.aload_n 0, .iconst 2, .iload_n 1, .imul, .iconst 0, .iadd, .dup2] (pc' := 7) (L' := [some (.inr (56, 0)), some (.inl (.int a1))]) (st' := [.inl (.int (((2 : Int32) * a1) + (0 : Int32))), .inr (56, 0), .inl (.int (((2 : Int32) * a1) + (0 : Int32))), .inr (56, 0)]) (S' := S) ok_X12_titles.1 (by decide +kernel) rfl rfl ?_
  obtain ⟨g1, h⟩ := ax_gd_e h
  refine ax_Tali (n := 204) ok_X12_titles.1 (by decide +kernel) (by decide) rfl g1 ?_
  refine ax_Tgo [.iconst 1, .iadd] (pc' := 10) (L' := [some (.inr (56, 0)), some (.inl (.int a1))]) (st' := [.inl (.int ((ax_ai S 56 0 (((2 : Int32) * a1) + (0 : Int32)).toNatClampNeg) + (1 : Int32))), .inl (.int (((2 : Int32) * a1) + (0 : Int32))), .inr (56, 0)]) (S' := S) ok_X12_titles.1 (by decide +kernel) rfl rfl ?_
  obtain ⟨g2, h⟩ := ax_gd_e h
  refine ax_Tasi (n := 204) ok_X12_titles.1 (by decide +kernel) (by decide) rfl g2 ?_
  obtain ⟨S3, eS3, h⟩ := ax_let_e h
  rw [eS3]
  refine ax_Tgo [.aload_n 0, .bipush 21, .dup2] (pc' := 15) (L' := [some (.inr (56, 0)), some (.inl (.int a1))]) (st' := [.inl (.int (21 : Int32)), .inr (56, 0), .inl (.int (21 : Int32)), .inr (56, 0)]) (S' := S3) ok_X12_titles.1 (by decide +kernel) rfl rfl ?_
  obtain ⟨g4, h⟩ := ax_gd_e h
  refine ax_Tali (n := 204) ok_X12_titles.1 (by decide +kernel) (by decide) rfl g4 ?_
  refine ax_Tgo [.iconst 2, .isub] (pc' := 18) (L' := [some (.inr (56, 0)), some (.inl (.int a1))]) (st' := [.inl (.int ((ax_ai S3 56 0 (21 : Int32).toNatClampNeg) - (2 : Int32))), .inl (.int (21 : Int32)), .inr (56, 0)]) (S' := S3) ok_X12_titles.1 (by decide +kernel) rfl rfl ?_
  obtain ⟨g5, h⟩ := ax_gd_e h
  refine ax_Tasi (n := 204) ok_X12_titles.1 (by decide +kernel) (by decide) rfl g5 ?_
  obtain ⟨S6, eS6, h⟩ := ax_let_e h
  rw [eS6]
  cases h
  exact ax_Tretv (by decide +kernel) rfl
def f_X12_calledBits_56x0_L4 (S : AS) (K30 : Int32 → Option (Int32)) : Nat → Int32 → Int32 → Option (Int32)
  | 0, _, _ => none
  | n + 1, x1, x2 => (if (ax_fi S 12 0 27) ≤ x2 then K30 x1 else ax_gd (ax_in (((2 : Int32) * x2) + (1 : Int32)) 204) (ax_let (x1 ||| ((ax_ai S 56 0 (((2 : Int32) * x2) + (1 : Int32)).toNatClampNeg) <<< (x2 &&& 31))) (fun (v6 : Int32) => ax_let (x2 + (1 : Int32)) (fun (v7 : Int32) => f_X12_calledBits_56x0_L4 S K30 n v6 v7))))
def f_X12_calledBits_56x0 (S : AS) : Option (Int32) := f_X12_calledBits_56x0_L4 S (fun (x3 : Int32)  => some x3) ax_F (0 : Int32) (0 : Int32)
set_option maxRecDepth 100000 in
theorem t_X12_calledBits_56x0_L4 {l : Launch} {S : AS} {K30 : Int32 → Option (Int32)} (hK30 : ∀ (x3 : Int32) r, K30 x3  = some r → ax_T l 0 ma_X12_calledBits (30, [none, none, some (.inl (.int x3)), none], [], S) (some (.inl (.int r))) S) : ∀ (n : Nat) (x1 : Int32) (x2 : Int32) r, f_X12_calledBits_56x0_L4 S K30 n x1 x2  = some r → ax_T l 0 ma_X12_calledBits (4, [some (.inr (12, 0)), some (.inr (56, 0)), some (.inl (.int x1)), some (.inl (.int x2))], [], S) (some (.inl (.int r))) S := by
  intro n
  induction n with
  | zero =>
    intro x1 x2  r h
    cases h
  | succ n ih =>
    intro x1 x2  r h
    unfold f_X12_calledBits_56x0_L4 at h
    refine ax_Tgo [.iload_n 3, .aload_n 0, .getfield 291] (pc' := 9) (L' := [some (.inr (12, 0)), some (.inr (56, 0)), some (.inl (.int x1)), some (.inl (.int x2))]) (st' := [.inl (.int (ax_fi S 12 0 27)), .inl (.int x2)]) (S' := S) ok_X12_calledBits.1 (by decide +kernel) rfl rfl ?_
    refine ax_Tic_ge (off := 21) (tgt := 30) (by decide +kernel) (by decide) (fun c4 => ?_) (fun c4 => ?_)
    · rw [if_pos c4] at h
      refine ax_Tdrop [false, false, true, false] (L' := [none, none, some (.inl (.int x1)), none]) rfl ?_
      exact hK30 x1 _ h
    · rw [if_neg c4] at h
      refine ax_Tgo [.iload_n 2, .aload_n 1, .iconst 2, .iload_n 3, .imul, .iconst 1, .iadd] (pc' := 19) (L' := [some (.inr (12, 0)), some (.inr (56, 0)), some (.inl (.int x1)), some (.inl (.int x2))]) (st' := [.inl (.int (((2 : Int32) * x2) + (1 : Int32))), .inr (56, 0), .inl (.int x1)]) (S' := S) ok_X12_calledBits.1 (by decide +kernel) rfl rfl ?_
      obtain ⟨g5, h⟩ := ax_gd_e h
      refine ax_Tali (n := 204) ok_X12_calledBits.1 (by decide +kernel) (by decide) rfl g5 ?_
      refine ax_Tgo [.iload_n 3, .ishl, .ior, .istore_n 2] (pc' := 24) (L' := [some (.inr (12, 0)), some (.inr (56, 0)), some (.inl (.int (x1 ||| ((ax_ai S 56 0 (((2 : Int32) * x2) + (1 : Int32)).toNatClampNeg) <<< (x2 &&& 31))))), some (.inl (.int x2))]) (st' := []) (S' := S) ok_X12_calledBits.1 (by decide +kernel) rfl rfl ?_
      obtain ⟨v6, ev6, h⟩ := ax_let_e h
      rw [ev6]
      refine ax_Tgo [.iinc 3 1] (pc' := 27) (L' := [some (.inr (12, 0)), some (.inr (56, 0)), some (.inl (.int v6)), some (.inl (.int (x2 + (1 : Int32))))]) (st' := []) (S' := S) ok_X12_calledBits.1 (by decide +kernel) rfl rfl ?_
      obtain ⟨v7, ev7, h⟩ := ax_let_e h
      rw [ev7]
      refine ax_Tgoto (off := (-23)) (tgt := 4) (by decide +kernel) (by decide) ?_
      exact ih v6 v7 _ h
set_option maxRecDepth 100000 in
theorem t_X12_calledBits_56x0 {l : Launch} {S : AS} {r : Int32} (h : f_X12_calledBits_56x0 S = some r) : ax_M l 0 ma_X12_calledBits [.inr (12, 0), .inr (56, 0)] S (some (.inl (.int r))) S := by
  unfold f_X12_calledBits_56x0 at h
  show ax_T l 0 ma_X12_calledBits (0, [some (.inr (12, 0)), some (.inr (56, 0)), none, none], [], S) (some (.inl (.int r))) S
  refine ax_Tgo [.iconst 0, .istore_n 2, .iconst 0, .istore_n 3] (pc' := 4) (L' := [some (.inr (12, 0)), some (.inr (56, 0)), some (.inl (.int (0 : Int32))), some (.inl (.int (0 : Int32)))]) (st' := []) (S' := S) ok_X12_calledBits.1 (by decide +kernel) rfl rfl ?_
  refine t_X12_calledBits_56x0_L4 ?_ _ (0 : Int32) (0 : Int32) _ h
  · intro x3  r h
    refine ax_Tgo [.iload_n 2] (pc' := 31) (L' := [none, none, some (.inl (.int x3)), none]) (st' := [.inl (.int x3)]) (S' := S) ok_X12_calledBits.1 (by decide +kernel) rfl rfl ?_
    cases h
    exact ax_Treti (by decide +kernel) rfl rfl
def f_X12_goDay_56x0_L126 (K148 : AS → Option (AS)) : Nat → Int32 → AS → Option (AS)
  | 0, _, _ => none
  | n + 1, x35, S36 => (if (ax_fi S36 12 0 27) ≤ x35 then K148 S36 else ax_gd (ax_in (((2 : Int32) * x35) + (1 : Int32)) 204) (ax_let (ax_sai S36 56 0 (((2 : Int32) * x35) + (1 : Int32)).toNatClampNeg (0 : Int32)) (fun (S39 : AS) => ax_let (x35 + (1 : Int32)) (fun (v40 : Int32) => f_X12_goDay_56x0_L126 K148 n v40 S39))))
def f_X12_goDay_56x0_L150 (K171 : AS → Option (AS)) : Nat → Int32 → AS → Option (AS)
  | 0, _, _ => none
  | n + 1, x42, S43 => (if (ax_fi S43 12 0 26) ≤ x42 then K171 S43 else ax_gd (ax_in ((12 : Int32) + x42) 204) (ax_let (ax_sai S43 56 0 ((12 : Int32) + x42).toNatClampNeg (0 : Int32)) (fun (S46 : AS) => ax_let (x42 + (1 : Int32)) (fun (v47 : Int32) => f_X12_goDay_56x0_L150 K171 n v47 S46))))
def f_X12_goDay_56x0_L11 (K38 : AS → Option (AS)) : Nat → Int32 → AS → Option (AS)
  | 0, _, _ => none
  | n + 1, x53, S54 => (if (177 : Int32) < x53 then K38 S54 else ax_gd (ax_in (((23 : Int32) + x53) + (3 : Int32)) 204) (ax_gd (ax_in ((23 : Int32) + x53) 204) (ax_let (ax_sai S54 56 0 ((23 : Int32) + x53).toNatClampNeg (ax_ai S54 56 0 (((23 : Int32) + x53) + (3 : Int32)).toNatClampNeg)) (fun (S58 : AS) => ax_let (x53 + (1 : Int32)) (fun (v59 : Int32) => f_X12_goDay_56x0_L11 K38 n v59 S58)))))
def f_X12_goDay_56x0 (S : AS) : Option (AS) := ax_gd (ax_in (23 : Int32) 204) (ax_let (fun (S2 : AS) => ax_gd (ax_in (23 : Int32) 204) (ax_let ((24 : Int32) + ((3 : Int32) * (ax_ai S2 56 0 (23 : Int32).toNatClampNeg))) (fun (v5 : Int32) => ax_gd (ax_in (20 : Int32) 204) (ax_gd (ax_in v5 204) (ax_let (ax_sai S2 56 0 v5.toNatClampNeg (ax_ai S2 56 0 (20 : Int32).toNatClampNeg)) (fun (S8 : AS) => (f_X12_calledBits_56x0 S8).bind (fun (r12 : Int32) => ax_gd (ax_in (v5 + (1 : Int32)) 204) (ax_let (ax_sai S8 56 0 (v5 + (1 : Int32)).toNatClampNeg r12) (fun (S14 : AS) => ax_gd (ax_in (16 : Int32) 204) (ax_gd (ax_in (v5 + (2 : Int32)) 204) (ax_let (ax_sai S14 56 0 (v5 + (2 : Int32)).toNatClampNeg (ax_ai S14 56 0 (16 : Int32).toNatClampNeg)) (fun (S17 : AS) => ax_gd (ax_in (23 : Int32) 204) (ax_gd (ax_in (23 : Int32) 204) (ax_let (ax_sai S17 56 0 (23 : Int32).toNatClampNeg ((ax_ai S17 56 0 (23 : Int32).toNatClampNeg) + (1 : Int32))) (fun (S20 : AS) => ax_gd (ax_in (21 : Int32) 204) (ax_gd (ax_in (20 : Int32) 204) ((f_J9_min_7cf53 (999 : Int32) ((ax_ai S20 56 0 (21 : Int32).toNatClampNeg) + (ax_ai S20 56 0 (20 : Int32).toNatClampNeg)) S20).bind (fun (r26 : Int32) => ax_gd (ax_in (21 : Int32) 204) (ax_let (ax_sai S20 56 0 (21 : Int32).toNatClampNeg r26) (fun (S28 : AS) => ax_gd (ax_in (16 : Int32) 204) (ax_let (ax_sai S28 56 0 (16 : Int32).toNatClampNeg (0 : Int32)) (fun (S30 : AS) => ax_gd (ax_in (20 : Int32) 204) (ax_let (ax_sai S30 56 0 (20 : Int32).toNatClampNeg (0 : Int32)) (fun (S32 : AS) => ax_gd (ax_in (17 : Int32) 204) (ax_let (ax_sai S32 56 0 (17 : Int32).toNatClampNeg (0 : Int32)) (fun (S34 : AS) => f_X12_goDay_56x0_L126 (fun (S41 : AS) => f_X12_goDay_56x0_L150 (fun (S48 : AS) => ax_gd (ax_in (22 : Int32) 204) (ax_gd (ax_in (22 : Int32) 204) (ax_let (ax_sai S48 56 0 (22 : Int32).toNatClampNeg ((ax_ai S48 56 0 (22 : Int32).toNatClampNeg) + (1 : Int32))) (fun (S51 : AS) => some S51)))) ax_F (0 : Int32) S41) ax_F (0 : Int32) S34)))))))))))))))))))))))))) (fun J3 => (if (ax_ai S 56 0 (23 : Int32).toNatClampNeg) = (60 : Int32) then f_X12_goDay_56x0_L11 (fun (S60 : AS) => ax_gd (ax_in (23 : Int32) 204) (ax_gd (ax_in (23 : Int32) 204) (ax_let (ax_sai S60 56 0 (23 : Int32).toNatClampNeg ((ax_ai S60 56 0 (23 : Int32).toNatClampNeg) - (1 : Int32))) (fun (S63 : AS) => J3 S63)))) ax_F (1 : Int32) S else J3 S)))
set_option maxRecDepth 100000 in
theorem t_X12_goDay_56x0_L126 {l : Launch} {K148 : AS → Option (AS)} (hK148 : ∀ (S : AS) Z, K148 S = some Z → ax_T l 1 ma_X12_goDay (148, [some (.inr (12, 0)), some (.inr (56, 0)), none, none], [], S) none Z) : ∀ (n : Nat) (x35 : Int32) (S36 : AS) Z, f_X12_goDay_56x0_L126 K148 n x35 S36 = some Z → ax_T l 1 ma_X12_goDay (126, [some (.inr (12, 0)), some (.inr (56, 0)), none, some (.inl (.int x35))], [], S36) none Z := by
  intro n
  induction n with
  | zero =>
    intro x35 S36 Z h
    cases h
  | succ n ih =>
    intro x35 S36 Z h
    unfold f_X12_goDay_56x0_L126 at h
    refine ax_Tgo [.iload_n 3, .aload_n 0, .getfield 291] (pc' := 131) (L' := [some (.inr (12, 0)), some (.inr (56, 0)), none, some (.inl (.int x35))]) (st' := [.inl (.int (ax_fi S36 12 0 27)), .inl (.int x35)]) (S' := S36) ok_X12_goDay.1 (by decide +kernel) rfl rfl ?_
    refine ax_Tic_ge (off := 17) (tgt := 148) (by decide +kernel) (by decide) (fun c37 => ?_) (fun c37 => ?_)
    · rw [if_pos c37] at h
      refine ax_Tdrop [true, true, true, false] (L' := [some (.inr (12, 0)), some (.inr (56, 0)), none, none]) rfl ?_
      exact hK148 S36 _ h
    · rw [if_neg c37] at h
      refine ax_Tgo [.aload_n 1, .iconst 2, .iload_n 3, .imul, .iconst 1, .iadd, .iconst 0] (pc' := 141) (L' := [some (.inr (12, 0)), some (.inr (56, 0)), none, some (.inl (.int x35))]) (st' := [.inl (.int (0 : Int32)), .inl (.int (((2 : Int32) * x35) + (1 : Int32))), .inr (56, 0)]) (S' := S36) ok_X12_goDay.1 (by decide +kernel) rfl rfl ?_
      obtain ⟨g38, h⟩ := ax_gd_e h
      refine ax_Tasi (n := 204) ok_X12_goDay.1 (by decide +kernel) (by decide) rfl g38 ?_
      obtain ⟨S39, eS39, h⟩ := ax_let_e h
      rw [eS39]
      refine ax_Tgo [.iinc 3 1] (pc' := 145) (L' := [some (.inr (12, 0)), some (.inr (56, 0)), none, some (.inl (.int (x35 + (1 : Int32))))]) (st' := []) (S' := S39) ok_X12_goDay.1 (by decide +kernel) rfl rfl ?_
      obtain ⟨v40, ev40, h⟩ := ax_let_e h
      rw [ev40]
      refine ax_Tgoto (off := (-19)) (tgt := 126) (by decide +kernel) (by decide) ?_
      exact ih v40 S39 _ h
set_option maxRecDepth 100000 in
theorem t_X12_goDay_56x0_L150 {l : Launch} {K171 : AS → Option (AS)} (hK171 : ∀ (S : AS) Z, K171 S = some Z → ax_T l 1 ma_X12_goDay (171, [none, some (.inr (56, 0)), none, none], [], S) none Z) : ∀ (n : Nat) (x42 : Int32) (S43 : AS) Z, f_X12_goDay_56x0_L150 K171 n x42 S43 = some Z → ax_T l 1 ma_X12_goDay (150, [some (.inr (12, 0)), some (.inr (56, 0)), none, some (.inl (.int x42))], [], S43) none Z := by
  intro n
  induction n with
  | zero =>
    intro x42 S43 Z h
    cases h
  | succ n ih =>
    intro x42 S43 Z h
    unfold f_X12_goDay_56x0_L150 at h
    refine ax_Tgo [.iload_n 3, .aload_n 0, .getfield 288] (pc' := 155) (L' := [some (.inr (12, 0)), some (.inr (56, 0)), none, some (.inl (.int x42))]) (st' := [.inl (.int (ax_fi S43 12 0 26)), .inl (.int x42)]) (S' := S43) ok_X12_goDay.1 (by decide +kernel) rfl rfl ?_
    refine ax_Tic_ge (off := 16) (tgt := 171) (by decide +kernel) (by decide) (fun c44 => ?_) (fun c44 => ?_)
    · rw [if_pos c44] at h
      refine ax_Tdrop [false, true, true, false] (L' := [none, some (.inr (56, 0)), none, none]) rfl ?_
      exact hK171 S43 _ h
    · rw [if_neg c44] at h
      refine ax_Tgo [.aload_n 1, .bipush 12, .iload_n 3, .iadd, .iconst 0] (pc' := 164) (L' := [some (.inr (12, 0)), some (.inr (56, 0)), none, some (.inl (.int x42))]) (st' := [.inl (.int (0 : Int32)), .inl (.int ((12 : Int32) + x42)), .inr (56, 0)]) (S' := S43) ok_X12_goDay.1 (by decide +kernel) rfl rfl ?_
      obtain ⟨g45, h⟩ := ax_gd_e h
      refine ax_Tasi (n := 204) ok_X12_goDay.1 (by decide +kernel) (by decide) rfl g45 ?_
      obtain ⟨S46, eS46, h⟩ := ax_let_e h
      rw [eS46]
      refine ax_Tgo [.iinc 3 1] (pc' := 168) (L' := [some (.inr (12, 0)), some (.inr (56, 0)), none, some (.inl (.int (x42 + (1 : Int32))))]) (st' := []) (S' := S46) ok_X12_goDay.1 (by decide +kernel) rfl rfl ?_
      obtain ⟨v47, ev47, h⟩ := ax_let_e h
      rw [ev47]
      refine ax_Tgoto (off := (-18)) (tgt := 150) (by decide +kernel) (by decide) ?_
      exact ih v47 S46 _ h
set_option maxRecDepth 100000 in
theorem t_X12_goDay_56x0_L11 {l : Launch} {K38 : AS → Option (AS)} (hK38 : ∀ (S : AS) Z, K38 S = some Z → ax_T l 1 ma_X12_goDay (38, [some (.inr (12, 0)), some (.inr (56, 0)), none, none], [], S) none Z) : ∀ (n : Nat) (x53 : Int32) (S54 : AS) Z, f_X12_goDay_56x0_L11 K38 n x53 S54 = some Z → ax_T l 1 ma_X12_goDay (11, [some (.inr (12, 0)), some (.inr (56, 0)), some (.inl (.int x53)), none], [], S54) none Z := by
  intro n
  induction n with
  | zero =>
    intro x53 S54 Z h
    cases h
  | succ n ih =>
    intro x53 S54 Z h
    unfold f_X12_goDay_56x0_L11 at h
    refine ax_Tgo [.iload_n 2, .sipush 177] (pc' := 15) (L' := [some (.inr (12, 0)), some (.inr (56, 0)), some (.inl (.int x53)), none]) (st' := [.inl (.int (177 : Int32)), .inl (.int x53)]) (S' := S54) ok_X12_goDay.1 (by decide +kernel) rfl rfl ?_
    refine ax_Tic_gt (off := 23) (tgt := 38) (by decide +kernel) (by decide) (fun c55 => ?_) (fun c55 => ?_)
    · rw [if_pos c55] at h
      refine ax_Tdrop [true, true, false, true] (L' := [some (.inr (12, 0)), some (.inr (56, 0)), none, none]) rfl ?_
      exact hK38 S54 _ h
    · rw [if_neg c55] at h
      refine ax_Tgo [.aload_n 1, .bipush 23, .iload_n 2, .iadd, .aload_n 1, .bipush 23, .iload_n 2, .iadd, .iconst 3, .iadd] (pc' := 30) (L' := [some (.inr (12, 0)), some (.inr (56, 0)), some (.inl (.int x53)), none]) (st' := [.inl (.int (((23 : Int32) + x53) + (3 : Int32))), .inr (56, 0), .inl (.int ((23 : Int32) + x53)), .inr (56, 0)]) (S' := S54) ok_X12_goDay.1 (by decide +kernel) rfl rfl ?_
      obtain ⟨g56, h⟩ := ax_gd_e h
      refine ax_Tali (n := 204) ok_X12_goDay.1 (by decide +kernel) (by decide) rfl g56 ?_
      obtain ⟨g57, h⟩ := ax_gd_e h
      refine ax_Tasi (n := 204) ok_X12_goDay.1 (by decide +kernel) (by decide) rfl g57 ?_
      obtain ⟨S58, eS58, h⟩ := ax_let_e h
      rw [eS58]
      refine ax_Tgo [.iinc 2 1] (pc' := 35) (L' := [some (.inr (12, 0)), some (.inr (56, 0)), some (.inl (.int (x53 + (1 : Int32)))), none]) (st' := []) (S' := S58) ok_X12_goDay.1 (by decide +kernel) rfl rfl ?_
      obtain ⟨v59, ev59, h⟩ := ax_let_e h
      rw [ev59]
      refine ax_Tgoto (off := (-24)) (tgt := 11) (by decide +kernel) (by decide) ?_
      exact ih v59 S58 _ h
set_option maxRecDepth 100000 in
theorem t_X12_goDay_56x0 {l : Launch} {S Z : AS} (h : f_X12_goDay_56x0 S = some Z) : ax_M l 1 ma_X12_goDay [.inr (12, 0), .inr (56, 0)] S none Z := by
  unfold f_X12_goDay_56x0 at h
  show ax_T l 1 ma_X12_goDay (0, [some (.inr (12, 0)), some (.inr (56, 0)), none, none], [], S) none Z
  refine ax_Tgo [.aload_n 1, .bipush 23] (pc' := 3) (L' := [some (.inr (12, 0)), some (.inr (56, 0)), none, none]) (st' := [.inl (.int (23 : Int32)), .inr (56, 0)]) (S' := S) ok_X12_goDay.1 (by decide +kernel) rfl rfl ?_
  obtain ⟨g1, h⟩ := ax_gd_e h
  refine ax_Tali (n := 204) ok_X12_goDay.1 (by decide +kernel) (by decide) rfl g1 ?_
  refine ax_Tgo [.bipush 60] (pc' := 6) (L' := [some (.inr (12, 0)), some (.inr (56, 0)), none, none]) (st' := [.inl (.int (60 : Int32)), .inl (.int (ax_ai S 56 0 (23 : Int32).toNatClampNeg))]) (S' := S) ok_X12_goDay.1 (by decide +kernel) rfl rfl ?_
  obtain ⟨J3, eJ3, h⟩ := ax_let_e h
  have hJ3 : ∀ (S2 : AS) Z, J3 S2 = some Z → ax_T l 1 ma_X12_goDay (46, [some (.inr (12, 0)), some (.inr (56, 0)), none, none], [], S2) none Z := by
    intro S2 Z h
    rw [← eJ3] at h
    try dsimp only at h
    refine ax_Tgo [.bipush 24, .iconst 3, .aload_n 1, .bipush 23] (pc' := 52) (L' := [some (.inr (12, 0)), some (.inr (56, 0)), none, none]) (st' := [.inl (.int (23 : Int32)), .inr (56, 0), .inl (.int (3 : Int32)), .inl (.int (24 : Int32))]) (S' := S2) ok_X12_goDay.1 (by decide +kernel) rfl rfl ?_
    obtain ⟨g4, h⟩ := ax_gd_e h
    refine ax_Tali (n := 204) ok_X12_goDay.1 (by decide +kernel) (by decide) rfl g4 ?_
    refine ax_Tgo [.imul, .iadd, .istore_n 2] (pc' := 56) (L' := [some (.inr (12, 0)), some (.inr (56, 0)), some (.inl (.int ((24 : Int32) + ((3 : Int32) * (ax_ai S2 56 0 (23 : Int32).toNatClampNeg))))), none]) (st' := []) (S' := S2) ok_X12_goDay.1 (by decide +kernel) rfl rfl ?_
    obtain ⟨v5, ev5, h⟩ := ax_let_e h
    rw [ev5]
    refine ax_Tgo [.aload_n 1, .iload_n 2, .aload_n 1, .bipush 20] (pc' := 61) (L' := [some (.inr (12, 0)), some (.inr (56, 0)), some (.inl (.int v5)), none]) (st' := [.inl (.int (20 : Int32)), .inr (56, 0), .inl (.int v5), .inr (56, 0)]) (S' := S2) ok_X12_goDay.1 (by decide +kernel) rfl rfl ?_
    obtain ⟨g6, h⟩ := ax_gd_e h
    refine ax_Tali (n := 204) ok_X12_goDay.1 (by decide +kernel) (by decide) rfl g6 ?_
    obtain ⟨g7, h⟩ := ax_gd_e h
    refine ax_Tasi (n := 204) ok_X12_goDay.1 (by decide +kernel) (by decide) rfl g7 ?_
    obtain ⟨S8, eS8, h⟩ := ax_let_e h
    rw [eS8]
    refine ax_Tgo [.aload_n 1, .iload_n 2, .iconst 1, .iadd, .aload_n 0, .aload_n 1] (pc' := 69) (L' := [some (.inr (12, 0)), some (.inr (56, 0)), some (.inl (.int v5)), none]) (st' := [.inr (56, 0), .inr (12, 0), .inl (.int (v5 + (1 : Int32))), .inr (56, 0)]) (S' := S8) ok_X12_goDay.1 (by decide +kernel) rfl rfl ?_
    obtain ⟨r12, hq10, h⟩ := ax_bd_e h
    refine ax_TVi (d := 0) (ka := 12) (i := 0) [.inr (56, 0)] [.inl (.int (v5 + (1 : Int32))), .inr (56, 0)] lk_X12_334 (by decide +kernel) rfl (by decide) rfl (Nat.le_of_ble_eq_true rfl) (Nat.le_of_ble_eq_true rfl) ((t_X12_calledBits_56x0 hq10).up (by decide)) ?_
    obtain ⟨g13, h⟩ := ax_gd_e h
    refine ax_Tasi (n := 204) ok_X12_goDay.1 (by decide +kernel) (by decide) rfl g13 ?_
    obtain ⟨S14, eS14, h⟩ := ax_let_e h
    rw [eS14]
    refine ax_Tgo [.aload_n 1, .iload_n 2, .iconst 2, .iadd, .aload_n 1, .bipush 16] (pc' := 80) (L' := [some (.inr (12, 0)), some (.inr (56, 0)), some (.inl (.int v5)), none]) (st' := [.inl (.int (16 : Int32)), .inr (56, 0), .inl (.int (v5 + (2 : Int32))), .inr (56, 0)]) (S' := S14) ok_X12_goDay.1 (by decide +kernel) rfl rfl ?_
    obtain ⟨g15, h⟩ := ax_gd_e h
    refine ax_Tali (n := 204) ok_X12_goDay.1 (by decide +kernel) (by decide) rfl g15 ?_
    obtain ⟨g16, h⟩ := ax_gd_e h
    refine ax_Tasi (n := 204) ok_X12_goDay.1 (by decide +kernel) (by decide) rfl g16 ?_
    obtain ⟨S17, eS17, h⟩ := ax_let_e h
    rw [eS17]
    refine ax_Tgo [.aload_n 1, .bipush 23, .dup2] (pc' := 86) (L' := [some (.inr (12, 0)), some (.inr (56, 0)), some (.inl (.int v5)), none]) (st' := [.inl (.int (23 : Int32)), .inr (56, 0), .inl (.int (23 : Int32)), .inr (56, 0)]) (S' := S17) ok_X12_goDay.1 (by decide +kernel) rfl rfl ?_
    obtain ⟨g18, h⟩ := ax_gd_e h
    refine ax_Tali (n := 204) ok_X12_goDay.1 (by decide +kernel) (by decide) rfl g18 ?_
    refine ax_Tgo [.iconst 1, .iadd] (pc' := 89) (L' := [some (.inr (12, 0)), some (.inr (56, 0)), some (.inl (.int v5)), none]) (st' := [.inl (.int ((ax_ai S17 56 0 (23 : Int32).toNatClampNeg) + (1 : Int32))), .inl (.int (23 : Int32)), .inr (56, 0)]) (S' := S17) ok_X12_goDay.1 (by decide +kernel) rfl rfl ?_
    obtain ⟨g19, h⟩ := ax_gd_e h
    refine ax_Tasi (n := 204) ok_X12_goDay.1 (by decide +kernel) (by decide) rfl g19 ?_
    obtain ⟨S20, eS20, h⟩ := ax_let_e h
    rw [eS20]
    refine ax_Tgo [.aload_n 1, .bipush 21, .sipush 999, .aload_n 1, .bipush 21] (pc' := 99) (L' := [some (.inr (12, 0)), some (.inr (56, 0)), some (.inl (.int v5)), none]) (st' := [.inl (.int (21 : Int32)), .inr (56, 0), .inl (.int (999 : Int32)), .inl (.int (21 : Int32)), .inr (56, 0)]) (S' := S20) ok_X12_goDay.1 (by decide +kernel) rfl rfl ?_
    obtain ⟨g21, h⟩ := ax_gd_e h
    refine ax_Tali (n := 204) ok_X12_goDay.1 (by decide +kernel) (by decide) rfl g21 ?_
    refine ax_Tgo [.aload_n 1, .bipush 20] (pc' := 103) (L' := [some (.inr (12, 0)), some (.inr (56, 0)), some (.inl (.int v5)), none]) (st' := [.inl (.int (20 : Int32)), .inr (56, 0), .inl (.int (ax_ai S20 56 0 (21 : Int32).toNatClampNeg)), .inl (.int (999 : Int32)), .inl (.int (21 : Int32)), .inr (56, 0)]) (S' := S20) ok_X12_goDay.1 (by decide +kernel) rfl rfl ?_
    obtain ⟨g22, h⟩ := ax_gd_e h
    refine ax_Tali (n := 204) ok_X12_goDay.1 (by decide +kernel) (by decide) rfl g22 ?_
    refine ax_Tgo [.iadd] (pc' := 105) (L' := [some (.inr (12, 0)), some (.inr (56, 0)), some (.inl (.int v5)), none]) (st' := [.inl (.int ((ax_ai S20 56 0 (21 : Int32).toNatClampNeg) + (ax_ai S20 56 0 (20 : Int32).toNatClampNeg))), .inl (.int (999 : Int32)), .inl (.int (21 : Int32)), .inr (56, 0)]) (S' := S20) ok_X12_goDay.1 (by decide +kernel) rfl rfl ?_
    obtain ⟨r26, hq24, h⟩ := ax_bd_e h
    refine ax_TSi (d := 0) [.inl (.int (999 : Int32)), .inl (.int ((ax_ai S20 56 0 (21 : Int32).toNatClampNeg) + (ax_ai S20 56 0 (20 : Int32).toNatClampNeg)))] [.inl (.int (21 : Int32)), .inr (56, 0)] lk_X12_318 (by decide +kernel) rfl rfl (Nat.le_of_ble_eq_true rfl) (Nat.le_of_ble_eq_true rfl) ((t_J9_min_7cf53 hq24).up (by decide)) ?_
    obtain ⟨g27, h⟩ := ax_gd_e h
    refine ax_Tasi (n := 204) ok_X12_goDay.1 (by decide +kernel) (by decide) rfl g27 ?_
    obtain ⟨S28, eS28, h⟩ := ax_let_e h
    rw [eS28]
    refine ax_Tgo [.aload_n 1, .bipush 16, .iconst 0] (pc' := 113) (L' := [some (.inr (12, 0)), some (.inr (56, 0)), some (.inl (.int v5)), none]) (st' := [.inl (.int (0 : Int32)), .inl (.int (16 : Int32)), .inr (56, 0)]) (S' := S28) ok_X12_goDay.1 (by decide +kernel) rfl rfl ?_
    obtain ⟨g29, h⟩ := ax_gd_e h
    refine ax_Tasi (n := 204) ok_X12_goDay.1 (by decide +kernel) (by decide) rfl g29 ?_
    obtain ⟨S30, eS30, h⟩ := ax_let_e h
    rw [eS30]
    refine ax_Tgo [.aload_n 1, .bipush 20, .iconst 0] (pc' := 118) (L' := [some (.inr (12, 0)), some (.inr (56, 0)), some (.inl (.int v5)), none]) (st' := [.inl (.int (0 : Int32)), .inl (.int (20 : Int32)), .inr (56, 0)]) (S' := S30) ok_X12_goDay.1 (by decide +kernel) rfl rfl ?_
    obtain ⟨g31, h⟩ := ax_gd_e h
    refine ax_Tasi (n := 204) ok_X12_goDay.1 (by decide +kernel) (by decide) rfl g31 ?_
    obtain ⟨S32, eS32, h⟩ := ax_let_e h
    rw [eS32]
    refine ax_Tgo [.aload_n 1, .bipush 17, .iconst 0] (pc' := 123) (L' := [some (.inr (12, 0)), some (.inr (56, 0)), some (.inl (.int v5)), none]) (st' := [.inl (.int (0 : Int32)), .inl (.int (17 : Int32)), .inr (56, 0)]) (S' := S32) ok_X12_goDay.1 (by decide +kernel) rfl rfl ?_
    obtain ⟨g33, h⟩ := ax_gd_e h
    refine ax_Tasi (n := 204) ok_X12_goDay.1 (by decide +kernel) (by decide) rfl g33 ?_
    obtain ⟨S34, eS34, h⟩ := ax_let_e h
    rw [eS34]
    refine ax_Tgo [.iconst 0, .istore_n 3] (pc' := 126) (L' := [some (.inr (12, 0)), some (.inr (56, 0)), some (.inl (.int v5)), some (.inl (.int (0 : Int32)))]) (st' := []) (S' := S34) ok_X12_goDay.1 (by decide +kernel) rfl rfl ?_
    refine ax_Tdrop [true, true, false, true] (L' := [some (.inr (12, 0)), some (.inr (56, 0)), none, some (.inl (.int (0 : Int32)))]) rfl ?_
    refine t_X12_goDay_56x0_L126 ?_ _ (0 : Int32) S34 _ h
    · intro S41 Z h
      refine ax_Tgo [.iconst 0, .istore_n 3] (pc' := 150) (L' := [some (.inr (12, 0)), some (.inr (56, 0)), none, some (.inl (.int (0 : Int32)))]) (st' := []) (S' := S41) ok_X12_goDay.1 (by decide +kernel) rfl rfl ?_
      refine t_X12_goDay_56x0_L150 ?_ _ (0 : Int32) S41 _ h
      · intro S48 Z h
        refine ax_Tgo [.aload_n 1, .bipush 22, .dup2] (pc' := 175) (L' := [none, some (.inr (56, 0)), none, none]) (st' := [.inl (.int (22 : Int32)), .inr (56, 0), .inl (.int (22 : Int32)), .inr (56, 0)]) (S' := S48) ok_X12_goDay.1 (by decide +kernel) rfl rfl ?_
        obtain ⟨g49, h⟩ := ax_gd_e h
        refine ax_Tali (n := 204) ok_X12_goDay.1 (by decide +kernel) (by decide) rfl g49 ?_
        refine ax_Tgo [.iconst 1, .iadd] (pc' := 178) (L' := [none, some (.inr (56, 0)), none, none]) (st' := [.inl (.int ((ax_ai S48 56 0 (22 : Int32).toNatClampNeg) + (1 : Int32))), .inl (.int (22 : Int32)), .inr (56, 0)]) (S' := S48) ok_X12_goDay.1 (by decide +kernel) rfl rfl ?_
        obtain ⟨g50, h⟩ := ax_gd_e h
        refine ax_Tasi (n := 204) ok_X12_goDay.1 (by decide +kernel) (by decide) rfl g50 ?_
        obtain ⟨S51, eS51, h⟩ := ax_let_e h
        rw [eS51]
        cases h
        exact ax_Tretv (by decide +kernel) rfl
  refine ax_Tic_ne (off := 40) (tgt := 46) (by decide +kernel) (by decide) (fun c52 => ?_) (fun c52 => ?_)
  · rw [if_neg c52] at h
    exact hJ3 S _ h
  · rw [if_pos c52] at h
    refine ax_Tgo [.iconst 1, .istore_n 2] (pc' := 11) (L' := [some (.inr (12, 0)), some (.inr (56, 0)), some (.inl (.int (1 : Int32))), none]) (st' := []) (S' := S) ok_X12_goDay.1 (by decide +kernel) rfl rfl ?_
    refine t_X12_goDay_56x0_L11 ?_ _ (1 : Int32) S _ h
    · intro S60 Z h
      refine ax_Tgo [.aload_n 1, .bipush 23, .dup2] (pc' := 42) (L' := [some (.inr (12, 0)), some (.inr (56, 0)), none, none]) (st' := [.inl (.int (23 : Int32)), .inr (56, 0), .inl (.int (23 : Int32)), .inr (56, 0)]) (S' := S60) ok_X12_goDay.1 (by decide +kernel) rfl rfl ?_
      obtain ⟨g61, h⟩ := ax_gd_e h
      refine ax_Tali (n := 204) ok_X12_goDay.1 (by decide +kernel) (by decide) rfl g61 ?_
      refine ax_Tgo [.iconst 1, .isub] (pc' := 45) (L' := [some (.inr (12, 0)), some (.inr (56, 0)), none, none]) (st' := [.inl (.int ((ax_ai S60 56 0 (23 : Int32).toNatClampNeg) - (1 : Int32))), .inl (.int (23 : Int32)), .inr (56, 0)]) (S' := S60) ok_X12_goDay.1 (by decide +kernel) rfl rfl ?_
      obtain ⟨g62, h⟩ := ax_gd_e h
      refine ax_Tasi (n := 204) ok_X12_goDay.1 (by decide +kernel) (by decide) rfl g62 ?_
      obtain ⟨S63, eS63, h⟩ := ax_let_e h
      rw [eS63]
      exact hJ3 S63 _ h
def f_X12_goStep_56x0 (a2 : Int32) (S : AS) : Option (AS) := ax_gd (ax_in (a2 + (1 : Int32)) 160) (ax_let (ax_ai S 53 0 (a2 + (1 : Int32)).toNatClampNeg) (fun (v2 : Int32) => ax_gd (ax_in a2 160) (ax_let (ax_ai S 53 0 a2.toNatClampNeg) (fun (v4 : Int32) => (if v4 = (0 : Int32) then ax_bu (f_X12_calls_56x0 v2 S) (fun (r9 : Int32) (S6 : AS) => some S6) else if v4 = (1 : Int32) then (f_X12_titles_56x0 v2 S).bind (fun (S11 : AS) => some S11) else if v4 = (2 : Int32) then ax_gd (ax_in (18 : Int32) 204) (ax_gd (ax_in (18 : Int32) 204) (ax_let (ax_sai S 56 0 (18 : Int32).toNatClampNeg ((1 : Int32) - (ax_ai S 56 0 (18 : Int32).toNatClampNeg))) (fun (S17 : AS) => some S17))) else if v4 = (3 : Int32) then ax_gd (ax_in (16 : Int32) 204) (ax_gd (ax_in (16 : Int32) 204) (ax_let (ax_sai S 56 0 (16 : Int32).toNatClampNeg ((ax_ai S 56 0 (16 : Int32).toNatClampNeg) + v2)) (fun (S21 : AS) => some S21))) else (f_X12_goDay_56x0 S).bind (fun (S22 : AS) => some S22))))))
set_option maxRecDepth 100000 in
theorem t_X12_goStep_56x0 {l : Launch} {a2 : Int32} {S Z : AS} (h : f_X12_goStep_56x0 a2 S = some Z) : ax_M l 76 ma_X12_goStep [.inr (12, 0), .inr (56, 0), .inl (.int a2)] S none Z := by
  unfold f_X12_goStep_56x0 at h
  show ax_T l 76 ma_X12_goStep (0, [some (.inr (12, 0)), some (.inr (56, 0)), some (.inl (.int a2)), none, none], [], S) none Z
  refine ax_Tgo [.aload_n 0, .getfield 55, .iload_n 2, .iconst 1, .iadd] (pc' := 7) (L' := [some (.inr (12, 0)), some (.inr (56, 0)), some (.inl (.int a2)), none, none]) (st' := [.inl (.int (a2 + (1 : Int32))), .inr (53, 0)]) (S' := S) ok_X12_goStep.1 (by decide +kernel) rfl rfl ?_
  obtain ⟨g1, h⟩ := ax_gd_e h
  refine ax_Tali (n := 160) ok_X12_goStep.1 (by decide +kernel) (by decide) rfl g1 ?_
  refine ax_Tgo [.istore_n 3] (pc' := 9) (L' := [some (.inr (12, 0)), some (.inr (56, 0)), some (.inl (.int a2)), some (.inl (.int (ax_ai S 53 0 (a2 + (1 : Int32)).toNatClampNeg))), none]) (st' := []) (S' := S) ok_X12_goStep.1 (by decide +kernel) rfl rfl ?_
  obtain ⟨v2, ev2, h⟩ := ax_let_e h
  rw [ev2]
  refine ax_Tgo [.aload_n 0, .getfield 55, .iload_n 2] (pc' := 14) (L' := [some (.inr (12, 0)), some (.inr (56, 0)), some (.inl (.int a2)), some (.inl (.int v2)), none]) (st' := [.inl (.int a2), .inr (53, 0)]) (S' := S) ok_X12_goStep.1 (by decide +kernel) rfl rfl ?_
  obtain ⟨g3, h⟩ := ax_gd_e h
  refine ax_Tali (n := 160) ok_X12_goStep.1 (by decide +kernel) (by decide) rfl g3 ?_
  obtain ⟨v4, ev4, h⟩ := ax_let_e h
  rw [ev4]
  by_cases c5 : v4 = (0 : Int32)
  · rw [if_pos c5] at h
    refine ax_TtIn (dflt := 72) (lo := 0) (hi := 3) (offs := #[29, 40, 48, 61]) (len := 29) (off := 29) (tgt := 44) (by decide +kernel) (by rw [c5]; decide) (by rw [c5]; decide) (by rw [c5]; rfl) (by decide) ?_
    refine ax_Tgo [.aload_n 0, .aload_n 1, .iload_n 3] (pc' := 47) (L' := [some (.inr (12, 0)), some (.inr (56, 0)), some (.inl (.int a2)), some (.inl (.int v2)), none]) (st' := [.inl (.int v2), .inr (56, 0), .inr (12, 0)]) (S' := S) ok_X12_goStep.1 (by decide +kernel) rfl rfl ?_
    obtain ⟨r9, S6, hq7, h⟩ := ax_bu_e h
    refine ax_TVi (d := 75) (ka := 12) (i := 0) [.inr (56, 0), .inl (.int v2)] [] lk_X12_355 (by decide +kernel) rfl (by decide) rfl (Nat.le_of_ble_eq_true rfl) (Nat.le_of_ble_eq_true rfl) ((t_X12_calls_56x0 hq7).up (by decide)) ?_
    refine ax_Tgo [.istore 4] (pc' := 52) (L' := [some (.inr (12, 0)), some (.inr (56, 0)), some (.inl (.int a2)), some (.inl (.int v2)), some (.inl (.int r9))]) (st' := []) (S' := S6) ok_X12_goStep.1 (by decide +kernel) rfl rfl ?_
    refine ax_Tgoto (off := 40) (tgt := 92) (by decide +kernel) (by decide) ?_
    cases h
    exact ax_Tretv (by decide +kernel) rfl
  · rw [if_neg c5] at h
    by_cases c10 : v4 = (1 : Int32)
    · rw [if_pos c10] at h
      refine ax_TtIn (dflt := 72) (lo := 0) (hi := 3) (offs := #[29, 40, 48, 61]) (len := 29) (off := 40) (tgt := 55) (by decide +kernel) (by rw [c10]; decide) (by rw [c10]; decide) (by rw [c10]; rfl) (by decide) ?_
      refine ax_Tgo [.aload_n 1, .iload_n 3] (pc' := 57) (L' := [some (.inr (12, 0)), some (.inr (56, 0)), some (.inl (.int a2)), some (.inl (.int v2)), none]) (st' := [.inl (.int v2), .inr (56, 0)]) (S' := S) ok_X12_goStep.1 (by decide +kernel) rfl rfl ?_
      obtain ⟨S11, hq12, h⟩ := ax_bd_e h
      refine ax_TSv (d := 75) [.inr (56, 0), .inl (.int v2)] [] lk_X12_361 (by decide +kernel) rfl rfl (Nat.le_of_ble_eq_true rfl) (Nat.le_of_ble_eq_true rfl) ((t_X12_titles_56x0 hq12).up (by decide)) ?_
      refine ax_Tgoto (off := 32) (tgt := 92) (by decide +kernel) (by decide) ?_
      cases h
      exact ax_Tretv (by decide +kernel) rfl
    · rw [if_neg c10] at h
      by_cases c14 : v4 = (2 : Int32)
      · rw [if_pos c14] at h
        refine ax_TtIn (dflt := 72) (lo := 0) (hi := 3) (offs := #[29, 40, 48, 61]) (len := 29) (off := 48) (tgt := 63) (by decide +kernel) (by rw [c14]; decide) (by rw [c14]; decide) (by rw [c14]; rfl) (by decide) ?_
        refine ax_Tgo [.aload_n 1, .bipush 18, .iconst 1, .aload_n 1, .bipush 18] (pc' := 70) (L' := [some (.inr (12, 0)), some (.inr (56, 0)), some (.inl (.int a2)), some (.inl (.int v2)), none]) (st' := [.inl (.int (18 : Int32)), .inr (56, 0), .inl (.int (1 : Int32)), .inl (.int (18 : Int32)), .inr (56, 0)]) (S' := S) ok_X12_goStep.1 (by decide +kernel) rfl rfl ?_
        obtain ⟨g15, h⟩ := ax_gd_e h
        refine ax_Tali (n := 204) ok_X12_goStep.1 (by decide +kernel) (by decide) rfl g15 ?_
        refine ax_Tgo [.isub] (pc' := 72) (L' := [some (.inr (12, 0)), some (.inr (56, 0)), some (.inl (.int a2)), some (.inl (.int v2)), none]) (st' := [.inl (.int ((1 : Int32) - (ax_ai S 56 0 (18 : Int32).toNatClampNeg))), .inl (.int (18 : Int32)), .inr (56, 0)]) (S' := S) ok_X12_goStep.1 (by decide +kernel) rfl rfl ?_
        obtain ⟨g16, h⟩ := ax_gd_e h
        refine ax_Tasi (n := 204) ok_X12_goStep.1 (by decide +kernel) (by decide) rfl g16 ?_
        obtain ⟨S17, eS17, h⟩ := ax_let_e h
        rw [eS17]
        refine ax_Tgoto (off := 19) (tgt := 92) (by decide +kernel) (by decide) ?_
        cases h
        exact ax_Tretv (by decide +kernel) rfl
      · rw [if_neg c14] at h
        by_cases c18 : v4 = (3 : Int32)
        · rw [if_pos c18] at h
          refine ax_TtIn (dflt := 72) (lo := 0) (hi := 3) (offs := #[29, 40, 48, 61]) (len := 29) (off := 61) (tgt := 76) (by decide +kernel) (by rw [c18]; decide) (by rw [c18]; decide) (by rw [c18]; rfl) (by decide) ?_
          refine ax_Tgo [.aload_n 1, .bipush 16, .dup2] (pc' := 80) (L' := [some (.inr (12, 0)), some (.inr (56, 0)), some (.inl (.int a2)), some (.inl (.int v2)), none]) (st' := [.inl (.int (16 : Int32)), .inr (56, 0), .inl (.int (16 : Int32)), .inr (56, 0)]) (S' := S) ok_X12_goStep.1 (by decide +kernel) rfl rfl ?_
          obtain ⟨g19, h⟩ := ax_gd_e h
          refine ax_Tali (n := 204) ok_X12_goStep.1 (by decide +kernel) (by decide) rfl g19 ?_
          refine ax_Tgo [.iload_n 3, .iadd] (pc' := 83) (L' := [some (.inr (12, 0)), some (.inr (56, 0)), some (.inl (.int a2)), some (.inl (.int v2)), none]) (st' := [.inl (.int ((ax_ai S 56 0 (16 : Int32).toNatClampNeg) + v2)), .inl (.int (16 : Int32)), .inr (56, 0)]) (S' := S) ok_X12_goStep.1 (by decide +kernel) rfl rfl ?_
          obtain ⟨g20, h⟩ := ax_gd_e h
          refine ax_Tasi (n := 204) ok_X12_goStep.1 (by decide +kernel) (by decide) rfl g20 ?_
          obtain ⟨S21, eS21, h⟩ := ax_let_e h
          rw [eS21]
          refine ax_Tgoto (off := 8) (tgt := 92) (by decide +kernel) (by decide) ?_
          cases h
          exact ax_Tretv (by decide +kernel) rfl
        · rw [if_neg c18] at h
          refine ax_TtOut (dflt := 72) (lo := 0) (hi := 3) (offs := #[29, 40, 48, 61]) (len := 29) (tgt := 87) (by decide +kernel) (by have zc5 := lv_neT (a := 0) c5 rfl; have zc10 := lv_neT (a := 1) c10 rfl; have zc14 := lv_neT (a := 2) c14 rfl; have zc18 := lv_neT (a := 3) c18 rfl; omega) (by decide) ?_
          refine ax_Tgo [.aload_n 0, .aload_n 1] (pc' := 89) (L' := [some (.inr (12, 0)), some (.inr (56, 0)), some (.inl (.int a2)), some (.inl (.int v2)), none]) (st' := [.inr (56, 0), .inr (12, 0)]) (S' := S) ok_X12_goStep.1 (by decide +kernel) rfl rfl ?_
          obtain ⟨S22, hq23, h⟩ := ax_bd_e h
          refine ax_TVv (d := 75) (ka := 12) (i := 0) [.inr (56, 0)] [] lk_X12_368 (by decide +kernel) rfl (by decide) rfl (Nat.le_of_ble_eq_true rfl) (Nat.le_of_ble_eq_true rfl) ((t_X12_goDay_56x0 hq23).up (by decide)) ?_
          cases h
          exact ax_Tretv (by decide +kernel) rfl
def f_X12_run_L47 (K98 : Int32 → Int32 → Int32 → AS → Option (Int32 × AS)) : Nat → Int32 → Int32 → Int32 → AS → Option (Int32 × AS)
  | 0, _, _, _, _ => none
  | n + 1, x16, x17, x18, S22 => ax_gd (ax_in x16 5) ((if (ax_ai S22 54 0 x16.toNatClampNeg) ≤ x18 then K98 x16 x17 x18 S22 else ax_bu (f_X12_canStep_56x0 ((2 : Int32) * (((16 : Int32) * x16) + x18)) S22) (fun (r28 : Int32) (S25 : AS) => (if r28 = (0 : Int32) then K98 x16 x17 x18 S25 else (f_X12_goStep_56x0 ((2 : Int32) * (((16 : Int32) * x16) + x18)) S25).bind (fun (S30 : AS) => ax_let (x18 + (1 : Int32)) (fun (v33 : Int32) => f_X12_run_L47 K98 n x16 x17 v33 S30))))))
def f_X12_run (a1 : Int32) (a2 : Int32) (S : AS) : Option (Int32 × AS) := ax_let (ax_sfi S 12 0 0 (0 : Int32)) (fun (S1 : AS) => (f_X12_isPlan a1 S1).bind (fun (r5 : Int32) => (if r5 = (0 : Int32) then some ((-1000000 : Int32), S1) else (if (ax_fi S1 12 0 27) = (0 : Int32) then some ((-1000000 : Int32), S1) else (f_X12_isIn (a2.toInt64) (0 : Int64) (1 : Int64) S1).bind (fun (r11 : Int32) => (if r11 = (0 : Int32) then some ((-1000000 : Int32), S1) else (f_X12_copy_55x0_56x0 S1).bind (fun (S13 : AS) => f_X12_run_L47 (fun (x19 : Int32) (x20 : Int32) (x21 : Int32) (S34 : AS) => (if x20 = (1 : Int32) then ax_gd (ax_in (19 : Int32) 204) (ax_gd (ax_in (19 : Int32) 204) (some (((ax_ai S34 56 0 (19 : Int32).toNatClampNeg) - (ax_ai S34 55 0 (19 : Int32).toNatClampNeg)), S34))) else ax_gd (ax_in x19 5) ((if x21 = (ax_ai S34 54 0 x19.toNatClampNeg) then some ((Int32.ofInt (-1)), S34) else some (x21, S34))))) ax_F a1 a2 (0 : Int32) S13)))))))
set_option maxRecDepth 100000 in
theorem t_X12_run_L47 {l : Launch} {K98 : Int32 → Int32 → Int32 → AS → Option (Int32 × AS)} (hK98 : ∀ (x19 : Int32) (x20 : Int32) (x21 : Int32) (S : AS) r Z, K98 x19 x20 x21 S = some (r, Z) → ax_T l 77 ma_X12_run (98, [some (.inr (12, 0)), some (.inl (.int x19)), some (.inl (.int x20)), some (.inl (.int x21))], [], S) (some (.inl (.int r))) Z) : ∀ (n : Nat) (x16 : Int32) (x17 : Int32) (x18 : Int32) (S22 : AS) r Z, f_X12_run_L47 K98 n x16 x17 x18 S22 = some (r, Z) → ax_T l 77 ma_X12_run (47, [some (.inr (12, 0)), some (.inl (.int x16)), some (.inl (.int x17)), some (.inl (.int x18))], [], S22) (some (.inl (.int r))) Z := by
  intro n
  induction n with
  | zero =>
    intro x16 x17 x18 S22 r Z h
    cases h
  | succ n ih =>
    intro x16 x17 x18 S22 r Z h
    unfold f_X12_run_L47 at h
    refine ax_Tgo [.iload_n 3, .aload_n 0, .getfield 58, .iload_n 1] (pc' := 53) (L' := [some (.inr (12, 0)), some (.inl (.int x16)), some (.inl (.int x17)), some (.inl (.int x18))]) (st' := [.inl (.int x16), .inr (54, 0), .inl (.int x18)]) (S' := S22) ok_X12_run.1 (by decide +kernel) rfl rfl ?_
    obtain ⟨g23, h⟩ := ax_gd_e h
    refine ax_Tali (n := 5) ok_X12_run.1 (by decide +kernel) (by decide) rfl g23 ?_
    refine ax_Tic_ge (off := 44) (tgt := 98) (by decide +kernel) (by decide) (fun c24 => ?_) (fun c24 => ?_)
    · rw [if_pos c24] at h
      exact hK98 x16 x17 x18 S22 _ _ h
    · rw [if_neg c24] at h
      refine ax_Tgo [.aload_n 0, .aload_n 0, .getfield 64, .iconst 2, .bipush 16, .iload_n 1, .imul, .iload_n 3, .iadd, .imul] (pc' := 70) (L' := [some (.inr (12, 0)), some (.inl (.int x16)), some (.inl (.int x17)), some (.inl (.int x18))]) (st' := [.inl (.int ((2 : Int32) * (((16 : Int32) * x16) + x18))), .inr (56, 0), .inr (12, 0)]) (S' := S22) ok_X12_run.1 (by decide +kernel) rfl rfl ?_
      obtain ⟨r28, S25, hq26, h⟩ := ax_bu_e h
      refine ax_TVi (d := 76) (ka := 12) (i := 0) [.inr (56, 0), .inl (.int ((2 : Int32) * (((16 : Int32) * x16) + x18)))] [] lk_X12_393 (by decide +kernel) rfl (by decide) rfl (Nat.le_of_ble_eq_true rfl) (Nat.le_of_ble_eq_true rfl) ((t_X12_canStep_56x0 hq26).up (by decide)) ?_
      refine ax_Tif_eq (off := 25) (tgt := 98) (by decide +kernel) (by decide) (fun c29 => ?_) (fun c29 => ?_)
      · rw [if_pos c29] at h
        exact hK98 x16 x17 x18 S25 _ _ h
      · rw [if_neg c29] at h
        refine ax_Tgo [.aload_n 0, .aload_n 0, .getfield 64, .iconst 2, .bipush 16, .iload_n 1, .imul, .iload_n 3, .iadd, .imul] (pc' := 89) (L' := [some (.inr (12, 0)), some (.inl (.int x16)), some (.inl (.int x17)), some (.inl (.int x18))]) (st' := [.inl (.int ((2 : Int32) * (((16 : Int32) * x16) + x18))), .inr (56, 0), .inr (12, 0)]) (S' := S25) ok_X12_run.1 (by decide +kernel) rfl rfl ?_
        obtain ⟨S30, hq31, h⟩ := ax_bd_e h
        refine ax_TVv (d := 76) (ka := 12) (i := 0) [.inr (56, 0), .inl (.int ((2 : Int32) * (((16 : Int32) * x16) + x18)))] [] lk_X12_396 (by decide +kernel) rfl (by decide) rfl (Nat.le_of_ble_eq_true rfl) (Nat.le_of_ble_eq_true rfl) ((t_X12_goStep_56x0 hq31).up (by decide)) ?_
        refine ax_Tgo [.iinc 3 1] (pc' := 95) (L' := [some (.inr (12, 0)), some (.inl (.int x16)), some (.inl (.int x17)), some (.inl (.int (x18 + (1 : Int32))))]) (st' := []) (S' := S30) ok_X12_run.1 (by decide +kernel) rfl rfl ?_
        obtain ⟨v33, ev33, h⟩ := ax_let_e h
        rw [ev33]
        refine ax_Tgoto (off := (-48)) (tgt := 47) (by decide +kernel) (by decide) ?_
        exact ih x16 x17 v33 S30 _ _ h
set_option maxRecDepth 100000 in
theorem t_X12_run {l : Launch} {a1 : Int32} {a2 : Int32} {S Z : AS} {r : Int32} (h : f_X12_run a1 a2 S = some (r, Z)) : ax_M l 77 ma_X12_run [.inr (12, 0), .inl (.int a1), .inl (.int a2)] S (some (.inl (.int r))) Z := by
  unfold f_X12_run at h
  show ax_T l 77 ma_X12_run (0, [some (.inr (12, 0)), some (.inl (.int a1)), some (.inl (.int a2)), none], [], S) (some (.inl (.int r))) Z
  refine ax_Tgo [.aload_n 0, .iconst 0, .putfield 93] (pc' := 5) (L' := [some (.inr (12, 0)), some (.inl (.int a1)), some (.inl (.int a2)), none]) (st' := []) (S' := (ax_sfi S 12 0 0 (0 : Int32))) ok_X12_run.1 (by decide +kernel) rfl rfl ?_
  obtain ⟨S1, eS1, h⟩ := ax_let_e h
  rw [eS1]
  refine ax_Tgo [.aload_n 0, .iload_n 1] (pc' := 7) (L' := [some (.inr (12, 0)), some (.inl (.int a1)), some (.inl (.int a2)), none]) (st' := [.inl (.int a1), .inr (12, 0)]) (S' := S1) ok_X12_run.1 (by decide +kernel) rfl rfl ?_
  obtain ⟨r5, hq3, h⟩ := ax_bd_e h
  refine ax_TVi (d := 76) (ka := 12) (i := 0) [.inl (.int a1)] [] lk_X12_385 (by decide +kernel) rfl (by decide) rfl (Nat.le_of_ble_eq_true rfl) (Nat.le_of_ble_eq_true rfl) ((t_X12_isPlan hq3).up (by decide)) ?_
  refine ax_Tif_eq (off := 20) (tgt := 30) (by decide +kernel) (by decide) (fun c6 => ?_) (fun c6 => ?_)
  · rw [if_pos c6] at h
    refine ax_Tgo [.ldc_w 388] (pc' := 33) (L' := [some (.inr (12, 0)), some (.inl (.int a1)), some (.inl (.int a2)), none]) (st' := [.inl (.int (-1000000 : Int32))]) (S' := S1) ok_X12_run.1 (by decide +kernel) rfl rfl ?_
    cases h
    exact ax_Treti (by decide +kernel) rfl rfl
  · rw [if_neg c6] at h
    refine ax_Tgo [.aload_n 0, .getfield 291] (pc' := 17) (L' := [some (.inr (12, 0)), some (.inl (.int a1)), some (.inl (.int a2)), none]) (st' := [.inl (.int (ax_fi S1 12 0 27))]) (S' := S1) ok_X12_run.1 (by decide +kernel) rfl rfl ?_
    refine ax_Tif_eq (off := 13) (tgt := 30) (by decide +kernel) (by decide) (fun c7 => ?_) (fun c7 => ?_)
    · rw [if_pos c7] at h
      refine ax_Tgo [.ldc_w 388] (pc' := 33) (L' := [some (.inr (12, 0)), some (.inl (.int a1)), some (.inl (.int a2)), none]) (st' := [.inl (.int (-1000000 : Int32))]) (S' := S1) ok_X12_run.1 (by decide +kernel) rfl rfl ?_
      cases h
      exact ax_Treti (by decide +kernel) rfl rfl
    · rw [if_neg c7] at h
      refine ax_Tgo [.iload_n 2, .i2l, .lconst 0, .lconst 1] (pc' := 24) (L' := [some (.inr (12, 0)), some (.inl (.int a1)), some (.inl (.int a2)), none]) (st' := [.inl (.long (1 : Int64)), .inl (.long (0 : Int64)), .inl (.long a2.toInt64)]) (S' := S1) ok_X12_run.1 (by decide +kernel) rfl rfl ?_
      obtain ⟨r11, hq9, h⟩ := ax_bd_e h
      refine ax_TSi (d := 76) [.inl (.long a2.toInt64), .inl (.long (0 : Int64)), .inl (.long (1 : Int64))] [] lk_X12_214 (by decide +kernel) rfl rfl (Nat.le_of_ble_eq_true rfl) (Nat.le_of_ble_eq_true rfl) ((t_X12_isIn hq9).up (by decide)) ?_
      refine ax_Tif_ne (off := 7) (tgt := 34) (by decide +kernel) (by decide) (fun c12 => ?_) (fun c12 => ?_)
      · rw [if_neg c12] at h
        refine ax_Tgo [.aload_n 0, .getfield 61, .aload_n 0, .getfield 64] (pc' := 42) (L' := [some (.inr (12, 0)), some (.inl (.int a1)), some (.inl (.int a2)), none]) (st' := [.inr (56, 0), .inr (55, 0)]) (S' := S1) ok_X12_run.1 (by decide +kernel) rfl rfl ?_
        obtain ⟨S13, hq14, h⟩ := ax_bd_e h
        refine ax_TSv (d := 76) [.inr (55, 0), .inr (56, 0)] [] lk_X12_389 (by decide +kernel) rfl rfl (Nat.le_of_ble_eq_true rfl) (Nat.le_of_ble_eq_true rfl) ((t_X12_copy_55x0_56x0 hq14).up (by decide)) ?_
        refine ax_Tgo [.iconst 0, .istore_n 3] (pc' := 47) (L' := [some (.inr (12, 0)), some (.inl (.int a1)), some (.inl (.int a2)), some (.inl (.int (0 : Int32)))]) (st' := []) (S' := S13) ok_X12_run.1 (by decide +kernel) rfl rfl ?_
        refine t_X12_run_L47 ?_ _ a1 a2 (0 : Int32) S13 _ _ h
        · intro x19 x20 x21 S34 r Z h
          refine ax_Tgo [.iload_n 2, .iconst 1] (pc' := 100) (L' := [some (.inr (12, 0)), some (.inl (.int x19)), some (.inl (.int x20)), some (.inl (.int x21))]) (st' := [.inl (.int (1 : Int32)), .inl (.int x20)]) (S' := S34) ok_X12_run.1 (by decide +kernel) rfl rfl ?_
          refine ax_Tic_ne (off := 19) (tgt := 119) (by decide +kernel) (by decide) (fun c35 => ?_) (fun c35 => ?_)
          · rw [if_neg c35] at h
            refine ax_Tgo [.iload_n 3, .aload_n 0, .getfield 58, .iload_n 1] (pc' := 125) (L' := [some (.inr (12, 0)), some (.inl (.int x19)), some (.inl (.int x20)), some (.inl (.int x21))]) (st' := [.inl (.int x19), .inr (54, 0), .inl (.int x21)]) (S' := S34) ok_X12_run.1 (by decide +kernel) rfl rfl ?_
            obtain ⟨g36, h⟩ := ax_gd_e h
            refine ax_Tali (n := 5) ok_X12_run.1 (by decide +kernel) (by decide) rfl g36 ?_
            refine ax_Tic_ne (off := 7) (tgt := 133) (by decide +kernel) (by decide) (fun c37 => ?_) (fun c37 => ?_)
            · rw [if_neg c37] at h
              refine ax_Tgo [.iload_n 3] (pc' := 134) (L' := [some (.inr (12, 0)), some (.inl (.int x19)), some (.inl (.int x20)), some (.inl (.int x21))]) (st' := [.inl (.int x21)]) (S' := S34) ok_X12_run.1 (by decide +kernel) rfl rfl ?_
              cases h
              exact ax_Treti (by decide +kernel) rfl rfl
            · rw [if_pos c37] at h
              refine ax_Tgo [.iconst (-1)] (pc' := 130) (L' := [some (.inr (12, 0)), some (.inl (.int x19)), some (.inl (.int x20)), some (.inl (.int x21))]) (st' := [.inl (.int (Int32.ofInt (-1)))]) (S' := S34) ok_X12_run.1 (by decide +kernel) rfl rfl ?_
              refine ax_Tgoto (off := 4) (tgt := 134) (by decide +kernel) (by decide) ?_
              cases h
              exact ax_Treti (by decide +kernel) rfl rfl
          · rw [if_pos c35] at h
            refine ax_Tgo [.aload_n 0, .getfield 64, .bipush 19] (pc' := 109) (L' := [some (.inr (12, 0)), some (.inl (.int x19)), some (.inl (.int x20)), some (.inl (.int x21))]) (st' := [.inl (.int (19 : Int32)), .inr (56, 0)]) (S' := S34) ok_X12_run.1 (by decide +kernel) rfl rfl ?_
            obtain ⟨g38, h⟩ := ax_gd_e h
            refine ax_Tali (n := 204) ok_X12_run.1 (by decide +kernel) (by decide) rfl g38 ?_
            refine ax_Tgo [.aload_n 0, .getfield 61, .bipush 19] (pc' := 116) (L' := [some (.inr (12, 0)), some (.inl (.int x19)), some (.inl (.int x20)), some (.inl (.int x21))]) (st' := [.inl (.int (19 : Int32)), .inr (55, 0), .inl (.int (ax_ai S34 56 0 (19 : Int32).toNatClampNeg))]) (S' := S34) ok_X12_run.1 (by decide +kernel) rfl rfl ?_
            obtain ⟨g39, h⟩ := ax_gd_e h
            refine ax_Tali (n := 204) ok_X12_run.1 (by decide +kernel) (by decide) rfl g39 ?_
            refine ax_Tgo [.isub] (pc' := 118) (L' := [some (.inr (12, 0)), some (.inl (.int x19)), some (.inl (.int x20)), some (.inl (.int x21))]) (st' := [.inl (.int ((ax_ai S34 56 0 (19 : Int32).toNatClampNeg) - (ax_ai S34 55 0 (19 : Int32).toNatClampNeg)))]) (S' := S34) ok_X12_run.1 (by decide +kernel) rfl rfl ?_
            cases h
            exact ax_Treti (by decide +kernel) rfl rfl
      · rw [if_pos c12] at h
        refine ax_Tgo [.ldc_w 388] (pc' := 33) (L' := [some (.inr (12, 0)), some (.inl (.int a1)), some (.inl (.int a2)), none]) (st' := [.inl (.int (-1000000 : Int32))]) (S' := S1) ok_X12_run.1 (by decide +kernel) rfl rfl ?_
        cases h
        exact ax_Treti (by decide +kernel) rfl rfl
def f_X12_sing (S : AS) : Option (Int32 × AS) := ax_let (ax_sfi S 12 0 0 (0 : Int32)) (fun (S1 : AS) => (if (ax_fi S1 12 0 27) = (0 : Int32) then some ((Int32.ofInt (-1)), S1) else (f_X12_remember S1).bind (fun (S3 : AS) => ax_gd (ax_in (18 : Int32) 204) (ax_gd (ax_in (18 : Int32) 204) (ax_let (ax_sai S3 55 0 (18 : Int32).toNatClampNeg ((1 : Int32) - (ax_ai S3 55 0 (18 : Int32).toNatClampNeg))) (fun (S8 : AS) => ax_gd (ax_in (18 : Int32) 204) (some ((ax_ai S8 55 0 (18 : Int32).toNatClampNeg), S8))))))))
set_option maxRecDepth 100000 in
theorem t_X12_sing {l : Launch} {S Z : AS} {r : Int32} (h : f_X12_sing S = some (r, Z)) : ax_M l 1 ma_X12_sing [.inr (12, 0)] S (some (.inl (.int r))) Z := by
  unfold f_X12_sing at h
  show ax_T l 1 ma_X12_sing (0, [some (.inr (12, 0))], [], S) (some (.inl (.int r))) Z
  refine ax_Tgo [.aload_n 0, .iconst 0, .putfield 93] (pc' := 5) (L' := [some (.inr (12, 0))]) (st' := []) (S' := (ax_sfi S 12 0 0 (0 : Int32))) ok_X12_sing.1 (by decide +kernel) rfl rfl ?_
  obtain ⟨S1, eS1, h⟩ := ax_let_e h
  rw [eS1]
  refine ax_Tgo [.aload_n 0, .getfield 291] (pc' := 9) (L' := [some (.inr (12, 0))]) (st' := [.inl (.int (ax_fi S1 12 0 27))]) (S' := S1) ok_X12_sing.1 (by decide +kernel) rfl rfl ?_
  refine ax_Tif_ne (off := 5) (tgt := 14) (by decide +kernel) (by decide) (fun c2 => ?_) (fun c2 => ?_)
  · rw [if_neg c2] at h
    refine ax_Tgo [.aload_n 0] (pc' := 15) (L' := [some (.inr (12, 0))]) (st' := [.inr (12, 0)]) (S' := S1) ok_X12_sing.1 (by decide +kernel) rfl rfl ?_
    obtain ⟨S3, hq4, h⟩ := ax_bd_e h
    refine ax_TVv (d := 0) (ka := 12) (i := 0) [] [] lk_X12_352 (by decide +kernel) rfl (by decide) rfl (Nat.le_of_ble_eq_true rfl) (Nat.le_of_ble_eq_true rfl) ((t_X12_remember hq4).up (by decide)) ?_
    refine ax_Tgo [.aload_n 0, .getfield 61, .bipush 18, .iconst 1, .aload_n 0, .getfield 61, .bipush 18] (pc' := 31) (L' := [some (.inr (12, 0))]) (st' := [.inl (.int (18 : Int32)), .inr (55, 0), .inl (.int (1 : Int32)), .inl (.int (18 : Int32)), .inr (55, 0)]) (S' := S3) ok_X12_sing.1 (by decide +kernel) rfl rfl ?_
    obtain ⟨g6, h⟩ := ax_gd_e h
    refine ax_Tali (n := 204) ok_X12_sing.1 (by decide +kernel) (by decide) rfl g6 ?_
    refine ax_Tgo [.isub] (pc' := 33) (L' := [some (.inr (12, 0))]) (st' := [.inl (.int ((1 : Int32) - (ax_ai S3 55 0 (18 : Int32).toNatClampNeg))), .inl (.int (18 : Int32)), .inr (55, 0)]) (S' := S3) ok_X12_sing.1 (by decide +kernel) rfl rfl ?_
    obtain ⟨g7, h⟩ := ax_gd_e h
    refine ax_Tasi (n := 204) ok_X12_sing.1 (by decide +kernel) (by decide) rfl g7 ?_
    obtain ⟨S8, eS8, h⟩ := ax_let_e h
    rw [eS8]
    refine ax_Tgo [.aload_n 0, .getfield 61, .bipush 18] (pc' := 40) (L' := [some (.inr (12, 0))]) (st' := [.inl (.int (18 : Int32)), .inr (55, 0)]) (S' := S8) ok_X12_sing.1 (by decide +kernel) rfl rfl ?_
    obtain ⟨g9, h⟩ := ax_gd_e h
    refine ax_Tali (n := 204) ok_X12_sing.1 (by decide +kernel) (by decide) rfl g9 ?_
    cases h
    exact ax_Treti (by decide +kernel) rfl rfl
  · rw [if_pos c2] at h
    refine ax_Tgo [.iconst (-1)] (pc' := 13) (L' := [some (.inr (12, 0))]) (st' := [.inl (.int (Int32.ofInt (-1)))]) (S' := S1) ok_X12_sing.1 (by decide +kernel) rfl rfl ?_
    cases h
    exact ax_Treti (by decide +kernel) rfl rfl
def f_X12_span_L63 : Nat → Int32 → Int32 → Int32 → Int32 → AS → Option (Int32 × AS)
  | 0, _, _, _, _, _ => none
  | n + 1, x18, x19, x20, x21, S22 => (if x21 ≤ x20 then some ((0 : Int32), S22) else ax_gd (ax_in (17 : Int32) 204) (ax_bu (f_X12_takesTitled x18 x21 (ax_ai S22 55 0 (17 : Int32).toNatClampNeg) S22) (fun (r28 : Int32) (S25 : AS) => (if x19 < r28 then ax_let (x21 + (Int32.ofInt (-1))) (fun (v30 : Int32) => f_X12_span_L63 n x18 x19 x20 v30 S25) else some ((x21 - x20), S25)))))
def f_X12_span (a1 : Int32) (S : AS) : Option (Int32 × AS) := ax_let (ax_sfi S 12 0 0 (0 : Int32)) (fun (S1 : AS) => (f_X12_isCaller a1 S1).bind (fun (r5 : Int32) => (if r5 = (0 : Int32) then some ((Int32.ofInt (-1)), S1) else ax_gd (ax_in (0 : Int32) 3) (ax_gd (ax_in (16 : Int32) 204) (ax_let ((ax_ai S1 47 0 (0 : Int32).toNatClampNeg) - (ax_ai S1 55 0 (16 : Int32).toNatClampNeg)) (fun (v9 : Int32) => ax_gd (ax_in (((2 : Int32) * a1) + (0 : Int32)) 204) (ax_let (ax_ai S1 55 0 (((2 : Int32) * a1) + (0 : Int32)).toNatClampNeg) (fun (v11 : Int32) => ax_gd (ax_in (17 : Int32) 204) (ax_bu (f_X12_takesTitled a1 v11 (ax_ai S1 55 0 (17 : Int32).toNatClampNeg) S1) (fun (r16 : Int32) (S13 : AS) => (if r16 ≤ v9 then f_X12_span_L63 ax_F a1 v9 v11 (3 : Int32) S13 else some ((Int32.ofInt (-1)), S13))))))))))))
set_option maxRecDepth 100000 in
theorem t_X12_span_L63 {l : Launch} : ∀ (n : Nat) (x18 : Int32) (x19 : Int32) (x20 : Int32) (x21 : Int32) (S22 : AS) r Z, f_X12_span_L63 n x18 x19 x20 x21 S22 = some (r, Z) → ax_T l 75 ma_X12_span (63, [some (.inr (12, 0)), some (.inl (.int x18)), some (.inl (.int x19)), some (.inl (.int x20)), some (.inl (.int x21))], [], S22) (some (.inl (.int r))) Z := by
  intro n
  induction n with
  | zero =>
    intro x18 x19 x20 x21 S22 r Z h
    cases h
  | succ n ih =>
    intro x18 x19 x20 x21 S22 r Z h
    unfold f_X12_span_L63 at h
    refine ax_Tgo [.iload 4, .iload_n 3] (pc' := 66) (L' := [some (.inr (12, 0)), some (.inl (.int x18)), some (.inl (.int x19)), some (.inl (.int x20)), some (.inl (.int x21))]) (st' := [.inl (.int x20), .inl (.int x21)]) (S' := S22) ok_X12_span.1 (by decide +kernel) rfl rfl ?_
    refine ax_Tic_le (off := 32) (tgt := 98) (by decide +kernel) (by decide) (fun c23 => ?_) (fun c23 => ?_)
    · rw [if_pos c23] at h
      refine ax_Tgo [.iconst 0] (pc' := 99) (L' := [some (.inr (12, 0)), some (.inl (.int x18)), some (.inl (.int x19)), some (.inl (.int x20)), some (.inl (.int x21))]) (st' := [.inl (.int (0 : Int32))]) (S' := S22) ok_X12_span.1 (by decide +kernel) rfl rfl ?_
      cases h
      exact ax_Treti (by decide +kernel) rfl rfl
    · rw [if_neg c23] at h
      refine ax_Tgo [.aload_n 0, .iload_n 1, .iload 4, .aload_n 0, .getfield 61, .bipush 17] (pc' := 79) (L' := [some (.inr (12, 0)), some (.inl (.int x18)), some (.inl (.int x19)), some (.inl (.int x20)), some (.inl (.int x21))]) (st' := [.inl (.int (17 : Int32)), .inr (55, 0), .inl (.int x21), .inl (.int x18), .inr (12, 0)]) (S' := S22) ok_X12_span.1 (by decide +kernel) rfl rfl ?_
      obtain ⟨g24, h⟩ := ax_gd_e h
      refine ax_Tali (n := 204) ok_X12_span.1 (by decide +kernel) (by decide) rfl g24 ?_
      obtain ⟨r28, S25, hq26, h⟩ := ax_bu_e h
      refine ax_TVi (d := 74) (ka := 12) (i := 0) [.inl (.int x18), .inl (.int x21), .inl (.int (ax_ai S22 55 0 (17 : Int32).toNatClampNeg))] [] lk_X12_418 (by decide +kernel) rfl (by decide) rfl (Nat.le_of_ble_eq_true rfl) (Nat.le_of_ble_eq_true rfl) ((t_X12_takesTitled hq26).up (by decide)) ?_
      refine ax_Tgo [.iload_n 2] (pc' := 84) (L' := [some (.inr (12, 0)), some (.inl (.int x18)), some (.inl (.int x19)), some (.inl (.int x20)), some (.inl (.int x21))]) (st' := [.inl (.int x19), .inl (.int r28)]) (S' := S25) ok_X12_span.1 (by decide +kernel) rfl rfl ?_
      refine ax_Tic_gt (off := 8) (tgt := 92) (by decide +kernel) (by decide) (fun c29 => ?_) (fun c29 => ?_)
      · rw [if_pos c29] at h
        refine ax_Tgo [.iinc 4 (-1)] (pc' := 95) (L' := [some (.inr (12, 0)), some (.inl (.int x18)), some (.inl (.int x19)), some (.inl (.int x20)), some (.inl (.int (x21 + (Int32.ofInt (-1)))))]) (st' := []) (S' := S25) ok_X12_span.1 (by decide +kernel) rfl rfl ?_
        obtain ⟨v30, ev30, h⟩ := ax_let_e h
        rw [ev30]
        refine ax_Tgoto (off := (-32)) (tgt := 63) (by decide +kernel) (by decide) ?_
        exact ih x18 x19 x20 v30 S25 _ _ h
      · rw [if_neg c29] at h
        refine ax_Tgo [.iload 4, .iload_n 3, .isub] (pc' := 91) (L' := [some (.inr (12, 0)), some (.inl (.int x18)), some (.inl (.int x19)), some (.inl (.int x20)), some (.inl (.int x21))]) (st' := [.inl (.int (x21 - x20))]) (S' := S25) ok_X12_span.1 (by decide +kernel) rfl rfl ?_
        cases h
        exact ax_Treti (by decide +kernel) rfl rfl
set_option maxRecDepth 100000 in
theorem t_X12_span {l : Launch} {a1 : Int32} {S Z : AS} {r : Int32} (h : f_X12_span a1 S = some (r, Z)) : ax_M l 75 ma_X12_span [.inr (12, 0), .inl (.int a1)] S (some (.inl (.int r))) Z := by
  unfold f_X12_span at h
  show ax_T l 75 ma_X12_span (0, [some (.inr (12, 0)), some (.inl (.int a1)), none, none, none], [], S) (some (.inl (.int r))) Z
  refine ax_Tgo [.aload_n 0, .iconst 0, .putfield 93] (pc' := 5) (L' := [some (.inr (12, 0)), some (.inl (.int a1)), none, none, none]) (st' := []) (S' := (ax_sfi S 12 0 0 (0 : Int32))) ok_X12_span.1 (by decide +kernel) rfl rfl ?_
  obtain ⟨S1, eS1, h⟩ := ax_let_e h
  rw [eS1]
  refine ax_Tgo [.aload_n 0, .iload_n 1] (pc' := 7) (L' := [some (.inr (12, 0)), some (.inl (.int a1)), none, none, none]) (st' := [.inl (.int a1), .inr (12, 0)]) (S' := S1) ok_X12_span.1 (by decide +kernel) rfl rfl ?_
  obtain ⟨r5, hq3, h⟩ := ax_bd_e h
  refine ax_TVi (d := 74) (ka := 12) (i := 0) [.inl (.int a1)] [] lk_X12_324 (by decide +kernel) rfl (by decide) rfl (Nat.le_of_ble_eq_true rfl) (Nat.le_of_ble_eq_true rfl) ((t_X12_isCaller hq3).up (by decide)) ?_
  refine ax_Tif_ne (off := 5) (tgt := 15) (by decide +kernel) (by decide) (fun c6 => ?_) (fun c6 => ?_)
  · rw [if_neg c6] at h
    refine ax_Tgo [.aload_n 0, .getfield 37, .iconst 0] (pc' := 20) (L' := [some (.inr (12, 0)), some (.inl (.int a1)), none, none, none]) (st' := [.inl (.int (0 : Int32)), .inr (47, 0)]) (S' := S1) ok_X12_span.1 (by decide +kernel) rfl rfl ?_
    obtain ⟨g7, h⟩ := ax_gd_e h
    refine ax_Tali (n := 3) ok_X12_span.1 (by decide +kernel) (by decide) rfl g7 ?_
    refine ax_Tgo [.aload_n 0, .getfield 61, .bipush 16] (pc' := 27) (L' := [some (.inr (12, 0)), some (.inl (.int a1)), none, none, none]) (st' := [.inl (.int (16 : Int32)), .inr (55, 0), .inl (.int (ax_ai S1 47 0 (0 : Int32).toNatClampNeg))]) (S' := S1) ok_X12_span.1 (by decide +kernel) rfl rfl ?_
    obtain ⟨g8, h⟩ := ax_gd_e h
    refine ax_Tali (n := 204) ok_X12_span.1 (by decide +kernel) (by decide) rfl g8 ?_
    refine ax_Tgo [.isub, .istore_n 2] (pc' := 30) (L' := [some (.inr (12, 0)), some (.inl (.int a1)), some (.inl (.int ((ax_ai S1 47 0 (0 : Int32).toNatClampNeg) - (ax_ai S1 55 0 (16 : Int32).toNatClampNeg)))), none, none]) (st' := []) (S' := S1) ok_X12_span.1 (by decide +kernel) rfl rfl ?_
    obtain ⟨v9, ev9, h⟩ := ax_let_e h
    rw [ev9]
    refine ax_Tgo [.aload_n 0, .getfield 61, .iconst 2, .iload_n 1, .imul, .iconst 0, .iadd] (pc' := 39) (L' := [some (.inr (12, 0)), some (.inl (.int a1)), some (.inl (.int v9)), none, none]) (st' := [.inl (.int (((2 : Int32) * a1) + (0 : Int32))), .inr (55, 0)]) (S' := S1) ok_X12_span.1 (by decide +kernel) rfl rfl ?_
    obtain ⟨g10, h⟩ := ax_gd_e h
    refine ax_Tali (n := 204) ok_X12_span.1 (by decide +kernel) (by decide) rfl g10 ?_
    refine ax_Tgo [.istore_n 3] (pc' := 41) (L' := [some (.inr (12, 0)), some (.inl (.int a1)), some (.inl (.int v9)), some (.inl (.int (ax_ai S1 55 0 (((2 : Int32) * a1) + (0 : Int32)).toNatClampNeg))), none]) (st' := []) (S' := S1) ok_X12_span.1 (by decide +kernel) rfl rfl ?_
    obtain ⟨v11, ev11, h⟩ := ax_let_e h
    rw [ev11]
    refine ax_Tgo [.aload_n 0, .iload_n 1, .iload_n 3, .aload_n 0, .getfield 61, .bipush 17] (pc' := 50) (L' := [some (.inr (12, 0)), some (.inl (.int a1)), some (.inl (.int v9)), some (.inl (.int v11)), none]) (st' := [.inl (.int (17 : Int32)), .inr (55, 0), .inl (.int v11), .inl (.int a1), .inr (12, 0)]) (S' := S1) ok_X12_span.1 (by decide +kernel) rfl rfl ?_
    obtain ⟨g12, h⟩ := ax_gd_e h
    refine ax_Tali (n := 204) ok_X12_span.1 (by decide +kernel) (by decide) rfl g12 ?_
    obtain ⟨r16, S13, hq14, h⟩ := ax_bu_e h
    refine ax_TVi (d := 74) (ka := 12) (i := 0) [.inl (.int a1), .inl (.int v11), .inl (.int (ax_ai S1 55 0 (17 : Int32).toNatClampNeg))] [] lk_X12_418 (by decide +kernel) rfl (by decide) rfl (Nat.le_of_ble_eq_true rfl) (Nat.le_of_ble_eq_true rfl) ((t_X12_takesTitled hq14).up (by decide)) ?_
    refine ax_Tgo [.iload_n 2] (pc' := 55) (L' := [some (.inr (12, 0)), some (.inl (.int a1)), some (.inl (.int v9)), some (.inl (.int v11)), none]) (st' := [.inl (.int v9), .inl (.int r16)]) (S' := S13) ok_X12_span.1 (by decide +kernel) rfl rfl ?_
    refine ax_Tic_le (off := 5) (tgt := 60) (by decide +kernel) (by decide) (fun c17 => ?_) (fun c17 => ?_)
    · rw [if_pos c17] at h
      refine ax_Tgo [.iconst 3, .istore 4] (pc' := 63) (L' := [some (.inr (12, 0)), some (.inl (.int a1)), some (.inl (.int v9)), some (.inl (.int v11)), some (.inl (.int (3 : Int32)))]) (st' := []) (S' := S13) ok_X12_span.1 (by decide +kernel) rfl rfl ?_
      refine t_X12_span_L63 _ a1 v9 v11 (3 : Int32) S13 _ _ h
    · rw [if_neg c17] at h
      refine ax_Tgo [.iconst (-1)] (pc' := 59) (L' := [some (.inr (12, 0)), some (.inl (.int a1)), some (.inl (.int v9)), some (.inl (.int v11)), none]) (st' := [.inl (.int (Int32.ofInt (-1)))]) (S' := S13) ok_X12_span.1 (by decide +kernel) rfl rfl ?_
      cases h
      exact ax_Treti (by decide +kernel) rfl rfl
  · rw [if_pos c6] at h
    refine ax_Tgo [.iconst (-1)] (pc' := 14) (L' := [some (.inr (12, 0)), some (.inl (.int a1)), none, none, none]) (st' := [.inl (.int (Int32.ofInt (-1)))]) (S' := S1) ok_X12_span.1 (by decide +kernel) rfl rfl ?_
    cases h
    exact ax_Treti (by decide +kernel) rfl rfl
def f_X12_step (a1 : Int32) (a2 : Int32) (a3 : Int32) (S : AS) : Option (Int32 × AS) := ax_let (ax_sfi S 12 0 0 (0 : Int32)) (fun (S1 : AS) => (f_X12_isPlan a1 S1).bind (fun (r5 : Int32) => (if r5 = (0 : Int32) then some ((-1000000 : Int32), S1) else ax_gd (ax_in a1 5) ((f_X12_isIn (a2.toInt64) (0 : Int64) ((ax_ai S1 54 0 a1.toNatClampNeg) - (1 : Int32)).toInt64 S1).bind (fun (r11 : Int32) => (if r11 = (0 : Int32) then some ((-1000000 : Int32), S1) else (f_X12_isIn (a3.toInt64) (0 : Int64) (1 : Int64) S1).bind (fun (r16 : Int32) => (if r16 = (0 : Int32) then some ((-1000000 : Int32), S1) else ax_gd (ax_in (((2 : Int32) * (((16 : Int32) * a1) + a2)) + a3) 160) (some ((ax_ai S1 53 0 (((2 : Int32) * (((16 : Int32) * a1) + a2)) + a3).toNatClampNeg), S1))))))))))
set_option maxRecDepth 100000 in
theorem t_X12_step {l : Launch} {a1 : Int32} {a2 : Int32} {a3 : Int32} {S Z : AS} {r : Int32} (h : f_X12_step a1 a2 a3 S = some (r, Z)) : ax_M l 1 ma_X12_step [.inr (12, 0), .inl (.int a1), .inl (.int a2), .inl (.int a3)] S (some (.inl (.int r))) Z := by
  unfold f_X12_step at h
  show ax_T l 1 ma_X12_step (0, [some (.inr (12, 0)), some (.inl (.int a1)), some (.inl (.int a2)), some (.inl (.int a3))], [], S) (some (.inl (.int r))) Z
  refine ax_Tgo [.aload_n 0, .iconst 0, .putfield 93] (pc' := 5) (L' := [some (.inr (12, 0)), some (.inl (.int a1)), some (.inl (.int a2)), some (.inl (.int a3))]) (st' := []) (S' := (ax_sfi S 12 0 0 (0 : Int32))) ok_X12_step.1 (by decide +kernel) rfl rfl ?_
  obtain ⟨S1, eS1, h⟩ := ax_let_e h
  rw [eS1]
  refine ax_Tgo [.aload_n 0, .iload_n 1] (pc' := 7) (L' := [some (.inr (12, 0)), some (.inl (.int a1)), some (.inl (.int a2)), some (.inl (.int a3))]) (st' := [.inl (.int a1), .inr (12, 0)]) (S' := S1) ok_X12_step.1 (by decide +kernel) rfl rfl ?_
  obtain ⟨r5, hq3, h⟩ := ax_bd_e h
  refine ax_TVi (d := 0) (ka := 12) (i := 0) [.inl (.int a1)] [] lk_X12_385 (by decide +kernel) rfl (by decide) rfl (Nat.le_of_ble_eq_true rfl) (Nat.le_of_ble_eq_true rfl) ((t_X12_isPlan hq3).up (by decide)) ?_
  refine ax_Tif_eq (off := 49) (tgt := 59) (by decide +kernel) (by decide) (fun c6 => ?_) (fun c6 => ?_)
  · rw [if_pos c6] at h
    refine ax_Tgo [.ldc_w 388] (pc' := 62) (L' := [some (.inr (12, 0)), some (.inl (.int a1)), some (.inl (.int a2)), some (.inl (.int a3))]) (st' := [.inl (.int (-1000000 : Int32))]) (S' := S1) ok_X12_step.1 (by decide +kernel) rfl rfl ?_
    cases h
    exact ax_Treti (by decide +kernel) rfl rfl
  · rw [if_neg c6] at h
    refine ax_Tgo [.iload_n 2, .i2l, .lconst 0, .aload_n 0, .getfield 58, .iload_n 1] (pc' := 21) (L' := [some (.inr (12, 0)), some (.inl (.int a1)), some (.inl (.int a2)), some (.inl (.int a3))]) (st' := [.inl (.int a1), .inr (54, 0), .inl (.long (0 : Int64)), .inl (.long a2.toInt64)]) (S' := S1) ok_X12_step.1 (by decide +kernel) rfl rfl ?_
    obtain ⟨g7, h⟩ := ax_gd_e h
    refine ax_Tali (n := 5) ok_X12_step.1 (by decide +kernel) (by decide) rfl g7 ?_
    refine ax_Tgo [.iconst 1, .isub, .i2l] (pc' := 25) (L' := [some (.inr (12, 0)), some (.inl (.int a1)), some (.inl (.int a2)), some (.inl (.int a3))]) (st' := [.inl (.long ((ax_ai S1 54 0 a1.toNatClampNeg) - (1 : Int32)).toInt64), .inl (.long (0 : Int64)), .inl (.long a2.toInt64)]) (S' := S1) ok_X12_step.1 (by decide +kernel) rfl rfl ?_
    obtain ⟨r11, hq9, h⟩ := ax_bd_e h
    refine ax_TSi (d := 0) [.inl (.long a2.toInt64), .inl (.long (0 : Int64)), .inl (.long ((ax_ai S1 54 0 a1.toNatClampNeg) - (1 : Int32)).toInt64)] [] lk_X12_214 (by decide +kernel) rfl rfl (Nat.le_of_ble_eq_true rfl) (Nat.le_of_ble_eq_true rfl) ((t_X12_isIn hq9).up (by decide)) ?_
    refine ax_Tif_eq (off := 31) (tgt := 59) (by decide +kernel) (by decide) (fun c12 => ?_) (fun c12 => ?_)
    · rw [if_pos c12] at h
      refine ax_Tgo [.ldc_w 388] (pc' := 62) (L' := [some (.inr (12, 0)), some (.inl (.int a1)), some (.inl (.int a2)), some (.inl (.int a3))]) (st' := [.inl (.int (-1000000 : Int32))]) (S' := S1) ok_X12_step.1 (by decide +kernel) rfl rfl ?_
      cases h
      exact ax_Treti (by decide +kernel) rfl rfl
    · rw [if_neg c12] at h
      refine ax_Tgo [.iload_n 3, .i2l, .lconst 0, .lconst 1] (pc' := 35) (L' := [some (.inr (12, 0)), some (.inl (.int a1)), some (.inl (.int a2)), some (.inl (.int a3))]) (st' := [.inl (.long (1 : Int64)), .inl (.long (0 : Int64)), .inl (.long a3.toInt64)]) (S' := S1) ok_X12_step.1 (by decide +kernel) rfl rfl ?_
      obtain ⟨r16, hq14, h⟩ := ax_bd_e h
      refine ax_TSi (d := 0) [.inl (.long a3.toInt64), .inl (.long (0 : Int64)), .inl (.long (1 : Int64))] [] lk_X12_214 (by decide +kernel) rfl rfl (Nat.le_of_ble_eq_true rfl) (Nat.le_of_ble_eq_true rfl) ((t_X12_isIn hq14).up (by decide)) ?_
      refine ax_Tif_eq (off := 21) (tgt := 59) (by decide +kernel) (by decide) (fun c17 => ?_) (fun c17 => ?_)
      · rw [if_pos c17] at h
        refine ax_Tgo [.ldc_w 388] (pc' := 62) (L' := [some (.inr (12, 0)), some (.inl (.int a1)), some (.inl (.int a2)), some (.inl (.int a3))]) (st' := [.inl (.int (-1000000 : Int32))]) (S' := S1) ok_X12_step.1 (by decide +kernel) rfl rfl ?_
        cases h
        exact ax_Treti (by decide +kernel) rfl rfl
      · rw [if_neg c17] at h
        refine ax_Tgo [.aload_n 0, .getfield 55, .iconst 2, .bipush 16, .iload_n 1, .imul, .iload_n 2, .iadd, .imul, .iload_n 3, .iadd] (pc' := 55) (L' := [some (.inr (12, 0)), some (.inl (.int a1)), some (.inl (.int a2)), some (.inl (.int a3))]) (st' := [.inl (.int (((2 : Int32) * (((16 : Int32) * a1) + a2)) + a3)), .inr (53, 0)]) (S' := S1) ok_X12_step.1 (by decide +kernel) rfl rfl ?_
        obtain ⟨g18, h⟩ := ax_gd_e h
        refine ax_Tali (n := 160) ok_X12_step.1 (by decide +kernel) (by decide) rfl g18 ?_
        refine ax_Tgoto (off := 6) (tgt := 62) (by decide +kernel) (by decide) ?_
        cases h
        exact ax_Treti (by decide +kernel) rfl rfl
def f_X12_sung (a1 : Int32) (a2 : Int32) (S : AS) : Option (Int32 × AS) := ax_let (ax_sfi S 12 0 0 (0 : Int32)) (fun (S1 : AS) => (f_X12_isCaller a1 S1).bind (fun (r5 : Int32) => (if r5 = (0 : Int32) then some ((Int32.ofInt (-1)), S1) else (f_X12_isIn (a2.toInt64) (0 : Int64) (1 : Int64) S1).bind (fun (r10 : Int32) => (if r10 = (0 : Int32) then some ((Int32.ofInt (-1)), S1) else (f_X12_of a1 (1 : Int32) S1).bind (fun (r15 : Int32) => ax_gd (ax_in (((2 : Int32) * a1) + (0 : Int32)) 204) (ax_gd (ax_in (17 : Int32) 204) (ax_gd (ax_in (22 : Int32) 204) (ax_bu (f_X12_takes_ a1 r15 (ax_ai S1 55 0 (((2 : Int32) * a1) + (0 : Int32)).toNatClampNeg) (ax_ai S1 55 0 (17 : Int32).toNatClampNeg) ((1 : Int32) - a2) (ax_ai S1 55 0 (22 : Int32).toNatClampNeg) S1) (fun (r22 : Int32) (S19 : AS) => some (r22, S19)))))))))))
set_option maxRecDepth 100000 in
theorem t_X12_sung {l : Launch} {a1 : Int32} {a2 : Int32} {S Z : AS} {r : Int32} (h : f_X12_sung a1 a2 S = some (r, Z)) : ax_M l 74 ma_X12_sung [.inr (12, 0), .inl (.int a1), .inl (.int a2)] S (some (.inl (.int r))) Z := by
  unfold f_X12_sung at h
  show ax_T l 74 ma_X12_sung (0, [some (.inr (12, 0)), some (.inl (.int a1)), some (.inl (.int a2))], [], S) (some (.inl (.int r))) Z
  refine ax_Tgo [.aload_n 0, .iconst 0, .putfield 93] (pc' := 5) (L' := [some (.inr (12, 0)), some (.inl (.int a1)), some (.inl (.int a2))]) (st' := []) (S' := (ax_sfi S 12 0 0 (0 : Int32))) ok_X12_sung.1 (by decide +kernel) rfl rfl ?_
  obtain ⟨S1, eS1, h⟩ := ax_let_e h
  rw [eS1]
  refine ax_Tgo [.aload_n 0, .iload_n 1] (pc' := 7) (L' := [some (.inr (12, 0)), some (.inl (.int a1)), some (.inl (.int a2))]) (st' := [.inl (.int a1), .inr (12, 0)]) (S' := S1) ok_X12_sung.1 (by decide +kernel) rfl rfl ?_
  obtain ⟨r5, hq3, h⟩ := ax_bd_e h
  refine ax_TVi (d := 73) (ka := 12) (i := 0) [.inl (.int a1)] [] lk_X12_324 (by decide +kernel) rfl (by decide) rfl (Nat.le_of_ble_eq_true rfl) (Nat.le_of_ble_eq_true rfl) ((t_X12_isCaller hq3).up (by decide)) ?_
  refine ax_Tif_eq (off := 54) (tgt := 64) (by decide +kernel) (by decide) (fun c6 => ?_) (fun c6 => ?_)
  · rw [if_pos c6] at h
    refine ax_Tgo [.iconst (-1)] (pc' := 65) (L' := [some (.inr (12, 0)), some (.inl (.int a1)), some (.inl (.int a2))]) (st' := [.inl (.int (Int32.ofInt (-1)))]) (S' := S1) ok_X12_sung.1 (by decide +kernel) rfl rfl ?_
    cases h
    exact ax_Treti (by decide +kernel) rfl rfl
  · rw [if_neg c6] at h
    refine ax_Tgo [.iload_n 2, .i2l, .lconst 0, .lconst 1] (pc' := 17) (L' := [some (.inr (12, 0)), some (.inl (.int a1)), some (.inl (.int a2))]) (st' := [.inl (.long (1 : Int64)), .inl (.long (0 : Int64)), .inl (.long a2.toInt64)]) (S' := S1) ok_X12_sung.1 (by decide +kernel) rfl rfl ?_
    obtain ⟨r10, hq8, h⟩ := ax_bd_e h
    refine ax_TSi (d := 73) [.inl (.long a2.toInt64), .inl (.long (0 : Int64)), .inl (.long (1 : Int64))] [] lk_X12_214 (by decide +kernel) rfl rfl (Nat.le_of_ble_eq_true rfl) (Nat.le_of_ble_eq_true rfl) ((t_X12_isIn hq8).up (by decide)) ?_
    refine ax_Tif_eq (off := 44) (tgt := 64) (by decide +kernel) (by decide) (fun c11 => ?_) (fun c11 => ?_)
    · rw [if_pos c11] at h
      refine ax_Tgo [.iconst (-1)] (pc' := 65) (L' := [some (.inr (12, 0)), some (.inl (.int a1)), some (.inl (.int a2))]) (st' := [.inl (.int (Int32.ofInt (-1)))]) (S' := S1) ok_X12_sung.1 (by decide +kernel) rfl rfl ?_
      cases h
      exact ax_Treti (by decide +kernel) rfl rfl
    · rw [if_neg c11] at h
      refine ax_Tgo [.aload_n 0, .iload_n 1, .aload_n 0, .iload_n 1, .iconst 1] (pc' := 28) (L' := [some (.inr (12, 0)), some (.inl (.int a1)), some (.inl (.int a2))]) (st' := [.inl (.int (1 : Int32)), .inl (.int a1), .inr (12, 0), .inl (.int a1), .inr (12, 0)]) (S' := S1) ok_X12_sung.1 (by decide +kernel) rfl rfl ?_
      obtain ⟨r15, hq13, h⟩ := ax_bd_e h
      refine ax_TVi (d := 73) (ka := 12) (i := 0) [.inl (.int a1), .inl (.int (1 : Int32))] [.inl (.int a1), .inr (12, 0)] lk_X12_311 (by decide +kernel) rfl (by decide) rfl (Nat.le_of_ble_eq_true rfl) (Nat.le_of_ble_eq_true rfl) ((t_X12_of hq13).up (by decide)) ?_
      refine ax_Tgo [.aload_n 0, .getfield 61, .iconst 2, .iload_n 1, .imul, .iconst 0, .iadd] (pc' := 40) (L' := [some (.inr (12, 0)), some (.inl (.int a1)), some (.inl (.int a2))]) (st' := [.inl (.int (((2 : Int32) * a1) + (0 : Int32))), .inr (55, 0), .inl (.int r15), .inl (.int a1), .inr (12, 0)]) (S' := S1) ok_X12_sung.1 (by decide +kernel) rfl rfl ?_
      obtain ⟨g16, h⟩ := ax_gd_e h
      refine ax_Tali (n := 204) ok_X12_sung.1 (by decide +kernel) (by decide) rfl g16 ?_
      refine ax_Tgo [.aload_n 0, .getfield 61, .bipush 17] (pc' := 47) (L' := [some (.inr (12, 0)), some (.inl (.int a1)), some (.inl (.int a2))]) (st' := [.inl (.int (17 : Int32)), .inr (55, 0), .inl (.int (ax_ai S1 55 0 (((2 : Int32) * a1) + (0 : Int32)).toNatClampNeg)), .inl (.int r15), .inl (.int a1), .inr (12, 0)]) (S' := S1) ok_X12_sung.1 (by decide +kernel) rfl rfl ?_
      obtain ⟨g17, h⟩ := ax_gd_e h
      refine ax_Tali (n := 204) ok_X12_sung.1 (by decide +kernel) (by decide) rfl g17 ?_
      refine ax_Tgo [.iconst 1, .iload_n 2, .isub, .aload_n 0, .getfield 61, .bipush 22] (pc' := 57) (L' := [some (.inr (12, 0)), some (.inl (.int a1)), some (.inl (.int a2))]) (st' := [.inl (.int (22 : Int32)), .inr (55, 0), .inl (.int ((1 : Int32) - a2)), .inl (.int (ax_ai S1 55 0 (17 : Int32).toNatClampNeg)), .inl (.int (ax_ai S1 55 0 (((2 : Int32) * a1) + (0 : Int32)).toNatClampNeg)), .inl (.int r15), .inl (.int a1), .inr (12, 0)]) (S' := S1) ok_X12_sung.1 (by decide +kernel) rfl rfl ?_
      obtain ⟨g18, h⟩ := ax_gd_e h
      refine ax_Tali (n := 204) ok_X12_sung.1 (by decide +kernel) (by decide) rfl g18 ?_
      obtain ⟨r22, S19, hq20, h⟩ := ax_bu_e h
      refine ax_TVi (d := 73) (ka := 12) (i := 0) [.inl (.int a1), .inl (.int r15), .inl (.int (ax_ai S1 55 0 (((2 : Int32) * a1) + (0 : Int32)).toNatClampNeg)), .inl (.int (ax_ai S1 55 0 (17 : Int32).toNatClampNeg)), .inl (.int ((1 : Int32) - a2)), .inl (.int (ax_ai S1 55 0 (22 : Int32).toNatClampNeg))] [] lk_X12_322 (by decide +kernel) rfl (by decide) rfl (Nat.le_of_ble_eq_true rfl) (Nat.le_of_ble_eq_true rfl) ((t_X12_takes_ hq20).up (by decide)) ?_
      refine ax_Tgoto (off := 4) (tgt := 65) (by decide +kernel) (by decide) ?_
      cases h
      exact ax_Treti (by decide +kernel) rfl rfl

/-! METHODS of the reference as functions, by program -/
def f_X12_takesTitled (a1 : Int32) (a2 : Int32) (a3 : Int32) (S : AS) : Option (Int32 × AS) := (f_X12_of a1 (1 : Int32) S).bind (fun (r4 : Int32) => ax_gd (ax_in (18 : Int32) 204) (ax_gd (ax_in (22 : Int32) 204) (ax_bu (f_X12_takes_ a1 r4 a2 a3 (ax_ai S 55 0 (18 : Int32).toNatClampNeg) (ax_ai S 55 0 (22 : Int32).toNatClampNeg) S) (fun (r10 : Int32) (S7 : AS) => some (r10, S7)))))
set_option maxRecDepth 100000 in
theorem t_X12_takesTitled {l : Launch} {a1 : Int32} {a2 : Int32} {a3 : Int32} {S Z : AS} {r : Int32} (h : f_X12_takesTitled a1 a2 a3 S = some (r, Z)) : ax_M l 74 ma_X12_takesTitled [.inr (12, 0), .inl (.int a1), .inl (.int a2), .inl (.int a3)] S (some (.inl (.int r))) Z := by
  unfold f_X12_takesTitled at h
  show ax_T l 74 ma_X12_takesTitled (0, [some (.inr (12, 0)), some (.inl (.int a1)), some (.inl (.int a2)), some (.inl (.int a3))], [], S) (some (.inl (.int r))) Z
  refine ax_Tgo [.aload_n 0, .iload_n 1, .aload_n 0, .iload_n 1, .iconst 1] (pc' := 5) (L' := [some (.inr (12, 0)), some (.inl (.int a1)), some (.inl (.int a2)), some (.inl (.int a3))]) (st' := [.inl (.int (1 : Int32)), .inl (.int a1), .inr (12, 0), .inl (.int a1), .inr (12, 0)]) (S' := S) ok_X12_takesTitled.1 (by decide +kernel) rfl rfl ?_
  obtain ⟨r4, hq2, h⟩ := ax_bd_e h
  refine ax_TVi (d := 73) (ka := 12) (i := 0) [.inl (.int a1), .inl (.int (1 : Int32))] [.inl (.int a1), .inr (12, 0)] lk_X12_311 (by decide +kernel) rfl (by decide) rfl (Nat.le_of_ble_eq_true rfl) (Nat.le_of_ble_eq_true rfl) ((t_X12_of hq2).up (by decide)) ?_
  refine ax_Tgo [.iload_n 2, .iload_n 3, .aload_n 0, .getfield 61, .bipush 18] (pc' := 16) (L' := [some (.inr (12, 0)), some (.inl (.int a1)), some (.inl (.int a2)), some (.inl (.int a3))]) (st' := [.inl (.int (18 : Int32)), .inr (55, 0), .inl (.int a3), .inl (.int a2), .inl (.int r4), .inl (.int a1), .inr (12, 0)]) (S' := S) ok_X12_takesTitled.1 (by decide +kernel) rfl rfl ?_
  obtain ⟨g5, h⟩ := ax_gd_e h
  refine ax_Tali (n := 204) ok_X12_takesTitled.1 (by decide +kernel) (by decide) rfl g5 ?_
  refine ax_Tgo [.aload_n 0, .getfield 61, .bipush 22] (pc' := 23) (L' := [some (.inr (12, 0)), some (.inl (.int a1)), some (.inl (.int a2)), some (.inl (.int a3))]) (st' := [.inl (.int (22 : Int32)), .inr (55, 0), .inl (.int (ax_ai S 55 0 (18 : Int32).toNatClampNeg)), .inl (.int a3), .inl (.int a2), .inl (.int r4), .inl (.int a1), .inr (12, 0)]) (S' := S) ok_X12_takesTitled.1 (by decide +kernel) rfl rfl ?_
  obtain ⟨g6, h⟩ := ax_gd_e h
  refine ax_Tali (n := 204) ok_X12_takesTitled.1 (by decide +kernel) (by decide) rfl g6 ?_
  obtain ⟨r10, S7, hq8, h⟩ := ax_bu_e h
  refine ax_TVi (d := 73) (ka := 12) (i := 0) [.inl (.int a1), .inl (.int r4), .inl (.int a2), .inl (.int a3), .inl (.int (ax_ai S 55 0 (18 : Int32).toNatClampNeg)), .inl (.int (ax_ai S 55 0 (22 : Int32).toNatClampNeg))] [] lk_X12_322 (by decide +kernel) rfl (by decide) rfl (Nat.le_of_ble_eq_true rfl) (Nat.le_of_ble_eq_true rfl) ((t_X12_takes_ hq8).up (by decide)) ?_
  cases h
  exact ax_Treti (by decide +kernel) rfl rfl
def f_X12_all_L100 (K136 : Int32 → AS → Option (Int32 × AS)) : Nat → Int32 → Int32 → AS → Option (Int32 × AS)
  | 0, _, _, _ => none
  | n + 1, x37, x38, S40 => (if (ax_fi S40 12 0 27) ≤ x38 then K136 x37 S40 else ax_bu (f_X12_canCall_55x0 x38 S40) (fun (r45 : Int32) (S42 : AS) => (if r45 = (0 : Int32) then ax_let (x37 ||| (0 : Int32)) (fun (v47 : Int32) => ax_let (x38 + (1 : Int32)) (fun (v48 : Int32) => f_X12_all_L100 K136 n v47 v48 S42)) else ax_let (x37 ||| ((1 : Int32) <<< (x38 &&& 31))) (fun (v49 : Int32) => ax_let (x38 + (1 : Int32)) (fun (v50 : Int32) => f_X12_all_L100 K136 n v49 v50 S42)))))
def f_X12_all_L140 (K172 : Int32 → AS → Option (Int32 × AS)) : Nat → Int32 → Int32 → AS → Option (Int32 × AS)
  | 0, _, _, _ => none
  | n + 1, x53, x54, S56 => (if (ax_fi S56 12 0 27) ≤ x54 then K172 x53 S56 else ax_bu (f_X12_would x54 S56) (fun (r61 : Int32) (S58 : AS) => (if r61 = (0 : Int32) then ax_let (x53 ||| (0 : Int32)) (fun (v63 : Int32) => ax_let (x54 + (1 : Int32)) (fun (v64 : Int32) => f_X12_all_L140 K172 n v63 v64 S58)) else ax_let (x53 ||| ((1 : Int32) <<< (x54 &&& 31))) (fun (v65 : Int32) => ax_let (x54 + (1 : Int32)) (fun (v66 : Int32) => f_X12_all_L140 K172 n v65 v66 S58)))))
def f_X12_all_L176 (K217 : Int32 → AS → Option (Int32 × AS)) : Nat → Int32 → Int32 → AS → Option (Int32 × AS)
  | 0, _, _, _ => none
  | n + 1, x69, x70, S72 => (if (ax_fi S72 12 0 27) ≤ x70 then K217 x69 S72 else ax_gd (ax_in (((2 : Int32) * x70) + (0 : Int32)) 204) (ax_gd (ax_in (17 : Int32) 204) (ax_bu (f_X12_takesTitled x70 (ax_ai S72 55 0 (((2 : Int32) * x70) + (0 : Int32)).toNatClampNeg) ((ax_ai S72 55 0 (17 : Int32).toNatClampNeg) + x70) S72) (fun (r79 : Int32) (S76 : AS) => ax_let (x69 + r79) (fun (v80 : Int32) => ax_let (x70 + (1 : Int32)) (fun (v81 : Int32) => f_X12_all_L176 K217 n v80 v81 S76))))))
def f_X12_all (a1 : Int32) (S : AS) : Option (Int32 × AS) := ax_let (ax_sfi S 12 0 0 (0 : Int32)) (fun (S1 : AS) => (if (ax_fi S1 12 0 27) = (0 : Int32) then some ((Int32.ofInt (-1)), S1) else (if a1 = (0 : Int32) then ax_gd (ax_in (0 : Int32) 3) (ax_gd (ax_in (16 : Int32) 204) (some (((ax_ai S1 47 0 (0 : Int32).toNatClampNeg) - (ax_ai S1 55 0 (16 : Int32).toNatClampNeg)), S1))) else if a1 = (1 : Int32) then ax_bu (f_X12_greatest a1 S1) (fun (r10 : Int32) (S7 : AS) => some (r10, S7)) else if a1 = (2 : Int32) then ax_bu (f_X12_greatest a1 S1) (fun (r15 : Int32) (S12 : AS) => some (r15, S12)) else if a1 = (3 : Int32) then ax_bu (f_X12_greatest a1 S1) (fun (r20 : Int32) (S17 : AS) => some (r20, S17)) else if a1 = (4 : Int32) then ax_bu (f_X12_greatest a1 S1) (fun (r25 : Int32) (S22 : AS) => some (r25, S22)) else if a1 = (5 : Int32) then ax_bu (f_X12_greatest a1 S1) (fun (r30 : Int32) (S27 : AS) => some (r30, S27)) else if a1 = (6 : Int32) then (f_X12_keenest S1).bind (fun (r35 : Int32) => some (r35, S1)) else if a1 = (7 : Int32) then f_X12_all_L100 (fun (x39 : Int32) (S51 : AS) => some (x39, S51)) ax_F (0 : Int32) (0 : Int32) S1 else if a1 = (8 : Int32) then f_X12_all_L140 (fun (x55 : Int32) (S67 : AS) => some (x55, S67)) ax_F (0 : Int32) (0 : Int32) S1 else if a1 = (9 : Int32) then f_X12_all_L176 (fun (x71 : Int32) (S82 : AS) => some (x71, S82)) ax_F (0 : Int32) (0 : Int32) S1 else some ((Int32.ofInt (-1)), S1))))
set_option maxRecDepth 100000 in
theorem t_X12_all_L100 {l : Launch} {K136 : Int32 → AS → Option (Int32 × AS)} (hK136 : ∀ (x39 : Int32) (S : AS) r Z, K136 x39 S = some (r, Z) → ax_T l 77 ma_X12_all (136, [none, none, some (.inl (.int x39)), none], [], S) (some (.inl (.int r))) Z) : ∀ (n : Nat) (x37 : Int32) (x38 : Int32) (S40 : AS) r Z, f_X12_all_L100 K136 n x37 x38 S40 = some (r, Z) → ax_T l 77 ma_X12_all (100, [some (.inr (12, 0)), none, some (.inl (.int x37)), some (.inl (.int x38))], [], S40) (some (.inl (.int r))) Z := by
  intro n
  induction n with
  | zero =>
    intro x37 x38 S40 r Z h
    cases h
  | succ n ih =>
    intro x37 x38 S40 r Z h
    unfold f_X12_all_L100 at h
    refine ax_Tgo [.iload_n 3, .aload_n 0, .getfield 291] (pc' := 105) (L' := [some (.inr (12, 0)), none, some (.inl (.int x37)), some (.inl (.int x38))]) (st' := [.inl (.int (ax_fi S40 12 0 27)), .inl (.int x38)]) (S' := S40) ok_X12_all.1 (by decide +kernel) rfl rfl ?_
    refine ax_Tic_ge (off := 31) (tgt := 136) (by decide +kernel) (by decide) (fun c41 => ?_) (fun c41 => ?_)
    · rw [if_pos c41] at h
      refine ax_Tdrop [false, true, true, false] (L' := [none, none, some (.inl (.int x37)), none]) rfl ?_
      exact hK136 x37 S40 _ _ h
    · rw [if_neg c41] at h
      refine ax_Tgo [.iload_n 2, .aload_n 0, .aload_n 0, .getfield 61, .iload_n 3] (pc' := 115) (L' := [some (.inr (12, 0)), none, some (.inl (.int x37)), some (.inl (.int x38))]) (st' := [.inl (.int x38), .inr (55, 0), .inr (12, 0), .inl (.int x37)]) (S' := S40) ok_X12_all.1 (by decide +kernel) rfl rfl ?_
      obtain ⟨r45, S42, hq43, h⟩ := ax_bu_e h
      refine ax_TVi (d := 76) (ka := 12) (i := 0) [.inr (55, 0), .inl (.int x38)] [.inl (.int x37)] lk_X12_348 (by decide +kernel) rfl (by decide) rfl (Nat.le_of_ble_eq_true rfl) (Nat.le_of_ble_eq_true rfl) ((t_X12_canCall_55x0 hq43).up (by decide)) ?_
      refine ax_Tif_eq (off := 9) (tgt := 127) (by decide +kernel) (by decide) (fun c46 => ?_) (fun c46 => ?_)
      · rw [if_pos c46] at h
        refine ax_Tgo [.iconst 0, .ior, .istore_n 2] (pc' := 130) (L' := [some (.inr (12, 0)), none, some (.inl (.int (x37 ||| (0 : Int32)))), some (.inl (.int x38))]) (st' := []) (S' := S42) ok_X12_all.1 (by decide +kernel) rfl rfl ?_
        obtain ⟨v47, ev47, h⟩ := ax_let_e h
        rw [ev47]
        refine ax_Tgo [.iinc 3 1] (pc' := 133) (L' := [some (.inr (12, 0)), none, some (.inl (.int v47)), some (.inl (.int (x38 + (1 : Int32))))]) (st' := []) (S' := S42) ok_X12_all.1 (by decide +kernel) rfl rfl ?_
        obtain ⟨v48, ev48, h⟩ := ax_let_e h
        rw [ev48]
        refine ax_Tgoto (off := (-33)) (tgt := 100) (by decide +kernel) (by decide) ?_
        exact ih v47 v48 S42 _ _ h
      · rw [if_neg c46] at h
        refine ax_Tgo [.iconst 1, .iload_n 3, .ishl] (pc' := 124) (L' := [some (.inr (12, 0)), none, some (.inl (.int x37)), some (.inl (.int x38))]) (st' := [.inl (.int ((1 : Int32) <<< (x38 &&& 31))), .inl (.int x37)]) (S' := S42) ok_X12_all.1 (by decide +kernel) rfl rfl ?_
        refine ax_Tgoto (off := 4) (tgt := 128) (by decide +kernel) (by decide) ?_
        refine ax_Tgo [.ior, .istore_n 2] (pc' := 130) (L' := [some (.inr (12, 0)), none, some (.inl (.int (x37 ||| ((1 : Int32) <<< (x38 &&& 31))))), some (.inl (.int x38))]) (st' := []) (S' := S42) ok_X12_all.1 (by decide +kernel) rfl rfl ?_
        obtain ⟨v49, ev49, h⟩ := ax_let_e h
        rw [ev49]
        refine ax_Tgo [.iinc 3 1] (pc' := 133) (L' := [some (.inr (12, 0)), none, some (.inl (.int v49)), some (.inl (.int (x38 + (1 : Int32))))]) (st' := []) (S' := S42) ok_X12_all.1 (by decide +kernel) rfl rfl ?_
        obtain ⟨v50, ev50, h⟩ := ax_let_e h
        rw [ev50]
        refine ax_Tgoto (off := (-33)) (tgt := 100) (by decide +kernel) (by decide) ?_
        exact ih v49 v50 S42 _ _ h
set_option maxRecDepth 100000 in
theorem t_X12_all_L140 {l : Launch} {K172 : Int32 → AS → Option (Int32 × AS)} (hK172 : ∀ (x55 : Int32) (S : AS) r Z, K172 x55 S = some (r, Z) → ax_T l 77 ma_X12_all (172, [none, none, some (.inl (.int x55)), none], [], S) (some (.inl (.int r))) Z) : ∀ (n : Nat) (x53 : Int32) (x54 : Int32) (S56 : AS) r Z, f_X12_all_L140 K172 n x53 x54 S56 = some (r, Z) → ax_T l 77 ma_X12_all (140, [some (.inr (12, 0)), none, some (.inl (.int x53)), some (.inl (.int x54))], [], S56) (some (.inl (.int r))) Z := by
  intro n
  induction n with
  | zero =>
    intro x53 x54 S56 r Z h
    cases h
  | succ n ih =>
    intro x53 x54 S56 r Z h
    unfold f_X12_all_L140 at h
    refine ax_Tgo [.iload_n 3, .aload_n 0, .getfield 291] (pc' := 145) (L' := [some (.inr (12, 0)), none, some (.inl (.int x53)), some (.inl (.int x54))]) (st' := [.inl (.int (ax_fi S56 12 0 27)), .inl (.int x54)]) (S' := S56) ok_X12_all.1 (by decide +kernel) rfl rfl ?_
    refine ax_Tic_ge (off := 27) (tgt := 172) (by decide +kernel) (by decide) (fun c57 => ?_) (fun c57 => ?_)
    · rw [if_pos c57] at h
      refine ax_Tdrop [false, true, true, false] (L' := [none, none, some (.inl (.int x53)), none]) rfl ?_
      exact hK172 x53 S56 _ _ h
    · rw [if_neg c57] at h
      refine ax_Tgo [.iload_n 2, .aload_n 0, .iload_n 3] (pc' := 151) (L' := [some (.inr (12, 0)), none, some (.inl (.int x53)), some (.inl (.int x54))]) (st' := [.inl (.int x54), .inr (12, 0), .inl (.int x53)]) (S' := S56) ok_X12_all.1 (by decide +kernel) rfl rfl ?_
      obtain ⟨r61, S58, hq59, h⟩ := ax_bu_e h
      refine ax_TVi (d := 76) (ka := 12) (i := 0) [.inl (.int x54)] [.inl (.int x53)] lk_X12_399 (by decide +kernel) rfl (by decide) rfl (Nat.le_of_ble_eq_true rfl) (Nat.le_of_ble_eq_true rfl) ((t_X12_would hq59).up (by decide)) ?_
      refine ax_Tif_eq (off := 9) (tgt := 163) (by decide +kernel) (by decide) (fun c62 => ?_) (fun c62 => ?_)
      · rw [if_pos c62] at h
        refine ax_Tgo [.iconst 0, .ior, .istore_n 2] (pc' := 166) (L' := [some (.inr (12, 0)), none, some (.inl (.int (x53 ||| (0 : Int32)))), some (.inl (.int x54))]) (st' := []) (S' := S58) ok_X12_all.1 (by decide +kernel) rfl rfl ?_
        obtain ⟨v63, ev63, h⟩ := ax_let_e h
        rw [ev63]
        refine ax_Tgo [.iinc 3 1] (pc' := 169) (L' := [some (.inr (12, 0)), none, some (.inl (.int v63)), some (.inl (.int (x54 + (1 : Int32))))]) (st' := []) (S' := S58) ok_X12_all.1 (by decide +kernel) rfl rfl ?_
        obtain ⟨v64, ev64, h⟩ := ax_let_e h
        rw [ev64]
        refine ax_Tgoto (off := (-29)) (tgt := 140) (by decide +kernel) (by decide) ?_
        exact ih v63 v64 S58 _ _ h
      · rw [if_neg c62] at h
        refine ax_Tgo [.iconst 1, .iload_n 3, .ishl] (pc' := 160) (L' := [some (.inr (12, 0)), none, some (.inl (.int x53)), some (.inl (.int x54))]) (st' := [.inl (.int ((1 : Int32) <<< (x54 &&& 31))), .inl (.int x53)]) (S' := S58) ok_X12_all.1 (by decide +kernel) rfl rfl ?_
        refine ax_Tgoto (off := 4) (tgt := 164) (by decide +kernel) (by decide) ?_
        refine ax_Tgo [.ior, .istore_n 2] (pc' := 166) (L' := [some (.inr (12, 0)), none, some (.inl (.int (x53 ||| ((1 : Int32) <<< (x54 &&& 31))))), some (.inl (.int x54))]) (st' := []) (S' := S58) ok_X12_all.1 (by decide +kernel) rfl rfl ?_
        obtain ⟨v65, ev65, h⟩ := ax_let_e h
        rw [ev65]
        refine ax_Tgo [.iinc 3 1] (pc' := 169) (L' := [some (.inr (12, 0)), none, some (.inl (.int v65)), some (.inl (.int (x54 + (1 : Int32))))]) (st' := []) (S' := S58) ok_X12_all.1 (by decide +kernel) rfl rfl ?_
        obtain ⟨v66, ev66, h⟩ := ax_let_e h
        rw [ev66]
        refine ax_Tgoto (off := (-29)) (tgt := 140) (by decide +kernel) (by decide) ?_
        exact ih v65 v66 S58 _ _ h
set_option maxRecDepth 100000 in
theorem t_X12_all_L176 {l : Launch} {K217 : Int32 → AS → Option (Int32 × AS)} (hK217 : ∀ (x71 : Int32) (S : AS) r Z, K217 x71 S = some (r, Z) → ax_T l 77 ma_X12_all (217, [none, none, some (.inl (.int x71)), none], [], S) (some (.inl (.int r))) Z) : ∀ (n : Nat) (x69 : Int32) (x70 : Int32) (S72 : AS) r Z, f_X12_all_L176 K217 n x69 x70 S72 = some (r, Z) → ax_T l 77 ma_X12_all (176, [some (.inr (12, 0)), none, some (.inl (.int x69)), some (.inl (.int x70))], [], S72) (some (.inl (.int r))) Z := by
  intro n
  induction n with
  | zero =>
    intro x69 x70 S72 r Z h
    cases h
  | succ n ih =>
    intro x69 x70 S72 r Z h
    unfold f_X12_all_L176 at h
    refine ax_Tgo [.iload_n 3, .aload_n 0, .getfield 291] (pc' := 181) (L' := [some (.inr (12, 0)), none, some (.inl (.int x69)), some (.inl (.int x70))]) (st' := [.inl (.int (ax_fi S72 12 0 27)), .inl (.int x70)]) (S' := S72) ok_X12_all.1 (by decide +kernel) rfl rfl ?_
    refine ax_Tic_ge (off := 36) (tgt := 217) (by decide +kernel) (by decide) (fun c73 => ?_) (fun c73 => ?_)
    · rw [if_pos c73] at h
      refine ax_Tdrop [false, true, true, false] (L' := [none, none, some (.inl (.int x69)), none]) rfl ?_
      exact hK217 x69 S72 _ _ h
    · rw [if_neg c73] at h
      refine ax_Tgo [.iload_n 2, .aload_n 0, .iload_n 3, .aload_n 0, .getfield 61, .iconst 2, .iload_n 3, .imul, .iconst 0, .iadd] (pc' := 196) (L' := [some (.inr (12, 0)), none, some (.inl (.int x69)), some (.inl (.int x70))]) (st' := [.inl (.int (((2 : Int32) * x70) + (0 : Int32))), .inr (55, 0), .inl (.int x70), .inr (12, 0), .inl (.int x69)]) (S' := S72) ok_X12_all.1 (by decide +kernel) rfl rfl ?_
      obtain ⟨g74, h⟩ := ax_gd_e h
      refine ax_Tali (n := 204) ok_X12_all.1 (by decide +kernel) (by decide) rfl g74 ?_
      refine ax_Tgo [.aload_n 0, .getfield 61, .bipush 17] (pc' := 203) (L' := [some (.inr (12, 0)), none, some (.inl (.int x69)), some (.inl (.int x70))]) (st' := [.inl (.int (17 : Int32)), .inr (55, 0), .inl (.int (ax_ai S72 55 0 (((2 : Int32) * x70) + (0 : Int32)).toNatClampNeg)), .inl (.int x70), .inr (12, 0), .inl (.int x69)]) (S' := S72) ok_X12_all.1 (by decide +kernel) rfl rfl ?_
      obtain ⟨g75, h⟩ := ax_gd_e h
      refine ax_Tali (n := 204) ok_X12_all.1 (by decide +kernel) (by decide) rfl g75 ?_
      refine ax_Tgo [.iload_n 3, .iadd] (pc' := 206) (L' := [some (.inr (12, 0)), none, some (.inl (.int x69)), some (.inl (.int x70))]) (st' := [.inl (.int ((ax_ai S72 55 0 (17 : Int32).toNatClampNeg) + x70)), .inl (.int (ax_ai S72 55 0 (((2 : Int32) * x70) + (0 : Int32)).toNatClampNeg)), .inl (.int x70), .inr (12, 0), .inl (.int x69)]) (S' := S72) ok_X12_all.1 (by decide +kernel) rfl rfl ?_
      obtain ⟨r79, S76, hq77, h⟩ := ax_bu_e h
      refine ax_TVi (d := 76) (ka := 12) (i := 0) [.inl (.int x70), .inl (.int (ax_ai S72 55 0 (((2 : Int32) * x70) + (0 : Int32)).toNatClampNeg)), .inl (.int ((ax_ai S72 55 0 (17 : Int32).toNatClampNeg) + x70))] [.inl (.int x69)] lk_X12_418 (by decide +kernel) rfl (by decide) rfl (Nat.le_of_ble_eq_true rfl) (Nat.le_of_ble_eq_true rfl) ((t_X12_takesTitled hq77).up (by decide)) ?_
      refine ax_Tgo [.iadd, .istore_n 2] (pc' := 211) (L' := [some (.inr (12, 0)), none, some (.inl (.int (x69 + r79))), some (.inl (.int x70))]) (st' := []) (S' := S76) ok_X12_all.1 (by decide +kernel) rfl rfl ?_
      obtain ⟨v80, ev80, h⟩ := ax_let_e h
      rw [ev80]
      refine ax_Tgo [.iinc 3 1] (pc' := 214) (L' := [some (.inr (12, 0)), none, some (.inl (.int v80)), some (.inl (.int (x70 + (1 : Int32))))]) (st' := []) (S' := S76) ok_X12_all.1 (by decide +kernel) rfl rfl ?_
      obtain ⟨v81, ev81, h⟩ := ax_let_e h
      rw [ev81]
      refine ax_Tgoto (off := (-38)) (tgt := 176) (by decide +kernel) (by decide) ?_
      exact ih v80 v81 S76 _ _ h
set_option maxRecDepth 100000 in
theorem t_X12_all {l : Launch} {a1 : Int32} {S Z : AS} {r : Int32} (h : f_X12_all a1 S = some (r, Z)) : ax_M l 77 ma_X12_all [.inr (12, 0), .inl (.int a1)] S (some (.inl (.int r))) Z := by
  unfold f_X12_all at h
  show ax_T l 77 ma_X12_all (0, [some (.inr (12, 0)), some (.inl (.int a1)), none, none], [], S) (some (.inl (.int r))) Z
  refine ax_Tgo [.aload_n 0, .iconst 0, .putfield 93] (pc' := 5) (L' := [some (.inr (12, 0)), some (.inl (.int a1)), none, none]) (st' := []) (S' := (ax_sfi S 12 0 0 (0 : Int32))) ok_X12_all.1 (by decide +kernel) rfl rfl ?_
  obtain ⟨S1, eS1, h⟩ := ax_let_e h
  rw [eS1]
  refine ax_Tgo [.aload_n 0, .getfield 291] (pc' := 9) (L' := [some (.inr (12, 0)), some (.inl (.int a1)), none, none]) (st' := [.inl (.int (ax_fi S1 12 0 27))]) (S' := S1) ok_X12_all.1 (by decide +kernel) rfl rfl ?_
  refine ax_Tif_ne (off := 5) (tgt := 14) (by decide +kernel) (by decide) (fun c2 => ?_) (fun c2 => ?_)
  · rw [if_neg c2] at h
    refine ax_Tgo [.iconst 0, .istore_n 2, .iload_n 1] (pc' := 17) (L' := [some (.inr (12, 0)), some (.inl (.int a1)), some (.inl (.int (0 : Int32))), none]) (st' := [.inl (.int a1)]) (S' := S1) ok_X12_all.1 (by decide +kernel) rfl rfl ?_
    by_cases c3 : a1 = (0 : Int32)
    · rw [if_pos c3] at h
      refine ax_TtIn (dflt := 202) (lo := 0) (hi := 9) (offs := #[55, 70, 70, 70, 70, 70, 76, 81, 121, 157]) (len := 55) (off := 55) (tgt := 72) (by decide +kernel) (by rw [c3]; decide) (by rw [c3]; decide) (by rw [c3]; rfl) (by decide) ?_
      refine ax_Tgo [.aload_n 0, .getfield 37, .iconst 0] (pc' := 77) (L' := [some (.inr (12, 0)), some (.inl (.int a1)), some (.inl (.int (0 : Int32))), none]) (st' := [.inl (.int (0 : Int32)), .inr (47, 0)]) (S' := S1) ok_X12_all.1 (by decide +kernel) rfl rfl ?_
      obtain ⟨g4, h⟩ := ax_gd_e h
      refine ax_Tali (n := 3) ok_X12_all.1 (by decide +kernel) (by decide) rfl g4 ?_
      refine ax_Tgo [.aload_n 0, .getfield 61, .bipush 16] (pc' := 84) (L' := [some (.inr (12, 0)), some (.inl (.int a1)), some (.inl (.int (0 : Int32))), none]) (st' := [.inl (.int (16 : Int32)), .inr (55, 0), .inl (.int (ax_ai S1 47 0 (0 : Int32).toNatClampNeg))]) (S' := S1) ok_X12_all.1 (by decide +kernel) rfl rfl ?_
      obtain ⟨g5, h⟩ := ax_gd_e h
      refine ax_Tali (n := 204) ok_X12_all.1 (by decide +kernel) (by decide) rfl g5 ?_
      refine ax_Tgo [.isub] (pc' := 86) (L' := [some (.inr (12, 0)), some (.inl (.int a1)), some (.inl (.int (0 : Int32))), none]) (st' := [.inl (.int ((ax_ai S1 47 0 (0 : Int32).toNatClampNeg) - (ax_ai S1 55 0 (16 : Int32).toNatClampNeg)))]) (S' := S1) ok_X12_all.1 (by decide +kernel) rfl rfl ?_
      cases h
      exact ax_Treti (by decide +kernel) rfl rfl
    · rw [if_neg c3] at h
      by_cases c6 : a1 = (1 : Int32)
      · rw [if_pos c6] at h
        refine ax_TtIn (dflt := 202) (lo := 0) (hi := 9) (offs := #[55, 70, 70, 70, 70, 70, 76, 81, 121, 157]) (len := 55) (off := 70) (tgt := 87) (by decide +kernel) (by rw [c6]; decide) (by rw [c6]; decide) (by rw [c6]; rfl) (by decide) ?_
        refine ax_Tgo [.aload_n 0, .iload_n 1] (pc' := 89) (L' := [some (.inr (12, 0)), some (.inl (.int a1)), some (.inl (.int (0 : Int32))), none]) (st' := [.inl (.int a1), .inr (12, 0)]) (S' := S1) ok_X12_all.1 (by decide +kernel) rfl rfl ?_
        obtain ⟨r10, S7, hq8, h⟩ := ax_bu_e h
        refine ax_TVi (d := 76) (ka := 12) (i := 0) [.inl (.int a1)] [] lk_X12_463 (by decide +kernel) rfl (by decide) rfl (Nat.le_of_ble_eq_true rfl) (Nat.le_of_ble_eq_true rfl) ((t_X12_greatest hq8).up (by decide)) ?_
        cases h
        exact ax_Treti (by decide +kernel) rfl rfl
      · rw [if_neg c6] at h
        by_cases c11 : a1 = (2 : Int32)
        · rw [if_pos c11] at h
          refine ax_TtIn (dflt := 202) (lo := 0) (hi := 9) (offs := #[55, 70, 70, 70, 70, 70, 76, 81, 121, 157]) (len := 55) (off := 70) (tgt := 87) (by decide +kernel) (by rw [c11]; decide) (by rw [c11]; decide) (by rw [c11]; rfl) (by decide) ?_
          refine ax_Tgo [.aload_n 0, .iload_n 1] (pc' := 89) (L' := [some (.inr (12, 0)), some (.inl (.int a1)), some (.inl (.int (0 : Int32))), none]) (st' := [.inl (.int a1), .inr (12, 0)]) (S' := S1) ok_X12_all.1 (by decide +kernel) rfl rfl ?_
          obtain ⟨r15, S12, hq13, h⟩ := ax_bu_e h
          refine ax_TVi (d := 76) (ka := 12) (i := 0) [.inl (.int a1)] [] lk_X12_463 (by decide +kernel) rfl (by decide) rfl (Nat.le_of_ble_eq_true rfl) (Nat.le_of_ble_eq_true rfl) ((t_X12_greatest hq13).up (by decide)) ?_
          cases h
          exact ax_Treti (by decide +kernel) rfl rfl
        · rw [if_neg c11] at h
          by_cases c16 : a1 = (3 : Int32)
          · rw [if_pos c16] at h
            refine ax_TtIn (dflt := 202) (lo := 0) (hi := 9) (offs := #[55, 70, 70, 70, 70, 70, 76, 81, 121, 157]) (len := 55) (off := 70) (tgt := 87) (by decide +kernel) (by rw [c16]; decide) (by rw [c16]; decide) (by rw [c16]; rfl) (by decide) ?_
            refine ax_Tgo [.aload_n 0, .iload_n 1] (pc' := 89) (L' := [some (.inr (12, 0)), some (.inl (.int a1)), some (.inl (.int (0 : Int32))), none]) (st' := [.inl (.int a1), .inr (12, 0)]) (S' := S1) ok_X12_all.1 (by decide +kernel) rfl rfl ?_
            obtain ⟨r20, S17, hq18, h⟩ := ax_bu_e h
            refine ax_TVi (d := 76) (ka := 12) (i := 0) [.inl (.int a1)] [] lk_X12_463 (by decide +kernel) rfl (by decide) rfl (Nat.le_of_ble_eq_true rfl) (Nat.le_of_ble_eq_true rfl) ((t_X12_greatest hq18).up (by decide)) ?_
            cases h
            exact ax_Treti (by decide +kernel) rfl rfl
          · rw [if_neg c16] at h
            by_cases c21 : a1 = (4 : Int32)
            · rw [if_pos c21] at h
              refine ax_TtIn (dflt := 202) (lo := 0) (hi := 9) (offs := #[55, 70, 70, 70, 70, 70, 76, 81, 121, 157]) (len := 55) (off := 70) (tgt := 87) (by decide +kernel) (by rw [c21]; decide) (by rw [c21]; decide) (by rw [c21]; rfl) (by decide) ?_
              refine ax_Tgo [.aload_n 0, .iload_n 1] (pc' := 89) (L' := [some (.inr (12, 0)), some (.inl (.int a1)), some (.inl (.int (0 : Int32))), none]) (st' := [.inl (.int a1), .inr (12, 0)]) (S' := S1) ok_X12_all.1 (by decide +kernel) rfl rfl ?_
              obtain ⟨r25, S22, hq23, h⟩ := ax_bu_e h
              refine ax_TVi (d := 76) (ka := 12) (i := 0) [.inl (.int a1)] [] lk_X12_463 (by decide +kernel) rfl (by decide) rfl (Nat.le_of_ble_eq_true rfl) (Nat.le_of_ble_eq_true rfl) ((t_X12_greatest hq23).up (by decide)) ?_
              cases h
              exact ax_Treti (by decide +kernel) rfl rfl
            · rw [if_neg c21] at h
              by_cases c26 : a1 = (5 : Int32)
              · rw [if_pos c26] at h
                refine ax_TtIn (dflt := 202) (lo := 0) (hi := 9) (offs := #[55, 70, 70, 70, 70, 70, 76, 81, 121, 157]) (len := 55) (off := 70) (tgt := 87) (by decide +kernel) (by rw [c26]; decide) (by rw [c26]; decide) (by rw [c26]; rfl) (by decide) ?_
                refine ax_Tgo [.aload_n 0, .iload_n 1] (pc' := 89) (L' := [some (.inr (12, 0)), some (.inl (.int a1)), some (.inl (.int (0 : Int32))), none]) (st' := [.inl (.int a1), .inr (12, 0)]) (S' := S1) ok_X12_all.1 (by decide +kernel) rfl rfl ?_
                obtain ⟨r30, S27, hq28, h⟩ := ax_bu_e h
                refine ax_TVi (d := 76) (ka := 12) (i := 0) [.inl (.int a1)] [] lk_X12_463 (by decide +kernel) rfl (by decide) rfl (Nat.le_of_ble_eq_true rfl) (Nat.le_of_ble_eq_true rfl) ((t_X12_greatest hq28).up (by decide)) ?_
                cases h
                exact ax_Treti (by decide +kernel) rfl rfl
              · rw [if_neg c26] at h
                by_cases c31 : a1 = (6 : Int32)
                · rw [if_pos c31] at h
                  refine ax_TtIn (dflt := 202) (lo := 0) (hi := 9) (offs := #[55, 70, 70, 70, 70, 70, 76, 81, 121, 157]) (len := 55) (off := 76) (tgt := 93) (by decide +kernel) (by rw [c31]; decide) (by rw [c31]; decide) (by rw [c31]; rfl) (by decide) ?_
                  refine ax_Tgo [.aload_n 0] (pc' := 94) (L' := [some (.inr (12, 0)), some (.inl (.int a1)), some (.inl (.int (0 : Int32))), none]) (st' := [.inr (12, 0)]) (S' := S1) ok_X12_all.1 (by decide +kernel) rfl rfl ?_
                  obtain ⟨r35, hq33, h⟩ := ax_bd_e h
                  refine ax_TVi (d := 76) (ka := 12) (i := 0) [] [] lk_X12_466 (by decide +kernel) rfl (by decide) rfl (Nat.le_of_ble_eq_true rfl) (Nat.le_of_ble_eq_true rfl) ((t_X12_keenest hq33).up (by decide)) ?_
                  cases h
                  exact ax_Treti (by decide +kernel) rfl rfl
                · rw [if_neg c31] at h
                  by_cases c36 : a1 = (7 : Int32)
                  · rw [if_pos c36] at h
                    refine ax_TtIn (dflt := 202) (lo := 0) (hi := 9) (offs := #[55, 70, 70, 70, 70, 70, 76, 81, 121, 157]) (len := 55) (off := 81) (tgt := 98) (by decide +kernel) (by rw [c36]; decide) (by rw [c36]; decide) (by rw [c36]; rfl) (by decide) ?_
                    refine ax_Tgo [.iconst 0, .istore_n 3] (pc' := 100) (L' := [some (.inr (12, 0)), some (.inl (.int a1)), some (.inl (.int (0 : Int32))), some (.inl (.int (0 : Int32)))]) (st' := []) (S' := S1) ok_X12_all.1 (by decide +kernel) rfl rfl ?_
                    refine ax_Tdrop [true, false, true, true] (L' := [some (.inr (12, 0)), none, some (.inl (.int (0 : Int32))), some (.inl (.int (0 : Int32)))]) rfl ?_
                    refine t_X12_all_L100 ?_ _ (0 : Int32) (0 : Int32) S1 _ _ h
                    · intro x39 S51 r Z h
                      refine ax_Tgo [.iload_n 2] (pc' := 137) (L' := [none, none, some (.inl (.int x39)), none]) (st' := [.inl (.int x39)]) (S' := S51) ok_X12_all.1 (by decide +kernel) rfl rfl ?_
                      cases h
                      exact ax_Treti (by decide +kernel) rfl rfl
                  · rw [if_neg c36] at h
                    by_cases c52 : a1 = (8 : Int32)
                    · rw [if_pos c52] at h
                      refine ax_TtIn (dflt := 202) (lo := 0) (hi := 9) (offs := #[55, 70, 70, 70, 70, 70, 76, 81, 121, 157]) (len := 55) (off := 121) (tgt := 138) (by decide +kernel) (by rw [c52]; decide) (by rw [c52]; decide) (by rw [c52]; rfl) (by decide) ?_
                      refine ax_Tgo [.iconst 0, .istore_n 3] (pc' := 140) (L' := [some (.inr (12, 0)), some (.inl (.int a1)), some (.inl (.int (0 : Int32))), some (.inl (.int (0 : Int32)))]) (st' := []) (S' := S1) ok_X12_all.1 (by decide +kernel) rfl rfl ?_
                      refine ax_Tdrop [true, false, true, true] (L' := [some (.inr (12, 0)), none, some (.inl (.int (0 : Int32))), some (.inl (.int (0 : Int32)))]) rfl ?_
                      refine t_X12_all_L140 ?_ _ (0 : Int32) (0 : Int32) S1 _ _ h
                      · intro x55 S67 r Z h
                        refine ax_Tgo [.iload_n 2] (pc' := 173) (L' := [none, none, some (.inl (.int x55)), none]) (st' := [.inl (.int x55)]) (S' := S67) ok_X12_all.1 (by decide +kernel) rfl rfl ?_
                        cases h
                        exact ax_Treti (by decide +kernel) rfl rfl
                    · rw [if_neg c52] at h
                      by_cases c68 : a1 = (9 : Int32)
                      · rw [if_pos c68] at h
                        refine ax_TtIn (dflt := 202) (lo := 0) (hi := 9) (offs := #[55, 70, 70, 70, 70, 70, 76, 81, 121, 157]) (len := 55) (off := 157) (tgt := 174) (by decide +kernel) (by rw [c68]; decide) (by rw [c68]; decide) (by rw [c68]; rfl) (by decide) ?_
                        refine ax_Tgo [.iconst 0, .istore_n 3] (pc' := 176) (L' := [some (.inr (12, 0)), some (.inl (.int a1)), some (.inl (.int (0 : Int32))), some (.inl (.int (0 : Int32)))]) (st' := []) (S' := S1) ok_X12_all.1 (by decide +kernel) rfl rfl ?_
                        refine ax_Tdrop [true, false, true, true] (L' := [some (.inr (12, 0)), none, some (.inl (.int (0 : Int32))), some (.inl (.int (0 : Int32)))]) rfl ?_
                        refine t_X12_all_L176 ?_ _ (0 : Int32) (0 : Int32) S1 _ _ h
                        · intro x71 S82 r Z h
                          refine ax_Tgo [.iload_n 2] (pc' := 218) (L' := [none, none, some (.inl (.int x71)), none]) (st' := [.inl (.int x71)]) (S' := S82) ok_X12_all.1 (by decide +kernel) rfl rfl ?_
                          cases h
                          exact ax_Treti (by decide +kernel) rfl rfl
                      · rw [if_neg c68] at h
                        refine ax_TtOut (dflt := 202) (lo := 0) (hi := 9) (offs := #[55, 70, 70, 70, 70, 70, 76, 81, 121, 157]) (len := 55) (tgt := 219) (by decide +kernel) (by have zc3 := lv_neT (a := 0) c3 rfl; have zc6 := lv_neT (a := 1) c6 rfl; have zc11 := lv_neT (a := 2) c11 rfl; have zc16 := lv_neT (a := 3) c16 rfl; have zc21 := lv_neT (a := 4) c21 rfl; have zc26 := lv_neT (a := 5) c26 rfl; have zc31 := lv_neT (a := 6) c31 rfl; have zc36 := lv_neT (a := 7) c36 rfl; have zc52 := lv_neT (a := 8) c52 rfl; have zc68 := lv_neT (a := 9) c68 rfl; omega) (by decide) ?_
                        refine ax_Tgo [.iconst (-1)] (pc' := 220) (L' := [some (.inr (12, 0)), some (.inl (.int a1)), some (.inl (.int (0 : Int32))), none]) (st' := [.inl (.int (Int32.ofInt (-1)))]) (S' := S1) ok_X12_all.1 (by decide +kernel) rfl rfl ?_
                        cases h
                        exact ax_Treti (by decide +kernel) rfl rfl
  · rw [if_pos c2] at h
    refine ax_Tgo [.iconst (-1)] (pc' := 13) (L' := [some (.inr (12, 0)), some (.inl (.int a1)), none, none]) (st' := [.inl (.int (Int32.ofInt (-1)))]) (S' := S1) ok_X12_all.1 (by decide +kernel) rfl rfl ?_
    cases h
    exact ax_Treti (by decide +kernel) rfl rfl
def f_X12_remember_L52 (K86 : AS → Option (AS)) : Nat → Int32 → AS → Option (AS)
  | 0, _, _ => none
  | n + 1, x2, S3 => (if (204 : Int32) ≤ x2 then K86 S3 else ax_gd (ax_in x2 204) (ax_gd (ax_in (((204 : Int32) * (ax_fi S3 12 0 39)) + x2) 8160) (ax_let (ax_sai S3 59 0 (((204 : Int32) * (ax_fi S3 12 0 39)) + x2).toNatClampNeg (ax_ai S3 55 0 x2.toNatClampNeg)) (fun (S7 : AS) => ax_let (x2 + (1 : Int32)) (fun (v8 : Int32) => f_X12_remember_L52 K86 n v8 S7)))))
def f_X12_remember_L11 (K40 : AS → Option (AS)) : Nat → Int32 → AS → Option (AS)
  | 0, _, _ => none
  | n + 1, x11, S12 => (if (7956 : Int32) ≤ x11 then K40 S12 else ax_gd (ax_in (x11 + (204 : Int32)) 8160) (ax_gd (ax_in x11 8160) (ax_let (ax_sai S12 59 0 x11.toNatClampNeg (ax_ai S12 59 0 (x11 + (204 : Int32)).toNatClampNeg)) (fun (S16 : AS) => ax_let (x11 + (1 : Int32)) (fun (v17 : Int32) => f_X12_remember_L11 K40 n v17 S16)))))
def f_X12_remember (S : AS) : Option (AS) := (if (ax_fi S 12 0 39) = (40 : Int32) then f_X12_remember_L11 (fun (S18 : AS) => ax_let (ax_sfi S18 12 0 39 ((ax_fi S18 12 0 39) - (1 : Int32))) (fun (S19 : AS) => f_X12_remember_L52 (fun (S21 : AS) => ax_let (ax_sfi S21 12 0 39 ((ax_fi S21 12 0 39) + (1 : Int32))) (fun (S22 : AS) => some S22)) ax_F (0 : Int32) S19)) ax_F (0 : Int32) S else f_X12_remember_L52 (fun (S9 : AS) => ax_let (ax_sfi S9 12 0 39 ((ax_fi S9 12 0 39) + (1 : Int32))) (fun (S10 : AS) => some S10)) ax_F (0 : Int32) S)
set_option maxRecDepth 100000 in
theorem t_X12_remember_L52 {l : Launch} {K86 : AS → Option (AS)} (hK86 : ∀ (S : AS) Z, K86 S = some Z → ax_T l 0 ma_X12_remember (86, [some (.inr (12, 0)), none], [], S) none Z) : ∀ (n : Nat) (x2 : Int32) (S3 : AS) Z, f_X12_remember_L52 K86 n x2 S3 = some Z → ax_T l 0 ma_X12_remember (52, [some (.inr (12, 0)), some (.inl (.int x2))], [], S3) none Z := by
  intro n
  induction n with
  | zero =>
    intro x2 S3 Z h
    cases h
  | succ n ih =>
    intro x2 S3 Z h
    unfold f_X12_remember_L52 at h
    refine ax_Tgo [.iload_n 1, .sipush 204] (pc' := 56) (L' := [some (.inr (12, 0)), some (.inl (.int x2))]) (st' := [.inl (.int (204 : Int32)), .inl (.int x2)]) (S' := S3) ok_X12_remember.1 (by decide +kernel) rfl rfl ?_
    refine ax_Tic_ge (off := 30) (tgt := 86) (by decide +kernel) (by decide) (fun c4 => ?_) (fun c4 => ?_)
    · rw [if_pos c4] at h
      refine ax_Tdrop [true, false] (L' := [some (.inr (12, 0)), none]) rfl ?_
      exact hK86 S3 _ h
    · rw [if_neg c4] at h
      refine ax_Tgo [.aload_n 0, .getfield 81, .sipush 204, .aload_n 0, .getfield 297, .imul, .iload_n 1, .iadd, .aload_n 0, .getfield 61, .iload_n 1] (pc' := 78) (L' := [some (.inr (12, 0)), some (.inl (.int x2))]) (st' := [.inl (.int x2), .inr (55, 0), .inl (.int (((204 : Int32) * (ax_fi S3 12 0 39)) + x2)), .inr (59, 0)]) (S' := S3) ok_X12_remember.1 (by decide +kernel) rfl rfl ?_
      obtain ⟨g5, h⟩ := ax_gd_e h
      refine ax_Tali (n := 204) ok_X12_remember.1 (by decide +kernel) (by decide) rfl g5 ?_
      obtain ⟨g6, h⟩ := ax_gd_e h
      refine ax_Tasi (n := 8160) ok_X12_remember.1 (by decide +kernel) (by decide) rfl g6 ?_
      obtain ⟨S7, eS7, h⟩ := ax_let_e h
      rw [eS7]
      refine ax_Tgo [.iinc 1 1] (pc' := 83) (L' := [some (.inr (12, 0)), some (.inl (.int (x2 + (1 : Int32))))]) (st' := []) (S' := S7) ok_X12_remember.1 (by decide +kernel) rfl rfl ?_
      obtain ⟨v8, ev8, h⟩ := ax_let_e h
      rw [ev8]
      refine ax_Tgoto (off := (-31)) (tgt := 52) (by decide +kernel) (by decide) ?_
      exact ih v8 S7 _ h
set_option maxRecDepth 100000 in
theorem t_X12_remember_L11 {l : Launch} {K40 : AS → Option (AS)} (hK40 : ∀ (S : AS) Z, K40 S = some Z → ax_T l 0 ma_X12_remember (40, [some (.inr (12, 0)), none], [], S) none Z) : ∀ (n : Nat) (x11 : Int32) (S12 : AS) Z, f_X12_remember_L11 K40 n x11 S12 = some Z → ax_T l 0 ma_X12_remember (11, [some (.inr (12, 0)), some (.inl (.int x11))], [], S12) none Z := by
  intro n
  induction n with
  | zero =>
    intro x11 S12 Z h
    cases h
  | succ n ih =>
    intro x11 S12 Z h
    unfold f_X12_remember_L11 at h
    refine ax_Tgo [.iload_n 1, .sipush 7956] (pc' := 15) (L' := [some (.inr (12, 0)), some (.inl (.int x11))]) (st' := [.inl (.int (7956 : Int32)), .inl (.int x11)]) (S' := S12) ok_X12_remember.1 (by decide +kernel) rfl rfl ?_
    refine ax_Tic_ge (off := 25) (tgt := 40) (by decide +kernel) (by decide) (fun c13 => ?_) (fun c13 => ?_)
    · rw [if_pos c13] at h
      refine ax_Tdrop [true, false] (L' := [some (.inr (12, 0)), none]) rfl ?_
      exact hK40 S12 _ h
    · rw [if_neg c13] at h
      refine ax_Tgo [.aload_n 0, .getfield 81, .iload_n 1, .aload_n 0, .getfield 81, .iload_n 1, .sipush 204, .iadd] (pc' := 32) (L' := [some (.inr (12, 0)), some (.inl (.int x11))]) (st' := [.inl (.int (x11 + (204 : Int32))), .inr (59, 0), .inl (.int x11), .inr (59, 0)]) (S' := S12) ok_X12_remember.1 (by decide +kernel) rfl rfl ?_
      obtain ⟨g14, h⟩ := ax_gd_e h
      refine ax_Tali (n := 8160) ok_X12_remember.1 (by decide +kernel) (by decide) rfl g14 ?_
      obtain ⟨g15, h⟩ := ax_gd_e h
      refine ax_Tasi (n := 8160) ok_X12_remember.1 (by decide +kernel) (by decide) rfl g15 ?_
      obtain ⟨S16, eS16, h⟩ := ax_let_e h
      rw [eS16]
      refine ax_Tgo [.iinc 1 1] (pc' := 37) (L' := [some (.inr (12, 0)), some (.inl (.int (x11 + (1 : Int32))))]) (st' := []) (S' := S16) ok_X12_remember.1 (by decide +kernel) rfl rfl ?_
      obtain ⟨v17, ev17, h⟩ := ax_let_e h
      rw [ev17]
      refine ax_Tgoto (off := (-26)) (tgt := 11) (by decide +kernel) (by decide) ?_
      exact ih v17 S16 _ h
set_option maxRecDepth 100000 in
theorem t_X12_remember {l : Launch} {S Z : AS} (h : f_X12_remember S = some Z) : ax_M l 0 ma_X12_remember [.inr (12, 0)] S none Z := by
  unfold f_X12_remember at h
  show ax_T l 0 ma_X12_remember (0, [some (.inr (12, 0)), none], [], S) none Z
  refine ax_Tgo [.aload_n 0, .getfield 297, .bipush 40] (pc' := 6) (L' := [some (.inr (12, 0)), none]) (st' := [.inl (.int (40 : Int32)), .inl (.int (ax_fi S 12 0 39))]) (S' := S) ok_X12_remember.1 (by decide +kernel) rfl rfl ?_
  refine ax_Tic_ne (off := 44) (tgt := 50) (by decide +kernel) (by decide) (fun c1 => ?_) (fun c1 => ?_)
  · rw [if_neg c1] at h
    refine ax_Tgo [.iconst 0, .istore_n 1] (pc' := 52) (L' := [some (.inr (12, 0)), some (.inl (.int (0 : Int32)))]) (st' := []) (S' := S) ok_X12_remember.1 (by decide +kernel) rfl rfl ?_
    refine t_X12_remember_L52 ?_ _ (0 : Int32) S _ h
    · intro S9 Z h
      refine ax_Tgo [.aload_n 0, .dup, .getfield 297, .iconst 1, .iadd, .putfield 297] (pc' := 96) (L' := [some (.inr (12, 0)), none]) (st' := []) (S' := (ax_sfi S9 12 0 39 ((ax_fi S9 12 0 39) + (1 : Int32)))) ok_X12_remember.1 (by decide +kernel) rfl rfl ?_
      obtain ⟨S10, eS10, h⟩ := ax_let_e h
      rw [eS10]
      cases h
      exact ax_Tretv (by decide +kernel) rfl
  · rw [if_pos c1] at h
    refine ax_Tgo [.iconst 0, .istore_n 1] (pc' := 11) (L' := [some (.inr (12, 0)), some (.inl (.int (0 : Int32)))]) (st' := []) (S' := S) ok_X12_remember.1 (by decide +kernel) rfl rfl ?_
    refine t_X12_remember_L11 ?_ _ (0 : Int32) S _ h
    · intro S18 Z h
      refine ax_Tgo [.aload_n 0, .dup, .getfield 297, .iconst 1, .isub, .putfield 297] (pc' := 50) (L' := [some (.inr (12, 0)), none]) (st' := []) (S' := (ax_sfi S18 12 0 39 ((ax_fi S18 12 0 39) - (1 : Int32)))) ok_X12_remember.1 (by decide +kernel) rfl rfl ?_
      obtain ⟨S19, eS19, h⟩ := ax_let_e h
      rw [eS19]
      refine ax_Tgo [.iconst 0, .istore_n 1] (pc' := 52) (L' := [some (.inr (12, 0)), some (.inl (.int (0 : Int32)))]) (st' := []) (S' := S19) ok_X12_remember.1 (by decide +kernel) rfl rfl ?_
      refine t_X12_remember_L52 ?_ _ (0 : Int32) S19 _ h
      · intro S21 Z h
        refine ax_Tgo [.aload_n 0, .dup, .getfield 297, .iconst 1, .iadd, .putfield 297] (pc' := 96) (L' := [some (.inr (12, 0)), none]) (st' := []) (S' := (ax_sfi S21 12 0 39 ((ax_fi S21 12 0 39) + (1 : Int32)))) ok_X12_remember.1 (by decide +kernel) rfl rfl ?_
        obtain ⟨S22, eS22, h⟩ := ax_let_e h
        rw [eS22]
        cases h
        exact ax_Tretv (by decide +kernel) rfl
def f_X12_gainOf (a1 : Int32) (S : AS) : Option (Int32) := (f_X12_of a1 (4 : Int32) S).bind (fun (r4 : Int32) => (f_X12_of a1 (5 : Int32) S).bind (fun (r8 : Int32) => ax_gd (ax_in ((2 : Int32) * r8) 8) (some (r4 + (ax_ai S 49 0 ((2 : Int32) * r8).toNatClampNeg)))))
set_option maxRecDepth 100000 in
theorem t_X12_gainOf {l : Launch} {a1 : Int32} {S : AS} {r : Int32} (h : f_X12_gainOf a1 S = some r) : ax_M l 1 ma_X12_gainOf [.inr (12, 0), .inl (.int a1)] S (some (.inl (.int r))) S := by
  unfold f_X12_gainOf at h
  show ax_T l 1 ma_X12_gainOf (0, [some (.inr (12, 0)), some (.inl (.int a1))], [], S) (some (.inl (.int r))) S
  refine ax_Tgo [.aload_n 0, .iload_n 1, .iconst 4] (pc' := 3) (L' := [some (.inr (12, 0)), some (.inl (.int a1))]) (st' := [.inl (.int (4 : Int32)), .inl (.int a1), .inr (12, 0)]) (S' := S) ok_X12_gainOf.1 (by decide +kernel) rfl rfl ?_
  obtain ⟨r4, hq2, h⟩ := ax_bd_e h
  refine ax_TVi (d := 0) (ka := 12) (i := 0) [.inl (.int a1), .inl (.int (4 : Int32))] [] lk_X12_311 (by decide +kernel) rfl (by decide) rfl (Nat.le_of_ble_eq_true rfl) (Nat.le_of_ble_eq_true rfl) ((t_X12_of hq2).up (by decide)) ?_
  refine ax_Tgo [.aload_n 0, .getfield 43, .iconst 2, .aload_n 0, .iload_n 1, .iconst 5] (pc' := 14) (L' := [some (.inr (12, 0)), some (.inl (.int a1))]) (st' := [.inl (.int (5 : Int32)), .inl (.int a1), .inr (12, 0), .inl (.int (2 : Int32)), .inr (49, 0), .inl (.int r4)]) (S' := S) ok_X12_gainOf.1 (by decide +kernel) rfl rfl ?_
  obtain ⟨r8, hq6, h⟩ := ax_bd_e h
  refine ax_TVi (d := 0) (ka := 12) (i := 0) [.inl (.int a1), .inl (.int (5 : Int32))] [.inl (.int (2 : Int32)), .inr (49, 0), .inl (.int r4)] lk_X12_311 (by decide +kernel) rfl (by decide) rfl (Nat.le_of_ble_eq_true rfl) (Nat.le_of_ble_eq_true rfl) ((t_X12_of hq6).up (by decide)) ?_
  refine ax_Tgo [.imul] (pc' := 18) (L' := [some (.inr (12, 0)), some (.inl (.int a1))]) (st' := [.inl (.int ((2 : Int32) * r8)), .inr (49, 0), .inl (.int r4)]) (S' := S) ok_X12_gainOf.1 (by decide +kernel) rfl rfl ?_
  obtain ⟨g9, h⟩ := ax_gd_e h
  refine ax_Tali (n := 8) ok_X12_gainOf.1 (by decide +kernel) (by decide) rfl g9 ?_
  refine ax_Tgo [.iadd] (pc' := 20) (L' := [some (.inr (12, 0)), some (.inl (.int a1))]) (st' := [.inl (.int (r4 + (ax_ai S 49 0 ((2 : Int32) * r8).toNatClampNeg)))]) (S' := S) ok_X12_gainOf.1 (by decide +kernel) rfl rfl ?_
  cases h
  exact ax_Treti (by decide +kernel) rfl rfl
def f_X12_calls_55x0 (a2 : Int32) (S : AS) : Option (Int32 × AS) := ax_bu (f_X12_takesIn_55x0 a2 S) (fun (r4 : Int32) (S1 : AS) => (f_X12_of a2 (5 : Int32) S1).bind (fun (r8 : Int32) => (f_X12_of a2 (3 : Int32) S1).bind (fun (r12 : Int32) => ax_let (fun (x13 : Int32) (S14 : AS) => ax_gd (ax_in (16 : Int32) 204) (ax_gd (ax_in (16 : Int32) 204) (ax_let (ax_sai S14 55 0 (16 : Int32).toNatClampNeg ((ax_ai S14 55 0 (16 : Int32).toNatClampNeg) + r4)) (fun (S18 : AS) => ax_gd (ax_in ((12 : Int32) + r8) 204) (ax_gd (ax_in ((12 : Int32) + r8) 204) (ax_let (ax_sai S18 55 0 ((12 : Int32) + r8).toNatClampNeg ((ax_ai S18 55 0 ((12 : Int32) + r8).toNatClampNeg) + (1 : Int32))) (fun (S21 : AS) => ax_gd (ax_in (((2 : Int32) * a2) + (1 : Int32)) 204) (ax_let (ax_sai S21 55 0 (((2 : Int32) * a2) + (1 : Int32)).toNatClampNeg (1 : Int32)) (fun (S23 : AS) => ax_gd (ax_in (17 : Int32) 204) (ax_gd (ax_in (17 : Int32) 204) (ax_let (ax_sai S23 55 0 (17 : Int32).toNatClampNeg ((ax_ai S23 55 0 (17 : Int32).toNatClampNeg) + (1 : Int32))) (fun (S26 : AS) => (if x13 = (0 : Int32) then ax_gd (ax_bo x13) (some (x13, S26)) else ax_gd (ax_in (20 : Int32) 204) (ax_gd (ax_in (20 : Int32) 204) (ax_let (ax_sai S26 55 0 (20 : Int32).toNatClampNeg ((ax_ai S26 55 0 (20 : Int32).toNatClampNeg) + (1 : Int32))) (fun (S31 : AS) => ax_gd (ax_in (19 : Int32) 204) ((f_X12_gainOf a2 S31).bind (fun (r36 : Int32) => (f_J9_min_7cf53 (9999 : Int32) ((ax_ai S31 55 0 (19 : Int32).toNatClampNeg) + r36) S31).bind (fun (r40 : Int32) => ax_gd (ax_in (19 : Int32) 204) (ax_let (ax_sai S31 55 0 (19 : Int32).toNatClampNeg r40) (fun (S42 : AS) => ax_gd (ax_bo x13) (some (x13, S42))))))))))))))))))))))) (fun J15 => (if r4 < r12 then J15 (0 : Int32) S1 else J15 (1 : Int32) S1)))))
set_option maxRecDepth 100000 in
theorem t_X12_calls_55x0 {l : Launch} {a2 : Int32} {S Z : AS} {r : Int32} (h : f_X12_calls_55x0 a2 S = some (r, Z)) : ax_M l 75 ma_X12_calls [.inr (12, 0), .inr (55, 0), .inl (.int a2)] S (some (.inl (.int r))) Z := by
  unfold f_X12_calls_55x0 at h
  show ax_T l 75 ma_X12_calls (0, [some (.inr (12, 0)), some (.inr (55, 0)), some (.inl (.int a2)), none, none, none], [], S) (some (.inl (.int r))) Z
  refine ax_Tgo [.aload_n 0, .aload_n 1, .iload_n 2] (pc' := 3) (L' := [some (.inr (12, 0)), some (.inr (55, 0)), some (.inl (.int a2)), none, none, none]) (st' := [.inl (.int a2), .inr (55, 0), .inr (12, 0)]) (S' := S) ok_X12_calls.1 (by decide +kernel) rfl rfl ?_
  obtain ⟨r4, S1, hq2, h⟩ := ax_bu_e h
  refine ax_TVi (d := 74) (ka := 12) (i := 0) [.inr (55, 0), .inl (.int a2)] [] lk_X12_327 (by decide +kernel) rfl (by decide) rfl (Nat.le_of_ble_eq_true rfl) (Nat.le_of_ble_eq_true rfl) ((t_X12_takesIn_55x0 hq2).up (by decide)) ?_
  refine ax_Tgo [.istore_n 3, .aload_n 0, .iload_n 2, .iconst 5] (pc' := 10) (L' := [some (.inr (12, 0)), some (.inr (55, 0)), some (.inl (.int a2)), some (.inl (.int r4)), none, none]) (st' := [.inl (.int (5 : Int32)), .inl (.int a2), .inr (12, 0)]) (S' := S1) ok_X12_calls.1 (by decide +kernel) rfl rfl ?_
  obtain ⟨r8, hq6, h⟩ := ax_bd_e h
  refine ax_TVi (d := 74) (ka := 12) (i := 0) [.inl (.int a2), .inl (.int (5 : Int32))] [] lk_X12_311 (by decide +kernel) rfl (by decide) rfl (Nat.le_of_ble_eq_true rfl) (Nat.le_of_ble_eq_true rfl) ((t_X12_of hq6).up (by decide)) ?_
  refine ax_Tgo [.istore 4, .iload_n 3, .aload_n 0, .iload_n 2, .iconst 3] (pc' := 19) (L' := [some (.inr (12, 0)), some (.inr (55, 0)), some (.inl (.int a2)), some (.inl (.int r4)), some (.inl (.int r8)), none]) (st' := [.inl (.int (3 : Int32)), .inl (.int a2), .inr (12, 0), .inl (.int r4)]) (S' := S1) ok_X12_calls.1 (by decide +kernel) rfl rfl ?_
  obtain ⟨r12, hq10, h⟩ := ax_bd_e h
  refine ax_TVi (d := 74) (ka := 12) (i := 0) [.inl (.int a2), .inl (.int (3 : Int32))] [.inl (.int r4)] lk_X12_311 (by decide +kernel) rfl (by decide) rfl (Nat.le_of_ble_eq_true rfl) (Nat.le_of_ble_eq_true rfl) ((t_X12_of hq10).up (by decide)) ?_
  obtain ⟨J15, eJ15, h⟩ := ax_let_e h
  have hJ15 : ∀ (x13 : Int32) (S14 : AS) r Z, J15 x13 S14 = some (r, Z) → ax_T l 75 ma_X12_calls (30, [some (.inr (12, 0)), some (.inr (55, 0)), some (.inl (.int a2)), some (.inl (.int r4)), some (.inl (.int r8)), none], [.inl (.int x13)], S14) (some (.inl (.int r))) Z := by
    intro x13 S14 r Z h
    rw [← eJ15] at h
    try dsimp only at h
    refine ax_Tgo [.istore 5, .aload_n 1, .bipush 16, .dup2] (pc' := 36) (L' := [some (.inr (12, 0)), some (.inr (55, 0)), some (.inl (.int a2)), some (.inl (.int r4)), some (.inl (.int r8)), some (.inl (.int x13))]) (st' := [.inl (.int (16 : Int32)), .inr (55, 0), .inl (.int (16 : Int32)), .inr (55, 0)]) (S' := S14) ok_X12_calls.1 (by decide +kernel) rfl rfl ?_
    obtain ⟨g16, h⟩ := ax_gd_e h
    refine ax_Tali (n := 204) ok_X12_calls.1 (by decide +kernel) (by decide) rfl g16 ?_
    refine ax_Tgo [.iload_n 3, .iadd] (pc' := 39) (L' := [some (.inr (12, 0)), some (.inr (55, 0)), some (.inl (.int a2)), some (.inl (.int r4)), some (.inl (.int r8)), some (.inl (.int x13))]) (st' := [.inl (.int ((ax_ai S14 55 0 (16 : Int32).toNatClampNeg) + r4)), .inl (.int (16 : Int32)), .inr (55, 0)]) (S' := S14) ok_X12_calls.1 (by decide +kernel) rfl rfl ?_
    obtain ⟨g17, h⟩ := ax_gd_e h
    refine ax_Tasi (n := 204) ok_X12_calls.1 (by decide +kernel) (by decide) rfl g17 ?_
    obtain ⟨S18, eS18, h⟩ := ax_let_e h
    rw [eS18]
    refine ax_Tgo [.aload_n 1, .bipush 12, .iload 4, .iadd, .dup2] (pc' := 47) (L' := [some (.inr (12, 0)), some (.inr (55, 0)), some (.inl (.int a2)), some (.inl (.int r4)), some (.inl (.int r8)), some (.inl (.int x13))]) (st' := [.inl (.int ((12 : Int32) + r8)), .inr (55, 0), .inl (.int ((12 : Int32) + r8)), .inr (55, 0)]) (S' := S18) ok_X12_calls.1 (by decide +kernel) rfl rfl ?_
    obtain ⟨g19, h⟩ := ax_gd_e h
    refine ax_Tali (n := 204) ok_X12_calls.1 (by decide +kernel) (by decide) rfl g19 ?_
    refine ax_Tgo [.iconst 1, .iadd] (pc' := 50) (L' := [some (.inr (12, 0)), some (.inr (55, 0)), some (.inl (.int a2)), some (.inl (.int r4)), some (.inl (.int r8)), some (.inl (.int x13))]) (st' := [.inl (.int ((ax_ai S18 55 0 ((12 : Int32) + r8).toNatClampNeg) + (1 : Int32))), .inl (.int ((12 : Int32) + r8)), .inr (55, 0)]) (S' := S18) ok_X12_calls.1 (by decide +kernel) rfl rfl ?_
    obtain ⟨g20, h⟩ := ax_gd_e h
    refine ax_Tasi (n := 204) ok_X12_calls.1 (by decide +kernel) (by decide) rfl g20 ?_
    obtain ⟨S21, eS21, h⟩ := ax_let_e h
    rw [eS21]
    refine ax_Tgo [.aload_n 1, .iconst 2, .iload_n 2, .imul, .iconst 1, .iadd, .iconst 1] (pc' := 58) (L' := [some (.inr (12, 0)), some (.inr (55, 0)), some (.inl (.int a2)), some (.inl (.int r4)), some (.inl (.int r8)), some (.inl (.int x13))]) (st' := [.inl (.int (1 : Int32)), .inl (.int (((2 : Int32) * a2) + (1 : Int32))), .inr (55, 0)]) (S' := S21) ok_X12_calls.1 (by decide +kernel) rfl rfl ?_
    obtain ⟨g22, h⟩ := ax_gd_e h
    refine ax_Tasi (n := 204) ok_X12_calls.1 (by decide +kernel) (by decide) rfl g22 ?_
    obtain ⟨S23, eS23, h⟩ := ax_let_e h
    rw [eS23]
    refine ax_Tgo [.aload_n 1, .bipush 17, .dup2] (pc' := 63) (L' := [some (.inr (12, 0)), some (.inr (55, 0)), some (.inl (.int a2)), some (.inl (.int r4)), some (.inl (.int r8)), some (.inl (.int x13))]) (st' := [.inl (.int (17 : Int32)), .inr (55, 0), .inl (.int (17 : Int32)), .inr (55, 0)]) (S' := S23) ok_X12_calls.1 (by decide +kernel) rfl rfl ?_
    obtain ⟨g24, h⟩ := ax_gd_e h
    refine ax_Tali (n := 204) ok_X12_calls.1 (by decide +kernel) (by decide) rfl g24 ?_
    refine ax_Tgo [.iconst 1, .iadd] (pc' := 66) (L' := [some (.inr (12, 0)), some (.inr (55, 0)), some (.inl (.int a2)), some (.inl (.int r4)), some (.inl (.int r8)), some (.inl (.int x13))]) (st' := [.inl (.int ((ax_ai S23 55 0 (17 : Int32).toNatClampNeg) + (1 : Int32))), .inl (.int (17 : Int32)), .inr (55, 0)]) (S' := S23) ok_X12_calls.1 (by decide +kernel) rfl rfl ?_
    obtain ⟨g25, h⟩ := ax_gd_e h
    refine ax_Tasi (n := 204) ok_X12_calls.1 (by decide +kernel) (by decide) rfl g25 ?_
    obtain ⟨S26, eS26, h⟩ := ax_let_e h
    rw [eS26]
    refine ax_Tgo [.iload 5] (pc' := 69) (L' := [some (.inr (12, 0)), some (.inr (55, 0)), some (.inl (.int a2)), some (.inl (.int r4)), some (.inl (.int r8)), some (.inl (.int x13))]) (st' := [.inl (.int x13)]) (S' := S26) ok_X12_calls.1 (by decide +kernel) rfl rfl ?_
    refine ax_Tif_eq (off := 31) (tgt := 100) (by decide +kernel) (by decide) (fun c27 => ?_) (fun c27 => ?_)
    · rw [if_pos c27] at h
      refine ax_Tgo [.iload 5] (pc' := 102) (L' := [some (.inr (12, 0)), some (.inr (55, 0)), some (.inl (.int a2)), some (.inl (.int r4)), some (.inl (.int r8)), some (.inl (.int x13))]) (st' := [.inl (.int x13)]) (S' := S26) ok_X12_calls.1 (by decide +kernel) rfl rfl ?_
      obtain ⟨g28, h⟩ := ax_gd_e h
      cases h
      exact ax_Tretz (by decide +kernel) rfl g28
    · rw [if_neg c27] at h
      refine ax_Tgo [.aload_n 1, .bipush 20, .dup2] (pc' := 76) (L' := [some (.inr (12, 0)), some (.inr (55, 0)), some (.inl (.int a2)), some (.inl (.int r4)), some (.inl (.int r8)), some (.inl (.int x13))]) (st' := [.inl (.int (20 : Int32)), .inr (55, 0), .inl (.int (20 : Int32)), .inr (55, 0)]) (S' := S26) ok_X12_calls.1 (by decide +kernel) rfl rfl ?_
      obtain ⟨g29, h⟩ := ax_gd_e h
      refine ax_Tali (n := 204) ok_X12_calls.1 (by decide +kernel) (by decide) rfl g29 ?_
      refine ax_Tgo [.iconst 1, .iadd] (pc' := 79) (L' := [some (.inr (12, 0)), some (.inr (55, 0)), some (.inl (.int a2)), some (.inl (.int r4)), some (.inl (.int r8)), some (.inl (.int x13))]) (st' := [.inl (.int ((ax_ai S26 55 0 (20 : Int32).toNatClampNeg) + (1 : Int32))), .inl (.int (20 : Int32)), .inr (55, 0)]) (S' := S26) ok_X12_calls.1 (by decide +kernel) rfl rfl ?_
      obtain ⟨g30, h⟩ := ax_gd_e h
      refine ax_Tasi (n := 204) ok_X12_calls.1 (by decide +kernel) (by decide) rfl g30 ?_
      obtain ⟨S31, eS31, h⟩ := ax_let_e h
      rw [eS31]
      refine ax_Tgo [.aload_n 1, .bipush 19, .sipush 9999, .aload_n 1, .bipush 19] (pc' := 89) (L' := [some (.inr (12, 0)), some (.inr (55, 0)), some (.inl (.int a2)), some (.inl (.int r4)), some (.inl (.int r8)), some (.inl (.int x13))]) (st' := [.inl (.int (19 : Int32)), .inr (55, 0), .inl (.int (9999 : Int32)), .inl (.int (19 : Int32)), .inr (55, 0)]) (S' := S31) ok_X12_calls.1 (by decide +kernel) rfl rfl ?_
      obtain ⟨g32, h⟩ := ax_gd_e h
      refine ax_Tali (n := 204) ok_X12_calls.1 (by decide +kernel) (by decide) rfl g32 ?_
      refine ax_Tgo [.aload_n 0, .iload_n 2] (pc' := 92) (L' := [some (.inr (12, 0)), some (.inr (55, 0)), some (.inl (.int a2)), some (.inl (.int r4)), some (.inl (.int r8)), some (.inl (.int x13))]) (st' := [.inl (.int a2), .inr (12, 0), .inl (.int (ax_ai S31 55 0 (19 : Int32).toNatClampNeg)), .inl (.int (9999 : Int32)), .inl (.int (19 : Int32)), .inr (55, 0)]) (S' := S31) ok_X12_calls.1 (by decide +kernel) rfl rfl ?_
      obtain ⟨r36, hq34, h⟩ := ax_bd_e h
      refine ax_TVi (d := 74) (ka := 12) (i := 0) [.inl (.int a2)] [.inl (.int (ax_ai S31 55 0 (19 : Int32).toNatClampNeg)), .inl (.int (9999 : Int32)), .inl (.int (19 : Int32)), .inr (55, 0)] lk_X12_331 (by decide +kernel) rfl (by decide) rfl (Nat.le_of_ble_eq_true rfl) (Nat.le_of_ble_eq_true rfl) ((t_X12_gainOf hq34).up (by decide)) ?_
      refine ax_Tgo [.iadd] (pc' := 96) (L' := [some (.inr (12, 0)), some (.inr (55, 0)), some (.inl (.int a2)), some (.inl (.int r4)), some (.inl (.int r8)), some (.inl (.int x13))]) (st' := [.inl (.int ((ax_ai S31 55 0 (19 : Int32).toNatClampNeg) + r36)), .inl (.int (9999 : Int32)), .inl (.int (19 : Int32)), .inr (55, 0)]) (S' := S31) ok_X12_calls.1 (by decide +kernel) rfl rfl ?_
      obtain ⟨r40, hq38, h⟩ := ax_bd_e h
      refine ax_TSi (d := 74) [.inl (.int (9999 : Int32)), .inl (.int ((ax_ai S31 55 0 (19 : Int32).toNatClampNeg) + r36))] [.inl (.int (19 : Int32)), .inr (55, 0)] lk_X12_318 (by decide +kernel) rfl rfl (Nat.le_of_ble_eq_true rfl) (Nat.le_of_ble_eq_true rfl) ((t_J9_min_7cf53 hq38).up (by decide)) ?_
      obtain ⟨g41, h⟩ := ax_gd_e h
      refine ax_Tasi (n := 204) ok_X12_calls.1 (by decide +kernel) (by decide) rfl g41 ?_
      obtain ⟨S42, eS42, h⟩ := ax_let_e h
      rw [eS42]
      refine ax_Tgo [.iload 5] (pc' := 102) (L' := [some (.inr (12, 0)), some (.inr (55, 0)), some (.inl (.int a2)), some (.inl (.int r4)), some (.inl (.int r8)), some (.inl (.int x13))]) (st' := [.inl (.int x13)]) (S' := S42) ok_X12_calls.1 (by decide +kernel) rfl rfl ?_
      obtain ⟨g43, h⟩ := ax_gd_e h
      cases h
      exact ax_Tretz (by decide +kernel) rfl g43
  refine ax_Tic_lt (off := 7) (tgt := 29) (by decide +kernel) (by decide) (fun c44 => ?_) (fun c44 => ?_)
  · rw [if_pos c44] at h
    refine ax_Tgo [.iconst 0] (pc' := 30) (L' := [some (.inr (12, 0)), some (.inr (55, 0)), some (.inl (.int a2)), some (.inl (.int r4)), some (.inl (.int r8)), none]) (st' := [.inl (.int (0 : Int32))]) (S' := S1) ok_X12_calls.1 (by decide +kernel) rfl rfl ?_
    exact hJ15 (0 : Int32) S1 _ _ h
  · rw [if_neg c44] at h
    refine ax_Tgo [.iconst 1] (pc' := 26) (L' := [some (.inr (12, 0)), some (.inr (55, 0)), some (.inl (.int a2)), some (.inl (.int r4)), some (.inl (.int r8)), none]) (st' := [.inl (.int (1 : Int32))]) (S' := S1) ok_X12_calls.1 (by decide +kernel) rfl rfl ?_
    refine ax_Tgoto (off := 4) (tgt := 30) (by decide +kernel) (by decide) ?_
    exact hJ15 (1 : Int32) S1 _ _ h
def f_X12_announce (a1 : Int32) (S : AS) : Option (Int32 × AS) := ax_let (ax_sfi S 12 0 0 (0 : Int32)) (fun (S1 : AS) => ax_bu (f_X12_canCall_55x0 a1 S1) (fun (r5 : Int32) (S2 : AS) => (if r5 = (0 : Int32) then some ((Int32.ofInt (-1)), S2) else (f_X12_remember S2).bind (fun (S7 : AS) => ax_bu (f_X12_calls_55x0 a1 S7) (fun (r13 : Int32) (S10 : AS) => (if r13 = (0 : Int32) then some ((0 : Int32), S10) else some ((1 : Int32), S10)))))))
set_option maxRecDepth 100000 in
theorem t_X12_announce {l : Launch} {a1 : Int32} {S Z : AS} {r : Int32} (h : f_X12_announce a1 S = some (r, Z)) : ax_M l 76 ma_X12_announce [.inr (12, 0), .inl (.int a1)] S (some (.inl (.int r))) Z := by
  unfold f_X12_announce at h
  show ax_T l 76 ma_X12_announce (0, [some (.inr (12, 0)), some (.inl (.int a1))], [], S) (some (.inl (.int r))) Z
  refine ax_Tgo [.aload_n 0, .iconst 0, .putfield 93] (pc' := 5) (L' := [some (.inr (12, 0)), some (.inl (.int a1))]) (st' := []) (S' := (ax_sfi S 12 0 0 (0 : Int32))) ok_X12_announce.1 (by decide +kernel) rfl rfl ?_
  obtain ⟨S1, eS1, h⟩ := ax_let_e h
  rw [eS1]
  refine ax_Tgo [.aload_n 0, .aload_n 0, .getfield 61, .iload_n 1] (pc' := 11) (L' := [some (.inr (12, 0)), some (.inl (.int a1))]) (st' := [.inl (.int a1), .inr (55, 0), .inr (12, 0)]) (S' := S1) ok_X12_announce.1 (by decide +kernel) rfl rfl ?_
  obtain ⟨r5, S2, hq3, h⟩ := ax_bu_e h
  refine ax_TVi (d := 75) (ka := 12) (i := 0) [.inr (55, 0), .inl (.int a1)] [] lk_X12_348 (by decide +kernel) rfl (by decide) rfl (Nat.le_of_ble_eq_true rfl) (Nat.le_of_ble_eq_true rfl) ((t_X12_canCall_55x0 hq3).up (by decide)) ?_
  refine ax_Tif_ne (off := 5) (tgt := 19) (by decide +kernel) (by decide) (fun c6 => ?_) (fun c6 => ?_)
  · rw [if_neg c6] at h
    refine ax_Tgo [.aload_n 0] (pc' := 20) (L' := [some (.inr (12, 0)), some (.inl (.int a1))]) (st' := [.inr (12, 0)]) (S' := S2) ok_X12_announce.1 (by decide +kernel) rfl rfl ?_
    obtain ⟨S7, hq8, h⟩ := ax_bd_e h
    refine ax_TVv (d := 75) (ka := 12) (i := 0) [] [] lk_X12_352 (by decide +kernel) rfl (by decide) rfl (Nat.le_of_ble_eq_true rfl) (Nat.le_of_ble_eq_true rfl) ((t_X12_remember hq8).up (by decide)) ?_
    refine ax_Tgo [.aload_n 0, .aload_n 0, .getfield 61, .iload_n 1] (pc' := 29) (L' := [some (.inr (12, 0)), some (.inl (.int a1))]) (st' := [.inl (.int a1), .inr (55, 0), .inr (12, 0)]) (S' := S7) ok_X12_announce.1 (by decide +kernel) rfl rfl ?_
    obtain ⟨r13, S10, hq11, h⟩ := ax_bu_e h
    refine ax_TVi (d := 75) (ka := 12) (i := 0) [.inr (55, 0), .inl (.int a1)] [] lk_X12_355 (by decide +kernel) rfl (by decide) rfl (Nat.le_of_ble_eq_true rfl) (Nat.le_of_ble_eq_true rfl) ((t_X12_calls_55x0 hq11).up (by decide)) ?_
    refine ax_Tif_eq (off := 7) (tgt := 39) (by decide +kernel) (by decide) (fun c14 => ?_) (fun c14 => ?_)
    · rw [if_pos c14] at h
      refine ax_Tgo [.iconst 0] (pc' := 40) (L' := [some (.inr (12, 0)), some (.inl (.int a1))]) (st' := [.inl (.int (0 : Int32))]) (S' := S10) ok_X12_announce.1 (by decide +kernel) rfl rfl ?_
      cases h
      exact ax_Treti (by decide +kernel) rfl rfl
    · rw [if_neg c14] at h
      refine ax_Tgo [.iconst 1] (pc' := 36) (L' := [some (.inr (12, 0)), some (.inl (.int a1))]) (st' := [.inl (.int (1 : Int32))]) (S' := S10) ok_X12_announce.1 (by decide +kernel) rfl rfl ?_
      refine ax_Tgoto (off := 4) (tgt := 40) (by decide +kernel) (by decide) ?_
      cases h
      exact ax_Treti (by decide +kernel) rfl rfl
  · rw [if_pos c6] at h
    refine ax_Tgo [.iconst (-1)] (pc' := 18) (L' := [some (.inr (12, 0)), some (.inl (.int a1))]) (st' := [.inl (.int (Int32.ofInt (-1)))]) (S' := S2) ok_X12_announce.1 (by decide +kernel) rfl rfl ?_
    cases h
    exact ax_Treti (by decide +kernel) rfl rfl
def f_X12_isIn (a0 : Int64) (a1 : Int64) (a2 : Int64) (S : AS) : Option (Int32) := (if (lg_cmp a0 a1) < (0 : Int32) then some (0 : Int32) else (if (0 : Int32) < (lg_cmp a0 a2) then some (0 : Int32) else some (1 : Int32)))
set_option maxRecDepth 100000 in
theorem t_X12_isIn {l : Launch} {a0 : Int64} {a1 : Int64} {a2 : Int64} {S : AS} {r : Int32} (h : f_X12_isIn a0 a1 a2 S = some r) : ax_M l 0 ma_X12_isIn [.inl (.long a0), .inl (.long a1), .inl (.long a2)] S (some (.inl (.int r))) S := by
  unfold f_X12_isIn at h
  show ax_T l 0 ma_X12_isIn (0, [some (.inl (.long a0)), none, some (.inl (.long a1)), none, some (.inl (.long a2)), none], [], S) (some (.inl (.int r))) S
  refine ax_Tgo [.lload_n 0, .lload_n 2, .lcmp] (pc' := 3) (L' := [some (.inl (.long a0)), none, some (.inl (.long a1)), none, some (.inl (.long a2)), none]) (st' := [.inl (.int (lg_cmp a0 a1))]) (S' := S) ok_X12_isIn.1 (by decide +kernel) rfl rfl ?_
  refine ax_Tif_lt (off := 14) (tgt := 17) (by decide +kernel) (by decide) (fun c1 => ?_) (fun c1 => ?_)
  · rw [if_pos c1] at h
    refine ax_Tgo [.iconst 0] (pc' := 18) (L' := [some (.inl (.long a0)), none, some (.inl (.long a1)), none, some (.inl (.long a2)), none]) (st' := [.inl (.int (0 : Int32))]) (S' := S) ok_X12_isIn.1 (by decide +kernel) rfl rfl ?_
    cases h
    exact ax_Treti (by decide +kernel) rfl rfl
  · rw [if_neg c1] at h
    refine ax_Tgo [.lload_n 0, .lload 4, .lcmp] (pc' := 10) (L' := [some (.inl (.long a0)), none, some (.inl (.long a1)), none, some (.inl (.long a2)), none]) (st' := [.inl (.int (lg_cmp a0 a2))]) (S' := S) ok_X12_isIn.1 (by decide +kernel) rfl rfl ?_
    refine ax_Tif_gt (off := 7) (tgt := 17) (by decide +kernel) (by decide) (fun c2 => ?_) (fun c2 => ?_)
    · rw [if_pos c2] at h
      refine ax_Tgo [.iconst 0] (pc' := 18) (L' := [some (.inl (.long a0)), none, some (.inl (.long a1)), none, some (.inl (.long a2)), none]) (st' := [.inl (.int (0 : Int32))]) (S' := S) ok_X12_isIn.1 (by decide +kernel) rfl rfl ?_
      cases h
      exact ax_Treti (by decide +kernel) rfl rfl
    · rw [if_neg c2] at h
      refine ax_Tgo [.iconst 1] (pc' := 14) (L' := [some (.inl (.long a0)), none, some (.inl (.long a1)), none, some (.inl (.long a2)), none]) (st' := [.inl (.int (1 : Int32))]) (S' := S) ok_X12_isIn.1 (by decide +kernel) rfl rfl ?_
      refine ax_Tgoto (off := 4) (tgt := 18) (by decide +kernel) (by decide) ?_
      cases h
      exact ax_Treti (by decide +kernel) rfl rfl
def f_X12_has (a0 : Int32) (a1 : Int32) (S : AS) : Option (Int32) := (if ((a0 >>> (a1 &&& 31)) &&& (1 : Int32)) = (1 : Int32) then some (1 : Int32) else some (0 : Int32))
set_option maxRecDepth 100000 in
theorem t_X12_has {l : Launch} {a0 : Int32} {a1 : Int32} {S : AS} {r : Int32} (h : f_X12_has a0 a1 S = some r) : ax_M l 0 ma_X12_has [.inl (.int a0), .inl (.int a1)] S (some (.inl (.int r))) S := by
  unfold f_X12_has at h
  show ax_T l 0 ma_X12_has (0, [some (.inl (.int a0)), some (.inl (.int a1))], [], S) (some (.inl (.int r))) S
  refine ax_Tgo [.iload_n 0, .iload_n 1, .ishr, .iconst 1, .iand, .iconst 1] (pc' := 6) (L' := [some (.inl (.int a0)), some (.inl (.int a1))]) (st' := [.inl (.int (1 : Int32)), .inl (.int ((a0 >>> (a1 &&& 31)) &&& (1 : Int32)))]) (S' := S) ok_X12_has.1 (by decide +kernel) rfl rfl ?_
  refine ax_Tic_ne (off := 7) (tgt := 13) (by decide +kernel) (by decide) (fun c1 => ?_) (fun c1 => ?_)
  · rw [if_neg c1] at h
    refine ax_Tgo [.iconst 0] (pc' := 14) (L' := [some (.inl (.int a0)), some (.inl (.int a1))]) (st' := [.inl (.int (0 : Int32))]) (S' := S) ok_X12_has.1 (by decide +kernel) rfl rfl ?_
    cases h
    exact ax_Treti (by decide +kernel) rfl rfl
  · rw [if_pos c1] at h
    refine ax_Tgo [.iconst 1] (pc' := 10) (L' := [some (.inl (.int a0)), some (.inl (.int a1))]) (st' := [.inl (.int (1 : Int32))]) (S' := S) ok_X12_has.1 (by decide +kernel) rfl rfl ?_
    refine ax_Tgoto (off := 4) (tgt := 14) (by decide +kernel) (by decide) ?_
    cases h
    exact ax_Treti (by decide +kernel) rfl rfl
def f_X12_areUnlike_L13 (S : AS) (K110 : Int32 → Int32 → Int32 → Option (Int32)) : Nat → Int32 → Int32 → Int32 → Int32 → Option (Int32)
  | 0, _, _, _, _ => none
  | n + 1, x5, x6, x7, x8 => (if x7 ≤ x8 then K110 x5 x6 x7 else (f_X12_has x5 x7 S).bind (fun (r16 : Int32) => (if r16 = (0 : Int32) then ax_let (x8 + (1 : Int32)) (fun (v18 : Int32) => f_X12_areUnlike_L13 S K110 n x5 x6 x7 v18) else (f_X12_has x5 x8 S).bind (fun (r22 : Int32) => (if r22 = (0 : Int32) then ax_let (x8 + (1 : Int32)) (fun (v51 : Int32) => f_X12_areUnlike_L13 S K110 n x5 x6 x7 v51) else ax_let (fun (x24 : Int32)  => (if x6 = (1 : Int32) then (f_X12_of x8 (6 : Int32) S).bind (fun (r36 : Int32) => ax_let (r36 / (10 : Int32)) (fun (v38 : Int32) => (if x24 = v38 then some (0 : Int32) else ax_let (x8 + (1 : Int32)) (fun (v40 : Int32) => f_X12_areUnlike_L13 S K110 n x5 x6 x7 v40)))) else (f_X12_of x8 (6 : Int32) S).bind (fun (r30 : Int32) => (if x24 = r30 then some (0 : Int32) else ax_let (x8 + (1 : Int32)) (fun (v32 : Int32) => f_X12_areUnlike_L13 S K110 n x5 x6 x7 v32))))) (fun J25 => (if x6 = (1 : Int32) then (f_X12_of x7 (6 : Int32) S).bind (fun (r49 : Int32) => J25 (r49 / (10 : Int32))) else (f_X12_of x7 (6 : Int32) S).bind (fun (r45 : Int32) => J25 r45))))))))
def f_X12_areUnlike_L2 (S : AS) : Nat → Int32 → Int32 → Int32 → Option (Int32)
  | 0, _, _, _ => none
  | n + 1, x1, x2, x3 => (if (ax_fi S 12 0 27) ≤ x3 then some (1 : Int32) else f_X12_areUnlike_L13 S (fun (x9 : Int32) (x10 : Int32) (x11 : Int32)  => ax_let (x11 + (1 : Int32)) (fun (v52 : Int32) => f_X12_areUnlike_L2 S n x9 x10 v52)) ax_F x1 x2 x3 (0 : Int32))
def f_X12_areUnlike (a1 : Int32) (a2 : Int32) (S : AS) : Option (Int32) := f_X12_areUnlike_L2 S ax_F a1 a2 (0 : Int32)
set_option maxRecDepth 100000 in
theorem t_X12_areUnlike_L13 {l : Launch} {S : AS} {K110 : Int32 → Int32 → Int32 → Option (Int32)} (hK110 : ∀ (x9 : Int32) (x10 : Int32) (x11 : Int32) r, K110 x9 x10 x11  = some r → ax_T l 1 ma_X12_areUnlike (110, [some (.inr (12, 0)), some (.inl (.int x9)), some (.inl (.int x10)), some (.inl (.int x11)), none, none, none], [], S) (some (.inl (.int r))) S) : ∀ (n : Nat) (x5 : Int32) (x6 : Int32) (x7 : Int32) (x8 : Int32) r, f_X12_areUnlike_L13 S K110 n x5 x6 x7 x8  = some r → ax_T l 1 ma_X12_areUnlike (13, [some (.inr (12, 0)), some (.inl (.int x5)), some (.inl (.int x6)), some (.inl (.int x7)), some (.inl (.int x8)), none, none], [], S) (some (.inl (.int r))) S := by
  intro n
  induction n with
  | zero =>
    intro x5 x6 x7 x8  r h
    cases h
  | succ n ih =>
    intro x5 x6 x7 x8  r h
    unfold f_X12_areUnlike_L13 at h
    refine ax_Tgo [.iload 4, .iload_n 3] (pc' := 16) (L' := [some (.inr (12, 0)), some (.inl (.int x5)), some (.inl (.int x6)), some (.inl (.int x7)), some (.inl (.int x8)), none, none]) (st' := [.inl (.int x7), .inl (.int x8)]) (S' := S) ok_X12_areUnlike.1 (by decide +kernel) rfl rfl ?_
    refine ax_Tic_ge (off := 94) (tgt := 110) (by decide +kernel) (by decide) (fun c12 => ?_) (fun c12 => ?_)
    · rw [if_pos c12] at h
      refine ax_Tdrop [true, true, true, true, false, true, true] (L' := [some (.inr (12, 0)), some (.inl (.int x5)), some (.inl (.int x6)), some (.inl (.int x7)), none, none, none]) rfl ?_
      exact hK110 x5 x6 x7 _ h
    · rw [if_neg c12] at h
      refine ax_Tgo [.iload_n 1, .iload_n 3] (pc' := 21) (L' := [some (.inr (12, 0)), some (.inl (.int x5)), some (.inl (.int x6)), some (.inl (.int x7)), some (.inl (.int x8)), none, none]) (st' := [.inl (.int x7), .inl (.int x5)]) (S' := S) ok_X12_areUnlike.1 (by decide +kernel) rfl rfl ?_
      obtain ⟨r16, hq14, h⟩ := ax_bd_e h
      refine ax_TSi (d := 0) [.inl (.int x5), .inl (.int x7)] [] lk_X12_226 (by decide +kernel) rfl rfl (Nat.le_of_ble_eq_true rfl) (Nat.le_of_ble_eq_true rfl) ((t_X12_has hq14).up (by decide)) ?_
      refine ax_Tif_eq (off := 80) (tgt := 104) (by decide +kernel) (by decide) (fun c17 => ?_) (fun c17 => ?_)
      · rw [if_pos c17] at h
        refine ax_Tgo [.iinc 4 1] (pc' := 107) (L' := [some (.inr (12, 0)), some (.inl (.int x5)), some (.inl (.int x6)), some (.inl (.int x7)), some (.inl (.int (x8 + (1 : Int32)))), none, none]) (st' := []) (S' := S) ok_X12_areUnlike.1 (by decide +kernel) rfl rfl ?_
        obtain ⟨v18, ev18, h⟩ := ax_let_e h
        rw [ev18]
        refine ax_Tgoto (off := (-94)) (tgt := 13) (by decide +kernel) (by decide) ?_
        exact ih x5 x6 x7 v18 _ h
      · rw [if_neg c17] at h
        refine ax_Tgo [.iload_n 1, .iload 4] (pc' := 30) (L' := [some (.inr (12, 0)), some (.inl (.int x5)), some (.inl (.int x6)), some (.inl (.int x7)), some (.inl (.int x8)), none, none]) (st' := [.inl (.int x8), .inl (.int x5)]) (S' := S) ok_X12_areUnlike.1 (by decide +kernel) rfl rfl ?_
        obtain ⟨r22, hq20, h⟩ := ax_bd_e h
        refine ax_TSi (d := 0) [.inl (.int x5), .inl (.int x8)] [] lk_X12_226 (by decide +kernel) rfl rfl (Nat.le_of_ble_eq_true rfl) (Nat.le_of_ble_eq_true rfl) ((t_X12_has hq20).up (by decide)) ?_
        refine ax_Tif_ne (off := 6) (tgt := 39) (by decide +kernel) (by decide) (fun c23 => ?_) (fun c23 => ?_)
        · rw [if_neg c23] at h
          refine ax_Tgo [.iload_n 2, .iconst 1] (pc' := 41) (L' := [some (.inr (12, 0)), some (.inl (.int x5)), some (.inl (.int x6)), some (.inl (.int x7)), some (.inl (.int x8)), none, none]) (st' := [.inl (.int (1 : Int32)), .inl (.int x6)]) (S' := S) ok_X12_areUnlike.1 (by decide +kernel) rfl rfl ?_
          obtain ⟨J25, eJ25, h⟩ := ax_let_e h
          have hJ25 : ∀ (x24 : Int32)  r, J25 x24  = some r → ax_T l 1 ma_X12_areUnlike (64, [some (.inr (12, 0)), some (.inl (.int x5)), some (.inl (.int x6)), some (.inl (.int x7)), some (.inl (.int x8)), none, none], [.inl (.int x24)], S) (some (.inl (.int r))) S := by
            intro x24  r h
            rw [← eJ25] at h
            try dsimp only at h
            refine ax_Tgo [.istore 5, .iload_n 2, .iconst 1] (pc' := 68) (L' := [some (.inr (12, 0)), some (.inl (.int x5)), some (.inl (.int x6)), some (.inl (.int x7)), some (.inl (.int x8)), some (.inl (.int x24)), none]) (st' := [.inl (.int (1 : Int32)), .inl (.int x6)]) (S' := S) ok_X12_areUnlike.1 (by decide +kernel) rfl rfl ?_
            refine ax_Tic_ne (off := 17) (tgt := 85) (by decide +kernel) (by decide) (fun c26 => ?_) (fun c26 => ?_)
            · rw [if_neg c26] at h
              refine ax_Tgo [.aload_n 0, .iload 4, .bipush 6] (pc' := 90) (L' := [some (.inr (12, 0)), some (.inl (.int x5)), some (.inl (.int x6)), some (.inl (.int x7)), some (.inl (.int x8)), some (.inl (.int x24)), none]) (st' := [.inl (.int (6 : Int32)), .inl (.int x8), .inr (12, 0)]) (S' := S) ok_X12_areUnlike.1 (by decide +kernel) rfl rfl ?_
              obtain ⟨r30, hq28, h⟩ := ax_bd_e h
              refine ax_TVi (d := 0) (ka := 12) (i := 0) [.inl (.int x8), .inl (.int (6 : Int32))] [] lk_X12_311 (by decide +kernel) rfl (by decide) rfl (Nat.le_of_ble_eq_true rfl) (Nat.le_of_ble_eq_true rfl) ((t_X12_of hq28).up (by decide)) ?_
              refine ax_Tgo [.istore 6, .iload 5, .iload 6] (pc' := 99) (L' := [some (.inr (12, 0)), some (.inl (.int x5)), some (.inl (.int x6)), some (.inl (.int x7)), some (.inl (.int x8)), some (.inl (.int x24)), some (.inl (.int r30))]) (st' := [.inl (.int r30), .inl (.int x24)]) (S' := S) ok_X12_areUnlike.1 (by decide +kernel) rfl rfl ?_
              refine ax_Tic_ne (off := 5) (tgt := 104) (by decide +kernel) (by decide) (fun c31 => ?_) (fun c31 => ?_)
              · rw [if_neg c31] at h
                refine ax_Tgo [.iinc 4 1] (pc' := 107) (L' := [some (.inr (12, 0)), some (.inl (.int x5)), some (.inl (.int x6)), some (.inl (.int x7)), some (.inl (.int (x8 + (1 : Int32)))), some (.inl (.int x24)), some (.inl (.int r30))]) (st' := []) (S' := S) ok_X12_areUnlike.1 (by decide +kernel) rfl rfl ?_
                obtain ⟨v32, ev32, h⟩ := ax_let_e h
                rw [ev32]
                refine ax_Tgoto (off := (-94)) (tgt := 13) (by decide +kernel) (by decide) ?_
                refine ax_Tdrop [true, true, true, true, true, false, false] (L' := [some (.inr (12, 0)), some (.inl (.int x5)), some (.inl (.int x6)), some (.inl (.int x7)), some (.inl (.int v32)), none, none]) rfl ?_
                exact ih x5 x6 x7 v32 _ h
              · rw [if_pos c31] at h
                refine ax_Tgo [.iconst 0] (pc' := 103) (L' := [some (.inr (12, 0)), some (.inl (.int x5)), some (.inl (.int x6)), some (.inl (.int x7)), some (.inl (.int x8)), some (.inl (.int x24)), some (.inl (.int r30))]) (st' := [.inl (.int (0 : Int32))]) (S' := S) ok_X12_areUnlike.1 (by decide +kernel) rfl rfl ?_
                cases h
                exact ax_Treti (by decide +kernel) rfl rfl
            · rw [if_pos c26] at h
              refine ax_Tgo [.aload_n 0, .iload 4, .bipush 6] (pc' := 76) (L' := [some (.inr (12, 0)), some (.inl (.int x5)), some (.inl (.int x6)), some (.inl (.int x7)), some (.inl (.int x8)), some (.inl (.int x24)), none]) (st' := [.inl (.int (6 : Int32)), .inl (.int x8), .inr (12, 0)]) (S' := S) ok_X12_areUnlike.1 (by decide +kernel) rfl rfl ?_
              obtain ⟨r36, hq34, h⟩ := ax_bd_e h
              refine ax_TVi (d := 0) (ka := 12) (i := 0) [.inl (.int x8), .inl (.int (6 : Int32))] [] lk_X12_311 (by decide +kernel) rfl (by decide) rfl (Nat.le_of_ble_eq_true rfl) (Nat.le_of_ble_eq_true rfl) ((t_X12_of hq34).up (by decide)) ?_
              refine ax_Tgo [.bipush 10] (pc' := 81) (L' := [some (.inr (12, 0)), some (.inl (.int x5)), some (.inl (.int x6)), some (.inl (.int x7)), some (.inl (.int x8)), some (.inl (.int x24)), none]) (st' := [.inl (.int (10 : Int32)), .inl (.int r36)]) (S' := S) ok_X12_areUnlike.1 (by decide +kernel) rfl rfl ?_
              refine ax_Tidiv ok_X12_areUnlike.1 (by decide +kernel) (by decide) ?_
              refine ax_Tgoto (off := 11) (tgt := 93) (by decide +kernel) (by decide) ?_
              refine ax_Tgo [.istore 6] (pc' := 95) (L' := [some (.inr (12, 0)), some (.inl (.int x5)), some (.inl (.int x6)), some (.inl (.int x7)), some (.inl (.int x8)), some (.inl (.int x24)), some (.inl (.int (r36 / (10 : Int32))))]) (st' := []) (S' := S) ok_X12_areUnlike.1 (by decide +kernel) rfl rfl ?_
              obtain ⟨v38, ev38, h⟩ := ax_let_e h
              rw [ev38]
              refine ax_Tgo [.iload 5, .iload 6] (pc' := 99) (L' := [some (.inr (12, 0)), some (.inl (.int x5)), some (.inl (.int x6)), some (.inl (.int x7)), some (.inl (.int x8)), some (.inl (.int x24)), some (.inl (.int v38))]) (st' := [.inl (.int v38), .inl (.int x24)]) (S' := S) ok_X12_areUnlike.1 (by decide +kernel) rfl rfl ?_
              refine ax_Tic_ne (off := 5) (tgt := 104) (by decide +kernel) (by decide) (fun c39 => ?_) (fun c39 => ?_)
              · rw [if_neg c39] at h
                refine ax_Tgo [.iinc 4 1] (pc' := 107) (L' := [some (.inr (12, 0)), some (.inl (.int x5)), some (.inl (.int x6)), some (.inl (.int x7)), some (.inl (.int (x8 + (1 : Int32)))), some (.inl (.int x24)), some (.inl (.int v38))]) (st' := []) (S' := S) ok_X12_areUnlike.1 (by decide +kernel) rfl rfl ?_
                obtain ⟨v40, ev40, h⟩ := ax_let_e h
                rw [ev40]
                refine ax_Tgoto (off := (-94)) (tgt := 13) (by decide +kernel) (by decide) ?_
                refine ax_Tdrop [true, true, true, true, true, false, false] (L' := [some (.inr (12, 0)), some (.inl (.int x5)), some (.inl (.int x6)), some (.inl (.int x7)), some (.inl (.int v40)), none, none]) rfl ?_
                exact ih x5 x6 x7 v40 _ h
              · rw [if_pos c39] at h
                refine ax_Tgo [.iconst 0] (pc' := 103) (L' := [some (.inr (12, 0)), some (.inl (.int x5)), some (.inl (.int x6)), some (.inl (.int x7)), some (.inl (.int x8)), some (.inl (.int x24)), some (.inl (.int v38))]) (st' := [.inl (.int (0 : Int32))]) (S' := S) ok_X12_areUnlike.1 (by decide +kernel) rfl rfl ?_
                cases h
                exact ax_Treti (by decide +kernel) rfl rfl
          refine ax_Tic_ne (off := 16) (tgt := 57) (by decide +kernel) (by decide) (fun c41 => ?_) (fun c41 => ?_)
          · rw [if_neg c41] at h
            refine ax_Tgo [.aload_n 0, .iload_n 3, .bipush 6] (pc' := 61) (L' := [some (.inr (12, 0)), some (.inl (.int x5)), some (.inl (.int x6)), some (.inl (.int x7)), some (.inl (.int x8)), none, none]) (st' := [.inl (.int (6 : Int32)), .inl (.int x7), .inr (12, 0)]) (S' := S) ok_X12_areUnlike.1 (by decide +kernel) rfl rfl ?_
            obtain ⟨r45, hq43, h⟩ := ax_bd_e h
            refine ax_TVi (d := 0) (ka := 12) (i := 0) [.inl (.int x7), .inl (.int (6 : Int32))] [] lk_X12_311 (by decide +kernel) rfl (by decide) rfl (Nat.le_of_ble_eq_true rfl) (Nat.le_of_ble_eq_true rfl) ((t_X12_of hq43).up (by decide)) ?_
            exact hJ25 r45 _ h
          · rw [if_pos c41] at h
            refine ax_Tgo [.aload_n 0, .iload_n 3, .bipush 6] (pc' := 48) (L' := [some (.inr (12, 0)), some (.inl (.int x5)), some (.inl (.int x6)), some (.inl (.int x7)), some (.inl (.int x8)), none, none]) (st' := [.inl (.int (6 : Int32)), .inl (.int x7), .inr (12, 0)]) (S' := S) ok_X12_areUnlike.1 (by decide +kernel) rfl rfl ?_
            obtain ⟨r49, hq47, h⟩ := ax_bd_e h
            refine ax_TVi (d := 0) (ka := 12) (i := 0) [.inl (.int x7), .inl (.int (6 : Int32))] [] lk_X12_311 (by decide +kernel) rfl (by decide) rfl (Nat.le_of_ble_eq_true rfl) (Nat.le_of_ble_eq_true rfl) ((t_X12_of hq47).up (by decide)) ?_
            refine ax_Tgo [.bipush 10] (pc' := 53) (L' := [some (.inr (12, 0)), some (.inl (.int x5)), some (.inl (.int x6)), some (.inl (.int x7)), some (.inl (.int x8)), none, none]) (st' := [.inl (.int (10 : Int32)), .inl (.int r49)]) (S' := S) ok_X12_areUnlike.1 (by decide +kernel) rfl rfl ?_
            refine ax_Tidiv ok_X12_areUnlike.1 (by decide +kernel) (by decide) ?_
            refine ax_Tgoto (off := 10) (tgt := 64) (by decide +kernel) (by decide) ?_
            exact hJ25 (r49 / (10 : Int32)) _ h
        · rw [if_pos c23] at h
          refine ax_Tgoto (off := 68) (tgt := 104) (by decide +kernel) (by decide) ?_
          refine ax_Tgo [.iinc 4 1] (pc' := 107) (L' := [some (.inr (12, 0)), some (.inl (.int x5)), some (.inl (.int x6)), some (.inl (.int x7)), some (.inl (.int (x8 + (1 : Int32)))), none, none]) (st' := []) (S' := S) ok_X12_areUnlike.1 (by decide +kernel) rfl rfl ?_
          obtain ⟨v51, ev51, h⟩ := ax_let_e h
          rw [ev51]
          refine ax_Tgoto (off := (-94)) (tgt := 13) (by decide +kernel) (by decide) ?_
          exact ih x5 x6 x7 v51 _ h
set_option maxRecDepth 100000 in
theorem t_X12_areUnlike_L2 {l : Launch} {S : AS} : ∀ (n : Nat) (x1 : Int32) (x2 : Int32) (x3 : Int32) r, f_X12_areUnlike_L2 S n x1 x2 x3  = some r → ax_T l 1 ma_X12_areUnlike (2, [some (.inr (12, 0)), some (.inl (.int x1)), some (.inl (.int x2)), some (.inl (.int x3)), none, none, none], [], S) (some (.inl (.int r))) S := by
  intro n
  induction n with
  | zero =>
    intro x1 x2 x3  r h
    cases h
  | succ n ih =>
    intro x1 x2 x3  r h
    unfold f_X12_areUnlike_L2 at h
    refine ax_Tgo [.iload_n 3, .aload_n 0, .getfield 291] (pc' := 7) (L' := [some (.inr (12, 0)), some (.inl (.int x1)), some (.inl (.int x2)), some (.inl (.int x3)), none, none, none]) (st' := [.inl (.int (ax_fi S 12 0 27)), .inl (.int x3)]) (S' := S) ok_X12_areUnlike.1 (by decide +kernel) rfl rfl ?_
    refine ax_Tic_ge (off := 109) (tgt := 116) (by decide +kernel) (by decide) (fun c4 => ?_) (fun c4 => ?_)
    · rw [if_pos c4] at h
      refine ax_Tgo [.iconst 1] (pc' := 117) (L' := [some (.inr (12, 0)), some (.inl (.int x1)), some (.inl (.int x2)), some (.inl (.int x3)), none, none, none]) (st' := [.inl (.int (1 : Int32))]) (S' := S) ok_X12_areUnlike.1 (by decide +kernel) rfl rfl ?_
      cases h
      exact ax_Treti (by decide +kernel) rfl rfl
    · rw [if_neg c4] at h
      refine ax_Tgo [.iconst 0, .istore 4] (pc' := 13) (L' := [some (.inr (12, 0)), some (.inl (.int x1)), some (.inl (.int x2)), some (.inl (.int x3)), some (.inl (.int (0 : Int32))), none, none]) (st' := []) (S' := S) ok_X12_areUnlike.1 (by decide +kernel) rfl rfl ?_
      refine t_X12_areUnlike_L13 ?_ _ x1 x2 x3 (0 : Int32) _ h
      · intro x9 x10 x11  r h
        refine ax_Tgo [.iinc 3 1] (pc' := 113) (L' := [some (.inr (12, 0)), some (.inl (.int x9)), some (.inl (.int x10)), some (.inl (.int (x11 + (1 : Int32)))), none, none, none]) (st' := []) (S' := S) ok_X12_areUnlike.1 (by decide +kernel) rfl rfl ?_
        obtain ⟨v52, ev52, h⟩ := ax_let_e h
        rw [ev52]
        refine ax_Tgoto (off := (-111)) (tgt := 2) (by decide +kernel) (by decide) ?_
        exact ih x9 x10 v52 _ h
set_option maxRecDepth 100000 in
theorem t_X12_areUnlike {l : Launch} {a1 : Int32} {a2 : Int32} {S : AS} {r : Int32} (h : f_X12_areUnlike a1 a2 S = some r) : ax_M l 1 ma_X12_areUnlike [.inr (12, 0), .inl (.int a1), .inl (.int a2)] S (some (.inl (.int r))) S := by
  unfold f_X12_areUnlike at h
  show ax_T l 1 ma_X12_areUnlike (0, [some (.inr (12, 0)), some (.inl (.int a1)), some (.inl (.int a2)), none, none, none, none], [], S) (some (.inl (.int r))) S
  refine ax_Tgo [.iconst 0, .istore_n 3] (pc' := 2) (L' := [some (.inr (12, 0)), some (.inl (.int a1)), some (.inl (.int a2)), some (.inl (.int (0 : Int32))), none, none, none]) (st' := []) (S' := S) ok_X12_areUnlike.1 (by decide +kernel) rfl rfl ?_
  refine t_X12_areUnlike_L2 _ a1 a2 (0 : Int32) _ h
def f_X12_apart (a1 : Int32) (S : AS) : Option (Int32 × AS) := ax_let (ax_sfi S 12 0 0 (0 : Int32)) (fun (S1 : AS) => (if (ax_fi S1 12 0 27) = (0 : Int32) then some ((Int32.ofInt (-1)), S1) else (f_X12_isIn (a1.toInt64) (0 : Int64) (((1 : Int32) <<< ((ax_fi S1 12 0 27) &&& 31)) - (1 : Int32)).toInt64 S1).bind (fun (r6 : Int32) => (if r6 = (0 : Int32) then some ((Int32.ofInt (-1)), S1) else (f_J6_bitCount_0f7a4 a1 S1).bind (fun (r11 : Int32) => (if (2 : Int32) ≤ r11 then (f_X12_areUnlike a1 (1 : Int32) S1).bind (fun (r16 : Int32) => (if r16 = (0 : Int32) then (f_X12_areUnlike a1 (2 : Int32) S1).bind (fun (r21 : Int32) => (if r21 = (0 : Int32) then some ((Int32.ofInt (-1)), S1) else some ((2 : Int32), S1))) else some ((1 : Int32), S1))) else some ((Int32.ofInt (-1)), S1)))))))
set_option maxRecDepth 100000 in
theorem t_X12_apart {l : Launch} {a1 : Int32} {S Z : AS} {r : Int32} (h : f_X12_apart a1 S = some (r, Z)) : ax_M l 2 ma_X12_apart [.inr (12, 0), .inl (.int a1)] S (some (.inl (.int r))) Z := by
  unfold f_X12_apart at h
  show ax_T l 2 ma_X12_apart (0, [some (.inr (12, 0)), some (.inl (.int a1))], [], S) (some (.inl (.int r))) Z
  refine ax_Tgo [.aload_n 0, .iconst 0, .putfield 93] (pc' := 5) (L' := [some (.inr (12, 0)), some (.inl (.int a1))]) (st' := []) (S' := (ax_sfi S 12 0 0 (0 : Int32))) ok_X12_apart.1 (by decide +kernel) rfl rfl ?_
  obtain ⟨S1, eS1, h⟩ := ax_let_e h
  rw [eS1]
  refine ax_Tgo [.aload_n 0, .getfield 291] (pc' := 9) (L' := [some (.inr (12, 0)), some (.inl (.int a1))]) (st' := [.inl (.int (ax_fi S1 12 0 27))]) (S' := S1) ok_X12_apart.1 (by decide +kernel) rfl rfl ?_
  refine ax_Tif_eq (off := 29) (tgt := 38) (by decide +kernel) (by decide) (fun c2 => ?_) (fun c2 => ?_)
  · rw [if_pos c2] at h
    refine ax_Tgo [.iconst (-1)] (pc' := 39) (L' := [some (.inr (12, 0)), some (.inl (.int a1))]) (st' := [.inl (.int (Int32.ofInt (-1)))]) (S' := S1) ok_X12_apart.1 (by decide +kernel) rfl rfl ?_
    cases h
    exact ax_Treti (by decide +kernel) rfl rfl
  · rw [if_neg c2] at h
    refine ax_Tgo [.iload_n 1, .i2l, .lconst 0, .iconst 1, .aload_n 0, .getfield 291, .ishl, .iconst 1, .isub, .i2l] (pc' := 24) (L' := [some (.inr (12, 0)), some (.inl (.int a1))]) (st' := [.inl (.long (((1 : Int32) <<< ((ax_fi S1 12 0 27) &&& 31)) - (1 : Int32)).toInt64), .inl (.long (0 : Int64)), .inl (.long a1.toInt64)]) (S' := S1) ok_X12_apart.1 (by decide +kernel) rfl rfl ?_
    obtain ⟨r6, hq4, h⟩ := ax_bd_e h
    refine ax_TSi (d := 1) [.inl (.long a1.toInt64), .inl (.long (0 : Int64)), .inl (.long (((1 : Int32) <<< ((ax_fi S1 12 0 27) &&& 31)) - (1 : Int32)).toInt64)] [] lk_X12_214 (by decide +kernel) rfl rfl (Nat.le_of_ble_eq_true rfl) (Nat.le_of_ble_eq_true rfl) ((t_X12_isIn hq4).up (by decide)) ?_
    refine ax_Tif_eq (off := 11) (tgt := 38) (by decide +kernel) (by decide) (fun c7 => ?_) (fun c7 => ?_)
    · rw [if_pos c7] at h
      refine ax_Tgo [.iconst (-1)] (pc' := 39) (L' := [some (.inr (12, 0)), some (.inl (.int a1))]) (st' := [.inl (.int (Int32.ofInt (-1)))]) (S' := S1) ok_X12_apart.1 (by decide +kernel) rfl rfl ?_
      cases h
      exact ax_Treti (by decide +kernel) rfl rfl
    · rw [if_neg c7] at h
      refine ax_Tgo [.iload_n 1] (pc' := 31) (L' := [some (.inr (12, 0)), some (.inl (.int a1))]) (st' := [.inl (.int a1)]) (S' := S1) ok_X12_apart.1 (by decide +kernel) rfl rfl ?_
      obtain ⟨r11, hq9, h⟩ := ax_bd_e h
      refine ax_TSi (d := 1) [.inl (.int a1)] [] lk_X12_434 (by decide +kernel) rfl rfl (Nat.le_of_ble_eq_true rfl) (Nat.le_of_ble_eq_true rfl) ((t_J6_bitCount_0f7a4 hq9).up (by decide)) ?_
      refine ax_Tgo [.iconst 2] (pc' := 35) (L' := [some (.inr (12, 0)), some (.inl (.int a1))]) (st' := [.inl (.int (2 : Int32)), .inl (.int r11)]) (S' := S1) ok_X12_apart.1 (by decide +kernel) rfl rfl ?_
      refine ax_Tic_ge (off := 5) (tgt := 40) (by decide +kernel) (by decide) (fun c12 => ?_) (fun c12 => ?_)
      · rw [if_pos c12] at h
        refine ax_Tgo [.aload_n 0, .iload_n 1, .iconst 1] (pc' := 43) (L' := [some (.inr (12, 0)), some (.inl (.int a1))]) (st' := [.inl (.int (1 : Int32)), .inl (.int a1), .inr (12, 0)]) (S' := S1) ok_X12_apart.1 (by decide +kernel) rfl rfl ?_
        obtain ⟨r16, hq14, h⟩ := ax_bd_e h
        refine ax_TVi (d := 1) (ka := 12) (i := 0) [.inl (.int a1), .inl (.int (1 : Int32))] [] lk_X12_439 (by decide +kernel) rfl (by decide) rfl (Nat.le_of_ble_eq_true rfl) (Nat.le_of_ble_eq_true rfl) ((t_X12_areUnlike hq14).up (by decide)) ?_
        refine ax_Tif_eq (off := 7) (tgt := 53) (by decide +kernel) (by decide) (fun c17 => ?_) (fun c17 => ?_)
        · rw [if_pos c17] at h
          refine ax_Tgo [.aload_n 0, .iload_n 1, .iconst 2] (pc' := 56) (L' := [some (.inr (12, 0)), some (.inl (.int a1))]) (st' := [.inl (.int (2 : Int32)), .inl (.int a1), .inr (12, 0)]) (S' := S1) ok_X12_apart.1 (by decide +kernel) rfl rfl ?_
          obtain ⟨r21, hq19, h⟩ := ax_bd_e h
          refine ax_TVi (d := 1) (ka := 12) (i := 0) [.inl (.int a1), .inl (.int (2 : Int32))] [] lk_X12_439 (by decide +kernel) rfl (by decide) rfl (Nat.le_of_ble_eq_true rfl) (Nat.le_of_ble_eq_true rfl) ((t_X12_areUnlike hq19).up (by decide)) ?_
          refine ax_Tif_eq (off := 7) (tgt := 66) (by decide +kernel) (by decide) (fun c22 => ?_) (fun c22 => ?_)
          · rw [if_pos c22] at h
            refine ax_Tgo [.iconst (-1)] (pc' := 67) (L' := [some (.inr (12, 0)), some (.inl (.int a1))]) (st' := [.inl (.int (Int32.ofInt (-1)))]) (S' := S1) ok_X12_apart.1 (by decide +kernel) rfl rfl ?_
            cases h
            exact ax_Treti (by decide +kernel) rfl rfl
          · rw [if_neg c22] at h
            refine ax_Tgo [.iconst 2] (pc' := 63) (L' := [some (.inr (12, 0)), some (.inl (.int a1))]) (st' := [.inl (.int (2 : Int32))]) (S' := S1) ok_X12_apart.1 (by decide +kernel) rfl rfl ?_
            refine ax_Tgoto (off := 4) (tgt := 67) (by decide +kernel) (by decide) ?_
            cases h
            exact ax_Treti (by decide +kernel) rfl rfl
        · rw [if_neg c17] at h
          refine ax_Tgo [.iconst 1] (pc' := 50) (L' := [some (.inr (12, 0)), some (.inl (.int a1))]) (st' := [.inl (.int (1 : Int32))]) (S' := S1) ok_X12_apart.1 (by decide +kernel) rfl rfl ?_
          refine ax_Tgoto (off := 17) (tgt := 67) (by decide +kernel) (by decide) ?_
          cases h
          exact ax_Treti (by decide +kernel) rfl rfl
      · rw [if_neg c12] at h
        refine ax_Tgo [.iconst (-1)] (pc' := 39) (L' := [some (.inr (12, 0)), some (.inl (.int a1))]) (st' := [.inl (.int (Int32.ofInt (-1)))]) (S' := S1) ok_X12_apart.1 (by decide +kernel) rfl rfl ?_
        cases h
        exact ax_Treti (by decide +kernel) rfl rfl
def f_X12_isLonger (a1 : Int32) (a2 : Int32) (a3 : Int32) (S : AS) : Option (Int32 × AS) := ax_bu (f_X12_takes_ a1 a2 (0 : Int32) (0 : Int32) (0 : Int32) (0 : Int32) S) (fun (r4 : Int32) (S1 : AS) => (if r4 < a3 then some ((0 : Int32), S1) else some ((1 : Int32), S1)))
set_option maxRecDepth 100000 in
theorem t_X12_isLonger {l : Launch} {a1 : Int32} {a2 : Int32} {a3 : Int32} {S Z : AS} {r : Int32} (h : f_X12_isLonger a1 a2 a3 S = some (r, Z)) : ax_M l 74 ma_X12_isLonger [.inr (12, 0), .inl (.int a1), .inl (.int a2), .inl (.int a3)] S (some (.inl (.int r))) Z := by
  unfold f_X12_isLonger at h
  show ax_T l 74 ma_X12_isLonger (0, [some (.inr (12, 0)), some (.inl (.int a1)), some (.inl (.int a2)), some (.inl (.int a3))], [], S) (some (.inl (.int r))) Z
  refine ax_Tgo [.aload_n 0, .iload_n 1, .iload_n 2, .iconst 0, .iconst 0, .iconst 0, .iconst 0] (pc' := 7) (L' := [some (.inr (12, 0)), some (.inl (.int a1)), some (.inl (.int a2)), some (.inl (.int a3))]) (st' := [.inl (.int (0 : Int32)), .inl (.int (0 : Int32)), .inl (.int (0 : Int32)), .inl (.int (0 : Int32)), .inl (.int a2), .inl (.int a1), .inr (12, 0)]) (S' := S) ok_X12_isLonger.1 (by decide +kernel) rfl rfl ?_
  obtain ⟨r4, S1, hq2, h⟩ := ax_bu_e h
  refine ax_TVi (d := 73) (ka := 12) (i := 0) [.inl (.int a1), .inl (.int a2), .inl (.int (0 : Int32)), .inl (.int (0 : Int32)), .inl (.int (0 : Int32)), .inl (.int (0 : Int32))] [] lk_X12_322 (by decide +kernel) rfl (by decide) rfl (Nat.le_of_ble_eq_true rfl) (Nat.le_of_ble_eq_true rfl) ((t_X12_takes_ hq2).up (by decide)) ?_
  refine ax_Tgo [.iload_n 3] (pc' := 11) (L' := [some (.inr (12, 0)), some (.inl (.int a1)), some (.inl (.int a2)), some (.inl (.int a3))]) (st' := [.inl (.int a3), .inl (.int r4)]) (S' := S1) ok_X12_isLonger.1 (by decide +kernel) rfl rfl ?_
  refine ax_Tic_lt (off := 7) (tgt := 18) (by decide +kernel) (by decide) (fun c5 => ?_) (fun c5 => ?_)
  · rw [if_pos c5] at h
    refine ax_Tgo [.iconst 0] (pc' := 19) (L' := [some (.inr (12, 0)), some (.inl (.int a1)), some (.inl (.int a2)), some (.inl (.int a3))]) (st' := [.inl (.int (0 : Int32))]) (S' := S1) ok_X12_isLonger.1 (by decide +kernel) rfl rfl ?_
    cases h
    exact ax_Treti (by decide +kernel) rfl rfl
  · rw [if_neg c5] at h
    refine ax_Tgo [.iconst 1] (pc' := 15) (L' := [some (.inr (12, 0)), some (.inl (.int a1)), some (.inl (.int a2)), some (.inl (.int a3))]) (st' := [.inl (.int (1 : Int32))]) (S' := S1) ok_X12_isLonger.1 (by decide +kernel) rfl rfl ?_
    refine ax_Tgoto (off := 4) (tgt := 19) (by decide +kernel) (by decide) ?_
    cases h
    exact ax_Treti (by decide +kernel) rfl rfl
def f_X12_hardBits_L16 (K96 : Int32 → Int32 → Int32 → Int32 → AS → Option (Int32 × AS)) : Nat → Int32 → Int32 → Int32 → Int32 → Int32 → AS → Option (Int32 × AS)
  | 0, _, _, _, _, _, _ => none
  | n + 1, x7, x8, x9, x10, x11, S16 => (if (ax_fi S16 12 0 47) ≤ x11 then K96 x7 x8 x9 x10 S16 else (if x10 = (0 : Int32) then K96 x7 x8 x9 x10 S16 else ax_gd (ax_in ((3 : Int32) * x11) 30) ((if (ax_ai S16 61 0 ((3 : Int32) * x11).toNatClampNeg) = x7 then ax_gd (ax_in (((3 : Int32) * x11) + (1 : Int32)) 30) (ax_bu (f_X12_isLonger x7 x9 (ax_ai S16 61 0 (((3 : Int32) * x11) + (1 : Int32)).toNatClampNeg) S16) (fun (r26 : Int32) (S23 : AS) => ax_gd (ax_in (((3 : Int32) * x11) + (2 : Int32)) 30) ((if (ax_ai S23 61 0 (((3 : Int32) * x11) + (2 : Int32)).toNatClampNeg) = (1 : Int32) then (if r26 = (1 : Int32) then ax_let (x11 + (1 : Int32)) (fun (v34 : Int32) => f_X12_hardBits_L16 K96 n x7 x8 x9 (1 : Int32) v34 S23) else ax_let (x11 + (1 : Int32)) (fun (v33 : Int32) => f_X12_hardBits_L16 K96 n x7 x8 x9 (0 : Int32) v33 S23)) else (if r26 = (0 : Int32) then ax_let (x11 + (1 : Int32)) (fun (v31 : Int32) => f_X12_hardBits_L16 K96 n x7 x8 x9 (1 : Int32) v31 S23) else ax_let (x11 + (1 : Int32)) (fun (v30 : Int32) => f_X12_hardBits_L16 K96 n x7 x8 x9 (0 : Int32) v30 S23)))))) else ax_let (x11 + (1 : Int32)) (fun (v21 : Int32) => f_X12_hardBits_L16 K96 n x7 x8 x9 x10 v21 S16)))))
def f_X12_hardBits_L4 (K117 : Int32 → AS → Option (Int32 × AS)) : Nat → Int32 → Int32 → Int32 → AS → Option (Int32 × AS)
  | 0, _, _, _, _ => none
  | n + 1, x1, x2, x3, S5 => (if (6 : Int32) ≤ x3 then K117 x2 S5 else f_X12_hardBits_L16 (fun (x12 : Int32) (x13 : Int32) (x14 : Int32) (x15 : Int32) (S35 : AS) => (if x15 = (0 : Int32) then ax_let (x13 ||| (0 : Int32)) (fun (v37 : Int32) => ax_let (x14 + (1 : Int32)) (fun (v38 : Int32) => f_X12_hardBits_L4 K117 n x12 v37 v38 S35)) else ax_let (x13 ||| ((1 : Int32) <<< (x14 &&& 31))) (fun (v39 : Int32) => ax_let (x14 + (1 : Int32)) (fun (v40 : Int32) => f_X12_hardBits_L4 K117 n x12 v39 v40 S35)))) ax_F x1 x2 x3 (1 : Int32) (0 : Int32) S5)
def f_X12_hardBits (a1 : Int32) (S : AS) : Option (Int32 × AS) := f_X12_hardBits_L4 (fun (x4 : Int32) (S41 : AS) => some (x4, S41)) ax_F a1 (0 : Int32) (0 : Int32) S
set_option maxRecDepth 100000 in
theorem t_X12_hardBits_L16 {l : Launch} {K96 : Int32 → Int32 → Int32 → Int32 → AS → Option (Int32 × AS)} (hK96 : ∀ (x12 : Int32) (x13 : Int32) (x14 : Int32) (x15 : Int32) (S : AS) r Z, K96 x12 x13 x14 x15 S = some (r, Z) → ax_T l 75 ma_X12_hardBits (96, [some (.inr (12, 0)), some (.inl (.int x12)), some (.inl (.int x13)), some (.inl (.int x14)), some (.inl (.int x15)), none], [], S) (some (.inl (.int r))) Z) : ∀ (n : Nat) (x7 : Int32) (x8 : Int32) (x9 : Int32) (x10 : Int32) (x11 : Int32) (S16 : AS) r Z, f_X12_hardBits_L16 K96 n x7 x8 x9 x10 x11 S16 = some (r, Z) → ax_T l 75 ma_X12_hardBits (16, [some (.inr (12, 0)), some (.inl (.int x7)), some (.inl (.int x8)), some (.inl (.int x9)), some (.inl (.int x10)), some (.inl (.int x11))], [], S16) (some (.inl (.int r))) Z := by
  intro n
  induction n with
  | zero =>
    intro x7 x8 x9 x10 x11 S16 r Z h
    cases h
  | succ n ih =>
    intro x7 x8 x9 x10 x11 S16 r Z h
    unfold f_X12_hardBits_L16 at h
    refine ax_Tgo [.iload 5, .aload_n 0, .getfield 294] (pc' := 22) (L' := [some (.inr (12, 0)), some (.inl (.int x7)), some (.inl (.int x8)), some (.inl (.int x9)), some (.inl (.int x10)), some (.inl (.int x11))]) (st' := [.inl (.int (ax_fi S16 12 0 47)), .inl (.int x11)]) (S' := S16) ok_X12_hardBits.1 (by decide +kernel) rfl rfl ?_
    refine ax_Tic_ge (off := 74) (tgt := 96) (by decide +kernel) (by decide) (fun c17 => ?_) (fun c17 => ?_)
    · rw [if_pos c17] at h
      refine ax_Tdrop [true, true, true, true, true, false] (L' := [some (.inr (12, 0)), some (.inl (.int x7)), some (.inl (.int x8)), some (.inl (.int x9)), some (.inl (.int x10)), none]) rfl ?_
      exact hK96 x7 x8 x9 x10 S16 _ _ h
    · rw [if_neg c17] at h
      refine ax_Tgo [.iload 4] (pc' := 27) (L' := [some (.inr (12, 0)), some (.inl (.int x7)), some (.inl (.int x8)), some (.inl (.int x9)), some (.inl (.int x10)), some (.inl (.int x11))]) (st' := [.inl (.int x10)]) (S' := S16) ok_X12_hardBits.1 (by decide +kernel) rfl rfl ?_
      refine ax_Tif_eq (off := 69) (tgt := 96) (by decide +kernel) (by decide) (fun c18 => ?_) (fun c18 => ?_)
      · rw [if_pos c18] at h
        refine ax_Tdrop [true, true, true, true, true, false] (L' := [some (.inr (12, 0)), some (.inl (.int x7)), some (.inl (.int x8)), some (.inl (.int x9)), some (.inl (.int x10)), none]) rfl ?_
        exact hK96 x7 x8 x9 x10 S16 _ _ h
      · rw [if_neg c18] at h
        refine ax_Tgo [.aload_n 0, .getfield 87, .iconst 3, .iload 5, .imul] (pc' := 38) (L' := [some (.inr (12, 0)), some (.inl (.int x7)), some (.inl (.int x8)), some (.inl (.int x9)), some (.inl (.int x10)), some (.inl (.int x11))]) (st' := [.inl (.int ((3 : Int32) * x11)), .inr (61, 0)]) (S' := S16) ok_X12_hardBits.1 (by decide +kernel) rfl rfl ?_
        obtain ⟨g19, h⟩ := ax_gd_e h
        refine ax_Tali (n := 30) ok_X12_hardBits.1 (by decide +kernel) (by decide) rfl g19 ?_
        refine ax_Tgo [.iload_n 1] (pc' := 40) (L' := [some (.inr (12, 0)), some (.inl (.int x7)), some (.inl (.int x8)), some (.inl (.int x9)), some (.inl (.int x10)), some (.inl (.int x11))]) (st' := [.inl (.int x7), .inl (.int (ax_ai S16 61 0 ((3 : Int32) * x11).toNatClampNeg))]) (S' := S16) ok_X12_hardBits.1 (by decide +kernel) rfl rfl ?_
        refine ax_Tic_ne (off := 50) (tgt := 90) (by decide +kernel) (by decide) (fun c20 => ?_) (fun c20 => ?_)
        · rw [if_neg c20] at h
          refine ax_Tgo [.iinc 5 1] (pc' := 93) (L' := [some (.inr (12, 0)), some (.inl (.int x7)), some (.inl (.int x8)), some (.inl (.int x9)), some (.inl (.int x10)), some (.inl (.int (x11 + (1 : Int32))))]) (st' := []) (S' := S16) ok_X12_hardBits.1 (by decide +kernel) rfl rfl ?_
          obtain ⟨v21, ev21, h⟩ := ax_let_e h
          rw [ev21]
          refine ax_Tgoto (off := (-77)) (tgt := 16) (by decide +kernel) (by decide) ?_
          exact ih x7 x8 x9 x10 v21 S16 _ _ h
        · rw [if_pos c20] at h
          refine ax_Tgo [.aload_n 0, .iload_n 1, .iload_n 3, .aload_n 0, .getfield 87, .iconst 3, .iload 5, .imul, .iconst 1, .iadd] (pc' := 56) (L' := [some (.inr (12, 0)), some (.inl (.int x7)), some (.inl (.int x8)), some (.inl (.int x9)), some (.inl (.int x10)), some (.inl (.int x11))]) (st' := [.inl (.int (((3 : Int32) * x11) + (1 : Int32))), .inr (61, 0), .inl (.int x9), .inl (.int x7), .inr (12, 0)]) (S' := S16) ok_X12_hardBits.1 (by decide +kernel) rfl rfl ?_
          obtain ⟨g22, h⟩ := ax_gd_e h
          refine ax_Tali (n := 30) ok_X12_hardBits.1 (by decide +kernel) (by decide) rfl g22 ?_
          obtain ⟨r26, S23, hq24, h⟩ := ax_bu_e h
          refine ax_TVi (d := 74) (ka := 12) (i := 0) [.inl (.int x7), .inl (.int x9), .inl (.int (ax_ai S16 61 0 (((3 : Int32) * x11) + (1 : Int32)).toNatClampNeg))] [] lk_X12_424 (by decide +kernel) rfl (by decide) rfl (Nat.le_of_ble_eq_true rfl) (Nat.le_of_ble_eq_true rfl) ((t_X12_isLonger hq24).up (by decide)) ?_
          refine ax_Tgo [.aload_n 0, .getfield 87, .iconst 3, .iload 5, .imul, .iconst 2, .iadd] (pc' := 70) (L' := [some (.inr (12, 0)), some (.inl (.int x7)), some (.inl (.int x8)), some (.inl (.int x9)), some (.inl (.int x10)), some (.inl (.int x11))]) (st' := [.inl (.int (((3 : Int32) * x11) + (2 : Int32))), .inr (61, 0), .inl (.int r26)]) (S' := S23) ok_X12_hardBits.1 (by decide +kernel) rfl rfl ?_
          obtain ⟨g27, h⟩ := ax_gd_e h
          refine ax_Tali (n := 30) ok_X12_hardBits.1 (by decide +kernel) (by decide) rfl g27 ?_
          refine ax_Tgo [.iconst 1] (pc' := 72) (L' := [some (.inr (12, 0)), some (.inl (.int x7)), some (.inl (.int x8)), some (.inl (.int x9)), some (.inl (.int x10)), some (.inl (.int x11))]) (st' := [.inl (.int (1 : Int32)), .inl (.int (ax_ai S23 61 0 (((3 : Int32) * x11) + (2 : Int32)).toNatClampNeg)), .inl (.int r26)]) (S' := S23) ok_X12_hardBits.1 (by decide +kernel) rfl rfl ?_
          refine ax_Tic_ne (off := 7) (tgt := 79) (by decide +kernel) (by decide) (fun c28 => ?_) (fun c28 => ?_)
          · rw [if_neg c28] at h
            refine ax_Tgo [.iconst 0] (pc' := 80) (L' := [some (.inr (12, 0)), some (.inl (.int x7)), some (.inl (.int x8)), some (.inl (.int x9)), some (.inl (.int x10)), some (.inl (.int x11))]) (st' := [.inl (.int (0 : Int32)), .inl (.int r26)]) (S' := S23) ok_X12_hardBits.1 (by decide +kernel) rfl rfl ?_
            refine ax_Tic_ne (off := 7) (tgt := 87) (by decide +kernel) (by decide) (fun c29 => ?_) (fun c29 => ?_)
            · rw [if_neg c29] at h
              refine ax_Tgo [.iconst 0, .istore 4, .iinc 5 1] (pc' := 93) (L' := [some (.inr (12, 0)), some (.inl (.int x7)), some (.inl (.int x8)), some (.inl (.int x9)), some (.inl (.int (0 : Int32))), some (.inl (.int (x11 + (1 : Int32))))]) (st' := []) (S' := S23) ok_X12_hardBits.1 (by decide +kernel) rfl rfl ?_
              obtain ⟨v30, ev30, h⟩ := ax_let_e h
              rw [ev30]
              refine ax_Tgoto (off := (-77)) (tgt := 16) (by decide +kernel) (by decide) ?_
              exact ih x7 x8 x9 (0 : Int32) v30 S23 _ _ h
            · rw [if_pos c29] at h
              refine ax_Tgo [.iconst 1] (pc' := 84) (L' := [some (.inr (12, 0)), some (.inl (.int x7)), some (.inl (.int x8)), some (.inl (.int x9)), some (.inl (.int x10)), some (.inl (.int x11))]) (st' := [.inl (.int (1 : Int32))]) (S' := S23) ok_X12_hardBits.1 (by decide +kernel) rfl rfl ?_
              refine ax_Tgoto (off := 4) (tgt := 88) (by decide +kernel) (by decide) ?_
              refine ax_Tgo [.istore 4, .iinc 5 1] (pc' := 93) (L' := [some (.inr (12, 0)), some (.inl (.int x7)), some (.inl (.int x8)), some (.inl (.int x9)), some (.inl (.int (1 : Int32))), some (.inl (.int (x11 + (1 : Int32))))]) (st' := []) (S' := S23) ok_X12_hardBits.1 (by decide +kernel) rfl rfl ?_
              obtain ⟨v31, ev31, h⟩ := ax_let_e h
              rw [ev31]
              refine ax_Tgoto (off := (-77)) (tgt := 16) (by decide +kernel) (by decide) ?_
              exact ih x7 x8 x9 (1 : Int32) v31 S23 _ _ h
          · rw [if_pos c28] at h
            refine ax_Tgo [.iconst 1] (pc' := 76) (L' := [some (.inr (12, 0)), some (.inl (.int x7)), some (.inl (.int x8)), some (.inl (.int x9)), some (.inl (.int x10)), some (.inl (.int x11))]) (st' := [.inl (.int (1 : Int32)), .inl (.int r26)]) (S' := S23) ok_X12_hardBits.1 (by decide +kernel) rfl rfl ?_
            refine ax_Tgoto (off := 4) (tgt := 80) (by decide +kernel) (by decide) ?_
            refine ax_Tic_ne (off := 7) (tgt := 87) (by decide +kernel) (by decide) (fun c32 => ?_) (fun c32 => ?_)
            · rw [if_neg c32] at h
              refine ax_Tgo [.iconst 0, .istore 4, .iinc 5 1] (pc' := 93) (L' := [some (.inr (12, 0)), some (.inl (.int x7)), some (.inl (.int x8)), some (.inl (.int x9)), some (.inl (.int (0 : Int32))), some (.inl (.int (x11 + (1 : Int32))))]) (st' := []) (S' := S23) ok_X12_hardBits.1 (by decide +kernel) rfl rfl ?_
              obtain ⟨v33, ev33, h⟩ := ax_let_e h
              rw [ev33]
              refine ax_Tgoto (off := (-77)) (tgt := 16) (by decide +kernel) (by decide) ?_
              exact ih x7 x8 x9 (0 : Int32) v33 S23 _ _ h
            · rw [if_pos c32] at h
              refine ax_Tgo [.iconst 1] (pc' := 84) (L' := [some (.inr (12, 0)), some (.inl (.int x7)), some (.inl (.int x8)), some (.inl (.int x9)), some (.inl (.int x10)), some (.inl (.int x11))]) (st' := [.inl (.int (1 : Int32))]) (S' := S23) ok_X12_hardBits.1 (by decide +kernel) rfl rfl ?_
              refine ax_Tgoto (off := 4) (tgt := 88) (by decide +kernel) (by decide) ?_
              refine ax_Tgo [.istore 4, .iinc 5 1] (pc' := 93) (L' := [some (.inr (12, 0)), some (.inl (.int x7)), some (.inl (.int x8)), some (.inl (.int x9)), some (.inl (.int (1 : Int32))), some (.inl (.int (x11 + (1 : Int32))))]) (st' := []) (S' := S23) ok_X12_hardBits.1 (by decide +kernel) rfl rfl ?_
              obtain ⟨v34, ev34, h⟩ := ax_let_e h
              rw [ev34]
              refine ax_Tgoto (off := (-77)) (tgt := 16) (by decide +kernel) (by decide) ?_
              exact ih x7 x8 x9 (1 : Int32) v34 S23 _ _ h
set_option maxRecDepth 100000 in
theorem t_X12_hardBits_L4 {l : Launch} {K117 : Int32 → AS → Option (Int32 × AS)} (hK117 : ∀ (x4 : Int32) (S : AS) r Z, K117 x4 S = some (r, Z) → ax_T l 75 ma_X12_hardBits (117, [none, none, some (.inl (.int x4)), none, none, none], [], S) (some (.inl (.int r))) Z) : ∀ (n : Nat) (x1 : Int32) (x2 : Int32) (x3 : Int32) (S5 : AS) r Z, f_X12_hardBits_L4 K117 n x1 x2 x3 S5 = some (r, Z) → ax_T l 75 ma_X12_hardBits (4, [some (.inr (12, 0)), some (.inl (.int x1)), some (.inl (.int x2)), some (.inl (.int x3)), none, none], [], S5) (some (.inl (.int r))) Z := by
  intro n
  induction n with
  | zero =>
    intro x1 x2 x3 S5 r Z h
    cases h
  | succ n ih =>
    intro x1 x2 x3 S5 r Z h
    unfold f_X12_hardBits_L4 at h
    refine ax_Tgo [.iload_n 3, .bipush 6] (pc' := 7) (L' := [some (.inr (12, 0)), some (.inl (.int x1)), some (.inl (.int x2)), some (.inl (.int x3)), none, none]) (st' := [.inl (.int (6 : Int32)), .inl (.int x3)]) (S' := S5) ok_X12_hardBits.1 (by decide +kernel) rfl rfl ?_
    refine ax_Tic_ge (off := 110) (tgt := 117) (by decide +kernel) (by decide) (fun c6 => ?_) (fun c6 => ?_)
    · rw [if_pos c6] at h
      refine ax_Tdrop [false, false, true, false, true, true] (L' := [none, none, some (.inl (.int x2)), none, none, none]) rfl ?_
      exact hK117 x2 S5 _ _ h
    · rw [if_neg c6] at h
      refine ax_Tgo [.iconst 1, .istore 4, .iconst 0, .istore 5] (pc' := 16) (L' := [some (.inr (12, 0)), some (.inl (.int x1)), some (.inl (.int x2)), some (.inl (.int x3)), some (.inl (.int (1 : Int32))), some (.inl (.int (0 : Int32)))]) (st' := []) (S' := S5) ok_X12_hardBits.1 (by decide +kernel) rfl rfl ?_
      refine t_X12_hardBits_L16 ?_ _ x1 x2 x3 (1 : Int32) (0 : Int32) S5 _ _ h
      · intro x12 x13 x14 x15 S35 r Z h
        refine ax_Tgo [.iload_n 2, .iload 4] (pc' := 99) (L' := [some (.inr (12, 0)), some (.inl (.int x12)), some (.inl (.int x13)), some (.inl (.int x14)), some (.inl (.int x15)), none]) (st' := [.inl (.int x15), .inl (.int x13)]) (S' := S35) ok_X12_hardBits.1 (by decide +kernel) rfl rfl ?_
        refine ax_Tif_eq (off := 9) (tgt := 108) (by decide +kernel) (by decide) (fun c36 => ?_) (fun c36 => ?_)
        · rw [if_pos c36] at h
          refine ax_Tgo [.iconst 0, .ior, .istore_n 2] (pc' := 111) (L' := [some (.inr (12, 0)), some (.inl (.int x12)), some (.inl (.int (x13 ||| (0 : Int32)))), some (.inl (.int x14)), some (.inl (.int x15)), none]) (st' := []) (S' := S35) ok_X12_hardBits.1 (by decide +kernel) rfl rfl ?_
          obtain ⟨v37, ev37, h⟩ := ax_let_e h
          rw [ev37]
          refine ax_Tgo [.iinc 3 1] (pc' := 114) (L' := [some (.inr (12, 0)), some (.inl (.int x12)), some (.inl (.int v37)), some (.inl (.int (x14 + (1 : Int32)))), some (.inl (.int x15)), none]) (st' := []) (S' := S35) ok_X12_hardBits.1 (by decide +kernel) rfl rfl ?_
          obtain ⟨v38, ev38, h⟩ := ax_let_e h
          rw [ev38]
          refine ax_Tgoto (off := (-110)) (tgt := 4) (by decide +kernel) (by decide) ?_
          refine ax_Tdrop [true, true, true, true, false, true] (L' := [some (.inr (12, 0)), some (.inl (.int x12)), some (.inl (.int v37)), some (.inl (.int v38)), none, none]) rfl ?_
          exact ih x12 v37 v38 S35 _ _ h
        · rw [if_neg c36] at h
          refine ax_Tgo [.iconst 1, .iload_n 3, .ishl] (pc' := 105) (L' := [some (.inr (12, 0)), some (.inl (.int x12)), some (.inl (.int x13)), some (.inl (.int x14)), some (.inl (.int x15)), none]) (st' := [.inl (.int ((1 : Int32) <<< (x14 &&& 31))), .inl (.int x13)]) (S' := S35) ok_X12_hardBits.1 (by decide +kernel) rfl rfl ?_
          refine ax_Tgoto (off := 4) (tgt := 109) (by decide +kernel) (by decide) ?_
          refine ax_Tgo [.ior, .istore_n 2] (pc' := 111) (L' := [some (.inr (12, 0)), some (.inl (.int x12)), some (.inl (.int (x13 ||| ((1 : Int32) <<< (x14 &&& 31))))), some (.inl (.int x14)), some (.inl (.int x15)), none]) (st' := []) (S' := S35) ok_X12_hardBits.1 (by decide +kernel) rfl rfl ?_
          obtain ⟨v39, ev39, h⟩ := ax_let_e h
          rw [ev39]
          refine ax_Tgo [.iinc 3 1] (pc' := 114) (L' := [some (.inr (12, 0)), some (.inl (.int x12)), some (.inl (.int v39)), some (.inl (.int (x14 + (1 : Int32)))), some (.inl (.int x15)), none]) (st' := []) (S' := S35) ok_X12_hardBits.1 (by decide +kernel) rfl rfl ?_
          obtain ⟨v40, ev40, h⟩ := ax_let_e h
          rw [ev40]
          refine ax_Tgoto (off := (-110)) (tgt := 4) (by decide +kernel) (by decide) ?_
          refine ax_Tdrop [true, true, true, true, false, true] (L' := [some (.inr (12, 0)), some (.inl (.int x12)), some (.inl (.int v39)), some (.inl (.int v40)), none, none]) rfl ?_
          exact ih x12 v39 v40 S35 _ _ h
set_option maxRecDepth 100000 in
theorem t_X12_hardBits {l : Launch} {a1 : Int32} {S Z : AS} {r : Int32} (h : f_X12_hardBits a1 S = some (r, Z)) : ax_M l 75 ma_X12_hardBits [.inr (12, 0), .inl (.int a1)] S (some (.inl (.int r))) Z := by
  unfold f_X12_hardBits at h
  show ax_T l 75 ma_X12_hardBits (0, [some (.inr (12, 0)), some (.inl (.int a1)), none, none, none, none], [], S) (some (.inl (.int r))) Z
  refine ax_Tgo [.iconst 0, .istore_n 2, .iconst 0, .istore_n 3] (pc' := 4) (L' := [some (.inr (12, 0)), some (.inl (.int a1)), some (.inl (.int (0 : Int32))), some (.inl (.int (0 : Int32))), none, none]) (st' := []) (S' := S) ok_X12_hardBits.1 (by decide +kernel) rfl rfl ?_
  refine t_X12_hardBits_L4 ?_ _ a1 (0 : Int32) (0 : Int32) S _ _ h
  · intro x4 S41 r Z h
    refine ax_Tgo [.iload_n 2] (pc' := 118) (L' := [none, none, some (.inl (.int x4)), none, none, none]) (st' := [.inl (.int x4)]) (S' := S41) ok_X12_hardBits.1 (by decide +kernel) rfl rfl ?_
    cases h
    exact ax_Treti (by decide +kernel) rfl rfl
def f_X12_ask_L56 (K101 : Int32 → Int32 → Int32 → Int32 → Int32 → Int32 → AS → Option (Int32 × AS)) : Nat → Int32 → Int32 → Int32 → Int32 → Int32 → Int32 → Int32 → AS → Option (Int32 × AS)
  | 0, _, _, _, _, _, _, _, _ => none
  | n + 1, x19, x20, x21, x22, x23, x24, x25, S32 => (if (6 : Int32) ≤ x25 then K101 x19 x20 x21 x22 x23 x24 S32 else (f_X12_has x23 x25 S32).bind (fun (r37 : Int32) => (if r37 = (0 : Int32) then ax_let (x25 + (1 : Int32)) (fun (v39 : Int32) => f_X12_ask_L56 K101 n x19 x20 x21 x22 x23 x24 v39 S32) else ax_bu (f_X12_isLonger x22 x25 x19 S32) (fun (r43 : Int32) (S40 : AS) => (if r43 = (0 : Int32) then ax_let (x24 + (Int32.ofInt (-1))) (fun (v45 : Int32) => ax_let (x25 + (1 : Int32)) (fun (v46 : Int32) => f_X12_ask_L56 K101 n x19 x20 x21 x22 x23 v45 v46 S40)) else ax_let (x24 + (1 : Int32)) (fun (v47 : Int32) => ax_let (x25 + (1 : Int32)) (fun (v48 : Int32) => f_X12_ask_L56 K101 n x19 x20 x21 x22 x23 v47 v48 S40)))))))
def f_X12_ask_L33 (K139 : Int32 → AS → Option (Int32 × AS)) : Nat → Int32 → Int32 → Int32 → Int32 → AS → Option (Int32 × AS)
  | 0, _, _, _, _, _ => none
  | n + 1, x8, x9, x10, x11, S13 => (if (ax_fi S13 12 0 27) ≤ x11 then K139 x9 S13 else ax_bu (f_X12_hardBits x11 S13) (fun (r18 : Int32) (S15 : AS) => f_X12_ask_L56 (fun (x26 : Int32) (x27 : Int32) (x28 : Int32) (x29 : Int32) (x30 : Int32) (x31 : Int32) (S49 : AS) => (f_J9_abs_0f7a4 x31 S49).bind (fun (r53 : Int32) => (if x30 = (0 : Int32) then ax_let (x29 + (1 : Int32)) (fun (v55 : Int32) => f_X12_ask_L33 K139 n x26 x27 x28 v55 S49) else (if x27 = (Int32.ofInt (-1)) then ax_let (x29 + (1 : Int32)) (fun (v57 : Int32) => f_X12_ask_L33 K139 n x26 x29 r53 v57 S49) else (if r53 < x28 then ax_let (x29 + (1 : Int32)) (fun (v59 : Int32) => f_X12_ask_L33 K139 n x26 x29 r53 v59 S49) else ax_let (x29 + (1 : Int32)) (fun (v60 : Int32) => f_X12_ask_L33 K139 n x26 x27 x28 v60 S49)))))) ax_F x8 x9 x10 x11 r18 (0 : Int32) (0 : Int32) S15))
def f_X12_ask (a1 : Int32) (S : AS) : Option (Int32 × AS) := ax_let (ax_sfi S 12 0 0 (0 : Int32)) (fun (S1 : AS) => (if (ax_fi S1 12 0 27) = (0 : Int32) then some ((Int32.ofInt (-1)), S1) else (f_X12_isIn (a1.toInt64) (1 : Int64) (60 : Int64) S1).bind (fun (r6 : Int32) => (if r6 = (0 : Int32) then some ((Int32.ofInt (-1)), S1) else f_X12_ask_L33 (fun (x12 : Int32) (S61 : AS) => some (x12, S61)) ax_F a1 (Int32.ofInt (-1)) (0 : Int32) (0 : Int32) S1))))
set_option maxRecDepth 100000 in
theorem t_X12_ask_L56 {l : Launch} {K101 : Int32 → Int32 → Int32 → Int32 → Int32 → Int32 → AS → Option (Int32 × AS)} (hK101 : ∀ (x26 : Int32) (x27 : Int32) (x28 : Int32) (x29 : Int32) (x30 : Int32) (x31 : Int32) (S : AS) r Z, K101 x26 x27 x28 x29 x30 x31 S = some (r, Z) → ax_T l 76 ma_X12_ask (101, [some (.inr (12, 0)), some (.inl (.int x26)), some (.inl (.int x27)), some (.inl (.int x28)), some (.inl (.int x29)), some (.inl (.int x30)), some (.inl (.int x31)), none], [], S) (some (.inl (.int r))) Z) : ∀ (n : Nat) (x19 : Int32) (x20 : Int32) (x21 : Int32) (x22 : Int32) (x23 : Int32) (x24 : Int32) (x25 : Int32) (S32 : AS) r Z, f_X12_ask_L56 K101 n x19 x20 x21 x22 x23 x24 x25 S32 = some (r, Z) → ax_T l 76 ma_X12_ask (56, [some (.inr (12, 0)), some (.inl (.int x19)), some (.inl (.int x20)), some (.inl (.int x21)), some (.inl (.int x22)), some (.inl (.int x23)), some (.inl (.int x24)), some (.inl (.int x25))], [], S32) (some (.inl (.int r))) Z := by
  intro n
  induction n with
  | zero =>
    intro x19 x20 x21 x22 x23 x24 x25 S32 r Z h
    cases h
  | succ n ih =>
    intro x19 x20 x21 x22 x23 x24 x25 S32 r Z h
    unfold f_X12_ask_L56 at h
    refine ax_Tgo [.iload 7, .bipush 6] (pc' := 60) (L' := [some (.inr (12, 0)), some (.inl (.int x19)), some (.inl (.int x20)), some (.inl (.int x21)), some (.inl (.int x22)), some (.inl (.int x23)), some (.inl (.int x24)), some (.inl (.int x25))]) (st' := [.inl (.int (6 : Int32)), .inl (.int x25)]) (S' := S32) ok_X12_ask.1 (by decide +kernel) rfl rfl ?_
    refine ax_Tic_ge (off := 41) (tgt := 101) (by decide +kernel) (by decide) (fun c33 => ?_) (fun c33 => ?_)
    · rw [if_pos c33] at h
      refine ax_Tdrop [true, true, true, true, true, true, true, false] (L' := [some (.inr (12, 0)), some (.inl (.int x19)), some (.inl (.int x20)), some (.inl (.int x21)), some (.inl (.int x22)), some (.inl (.int x23)), some (.inl (.int x24)), none]) rfl ?_
      exact hK101 x19 x20 x21 x22 x23 x24 S32 _ _ h
    · rw [if_neg c33] at h
      refine ax_Tgo [.iload 5, .iload 7] (pc' := 67) (L' := [some (.inr (12, 0)), some (.inl (.int x19)), some (.inl (.int x20)), some (.inl (.int x21)), some (.inl (.int x22)), some (.inl (.int x23)), some (.inl (.int x24)), some (.inl (.int x25))]) (st' := [.inl (.int x25), .inl (.int x23)]) (S' := S32) ok_X12_ask.1 (by decide +kernel) rfl rfl ?_
      obtain ⟨r37, hq35, h⟩ := ax_bd_e h
      refine ax_TSi (d := 75) [.inl (.int x23), .inl (.int x25)] [] lk_X12_226 (by decide +kernel) rfl rfl (Nat.le_of_ble_eq_true rfl) (Nat.le_of_ble_eq_true rfl) ((t_X12_has hq35).up (by decide)) ?_
      refine ax_Tif_eq (off := 25) (tgt := 95) (by decide +kernel) (by decide) (fun c38 => ?_) (fun c38 => ?_)
      · rw [if_pos c38] at h
        refine ax_Tgo [.iinc 7 1] (pc' := 98) (L' := [some (.inr (12, 0)), some (.inl (.int x19)), some (.inl (.int x20)), some (.inl (.int x21)), some (.inl (.int x22)), some (.inl (.int x23)), some (.inl (.int x24)), some (.inl (.int (x25 + (1 : Int32))))]) (st' := []) (S' := S32) ok_X12_ask.1 (by decide +kernel) rfl rfl ?_
        obtain ⟨v39, ev39, h⟩ := ax_let_e h
        rw [ev39]
        refine ax_Tgoto (off := (-42)) (tgt := 56) (by decide +kernel) (by decide) ?_
        exact ih x19 x20 x21 x22 x23 x24 v39 S32 _ _ h
      · rw [if_neg c38] at h
        refine ax_Tgo [.iload 6, .aload_n 0, .iload 4, .iload 7, .iload_n 1] (pc' := 81) (L' := [some (.inr (12, 0)), some (.inl (.int x19)), some (.inl (.int x20)), some (.inl (.int x21)), some (.inl (.int x22)), some (.inl (.int x23)), some (.inl (.int x24)), some (.inl (.int x25))]) (st' := [.inl (.int x19), .inl (.int x25), .inl (.int x22), .inr (12, 0), .inl (.int x24)]) (S' := S32) ok_X12_ask.1 (by decide +kernel) rfl rfl ?_
        obtain ⟨r43, S40, hq41, h⟩ := ax_bu_e h
        refine ax_TVi (d := 75) (ka := 12) (i := 0) [.inl (.int x22), .inl (.int x25), .inl (.int x19)] [.inl (.int x24)] lk_X12_424 (by decide +kernel) rfl (by decide) rfl (Nat.le_of_ble_eq_true rfl) (Nat.le_of_ble_eq_true rfl) ((t_X12_isLonger hq41).up (by decide)) ?_
        refine ax_Tif_eq (off := 7) (tgt := 91) (by decide +kernel) (by decide) (fun c44 => ?_) (fun c44 => ?_)
        · rw [if_pos c44] at h
          refine ax_Tgo [.iconst (-1), .iadd, .istore 6] (pc' := 95) (L' := [some (.inr (12, 0)), some (.inl (.int x19)), some (.inl (.int x20)), some (.inl (.int x21)), some (.inl (.int x22)), some (.inl (.int x23)), some (.inl (.int (x24 + (Int32.ofInt (-1))))), some (.inl (.int x25))]) (st' := []) (S' := S40) ok_X12_ask.1 (by decide +kernel) rfl rfl ?_
          obtain ⟨v45, ev45, h⟩ := ax_let_e h
          rw [ev45]
          refine ax_Tgo [.iinc 7 1] (pc' := 98) (L' := [some (.inr (12, 0)), some (.inl (.int x19)), some (.inl (.int x20)), some (.inl (.int x21)), some (.inl (.int x22)), some (.inl (.int x23)), some (.inl (.int v45)), some (.inl (.int (x25 + (1 : Int32))))]) (st' := []) (S' := S40) ok_X12_ask.1 (by decide +kernel) rfl rfl ?_
          obtain ⟨v46, ev46, h⟩ := ax_let_e h
          rw [ev46]
          refine ax_Tgoto (off := (-42)) (tgt := 56) (by decide +kernel) (by decide) ?_
          exact ih x19 x20 x21 x22 x23 v45 v46 S40 _ _ h
        · rw [if_neg c44] at h
          refine ax_Tgo [.iconst 1] (pc' := 88) (L' := [some (.inr (12, 0)), some (.inl (.int x19)), some (.inl (.int x20)), some (.inl (.int x21)), some (.inl (.int x22)), some (.inl (.int x23)), some (.inl (.int x24)), some (.inl (.int x25))]) (st' := [.inl (.int (1 : Int32)), .inl (.int x24)]) (S' := S40) ok_X12_ask.1 (by decide +kernel) rfl rfl ?_
          refine ax_Tgoto (off := 4) (tgt := 92) (by decide +kernel) (by decide) ?_
          refine ax_Tgo [.iadd, .istore 6] (pc' := 95) (L' := [some (.inr (12, 0)), some (.inl (.int x19)), some (.inl (.int x20)), some (.inl (.int x21)), some (.inl (.int x22)), some (.inl (.int x23)), some (.inl (.int (x24 + (1 : Int32)))), some (.inl (.int x25))]) (st' := []) (S' := S40) ok_X12_ask.1 (by decide +kernel) rfl rfl ?_
          obtain ⟨v47, ev47, h⟩ := ax_let_e h
          rw [ev47]
          refine ax_Tgo [.iinc 7 1] (pc' := 98) (L' := [some (.inr (12, 0)), some (.inl (.int x19)), some (.inl (.int x20)), some (.inl (.int x21)), some (.inl (.int x22)), some (.inl (.int x23)), some (.inl (.int v47)), some (.inl (.int (x25 + (1 : Int32))))]) (st' := []) (S' := S40) ok_X12_ask.1 (by decide +kernel) rfl rfl ?_
          obtain ⟨v48, ev48, h⟩ := ax_let_e h
          rw [ev48]
          refine ax_Tgoto (off := (-42)) (tgt := 56) (by decide +kernel) (by decide) ?_
          exact ih x19 x20 x21 x22 x23 v47 v48 S40 _ _ h
set_option maxRecDepth 100000 in
theorem t_X12_ask_L33 {l : Launch} {K139 : Int32 → AS → Option (Int32 × AS)} (hK139 : ∀ (x12 : Int32) (S : AS) r Z, K139 x12 S = some (r, Z) → ax_T l 76 ma_X12_ask (139, [none, none, some (.inl (.int x12)), none, none, none, none, none], [], S) (some (.inl (.int r))) Z) : ∀ (n : Nat) (x8 : Int32) (x9 : Int32) (x10 : Int32) (x11 : Int32) (S13 : AS) r Z, f_X12_ask_L33 K139 n x8 x9 x10 x11 S13 = some (r, Z) → ax_T l 76 ma_X12_ask (33, [some (.inr (12, 0)), some (.inl (.int x8)), some (.inl (.int x9)), some (.inl (.int x10)), some (.inl (.int x11)), none, none, none], [], S13) (some (.inl (.int r))) Z := by
  intro n
  induction n with
  | zero =>
    intro x8 x9 x10 x11 S13 r Z h
    cases h
  | succ n ih =>
    intro x8 x9 x10 x11 S13 r Z h
    unfold f_X12_ask_L33 at h
    refine ax_Tgo [.iload 4, .aload_n 0, .getfield 291] (pc' := 39) (L' := [some (.inr (12, 0)), some (.inl (.int x8)), some (.inl (.int x9)), some (.inl (.int x10)), some (.inl (.int x11)), none, none, none]) (st' := [.inl (.int (ax_fi S13 12 0 27)), .inl (.int x11)]) (S' := S13) ok_X12_ask.1 (by decide +kernel) rfl rfl ?_
    refine ax_Tic_ge (off := 100) (tgt := 139) (by decide +kernel) (by decide) (fun c14 => ?_) (fun c14 => ?_)
    · rw [if_pos c14] at h
      refine ax_Tdrop [false, false, true, false, false, true, true, true] (L' := [none, none, some (.inl (.int x9)), none, none, none, none, none]) rfl ?_
      exact hK139 x9 S13 _ _ h
    · rw [if_neg c14] at h
      refine ax_Tgo [.aload_n 0, .iload 4] (pc' := 45) (L' := [some (.inr (12, 0)), some (.inl (.int x8)), some (.inl (.int x9)), some (.inl (.int x10)), some (.inl (.int x11)), none, none, none]) (st' := [.inl (.int x11), .inr (12, 0)]) (S' := S13) ok_X12_ask.1 (by decide +kernel) rfl rfl ?_
      obtain ⟨r18, S15, hq16, h⟩ := ax_bu_e h
      refine ax_TVi (d := 75) (ka := 12) (i := 0) [.inl (.int x11)] [] lk_X12_428 (by decide +kernel) rfl (by decide) rfl (Nat.le_of_ble_eq_true rfl) (Nat.le_of_ble_eq_true rfl) ((t_X12_hardBits hq16).up (by decide)) ?_
      refine ax_Tgo [.istore 5, .iconst 0, .istore 6, .iconst 0, .istore 7] (pc' := 56) (L' := [some (.inr (12, 0)), some (.inl (.int x8)), some (.inl (.int x9)), some (.inl (.int x10)), some (.inl (.int x11)), some (.inl (.int r18)), some (.inl (.int (0 : Int32))), some (.inl (.int (0 : Int32)))]) (st' := []) (S' := S15) ok_X12_ask.1 (by decide +kernel) rfl rfl ?_
      refine t_X12_ask_L56 ?_ _ x8 x9 x10 x11 r18 (0 : Int32) (0 : Int32) S15 _ _ h
      · intro x26 x27 x28 x29 x30 x31 S49 r Z h
        refine ax_Tgo [.iload 6] (pc' := 103) (L' := [some (.inr (12, 0)), some (.inl (.int x26)), some (.inl (.int x27)), some (.inl (.int x28)), some (.inl (.int x29)), some (.inl (.int x30)), some (.inl (.int x31)), none]) (st' := [.inl (.int x31)]) (S' := S49) ok_X12_ask.1 (by decide +kernel) rfl rfl ?_
        obtain ⟨r53, hq51, h⟩ := ax_bd_e h
        refine ax_TSi (d := 75) [.inl (.int x31)] [] lk_X12_431 (by decide +kernel) rfl rfl (Nat.le_of_ble_eq_true rfl) (Nat.le_of_ble_eq_true rfl) ((t_J9_abs_0f7a4 hq51).up (by decide)) ?_
        refine ax_Tgo [.istore 6, .iload 5] (pc' := 110) (L' := [some (.inr (12, 0)), some (.inl (.int x26)), some (.inl (.int x27)), some (.inl (.int x28)), some (.inl (.int x29)), some (.inl (.int x30)), some (.inl (.int r53)), none]) (st' := [.inl (.int x30)]) (S' := S49) ok_X12_ask.1 (by decide +kernel) rfl rfl ?_
        refine ax_Tif_eq (off := 23) (tgt := 133) (by decide +kernel) (by decide) (fun c54 => ?_) (fun c54 => ?_)
        · rw [if_pos c54] at h
          refine ax_Tgo [.iinc 4 1] (pc' := 136) (L' := [some (.inr (12, 0)), some (.inl (.int x26)), some (.inl (.int x27)), some (.inl (.int x28)), some (.inl (.int (x29 + (1 : Int32)))), some (.inl (.int x30)), some (.inl (.int r53)), none]) (st' := []) (S' := S49) ok_X12_ask.1 (by decide +kernel) rfl rfl ?_
          obtain ⟨v55, ev55, h⟩ := ax_let_e h
          rw [ev55]
          refine ax_Tgoto (off := (-103)) (tgt := 33) (by decide +kernel) (by decide) ?_
          refine ax_Tdrop [true, true, true, true, true, false, false, true] (L' := [some (.inr (12, 0)), some (.inl (.int x26)), some (.inl (.int x27)), some (.inl (.int x28)), some (.inl (.int v55)), none, none, none]) rfl ?_
          exact ih x26 x27 x28 v55 S49 _ _ h
        · rw [if_neg c54] at h
          refine ax_Tgo [.iload_n 2, .iconst (-1)] (pc' := 115) (L' := [some (.inr (12, 0)), some (.inl (.int x26)), some (.inl (.int x27)), some (.inl (.int x28)), some (.inl (.int x29)), some (.inl (.int x30)), some (.inl (.int r53)), none]) (st' := [.inl (.int (Int32.ofInt (-1))), .inl (.int x27)]) (S' := S49) ok_X12_ask.1 (by decide +kernel) rfl rfl ?_
          refine ax_Tic_eq (off := 12) (tgt := 127) (by decide +kernel) (by decide) (fun c56 => ?_) (fun c56 => ?_)
          · rw [if_pos c56] at h
            refine ax_Tgo [.iload 4, .istore_n 2, .iload 6, .istore_n 3, .iinc 4 1] (pc' := 136) (L' := [some (.inr (12, 0)), some (.inl (.int x26)), some (.inl (.int x29)), some (.inl (.int r53)), some (.inl (.int (x29 + (1 : Int32)))), some (.inl (.int x30)), some (.inl (.int r53)), none]) (st' := []) (S' := S49) ok_X12_ask.1 (by decide +kernel) rfl rfl ?_
            obtain ⟨v57, ev57, h⟩ := ax_let_e h
            rw [ev57]
            refine ax_Tgoto (off := (-103)) (tgt := 33) (by decide +kernel) (by decide) ?_
            refine ax_Tdrop [true, true, true, true, true, false, false, true] (L' := [some (.inr (12, 0)), some (.inl (.int x26)), some (.inl (.int x29)), some (.inl (.int r53)), some (.inl (.int v57)), none, none, none]) rfl ?_
            exact ih x26 x29 r53 v57 S49 _ _ h
          · rw [if_neg c56] at h
            refine ax_Tgo [.iload 6, .iload_n 3] (pc' := 121) (L' := [some (.inr (12, 0)), some (.inl (.int x26)), some (.inl (.int x27)), some (.inl (.int x28)), some (.inl (.int x29)), some (.inl (.int x30)), some (.inl (.int r53)), none]) (st' := [.inl (.int x28), .inl (.int r53)]) (S' := S49) ok_X12_ask.1 (by decide +kernel) rfl rfl ?_
            refine ax_Tic_lt (off := 6) (tgt := 127) (by decide +kernel) (by decide) (fun c58 => ?_) (fun c58 => ?_)
            · rw [if_pos c58] at h
              refine ax_Tgo [.iload 4, .istore_n 2, .iload 6, .istore_n 3, .iinc 4 1] (pc' := 136) (L' := [some (.inr (12, 0)), some (.inl (.int x26)), some (.inl (.int x29)), some (.inl (.int r53)), some (.inl (.int (x29 + (1 : Int32)))), some (.inl (.int x30)), some (.inl (.int r53)), none]) (st' := []) (S' := S49) ok_X12_ask.1 (by decide +kernel) rfl rfl ?_
              obtain ⟨v59, ev59, h⟩ := ax_let_e h
              rw [ev59]
              refine ax_Tgoto (off := (-103)) (tgt := 33) (by decide +kernel) (by decide) ?_
              refine ax_Tdrop [true, true, true, true, true, false, false, true] (L' := [some (.inr (12, 0)), some (.inl (.int x26)), some (.inl (.int x29)), some (.inl (.int r53)), some (.inl (.int v59)), none, none, none]) rfl ?_
              exact ih x26 x29 r53 v59 S49 _ _ h
            · rw [if_neg c58] at h
              refine ax_Tgoto (off := 9) (tgt := 133) (by decide +kernel) (by decide) ?_
              refine ax_Tgo [.iinc 4 1] (pc' := 136) (L' := [some (.inr (12, 0)), some (.inl (.int x26)), some (.inl (.int x27)), some (.inl (.int x28)), some (.inl (.int (x29 + (1 : Int32)))), some (.inl (.int x30)), some (.inl (.int r53)), none]) (st' := []) (S' := S49) ok_X12_ask.1 (by decide +kernel) rfl rfl ?_
              obtain ⟨v60, ev60, h⟩ := ax_let_e h
              rw [ev60]
              refine ax_Tgoto (off := (-103)) (tgt := 33) (by decide +kernel) (by decide) ?_
              refine ax_Tdrop [true, true, true, true, true, false, false, true] (L' := [some (.inr (12, 0)), some (.inl (.int x26)), some (.inl (.int x27)), some (.inl (.int x28)), some (.inl (.int v60)), none, none, none]) rfl ?_
              exact ih x26 x27 x28 v60 S49 _ _ h
set_option maxRecDepth 100000 in
theorem t_X12_ask {l : Launch} {a1 : Int32} {S Z : AS} {r : Int32} (h : f_X12_ask a1 S = some (r, Z)) : ax_M l 76 ma_X12_ask [.inr (12, 0), .inl (.int a1)] S (some (.inl (.int r))) Z := by
  unfold f_X12_ask at h
  show ax_T l 76 ma_X12_ask (0, [some (.inr (12, 0)), some (.inl (.int a1)), none, none, none, none, none, none], [], S) (some (.inl (.int r))) Z
  refine ax_Tgo [.aload_n 0, .iconst 0, .putfield 93] (pc' := 5) (L' := [some (.inr (12, 0)), some (.inl (.int a1)), none, none, none, none, none, none]) (st' := []) (S' := (ax_sfi S 12 0 0 (0 : Int32))) ok_X12_ask.1 (by decide +kernel) rfl rfl ?_
  obtain ⟨S1, eS1, h⟩ := ax_let_e h
  rw [eS1]
  refine ax_Tgo [.aload_n 0, .getfield 291] (pc' := 9) (L' := [some (.inr (12, 0)), some (.inl (.int a1)), none, none, none, none, none, none]) (st' := [.inl (.int (ax_fi S1 12 0 27))]) (S' := S1) ok_X12_ask.1 (by decide +kernel) rfl rfl ?_
  refine ax_Tif_eq (off := 15) (tgt := 24) (by decide +kernel) (by decide) (fun c2 => ?_) (fun c2 => ?_)
  · rw [if_pos c2] at h
    refine ax_Tgo [.iconst (-1)] (pc' := 25) (L' := [some (.inr (12, 0)), some (.inl (.int a1)), none, none, none, none, none, none]) (st' := [.inl (.int (Int32.ofInt (-1)))]) (S' := S1) ok_X12_ask.1 (by decide +kernel) rfl rfl ?_
    cases h
    exact ax_Treti (by decide +kernel) rfl rfl
  · rw [if_neg c2] at h
    refine ax_Tgo [.iload_n 1, .i2l, .lconst 1, .ldc2_w 422] (pc' := 18) (L' := [some (.inr (12, 0)), some (.inl (.int a1)), none, none, none, none, none, none]) (st' := [.inl (.long (60 : Int64)), .inl (.long (1 : Int64)), .inl (.long a1.toInt64)]) (S' := S1) ok_X12_ask.1 (by decide +kernel) rfl rfl ?_
    obtain ⟨r6, hq4, h⟩ := ax_bd_e h
    refine ax_TSi (d := 75) [.inl (.long a1.toInt64), .inl (.long (1 : Int64)), .inl (.long (60 : Int64))] [] lk_X12_214 (by decide +kernel) rfl rfl (Nat.le_of_ble_eq_true rfl) (Nat.le_of_ble_eq_true rfl) ((t_X12_isIn hq4).up (by decide)) ?_
    refine ax_Tif_ne (off := 5) (tgt := 26) (by decide +kernel) (by decide) (fun c7 => ?_) (fun c7 => ?_)
    · rw [if_neg c7] at h
      refine ax_Tgo [.iconst (-1), .istore_n 2, .iconst 0, .istore_n 3, .iconst 0, .istore 4] (pc' := 33) (L' := [some (.inr (12, 0)), some (.inl (.int a1)), some (.inl (.int (Int32.ofInt (-1)))), some (.inl (.int (0 : Int32))), some (.inl (.int (0 : Int32))), none, none, none]) (st' := []) (S' := S1) ok_X12_ask.1 (by decide +kernel) rfl rfl ?_
      refine t_X12_ask_L33 ?_ _ a1 (Int32.ofInt (-1)) (0 : Int32) (0 : Int32) S1 _ _ h
      · intro x12 S61 r Z h
        refine ax_Tgo [.iload_n 2] (pc' := 140) (L' := [none, none, some (.inl (.int x12)), none, none, none, none, none]) (st' := [.inl (.int x12)]) (S' := S61) ok_X12_ask.1 (by decide +kernel) rfl rfl ?_
        cases h
        exact ax_Treti (by decide +kernel) rfl rfl
    · rw [if_pos c7] at h
      refine ax_Tgo [.iconst (-1)] (pc' := 25) (L' := [some (.inr (12, 0)), some (.inl (.int a1)), none, none, none, none, none, none]) (st' := [.inl (.int (Int32.ofInt (-1)))]) (S' := S1) ok_X12_ask.1 (by decide +kernel) rfl rfl ?_
      cases h
      exact ax_Treti (by decide +kernel) rfl rfl
def f_X12_back_L16 (K41 : AS → Option (Int32 × AS)) : Nat → Int32 → AS → Option (Int32 × AS)
  | 0, _, _ => none
  | n + 1, x3, S4 => (if (204 : Int32) ≤ x3 then K41 S4 else ax_gd (ax_in x3 204) (ax_gd (ax_in x3 204) (ax_let (ax_sai S4 55 0 x3.toNatClampNeg (ax_ai S4 62 0 x3.toNatClampNeg)) (fun (S8 : AS) => ax_let (x3 + (1 : Int32)) (fun (v9 : Int32) => f_X12_back_L16 K41 n v9 S8)))))
def f_X12_back (S : AS) : Option (Int32 × AS) := ax_let (ax_sfi S 12 0 0 (0 : Int32)) (fun (S1 : AS) => (if (ax_fi S1 12 0 49) = (0 : Int32) then some ((Int32.ofInt (-1)), S1) else f_X12_back_L16 (fun (S10 : AS) => ax_let (ax_sfi S10 12 0 39 (0 : Int32)) (fun (S11 : AS) => ax_gd (ax_in (22 : Int32) 204) (some ((ax_ai S11 55 0 (22 : Int32).toNatClampNeg), S11)))) ax_F (0 : Int32) S1))
set_option maxRecDepth 100000 in
theorem t_X12_back_L16 {l : Launch} {K41 : AS → Option (Int32 × AS)} (hK41 : ∀ (S : AS) r Z, K41 S = some (r, Z) → ax_T l 0 ma_X12_back (41, [some (.inr (12, 0)), none], [], S) (some (.inl (.int r))) Z) : ∀ (n : Nat) (x3 : Int32) (S4 : AS) r Z, f_X12_back_L16 K41 n x3 S4 = some (r, Z) → ax_T l 0 ma_X12_back (16, [some (.inr (12, 0)), some (.inl (.int x3))], [], S4) (some (.inl (.int r))) Z := by
  intro n
  induction n with
  | zero =>
    intro x3 S4 r Z h
    cases h
  | succ n ih =>
    intro x3 S4 r Z h
    unfold f_X12_back_L16 at h
    refine ax_Tgo [.iload_n 1, .sipush 204] (pc' := 20) (L' := [some (.inr (12, 0)), some (.inl (.int x3))]) (st' := [.inl (.int (204 : Int32)), .inl (.int x3)]) (S' := S4) ok_X12_back.1 (by decide +kernel) rfl rfl ?_
    refine ax_Tic_ge (off := 21) (tgt := 41) (by decide +kernel) (by decide) (fun c5 => ?_) (fun c5 => ?_)
    · rw [if_pos c5] at h
      refine ax_Tdrop [true, false] (L' := [some (.inr (12, 0)), none]) rfl ?_
      exact hK41 S4 _ _ h
    · rw [if_neg c5] at h
      refine ax_Tgo [.aload_n 0, .getfield 61, .iload_n 1, .aload_n 0, .getfield 90, .iload_n 1] (pc' := 33) (L' := [some (.inr (12, 0)), some (.inl (.int x3))]) (st' := [.inl (.int x3), .inr (62, 0), .inl (.int x3), .inr (55, 0)]) (S' := S4) ok_X12_back.1 (by decide +kernel) rfl rfl ?_
      obtain ⟨g6, h⟩ := ax_gd_e h
      refine ax_Tali (n := 204) ok_X12_back.1 (by decide +kernel) (by decide) rfl g6 ?_
      obtain ⟨g7, h⟩ := ax_gd_e h
      refine ax_Tasi (n := 204) ok_X12_back.1 (by decide +kernel) (by decide) rfl g7 ?_
      obtain ⟨S8, eS8, h⟩ := ax_let_e h
      rw [eS8]
      refine ax_Tgo [.iinc 1 1] (pc' := 38) (L' := [some (.inr (12, 0)), some (.inl (.int (x3 + (1 : Int32))))]) (st' := []) (S' := S8) ok_X12_back.1 (by decide +kernel) rfl rfl ?_
      obtain ⟨v9, ev9, h⟩ := ax_let_e h
      rw [ev9]
      refine ax_Tgoto (off := (-22)) (tgt := 16) (by decide +kernel) (by decide) ?_
      exact ih v9 S8 _ _ h
set_option maxRecDepth 100000 in
theorem t_X12_back {l : Launch} {S Z : AS} {r : Int32} (h : f_X12_back S = some (r, Z)) : ax_M l 0 ma_X12_back [.inr (12, 0)] S (some (.inl (.int r))) Z := by
  unfold f_X12_back at h
  show ax_T l 0 ma_X12_back (0, [some (.inr (12, 0)), none], [], S) (some (.inl (.int r))) Z
  refine ax_Tgo [.aload_n 0, .iconst 0, .putfield 93] (pc' := 5) (L' := [some (.inr (12, 0)), none]) (st' := []) (S' := (ax_sfi S 12 0 0 (0 : Int32))) ok_X12_back.1 (by decide +kernel) rfl rfl ?_
  obtain ⟨S1, eS1, h⟩ := ax_let_e h
  rw [eS1]
  refine ax_Tgo [.aload_n 0, .getfield 300] (pc' := 9) (L' := [some (.inr (12, 0)), none]) (st' := [.inl (.int (ax_fi S1 12 0 49))]) (S' := S1) ok_X12_back.1 (by decide +kernel) rfl rfl ?_
  refine ax_Tif_ne (off := 5) (tgt := 14) (by decide +kernel) (by decide) (fun c2 => ?_) (fun c2 => ?_)
  · rw [if_neg c2] at h
    refine ax_Tgo [.iconst 0, .istore_n 1] (pc' := 16) (L' := [some (.inr (12, 0)), some (.inl (.int (0 : Int32)))]) (st' := []) (S' := S1) ok_X12_back.1 (by decide +kernel) rfl rfl ?_
    refine t_X12_back_L16 ?_ _ (0 : Int32) S1 _ _ h
    · intro S10 r Z h
      refine ax_Tgo [.aload_n 0, .iconst 0, .putfield 297] (pc' := 46) (L' := [some (.inr (12, 0)), none]) (st' := []) (S' := (ax_sfi S10 12 0 39 (0 : Int32))) ok_X12_back.1 (by decide +kernel) rfl rfl ?_
      obtain ⟨S11, eS11, h⟩ := ax_let_e h
      rw [eS11]
      refine ax_Tgo [.aload_n 0, .getfield 61, .bipush 22] (pc' := 52) (L' := [some (.inr (12, 0)), none]) (st' := [.inl (.int (22 : Int32)), .inr (55, 0)]) (S' := S11) ok_X12_back.1 (by decide +kernel) rfl rfl ?_
      obtain ⟨g12, h⟩ := ax_gd_e h
      refine ax_Tali (n := 204) ok_X12_back.1 (by decide +kernel) (by decide) rfl g12 ?_
      cases h
      exact ax_Treti (by decide +kernel) rfl rfl
  · rw [if_pos c2] at h
    refine ax_Tgo [.iconst (-1)] (pc' := 13) (L' := [some (.inr (12, 0)), none]) (st' := [.inl (.int (Int32.ofInt (-1)))]) (S' := S1) ok_X12_back.1 (by decide +kernel) rfl rfl ?_
    cases h
    exact ax_Treti (by decide +kernel) rfl rfl
def f_X12_breath (S : AS) : Option (Int32 × AS) := ax_let (ax_sfi S 12 0 0 (0 : Int32)) (fun (S1 : AS) => (if (ax_fi S1 12 0 27) = (0 : Int32) then some ((Int32.ofInt (-1)), S1) else ax_gd (ax_in (17 : Int32) 204) ((if (ax_ai S1 55 0 (17 : Int32).toNatClampNeg) = (0 : Int32) then some ((Int32.ofInt (-1)), S1) else ax_gd (ax_in (16 : Int32) 204) (ax_gd (ax_in (0 : Int32) 3) ((if ((ax_ai S1 55 0 (16 : Int32).toNatClampNeg) + (3 : Int32)) ≤ (ax_ai S1 47 0 (0 : Int32).toNatClampNeg) then (f_X12_remember S1).bind (fun (S8 : AS) => ax_gd (ax_in (16 : Int32) 204) (ax_gd (ax_in (16 : Int32) 204) (ax_let (ax_sai S8 55 0 (16 : Int32).toNatClampNeg ((ax_ai S8 55 0 (16 : Int32).toNatClampNeg) + (3 : Int32))) (fun (S13 : AS) => ax_gd (ax_in (17 : Int32) 204) ((f_J9_max_7cf53 (0 : Int32) ((ax_ai S13 55 0 (17 : Int32).toNatClampNeg) - (2 : Int32)) S13).bind (fun (r18 : Int32) => ax_gd (ax_in (17 : Int32) 204) (ax_let (ax_sai S13 55 0 (17 : Int32).toNatClampNeg r18) (fun (S20 : AS) => ax_gd (ax_in (17 : Int32) 204) (some ((ax_ai S20 55 0 (17 : Int32).toNatClampNeg), S20)))))))))) else some ((Int32.ofInt (-1)), S1))))))))
set_option maxRecDepth 100000 in
theorem t_X12_breath {l : Launch} {S Z : AS} {r : Int32} (h : f_X12_breath S = some (r, Z)) : ax_M l 1 ma_X12_breath [.inr (12, 0)] S (some (.inl (.int r))) Z := by
  unfold f_X12_breath at h
  show ax_T l 1 ma_X12_breath (0, [some (.inr (12, 0))], [], S) (some (.inl (.int r))) Z
  refine ax_Tgo [.aload_n 0, .iconst 0, .putfield 93] (pc' := 5) (L' := [some (.inr (12, 0))]) (st' := []) (S' := (ax_sfi S 12 0 0 (0 : Int32))) ok_X12_breath.1 (by decide +kernel) rfl rfl ?_
  obtain ⟨S1, eS1, h⟩ := ax_let_e h
  rw [eS1]
  refine ax_Tgo [.aload_n 0, .getfield 291] (pc' := 9) (L' := [some (.inr (12, 0))]) (st' := [.inl (.int (ax_fi S1 12 0 27))]) (S' := S1) ok_X12_breath.1 (by decide +kernel) rfl rfl ?_
  refine ax_Tif_eq (off := 31) (tgt := 40) (by decide +kernel) (by decide) (fun c2 => ?_) (fun c2 => ?_)
  · rw [if_pos c2] at h
    refine ax_Tgo [.iconst (-1)] (pc' := 41) (L' := [some (.inr (12, 0))]) (st' := [.inl (.int (Int32.ofInt (-1)))]) (S' := S1) ok_X12_breath.1 (by decide +kernel) rfl rfl ?_
    cases h
    exact ax_Treti (by decide +kernel) rfl rfl
  · rw [if_neg c2] at h
    refine ax_Tgo [.aload_n 0, .getfield 61, .bipush 17] (pc' := 18) (L' := [some (.inr (12, 0))]) (st' := [.inl (.int (17 : Int32)), .inr (55, 0)]) (S' := S1) ok_X12_breath.1 (by decide +kernel) rfl rfl ?_
    obtain ⟨g3, h⟩ := ax_gd_e h
    refine ax_Tali (n := 204) ok_X12_breath.1 (by decide +kernel) (by decide) rfl g3 ?_
    refine ax_Tif_eq (off := 21) (tgt := 40) (by decide +kernel) (by decide) (fun c4 => ?_) (fun c4 => ?_)
    · rw [if_pos c4] at h
      refine ax_Tgo [.iconst (-1)] (pc' := 41) (L' := [some (.inr (12, 0))]) (st' := [.inl (.int (Int32.ofInt (-1)))]) (S' := S1) ok_X12_breath.1 (by decide +kernel) rfl rfl ?_
      cases h
      exact ax_Treti (by decide +kernel) rfl rfl
    · rw [if_neg c4] at h
      refine ax_Tgo [.aload_n 0, .getfield 61, .bipush 16] (pc' := 28) (L' := [some (.inr (12, 0))]) (st' := [.inl (.int (16 : Int32)), .inr (55, 0)]) (S' := S1) ok_X12_breath.1 (by decide +kernel) rfl rfl ?_
      obtain ⟨g5, h⟩ := ax_gd_e h
      refine ax_Tali (n := 204) ok_X12_breath.1 (by decide +kernel) (by decide) rfl g5 ?_
      refine ax_Tgo [.iconst 3, .iadd, .aload_n 0, .getfield 37, .iconst 0] (pc' := 36) (L' := [some (.inr (12, 0))]) (st' := [.inl (.int (0 : Int32)), .inr (47, 0), .inl (.int ((ax_ai S1 55 0 (16 : Int32).toNatClampNeg) + (3 : Int32)))]) (S' := S1) ok_X12_breath.1 (by decide +kernel) rfl rfl ?_
      obtain ⟨g6, h⟩ := ax_gd_e h
      refine ax_Tali (n := 3) ok_X12_breath.1 (by decide +kernel) (by decide) rfl g6 ?_
      refine ax_Tic_le (off := 5) (tgt := 42) (by decide +kernel) (by decide) (fun c7 => ?_) (fun c7 => ?_)
      · rw [if_pos c7] at h
        refine ax_Tgo [.aload_n 0] (pc' := 43) (L' := [some (.inr (12, 0))]) (st' := [.inr (12, 0)]) (S' := S1) ok_X12_breath.1 (by decide +kernel) rfl rfl ?_
        obtain ⟨S8, hq9, h⟩ := ax_bd_e h
        refine ax_TVv (d := 0) (ka := 12) (i := 0) [] [] lk_X12_352 (by decide +kernel) rfl (by decide) rfl (Nat.le_of_ble_eq_true rfl) (Nat.le_of_ble_eq_true rfl) ((t_X12_remember hq9).up (by decide)) ?_
        refine ax_Tgo [.aload_n 0, .getfield 61, .bipush 16, .dup2] (pc' := 53) (L' := [some (.inr (12, 0))]) (st' := [.inl (.int (16 : Int32)), .inr (55, 0), .inl (.int (16 : Int32)), .inr (55, 0)]) (S' := S8) ok_X12_breath.1 (by decide +kernel) rfl rfl ?_
        obtain ⟨g11, h⟩ := ax_gd_e h
        refine ax_Tali (n := 204) ok_X12_breath.1 (by decide +kernel) (by decide) rfl g11 ?_
        refine ax_Tgo [.iconst 3, .iadd] (pc' := 56) (L' := [some (.inr (12, 0))]) (st' := [.inl (.int ((ax_ai S8 55 0 (16 : Int32).toNatClampNeg) + (3 : Int32))), .inl (.int (16 : Int32)), .inr (55, 0)]) (S' := S8) ok_X12_breath.1 (by decide +kernel) rfl rfl ?_
        obtain ⟨g12, h⟩ := ax_gd_e h
        refine ax_Tasi (n := 204) ok_X12_breath.1 (by decide +kernel) (by decide) rfl g12 ?_
        obtain ⟨S13, eS13, h⟩ := ax_let_e h
        rw [eS13]
        refine ax_Tgo [.aload_n 0, .getfield 61, .bipush 17, .iconst 0, .aload_n 0, .getfield 61, .bipush 17] (pc' := 70) (L' := [some (.inr (12, 0))]) (st' := [.inl (.int (17 : Int32)), .inr (55, 0), .inl (.int (0 : Int32)), .inl (.int (17 : Int32)), .inr (55, 0)]) (S' := S13) ok_X12_breath.1 (by decide +kernel) rfl rfl ?_
        obtain ⟨g14, h⟩ := ax_gd_e h
        refine ax_Tali (n := 204) ok_X12_breath.1 (by decide +kernel) (by decide) rfl g14 ?_
        refine ax_Tgo [.iconst 2, .isub] (pc' := 73) (L' := [some (.inr (12, 0))]) (st' := [.inl (.int ((ax_ai S13 55 0 (17 : Int32).toNatClampNeg) - (2 : Int32))), .inl (.int (0 : Int32)), .inl (.int (17 : Int32)), .inr (55, 0)]) (S' := S13) ok_X12_breath.1 (by decide +kernel) rfl rfl ?_
        obtain ⟨r18, hq16, h⟩ := ax_bd_e h
        refine ax_TSi (d := 0) [.inl (.int (0 : Int32)), .inl (.int ((ax_ai S13 55 0 (17 : Int32).toNatClampNeg) - (2 : Int32)))] [.inl (.int (17 : Int32)), .inr (55, 0)] lk_X12_320 (by decide +kernel) rfl rfl (Nat.le_of_ble_eq_true rfl) (Nat.le_of_ble_eq_true rfl) ((t_J9_max_7cf53 hq16).up (by decide)) ?_
        obtain ⟨g19, h⟩ := ax_gd_e h
        refine ax_Tasi (n := 204) ok_X12_breath.1 (by decide +kernel) (by decide) rfl g19 ?_
        obtain ⟨S20, eS20, h⟩ := ax_let_e h
        rw [eS20]
        refine ax_Tgo [.aload_n 0, .getfield 61, .bipush 17] (pc' := 83) (L' := [some (.inr (12, 0))]) (st' := [.inl (.int (17 : Int32)), .inr (55, 0)]) (S' := S20) ok_X12_breath.1 (by decide +kernel) rfl rfl ?_
        obtain ⟨g21, h⟩ := ax_gd_e h
        refine ax_Tali (n := 204) ok_X12_breath.1 (by decide +kernel) (by decide) rfl g21 ?_
        cases h
        exact ax_Treti (by decide +kernel) rfl rfl
      · rw [if_neg c7] at h
        refine ax_Tgo [.iconst (-1)] (pc' := 41) (L' := [some (.inr (12, 0))]) (st' := [.inl (.int (Int32.ofInt (-1)))]) (S' := S1) ok_X12_breath.1 (by decide +kernel) rfl rfl ?_
        cases h
        exact ax_Treti (by decide +kernel) rfl rfl
def f_X12_bytesIn_L5 (S : AS) (K33 : Int32 → Option (Int32)) : Nat → Int32 → Int32 → Int32 → Option (Int32)
  | 0, _, _, _ => none
  | n + 1, x1, x2, x3 => (if x3 < (0 : Int32) then K33 x2 else (if ((x1 >>> (x3 &&& 31)) &&& (255 : Int32)) = (0 : Int32) then ax_let (x2 + (0 : Int32)) (fun (v7 : Int32) => ax_let (x3 + (Int32.ofInt (-8))) (fun (v8 : Int32) => f_X12_bytesIn_L5 S K33 n x1 v7 v8)) else ax_let (x2 + (1 : Int32)) (fun (v9 : Int32) => ax_let (x3 + (Int32.ofInt (-8))) (fun (v10 : Int32) => f_X12_bytesIn_L5 S K33 n x1 v9 v10))))
def f_X12_bytesIn (a0 : Int32) (S : AS) : Option (Int32) := f_X12_bytesIn_L5 S (fun (x4 : Int32)  => some x4) ax_F a0 (0 : Int32) (24 : Int32)
set_option maxRecDepth 100000 in
theorem t_X12_bytesIn_L5 {l : Launch} {S : AS} {K33 : Int32 → Option (Int32)} (hK33 : ∀ (x4 : Int32) r, K33 x4  = some r → ax_T l 0 ma_X12_bytesIn (33, [none, some (.inl (.int x4)), none], [], S) (some (.inl (.int r))) S) : ∀ (n : Nat) (x1 : Int32) (x2 : Int32) (x3 : Int32) r, f_X12_bytesIn_L5 S K33 n x1 x2 x3  = some r → ax_T l 0 ma_X12_bytesIn (5, [some (.inl (.int x1)), some (.inl (.int x2)), some (.inl (.int x3))], [], S) (some (.inl (.int r))) S := by
  intro n
  induction n with
  | zero =>
    intro x1 x2 x3  r h
    cases h
  | succ n ih =>
    intro x1 x2 x3  r h
    unfold f_X12_bytesIn_L5 at h
    refine ax_Tgo [.iload_n 2] (pc' := 6) (L' := [some (.inl (.int x1)), some (.inl (.int x2)), some (.inl (.int x3))]) (st' := [.inl (.int x3)]) (S' := S) ok_X12_bytesIn.1 (by decide +kernel) rfl rfl ?_
    refine ax_Tif_lt (off := 27) (tgt := 33) (by decide +kernel) (by decide) (fun c5 => ?_) (fun c5 => ?_)
    · rw [if_pos c5] at h
      refine ax_Tdrop [false, true, false] (L' := [none, some (.inl (.int x2)), none]) rfl ?_
      exact hK33 x2 _ h
    · rw [if_neg c5] at h
      refine ax_Tgo [.iload_n 1, .iload_n 0, .iload_n 2, .ishr, .sipush 255, .iand] (pc' := 17) (L' := [some (.inl (.int x1)), some (.inl (.int x2)), some (.inl (.int x3))]) (st' := [.inl (.int ((x1 >>> (x3 &&& 31)) &&& (255 : Int32))), .inl (.int x2)]) (S' := S) ok_X12_bytesIn.1 (by decide +kernel) rfl rfl ?_
      refine ax_Tif_eq (off := 7) (tgt := 24) (by decide +kernel) (by decide) (fun c6 => ?_) (fun c6 => ?_)
      · rw [if_pos c6] at h
        refine ax_Tgo [.iconst 0, .iadd, .istore_n 1] (pc' := 27) (L' := [some (.inl (.int x1)), some (.inl (.int (x2 + (0 : Int32)))), some (.inl (.int x3))]) (st' := []) (S' := S) ok_X12_bytesIn.1 (by decide +kernel) rfl rfl ?_
        obtain ⟨v7, ev7, h⟩ := ax_let_e h
        rw [ev7]
        refine ax_Tgo [.iinc 2 (-8)] (pc' := 30) (L' := [some (.inl (.int x1)), some (.inl (.int v7)), some (.inl (.int (x3 + (Int32.ofInt (-8)))))]) (st' := []) (S' := S) ok_X12_bytesIn.1 (by decide +kernel) rfl rfl ?_
        obtain ⟨v8, ev8, h⟩ := ax_let_e h
        rw [ev8]
        refine ax_Tgoto (off := (-25)) (tgt := 5) (by decide +kernel) (by decide) ?_
        exact ih x1 v7 v8 _ h
      · rw [if_neg c6] at h
        refine ax_Tgo [.iconst 1] (pc' := 21) (L' := [some (.inl (.int x1)), some (.inl (.int x2)), some (.inl (.int x3))]) (st' := [.inl (.int (1 : Int32)), .inl (.int x2)]) (S' := S) ok_X12_bytesIn.1 (by decide +kernel) rfl rfl ?_
        refine ax_Tgoto (off := 4) (tgt := 25) (by decide +kernel) (by decide) ?_
        refine ax_Tgo [.iadd, .istore_n 1] (pc' := 27) (L' := [some (.inl (.int x1)), some (.inl (.int (x2 + (1 : Int32)))), some (.inl (.int x3))]) (st' := []) (S' := S) ok_X12_bytesIn.1 (by decide +kernel) rfl rfl ?_
        obtain ⟨v9, ev9, h⟩ := ax_let_e h
        rw [ev9]
        refine ax_Tgo [.iinc 2 (-8)] (pc' := 30) (L' := [some (.inl (.int x1)), some (.inl (.int v9)), some (.inl (.int (x3 + (Int32.ofInt (-8)))))]) (st' := []) (S' := S) ok_X12_bytesIn.1 (by decide +kernel) rfl rfl ?_
        obtain ⟨v10, ev10, h⟩ := ax_let_e h
        rw [ev10]
        refine ax_Tgoto (off := (-25)) (tgt := 5) (by decide +kernel) (by decide) ?_
        exact ih x1 v9 v10 _ h
set_option maxRecDepth 100000 in
theorem t_X12_bytesIn {l : Launch} {a0 : Int32} {S : AS} {r : Int32} (h : f_X12_bytesIn a0 S = some r) : ax_M l 0 ma_X12_bytesIn [.inl (.int a0)] S (some (.inl (.int r))) S := by
  unfold f_X12_bytesIn at h
  show ax_T l 0 ma_X12_bytesIn (0, [some (.inl (.int a0)), none, none], [], S) (some (.inl (.int r))) S
  refine ax_Tgo [.iconst 0, .istore_n 1, .bipush 24, .istore_n 2] (pc' := 5) (L' := [some (.inl (.int a0)), some (.inl (.int (0 : Int32))), some (.inl (.int (24 : Int32)))]) (st' := []) (S' := S) ok_X12_bytesIn.1 (by decide +kernel) rfl rfl ?_
  refine t_X12_bytesIn_L5 ?_ _ a0 (0 : Int32) (24 : Int32) _ h
  · intro x4  r h
    refine ax_Tgo [.iload_n 1] (pc' := 34) (L' := [none, some (.inl (.int x4)), none]) (st' := [.inl (.int x4)]) (S' := S) ok_X12_bytesIn.1 (by decide +kernel) rfl rfl ?_
    cases h
    exact ax_Treti (by decide +kernel) rfl rfl
def f_X12_caller (a1 : Int32) (a2 : Int32) (S : AS) : Option (Int32 × AS) := (f_X12_isCaller a1 S).bind (fun (r4 : Int32) => ax_let (fun (x5 : Int32) (S6 : AS) => ax_let (ax_sfi S6 12 0 0 x5) (fun (S8 : AS) => (if (ax_fi S8 12 0 0) ≤ (0 : Int32) then (if a2 = (2 : Int32) then ax_gd (ax_in (((2 : Int32) * a1) + (0 : Int32)) 204) (some ((ax_ai S8 55 0 (((2 : Int32) * a1) + (0 : Int32)).toNatClampNeg), S8)) else (if a2 = (7 : Int32) then ax_gd (ax_in (((2 : Int32) * a1) + (1 : Int32)) 204) (some ((ax_ai S8 55 0 (((2 : Int32) * a1) + (1 : Int32)).toNatClampNeg), S8)) else (f_X12_of a1 a2 S8).bind (fun (r15 : Int32) => some (r15, S8)))) else some ((0 : Int32), S8)))) (fun J7 => (if r4 = (0 : Int32) then J7 (1 : Int32) S else (f_X12_isIn (a2.toInt64) (0 : Int64) (7 : Int64) S).bind (fun (r22 : Int32) => (if r22 = (0 : Int32) then J7 (1 : Int32) S else J7 (0 : Int32) S)))))
set_option maxRecDepth 100000 in
theorem t_X12_caller {l : Launch} {a1 : Int32} {a2 : Int32} {S Z : AS} {r : Int32} (h : f_X12_caller a1 a2 S = some (r, Z)) : ax_M l 1 ma_X12_caller [.inr (12, 0), .inl (.int a1), .inl (.int a2)] S (some (.inl (.int r))) Z := by
  unfold f_X12_caller at h
  show ax_T l 1 ma_X12_caller (0, [some (.inr (12, 0)), some (.inl (.int a1)), some (.inl (.int a2))], [], S) (some (.inl (.int r))) Z
  refine ax_Tgo [.aload_n 0, .aload_n 0, .iload_n 1] (pc' := 3) (L' := [some (.inr (12, 0)), some (.inl (.int a1)), some (.inl (.int a2))]) (st' := [.inl (.int a1), .inr (12, 0), .inr (12, 0)]) (S' := S) ok_X12_caller.1 (by decide +kernel) rfl rfl ?_
  obtain ⟨r4, hq2, h⟩ := ax_bd_e h
  refine ax_TVi (d := 0) (ka := 12) (i := 0) [.inl (.int a1)] [.inr (12, 0)] lk_X12_324 (by decide +kernel) rfl (by decide) rfl (Nat.le_of_ble_eq_true rfl) (Nat.le_of_ble_eq_true rfl) ((t_X12_isCaller hq2).up (by decide)) ?_
  obtain ⟨J7, eJ7, h⟩ := ax_let_e h
  have hJ7 : ∀ (x5 : Int32) (S6 : AS) r Z, J7 x5 S6 = some (r, Z) → ax_T l 1 ma_X12_caller (26, [some (.inr (12, 0)), some (.inl (.int a1)), some (.inl (.int a2))], [.inl (.int x5), .inr (12, 0)], S6) (some (.inl (.int r))) Z := by
    intro x5 S6 r Z h
    rw [← eJ7] at h
    try dsimp only at h
    refine ax_Tgo [.putfield 93] (pc' := 29) (L' := [some (.inr (12, 0)), some (.inl (.int a1)), some (.inl (.int a2))]) (st' := []) (S' := (ax_sfi S6 12 0 0 x5)) ok_X12_caller.1 (by decide +kernel) rfl rfl ?_
    obtain ⟨S8, eS8, h⟩ := ax_let_e h
    rw [eS8]
    refine ax_Tgo [.aload_n 0, .getfield 93] (pc' := 33) (L' := [some (.inr (12, 0)), some (.inl (.int a1)), some (.inl (.int a2))]) (st' := [.inl (.int (ax_fi S8 12 0 0))]) (S' := S8) ok_X12_caller.1 (by decide +kernel) rfl rfl ?_
    refine ax_Tif_le (off := 5) (tgt := 38) (by decide +kernel) (by decide) (fun c9 => ?_) (fun c9 => ?_)
    · rw [if_pos c9] at h
      refine ax_Tgo [.iload_n 2, .iconst 2] (pc' := 40) (L' := [some (.inr (12, 0)), some (.inl (.int a1)), some (.inl (.int a2))]) (st' := [.inl (.int (2 : Int32)), .inl (.int a2)]) (S' := S8) ok_X12_caller.1 (by decide +kernel) rfl rfl ?_
      refine ax_Tic_ne (off := 16) (tgt := 56) (by decide +kernel) (by decide) (fun c10 => ?_) (fun c10 => ?_)
      · rw [if_neg c10] at h
        refine ax_Tgo [.iload_n 2, .bipush 7] (pc' := 59) (L' := [some (.inr (12, 0)), some (.inl (.int a1)), some (.inl (.int a2))]) (st' := [.inl (.int (7 : Int32)), .inl (.int a2)]) (S' := S8) ok_X12_caller.1 (by decide +kernel) rfl rfl ?_
        refine ax_Tic_ne (off := 16) (tgt := 75) (by decide +kernel) (by decide) (fun c11 => ?_) (fun c11 => ?_)
        · rw [if_neg c11] at h
          refine ax_Tgo [.aload_n 0, .iload_n 1, .iload_n 2] (pc' := 78) (L' := [some (.inr (12, 0)), some (.inl (.int a1)), some (.inl (.int a2))]) (st' := [.inl (.int a2), .inl (.int a1), .inr (12, 0)]) (S' := S8) ok_X12_caller.1 (by decide +kernel) rfl rfl ?_
          obtain ⟨r15, hq13, h⟩ := ax_bd_e h
          refine ax_TVi (d := 0) (ka := 12) (i := 0) [.inl (.int a1), .inl (.int a2)] [] lk_X12_311 (by decide +kernel) rfl (by decide) rfl (Nat.le_of_ble_eq_true rfl) (Nat.le_of_ble_eq_true rfl) ((t_X12_of hq13).up (by decide)) ?_
          cases h
          exact ax_Treti (by decide +kernel) rfl rfl
        · rw [if_pos c11] at h
          refine ax_Tgo [.aload_n 0, .getfield 61, .iconst 2, .iload_n 1, .imul, .iconst 1, .iadd] (pc' := 71) (L' := [some (.inr (12, 0)), some (.inl (.int a1)), some (.inl (.int a2))]) (st' := [.inl (.int (((2 : Int32) * a1) + (1 : Int32))), .inr (55, 0)]) (S' := S8) ok_X12_caller.1 (by decide +kernel) rfl rfl ?_
          obtain ⟨g16, h⟩ := ax_gd_e h
          refine ax_Tali (n := 204) ok_X12_caller.1 (by decide +kernel) (by decide) rfl g16 ?_
          refine ax_Tgoto (off := 9) (tgt := 81) (by decide +kernel) (by decide) ?_
          cases h
          exact ax_Treti (by decide +kernel) rfl rfl
      · rw [if_pos c10] at h
        refine ax_Tgo [.aload_n 0, .getfield 61, .iconst 2, .iload_n 1, .imul, .iconst 0, .iadd] (pc' := 52) (L' := [some (.inr (12, 0)), some (.inl (.int a1)), some (.inl (.int a2))]) (st' := [.inl (.int (((2 : Int32) * a1) + (0 : Int32))), .inr (55, 0)]) (S' := S8) ok_X12_caller.1 (by decide +kernel) rfl rfl ?_
        obtain ⟨g17, h⟩ := ax_gd_e h
        refine ax_Tali (n := 204) ok_X12_caller.1 (by decide +kernel) (by decide) rfl g17 ?_
        refine ax_Tgoto (off := 28) (tgt := 81) (by decide +kernel) (by decide) ?_
        cases h
        exact ax_Treti (by decide +kernel) rfl rfl
    · rw [if_neg c9] at h
      refine ax_Tgo [.iconst 0] (pc' := 37) (L' := [some (.inr (12, 0)), some (.inl (.int a1)), some (.inl (.int a2))]) (st' := [.inl (.int (0 : Int32))]) (S' := S8) ok_X12_caller.1 (by decide +kernel) rfl rfl ?_
      cases h
      exact ax_Treti (by decide +kernel) rfl rfl
  refine ax_Tif_eq (off := 19) (tgt := 25) (by decide +kernel) (by decide) (fun c18 => ?_) (fun c18 => ?_)
  · rw [if_pos c18] at h
    refine ax_Tgo [.iconst 1] (pc' := 26) (L' := [some (.inr (12, 0)), some (.inl (.int a1)), some (.inl (.int a2))]) (st' := [.inl (.int (1 : Int32)), .inr (12, 0)]) (S' := S) ok_X12_caller.1 (by decide +kernel) rfl rfl ?_
    exact hJ7 (1 : Int32) S _ _ h
  · rw [if_neg c18] at h
    refine ax_Tgo [.iload_n 2, .i2l, .lconst 0, .ldc2_w 344] (pc' := 15) (L' := [some (.inr (12, 0)), some (.inl (.int a1)), some (.inl (.int a2))]) (st' := [.inl (.long (7 : Int64)), .inl (.long (0 : Int64)), .inl (.long a2.toInt64), .inr (12, 0)]) (S' := S) ok_X12_caller.1 (by decide +kernel) rfl rfl ?_
    obtain ⟨r22, hq20, h⟩ := ax_bd_e h
    refine ax_TSi (d := 0) [.inl (.long a2.toInt64), .inl (.long (0 : Int64)), .inl (.long (7 : Int64))] [.inr (12, 0)] lk_X12_214 (by decide +kernel) rfl rfl (Nat.le_of_ble_eq_true rfl) (Nat.le_of_ble_eq_true rfl) ((t_X12_isIn hq20).up (by decide)) ?_
    refine ax_Tif_eq (off := 7) (tgt := 25) (by decide +kernel) (by decide) (fun c23 => ?_) (fun c23 => ?_)
    · rw [if_pos c23] at h
      refine ax_Tgo [.iconst 1] (pc' := 26) (L' := [some (.inr (12, 0)), some (.inl (.int a1)), some (.inl (.int a2))]) (st' := [.inl (.int (1 : Int32)), .inr (12, 0)]) (S' := S) ok_X12_caller.1 (by decide +kernel) rfl rfl ?_
      exact hJ7 (1 : Int32) S _ _ h
    · rw [if_neg c23] at h
      refine ax_Tgo [.iconst 0] (pc' := 22) (L' := [some (.inr (12, 0)), some (.inl (.int a1)), some (.inl (.int a2))]) (st' := [.inl (.int (0 : Int32)), .inr (12, 0)]) (S' := S) ok_X12_caller.1 (by decide +kernel) rfl rfl ?_
      refine ax_Tgoto (off := 4) (tgt := 26) (by decide +kernel) (by decide) ?_
      exact hJ7 (0 : Int32) S _ _ h
def f_X12_count (a1 : Int32) (S : AS) : Option (Int32 × AS) := ax_let (ax_sfi S 12 0 0 (0 : Int32)) (fun (S1 : AS) => (if a1 = (0 : Int32) then some ((ax_fi S1 12 0 27), S1) else if a1 = (1 : Int32) then some ((ax_fi S1 12 0 26), S1) else if a1 = (2 : Int32) then some ((ax_fi S1 12 0 7), S1) else if a1 = (3 : Int32) then some ((ax_fi S1 12 0 30), S1) else if a1 = (4 : Int32) then some ((ax_fi S1 12 0 6), S1) else if a1 = (5 : Int32) then some ((ax_fi S1 12 0 34), S1) else if a1 = (6 : Int32) then ax_gd (ax_in (22 : Int32) 204) (some ((ax_ai S1 55 0 (22 : Int32).toNatClampNeg), S1)) else if a1 = (7 : Int32) then ax_gd (ax_in (16 : Int32) 204) (some ((ax_ai S1 55 0 (16 : Int32).toNatClampNeg), S1)) else if a1 = (8 : Int32) then ax_gd (ax_in (17 : Int32) 204) (some ((ax_ai S1 55 0 (17 : Int32).toNatClampNeg), S1)) else if a1 = (9 : Int32) then ax_gd (ax_in (18 : Int32) 204) (some ((ax_ai S1 55 0 (18 : Int32).toNatClampNeg), S1)) else if a1 = (10 : Int32) then ax_gd (ax_in (19 : Int32) 204) (some ((ax_ai S1 55 0 (19 : Int32).toNatClampNeg), S1)) else if a1 = (11 : Int32) then ax_gd (ax_in (20 : Int32) 204) (some ((ax_ai S1 55 0 (20 : Int32).toNatClampNeg), S1)) else if a1 = (12 : Int32) then some ((ax_fi S1 12 0 35), S1) else if a1 = (13 : Int32) then some ((ax_fi S1 12 0 47), S1) else if a1 = (14 : Int32) then ax_gd (ax_in (23 : Int32) 204) (some ((ax_ai S1 55 0 (23 : Int32).toNatClampNeg), S1)) else if a1 = (15 : Int32) then some ((ax_fi S1 12 0 39), S1) else some ((-1000000 : Int32), S1)))
set_option maxRecDepth 100000 in
theorem t_X12_count {l : Launch} {a1 : Int32} {S Z : AS} {r : Int32} (h : f_X12_count a1 S = some (r, Z)) : ax_M l 0 ma_X12_count [.inr (12, 0), .inl (.int a1)] S (some (.inl (.int r))) Z := by
  unfold f_X12_count at h
  show ax_T l 0 ma_X12_count (0, [some (.inr (12, 0)), some (.inl (.int a1))], [], S) (some (.inl (.int r))) Z
  refine ax_Tgo [.aload_n 0, .iconst 0, .putfield 93] (pc' := 5) (L' := [some (.inr (12, 0)), some (.inl (.int a1))]) (st' := []) (S' := (ax_sfi S 12 0 0 (0 : Int32))) ok_X12_count.1 (by decide +kernel) rfl rfl ?_
  obtain ⟨S1, eS1, h⟩ := ax_let_e h
  rw [eS1]
  refine ax_Tgo [.iload_n 1] (pc' := 6) (L' := [some (.inr (12, 0)), some (.inl (.int a1))]) (st' := [.inl (.int a1)]) (S' := S1) ok_X12_count.1 (by decide +kernel) rfl rfl ?_
  by_cases c2 : a1 = (0 : Int32)
  · rw [if_pos c2] at h
    refine ax_TtIn (dflt := 179) (lo := 0) (hi := 15) (offs := #[78, 83, 88, 93, 98, 103, 108, 116, 124, 132, 140, 148, 156, 161, 166, 174]) (len := 78) (off := 78) (tgt := 84) (by decide +kernel) (by rw [c2]; decide) (by rw [c2]; decide) (by rw [c2]; rfl) (by decide) ?_
    refine ax_Tgo [.aload_n 0, .getfield 291] (pc' := 88) (L' := [some (.inr (12, 0)), some (.inl (.int a1))]) (st' := [.inl (.int (ax_fi S1 12 0 27))]) (S' := S1) ok_X12_count.1 (by decide +kernel) rfl rfl ?_
    cases h
    exact ax_Treti (by decide +kernel) rfl rfl
  · rw [if_neg c2] at h
    by_cases c3 : a1 = (1 : Int32)
    · rw [if_pos c3] at h
      refine ax_TtIn (dflt := 179) (lo := 0) (hi := 15) (offs := #[78, 83, 88, 93, 98, 103, 108, 116, 124, 132, 140, 148, 156, 161, 166, 174]) (len := 78) (off := 83) (tgt := 89) (by decide +kernel) (by rw [c3]; decide) (by rw [c3]; decide) (by rw [c3]; rfl) (by decide) ?_
      refine ax_Tgo [.aload_n 0, .getfield 288] (pc' := 93) (L' := [some (.inr (12, 0)), some (.inl (.int a1))]) (st' := [.inl (.int (ax_fi S1 12 0 26))]) (S' := S1) ok_X12_count.1 (by decide +kernel) rfl rfl ?_
      cases h
      exact ax_Treti (by decide +kernel) rfl rfl
    · rw [if_neg c3] at h
      by_cases c4 : a1 = (2 : Int32)
      · rw [if_pos c4] at h
        refine ax_TtIn (dflt := 179) (lo := 0) (hi := 15) (offs := #[78, 83, 88, 93, 98, 103, 108, 116, 124, 132, 140, 148, 156, 161, 166, 174]) (len := 78) (off := 88) (tgt := 94) (by decide +kernel) (by rw [c4]; decide) (by rw [c4]; decide) (by rw [c4]; rfl) (by decide) ?_
        refine ax_Tgo [.aload_n 0, .getfield 280] (pc' := 98) (L' := [some (.inr (12, 0)), some (.inl (.int a1))]) (st' := [.inl (.int (ax_fi S1 12 0 7))]) (S' := S1) ok_X12_count.1 (by decide +kernel) rfl rfl ?_
        cases h
        exact ax_Treti (by decide +kernel) rfl rfl
      · rw [if_neg c4] at h
        by_cases c5 : a1 = (3 : Int32)
        · rw [if_pos c5] at h
          refine ax_TtIn (dflt := 179) (lo := 0) (hi := 15) (offs := #[78, 83, 88, 93, 98, 103, 108, 116, 124, 132, 140, 148, 156, 161, 166, 174]) (len := 78) (off := 93) (tgt := 99) (by decide +kernel) (by rw [c5]; decide) (by rw [c5]; decide) (by rw [c5]; rfl) (by decide) ?_
          refine ax_Tgo [.aload_n 0, .getfield 283] (pc' := 103) (L' := [some (.inr (12, 0)), some (.inl (.int a1))]) (st' := [.inl (.int (ax_fi S1 12 0 30))]) (S' := S1) ok_X12_count.1 (by decide +kernel) rfl rfl ?_
          cases h
          exact ax_Treti (by decide +kernel) rfl rfl
        · rw [if_neg c5] at h
          by_cases c6 : a1 = (4 : Int32)
          · rw [if_pos c6] at h
            refine ax_TtIn (dflt := 179) (lo := 0) (hi := 15) (offs := #[78, 83, 88, 93, 98, 103, 108, 116, 124, 132, 140, 148, 156, 161, 166, 174]) (len := 78) (off := 98) (tgt := 104) (by decide +kernel) (by rw [c6]; decide) (by rw [c6]; decide) (by rw [c6]; rfl) (by decide) ?_
            refine ax_Tgo [.aload_n 0, .getfield 106] (pc' := 108) (L' := [some (.inr (12, 0)), some (.inl (.int a1))]) (st' := [.inl (.int (ax_fi S1 12 0 6))]) (S' := S1) ok_X12_count.1 (by decide +kernel) rfl rfl ?_
            cases h
            exact ax_Treti (by decide +kernel) rfl rfl
          · rw [if_neg c6] at h
            by_cases c7 : a1 = (5 : Int32)
            · rw [if_pos c7] at h
              refine ax_TtIn (dflt := 179) (lo := 0) (hi := 15) (offs := #[78, 83, 88, 93, 98, 103, 108, 116, 124, 132, 140, 148, 156, 161, 166, 174]) (len := 78) (off := 103) (tgt := 109) (by decide +kernel) (by rw [c7]; decide) (by rw [c7]; decide) (by rw [c7]; rfl) (by decide) ?_
              refine ax_Tgo [.aload_n 0, .getfield 67] (pc' := 113) (L' := [some (.inr (12, 0)), some (.inl (.int a1))]) (st' := [.inl (.int (ax_fi S1 12 0 34))]) (S' := S1) ok_X12_count.1 (by decide +kernel) rfl rfl ?_
              cases h
              exact ax_Treti (by decide +kernel) rfl rfl
            · rw [if_neg c7] at h
              by_cases c8 : a1 = (6 : Int32)
              · rw [if_pos c8] at h
                refine ax_TtIn (dflt := 179) (lo := 0) (hi := 15) (offs := #[78, 83, 88, 93, 98, 103, 108, 116, 124, 132, 140, 148, 156, 161, 166, 174]) (len := 78) (off := 108) (tgt := 114) (by decide +kernel) (by rw [c8]; decide) (by rw [c8]; decide) (by rw [c8]; rfl) (by decide) ?_
                refine ax_Tgo [.aload_n 0, .getfield 61, .bipush 22] (pc' := 120) (L' := [some (.inr (12, 0)), some (.inl (.int a1))]) (st' := [.inl (.int (22 : Int32)), .inr (55, 0)]) (S' := S1) ok_X12_count.1 (by decide +kernel) rfl rfl ?_
                obtain ⟨g9, h⟩ := ax_gd_e h
                refine ax_Tali (n := 204) ok_X12_count.1 (by decide +kernel) (by decide) rfl g9 ?_
                cases h
                exact ax_Treti (by decide +kernel) rfl rfl
              · rw [if_neg c8] at h
                by_cases c10 : a1 = (7 : Int32)
                · rw [if_pos c10] at h
                  refine ax_TtIn (dflt := 179) (lo := 0) (hi := 15) (offs := #[78, 83, 88, 93, 98, 103, 108, 116, 124, 132, 140, 148, 156, 161, 166, 174]) (len := 78) (off := 116) (tgt := 122) (by decide +kernel) (by rw [c10]; decide) (by rw [c10]; decide) (by rw [c10]; rfl) (by decide) ?_
                  refine ax_Tgo [.aload_n 0, .getfield 61, .bipush 16] (pc' := 128) (L' := [some (.inr (12, 0)), some (.inl (.int a1))]) (st' := [.inl (.int (16 : Int32)), .inr (55, 0)]) (S' := S1) ok_X12_count.1 (by decide +kernel) rfl rfl ?_
                  obtain ⟨g11, h⟩ := ax_gd_e h
                  refine ax_Tali (n := 204) ok_X12_count.1 (by decide +kernel) (by decide) rfl g11 ?_
                  cases h
                  exact ax_Treti (by decide +kernel) rfl rfl
                · rw [if_neg c10] at h
                  by_cases c12 : a1 = (8 : Int32)
                  · rw [if_pos c12] at h
                    refine ax_TtIn (dflt := 179) (lo := 0) (hi := 15) (offs := #[78, 83, 88, 93, 98, 103, 108, 116, 124, 132, 140, 148, 156, 161, 166, 174]) (len := 78) (off := 124) (tgt := 130) (by decide +kernel) (by rw [c12]; decide) (by rw [c12]; decide) (by rw [c12]; rfl) (by decide) ?_
                    refine ax_Tgo [.aload_n 0, .getfield 61, .bipush 17] (pc' := 136) (L' := [some (.inr (12, 0)), some (.inl (.int a1))]) (st' := [.inl (.int (17 : Int32)), .inr (55, 0)]) (S' := S1) ok_X12_count.1 (by decide +kernel) rfl rfl ?_
                    obtain ⟨g13, h⟩ := ax_gd_e h
                    refine ax_Tali (n := 204) ok_X12_count.1 (by decide +kernel) (by decide) rfl g13 ?_
                    cases h
                    exact ax_Treti (by decide +kernel) rfl rfl
                  · rw [if_neg c12] at h
                    by_cases c14 : a1 = (9 : Int32)
                    · rw [if_pos c14] at h
                      refine ax_TtIn (dflt := 179) (lo := 0) (hi := 15) (offs := #[78, 83, 88, 93, 98, 103, 108, 116, 124, 132, 140, 148, 156, 161, 166, 174]) (len := 78) (off := 132) (tgt := 138) (by decide +kernel) (by rw [c14]; decide) (by rw [c14]; decide) (by rw [c14]; rfl) (by decide) ?_
                      refine ax_Tgo [.aload_n 0, .getfield 61, .bipush 18] (pc' := 144) (L' := [some (.inr (12, 0)), some (.inl (.int a1))]) (st' := [.inl (.int (18 : Int32)), .inr (55, 0)]) (S' := S1) ok_X12_count.1 (by decide +kernel) rfl rfl ?_
                      obtain ⟨g15, h⟩ := ax_gd_e h
                      refine ax_Tali (n := 204) ok_X12_count.1 (by decide +kernel) (by decide) rfl g15 ?_
                      cases h
                      exact ax_Treti (by decide +kernel) rfl rfl
                    · rw [if_neg c14] at h
                      by_cases c16 : a1 = (10 : Int32)
                      · rw [if_pos c16] at h
                        refine ax_TtIn (dflt := 179) (lo := 0) (hi := 15) (offs := #[78, 83, 88, 93, 98, 103, 108, 116, 124, 132, 140, 148, 156, 161, 166, 174]) (len := 78) (off := 140) (tgt := 146) (by decide +kernel) (by rw [c16]; decide) (by rw [c16]; decide) (by rw [c16]; rfl) (by decide) ?_
                        refine ax_Tgo [.aload_n 0, .getfield 61, .bipush 19] (pc' := 152) (L' := [some (.inr (12, 0)), some (.inl (.int a1))]) (st' := [.inl (.int (19 : Int32)), .inr (55, 0)]) (S' := S1) ok_X12_count.1 (by decide +kernel) rfl rfl ?_
                        obtain ⟨g17, h⟩ := ax_gd_e h
                        refine ax_Tali (n := 204) ok_X12_count.1 (by decide +kernel) (by decide) rfl g17 ?_
                        cases h
                        exact ax_Treti (by decide +kernel) rfl rfl
                      · rw [if_neg c16] at h
                        by_cases c18 : a1 = (11 : Int32)
                        · rw [if_pos c18] at h
                          refine ax_TtIn (dflt := 179) (lo := 0) (hi := 15) (offs := #[78, 83, 88, 93, 98, 103, 108, 116, 124, 132, 140, 148, 156, 161, 166, 174]) (len := 78) (off := 148) (tgt := 154) (by decide +kernel) (by rw [c18]; decide) (by rw [c18]; decide) (by rw [c18]; rfl) (by decide) ?_
                          refine ax_Tgo [.aload_n 0, .getfield 61, .bipush 20] (pc' := 160) (L' := [some (.inr (12, 0)), some (.inl (.int a1))]) (st' := [.inl (.int (20 : Int32)), .inr (55, 0)]) (S' := S1) ok_X12_count.1 (by decide +kernel) rfl rfl ?_
                          obtain ⟨g19, h⟩ := ax_gd_e h
                          refine ax_Tali (n := 204) ok_X12_count.1 (by decide +kernel) (by decide) rfl g19 ?_
                          cases h
                          exact ax_Treti (by decide +kernel) rfl rfl
                        · rw [if_neg c18] at h
                          by_cases c20 : a1 = (12 : Int32)
                          · rw [if_pos c20] at h
                            refine ax_TtIn (dflt := 179) (lo := 0) (hi := 15) (offs := #[78, 83, 88, 93, 98, 103, 108, 116, 124, 132, 140, 148, 156, 161, 166, 174]) (len := 78) (off := 156) (tgt := 162) (by decide +kernel) (by rw [c20]; decide) (by rw [c20]; decide) (by rw [c20]; rfl) (by decide) ?_
                            refine ax_Tgo [.aload_n 0, .getfield 71] (pc' := 166) (L' := [some (.inr (12, 0)), some (.inl (.int a1))]) (st' := [.inl (.int (ax_fi S1 12 0 35))]) (S' := S1) ok_X12_count.1 (by decide +kernel) rfl rfl ?_
                            cases h
                            exact ax_Treti (by decide +kernel) rfl rfl
                          · rw [if_neg c20] at h
                            by_cases c21 : a1 = (13 : Int32)
                            · rw [if_pos c21] at h
                              refine ax_TtIn (dflt := 179) (lo := 0) (hi := 15) (offs := #[78, 83, 88, 93, 98, 103, 108, 116, 124, 132, 140, 148, 156, 161, 166, 174]) (len := 78) (off := 161) (tgt := 167) (by decide +kernel) (by rw [c21]; decide) (by rw [c21]; decide) (by rw [c21]; rfl) (by decide) ?_
                              refine ax_Tgo [.aload_n 0, .getfield 294] (pc' := 171) (L' := [some (.inr (12, 0)), some (.inl (.int a1))]) (st' := [.inl (.int (ax_fi S1 12 0 47))]) (S' := S1) ok_X12_count.1 (by decide +kernel) rfl rfl ?_
                              cases h
                              exact ax_Treti (by decide +kernel) rfl rfl
                            · rw [if_neg c21] at h
                              by_cases c22 : a1 = (14 : Int32)
                              · rw [if_pos c22] at h
                                refine ax_TtIn (dflt := 179) (lo := 0) (hi := 15) (offs := #[78, 83, 88, 93, 98, 103, 108, 116, 124, 132, 140, 148, 156, 161, 166, 174]) (len := 78) (off := 166) (tgt := 172) (by decide +kernel) (by rw [c22]; decide) (by rw [c22]; decide) (by rw [c22]; rfl) (by decide) ?_
                                refine ax_Tgo [.aload_n 0, .getfield 61, .bipush 23] (pc' := 178) (L' := [some (.inr (12, 0)), some (.inl (.int a1))]) (st' := [.inl (.int (23 : Int32)), .inr (55, 0)]) (S' := S1) ok_X12_count.1 (by decide +kernel) rfl rfl ?_
                                obtain ⟨g23, h⟩ := ax_gd_e h
                                refine ax_Tali (n := 204) ok_X12_count.1 (by decide +kernel) (by decide) rfl g23 ?_
                                cases h
                                exact ax_Treti (by decide +kernel) rfl rfl
                              · rw [if_neg c22] at h
                                by_cases c24 : a1 = (15 : Int32)
                                · rw [if_pos c24] at h
                                  refine ax_TtIn (dflt := 179) (lo := 0) (hi := 15) (offs := #[78, 83, 88, 93, 98, 103, 108, 116, 124, 132, 140, 148, 156, 161, 166, 174]) (len := 78) (off := 174) (tgt := 180) (by decide +kernel) (by rw [c24]; decide) (by rw [c24]; decide) (by rw [c24]; rfl) (by decide) ?_
                                  refine ax_Tgo [.aload_n 0, .getfield 297] (pc' := 184) (L' := [some (.inr (12, 0)), some (.inl (.int a1))]) (st' := [.inl (.int (ax_fi S1 12 0 39))]) (S' := S1) ok_X12_count.1 (by decide +kernel) rfl rfl ?_
                                  cases h
                                  exact ax_Treti (by decide +kernel) rfl rfl
                                · rw [if_neg c24] at h
                                  refine ax_TtOut (dflt := 179) (lo := 0) (hi := 15) (offs := #[78, 83, 88, 93, 98, 103, 108, 116, 124, 132, 140, 148, 156, 161, 166, 174]) (len := 78) (tgt := 185) (by decide +kernel) (by have zc2 := lv_neT (a := 0) c2 rfl; have zc3 := lv_neT (a := 1) c3 rfl; have zc4 := lv_neT (a := 2) c4 rfl; have zc5 := lv_neT (a := 3) c5 rfl; have zc6 := lv_neT (a := 4) c6 rfl; have zc7 := lv_neT (a := 5) c7 rfl; have zc8 := lv_neT (a := 6) c8 rfl; have zc10 := lv_neT (a := 7) c10 rfl; have zc12 := lv_neT (a := 8) c12 rfl; have zc14 := lv_neT (a := 9) c14 rfl; have zc16 := lv_neT (a := 10) c16 rfl; have zc18 := lv_neT (a := 11) c18 rfl; have zc20 := lv_neT (a := 12) c20 rfl; have zc21 := lv_neT (a := 13) c21 rfl; have zc22 := lv_neT (a := 14) c22 rfl; have zc24 := lv_neT (a := 15) c24 rfl; omega) (by decide) ?_
                                  refine ax_Tgo [.ldc_w 388] (pc' := 188) (L' := [some (.inr (12, 0)), some (.inl (.int a1))]) (st' := [.inl (.int (-1000000 : Int32))]) (S' := S1) ok_X12_count.1 (by decide +kernel) rfl rfl ?_
                                  cases h
                                  exact ax_Treti (by decide +kernel) rfl rfl
def f_X12_calledBits_55x0_L4 (S : AS) (K30 : Int32 → Option (Int32)) : Nat → Int32 → Int32 → Option (Int32)
  | 0, _, _ => none
  | n + 1, x1, x2 => (if (ax_fi S 12 0 27) ≤ x2 then K30 x1 else ax_gd (ax_in (((2 : Int32) * x2) + (1 : Int32)) 204) (ax_let (x1 ||| ((ax_ai S 55 0 (((2 : Int32) * x2) + (1 : Int32)).toNatClampNeg) <<< (x2 &&& 31))) (fun (v6 : Int32) => ax_let (x2 + (1 : Int32)) (fun (v7 : Int32) => f_X12_calledBits_55x0_L4 S K30 n v6 v7))))
def f_X12_calledBits_55x0 (S : AS) : Option (Int32) := f_X12_calledBits_55x0_L4 S (fun (x3 : Int32)  => some x3) ax_F (0 : Int32) (0 : Int32)
set_option maxRecDepth 100000 in
theorem t_X12_calledBits_55x0_L4 {l : Launch} {S : AS} {K30 : Int32 → Option (Int32)} (hK30 : ∀ (x3 : Int32) r, K30 x3  = some r → ax_T l 0 ma_X12_calledBits (30, [none, none, some (.inl (.int x3)), none], [], S) (some (.inl (.int r))) S) : ∀ (n : Nat) (x1 : Int32) (x2 : Int32) r, f_X12_calledBits_55x0_L4 S K30 n x1 x2  = some r → ax_T l 0 ma_X12_calledBits (4, [some (.inr (12, 0)), some (.inr (55, 0)), some (.inl (.int x1)), some (.inl (.int x2))], [], S) (some (.inl (.int r))) S := by
  intro n
  induction n with
  | zero =>
    intro x1 x2  r h
    cases h
  | succ n ih =>
    intro x1 x2  r h
    unfold f_X12_calledBits_55x0_L4 at h
    refine ax_Tgo [.iload_n 3, .aload_n 0, .getfield 291] (pc' := 9) (L' := [some (.inr (12, 0)), some (.inr (55, 0)), some (.inl (.int x1)), some (.inl (.int x2))]) (st' := [.inl (.int (ax_fi S 12 0 27)), .inl (.int x2)]) (S' := S) ok_X12_calledBits.1 (by decide +kernel) rfl rfl ?_
    refine ax_Tic_ge (off := 21) (tgt := 30) (by decide +kernel) (by decide) (fun c4 => ?_) (fun c4 => ?_)
    · rw [if_pos c4] at h
      refine ax_Tdrop [false, false, true, false] (L' := [none, none, some (.inl (.int x1)), none]) rfl ?_
      exact hK30 x1 _ h
    · rw [if_neg c4] at h
      refine ax_Tgo [.iload_n 2, .aload_n 1, .iconst 2, .iload_n 3, .imul, .iconst 1, .iadd] (pc' := 19) (L' := [some (.inr (12, 0)), some (.inr (55, 0)), some (.inl (.int x1)), some (.inl (.int x2))]) (st' := [.inl (.int (((2 : Int32) * x2) + (1 : Int32))), .inr (55, 0), .inl (.int x1)]) (S' := S) ok_X12_calledBits.1 (by decide +kernel) rfl rfl ?_
      obtain ⟨g5, h⟩ := ax_gd_e h
      refine ax_Tali (n := 204) ok_X12_calledBits.1 (by decide +kernel) (by decide) rfl g5 ?_
      refine ax_Tgo [.iload_n 3, .ishl, .ior, .istore_n 2] (pc' := 24) (L' := [some (.inr (12, 0)), some (.inr (55, 0)), some (.inl (.int (x1 ||| ((ax_ai S 55 0 (((2 : Int32) * x2) + (1 : Int32)).toNatClampNeg) <<< (x2 &&& 31))))), some (.inl (.int x2))]) (st' := []) (S' := S) ok_X12_calledBits.1 (by decide +kernel) rfl rfl ?_
      obtain ⟨v6, ev6, h⟩ := ax_let_e h
      rw [ev6]
      refine ax_Tgo [.iinc 3 1] (pc' := 27) (L' := [some (.inr (12, 0)), some (.inr (55, 0)), some (.inl (.int v6)), some (.inl (.int (x2 + (1 : Int32))))]) (st' := []) (S' := S) ok_X12_calledBits.1 (by decide +kernel) rfl rfl ?_
      obtain ⟨v7, ev7, h⟩ := ax_let_e h
      rw [ev7]
      refine ax_Tgoto (off := (-23)) (tgt := 4) (by decide +kernel) (by decide) ?_
      exact ih v6 v7 _ h
set_option maxRecDepth 100000 in
theorem t_X12_calledBits_55x0 {l : Launch} {S : AS} {r : Int32} (h : f_X12_calledBits_55x0 S = some r) : ax_M l 0 ma_X12_calledBits [.inr (12, 0), .inr (55, 0)] S (some (.inl (.int r))) S := by
  unfold f_X12_calledBits_55x0 at h
  show ax_T l 0 ma_X12_calledBits (0, [some (.inr (12, 0)), some (.inr (55, 0)), none, none], [], S) (some (.inl (.int r))) S
  refine ax_Tgo [.iconst 0, .istore_n 2, .iconst 0, .istore_n 3] (pc' := 4) (L' := [some (.inr (12, 0)), some (.inr (55, 0)), some (.inl (.int (0 : Int32))), some (.inl (.int (0 : Int32)))]) (st' := []) (S' := S) ok_X12_calledBits.1 (by decide +kernel) rfl rfl ?_
  refine t_X12_calledBits_55x0_L4 ?_ _ (0 : Int32) (0 : Int32) _ h
  · intro x3  r h
    refine ax_Tgo [.iload_n 2] (pc' := 31) (L' := [none, none, some (.inl (.int x3)), none]) (st' := [.inl (.int x3)]) (S' := S) ok_X12_calledBits.1 (by decide +kernel) rfl rfl ?_
    cases h
    exact ax_Treti (by decide +kernel) rfl rfl
def f_X12_goDay_55x0_L126 (K148 : AS → Option (AS)) : Nat → Int32 → AS → Option (AS)
  | 0, _, _ => none
  | n + 1, x35, S36 => (if (ax_fi S36 12 0 27) ≤ x35 then K148 S36 else ax_gd (ax_in (((2 : Int32) * x35) + (1 : Int32)) 204) (ax_let (ax_sai S36 55 0 (((2 : Int32) * x35) + (1 : Int32)).toNatClampNeg (0 : Int32)) (fun (S39 : AS) => ax_let (x35 + (1 : Int32)) (fun (v40 : Int32) => f_X12_goDay_55x0_L126 K148 n v40 S39))))
def f_X12_goDay_55x0_L150 (K171 : AS → Option (AS)) : Nat → Int32 → AS → Option (AS)
  | 0, _, _ => none
  | n + 1, x42, S43 => (if (ax_fi S43 12 0 26) ≤ x42 then K171 S43 else ax_gd (ax_in ((12 : Int32) + x42) 204) (ax_let (ax_sai S43 55 0 ((12 : Int32) + x42).toNatClampNeg (0 : Int32)) (fun (S46 : AS) => ax_let (x42 + (1 : Int32)) (fun (v47 : Int32) => f_X12_goDay_55x0_L150 K171 n v47 S46))))
def f_X12_goDay_55x0_L11 (K38 : AS → Option (AS)) : Nat → Int32 → AS → Option (AS)
  | 0, _, _ => none
  | n + 1, x53, S54 => (if (177 : Int32) < x53 then K38 S54 else ax_gd (ax_in (((23 : Int32) + x53) + (3 : Int32)) 204) (ax_gd (ax_in ((23 : Int32) + x53) 204) (ax_let (ax_sai S54 55 0 ((23 : Int32) + x53).toNatClampNeg (ax_ai S54 55 0 (((23 : Int32) + x53) + (3 : Int32)).toNatClampNeg)) (fun (S58 : AS) => ax_let (x53 + (1 : Int32)) (fun (v59 : Int32) => f_X12_goDay_55x0_L11 K38 n v59 S58)))))
def f_X12_goDay_55x0 (S : AS) : Option (AS) := ax_gd (ax_in (23 : Int32) 204) (ax_let (fun (S2 : AS) => ax_gd (ax_in (23 : Int32) 204) (ax_let ((24 : Int32) + ((3 : Int32) * (ax_ai S2 55 0 (23 : Int32).toNatClampNeg))) (fun (v5 : Int32) => ax_gd (ax_in (20 : Int32) 204) (ax_gd (ax_in v5 204) (ax_let (ax_sai S2 55 0 v5.toNatClampNeg (ax_ai S2 55 0 (20 : Int32).toNatClampNeg)) (fun (S8 : AS) => (f_X12_calledBits_55x0 S8).bind (fun (r12 : Int32) => ax_gd (ax_in (v5 + (1 : Int32)) 204) (ax_let (ax_sai S8 55 0 (v5 + (1 : Int32)).toNatClampNeg r12) (fun (S14 : AS) => ax_gd (ax_in (16 : Int32) 204) (ax_gd (ax_in (v5 + (2 : Int32)) 204) (ax_let (ax_sai S14 55 0 (v5 + (2 : Int32)).toNatClampNeg (ax_ai S14 55 0 (16 : Int32).toNatClampNeg)) (fun (S17 : AS) => ax_gd (ax_in (23 : Int32) 204) (ax_gd (ax_in (23 : Int32) 204) (ax_let (ax_sai S17 55 0 (23 : Int32).toNatClampNeg ((ax_ai S17 55 0 (23 : Int32).toNatClampNeg) + (1 : Int32))) (fun (S20 : AS) => ax_gd (ax_in (21 : Int32) 204) (ax_gd (ax_in (20 : Int32) 204) ((f_J9_min_7cf53 (999 : Int32) ((ax_ai S20 55 0 (21 : Int32).toNatClampNeg) + (ax_ai S20 55 0 (20 : Int32).toNatClampNeg)) S20).bind (fun (r26 : Int32) => ax_gd (ax_in (21 : Int32) 204) (ax_let (ax_sai S20 55 0 (21 : Int32).toNatClampNeg r26) (fun (S28 : AS) => ax_gd (ax_in (16 : Int32) 204) (ax_let (ax_sai S28 55 0 (16 : Int32).toNatClampNeg (0 : Int32)) (fun (S30 : AS) => ax_gd (ax_in (20 : Int32) 204) (ax_let (ax_sai S30 55 0 (20 : Int32).toNatClampNeg (0 : Int32)) (fun (S32 : AS) => ax_gd (ax_in (17 : Int32) 204) (ax_let (ax_sai S32 55 0 (17 : Int32).toNatClampNeg (0 : Int32)) (fun (S34 : AS) => f_X12_goDay_55x0_L126 (fun (S41 : AS) => f_X12_goDay_55x0_L150 (fun (S48 : AS) => ax_gd (ax_in (22 : Int32) 204) (ax_gd (ax_in (22 : Int32) 204) (ax_let (ax_sai S48 55 0 (22 : Int32).toNatClampNeg ((ax_ai S48 55 0 (22 : Int32).toNatClampNeg) + (1 : Int32))) (fun (S51 : AS) => some S51)))) ax_F (0 : Int32) S41) ax_F (0 : Int32) S34)))))))))))))))))))))))))) (fun J3 => (if (ax_ai S 55 0 (23 : Int32).toNatClampNeg) = (60 : Int32) then f_X12_goDay_55x0_L11 (fun (S60 : AS) => ax_gd (ax_in (23 : Int32) 204) (ax_gd (ax_in (23 : Int32) 204) (ax_let (ax_sai S60 55 0 (23 : Int32).toNatClampNeg ((ax_ai S60 55 0 (23 : Int32).toNatClampNeg) - (1 : Int32))) (fun (S63 : AS) => J3 S63)))) ax_F (1 : Int32) S else J3 S)))
set_option maxRecDepth 100000 in
theorem t_X12_goDay_55x0_L126 {l : Launch} {K148 : AS → Option (AS)} (hK148 : ∀ (S : AS) Z, K148 S = some Z → ax_T l 1 ma_X12_goDay (148, [some (.inr (12, 0)), some (.inr (55, 0)), none, none], [], S) none Z) : ∀ (n : Nat) (x35 : Int32) (S36 : AS) Z, f_X12_goDay_55x0_L126 K148 n x35 S36 = some Z → ax_T l 1 ma_X12_goDay (126, [some (.inr (12, 0)), some (.inr (55, 0)), none, some (.inl (.int x35))], [], S36) none Z := by
  intro n
  induction n with
  | zero =>
    intro x35 S36 Z h
    cases h
  | succ n ih =>
    intro x35 S36 Z h
    unfold f_X12_goDay_55x0_L126 at h
    refine ax_Tgo [.iload_n 3, .aload_n 0, .getfield 291] (pc' := 131) (L' := [some (.inr (12, 0)), some (.inr (55, 0)), none, some (.inl (.int x35))]) (st' := [.inl (.int (ax_fi S36 12 0 27)), .inl (.int x35)]) (S' := S36) ok_X12_goDay.1 (by decide +kernel) rfl rfl ?_
    refine ax_Tic_ge (off := 17) (tgt := 148) (by decide +kernel) (by decide) (fun c37 => ?_) (fun c37 => ?_)
    · rw [if_pos c37] at h
      refine ax_Tdrop [true, true, true, false] (L' := [some (.inr (12, 0)), some (.inr (55, 0)), none, none]) rfl ?_
      exact hK148 S36 _ h
    · rw [if_neg c37] at h
      refine ax_Tgo [.aload_n 1, .iconst 2, .iload_n 3, .imul, .iconst 1, .iadd, .iconst 0] (pc' := 141) (L' := [some (.inr (12, 0)), some (.inr (55, 0)), none, some (.inl (.int x35))]) (st' := [.inl (.int (0 : Int32)), .inl (.int (((2 : Int32) * x35) + (1 : Int32))), .inr (55, 0)]) (S' := S36) ok_X12_goDay.1 (by decide +kernel) rfl rfl ?_
      obtain ⟨g38, h⟩ := ax_gd_e h
      refine ax_Tasi (n := 204) ok_X12_goDay.1 (by decide +kernel) (by decide) rfl g38 ?_
      obtain ⟨S39, eS39, h⟩ := ax_let_e h
      rw [eS39]
      refine ax_Tgo [.iinc 3 1] (pc' := 145) (L' := [some (.inr (12, 0)), some (.inr (55, 0)), none, some (.inl (.int (x35 + (1 : Int32))))]) (st' := []) (S' := S39) ok_X12_goDay.1 (by decide +kernel) rfl rfl ?_
      obtain ⟨v40, ev40, h⟩ := ax_let_e h
      rw [ev40]
      refine ax_Tgoto (off := (-19)) (tgt := 126) (by decide +kernel) (by decide) ?_
      exact ih v40 S39 _ h
set_option maxRecDepth 100000 in
theorem t_X12_goDay_55x0_L150 {l : Launch} {K171 : AS → Option (AS)} (hK171 : ∀ (S : AS) Z, K171 S = some Z → ax_T l 1 ma_X12_goDay (171, [none, some (.inr (55, 0)), none, none], [], S) none Z) : ∀ (n : Nat) (x42 : Int32) (S43 : AS) Z, f_X12_goDay_55x0_L150 K171 n x42 S43 = some Z → ax_T l 1 ma_X12_goDay (150, [some (.inr (12, 0)), some (.inr (55, 0)), none, some (.inl (.int x42))], [], S43) none Z := by
  intro n
  induction n with
  | zero =>
    intro x42 S43 Z h
    cases h
  | succ n ih =>
    intro x42 S43 Z h
    unfold f_X12_goDay_55x0_L150 at h
    refine ax_Tgo [.iload_n 3, .aload_n 0, .getfield 288] (pc' := 155) (L' := [some (.inr (12, 0)), some (.inr (55, 0)), none, some (.inl (.int x42))]) (st' := [.inl (.int (ax_fi S43 12 0 26)), .inl (.int x42)]) (S' := S43) ok_X12_goDay.1 (by decide +kernel) rfl rfl ?_
    refine ax_Tic_ge (off := 16) (tgt := 171) (by decide +kernel) (by decide) (fun c44 => ?_) (fun c44 => ?_)
    · rw [if_pos c44] at h
      refine ax_Tdrop [false, true, true, false] (L' := [none, some (.inr (55, 0)), none, none]) rfl ?_
      exact hK171 S43 _ h
    · rw [if_neg c44] at h
      refine ax_Tgo [.aload_n 1, .bipush 12, .iload_n 3, .iadd, .iconst 0] (pc' := 164) (L' := [some (.inr (12, 0)), some (.inr (55, 0)), none, some (.inl (.int x42))]) (st' := [.inl (.int (0 : Int32)), .inl (.int ((12 : Int32) + x42)), .inr (55, 0)]) (S' := S43) ok_X12_goDay.1 (by decide +kernel) rfl rfl ?_
      obtain ⟨g45, h⟩ := ax_gd_e h
      refine ax_Tasi (n := 204) ok_X12_goDay.1 (by decide +kernel) (by decide) rfl g45 ?_
      obtain ⟨S46, eS46, h⟩ := ax_let_e h
      rw [eS46]
      refine ax_Tgo [.iinc 3 1] (pc' := 168) (L' := [some (.inr (12, 0)), some (.inr (55, 0)), none, some (.inl (.int (x42 + (1 : Int32))))]) (st' := []) (S' := S46) ok_X12_goDay.1 (by decide +kernel) rfl rfl ?_
      obtain ⟨v47, ev47, h⟩ := ax_let_e h
      rw [ev47]
      refine ax_Tgoto (off := (-18)) (tgt := 150) (by decide +kernel) (by decide) ?_
      exact ih v47 S46 _ h
set_option maxRecDepth 100000 in
theorem t_X12_goDay_55x0_L11 {l : Launch} {K38 : AS → Option (AS)} (hK38 : ∀ (S : AS) Z, K38 S = some Z → ax_T l 1 ma_X12_goDay (38, [some (.inr (12, 0)), some (.inr (55, 0)), none, none], [], S) none Z) : ∀ (n : Nat) (x53 : Int32) (S54 : AS) Z, f_X12_goDay_55x0_L11 K38 n x53 S54 = some Z → ax_T l 1 ma_X12_goDay (11, [some (.inr (12, 0)), some (.inr (55, 0)), some (.inl (.int x53)), none], [], S54) none Z := by
  intro n
  induction n with
  | zero =>
    intro x53 S54 Z h
    cases h
  | succ n ih =>
    intro x53 S54 Z h
    unfold f_X12_goDay_55x0_L11 at h
    refine ax_Tgo [.iload_n 2, .sipush 177] (pc' := 15) (L' := [some (.inr (12, 0)), some (.inr (55, 0)), some (.inl (.int x53)), none]) (st' := [.inl (.int (177 : Int32)), .inl (.int x53)]) (S' := S54) ok_X12_goDay.1 (by decide +kernel) rfl rfl ?_
    refine ax_Tic_gt (off := 23) (tgt := 38) (by decide +kernel) (by decide) (fun c55 => ?_) (fun c55 => ?_)
    · rw [if_pos c55] at h
      refine ax_Tdrop [true, true, false, true] (L' := [some (.inr (12, 0)), some (.inr (55, 0)), none, none]) rfl ?_
      exact hK38 S54 _ h
    · rw [if_neg c55] at h
      refine ax_Tgo [.aload_n 1, .bipush 23, .iload_n 2, .iadd, .aload_n 1, .bipush 23, .iload_n 2, .iadd, .iconst 3, .iadd] (pc' := 30) (L' := [some (.inr (12, 0)), some (.inr (55, 0)), some (.inl (.int x53)), none]) (st' := [.inl (.int (((23 : Int32) + x53) + (3 : Int32))), .inr (55, 0), .inl (.int ((23 : Int32) + x53)), .inr (55, 0)]) (S' := S54) ok_X12_goDay.1 (by decide +kernel) rfl rfl ?_
      obtain ⟨g56, h⟩ := ax_gd_e h
      refine ax_Tali (n := 204) ok_X12_goDay.1 (by decide +kernel) (by decide) rfl g56 ?_
      obtain ⟨g57, h⟩ := ax_gd_e h
      refine ax_Tasi (n := 204) ok_X12_goDay.1 (by decide +kernel) (by decide) rfl g57 ?_
      obtain ⟨S58, eS58, h⟩ := ax_let_e h
      rw [eS58]
      refine ax_Tgo [.iinc 2 1] (pc' := 35) (L' := [some (.inr (12, 0)), some (.inr (55, 0)), some (.inl (.int (x53 + (1 : Int32)))), none]) (st' := []) (S' := S58) ok_X12_goDay.1 (by decide +kernel) rfl rfl ?_
      obtain ⟨v59, ev59, h⟩ := ax_let_e h
      rw [ev59]
      refine ax_Tgoto (off := (-24)) (tgt := 11) (by decide +kernel) (by decide) ?_
      exact ih v59 S58 _ h
set_option maxRecDepth 100000 in
theorem t_X12_goDay_55x0 {l : Launch} {S Z : AS} (h : f_X12_goDay_55x0 S = some Z) : ax_M l 1 ma_X12_goDay [.inr (12, 0), .inr (55, 0)] S none Z := by
  unfold f_X12_goDay_55x0 at h
  show ax_T l 1 ma_X12_goDay (0, [some (.inr (12, 0)), some (.inr (55, 0)), none, none], [], S) none Z
  refine ax_Tgo [.aload_n 1, .bipush 23] (pc' := 3) (L' := [some (.inr (12, 0)), some (.inr (55, 0)), none, none]) (st' := [.inl (.int (23 : Int32)), .inr (55, 0)]) (S' := S) ok_X12_goDay.1 (by decide +kernel) rfl rfl ?_
  obtain ⟨g1, h⟩ := ax_gd_e h
  refine ax_Tali (n := 204) ok_X12_goDay.1 (by decide +kernel) (by decide) rfl g1 ?_
  refine ax_Tgo [.bipush 60] (pc' := 6) (L' := [some (.inr (12, 0)), some (.inr (55, 0)), none, none]) (st' := [.inl (.int (60 : Int32)), .inl (.int (ax_ai S 55 0 (23 : Int32).toNatClampNeg))]) (S' := S) ok_X12_goDay.1 (by decide +kernel) rfl rfl ?_
  obtain ⟨J3, eJ3, h⟩ := ax_let_e h
  have hJ3 : ∀ (S2 : AS) Z, J3 S2 = some Z → ax_T l 1 ma_X12_goDay (46, [some (.inr (12, 0)), some (.inr (55, 0)), none, none], [], S2) none Z := by
    intro S2 Z h
    rw [← eJ3] at h
    try dsimp only at h
    refine ax_Tgo [.bipush 24, .iconst 3, .aload_n 1, .bipush 23] (pc' := 52) (L' := [some (.inr (12, 0)), some (.inr (55, 0)), none, none]) (st' := [.inl (.int (23 : Int32)), .inr (55, 0), .inl (.int (3 : Int32)), .inl (.int (24 : Int32))]) (S' := S2) ok_X12_goDay.1 (by decide +kernel) rfl rfl ?_
    obtain ⟨g4, h⟩ := ax_gd_e h
    refine ax_Tali (n := 204) ok_X12_goDay.1 (by decide +kernel) (by decide) rfl g4 ?_
    refine ax_Tgo [.imul, .iadd, .istore_n 2] (pc' := 56) (L' := [some (.inr (12, 0)), some (.inr (55, 0)), some (.inl (.int ((24 : Int32) + ((3 : Int32) * (ax_ai S2 55 0 (23 : Int32).toNatClampNeg))))), none]) (st' := []) (S' := S2) ok_X12_goDay.1 (by decide +kernel) rfl rfl ?_
    obtain ⟨v5, ev5, h⟩ := ax_let_e h
    rw [ev5]
    refine ax_Tgo [.aload_n 1, .iload_n 2, .aload_n 1, .bipush 20] (pc' := 61) (L' := [some (.inr (12, 0)), some (.inr (55, 0)), some (.inl (.int v5)), none]) (st' := [.inl (.int (20 : Int32)), .inr (55, 0), .inl (.int v5), .inr (55, 0)]) (S' := S2) ok_X12_goDay.1 (by decide +kernel) rfl rfl ?_
    obtain ⟨g6, h⟩ := ax_gd_e h
    refine ax_Tali (n := 204) ok_X12_goDay.1 (by decide +kernel) (by decide) rfl g6 ?_
    obtain ⟨g7, h⟩ := ax_gd_e h
    refine ax_Tasi (n := 204) ok_X12_goDay.1 (by decide +kernel) (by decide) rfl g7 ?_
    obtain ⟨S8, eS8, h⟩ := ax_let_e h
    rw [eS8]
    refine ax_Tgo [.aload_n 1, .iload_n 2, .iconst 1, .iadd, .aload_n 0, .aload_n 1] (pc' := 69) (L' := [some (.inr (12, 0)), some (.inr (55, 0)), some (.inl (.int v5)), none]) (st' := [.inr (55, 0), .inr (12, 0), .inl (.int (v5 + (1 : Int32))), .inr (55, 0)]) (S' := S8) ok_X12_goDay.1 (by decide +kernel) rfl rfl ?_
    obtain ⟨r12, hq10, h⟩ := ax_bd_e h
    refine ax_TVi (d := 0) (ka := 12) (i := 0) [.inr (55, 0)] [.inl (.int (v5 + (1 : Int32))), .inr (55, 0)] lk_X12_334 (by decide +kernel) rfl (by decide) rfl (Nat.le_of_ble_eq_true rfl) (Nat.le_of_ble_eq_true rfl) ((t_X12_calledBits_55x0 hq10).up (by decide)) ?_
    obtain ⟨g13, h⟩ := ax_gd_e h
    refine ax_Tasi (n := 204) ok_X12_goDay.1 (by decide +kernel) (by decide) rfl g13 ?_
    obtain ⟨S14, eS14, h⟩ := ax_let_e h
    rw [eS14]
    refine ax_Tgo [.aload_n 1, .iload_n 2, .iconst 2, .iadd, .aload_n 1, .bipush 16] (pc' := 80) (L' := [some (.inr (12, 0)), some (.inr (55, 0)), some (.inl (.int v5)), none]) (st' := [.inl (.int (16 : Int32)), .inr (55, 0), .inl (.int (v5 + (2 : Int32))), .inr (55, 0)]) (S' := S14) ok_X12_goDay.1 (by decide +kernel) rfl rfl ?_
    obtain ⟨g15, h⟩ := ax_gd_e h
    refine ax_Tali (n := 204) ok_X12_goDay.1 (by decide +kernel) (by decide) rfl g15 ?_
    obtain ⟨g16, h⟩ := ax_gd_e h
    refine ax_Tasi (n := 204) ok_X12_goDay.1 (by decide +kernel) (by decide) rfl g16 ?_
    obtain ⟨S17, eS17, h⟩ := ax_let_e h
    rw [eS17]
    refine ax_Tgo [.aload_n 1, .bipush 23, .dup2] (pc' := 86) (L' := [some (.inr (12, 0)), some (.inr (55, 0)), some (.inl (.int v5)), none]) (st' := [.inl (.int (23 : Int32)), .inr (55, 0), .inl (.int (23 : Int32)), .inr (55, 0)]) (S' := S17) ok_X12_goDay.1 (by decide +kernel) rfl rfl ?_
    obtain ⟨g18, h⟩ := ax_gd_e h
    refine ax_Tali (n := 204) ok_X12_goDay.1 (by decide +kernel) (by decide) rfl g18 ?_
    refine ax_Tgo [.iconst 1, .iadd] (pc' := 89) (L' := [some (.inr (12, 0)), some (.inr (55, 0)), some (.inl (.int v5)), none]) (st' := [.inl (.int ((ax_ai S17 55 0 (23 : Int32).toNatClampNeg) + (1 : Int32))), .inl (.int (23 : Int32)), .inr (55, 0)]) (S' := S17) ok_X12_goDay.1 (by decide +kernel) rfl rfl ?_
    obtain ⟨g19, h⟩ := ax_gd_e h
    refine ax_Tasi (n := 204) ok_X12_goDay.1 (by decide +kernel) (by decide) rfl g19 ?_
    obtain ⟨S20, eS20, h⟩ := ax_let_e h
    rw [eS20]
    refine ax_Tgo [.aload_n 1, .bipush 21, .sipush 999, .aload_n 1, .bipush 21] (pc' := 99) (L' := [some (.inr (12, 0)), some (.inr (55, 0)), some (.inl (.int v5)), none]) (st' := [.inl (.int (21 : Int32)), .inr (55, 0), .inl (.int (999 : Int32)), .inl (.int (21 : Int32)), .inr (55, 0)]) (S' := S20) ok_X12_goDay.1 (by decide +kernel) rfl rfl ?_
    obtain ⟨g21, h⟩ := ax_gd_e h
    refine ax_Tali (n := 204) ok_X12_goDay.1 (by decide +kernel) (by decide) rfl g21 ?_
    refine ax_Tgo [.aload_n 1, .bipush 20] (pc' := 103) (L' := [some (.inr (12, 0)), some (.inr (55, 0)), some (.inl (.int v5)), none]) (st' := [.inl (.int (20 : Int32)), .inr (55, 0), .inl (.int (ax_ai S20 55 0 (21 : Int32).toNatClampNeg)), .inl (.int (999 : Int32)), .inl (.int (21 : Int32)), .inr (55, 0)]) (S' := S20) ok_X12_goDay.1 (by decide +kernel) rfl rfl ?_
    obtain ⟨g22, h⟩ := ax_gd_e h
    refine ax_Tali (n := 204) ok_X12_goDay.1 (by decide +kernel) (by decide) rfl g22 ?_
    refine ax_Tgo [.iadd] (pc' := 105) (L' := [some (.inr (12, 0)), some (.inr (55, 0)), some (.inl (.int v5)), none]) (st' := [.inl (.int ((ax_ai S20 55 0 (21 : Int32).toNatClampNeg) + (ax_ai S20 55 0 (20 : Int32).toNatClampNeg))), .inl (.int (999 : Int32)), .inl (.int (21 : Int32)), .inr (55, 0)]) (S' := S20) ok_X12_goDay.1 (by decide +kernel) rfl rfl ?_
    obtain ⟨r26, hq24, h⟩ := ax_bd_e h
    refine ax_TSi (d := 0) [.inl (.int (999 : Int32)), .inl (.int ((ax_ai S20 55 0 (21 : Int32).toNatClampNeg) + (ax_ai S20 55 0 (20 : Int32).toNatClampNeg)))] [.inl (.int (21 : Int32)), .inr (55, 0)] lk_X12_318 (by decide +kernel) rfl rfl (Nat.le_of_ble_eq_true rfl) (Nat.le_of_ble_eq_true rfl) ((t_J9_min_7cf53 hq24).up (by decide)) ?_
    obtain ⟨g27, h⟩ := ax_gd_e h
    refine ax_Tasi (n := 204) ok_X12_goDay.1 (by decide +kernel) (by decide) rfl g27 ?_
    obtain ⟨S28, eS28, h⟩ := ax_let_e h
    rw [eS28]
    refine ax_Tgo [.aload_n 1, .bipush 16, .iconst 0] (pc' := 113) (L' := [some (.inr (12, 0)), some (.inr (55, 0)), some (.inl (.int v5)), none]) (st' := [.inl (.int (0 : Int32)), .inl (.int (16 : Int32)), .inr (55, 0)]) (S' := S28) ok_X12_goDay.1 (by decide +kernel) rfl rfl ?_
    obtain ⟨g29, h⟩ := ax_gd_e h
    refine ax_Tasi (n := 204) ok_X12_goDay.1 (by decide +kernel) (by decide) rfl g29 ?_
    obtain ⟨S30, eS30, h⟩ := ax_let_e h
    rw [eS30]
    refine ax_Tgo [.aload_n 1, .bipush 20, .iconst 0] (pc' := 118) (L' := [some (.inr (12, 0)), some (.inr (55, 0)), some (.inl (.int v5)), none]) (st' := [.inl (.int (0 : Int32)), .inl (.int (20 : Int32)), .inr (55, 0)]) (S' := S30) ok_X12_goDay.1 (by decide +kernel) rfl rfl ?_
    obtain ⟨g31, h⟩ := ax_gd_e h
    refine ax_Tasi (n := 204) ok_X12_goDay.1 (by decide +kernel) (by decide) rfl g31 ?_
    obtain ⟨S32, eS32, h⟩ := ax_let_e h
    rw [eS32]
    refine ax_Tgo [.aload_n 1, .bipush 17, .iconst 0] (pc' := 123) (L' := [some (.inr (12, 0)), some (.inr (55, 0)), some (.inl (.int v5)), none]) (st' := [.inl (.int (0 : Int32)), .inl (.int (17 : Int32)), .inr (55, 0)]) (S' := S32) ok_X12_goDay.1 (by decide +kernel) rfl rfl ?_
    obtain ⟨g33, h⟩ := ax_gd_e h
    refine ax_Tasi (n := 204) ok_X12_goDay.1 (by decide +kernel) (by decide) rfl g33 ?_
    obtain ⟨S34, eS34, h⟩ := ax_let_e h
    rw [eS34]
    refine ax_Tgo [.iconst 0, .istore_n 3] (pc' := 126) (L' := [some (.inr (12, 0)), some (.inr (55, 0)), some (.inl (.int v5)), some (.inl (.int (0 : Int32)))]) (st' := []) (S' := S34) ok_X12_goDay.1 (by decide +kernel) rfl rfl ?_
    refine ax_Tdrop [true, true, false, true] (L' := [some (.inr (12, 0)), some (.inr (55, 0)), none, some (.inl (.int (0 : Int32)))]) rfl ?_
    refine t_X12_goDay_55x0_L126 ?_ _ (0 : Int32) S34 _ h
    · intro S41 Z h
      refine ax_Tgo [.iconst 0, .istore_n 3] (pc' := 150) (L' := [some (.inr (12, 0)), some (.inr (55, 0)), none, some (.inl (.int (0 : Int32)))]) (st' := []) (S' := S41) ok_X12_goDay.1 (by decide +kernel) rfl rfl ?_
      refine t_X12_goDay_55x0_L150 ?_ _ (0 : Int32) S41 _ h
      · intro S48 Z h
        refine ax_Tgo [.aload_n 1, .bipush 22, .dup2] (pc' := 175) (L' := [none, some (.inr (55, 0)), none, none]) (st' := [.inl (.int (22 : Int32)), .inr (55, 0), .inl (.int (22 : Int32)), .inr (55, 0)]) (S' := S48) ok_X12_goDay.1 (by decide +kernel) rfl rfl ?_
        obtain ⟨g49, h⟩ := ax_gd_e h
        refine ax_Tali (n := 204) ok_X12_goDay.1 (by decide +kernel) (by decide) rfl g49 ?_
        refine ax_Tgo [.iconst 1, .iadd] (pc' := 178) (L' := [none, some (.inr (55, 0)), none, none]) (st' := [.inl (.int ((ax_ai S48 55 0 (22 : Int32).toNatClampNeg) + (1 : Int32))), .inl (.int (22 : Int32)), .inr (55, 0)]) (S' := S48) ok_X12_goDay.1 (by decide +kernel) rfl rfl ?_
        obtain ⟨g50, h⟩ := ax_gd_e h
        refine ax_Tasi (n := 204) ok_X12_goDay.1 (by decide +kernel) (by decide) rfl g50 ?_
        obtain ⟨S51, eS51, h⟩ := ax_let_e h
        rw [eS51]
        cases h
        exact ax_Tretv (by decide +kernel) rfl
  refine ax_Tic_ne (off := 40) (tgt := 46) (by decide +kernel) (by decide) (fun c52 => ?_) (fun c52 => ?_)
  · rw [if_neg c52] at h
    exact hJ3 S _ h
  · rw [if_pos c52] at h
    refine ax_Tgo [.iconst 1, .istore_n 2] (pc' := 11) (L' := [some (.inr (12, 0)), some (.inr (55, 0)), some (.inl (.int (1 : Int32))), none]) (st' := []) (S' := S) ok_X12_goDay.1 (by decide +kernel) rfl rfl ?_
    refine t_X12_goDay_55x0_L11 ?_ _ (1 : Int32) S _ h
    · intro S60 Z h
      refine ax_Tgo [.aload_n 1, .bipush 23, .dup2] (pc' := 42) (L' := [some (.inr (12, 0)), some (.inr (55, 0)), none, none]) (st' := [.inl (.int (23 : Int32)), .inr (55, 0), .inl (.int (23 : Int32)), .inr (55, 0)]) (S' := S60) ok_X12_goDay.1 (by decide +kernel) rfl rfl ?_
      obtain ⟨g61, h⟩ := ax_gd_e h
      refine ax_Tali (n := 204) ok_X12_goDay.1 (by decide +kernel) (by decide) rfl g61 ?_
      refine ax_Tgo [.iconst 1, .isub] (pc' := 45) (L' := [some (.inr (12, 0)), some (.inr (55, 0)), none, none]) (st' := [.inl (.int ((ax_ai S60 55 0 (23 : Int32).toNatClampNeg) - (1 : Int32))), .inl (.int (23 : Int32)), .inr (55, 0)]) (S' := S60) ok_X12_goDay.1 (by decide +kernel) rfl rfl ?_
      obtain ⟨g62, h⟩ := ax_gd_e h
      refine ax_Tasi (n := 204) ok_X12_goDay.1 (by decide +kernel) (by decide) rfl g62 ?_
      obtain ⟨S63, eS63, h⟩ := ax_let_e h
      rw [eS63]
      exact hJ3 S63 _ h
def f_X12_day (S : AS) : Option (Int32 × AS) := ax_let (ax_sfi S 12 0 0 (0 : Int32)) (fun (S1 : AS) => (if (ax_fi S1 12 0 27) = (0 : Int32) then some ((Int32.ofInt (-1)), S1) else ax_gd (ax_in (22 : Int32) 204) ((if (ax_ai S1 55 0 (22 : Int32).toNatClampNeg) = (999 : Int32) then some ((Int32.ofInt (-1)), S1) else (f_X12_remember S1).bind (fun (S5 : AS) => (f_X12_goDay_55x0 S5).bind (fun (S8 : AS) => ax_gd (ax_in (22 : Int32) 204) (some ((ax_ai S8 55 0 (22 : Int32).toNatClampNeg), S8))))))))
set_option maxRecDepth 100000 in
theorem t_X12_day {l : Launch} {S Z : AS} {r : Int32} (h : f_X12_day S = some (r, Z)) : ax_M l 2 ma_X12_day [.inr (12, 0)] S (some (.inl (.int r))) Z := by
  unfold f_X12_day at h
  show ax_T l 2 ma_X12_day (0, [some (.inr (12, 0))], [], S) (some (.inl (.int r))) Z
  refine ax_Tgo [.aload_n 0, .iconst 0, .putfield 93] (pc' := 5) (L' := [some (.inr (12, 0))]) (st' := []) (S' := (ax_sfi S 12 0 0 (0 : Int32))) ok_X12_day.1 (by decide +kernel) rfl rfl ?_
  obtain ⟨S1, eS1, h⟩ := ax_let_e h
  rw [eS1]
  refine ax_Tgo [.aload_n 0, .getfield 291] (pc' := 9) (L' := [some (.inr (12, 0))]) (st' := [.inl (.int (ax_fi S1 12 0 27))]) (S' := S1) ok_X12_day.1 (by decide +kernel) rfl rfl ?_
  refine ax_Tif_eq (off := 16) (tgt := 25) (by decide +kernel) (by decide) (fun c2 => ?_) (fun c2 => ?_)
  · rw [if_pos c2] at h
    refine ax_Tgo [.iconst (-1)] (pc' := 26) (L' := [some (.inr (12, 0))]) (st' := [.inl (.int (Int32.ofInt (-1)))]) (S' := S1) ok_X12_day.1 (by decide +kernel) rfl rfl ?_
    cases h
    exact ax_Treti (by decide +kernel) rfl rfl
  · rw [if_neg c2] at h
    refine ax_Tgo [.aload_n 0, .getfield 61, .bipush 22] (pc' := 18) (L' := [some (.inr (12, 0))]) (st' := [.inl (.int (22 : Int32)), .inr (55, 0)]) (S' := S1) ok_X12_day.1 (by decide +kernel) rfl rfl ?_
    obtain ⟨g3, h⟩ := ax_gd_e h
    refine ax_Tali (n := 204) ok_X12_day.1 (by decide +kernel) (by decide) rfl g3 ?_
    refine ax_Tgo [.sipush 999] (pc' := 22) (L' := [some (.inr (12, 0))]) (st' := [.inl (.int (999 : Int32)), .inl (.int (ax_ai S1 55 0 (22 : Int32).toNatClampNeg))]) (S' := S1) ok_X12_day.1 (by decide +kernel) rfl rfl ?_
    refine ax_Tic_ne (off := 5) (tgt := 27) (by decide +kernel) (by decide) (fun c4 => ?_) (fun c4 => ?_)
    · rw [if_neg c4] at h
      refine ax_Tgo [.aload_n 0] (pc' := 28) (L' := [some (.inr (12, 0))]) (st' := [.inr (12, 0)]) (S' := S1) ok_X12_day.1 (by decide +kernel) rfl rfl ?_
      obtain ⟨S5, hq6, h⟩ := ax_bd_e h
      refine ax_TVv (d := 1) (ka := 12) (i := 0) [] [] lk_X12_352 (by decide +kernel) rfl (by decide) rfl (Nat.le_of_ble_eq_true rfl) (Nat.le_of_ble_eq_true rfl) ((t_X12_remember hq6).up (by decide)) ?_
      refine ax_Tgo [.aload_n 0, .aload_n 0, .getfield 61] (pc' := 36) (L' := [some (.inr (12, 0))]) (st' := [.inr (55, 0), .inr (12, 0)]) (S' := S5) ok_X12_day.1 (by decide +kernel) rfl rfl ?_
      obtain ⟨S8, hq9, h⟩ := ax_bd_e h
      refine ax_TVv (d := 1) (ka := 12) (i := 0) [.inr (55, 0)] [] lk_X12_368 (by decide +kernel) rfl (by decide) rfl (Nat.le_of_ble_eq_true rfl) (Nat.le_of_ble_eq_true rfl) ((t_X12_goDay_55x0 hq9).up (by decide)) ?_
      refine ax_Tgo [.aload_n 0, .getfield 61, .bipush 22] (pc' := 45) (L' := [some (.inr (12, 0))]) (st' := [.inl (.int (22 : Int32)), .inr (55, 0)]) (S' := S8) ok_X12_day.1 (by decide +kernel) rfl rfl ?_
      obtain ⟨g11, h⟩ := ax_gd_e h
      refine ax_Tali (n := 204) ok_X12_day.1 (by decide +kernel) (by decide) rfl g11 ?_
      cases h
      exact ax_Treti (by decide +kernel) rfl rfl
    · rw [if_pos c4] at h
      refine ax_Tgo [.iconst (-1)] (pc' := 26) (L' := [some (.inr (12, 0))]) (st' := [.inl (.int (Int32.ofInt (-1)))]) (S' := S1) ok_X12_day.1 (by decide +kernel) rfl rfl ?_
      cases h
      exact ax_Treti (by decide +kernel) rfl rfl
def f_X12_draw (a1 : Int32) (S : AS) : Option (Int32 × AS) := ax_let (ax_sfl S 12 0 40 (((ax_fl S 12 0 40) * (6364136223846793005 : Int64)) + (1442695040888963407 : Int64))) (fun (S1 : AS) => ax_gd (ax_nzl a1.toInt64) (some ((((ax_fl S1 12 0 40).toUInt64 >>> ((33 : Int32).toInt64.toUInt64 &&& Int64.toUInt64 63)).toInt64 - ((ax_fl S1 12 0 40).toUInt64 >>> ((33 : Int32).toInt64.toUInt64 &&& Int64.toUInt64 63)).toInt64 / a1.toInt64 * a1.toInt64).toInt32, S1)))
set_option maxRecDepth 100000 in
theorem t_X12_draw {l : Launch} {a1 : Int32} {S Z : AS} {r : Int32} (h : f_X12_draw a1 S = some (r, Z)) : ax_M l 0 ma_X12_draw [.inr (12, 0), .inl (.int a1)] S (some (.inl (.int r))) Z := by
  unfold f_X12_draw at h
  show ax_T l 0 ma_X12_draw (0, [some (.inr (12, 0)), some (.inl (.int a1))], [], S) (some (.inl (.int r))) Z
  refine ax_Tgo [.aload_n 0, .aload_n 0, .getfield 372, .ldc2_w 376, .lmul, .ldc2_w 378, .ladd, .putfield 372] (pc' := 16) (L' := [some (.inr (12, 0)), some (.inl (.int a1))]) (st' := []) (S' := (ax_sfl S 12 0 40 (((ax_fl S 12 0 40) * (6364136223846793005 : Int64)) + (1442695040888963407 : Int64)))) ok_X12_draw.1 (by decide +kernel) rfl rfl ?_
  obtain ⟨S1, eS1, h⟩ := ax_let_e h
  rw [eS1]
  refine ax_Tgo [.aload_n 0, .getfield 372, .bipush 33, .lushr, .iload_n 1, .i2l] (pc' := 25) (L' := [some (.inr (12, 0)), some (.inl (.int a1))]) (st' := [.inl (.long a1.toInt64), .inl (.long ((ax_fl S1 12 0 40).toUInt64 >>> ((33 : Int32).toInt64.toUInt64 &&& Int64.toUInt64 63)).toInt64)]) (S' := S1) ok_X12_draw.1 (by decide +kernel) rfl rfl ?_
  obtain ⟨g2, h⟩ := ax_gd_e h
  refine ax_Tlrem ok_X12_draw.1 (by decide +kernel) g2 ?_
  refine ax_Tgo [.l2i] (pc' := 27) (L' := [some (.inr (12, 0)), some (.inl (.int a1))]) (st' := [.inl (.int (((ax_fl S1 12 0 40).toUInt64 >>> ((33 : Int32).toInt64.toUInt64 &&& Int64.toUInt64 63)).toInt64 - ((ax_fl S1 12 0 40).toUInt64 >>> ((33 : Int32).toInt64.toUInt64 &&& Int64.toUInt64 63)).toInt64 / a1.toInt64 * a1.toInt64).toInt32)]) (S' := S1) ok_X12_draw.1 (by decide +kernel) rfl rfl ?_
  cases h
  exact ax_Treti (by decide +kernel) rfl rfl
def f_X12_drop (a1 : Int32) (S : AS) : Option (Int32 × AS) := ax_let (ax_sfi S 12 0 0 (0 : Int32)) (fun (S1 : AS) => (f_X12_isCaller a1 S1).bind (fun (r5 : Int32) => (if r5 = (0 : Int32) then some ((Int32.ofInt (-1)), S1) else ax_gd (ax_in (((2 : Int32) * a1) + (0 : Int32)) 204) ((if (ax_ai S1 55 0 (((2 : Int32) * a1) + (0 : Int32)).toNatClampNeg) = (0 : Int32) then some ((Int32.ofInt (-1)), S1) else (f_X12_remember S1).bind (fun (S9 : AS) => ax_gd (ax_in (((2 : Int32) * a1) + (0 : Int32)) 204) (ax_gd (ax_in (((2 : Int32) * a1) + (0 : Int32)) 204) (ax_let (ax_sai S9 55 0 (((2 : Int32) * a1) + (0 : Int32)).toNatClampNeg ((ax_ai S9 55 0 (((2 : Int32) * a1) + (0 : Int32)).toNatClampNeg) - (1 : Int32))) (fun (S14 : AS) => ax_gd (ax_in (((2 : Int32) * a1) + (0 : Int32)) 204) (some ((ax_ai S14 55 0 (((2 : Int32) * a1) + (0 : Int32)).toNatClampNeg), S14)))))))))))
set_option maxRecDepth 100000 in
theorem t_X12_drop {l : Launch} {a1 : Int32} {S Z : AS} {r : Int32} (h : f_X12_drop a1 S = some (r, Z)) : ax_M l 1 ma_X12_drop [.inr (12, 0), .inl (.int a1)] S (some (.inl (.int r))) Z := by
  unfold f_X12_drop at h
  show ax_T l 1 ma_X12_drop (0, [some (.inr (12, 0)), some (.inl (.int a1))], [], S) (some (.inl (.int r))) Z
  refine ax_Tgo [.aload_n 0, .iconst 0, .putfield 93] (pc' := 5) (L' := [some (.inr (12, 0)), some (.inl (.int a1))]) (st' := []) (S' := (ax_sfi S 12 0 0 (0 : Int32))) ok_X12_drop.1 (by decide +kernel) rfl rfl ?_
  obtain ⟨S1, eS1, h⟩ := ax_let_e h
  rw [eS1]
  refine ax_Tgo [.aload_n 0, .iload_n 1] (pc' := 7) (L' := [some (.inr (12, 0)), some (.inl (.int a1))]) (st' := [.inl (.int a1), .inr (12, 0)]) (S' := S1) ok_X12_drop.1 (by decide +kernel) rfl rfl ?_
  obtain ⟨r5, hq3, h⟩ := ax_bd_e h
  refine ax_TVi (d := 0) (ka := 12) (i := 0) [.inl (.int a1)] [] lk_X12_324 (by decide +kernel) rfl (by decide) rfl (Nat.le_of_ble_eq_true rfl) (Nat.le_of_ble_eq_true rfl) ((t_X12_isCaller hq3).up (by decide)) ?_
  refine ax_Tif_eq (off := 16) (tgt := 26) (by decide +kernel) (by decide) (fun c6 => ?_) (fun c6 => ?_)
  · rw [if_pos c6] at h
    refine ax_Tgo [.iconst (-1)] (pc' := 27) (L' := [some (.inr (12, 0)), some (.inl (.int a1))]) (st' := [.inl (.int (Int32.ofInt (-1)))]) (S' := S1) ok_X12_drop.1 (by decide +kernel) rfl rfl ?_
    cases h
    exact ax_Treti (by decide +kernel) rfl rfl
  · rw [if_neg c6] at h
    refine ax_Tgo [.aload_n 0, .getfield 61, .iconst 2, .iload_n 1, .imul, .iconst 0, .iadd] (pc' := 22) (L' := [some (.inr (12, 0)), some (.inl (.int a1))]) (st' := [.inl (.int (((2 : Int32) * a1) + (0 : Int32))), .inr (55, 0)]) (S' := S1) ok_X12_drop.1 (by decide +kernel) rfl rfl ?_
    obtain ⟨g7, h⟩ := ax_gd_e h
    refine ax_Tali (n := 204) ok_X12_drop.1 (by decide +kernel) (by decide) rfl g7 ?_
    refine ax_Tif_ne (off := 5) (tgt := 28) (by decide +kernel) (by decide) (fun c8 => ?_) (fun c8 => ?_)
    · rw [if_neg c8] at h
      refine ax_Tgo [.aload_n 0] (pc' := 29) (L' := [some (.inr (12, 0)), some (.inl (.int a1))]) (st' := [.inr (12, 0)]) (S' := S1) ok_X12_drop.1 (by decide +kernel) rfl rfl ?_
      obtain ⟨S9, hq10, h⟩ := ax_bd_e h
      refine ax_TVv (d := 0) (ka := 12) (i := 0) [] [] lk_X12_352 (by decide +kernel) rfl (by decide) rfl (Nat.le_of_ble_eq_true rfl) (Nat.le_of_ble_eq_true rfl) ((t_X12_remember hq10).up (by decide)) ?_
      refine ax_Tgo [.aload_n 0, .getfield 61, .iconst 2, .iload_n 1, .imul, .iconst 0, .iadd, .dup2] (pc' := 42) (L' := [some (.inr (12, 0)), some (.inl (.int a1))]) (st' := [.inl (.int (((2 : Int32) * a1) + (0 : Int32))), .inr (55, 0), .inl (.int (((2 : Int32) * a1) + (0 : Int32))), .inr (55, 0)]) (S' := S9) ok_X12_drop.1 (by decide +kernel) rfl rfl ?_
      obtain ⟨g12, h⟩ := ax_gd_e h
      refine ax_Tali (n := 204) ok_X12_drop.1 (by decide +kernel) (by decide) rfl g12 ?_
      refine ax_Tgo [.iconst 1, .isub] (pc' := 45) (L' := [some (.inr (12, 0)), some (.inl (.int a1))]) (st' := [.inl (.int ((ax_ai S9 55 0 (((2 : Int32) * a1) + (0 : Int32)).toNatClampNeg) - (1 : Int32))), .inl (.int (((2 : Int32) * a1) + (0 : Int32))), .inr (55, 0)]) (S' := S9) ok_X12_drop.1 (by decide +kernel) rfl rfl ?_
      obtain ⟨g13, h⟩ := ax_gd_e h
      refine ax_Tasi (n := 204) ok_X12_drop.1 (by decide +kernel) (by decide) rfl g13 ?_
      obtain ⟨S14, eS14, h⟩ := ax_let_e h
      rw [eS14]
      refine ax_Tgo [.aload_n 0, .getfield 61, .iconst 2, .iload_n 1, .imul, .iconst 0, .iadd] (pc' := 55) (L' := [some (.inr (12, 0)), some (.inl (.int a1))]) (st' := [.inl (.int (((2 : Int32) * a1) + (0 : Int32))), .inr (55, 0)]) (S' := S14) ok_X12_drop.1 (by decide +kernel) rfl rfl ?_
      obtain ⟨g15, h⟩ := ax_gd_e h
      refine ax_Tali (n := 204) ok_X12_drop.1 (by decide +kernel) (by decide) rfl g15 ?_
      cases h
      exact ax_Treti (by decide +kernel) rfl rfl
    · rw [if_pos c8] at h
      refine ax_Tgo [.iconst (-1)] (pc' := 27) (L' := [some (.inr (12, 0)), some (.inl (.int a1))]) (st' := [.inl (.int (Int32.ofInt (-1)))]) (S' := S1) ok_X12_drop.1 (by decide +kernel) rfl rfl ?_
      cases h
      exact ax_Treti (by decide +kernel) rfl rfl
def f_X12_end (a1 : Int32) (S : AS) : Option (Int32 × AS) := ax_let (ax_sfi S 12 0 0 (0 : Int32)) (fun (S1 : AS) => (if a1 < (0 : Int32) then some ((0 : Int32), S1) else (if a1 ≤ (ax_fi S1 12 0 6) then ax_let (ax_sfi S1 12 0 6 a1) (fun (S4 : AS) => some ((1 : Int32), S4)) else some ((0 : Int32), S1))))
set_option maxRecDepth 100000 in
theorem t_X12_end {l : Launch} {a1 : Int32} {S Z : AS} {r : Int32} (h : f_X12_end a1 S = some (r, Z)) : ax_M l 0 ma_X12_end [.inr (12, 0), .inl (.int a1)] S (some (.inl (.int r))) Z := by
  unfold f_X12_end at h
  show ax_T l 0 ma_X12_end (0, [some (.inr (12, 0)), some (.inl (.int a1))], [], S) (some (.inl (.int r))) Z
  refine ax_Tgo [.aload_n 0, .iconst 0, .putfield 93] (pc' := 5) (L' := [some (.inr (12, 0)), some (.inl (.int a1))]) (st' := []) (S' := (ax_sfi S 12 0 0 (0 : Int32))) ok_X12_end.1 (by decide +kernel) rfl rfl ?_
  obtain ⟨S1, eS1, h⟩ := ax_let_e h
  rw [eS1]
  refine ax_Tgo [.iload_n 1] (pc' := 6) (L' := [some (.inr (12, 0)), some (.inl (.int a1))]) (st' := [.inl (.int a1)]) (S' := S1) ok_X12_end.1 (by decide +kernel) rfl rfl ?_
  refine ax_Tif_lt (off := 11) (tgt := 17) (by decide +kernel) (by decide) (fun c2 => ?_) (fun c2 => ?_)
  · rw [if_pos c2] at h
    refine ax_Tgo [.iconst 0] (pc' := 18) (L' := [some (.inr (12, 0)), some (.inl (.int a1))]) (st' := [.inl (.int (0 : Int32))]) (S' := S1) ok_X12_end.1 (by decide +kernel) rfl rfl ?_
    cases h
    exact ax_Treti (by decide +kernel) rfl rfl
  · rw [if_neg c2] at h
    refine ax_Tgo [.iload_n 1, .aload_n 0, .getfield 106] (pc' := 14) (L' := [some (.inr (12, 0)), some (.inl (.int a1))]) (st' := [.inl (.int (ax_fi S1 12 0 6)), .inl (.int a1)]) (S' := S1) ok_X12_end.1 (by decide +kernel) rfl rfl ?_
    refine ax_Tic_le (off := 5) (tgt := 19) (by decide +kernel) (by decide) (fun c3 => ?_) (fun c3 => ?_)
    · rw [if_pos c3] at h
      refine ax_Tgo [.aload_n 0, .iload_n 1, .putfield 106] (pc' := 24) (L' := [some (.inr (12, 0)), some (.inl (.int a1))]) (st' := []) (S' := (ax_sfi S1 12 0 6 a1)) ok_X12_end.1 (by decide +kernel) rfl rfl ?_
      obtain ⟨S4, eS4, h⟩ := ax_let_e h
      rw [eS4]
      refine ax_Tgo [.iconst 1] (pc' := 25) (L' := [some (.inr (12, 0)), some (.inl (.int a1))]) (st' := [.inl (.int (1 : Int32))]) (S' := S4) ok_X12_end.1 (by decide +kernel) rfl rfl ?_
      cases h
      exact ax_Treti (by decide +kernel) rfl rfl
    · rw [if_neg c3] at h
      refine ax_Tgo [.iconst 0] (pc' := 18) (L' := [some (.inr (12, 0)), some (.inl (.int a1))]) (st' := [.inl (.int (0 : Int32))]) (S' := S1) ok_X12_end.1 (by decide +kernel) rfl rfl ?_
      cases h
      exact ax_Treti (by decide +kernel) rfl rfl
def f_J0_charAt_5068e_64x4 (a1 : Int32) (S : AS) : Option (Int32) := (f_J1_charAt_3b067_65 4 a1 S).bind (fun (r8 : Int32) => ax_gd (ax_nc r8) (some r8))
set_option maxRecDepth 100000 in
theorem t_J0_charAt_5068e_64x4 {l : Launch} {a1 : Int32} {S : AS} {r : Int32} (h : f_J0_charAt_5068e_64x4 a1 S = some r) : ax_M l 3 ma_J0_charAt_5068e [.inr (64, 4), .inl (.int a1)] S (some (.inl (.int r))) S := by
  unfold f_J0_charAt_5068e_64x4 at h
  show ax_T l 3 ma_J0_charAt_5068e (0, [some (.inr (64, 4)), some (.inl (.int a1))], [], S) (some (.inl (.int r))) S
  refine ax_Tgo [.aload_n 0] (pc' := 1) (L' := [some (.inr (64, 4)), some (.inl (.int a1))]) (st' := [.inr (64, 4)]) (S' := S) ok_J0_charAt_5068e.1 (by decide +kernel) rfl rfl ?_
  refine ax_TVi (d := 2) (ka := 64) (i := 4) [] [] lk_J0_492 (by decide +kernel) rfl (by decide) rfl (Nat.le_of_ble_eq_true rfl) (Nat.le_of_ble_eq_true rfl) ((t_J0_isLatin1_aae02_64x4 rfl).up (by decide)) ?_
  refine ax_Tif_eq (off := 12) (tgt := 16) (by decide +kernel) (by decide) (fun c4 => absurd c4 (by decide)) (fun _ => ?_)
  refine ax_Tgo [.aload_n 0, .getfield 9, .iload_n 1] (pc' := 12) (L' := [some (.inr (64, 4)), some (.inl (.int a1))]) (st' := [.inl (.int a1), .inr (65, 4)]) (S' := S) ok_J0_charAt_5068e.1 (by decide +kernel) rfl rfl ?_
  obtain ⟨r8, hq6, h⟩ := ax_bd_e h
  refine ax_TSi (d := 2) [.inr (65, 4), .inl (.int a1)] [] lk_J0_495 (by decide +kernel) rfl rfl (Nat.le_of_ble_eq_true rfl) (Nat.le_of_ble_eq_true rfl) ((t_J1_charAt_3b067_65 hq6).up (by decide)) ?_
  obtain ⟨g9, h⟩ := ax_gd_e h
  cases h
  exact ax_Treti (by decide +kernel) rfl (ax_nc_e g9)
def f_X12_spotOf_64x4_L2 (S : AS) : Nat → Int32 → Int32 → Option (Int32)
  | 0, _, _ => none
  | n + 1, x1, x2 => (if ((Int32.ofNat 5) >>> ((0 : Int32) &&& 31)) ≤ x2 then some (Int32.ofInt (-1)) else (f_J0_charAt_5068e_64x4 x2 S).bind (fun (r10 : Int32) => (if r10 = x1 then some x2 else ax_let (x2 + (1 : Int32)) (fun (v12 : Int32) => f_X12_spotOf_64x4_L2 S n x1 v12))))
def f_X12_spotOf_64x4 (a1 : Int32) (S : AS) : Option (Int32) := f_X12_spotOf_64x4_L2 S ax_F a1 (0 : Int32)
set_option maxRecDepth 100000 in
theorem t_X12_spotOf_64x4_L2 {l : Launch} {S : AS} : ∀ (n : Nat) (x1 : Int32) (x2 : Int32) r, f_X12_spotOf_64x4_L2 S n x1 x2  = some r → ax_T l 4 ma_X12_spotOf (2, [some (.inr (64, 4)), some (.inl (.int x1)), some (.inl (.int x2))], [], S) (some (.inl (.int r))) S := by
  intro n
  induction n with
  | zero =>
    intro x1 x2  r h
    cases h
  | succ n ih =>
    intro x1 x2  r h
    unfold f_X12_spotOf_64x4_L2 at h
    refine ax_Tgo [.iload_n 2, .aload_n 0] (pc' := 4) (L' := [some (.inr (64, 4)), some (.inl (.int x1)), some (.inl (.int x2))]) (st' := [.inr (64, 4), .inl (.int x2)]) (S' := S) ok_X12_spotOf.1 (by decide +kernel) rfl rfl ?_
    refine ax_TVi (d := 3) (ka := 64) (i := 4) [] [.inl (.int x2)] lk_X12_96 (by decide +kernel) rfl (by decide) rfl (Nat.le_of_ble_eq_true rfl) (Nat.le_of_ble_eq_true rfl) ((t_J0_length_8abf5_64x4 rfl).up (by decide)) ?_
    refine ax_Tic_ge (off := 20) (tgt := 27) (by decide +kernel) (by decide) (fun c6 => ?_) (fun c6 => ?_)
    · rw [if_pos c6] at h
      refine ax_Tgo [.iconst (-1)] (pc' := 28) (L' := [some (.inr (64, 4)), some (.inl (.int x1)), some (.inl (.int x2))]) (st' := [.inl (.int (Int32.ofInt (-1)))]) (S' := S) ok_X12_spotOf.1 (by decide +kernel) rfl rfl ?_
      cases h
      exact ax_Treti (by decide +kernel) rfl rfl
    · rw [if_neg c6] at h
      refine ax_Tgo [.aload_n 0, .iload_n 2] (pc' := 12) (L' := [some (.inr (64, 4)), some (.inl (.int x1)), some (.inl (.int x2))]) (st' := [.inl (.int x2), .inr (64, 4)]) (S' := S) ok_X12_spotOf.1 (by decide +kernel) rfl rfl ?_
      obtain ⟨r10, hq8, h⟩ := ax_bd_e h
      refine ax_TVi (d := 3) (ka := 64) (i := 4) [.inl (.int x2)] [] lk_X12_102 (by decide +kernel) rfl (by decide) rfl (Nat.le_of_ble_eq_true rfl) (Nat.le_of_ble_eq_true rfl) ((t_J0_charAt_5068e_64x4 hq8).up (by decide)) ?_
      refine ax_Tgo [.iload_n 1] (pc' := 16) (L' := [some (.inr (64, 4)), some (.inl (.int x1)), some (.inl (.int x2))]) (st' := [.inl (.int x1), .inl (.int r10)]) (S' := S) ok_X12_spotOf.1 (by decide +kernel) rfl rfl ?_
      refine ax_Tic_ne (off := 5) (tgt := 21) (by decide +kernel) (by decide) (fun c11 => ?_) (fun c11 => ?_)
      · rw [if_neg c11] at h
        refine ax_Tgo [.iinc 2 1] (pc' := 24) (L' := [some (.inr (64, 4)), some (.inl (.int x1)), some (.inl (.int (x2 + (1 : Int32))))]) (st' := []) (S' := S) ok_X12_spotOf.1 (by decide +kernel) rfl rfl ?_
        obtain ⟨v12, ev12, h⟩ := ax_let_e h
        rw [ev12]
        refine ax_Tgoto (off := (-22)) (tgt := 2) (by decide +kernel) (by decide) ?_
        exact ih x1 v12 _ h
      · rw [if_pos c11] at h
        refine ax_Tgo [.iload_n 2] (pc' := 20) (L' := [some (.inr (64, 4)), some (.inl (.int x1)), some (.inl (.int x2))]) (st' := [.inl (.int x2)]) (S' := S) ok_X12_spotOf.1 (by decide +kernel) rfl rfl ?_
        cases h
        exact ax_Treti (by decide +kernel) rfl rfl
set_option maxRecDepth 100000 in
theorem t_X12_spotOf_64x4 {l : Launch} {a1 : Int32} {S : AS} {r : Int32} (h : f_X12_spotOf_64x4 a1 S = some r) : ax_M l 4 ma_X12_spotOf [.inr (64, 4), .inl (.int a1)] S (some (.inl (.int r))) S := by
  unfold f_X12_spotOf_64x4 at h
  show ax_T l 4 ma_X12_spotOf (0, [some (.inr (64, 4)), some (.inl (.int a1)), none], [], S) (some (.inl (.int r))) S
  refine ax_Tgo [.iconst 0, .istore_n 2] (pc' := 2) (L' := [some (.inr (64, 4)), some (.inl (.int a1)), some (.inl (.int (0 : Int32)))]) (st' := []) (S' := S) ok_X12_spotOf.1 (by decide +kernel) rfl rfl ?_
  refine t_X12_spotOf_64x4_L2 _ a1 (0 : Int32) _ h
def f_X12_readStep (a1 : Int32) (S : AS) : Option (AS) := ax_bu (f_X12_look S) (fun (r4 : Int32) (S1 : AS) => (f_X12_spotOf_64x4 r4 S1).bind (fun (r8 : Int32) => (if r8 = (Int32.ofInt (-1)) then ax_bu (f_X12_fails S1) (fun (r36 : Int32) (S33 : AS) => some S33) else ax_let (ax_sfi S1 12 0 10 ((ax_fi S1 12 0 10) + (1 : Int32))) (fun (S10 : AS) => ax_gd (ax_in a1 160) (ax_let (ax_sai S10 53 0 a1.toNatClampNeg r8) (fun (S12 : AS) => ax_gd (ax_in (a1 + (1 : Int32)) 160) (ax_let (ax_sai S12 53 0 (a1 + (1 : Int32)).toNatClampNeg (Int32.ofInt (-1))) (fun (S14 : AS) => (if r8 = (2 : Int32) then some S14 else (if r8 = (4 : Int32) then some S14 else ax_bu (f_X12_look S14) (fun (r20 : Int32) (S17 : AS) => (f_X12_isDigit S17).bind (fun (r24 : Int32) => (if r24 = (0 : Int32) then ax_bu (f_X12_fails S17) (fun (r32 : Int32) (S29 : AS) => some S29) else ax_gd (ax_in (a1 + (1 : Int32)) 160) (ax_let (ax_sai S17 53 0 (a1 + (1 : Int32)).toNatClampNeg (r20 - (48 : Int32))) (fun (S27 : AS) => ax_let (ax_sfi S27 12 0 10 ((ax_fi S27 12 0 10) + (1 : Int32))) (fun (S28 : AS) => some S28))))))))))))))))
set_option maxRecDepth 100000 in
theorem t_X12_readStep {l : Launch} {a1 : Int32} {S Z : AS} (h : f_X12_readStep a1 S = some Z) : ax_M l 5 ma_X12_readStep [.inr (12, 0), .inl (.int a1)] S none Z := by
  unfold f_X12_readStep at h
  show ax_T l 5 ma_X12_readStep (0, [some (.inr (12, 0)), some (.inl (.int a1)), none, none], [], S) none Z
  refine ax_Tgo [.ldc_w 264, .aload_n 0] (pc' := 4) (L' := [some (.inr (12, 0)), some (.inl (.int a1)), none, none]) (st' := [.inr (12, 0), .inr (64, 4)]) (S' := S) ok_X12_readStep.1 (by decide +kernel) rfl rfl ?_
  obtain ⟨r4, S1, hq2, h⟩ := ax_bu_e h
  refine ax_TVi (d := 4) (ka := 12) (i := 0) [] [.inr (64, 4)] lk_X12_135 (by decide +kernel) rfl (by decide) rfl (Nat.le_of_ble_eq_true rfl) (Nat.le_of_ble_eq_true rfl) ((t_X12_look hq2).up (by decide)) ?_
  obtain ⟨r8, hq6, h⟩ := ax_bd_e h
  refine ax_TSi (d := 4) [.inr (64, 4), .inl (.int r4)] [] lk_X12_222 (by decide +kernel) rfl rfl (Nat.le_of_ble_eq_true rfl) (Nat.le_of_ble_eq_true rfl) ((t_X12_spotOf_64x4 hq6).up (by decide)) ?_
  refine ax_Tgo [.istore_n 2, .iload_n 2, .iconst (-1)] (pc' := 13) (L' := [some (.inr (12, 0)), some (.inl (.int a1)), some (.inl (.int r8)), none]) (st' := [.inl (.int (Int32.ofInt (-1))), .inl (.int r8)]) (S' := S1) ok_X12_readStep.1 (by decide +kernel) rfl rfl ?_
  refine ax_Tic_ne (off := 9) (tgt := 22) (by decide +kernel) (by decide) (fun c9 => ?_) (fun c9 => ?_)
  · rw [if_neg c9] at h
    refine ax_Tgo [.aload_n 0, .dup, .getfield 116, .iconst 1, .iadd, .putfield 116] (pc' := 32) (L' := [some (.inr (12, 0)), some (.inl (.int a1)), some (.inl (.int r8)), none]) (st' := []) (S' := (ax_sfi S1 12 0 10 ((ax_fi S1 12 0 10) + (1 : Int32)))) ok_X12_readStep.1 (by decide +kernel) rfl rfl ?_
    obtain ⟨S10, eS10, h⟩ := ax_let_e h
    rw [eS10]
    refine ax_Tgo [.aload_n 0, .getfield 55, .iload_n 1, .iload_n 2] (pc' := 38) (L' := [some (.inr (12, 0)), some (.inl (.int a1)), some (.inl (.int r8)), none]) (st' := [.inl (.int r8), .inl (.int a1), .inr (53, 0)]) (S' := S10) ok_X12_readStep.1 (by decide +kernel) rfl rfl ?_
    obtain ⟨g11, h⟩ := ax_gd_e h
    refine ax_Tasi (n := 160) ok_X12_readStep.1 (by decide +kernel) (by decide) rfl g11 ?_
    obtain ⟨S12, eS12, h⟩ := ax_let_e h
    rw [eS12]
    refine ax_Tgo [.aload_n 0, .getfield 55, .iload_n 1, .iconst 1, .iadd, .iconst (-1)] (pc' := 47) (L' := [some (.inr (12, 0)), some (.inl (.int a1)), some (.inl (.int r8)), none]) (st' := [.inl (.int (Int32.ofInt (-1))), .inl (.int (a1 + (1 : Int32))), .inr (53, 0)]) (S' := S12) ok_X12_readStep.1 (by decide +kernel) rfl rfl ?_
    obtain ⟨g13, h⟩ := ax_gd_e h
    refine ax_Tasi (n := 160) ok_X12_readStep.1 (by decide +kernel) (by decide) rfl g13 ?_
    obtain ⟨S14, eS14, h⟩ := ax_let_e h
    rw [eS14]
    refine ax_Tgo [.iload_n 2, .iconst 2] (pc' := 50) (L' := [some (.inr (12, 0)), some (.inl (.int a1)), some (.inl (.int r8)), none]) (st' := [.inl (.int (2 : Int32)), .inl (.int r8)]) (S' := S14) ok_X12_readStep.1 (by decide +kernel) rfl rfl ?_
    refine ax_Tic_eq (off := 8) (tgt := 58) (by decide +kernel) (by decide) (fun c15 => ?_) (fun c15 => ?_)
    · rw [if_pos c15] at h
      cases h
      exact ax_Tretv (by decide +kernel) rfl
    · rw [if_neg c15] at h
      refine ax_Tgo [.iload_n 2, .iconst 4] (pc' := 55) (L' := [some (.inr (12, 0)), some (.inl (.int a1)), some (.inl (.int r8)), none]) (st' := [.inl (.int (4 : Int32)), .inl (.int r8)]) (S' := S14) ok_X12_readStep.1 (by decide +kernel) rfl rfl ?_
      refine ax_Tic_ne (off := 4) (tgt := 59) (by decide +kernel) (by decide) (fun c16 => ?_) (fun c16 => ?_)
      · rw [if_neg c16] at h
        refine ax_Tgo [.aload_n 0] (pc' := 60) (L' := [some (.inr (12, 0)), some (.inl (.int a1)), some (.inl (.int r8)), none]) (st' := [.inr (12, 0)]) (S' := S14) ok_X12_readStep.1 (by decide +kernel) rfl rfl ?_
        obtain ⟨r20, S17, hq18, h⟩ := ax_bu_e h
        refine ax_TVi (d := 4) (ka := 12) (i := 0) [] [] lk_X12_135 (by decide +kernel) rfl (by decide) rfl (Nat.le_of_ble_eq_true rfl) (Nat.le_of_ble_eq_true rfl) ((t_X12_look hq18).up (by decide)) ?_
        refine ax_Tgo [.istore_n 3, .aload_n 0] (pc' := 65) (L' := [some (.inr (12, 0)), some (.inl (.int a1)), some (.inl (.int r8)), some (.inl (.int r20))]) (st' := [.inr (12, 0)]) (S' := S17) ok_X12_readStep.1 (by decide +kernel) rfl rfl ?_
        obtain ⟨r24, hq22, h⟩ := ax_bd_e h
        refine ax_TVi (d := 4) (ka := 12) (i := 0) [] [] lk_X12_165 (by decide +kernel) rfl (by decide) rfl (Nat.le_of_ble_eq_true rfl) (Nat.le_of_ble_eq_true rfl) ((t_X12_isDigit hq22).up (by decide)) ?_
        refine ax_Tif_ne (off := 9) (tgt := 77) (by decide +kernel) (by decide) (fun c25 => ?_) (fun c25 => ?_)
        · rw [if_neg c25] at h
          refine ax_Tgo [.aload_n 0, .getfield 55, .iload_n 1, .iconst 1, .iadd, .iload_n 3, .bipush 48, .isub] (pc' := 88) (L' := [some (.inr (12, 0)), some (.inl (.int a1)), some (.inl (.int r8)), some (.inl (.int r20))]) (st' := [.inl (.int (r20 - (48 : Int32))), .inl (.int (a1 + (1 : Int32))), .inr (53, 0)]) (S' := S17) ok_X12_readStep.1 (by decide +kernel) rfl rfl ?_
          obtain ⟨g26, h⟩ := ax_gd_e h
          refine ax_Tasi (n := 160) ok_X12_readStep.1 (by decide +kernel) (by decide) rfl g26 ?_
          obtain ⟨S27, eS27, h⟩ := ax_let_e h
          rw [eS27]
          refine ax_Tgo [.aload_n 0, .dup, .getfield 116, .iconst 1, .iadd, .putfield 116] (pc' := 99) (L' := [some (.inr (12, 0)), some (.inl (.int a1)), some (.inl (.int r8)), some (.inl (.int r20))]) (st' := []) (S' := (ax_sfi S27 12 0 10 ((ax_fi S27 12 0 10) + (1 : Int32)))) ok_X12_readStep.1 (by decide +kernel) rfl rfl ?_
          obtain ⟨S28, eS28, h⟩ := ax_let_e h
          rw [eS28]
          cases h
          exact ax_Tretv (by decide +kernel) rfl
        · rw [if_pos c25] at h
          refine ax_Tgo [.aload_n 0] (pc' := 72) (L' := [some (.inr (12, 0)), some (.inl (.int a1)), some (.inl (.int r8)), some (.inl (.int r20))]) (st' := [.inr (12, 0)]) (S' := S17) ok_X12_readStep.1 (by decide +kernel) rfl rfl ?_
          obtain ⟨r32, S29, hq30, h⟩ := ax_bu_e h
          refine ax_TVi (d := 4) (ka := 12) (i := 0) [] [] lk_X12_131 (by decide +kernel) rfl (by decide) rfl (Nat.le_of_ble_eq_true rfl) (Nat.le_of_ble_eq_true rfl) ((t_X12_fails hq30).up (by decide)) ?_
          refine ax_Tgo [.pop] (pc' := 76) (L' := [some (.inr (12, 0)), some (.inl (.int a1)), some (.inl (.int r8)), some (.inl (.int r20))]) (st' := []) (S' := S29) ok_X12_readStep.1 (by decide +kernel) rfl rfl ?_
          cases h
          exact ax_Tretv (by decide +kernel) rfl
      · rw [if_pos c16] at h
        cases h
        exact ax_Tretv (by decide +kernel) rfl
  · rw [if_pos c9] at h
    refine ax_Tgo [.aload_n 0] (pc' := 17) (L' := [some (.inr (12, 0)), some (.inl (.int a1)), some (.inl (.int r8)), none]) (st' := [.inr (12, 0)]) (S' := S1) ok_X12_readStep.1 (by decide +kernel) rfl rfl ?_
    obtain ⟨r36, S33, hq34, h⟩ := ax_bu_e h
    refine ax_TVi (d := 4) (ka := 12) (i := 0) [] [] lk_X12_131 (by decide +kernel) rfl (by decide) rfl (Nat.le_of_ble_eq_true rfl) (Nat.le_of_ble_eq_true rfl) ((t_X12_fails hq34).up (by decide)) ?_
    refine ax_Tgo [.pop] (pc' := 21) (L' := [some (.inr (12, 0)), some (.inl (.int a1)), some (.inl (.int r8)), none]) (st' := []) (S' := S33) ok_X12_readStep.1 (by decide +kernel) rfl rfl ?_
    cases h
    exact ax_Tretv (by decide +kernel) rfl
def f_X12_readPlan_L17 (K91 : Int32 → AS → Option (AS)) : Nat → Int32 → Int32 → AS → Option (AS)
  | 0, _, _, _ => none
  | n + 1, x4, x5, S7 => (if x5 = (0 : Int32) then K91 x4 S7 else (f_X12_readStep ((2 : Int32) * ((64 : Int32) + x4)) S7).bind (fun (S9 : AS) => (if (ax_fi S9 12 0 11) = (Int32.ofInt (-1)) then ax_let (x4 + (1 : Int32)) (fun (v13 : Int32) => ax_bu (f_X12_look S9) (fun (r17 : Int32) (S14 : AS) => ax_let (fun (x18 : Int32) (S19 : AS) => (if x18 = (0 : Int32) then (if x18 = (0 : Int32) then f_X12_readPlan_L17 K91 n v13 x18 S19 else ax_let (ax_sfi S19 12 0 10 ((ax_fi S19 12 0 10) + (1 : Int32))) (fun (S23 : AS) => f_X12_readPlan_L17 K91 n v13 x18 S23)) else (if v13 = (16 : Int32) then ax_bu (f_X12_fails S19) (fun (r30 : Int32) (S27 : AS) => some S27) else (if x18 = (0 : Int32) then f_X12_readPlan_L17 K91 n v13 x18 S19 else ax_let (ax_sfi S19 12 0 10 ((ax_fi S19 12 0 10) + (1 : Int32))) (fun (S26 : AS) => f_X12_readPlan_L17 K91 n v13 x18 S26))))) (fun J20 => (if r17 = (59 : Int32) then J20 (1 : Int32) S14 else J20 (0 : Int32) S14)))) else some S9)))
def f_X12_readPlan (S : AS) : Option (AS) := (f_X12_starts_44 0 (0 : Int32) (ax_fi S 12 0 6) S).bind (fun (S1 : AS) => f_X12_readPlan_L17 (fun (x6 : Int32) (S32 : AS) => ax_gd (ax_in (4 : Int32) 5) (ax_let (ax_sai S32 54 0 (4 : Int32).toNatClampNeg x6) (fun (S34 : AS) => ax_bu (f_X12_look S34) (fun (r38 : Int32) (S35 : AS) => (if r38 = (Int32.ofInt (-1)) then some S35 else ax_bu (f_X12_fails S35) (fun (r43 : Int32) (S40 : AS) => some S40)))))) ax_F (0 : Int32) (1 : Int32) S1)
set_option maxRecDepth 100000 in
theorem t_X12_readPlan_L17 {l : Launch} {K91 : Int32 → AS → Option (AS)} (hK91 : ∀ (x6 : Int32) (S : AS) Z, K91 x6 S = some Z → ax_T l 6 ma_X12_readPlan (91, [some (.inr (12, 0)), some (.inl (.int x6)), none], [], S) none Z) : ∀ (n : Nat) (x4 : Int32) (x5 : Int32) (S7 : AS) Z, f_X12_readPlan_L17 K91 n x4 x5 S7 = some Z → ax_T l 6 ma_X12_readPlan (17, [some (.inr (12, 0)), some (.inl (.int x4)), some (.inl (.int x5))], [], S7) none Z := by
  intro n
  induction n with
  | zero =>
    intro x4 x5 S7 Z h
    cases h
  | succ n ih =>
    intro x4 x5 S7 Z h
    unfold f_X12_readPlan_L17 at h
    refine ax_Tgo [.iload_n 2] (pc' := 18) (L' := [some (.inr (12, 0)), some (.inl (.int x4)), some (.inl (.int x5))]) (st' := [.inl (.int x5)]) (S' := S7) ok_X12_readPlan.1 (by decide +kernel) rfl rfl ?_
    refine ax_Tif_eq (off := 73) (tgt := 91) (by decide +kernel) (by decide) (fun c8 => ?_) (fun c8 => ?_)
    · rw [if_pos c8] at h
      refine ax_Tdrop [true, true, false] (L' := [some (.inr (12, 0)), some (.inl (.int x4)), none]) rfl ?_
      exact hK91 x4 S7 _ h
    · rw [if_neg c8] at h
      refine ax_Tgo [.aload_n 0, .iconst 2, .bipush 64, .iload_n 1, .iadd, .imul] (pc' := 28) (L' := [some (.inr (12, 0)), some (.inl (.int x4)), some (.inl (.int x5))]) (st' := [.inl (.int ((2 : Int32) * ((64 : Int32) + x4))), .inr (12, 0)]) (S' := S7) ok_X12_readPlan.1 (by decide +kernel) rfl rfl ?_
      obtain ⟨S9, hq10, h⟩ := ax_bd_e h
      refine ax_TVv (d := 5) (ka := 12) (i := 0) [.inl (.int ((2 : Int32) * ((64 : Int32) + x4)))] [] lk_X12_266 (by decide +kernel) rfl (by decide) rfl (Nat.le_of_ble_eq_true rfl) (Nat.le_of_ble_eq_true rfl) ((t_X12_readStep hq10).up (by decide)) ?_
      refine ax_Tgo [.aload_n 0, .getfield 125, .iconst (-1)] (pc' := 36) (L' := [some (.inr (12, 0)), some (.inl (.int x4)), some (.inl (.int x5))]) (st' := [.inl (.int (Int32.ofInt (-1))), .inl (.int (ax_fi S9 12 0 11))]) (S' := S9) ok_X12_readPlan.1 (by decide +kernel) rfl rfl ?_
      refine ax_Tic_eq (off := 4) (tgt := 40) (by decide +kernel) (by decide) (fun c12 => ?_) (fun c12 => ?_)
      · rw [if_pos c12] at h
        refine ax_Tgo [.iinc 1 1] (pc' := 43) (L' := [some (.inr (12, 0)), some (.inl (.int (x4 + (1 : Int32)))), some (.inl (.int x5))]) (st' := []) (S' := S9) ok_X12_readPlan.1 (by decide +kernel) rfl rfl ?_
        obtain ⟨v13, ev13, h⟩ := ax_let_e h
        rw [ev13]
        refine ax_Tgo [.aload_n 0] (pc' := 44) (L' := [some (.inr (12, 0)), some (.inl (.int v13)), some (.inl (.int x5))]) (st' := [.inr (12, 0)]) (S' := S9) ok_X12_readPlan.1 (by decide +kernel) rfl rfl ?_
        obtain ⟨r17, S14, hq15, h⟩ := ax_bu_e h
        refine ax_TVi (d := 5) (ka := 12) (i := 0) [] [] lk_X12_135 (by decide +kernel) rfl (by decide) rfl (Nat.le_of_ble_eq_true rfl) (Nat.le_of_ble_eq_true rfl) ((t_X12_look hq15).up (by decide)) ?_
        refine ax_Tgo [.bipush 59] (pc' := 49) (L' := [some (.inr (12, 0)), some (.inl (.int v13)), some (.inl (.int x5))]) (st' := [.inl (.int (59 : Int32)), .inl (.int r17)]) (S' := S14) ok_X12_readPlan.1 (by decide +kernel) rfl rfl ?_
        obtain ⟨J20, eJ20, h⟩ := ax_let_e h
        have hJ20 : ∀ (x18 : Int32) (S19 : AS) Z, J20 x18 S19 = some Z → ax_T l 6 ma_X12_readPlan (57, [some (.inr (12, 0)), some (.inl (.int v13)), none], [.inl (.int x18)], S19) none Z := by
          intro x18 S19 Z h
          rw [← eJ20] at h
          try dsimp only at h
          refine ax_Tgo [.istore_n 2, .iload_n 2] (pc' := 59) (L' := [some (.inr (12, 0)), some (.inl (.int v13)), some (.inl (.int x18))]) (st' := [.inl (.int x18)]) (S' := S19) ok_X12_readPlan.1 (by decide +kernel) rfl rfl ?_
          refine ax_Tif_eq (off := 15) (tgt := 74) (by decide +kernel) (by decide) (fun c21 => ?_) (fun c21 => ?_)
          · rw [if_pos c21] at h
            refine ax_Tgo [.iload_n 2] (pc' := 75) (L' := [some (.inr (12, 0)), some (.inl (.int v13)), some (.inl (.int x18))]) (st' := [.inl (.int x18)]) (S' := S19) ok_X12_readPlan.1 (by decide +kernel) rfl rfl ?_
            refine ax_Tif_eq (off := (-58)) (tgt := 17) (by decide +kernel) (by decide) (fun c22 => ?_) (fun c22 => ?_)
            · rw [if_pos c22] at h
              exact ih v13 x18 S19 _ h
            · rw [if_neg c22] at h
              refine ax_Tgo [.aload_n 0, .dup, .getfield 116, .iconst 1, .iadd, .putfield 116] (pc' := 88) (L' := [some (.inr (12, 0)), some (.inl (.int v13)), some (.inl (.int x18))]) (st' := []) (S' := (ax_sfi S19 12 0 10 ((ax_fi S19 12 0 10) + (1 : Int32)))) ok_X12_readPlan.1 (by decide +kernel) rfl rfl ?_
              obtain ⟨S23, eS23, h⟩ := ax_let_e h
              rw [eS23]
              refine ax_Tgoto (off := (-71)) (tgt := 17) (by decide +kernel) (by decide) ?_
              exact ih v13 x18 S23 _ h
          · rw [if_neg c21] at h
            refine ax_Tgo [.iload_n 1, .bipush 16] (pc' := 65) (L' := [some (.inr (12, 0)), some (.inl (.int v13)), some (.inl (.int x18))]) (st' := [.inl (.int (16 : Int32)), .inl (.int v13)]) (S' := S19) ok_X12_readPlan.1 (by decide +kernel) rfl rfl ?_
            refine ax_Tic_ne (off := 9) (tgt := 74) (by decide +kernel) (by decide) (fun c24 => ?_) (fun c24 => ?_)
            · rw [if_neg c24] at h
              refine ax_Tgo [.iload_n 2] (pc' := 75) (L' := [some (.inr (12, 0)), some (.inl (.int v13)), some (.inl (.int x18))]) (st' := [.inl (.int x18)]) (S' := S19) ok_X12_readPlan.1 (by decide +kernel) rfl rfl ?_
              refine ax_Tif_eq (off := (-58)) (tgt := 17) (by decide +kernel) (by decide) (fun c25 => ?_) (fun c25 => ?_)
              · rw [if_pos c25] at h
                exact ih v13 x18 S19 _ h
              · rw [if_neg c25] at h
                refine ax_Tgo [.aload_n 0, .dup, .getfield 116, .iconst 1, .iadd, .putfield 116] (pc' := 88) (L' := [some (.inr (12, 0)), some (.inl (.int v13)), some (.inl (.int x18))]) (st' := []) (S' := (ax_sfi S19 12 0 10 ((ax_fi S19 12 0 10) + (1 : Int32)))) ok_X12_readPlan.1 (by decide +kernel) rfl rfl ?_
                obtain ⟨S26, eS26, h⟩ := ax_let_e h
                rw [eS26]
                refine ax_Tgoto (off := (-71)) (tgt := 17) (by decide +kernel) (by decide) ?_
                exact ih v13 x18 S26 _ h
            · rw [if_pos c24] at h
              refine ax_Tgo [.aload_n 0] (pc' := 69) (L' := [some (.inr (12, 0)), some (.inl (.int v13)), some (.inl (.int x18))]) (st' := [.inr (12, 0)]) (S' := S19) ok_X12_readPlan.1 (by decide +kernel) rfl rfl ?_
              obtain ⟨r30, S27, hq28, h⟩ := ax_bu_e h
              refine ax_TVi (d := 5) (ka := 12) (i := 0) [] [] lk_X12_131 (by decide +kernel) rfl (by decide) rfl (Nat.le_of_ble_eq_true rfl) (Nat.le_of_ble_eq_true rfl) ((t_X12_fails hq28).up (by decide)) ?_
              refine ax_Tgo [.pop] (pc' := 73) (L' := [some (.inr (12, 0)), some (.inl (.int v13)), some (.inl (.int x18))]) (st' := []) (S' := S27) ok_X12_readPlan.1 (by decide +kernel) rfl rfl ?_
              cases h
              exact ax_Tretv (by decide +kernel) rfl
        refine ax_Tic_ne (off := 7) (tgt := 56) (by decide +kernel) (by decide) (fun c31 => ?_) (fun c31 => ?_)
        · rw [if_neg c31] at h
          refine ax_Tgo [.iconst 0] (pc' := 57) (L' := [some (.inr (12, 0)), some (.inl (.int v13)), some (.inl (.int x5))]) (st' := [.inl (.int (0 : Int32))]) (S' := S14) ok_X12_readPlan.1 (by decide +kernel) rfl rfl ?_
          refine ax_Tdrop [true, true, false] (L' := [some (.inr (12, 0)), some (.inl (.int v13)), none]) rfl ?_
          exact hJ20 (0 : Int32) S14 _ h
        · rw [if_pos c31] at h
          refine ax_Tgo [.iconst 1] (pc' := 53) (L' := [some (.inr (12, 0)), some (.inl (.int v13)), some (.inl (.int x5))]) (st' := [.inl (.int (1 : Int32))]) (S' := S14) ok_X12_readPlan.1 (by decide +kernel) rfl rfl ?_
          refine ax_Tgoto (off := 4) (tgt := 57) (by decide +kernel) (by decide) ?_
          refine ax_Tdrop [true, true, false] (L' := [some (.inr (12, 0)), some (.inl (.int v13)), none]) rfl ?_
          exact hJ20 (1 : Int32) S14 _ h
      · rw [if_neg c12] at h
        cases h
        exact ax_Tretv (by decide +kernel) rfl
set_option maxRecDepth 100000 in
theorem t_X12_readPlan {l : Launch} {S Z : AS} (h : f_X12_readPlan S = some Z) : ax_M l 6 ma_X12_readPlan [.inr (12, 0)] S none Z := by
  unfold f_X12_readPlan at h
  show ax_T l 6 ma_X12_readPlan (0, [some (.inr (12, 0)), none, none], [], S) none Z
  refine ax_Tgo [.aload_n 0, .aload_n 0, .getfield 9, .iconst 0, .aload_n 0, .getfield 106] (pc' := 10) (L' := [some (.inr (12, 0)), none, none]) (st' := [.inl (.int (ax_fi S 12 0 6)), .inl (.int (0 : Int32)), .inr (44, 0), .inr (12, 0)]) (S' := S) ok_X12_readPlan.1 (by decide +kernel) rfl rfl ?_
  obtain ⟨S1, hq2, h⟩ := ax_bd_e h
  refine ax_TVv (d := 5) (ka := 12) (i := 0) [.inr (44, 0), .inl (.int (0 : Int32)), .inl (.int (ax_fi S 12 0 6))] [] lk_X12_204 (by decide +kernel) rfl (by decide) rfl (Nat.le_of_ble_eq_true rfl) (Nat.le_of_ble_eq_true rfl) ((t_X12_starts_44 hq2).up (by decide)) ?_
  refine ax_Tgo [.iconst 0, .istore_n 1, .iconst 1, .istore_n 2] (pc' := 17) (L' := [some (.inr (12, 0)), some (.inl (.int (0 : Int32))), some (.inl (.int (1 : Int32)))]) (st' := []) (S' := S1) ok_X12_readPlan.1 (by decide +kernel) rfl rfl ?_
  refine t_X12_readPlan_L17 ?_ _ (0 : Int32) (1 : Int32) S1 _ h
  · intro x6 S32 Z h
    refine ax_Tgo [.aload_n 0, .getfield 58, .iconst 4, .iload_n 1] (pc' := 97) (L' := [some (.inr (12, 0)), some (.inl (.int x6)), none]) (st' := [.inl (.int x6), .inl (.int (4 : Int32)), .inr (54, 0)]) (S' := S32) ok_X12_readPlan.1 (by decide +kernel) rfl rfl ?_
    obtain ⟨g33, h⟩ := ax_gd_e h
    refine ax_Tasi (n := 5) ok_X12_readPlan.1 (by decide +kernel) (by decide) rfl g33 ?_
    obtain ⟨S34, eS34, h⟩ := ax_let_e h
    rw [eS34]
    refine ax_Tgo [.aload_n 0] (pc' := 99) (L' := [some (.inr (12, 0)), some (.inl (.int x6)), none]) (st' := [.inr (12, 0)]) (S' := S34) ok_X12_readPlan.1 (by decide +kernel) rfl rfl ?_
    obtain ⟨r38, S35, hq36, h⟩ := ax_bu_e h
    refine ax_TVi (d := 5) (ka := 12) (i := 0) [] [] lk_X12_135 (by decide +kernel) rfl (by decide) rfl (Nat.le_of_ble_eq_true rfl) (Nat.le_of_ble_eq_true rfl) ((t_X12_look hq36).up (by decide)) ?_
    refine ax_Tgo [.iconst (-1)] (pc' := 103) (L' := [some (.inr (12, 0)), some (.inl (.int x6)), none]) (st' := [.inl (.int (Int32.ofInt (-1))), .inl (.int r38)]) (S' := S35) ok_X12_readPlan.1 (by decide +kernel) rfl rfl ?_
    refine ax_Tic_eq (off := 8) (tgt := 111) (by decide +kernel) (by decide) (fun c39 => ?_) (fun c39 => ?_)
    · rw [if_pos c39] at h
      cases h
      exact ax_Tretv (by decide +kernel) rfl
    · rw [if_neg c39] at h
      refine ax_Tgo [.aload_n 0] (pc' := 107) (L' := [some (.inr (12, 0)), some (.inl (.int x6)), none]) (st' := [.inr (12, 0)]) (S' := S35) ok_X12_readPlan.1 (by decide +kernel) rfl rfl ?_
      obtain ⟨r43, S40, hq41, h⟩ := ax_bu_e h
      refine ax_TVi (d := 5) (ka := 12) (i := 0) [] [] lk_X12_131 (by decide +kernel) rfl (by decide) rfl (Nat.le_of_ble_eq_true rfl) (Nat.le_of_ble_eq_true rfl) ((t_X12_fails hq41).up (by decide)) ?_
      refine ax_Tgo [.pop] (pc' := 111) (L' := [some (.inr (12, 0)), some (.inl (.int x6)), none]) (st' := []) (S' := S40) ok_X12_readPlan.1 (by decide +kernel) rfl rfl ?_
      cases h
      exact ax_Tretv (by decide +kernel) rfl
def f_X12_usual (a0 : Int32) (a1 : Int32) (S : AS) : Option (Int32) := (if a0 = (115 : Int32) then (if a1 = (0 : Int32) then some (60 : Int32) else (if a1 = (1 : Int32) then some (2 : Int32) else some (20 : Int32))) else (if a0 = (108 : Int32) then (if a1 = (0 : Int32) then some (2 : Int32) else some (3 : Int32)) else (if a1 = (0 : Int32) then some (3 : Int32) else if a1 = (1 : Int32) then some (1 : Int32) else if a1 = (2 : Int32) then some (0 : Int32) else if a1 = (3 : Int32) then some (5 : Int32) else if a1 = (4 : Int32) then some (3 : Int32) else some (0 : Int32))))
set_option maxRecDepth 100000 in
theorem t_X12_usual {l : Launch} {a0 : Int32} {a1 : Int32} {S : AS} {r : Int32} (h : f_X12_usual a0 a1 S = some r) : ax_M l 0 ma_X12_usual [.inl (.int a0), .inl (.int a1)] S (some (.inl (.int r))) S := by
  unfold f_X12_usual at h
  show ax_T l 0 ma_X12_usual (0, [some (.inl (.int a0)), some (.inl (.int a1))], [], S) (some (.inl (.int r))) S
  refine ax_Tgo [.iload_n 0, .bipush 115] (pc' := 3) (L' := [some (.inl (.int a0)), some (.inl (.int a1))]) (st' := [.inl (.int (115 : Int32)), .inl (.int a0)]) (S' := S) ok_X12_usual.1 (by decide +kernel) rfl rfl ?_
  refine ax_Tic_ne (off := 24) (tgt := 27) (by decide +kernel) (by decide) (fun c1 => ?_) (fun c1 => ?_)
  · rw [if_neg c1] at h
    refine ax_Tgo [.iload_n 0, .bipush 108] (pc' := 30) (L' := [some (.inl (.int a0)), some (.inl (.int a1))]) (st' := [.inl (.int (108 : Int32)), .inl (.int a0)]) (S' := S) ok_X12_usual.1 (by decide +kernel) rfl rfl ?_
    refine ax_Tic_ne (off := 13) (tgt := 43) (by decide +kernel) (by decide) (fun c2 => ?_) (fun c2 => ?_)
    · rw [if_neg c2] at h
      refine ax_Tgo [.iload_n 1] (pc' := 44) (L' := [some (.inl (.int a0)), some (.inl (.int a1))]) (st' := [.inl (.int a1)]) (S' := S) ok_X12_usual.1 (by decide +kernel) rfl rfl ?_
      by_cases c3 : a1 = (0 : Int32)
      · rw [if_pos c3] at h
        refine ax_TtIn (dflt := 44) (lo := 0) (hi := 4) (offs := #[36, 38, 44, 40, 42]) (len := 36) (off := 36) (tgt := 80) (by decide +kernel) (by rw [c3]; decide) (by rw [c3]; decide) (by rw [c3]; rfl) (by decide) ?_
        refine ax_Tgo [.iconst 3] (pc' := 81) (L' := [some (.inl (.int a0)), some (.inl (.int a1))]) (st' := [.inl (.int (3 : Int32))]) (S' := S) ok_X12_usual.1 (by decide +kernel) rfl rfl ?_
        cases h
        exact ax_Treti (by decide +kernel) rfl rfl
      · rw [if_neg c3] at h
        by_cases c4 : a1 = (1 : Int32)
        · rw [if_pos c4] at h
          refine ax_TtIn (dflt := 44) (lo := 0) (hi := 4) (offs := #[36, 38, 44, 40, 42]) (len := 36) (off := 38) (tgt := 82) (by decide +kernel) (by rw [c4]; decide) (by rw [c4]; decide) (by rw [c4]; rfl) (by decide) ?_
          refine ax_Tgo [.iconst 1] (pc' := 83) (L' := [some (.inl (.int a0)), some (.inl (.int a1))]) (st' := [.inl (.int (1 : Int32))]) (S' := S) ok_X12_usual.1 (by decide +kernel) rfl rfl ?_
          cases h
          exact ax_Treti (by decide +kernel) rfl rfl
        · rw [if_neg c4] at h
          by_cases c5 : a1 = (2 : Int32)
          · rw [if_pos c5] at h
            refine ax_TtIn (dflt := 44) (lo := 0) (hi := 4) (offs := #[36, 38, 44, 40, 42]) (len := 36) (off := 44) (tgt := 88) (by decide +kernel) (by rw [c5]; decide) (by rw [c5]; decide) (by rw [c5]; rfl) (by decide) ?_
            refine ax_Tgo [.iconst 0] (pc' := 89) (L' := [some (.inl (.int a0)), some (.inl (.int a1))]) (st' := [.inl (.int (0 : Int32))]) (S' := S) ok_X12_usual.1 (by decide +kernel) rfl rfl ?_
            cases h
            exact ax_Treti (by decide +kernel) rfl rfl
          · rw [if_neg c5] at h
            by_cases c6 : a1 = (3 : Int32)
            · rw [if_pos c6] at h
              refine ax_TtIn (dflt := 44) (lo := 0) (hi := 4) (offs := #[36, 38, 44, 40, 42]) (len := 36) (off := 40) (tgt := 84) (by decide +kernel) (by rw [c6]; decide) (by rw [c6]; decide) (by rw [c6]; rfl) (by decide) ?_
              refine ax_Tgo [.iconst 5] (pc' := 85) (L' := [some (.inl (.int a0)), some (.inl (.int a1))]) (st' := [.inl (.int (5 : Int32))]) (S' := S) ok_X12_usual.1 (by decide +kernel) rfl rfl ?_
              cases h
              exact ax_Treti (by decide +kernel) rfl rfl
            · rw [if_neg c6] at h
              by_cases c7 : a1 = (4 : Int32)
              · rw [if_pos c7] at h
                refine ax_TtIn (dflt := 44) (lo := 0) (hi := 4) (offs := #[36, 38, 44, 40, 42]) (len := 36) (off := 42) (tgt := 86) (by decide +kernel) (by rw [c7]; decide) (by rw [c7]; decide) (by rw [c7]; rfl) (by decide) ?_
                refine ax_Tgo [.iconst 3] (pc' := 87) (L' := [some (.inl (.int a0)), some (.inl (.int a1))]) (st' := [.inl (.int (3 : Int32))]) (S' := S) ok_X12_usual.1 (by decide +kernel) rfl rfl ?_
                cases h
                exact ax_Treti (by decide +kernel) rfl rfl
              · rw [if_neg c7] at h
                refine ax_TtOut (dflt := 44) (lo := 0) (hi := 4) (offs := #[36, 38, 44, 40, 42]) (len := 36) (tgt := 88) (by decide +kernel) (by have zc3 := lv_neT (a := 0) c3 rfl; have zc4 := lv_neT (a := 1) c4 rfl; have zc5 := lv_neT (a := 2) c5 rfl; have zc6 := lv_neT (a := 3) c6 rfl; have zc7 := lv_neT (a := 4) c7 rfl; omega) (by decide) ?_
                refine ax_Tgo [.iconst 0] (pc' := 89) (L' := [some (.inl (.int a0)), some (.inl (.int a1))]) (st' := [.inl (.int (0 : Int32))]) (S' := S) ok_X12_usual.1 (by decide +kernel) rfl rfl ?_
                cases h
                exact ax_Treti (by decide +kernel) rfl rfl
    · rw [if_pos c2] at h
      refine ax_Tgo [.iload_n 1] (pc' := 34) (L' := [some (.inl (.int a0)), some (.inl (.int a1))]) (st' := [.inl (.int a1)]) (S' := S) ok_X12_usual.1 (by decide +kernel) rfl rfl ?_
      refine ax_Tif_ne (off := 7) (tgt := 41) (by decide +kernel) (by decide) (fun c8 => ?_) (fun c8 => ?_)
      · rw [if_neg c8] at h
        refine ax_Tgo [.iconst 3] (pc' := 42) (L' := [some (.inl (.int a0)), some (.inl (.int a1))]) (st' := [.inl (.int (3 : Int32))]) (S' := S) ok_X12_usual.1 (by decide +kernel) rfl rfl ?_
        cases h
        exact ax_Treti (by decide +kernel) rfl rfl
      · rw [if_pos c8] at h
        refine ax_Tgo [.iconst 2] (pc' := 38) (L' := [some (.inl (.int a0)), some (.inl (.int a1))]) (st' := [.inl (.int (2 : Int32))]) (S' := S) ok_X12_usual.1 (by decide +kernel) rfl rfl ?_
        refine ax_Tgoto (off := 4) (tgt := 42) (by decide +kernel) (by decide) ?_
        cases h
        exact ax_Treti (by decide +kernel) rfl rfl
  · rw [if_pos c1] at h
    refine ax_Tgo [.iload_n 1] (pc' := 7) (L' := [some (.inl (.int a0)), some (.inl (.int a1))]) (st' := [.inl (.int a1)]) (S' := S) ok_X12_usual.1 (by decide +kernel) rfl rfl ?_
    refine ax_Tif_ne (off := 8) (tgt := 15) (by decide +kernel) (by decide) (fun c9 => ?_) (fun c9 => ?_)
    · rw [if_neg c9] at h
      refine ax_Tgo [.iload_n 1, .iconst 1] (pc' := 17) (L' := [some (.inl (.int a0)), some (.inl (.int a1))]) (st' := [.inl (.int (1 : Int32)), .inl (.int a1)]) (S' := S) ok_X12_usual.1 (by decide +kernel) rfl rfl ?_
      refine ax_Tic_ne (off := 7) (tgt := 24) (by decide +kernel) (by decide) (fun c10 => ?_) (fun c10 => ?_)
      · rw [if_neg c10] at h
        refine ax_Tgo [.bipush 20] (pc' := 26) (L' := [some (.inl (.int a0)), some (.inl (.int a1))]) (st' := [.inl (.int (20 : Int32))]) (S' := S) ok_X12_usual.1 (by decide +kernel) rfl rfl ?_
        cases h
        exact ax_Treti (by decide +kernel) rfl rfl
      · rw [if_pos c10] at h
        refine ax_Tgo [.iconst 2] (pc' := 21) (L' := [some (.inl (.int a0)), some (.inl (.int a1))]) (st' := [.inl (.int (2 : Int32))]) (S' := S) ok_X12_usual.1 (by decide +kernel) rfl rfl ?_
        refine ax_Tgoto (off := 5) (tgt := 26) (by decide +kernel) (by decide) ?_
        cases h
        exact ax_Treti (by decide +kernel) rfl rfl
    · rw [if_pos c9] at h
      refine ax_Tgo [.bipush 60] (pc' := 12) (L' := [some (.inl (.int a0)), some (.inl (.int a1))]) (st' := [.inl (.int (60 : Int32))]) (S' := S) ok_X12_usual.1 (by decide +kernel) rfl rfl ?_
      refine ax_Tgoto (off := 14) (tgt := 26) (by decide +kernel) (by decide) ?_
      cases h
      exact ax_Treti (by decide +kernel) rfl rfl
def f_J0_charAt_5068e_64x2 (a1 : Int32) (S : AS) : Option (Int32) := (f_J1_charAt_3b067_65 2 a1 S).bind (fun (r8 : Int32) => ax_gd (ax_nc r8) (some r8))
set_option maxRecDepth 100000 in
theorem t_J0_charAt_5068e_64x2 {l : Launch} {a1 : Int32} {S : AS} {r : Int32} (h : f_J0_charAt_5068e_64x2 a1 S = some r) : ax_M l 3 ma_J0_charAt_5068e [.inr (64, 2), .inl (.int a1)] S (some (.inl (.int r))) S := by
  unfold f_J0_charAt_5068e_64x2 at h
  show ax_T l 3 ma_J0_charAt_5068e (0, [some (.inr (64, 2)), some (.inl (.int a1))], [], S) (some (.inl (.int r))) S
  refine ax_Tgo [.aload_n 0] (pc' := 1) (L' := [some (.inr (64, 2)), some (.inl (.int a1))]) (st' := [.inr (64, 2)]) (S' := S) ok_J0_charAt_5068e.1 (by decide +kernel) rfl rfl ?_
  refine ax_TVi (d := 2) (ka := 64) (i := 2) [] [] lk_J0_492 (by decide +kernel) rfl (by decide) rfl (Nat.le_of_ble_eq_true rfl) (Nat.le_of_ble_eq_true rfl) ((t_J0_isLatin1_aae02_64x2 rfl).up (by decide)) ?_
  refine ax_Tif_eq (off := 12) (tgt := 16) (by decide +kernel) (by decide) (fun c4 => absurd c4 (by decide)) (fun _ => ?_)
  refine ax_Tgo [.aload_n 0, .getfield 9, .iload_n 1] (pc' := 12) (L' := [some (.inr (64, 2)), some (.inl (.int a1))]) (st' := [.inl (.int a1), .inr (65, 2)]) (S' := S) ok_J0_charAt_5068e.1 (by decide +kernel) rfl rfl ?_
  obtain ⟨r8, hq6, h⟩ := ax_bd_e h
  refine ax_TSi (d := 2) [.inr (65, 2), .inl (.int a1)] [] lk_J0_495 (by decide +kernel) rfl rfl (Nat.le_of_ble_eq_true rfl) (Nat.le_of_ble_eq_true rfl) ((t_J1_charAt_3b067_65 hq6).up (by decide)) ?_
  obtain ⟨g9, h⟩ := ax_gd_e h
  cases h
  exact ax_Treti (by decide +kernel) rfl (ax_nc_e g9)
def f_X12_spotOf_64x2_L2 (S : AS) : Nat → Int32 → Int32 → Option (Int32)
  | 0, _, _ => none
  | n + 1, x1, x2 => (if ((Int32.ofNat 7) >>> ((0 : Int32) &&& 31)) ≤ x2 then some (Int32.ofInt (-1)) else (f_J0_charAt_5068e_64x2 x2 S).bind (fun (r10 : Int32) => (if r10 = x1 then some x2 else ax_let (x2 + (1 : Int32)) (fun (v12 : Int32) => f_X12_spotOf_64x2_L2 S n x1 v12))))
def f_X12_spotOf_64x2 (a1 : Int32) (S : AS) : Option (Int32) := f_X12_spotOf_64x2_L2 S ax_F a1 (0 : Int32)
set_option maxRecDepth 100000 in
theorem t_X12_spotOf_64x2_L2 {l : Launch} {S : AS} : ∀ (n : Nat) (x1 : Int32) (x2 : Int32) r, f_X12_spotOf_64x2_L2 S n x1 x2  = some r → ax_T l 4 ma_X12_spotOf (2, [some (.inr (64, 2)), some (.inl (.int x1)), some (.inl (.int x2))], [], S) (some (.inl (.int r))) S := by
  intro n
  induction n with
  | zero =>
    intro x1 x2  r h
    cases h
  | succ n ih =>
    intro x1 x2  r h
    unfold f_X12_spotOf_64x2_L2 at h
    refine ax_Tgo [.iload_n 2, .aload_n 0] (pc' := 4) (L' := [some (.inr (64, 2)), some (.inl (.int x1)), some (.inl (.int x2))]) (st' := [.inr (64, 2), .inl (.int x2)]) (S' := S) ok_X12_spotOf.1 (by decide +kernel) rfl rfl ?_
    refine ax_TVi (d := 3) (ka := 64) (i := 2) [] [.inl (.int x2)] lk_X12_96 (by decide +kernel) rfl (by decide) rfl (Nat.le_of_ble_eq_true rfl) (Nat.le_of_ble_eq_true rfl) ((t_J0_length_8abf5_64x2 rfl).up (by decide)) ?_
    refine ax_Tic_ge (off := 20) (tgt := 27) (by decide +kernel) (by decide) (fun c6 => ?_) (fun c6 => ?_)
    · rw [if_pos c6] at h
      refine ax_Tgo [.iconst (-1)] (pc' := 28) (L' := [some (.inr (64, 2)), some (.inl (.int x1)), some (.inl (.int x2))]) (st' := [.inl (.int (Int32.ofInt (-1)))]) (S' := S) ok_X12_spotOf.1 (by decide +kernel) rfl rfl ?_
      cases h
      exact ax_Treti (by decide +kernel) rfl rfl
    · rw [if_neg c6] at h
      refine ax_Tgo [.aload_n 0, .iload_n 2] (pc' := 12) (L' := [some (.inr (64, 2)), some (.inl (.int x1)), some (.inl (.int x2))]) (st' := [.inl (.int x2), .inr (64, 2)]) (S' := S) ok_X12_spotOf.1 (by decide +kernel) rfl rfl ?_
      obtain ⟨r10, hq8, h⟩ := ax_bd_e h
      refine ax_TVi (d := 3) (ka := 64) (i := 2) [.inl (.int x2)] [] lk_X12_102 (by decide +kernel) rfl (by decide) rfl (Nat.le_of_ble_eq_true rfl) (Nat.le_of_ble_eq_true rfl) ((t_J0_charAt_5068e_64x2 hq8).up (by decide)) ?_
      refine ax_Tgo [.iload_n 1] (pc' := 16) (L' := [some (.inr (64, 2)), some (.inl (.int x1)), some (.inl (.int x2))]) (st' := [.inl (.int x1), .inl (.int r10)]) (S' := S) ok_X12_spotOf.1 (by decide +kernel) rfl rfl ?_
      refine ax_Tic_ne (off := 5) (tgt := 21) (by decide +kernel) (by decide) (fun c11 => ?_) (fun c11 => ?_)
      · rw [if_neg c11] at h
        refine ax_Tgo [.iinc 2 1] (pc' := 24) (L' := [some (.inr (64, 2)), some (.inl (.int x1)), some (.inl (.int (x2 + (1 : Int32))))]) (st' := []) (S' := S) ok_X12_spotOf.1 (by decide +kernel) rfl rfl ?_
        obtain ⟨v12, ev12, h⟩ := ax_let_e h
        rw [ev12]
        refine ax_Tgoto (off := (-22)) (tgt := 2) (by decide +kernel) (by decide) ?_
        exact ih x1 v12 _ h
      · rw [if_pos c11] at h
        refine ax_Tgo [.iload_n 2] (pc' := 20) (L' := [some (.inr (64, 2)), some (.inl (.int x1)), some (.inl (.int x2))]) (st' := [.inl (.int x2)]) (S' := S) ok_X12_spotOf.1 (by decide +kernel) rfl rfl ?_
        cases h
        exact ax_Treti (by decide +kernel) rfl rfl
set_option maxRecDepth 100000 in
theorem t_X12_spotOf_64x2 {l : Launch} {a1 : Int32} {S : AS} {r : Int32} (h : f_X12_spotOf_64x2 a1 S = some r) : ax_M l 4 ma_X12_spotOf [.inr (64, 2), .inl (.int a1)] S (some (.inl (.int r))) S := by
  unfold f_X12_spotOf_64x2 at h
  show ax_T l 4 ma_X12_spotOf (0, [some (.inr (64, 2)), some (.inl (.int a1)), none], [], S) (some (.inl (.int r))) S
  refine ax_Tgo [.iconst 0, .istore_n 2] (pc' := 2) (L' := [some (.inr (64, 2)), some (.inl (.int a1)), some (.inl (.int (0 : Int32)))]) (st' := []) (S' := S) ok_X12_spotOf.1 (by decide +kernel) rfl rfl ?_
  refine t_X12_spotOf_64x2_L2 _ a1 (0 : Int32) _ h
def f_X12_leastOf (a0 : Int32) (a1 : Int32) (S : AS) : Option (Int32) := (if a0 = (115 : Int32) then (if a1 = (0 : Int32) then some (1 : Int32) else (if a0 = (118 : Int32) then (if a1 = (0 : Int32) then some (1 : Int32) else (if a1 = (3 : Int32) then some (1 : Int32) else some (0 : Int32))) else some (0 : Int32))) else (if a0 = (118 : Int32) then (if a1 = (0 : Int32) then some (1 : Int32) else (if a1 = (3 : Int32) then some (1 : Int32) else some (0 : Int32))) else some (0 : Int32)))
set_option maxRecDepth 100000 in
theorem t_X12_leastOf {l : Launch} {a0 : Int32} {a1 : Int32} {S : AS} {r : Int32} (h : f_X12_leastOf a0 a1 S = some r) : ax_M l 0 ma_X12_leastOf [.inl (.int a0), .inl (.int a1)] S (some (.inl (.int r))) S := by
  unfold f_X12_leastOf at h
  show ax_T l 0 ma_X12_leastOf (0, [some (.inl (.int a0)), some (.inl (.int a1))], [], S) (some (.inl (.int r))) S
  refine ax_Tgo [.iload_n 0, .bipush 115] (pc' := 3) (L' := [some (.inl (.int a0)), some (.inl (.int a1))]) (st' := [.inl (.int (115 : Int32)), .inl (.int a0)]) (S' := S) ok_X12_leastOf.1 (by decide +kernel) rfl rfl ?_
  refine ax_Tic_ne (off := 7) (tgt := 10) (by decide +kernel) (by decide) (fun c1 => ?_) (fun c1 => ?_)
  · rw [if_neg c1] at h
    refine ax_Tgo [.iload_n 0, .bipush 118] (pc' := 13) (L' := [some (.inl (.int a0)), some (.inl (.int a1))]) (st' := [.inl (.int (118 : Int32)), .inl (.int a0)]) (S' := S) ok_X12_leastOf.1 (by decide +kernel) rfl rfl ?_
    refine ax_Tic_ne (off := 16) (tgt := 29) (by decide +kernel) (by decide) (fun c2 => ?_) (fun c2 => ?_)
    · rw [if_neg c2] at h
      refine ax_Tgo [.iconst 0] (pc' := 30) (L' := [some (.inl (.int a0)), some (.inl (.int a1))]) (st' := [.inl (.int (0 : Int32))]) (S' := S) ok_X12_leastOf.1 (by decide +kernel) rfl rfl ?_
      cases h
      exact ax_Treti (by decide +kernel) rfl rfl
    · rw [if_pos c2] at h
      refine ax_Tgo [.iload_n 1] (pc' := 17) (L' := [some (.inl (.int a0)), some (.inl (.int a1))]) (st' := [.inl (.int a1)]) (S' := S) ok_X12_leastOf.1 (by decide +kernel) rfl rfl ?_
      refine ax_Tif_eq (off := 8) (tgt := 25) (by decide +kernel) (by decide) (fun c3 => ?_) (fun c3 => ?_)
      · rw [if_pos c3] at h
        refine ax_Tgo [.iconst 1] (pc' := 26) (L' := [some (.inl (.int a0)), some (.inl (.int a1))]) (st' := [.inl (.int (1 : Int32))]) (S' := S) ok_X12_leastOf.1 (by decide +kernel) rfl rfl ?_
        refine ax_Tgoto (off := 4) (tgt := 30) (by decide +kernel) (by decide) ?_
        cases h
        exact ax_Treti (by decide +kernel) rfl rfl
      · rw [if_neg c3] at h
        refine ax_Tgo [.iload_n 1, .iconst 3] (pc' := 22) (L' := [some (.inl (.int a0)), some (.inl (.int a1))]) (st' := [.inl (.int (3 : Int32)), .inl (.int a1)]) (S' := S) ok_X12_leastOf.1 (by decide +kernel) rfl rfl ?_
        refine ax_Tic_ne (off := 7) (tgt := 29) (by decide +kernel) (by decide) (fun c4 => ?_) (fun c4 => ?_)
        · rw [if_neg c4] at h
          refine ax_Tgo [.iconst 0] (pc' := 30) (L' := [some (.inl (.int a0)), some (.inl (.int a1))]) (st' := [.inl (.int (0 : Int32))]) (S' := S) ok_X12_leastOf.1 (by decide +kernel) rfl rfl ?_
          cases h
          exact ax_Treti (by decide +kernel) rfl rfl
        · rw [if_pos c4] at h
          refine ax_Tgo [.iconst 1] (pc' := 26) (L' := [some (.inl (.int a0)), some (.inl (.int a1))]) (st' := [.inl (.int (1 : Int32))]) (S' := S) ok_X12_leastOf.1 (by decide +kernel) rfl rfl ?_
          refine ax_Tgoto (off := 4) (tgt := 30) (by decide +kernel) (by decide) ?_
          cases h
          exact ax_Treti (by decide +kernel) rfl rfl
  · rw [if_pos c1] at h
    refine ax_Tgo [.iload_n 1] (pc' := 7) (L' := [some (.inl (.int a0)), some (.inl (.int a1))]) (st' := [.inl (.int a1)]) (S' := S) ok_X12_leastOf.1 (by decide +kernel) rfl rfl ?_
    refine ax_Tif_eq (off := 18) (tgt := 25) (by decide +kernel) (by decide) (fun c5 => ?_) (fun c5 => ?_)
    · rw [if_pos c5] at h
      refine ax_Tgo [.iconst 1] (pc' := 26) (L' := [some (.inl (.int a0)), some (.inl (.int a1))]) (st' := [.inl (.int (1 : Int32))]) (S' := S) ok_X12_leastOf.1 (by decide +kernel) rfl rfl ?_
      refine ax_Tgoto (off := 4) (tgt := 30) (by decide +kernel) (by decide) ?_
      cases h
      exact ax_Treti (by decide +kernel) rfl rfl
    · rw [if_neg c5] at h
      refine ax_Tgo [.iload_n 0, .bipush 118] (pc' := 13) (L' := [some (.inl (.int a0)), some (.inl (.int a1))]) (st' := [.inl (.int (118 : Int32)), .inl (.int a0)]) (S' := S) ok_X12_leastOf.1 (by decide +kernel) rfl rfl ?_
      refine ax_Tic_ne (off := 16) (tgt := 29) (by decide +kernel) (by decide) (fun c6 => ?_) (fun c6 => ?_)
      · rw [if_neg c6] at h
        refine ax_Tgo [.iconst 0] (pc' := 30) (L' := [some (.inl (.int a0)), some (.inl (.int a1))]) (st' := [.inl (.int (0 : Int32))]) (S' := S) ok_X12_leastOf.1 (by decide +kernel) rfl rfl ?_
        cases h
        exact ax_Treti (by decide +kernel) rfl rfl
      · rw [if_pos c6] at h
        refine ax_Tgo [.iload_n 1] (pc' := 17) (L' := [some (.inl (.int a0)), some (.inl (.int a1))]) (st' := [.inl (.int a1)]) (S' := S) ok_X12_leastOf.1 (by decide +kernel) rfl rfl ?_
        refine ax_Tif_eq (off := 8) (tgt := 25) (by decide +kernel) (by decide) (fun c7 => ?_) (fun c7 => ?_)
        · rw [if_pos c7] at h
          refine ax_Tgo [.iconst 1] (pc' := 26) (L' := [some (.inl (.int a0)), some (.inl (.int a1))]) (st' := [.inl (.int (1 : Int32))]) (S' := S) ok_X12_leastOf.1 (by decide +kernel) rfl rfl ?_
          refine ax_Tgoto (off := 4) (tgt := 30) (by decide +kernel) (by decide) ?_
          cases h
          exact ax_Treti (by decide +kernel) rfl rfl
        · rw [if_neg c7] at h
          refine ax_Tgo [.iload_n 1, .iconst 3] (pc' := 22) (L' := [some (.inl (.int a0)), some (.inl (.int a1))]) (st' := [.inl (.int (3 : Int32)), .inl (.int a1)]) (S' := S) ok_X12_leastOf.1 (by decide +kernel) rfl rfl ?_
          refine ax_Tic_ne (off := 7) (tgt := 29) (by decide +kernel) (by decide) (fun c8 => ?_) (fun c8 => ?_)
          · rw [if_neg c8] at h
            refine ax_Tgo [.iconst 0] (pc' := 30) (L' := [some (.inl (.int a0)), some (.inl (.int a1))]) (st' := [.inl (.int (0 : Int32))]) (S' := S) ok_X12_leastOf.1 (by decide +kernel) rfl rfl ?_
            cases h
            exact ax_Treti (by decide +kernel) rfl rfl
          · rw [if_pos c8] at h
            refine ax_Tgo [.iconst 1] (pc' := 26) (L' := [some (.inl (.int a0)), some (.inl (.int a1))]) (st' := [.inl (.int (1 : Int32))]) (S' := S) ok_X12_leastOf.1 (by decide +kernel) rfl rfl ?_
            refine ax_Tgoto (off := 4) (tgt := 30) (by decide +kernel) (by decide) ?_
            cases h
            exact ax_Treti (by decide +kernel) rfl rfl

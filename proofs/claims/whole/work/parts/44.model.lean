/-! METHODS of the reference as functions, by program -/
def f_X12_text_L223 (K246 : AS → Option (Int32 × AS)) : Nat → Int32 → AS → Option (Int32 × AS)
  | 0, _, _ => none
  | n + 1, x20, S21 => (if (3 : Int32) ≤ x20 then K246 S21 else ax_gd (ax_in x20 3) (ax_gd (ax_in x20 3) (ax_let (ax_sai S21 47 0 x20.toNatClampNeg (ax_ai S21 48 0 x20.toNatClampNeg)) (fun (S25 : AS) => ax_let (x20 + (1 : Int32)) (fun (v26 : Int32) => f_X12_text_L223 K246 n v26 S25)))))
def f_X12_text_L248 (K272 : AS → Option (Int32 × AS)) : Nat → Int32 → AS → Option (Int32 × AS)
  | 0, _, _ => none
  | n + 1, x28, S29 => (if (8 : Int32) ≤ x28 then K272 S29 else ax_gd (ax_in x28 8) (ax_gd (ax_in x28 8) (ax_let (ax_sai S29 49 0 x28.toNatClampNeg (ax_ai S29 50 0 x28.toNatClampNeg)) (fun (S33 : AS) => ax_let (x28 + (1 : Int32)) (fun (v34 : Int32) => f_X12_text_L248 K272 n v34 S33)))))
def f_X12_text_L274 (K298 : AS → Option (Int32 × AS)) : Nat → Int32 → AS → Option (Int32 × AS)
  | 0, _, _ => none
  | n + 1, x36, S37 => (if (42 : Int32) ≤ x36 then K298 S37 else ax_gd (ax_in x36 42) (ax_gd (ax_in x36 42) (ax_let (ax_sai S37 51 0 x36.toNatClampNeg (ax_ai S37 52 0 x36.toNatClampNeg)) (fun (S41 : AS) => ax_let (x36 + (1 : Int32)) (fun (v42 : Int32) => f_X12_text_L274 K298 n v42 S41)))))
def f_X12_text_L300 (K320 : AS → Option (Int32 × AS)) : Nat → Int32 → AS → Option (Int32 × AS)
  | 0, _, _ => none
  | n + 1, x44, S45 => (if (204 : Int32) ≤ x44 then K320 S45 else ax_gd (ax_in x44 204) (ax_let (ax_sai S45 55 0 x44.toNatClampNeg (0 : Int32)) (fun (S48 : AS) => ax_let (x44 + (1 : Int32)) (fun (v49 : Int32) => f_X12_text_L300 K320 n v49 S48))))
def f_X12_text_L322 (K357 : AS → Option (Int32 × AS)) : Nat → Int32 → AS → Option (Int32 × AS)
  | 0, _, _ => none
  | n + 1, x51, S52 => (if (ax_fi S52 12 0 27) ≤ x51 then K357 S52 else ax_gd (ax_in (((7 : Int32) * x51) + (2 : Int32)) 42) (ax_gd (ax_in (((2 : Int32) * x51) + (0 : Int32)) 204) (ax_let (ax_sai S52 55 0 (((2 : Int32) * x51) + (0 : Int32)).toNatClampNeg (ax_ai S52 51 0 (((7 : Int32) * x51) + (2 : Int32)).toNatClampNeg)) (fun (S56 : AS) => ax_let (x51 + (1 : Int32)) (fun (v57 : Int32) => f_X12_text_L322 K357 n v57 S56)))))
def f_X12_text_L137 (K173 : AS → Option (Int32 × AS)) : Nat → Int32 → AS → Option (Int32 × AS)
  | 0, _, _ => none
  | n + 1, x65, S66 => (if (32 : Int32) ≤ x65 then K173 S66 else ax_gd (ax_in ((128 : Int32) + x65) 160) (ax_gd (ax_in (((32 : Int32) * (ax_fi S66 12 0 30)) + x65) 160) (ax_let (ax_sai S66 53 0 (((32 : Int32) * (ax_fi S66 12 0 30)) + x65).toNatClampNeg (ax_ai S66 53 0 ((128 : Int32) + x65).toNatClampNeg)) (fun (S70 : AS) => ax_let (x65 + (1 : Int32)) (fun (v71 : Int32) => f_X12_text_L137 K173 n v71 S70)))))
def f_X12_text_L71 (K103 : Int32 → AS → Option (Int32 × AS)) : Nat → Int32 → Int32 → AS → Option (Int32 × AS)
  | 0, _, _, _ => none
  | n + 1, x77, x78, S80 => (if x77 ≤ x78 then K103 x77 S80 else ax_gd (ax_in x78 240) (ax_gd (ax_in (((240 : Int32) * (ax_fi S80 12 0 7)) + x78) 960) (ax_let (ax_sai S80 44 1 (((240 : Int32) * (ax_fi S80 12 0 7)) + x78).toNatClampNeg (vp_nar .byte (ax_ai S80 44 0 x78.toNatClampNeg))) (fun (S84 : AS) => ax_let (x78 + (1 : Int32)) (fun (v85 : Int32) => f_X12_text_L71 K103 n x77 v85 S84)))))
def f_X12_text (a1 : Int32) (S : AS) : Option (Int32 × AS) := ax_let (ax_sfi S 12 0 0 (0 : Int32)) (fun (S1 : AS) => (f_X12_isIn (a1.toInt64) (0 : Int64) (2 : Int64) S1).bind (fun (r5 : Int32) => (if r5 = (0 : Int32) then some ((Int32.ofInt (-1)), S1) else (if a1 = (1 : Int32) then (if (ax_fi S1 12 0 7) = (4 : Int32) then some ((Int32.ofInt (-1)), S1) else (if a1 = (2 : Int32) then (if (ax_fi S1 12 0 30) = (4 : Int32) then some ((Int32.ofInt (-1)), S1) else ax_bu (f_X12_fault a1 S1) (fun (r175 : Int32) (S172 : AS) => (if r175 = (Int32.ofInt (-1)) then ax_let (ax_fi S172 12 0 6) (fun (v177 : Int32) => ax_let (ax_sfi S172 12 0 6 (0 : Int32)) (fun (S178 : AS) => (if a1 = (1 : Int32) then f_X12_text_L71 (fun (x79 : Int32) (S207 : AS) => ax_gd (ax_in (ax_fi S207 12 0 7) 4) (ax_let (ax_sai S207 45 0 (ax_fi S207 12 0 7).toNatClampNeg x79) (fun (S209 : AS) => ax_let (ax_sfi S209 12 0 7 ((ax_fi S209 12 0 7) + (1 : Int32))) (fun (S210 : AS) => some (((ax_fi S210 12 0 7) - (1 : Int32)), S210))))) ax_F v177 (0 : Int32) S178 else (if a1 = (2 : Int32) then f_X12_text_L137 (fun (S200 : AS) => ax_gd (ax_in (4 : Int32) 5) (ax_gd (ax_in (ax_fi S200 12 0 30) 5) (ax_let (ax_sai S200 54 0 (ax_fi S200 12 0 30).toNatClampNeg (ax_ai S200 54 0 (4 : Int32).toNatClampNeg)) (fun (S203 : AS) => ax_let (ax_sfi S203 12 0 30 ((ax_fi S203 12 0 30) + (1 : Int32))) (fun (S204 : AS) => some (((ax_fi S204 12 0 30) - (1 : Int32)), S204)))))) ax_F (0 : Int32) S178 else ax_let (ax_sfi S178 12 0 26 (ax_fi S178 12 0 28)) (fun (S181 : AS) => ax_let (ax_sfi S181 12 0 27 (ax_fi S181 12 0 29)) (fun (S182 : AS) => f_X12_text_L223 (fun (S184 : AS) => f_X12_text_L248 (fun (S186 : AS) => f_X12_text_L274 (fun (S188 : AS) => f_X12_text_L300 (fun (S190 : AS) => f_X12_text_L322 (fun (S192 : AS) => ax_gd (ax_in (2 : Int32) 3) (ax_gd (ax_in (21 : Int32) 204) (ax_let (ax_sai S192 55 0 (21 : Int32).toNatClampNeg (ax_ai S192 47 0 (2 : Int32).toNatClampNeg)) (fun (S195 : AS) => ax_let (ax_sfi S195 12 0 47 (0 : Int32)) (fun (S196 : AS) => ax_let (ax_sfi S196 12 0 39 (0 : Int32)) (fun (S197 : AS) => ax_let (ax_sfi S197 12 0 49 (0 : Int32)) (fun (S198 : AS) => some ((ax_fi S198 12 0 27), S198)))))))) ax_F (0 : Int32) S190) ax_F (0 : Int32) S188) ax_F (0 : Int32) S186) ax_F (0 : Int32) S184) ax_F (0 : Int32) S182)))))) else some ((Int32.ofInt (-1)), S172)))) else ax_bu (f_X12_fault a1 S1) (fun (r135 : Int32) (S132 : AS) => (if r135 = (Int32.ofInt (-1)) then ax_let (ax_fi S132 12 0 6) (fun (v137 : Int32) => ax_let (ax_sfi S132 12 0 6 (0 : Int32)) (fun (S138 : AS) => (if a1 = (1 : Int32) then f_X12_text_L71 (fun (x79 : Int32) (S167 : AS) => ax_gd (ax_in (ax_fi S167 12 0 7) 4) (ax_let (ax_sai S167 45 0 (ax_fi S167 12 0 7).toNatClampNeg x79) (fun (S169 : AS) => ax_let (ax_sfi S169 12 0 7 ((ax_fi S169 12 0 7) + (1 : Int32))) (fun (S170 : AS) => some (((ax_fi S170 12 0 7) - (1 : Int32)), S170))))) ax_F v137 (0 : Int32) S138 else (if a1 = (2 : Int32) then f_X12_text_L137 (fun (S160 : AS) => ax_gd (ax_in (4 : Int32) 5) (ax_gd (ax_in (ax_fi S160 12 0 30) 5) (ax_let (ax_sai S160 54 0 (ax_fi S160 12 0 30).toNatClampNeg (ax_ai S160 54 0 (4 : Int32).toNatClampNeg)) (fun (S163 : AS) => ax_let (ax_sfi S163 12 0 30 ((ax_fi S163 12 0 30) + (1 : Int32))) (fun (S164 : AS) => some (((ax_fi S164 12 0 30) - (1 : Int32)), S164)))))) ax_F (0 : Int32) S138 else ax_let (ax_sfi S138 12 0 26 (ax_fi S138 12 0 28)) (fun (S141 : AS) => ax_let (ax_sfi S141 12 0 27 (ax_fi S141 12 0 29)) (fun (S142 : AS) => f_X12_text_L223 (fun (S144 : AS) => f_X12_text_L248 (fun (S146 : AS) => f_X12_text_L274 (fun (S148 : AS) => f_X12_text_L300 (fun (S150 : AS) => f_X12_text_L322 (fun (S152 : AS) => ax_gd (ax_in (2 : Int32) 3) (ax_gd (ax_in (21 : Int32) 204) (ax_let (ax_sai S152 55 0 (21 : Int32).toNatClampNeg (ax_ai S152 47 0 (2 : Int32).toNatClampNeg)) (fun (S155 : AS) => ax_let (ax_sfi S155 12 0 47 (0 : Int32)) (fun (S156 : AS) => ax_let (ax_sfi S156 12 0 39 (0 : Int32)) (fun (S157 : AS) => ax_let (ax_sfi S157 12 0 49 (0 : Int32)) (fun (S158 : AS) => some ((ax_fi S158 12 0 27), S158)))))))) ax_F (0 : Int32) S150) ax_F (0 : Int32) S148) ax_F (0 : Int32) S146) ax_F (0 : Int32) S144) ax_F (0 : Int32) S142)))))) else some ((Int32.ofInt (-1)), S132))))) else (if a1 = (2 : Int32) then (if (ax_fi S1 12 0 30) = (4 : Int32) then some ((Int32.ofInt (-1)), S1) else ax_bu (f_X12_fault a1 S1) (fun (r94 : Int32) (S91 : AS) => (if r94 = (Int32.ofInt (-1)) then ax_let (ax_fi S91 12 0 6) (fun (v96 : Int32) => ax_let (ax_sfi S91 12 0 6 (0 : Int32)) (fun (S97 : AS) => (if a1 = (1 : Int32) then f_X12_text_L71 (fun (x79 : Int32) (S126 : AS) => ax_gd (ax_in (ax_fi S126 12 0 7) 4) (ax_let (ax_sai S126 45 0 (ax_fi S126 12 0 7).toNatClampNeg x79) (fun (S128 : AS) => ax_let (ax_sfi S128 12 0 7 ((ax_fi S128 12 0 7) + (1 : Int32))) (fun (S129 : AS) => some (((ax_fi S129 12 0 7) - (1 : Int32)), S129))))) ax_F v96 (0 : Int32) S97 else (if a1 = (2 : Int32) then f_X12_text_L137 (fun (S119 : AS) => ax_gd (ax_in (4 : Int32) 5) (ax_gd (ax_in (ax_fi S119 12 0 30) 5) (ax_let (ax_sai S119 54 0 (ax_fi S119 12 0 30).toNatClampNeg (ax_ai S119 54 0 (4 : Int32).toNatClampNeg)) (fun (S122 : AS) => ax_let (ax_sfi S122 12 0 30 ((ax_fi S122 12 0 30) + (1 : Int32))) (fun (S123 : AS) => some (((ax_fi S123 12 0 30) - (1 : Int32)), S123)))))) ax_F (0 : Int32) S97 else ax_let (ax_sfi S97 12 0 26 (ax_fi S97 12 0 28)) (fun (S100 : AS) => ax_let (ax_sfi S100 12 0 27 (ax_fi S100 12 0 29)) (fun (S101 : AS) => f_X12_text_L223 (fun (S103 : AS) => f_X12_text_L248 (fun (S105 : AS) => f_X12_text_L274 (fun (S107 : AS) => f_X12_text_L300 (fun (S109 : AS) => f_X12_text_L322 (fun (S111 : AS) => ax_gd (ax_in (2 : Int32) 3) (ax_gd (ax_in (21 : Int32) 204) (ax_let (ax_sai S111 55 0 (21 : Int32).toNatClampNeg (ax_ai S111 47 0 (2 : Int32).toNatClampNeg)) (fun (S114 : AS) => ax_let (ax_sfi S114 12 0 47 (0 : Int32)) (fun (S115 : AS) => ax_let (ax_sfi S115 12 0 39 (0 : Int32)) (fun (S116 : AS) => ax_let (ax_sfi S116 12 0 49 (0 : Int32)) (fun (S117 : AS) => some ((ax_fi S117 12 0 27), S117)))))))) ax_F (0 : Int32) S109) ax_F (0 : Int32) S107) ax_F (0 : Int32) S105) ax_F (0 : Int32) S103) ax_F (0 : Int32) S101)))))) else some ((Int32.ofInt (-1)), S91)))) else ax_bu (f_X12_fault a1 S1) (fun (r12 : Int32) (S9 : AS) => (if r12 = (Int32.ofInt (-1)) then ax_let (ax_fi S9 12 0 6) (fun (v14 : Int32) => ax_let (ax_sfi S9 12 0 6 (0 : Int32)) (fun (S15 : AS) => (if a1 = (1 : Int32) then f_X12_text_L71 (fun (x79 : Int32) (S86 : AS) => ax_gd (ax_in (ax_fi S86 12 0 7) 4) (ax_let (ax_sai S86 45 0 (ax_fi S86 12 0 7).toNatClampNeg x79) (fun (S88 : AS) => ax_let (ax_sfi S88 12 0 7 ((ax_fi S88 12 0 7) + (1 : Int32))) (fun (S89 : AS) => some (((ax_fi S89 12 0 7) - (1 : Int32)), S89))))) ax_F v14 (0 : Int32) S15 else (if a1 = (2 : Int32) then f_X12_text_L137 (fun (S72 : AS) => ax_gd (ax_in (4 : Int32) 5) (ax_gd (ax_in (ax_fi S72 12 0 30) 5) (ax_let (ax_sai S72 54 0 (ax_fi S72 12 0 30).toNatClampNeg (ax_ai S72 54 0 (4 : Int32).toNatClampNeg)) (fun (S75 : AS) => ax_let (ax_sfi S75 12 0 30 ((ax_fi S75 12 0 30) + (1 : Int32))) (fun (S76 : AS) => some (((ax_fi S76 12 0 30) - (1 : Int32)), S76)))))) ax_F (0 : Int32) S15 else ax_let (ax_sfi S15 12 0 26 (ax_fi S15 12 0 28)) (fun (S18 : AS) => ax_let (ax_sfi S18 12 0 27 (ax_fi S18 12 0 29)) (fun (S19 : AS) => f_X12_text_L223 (fun (S27 : AS) => f_X12_text_L248 (fun (S35 : AS) => f_X12_text_L274 (fun (S43 : AS) => f_X12_text_L300 (fun (S50 : AS) => f_X12_text_L322 (fun (S58 : AS) => ax_gd (ax_in (2 : Int32) 3) (ax_gd (ax_in (21 : Int32) 204) (ax_let (ax_sai S58 55 0 (21 : Int32).toNatClampNeg (ax_ai S58 47 0 (2 : Int32).toNatClampNeg)) (fun (S61 : AS) => ax_let (ax_sfi S61 12 0 47 (0 : Int32)) (fun (S62 : AS) => ax_let (ax_sfi S62 12 0 39 (0 : Int32)) (fun (S63 : AS) => ax_let (ax_sfi S63 12 0 49 (0 : Int32)) (fun (S64 : AS) => some ((ax_fi S64 12 0 27), S64)))))))) ax_F (0 : Int32) S50) ax_F (0 : Int32) S43) ax_F (0 : Int32) S35) ax_F (0 : Int32) S27) ax_F (0 : Int32) S19)))))) else some ((Int32.ofInt (-1)), S9))))))))
set_option maxRecDepth 100000 in
theorem t_X12_text_L223 {l : Launch} {K246 : AS → Option (Int32 × AS)} (hK246 : ∀ (S : AS) r Z, K246 S = some (r, Z) → ax_T l 73 ma_X12_text (246, [some (.inr (12, 0)), none, none, none], [], S) (some (.inl (.int r))) Z) : ∀ (n : Nat) (x20 : Int32) (S21 : AS) r Z, f_X12_text_L223 K246 n x20 S21 = some (r, Z) → ax_T l 73 ma_X12_text (223, [some (.inr (12, 0)), none, none, some (.inl (.int x20))], [], S21) (some (.inl (.int r))) Z := by
  intro n
  induction n with
  | zero =>
    intro x20 S21 r Z h
    cases h
  | succ n ih =>
    intro x20 S21 r Z h
    unfold f_X12_text_L223 at h
    refine ax_Tgo [.iload_n 3, .iconst 3] (pc' := 225) (L' := [some (.inr (12, 0)), none, none, some (.inl (.int x20))]) (st' := [.inl (.int (3 : Int32)), .inl (.int x20)]) (S' := S21) ok_X12_text.1 (by decide +kernel) rfl rfl ?_
    refine ax_Tic_ge (off := 21) (tgt := 246) (by decide +kernel) (by decide) (fun c22 => ?_) (fun c22 => ?_)
    · rw [if_pos c22] at h
      refine ax_Tdrop [true, true, true, false] (L' := [some (.inr (12, 0)), none, none, none]) rfl ?_
      exact hK246 S21 _ _ h
    · rw [if_neg c22] at h
      refine ax_Tgo [.aload_n 0, .getfield 37, .iload_n 3, .aload_n 0, .getfield 40, .iload_n 3] (pc' := 238) (L' := [some (.inr (12, 0)), none, none, some (.inl (.int x20))]) (st' := [.inl (.int x20), .inr (48, 0), .inl (.int x20), .inr (47, 0)]) (S' := S21) ok_X12_text.1 (by decide +kernel) rfl rfl ?_
      obtain ⟨g23, h⟩ := ax_gd_e h
      refine ax_Tali (n := 3) ok_X12_text.1 (by decide +kernel) (by decide) rfl g23 ?_
      obtain ⟨g24, h⟩ := ax_gd_e h
      refine ax_Tasi (n := 3) ok_X12_text.1 (by decide +kernel) (by decide) rfl g24 ?_
      obtain ⟨S25, eS25, h⟩ := ax_let_e h
      rw [eS25]
      refine ax_Tgo [.iinc 3 1] (pc' := 243) (L' := [some (.inr (12, 0)), none, none, some (.inl (.int (x20 + (1 : Int32))))]) (st' := []) (S' := S25) ok_X12_text.1 (by decide +kernel) rfl rfl ?_
      obtain ⟨v26, ev26, h⟩ := ax_let_e h
      rw [ev26]
      refine ax_Tgoto (off := (-20)) (tgt := 223) (by decide +kernel) (by decide) ?_
      exact ih v26 S25 _ _ h
set_option maxRecDepth 100000 in
theorem t_X12_text_L248 {l : Launch} {K272 : AS → Option (Int32 × AS)} (hK272 : ∀ (S : AS) r Z, K272 S = some (r, Z) → ax_T l 73 ma_X12_text (272, [some (.inr (12, 0)), none, none, none], [], S) (some (.inl (.int r))) Z) : ∀ (n : Nat) (x28 : Int32) (S29 : AS) r Z, f_X12_text_L248 K272 n x28 S29 = some (r, Z) → ax_T l 73 ma_X12_text (248, [some (.inr (12, 0)), none, none, some (.inl (.int x28))], [], S29) (some (.inl (.int r))) Z := by
  intro n
  induction n with
  | zero =>
    intro x28 S29 r Z h
    cases h
  | succ n ih =>
    intro x28 S29 r Z h
    unfold f_X12_text_L248 at h
    refine ax_Tgo [.iload_n 3, .bipush 8] (pc' := 251) (L' := [some (.inr (12, 0)), none, none, some (.inl (.int x28))]) (st' := [.inl (.int (8 : Int32)), .inl (.int x28)]) (S' := S29) ok_X12_text.1 (by decide +kernel) rfl rfl ?_
    refine ax_Tic_ge (off := 21) (tgt := 272) (by decide +kernel) (by decide) (fun c30 => ?_) (fun c30 => ?_)
    · rw [if_pos c30] at h
      refine ax_Tdrop [true, true, true, false] (L' := [some (.inr (12, 0)), none, none, none]) rfl ?_
      exact hK272 S29 _ _ h
    · rw [if_neg c30] at h
      refine ax_Tgo [.aload_n 0, .getfield 43, .iload_n 3, .aload_n 0, .getfield 46, .iload_n 3] (pc' := 264) (L' := [some (.inr (12, 0)), none, none, some (.inl (.int x28))]) (st' := [.inl (.int x28), .inr (50, 0), .inl (.int x28), .inr (49, 0)]) (S' := S29) ok_X12_text.1 (by decide +kernel) rfl rfl ?_
      obtain ⟨g31, h⟩ := ax_gd_e h
      refine ax_Tali (n := 8) ok_X12_text.1 (by decide +kernel) (by decide) rfl g31 ?_
      obtain ⟨g32, h⟩ := ax_gd_e h
      refine ax_Tasi (n := 8) ok_X12_text.1 (by decide +kernel) (by decide) rfl g32 ?_
      obtain ⟨S33, eS33, h⟩ := ax_let_e h
      rw [eS33]
      refine ax_Tgo [.iinc 3 1] (pc' := 269) (L' := [some (.inr (12, 0)), none, none, some (.inl (.int (x28 + (1 : Int32))))]) (st' := []) (S' := S33) ok_X12_text.1 (by decide +kernel) rfl rfl ?_
      obtain ⟨v34, ev34, h⟩ := ax_let_e h
      rw [ev34]
      refine ax_Tgoto (off := (-21)) (tgt := 248) (by decide +kernel) (by decide) ?_
      exact ih v34 S33 _ _ h
set_option maxRecDepth 100000 in
theorem t_X12_text_L274 {l : Launch} {K298 : AS → Option (Int32 × AS)} (hK298 : ∀ (S : AS) r Z, K298 S = some (r, Z) → ax_T l 73 ma_X12_text (298, [some (.inr (12, 0)), none, none, none], [], S) (some (.inl (.int r))) Z) : ∀ (n : Nat) (x36 : Int32) (S37 : AS) r Z, f_X12_text_L274 K298 n x36 S37 = some (r, Z) → ax_T l 73 ma_X12_text (274, [some (.inr (12, 0)), none, none, some (.inl (.int x36))], [], S37) (some (.inl (.int r))) Z := by
  intro n
  induction n with
  | zero =>
    intro x36 S37 r Z h
    cases h
  | succ n ih =>
    intro x36 S37 r Z h
    unfold f_X12_text_L274 at h
    refine ax_Tgo [.iload_n 3, .bipush 42] (pc' := 277) (L' := [some (.inr (12, 0)), none, none, some (.inl (.int x36))]) (st' := [.inl (.int (42 : Int32)), .inl (.int x36)]) (S' := S37) ok_X12_text.1 (by decide +kernel) rfl rfl ?_
    refine ax_Tic_ge (off := 21) (tgt := 298) (by decide +kernel) (by decide) (fun c38 => ?_) (fun c38 => ?_)
    · rw [if_pos c38] at h
      refine ax_Tdrop [true, true, true, false] (L' := [some (.inr (12, 0)), none, none, none]) rfl ?_
      exact hK298 S37 _ _ h
    · rw [if_neg c38] at h
      refine ax_Tgo [.aload_n 0, .getfield 49, .iload_n 3, .aload_n 0, .getfield 52, .iload_n 3] (pc' := 290) (L' := [some (.inr (12, 0)), none, none, some (.inl (.int x36))]) (st' := [.inl (.int x36), .inr (52, 0), .inl (.int x36), .inr (51, 0)]) (S' := S37) ok_X12_text.1 (by decide +kernel) rfl rfl ?_
      obtain ⟨g39, h⟩ := ax_gd_e h
      refine ax_Tali (n := 42) ok_X12_text.1 (by decide +kernel) (by decide) rfl g39 ?_
      obtain ⟨g40, h⟩ := ax_gd_e h
      refine ax_Tasi (n := 42) ok_X12_text.1 (by decide +kernel) (by decide) rfl g40 ?_
      obtain ⟨S41, eS41, h⟩ := ax_let_e h
      rw [eS41]
      refine ax_Tgo [.iinc 3 1] (pc' := 295) (L' := [some (.inr (12, 0)), none, none, some (.inl (.int (x36 + (1 : Int32))))]) (st' := []) (S' := S41) ok_X12_text.1 (by decide +kernel) rfl rfl ?_
      obtain ⟨v42, ev42, h⟩ := ax_let_e h
      rw [ev42]
      refine ax_Tgoto (off := (-21)) (tgt := 274) (by decide +kernel) (by decide) ?_
      exact ih v42 S41 _ _ h
set_option maxRecDepth 100000 in
theorem t_X12_text_L300 {l : Launch} {K320 : AS → Option (Int32 × AS)} (hK320 : ∀ (S : AS) r Z, K320 S = some (r, Z) → ax_T l 73 ma_X12_text (320, [some (.inr (12, 0)), none, none, none], [], S) (some (.inl (.int r))) Z) : ∀ (n : Nat) (x44 : Int32) (S45 : AS) r Z, f_X12_text_L300 K320 n x44 S45 = some (r, Z) → ax_T l 73 ma_X12_text (300, [some (.inr (12, 0)), none, none, some (.inl (.int x44))], [], S45) (some (.inl (.int r))) Z := by
  intro n
  induction n with
  | zero =>
    intro x44 S45 r Z h
    cases h
  | succ n ih =>
    intro x44 S45 r Z h
    unfold f_X12_text_L300 at h
    refine ax_Tgo [.iload_n 3, .sipush 204] (pc' := 304) (L' := [some (.inr (12, 0)), none, none, some (.inl (.int x44))]) (st' := [.inl (.int (204 : Int32)), .inl (.int x44)]) (S' := S45) ok_X12_text.1 (by decide +kernel) rfl rfl ?_
    refine ax_Tic_ge (off := 16) (tgt := 320) (by decide +kernel) (by decide) (fun c46 => ?_) (fun c46 => ?_)
    · rw [if_pos c46] at h
      refine ax_Tdrop [true, true, true, false] (L' := [some (.inr (12, 0)), none, none, none]) rfl ?_
      exact hK320 S45 _ _ h
    · rw [if_neg c46] at h
      refine ax_Tgo [.aload_n 0, .getfield 61, .iload_n 3, .iconst 0] (pc' := 313) (L' := [some (.inr (12, 0)), none, none, some (.inl (.int x44))]) (st' := [.inl (.int (0 : Int32)), .inl (.int x44), .inr (55, 0)]) (S' := S45) ok_X12_text.1 (by decide +kernel) rfl rfl ?_
      obtain ⟨g47, h⟩ := ax_gd_e h
      refine ax_Tasi (n := 204) ok_X12_text.1 (by decide +kernel) (by decide) rfl g47 ?_
      obtain ⟨S48, eS48, h⟩ := ax_let_e h
      rw [eS48]
      refine ax_Tgo [.iinc 3 1] (pc' := 317) (L' := [some (.inr (12, 0)), none, none, some (.inl (.int (x44 + (1 : Int32))))]) (st' := []) (S' := S48) ok_X12_text.1 (by decide +kernel) rfl rfl ?_
      obtain ⟨v49, ev49, h⟩ := ax_let_e h
      rw [ev49]
      refine ax_Tgoto (off := (-17)) (tgt := 300) (by decide +kernel) (by decide) ?_
      exact ih v49 S48 _ _ h
set_option maxRecDepth 100000 in
theorem t_X12_text_L322 {l : Launch} {K357 : AS → Option (Int32 × AS)} (hK357 : ∀ (S : AS) r Z, K357 S = some (r, Z) → ax_T l 73 ma_X12_text (357, [some (.inr (12, 0)), none, none, none], [], S) (some (.inl (.int r))) Z) : ∀ (n : Nat) (x51 : Int32) (S52 : AS) r Z, f_X12_text_L322 K357 n x51 S52 = some (r, Z) → ax_T l 73 ma_X12_text (322, [some (.inr (12, 0)), none, none, some (.inl (.int x51))], [], S52) (some (.inl (.int r))) Z := by
  intro n
  induction n with
  | zero =>
    intro x51 S52 r Z h
    cases h
  | succ n ih =>
    intro x51 S52 r Z h
    unfold f_X12_text_L322 at h
    refine ax_Tgo [.iload_n 3, .aload_n 0, .getfield 291] (pc' := 327) (L' := [some (.inr (12, 0)), none, none, some (.inl (.int x51))]) (st' := [.inl (.int (ax_fi S52 12 0 27)), .inl (.int x51)]) (S' := S52) ok_X12_text.1 (by decide +kernel) rfl rfl ?_
    refine ax_Tic_ge (off := 30) (tgt := 357) (by decide +kernel) (by decide) (fun c53 => ?_) (fun c53 => ?_)
    · rw [if_pos c53] at h
      refine ax_Tdrop [true, true, true, false] (L' := [some (.inr (12, 0)), none, none, none]) rfl ?_
      exact hK357 S52 _ _ h
    · rw [if_neg c53] at h
      refine ax_Tgo [.aload_n 0, .getfield 61, .iconst 2, .iload_n 3, .imul, .iconst 0, .iadd, .aload_n 0, .getfield 49, .bipush 7, .iload_n 3, .imul, .iconst 2, .iadd] (pc' := 349) (L' := [some (.inr (12, 0)), none, none, some (.inl (.int x51))]) (st' := [.inl (.int (((7 : Int32) * x51) + (2 : Int32))), .inr (51, 0), .inl (.int (((2 : Int32) * x51) + (0 : Int32))), .inr (55, 0)]) (S' := S52) ok_X12_text.1 (by decide +kernel) rfl rfl ?_
      obtain ⟨g54, h⟩ := ax_gd_e h
      refine ax_Tali (n := 42) ok_X12_text.1 (by decide +kernel) (by decide) rfl g54 ?_
      obtain ⟨g55, h⟩ := ax_gd_e h
      refine ax_Tasi (n := 204) ok_X12_text.1 (by decide +kernel) (by decide) rfl g55 ?_
      obtain ⟨S56, eS56, h⟩ := ax_let_e h
      rw [eS56]
      refine ax_Tgo [.iinc 3 1] (pc' := 354) (L' := [some (.inr (12, 0)), none, none, some (.inl (.int (x51 + (1 : Int32))))]) (st' := []) (S' := S56) ok_X12_text.1 (by decide +kernel) rfl rfl ?_
      obtain ⟨v57, ev57, h⟩ := ax_let_e h
      rw [ev57]
      refine ax_Tgoto (off := (-32)) (tgt := 322) (by decide +kernel) (by decide) ?_
      exact ih v57 S56 _ _ h
set_option maxRecDepth 100000 in
theorem t_X12_text_L137 {l : Launch} {K173 : AS → Option (Int32 × AS)} (hK173 : ∀ (S : AS) r Z, K173 S = some (r, Z) → ax_T l 73 ma_X12_text (173, [some (.inr (12, 0)), none, none, none], [], S) (some (.inl (.int r))) Z) : ∀ (n : Nat) (x65 : Int32) (S66 : AS) r Z, f_X12_text_L137 K173 n x65 S66 = some (r, Z) → ax_T l 73 ma_X12_text (137, [some (.inr (12, 0)), none, none, some (.inl (.int x65))], [], S66) (some (.inl (.int r))) Z := by
  intro n
  induction n with
  | zero =>
    intro x65 S66 r Z h
    cases h
  | succ n ih =>
    intro x65 S66 r Z h
    unfold f_X12_text_L137 at h
    refine ax_Tgo [.iload_n 3, .bipush 32] (pc' := 140) (L' := [some (.inr (12, 0)), none, none, some (.inl (.int x65))]) (st' := [.inl (.int (32 : Int32)), .inl (.int x65)]) (S' := S66) ok_X12_text.1 (by decide +kernel) rfl rfl ?_
    refine ax_Tic_ge (off := 33) (tgt := 173) (by decide +kernel) (by decide) (fun c67 => ?_) (fun c67 => ?_)
    · rw [if_pos c67] at h
      refine ax_Tdrop [true, true, true, false] (L' := [some (.inr (12, 0)), none, none, none]) rfl ?_
      exact hK173 S66 _ _ h
    · rw [if_neg c67] at h
      refine ax_Tgo [.aload_n 0, .getfield 55, .bipush 32, .aload_n 0, .getfield 283, .imul, .iload_n 3, .iadd, .aload_n 0, .getfield 55, .sipush 128, .iload_n 3, .iadd] (pc' := 165) (L' := [some (.inr (12, 0)), none, none, some (.inl (.int x65))]) (st' := [.inl (.int ((128 : Int32) + x65)), .inr (53, 0), .inl (.int (((32 : Int32) * (ax_fi S66 12 0 30)) + x65)), .inr (53, 0)]) (S' := S66) ok_X12_text.1 (by decide +kernel) rfl rfl ?_
      obtain ⟨g68, h⟩ := ax_gd_e h
      refine ax_Tali (n := 160) ok_X12_text.1 (by decide +kernel) (by decide) rfl g68 ?_
      obtain ⟨g69, h⟩ := ax_gd_e h
      refine ax_Tasi (n := 160) ok_X12_text.1 (by decide +kernel) (by decide) rfl g69 ?_
      obtain ⟨S70, eS70, h⟩ := ax_let_e h
      rw [eS70]
      refine ax_Tgo [.iinc 3 1] (pc' := 170) (L' := [some (.inr (12, 0)), none, none, some (.inl (.int (x65 + (1 : Int32))))]) (st' := []) (S' := S70) ok_X12_text.1 (by decide +kernel) rfl rfl ?_
      obtain ⟨v71, ev71, h⟩ := ax_let_e h
      rw [ev71]
      refine ax_Tgoto (off := (-33)) (tgt := 137) (by decide +kernel) (by decide) ?_
      exact ih v71 S70 _ _ h
set_option maxRecDepth 100000 in
theorem t_X12_text_L71 {l : Launch} {K103 : Int32 → AS → Option (Int32 × AS)} (hK103 : ∀ (x79 : Int32) (S : AS) r Z, K103 x79 S = some (r, Z) → ax_T l 73 ma_X12_text (103, [some (.inr (12, 0)), none, some (.inl (.int x79)), none], [], S) (some (.inl (.int r))) Z) : ∀ (n : Nat) (x77 : Int32) (x78 : Int32) (S80 : AS) r Z, f_X12_text_L71 K103 n x77 x78 S80 = some (r, Z) → ax_T l 73 ma_X12_text (71, [some (.inr (12, 0)), none, some (.inl (.int x77)), some (.inl (.int x78))], [], S80) (some (.inl (.int r))) Z := by
  intro n
  induction n with
  | zero =>
    intro x77 x78 S80 r Z h
    cases h
  | succ n ih =>
    intro x77 x78 S80 r Z h
    unfold f_X12_text_L71 at h
    refine ax_Tgo [.iload_n 3, .iload_n 2] (pc' := 73) (L' := [some (.inr (12, 0)), none, some (.inl (.int x77)), some (.inl (.int x78))]) (st' := [.inl (.int x77), .inl (.int x78)]) (S' := S80) ok_X12_text.1 (by decide +kernel) rfl rfl ?_
    refine ax_Tic_ge (off := 30) (tgt := 103) (by decide +kernel) (by decide) (fun c81 => ?_) (fun c81 => ?_)
    · rw [if_pos c81] at h
      refine ax_Tdrop [true, true, true, false] (L' := [some (.inr (12, 0)), none, some (.inl (.int x77)), none]) rfl ?_
      exact hK103 x77 S80 _ _ h
    · rw [if_neg c81] at h
      refine ax_Tgo [.aload_n 0, .getfield 13, .sipush 240, .aload_n 0, .getfield 280, .imul, .iload_n 3, .iadd, .aload_n 0, .getfield 9, .iload_n 3] (pc' := 95) (L' := [some (.inr (12, 0)), none, some (.inl (.int x77)), some (.inl (.int x78))]) (st' := [.inl (.int x78), .inr (44, 0), .inl (.int (((240 : Int32) * (ax_fi S80 12 0 7)) + x78)), .inr (44, 1)]) (S' := S80) ok_X12_text.1 (by decide +kernel) rfl rfl ?_
      obtain ⟨g82, h⟩ := ax_gd_e h
      refine ax_Talb (n := 240) ok_X12_text.1 (by decide +kernel) (by decide) rfl g82 ?_
      obtain ⟨g83, h⟩ := ax_gd_e h
      refine ax_Tasb (n := 960) ok_X12_text.1 (by decide +kernel) (by decide) rfl g83 ?_
      obtain ⟨S84, eS84, h⟩ := ax_let_e h
      rw [eS84]
      refine ax_Tgo [.iinc 3 1] (pc' := 100) (L' := [some (.inr (12, 0)), none, some (.inl (.int x77)), some (.inl (.int (x78 + (1 : Int32))))]) (st' := []) (S' := S84) ok_X12_text.1 (by decide +kernel) rfl rfl ?_
      obtain ⟨v85, ev85, h⟩ := ax_let_e h
      rw [ev85]
      refine ax_Tgoto (off := (-29)) (tgt := 71) (by decide +kernel) (by decide) ?_
      exact ih x77 v85 S84 _ _ h
set_option maxRecDepth 100000 in
theorem t_X12_text {l : Launch} {a1 : Int32} {S Z : AS} {r : Int32} (h : f_X12_text a1 S = some (r, Z)) : ax_M l 73 ma_X12_text [.inr (12, 0), .inl (.int a1)] S (some (.inl (.int r))) Z := by
  unfold f_X12_text at h
  show ax_T l 73 ma_X12_text (0, [some (.inr (12, 0)), some (.inl (.int a1)), none, none], [], S) (some (.inl (.int r))) Z
  refine ax_Tgo [.aload_n 0, .iconst 0, .putfield 93] (pc' := 5) (L' := [some (.inr (12, 0)), some (.inl (.int a1)), none, none]) (st' := []) (S' := (ax_sfi S 12 0 0 (0 : Int32))) ok_X12_text.1 (by decide +kernel) rfl rfl ?_
  obtain ⟨S1, eS1, h⟩ := ax_let_e h
  rw [eS1]
  refine ax_Tgo [.iload_n 1, .i2l, .lconst 0, .ldc2_w 269] (pc' := 11) (L' := [some (.inr (12, 0)), some (.inl (.int a1)), none, none]) (st' := [.inl (.long (2 : Int64)), .inl (.long (0 : Int64)), .inl (.long a1.toInt64)]) (S' := S1) ok_X12_text.1 (by decide +kernel) rfl rfl ?_
  obtain ⟨r5, hq3, h⟩ := ax_bd_e h
  refine ax_TSi (d := 72) [.inl (.long a1.toInt64), .inl (.long (0 : Int64)), .inl (.long (2 : Int64))] [] lk_X12_214 (by decide +kernel) rfl rfl (Nat.le_of_ble_eq_true rfl) (Nat.le_of_ble_eq_true rfl) ((t_X12_isIn hq3).up (by decide)) ?_
  refine ax_Tif_eq (off := 38) (tgt := 52) (by decide +kernel) (by decide) (fun c6 => ?_) (fun c6 => ?_)
  · rw [if_pos c6] at h
    refine ax_Tgo [.iconst (-1)] (pc' := 53) (L' := [some (.inr (12, 0)), some (.inl (.int a1)), none, none]) (st' := [.inl (.int (Int32.ofInt (-1)))]) (S' := S1) ok_X12_text.1 (by decide +kernel) rfl rfl ?_
    cases h
    exact ax_Treti (by decide +kernel) rfl rfl
  · rw [if_neg c6] at h
    refine ax_Tgo [.iload_n 1, .iconst 1] (pc' := 19) (L' := [some (.inr (12, 0)), some (.inl (.int a1)), none, none]) (st' := [.inl (.int (1 : Int32)), .inl (.int a1)]) (S' := S1) ok_X12_text.1 (by decide +kernel) rfl rfl ?_
    refine ax_Tic_ne (off := 11) (tgt := 30) (by decide +kernel) (by decide) (fun c7 => ?_) (fun c7 => ?_)
    · rw [if_neg c7] at h
      refine ax_Tgo [.iload_n 1, .iconst 2] (pc' := 32) (L' := [some (.inr (12, 0)), some (.inl (.int a1)), none, none]) (st' := [.inl (.int (2 : Int32)), .inl (.int a1)]) (S' := S1) ok_X12_text.1 (by decide +kernel) rfl rfl ?_
      refine ax_Tic_ne (off := 11) (tgt := 43) (by decide +kernel) (by decide) (fun c8 => ?_) (fun c8 => ?_)
      · rw [if_neg c8] at h
        refine ax_Tgo [.aload_n 0, .iload_n 1] (pc' := 45) (L' := [some (.inr (12, 0)), some (.inl (.int a1)), none, none]) (st' := [.inl (.int a1), .inr (12, 0)]) (S' := S1) ok_X12_text.1 (by decide +kernel) rfl rfl ?_
        obtain ⟨r12, S9, hq10, h⟩ := ax_bu_e h
        refine ax_TVi (d := 72) (ka := 12) (i := 0) [.inl (.int a1)] [] lk_X12_286 (by decide +kernel) rfl (by decide) rfl (Nat.le_of_ble_eq_true rfl) (Nat.le_of_ble_eq_true rfl) ((t_X12_fault hq10).up (by decide)) ?_
        refine ax_Tgo [.iconst (-1)] (pc' := 49) (L' := [some (.inr (12, 0)), some (.inl (.int a1)), none, none]) (st' := [.inl (.int (Int32.ofInt (-1))), .inl (.int r12)]) (S' := S9) ok_X12_text.1 (by decide +kernel) rfl rfl ?_
        refine ax_Tic_eq (off := 5) (tgt := 54) (by decide +kernel) (by decide) (fun c13 => ?_) (fun c13 => ?_)
        · rw [if_pos c13] at h
          refine ax_Tgo [.aload_n 0, .getfield 106, .istore_n 2] (pc' := 59) (L' := [some (.inr (12, 0)), some (.inl (.int a1)), some (.inl (.int (ax_fi S9 12 0 6))), none]) (st' := []) (S' := S9) ok_X12_text.1 (by decide +kernel) rfl rfl ?_
          obtain ⟨v14, ev14, h⟩ := ax_let_e h
          rw [ev14]
          refine ax_Tgo [.aload_n 0, .iconst 0, .putfield 106] (pc' := 64) (L' := [some (.inr (12, 0)), some (.inl (.int a1)), some (.inl (.int v14)), none]) (st' := []) (S' := (ax_sfi S9 12 0 6 (0 : Int32))) ok_X12_text.1 (by decide +kernel) rfl rfl ?_
          obtain ⟨S15, eS15, h⟩ := ax_let_e h
          rw [eS15]
          refine ax_Tgo [.iload_n 1, .iconst 1] (pc' := 66) (L' := [some (.inr (12, 0)), some (.inl (.int a1)), some (.inl (.int v14)), none]) (st' := [.inl (.int (1 : Int32)), .inl (.int a1)]) (S' := S15) ok_X12_text.1 (by decide +kernel) rfl rfl ?_
          refine ax_Tic_ne (off := 64) (tgt := 130) (by decide +kernel) (by decide) (fun c16 => ?_) (fun c16 => ?_)
          · rw [if_neg c16] at h
            refine ax_Tgo [.iload_n 1, .iconst 2] (pc' := 132) (L' := [some (.inr (12, 0)), some (.inl (.int a1)), some (.inl (.int v14)), none]) (st' := [.inl (.int (2 : Int32)), .inl (.int a1)]) (S' := S15) ok_X12_text.1 (by decide +kernel) rfl rfl ?_
            refine ax_Tic_ne (off := 73) (tgt := 205) (by decide +kernel) (by decide) (fun c17 => ?_) (fun c17 => ?_)
            · rw [if_neg c17] at h
              refine ax_Tgo [.aload_n 0, .aload_n 0, .getfield 242, .putfield 288] (pc' := 213) (L' := [some (.inr (12, 0)), some (.inl (.int a1)), some (.inl (.int v14)), none]) (st' := []) (S' := (ax_sfi S15 12 0 26 (ax_fi S15 12 0 28))) ok_X12_text.1 (by decide +kernel) rfl rfl ?_
              obtain ⟨S18, eS18, h⟩ := ax_let_e h
              rw [eS18]
              refine ax_Tgo [.aload_n 0, .aload_n 0, .getfield 245, .putfield 291] (pc' := 221) (L' := [some (.inr (12, 0)), some (.inl (.int a1)), some (.inl (.int v14)), none]) (st' := []) (S' := (ax_sfi S18 12 0 27 (ax_fi S18 12 0 29))) ok_X12_text.1 (by decide +kernel) rfl rfl ?_
              obtain ⟨S19, eS19, h⟩ := ax_let_e h
              rw [eS19]
              refine ax_Tgo [.iconst 0, .istore_n 3] (pc' := 223) (L' := [some (.inr (12, 0)), some (.inl (.int a1)), some (.inl (.int v14)), some (.inl (.int (0 : Int32)))]) (st' := []) (S' := S19) ok_X12_text.1 (by decide +kernel) rfl rfl ?_
              refine ax_Tdrop [true, false, false, true] (L' := [some (.inr (12, 0)), none, none, some (.inl (.int (0 : Int32)))]) rfl ?_
              refine t_X12_text_L223 ?_ _ (0 : Int32) S19 _ _ h
              · intro S27 r Z h
                refine ax_Tgo [.iconst 0, .istore_n 3] (pc' := 248) (L' := [some (.inr (12, 0)), none, none, some (.inl (.int (0 : Int32)))]) (st' := []) (S' := S27) ok_X12_text.1 (by decide +kernel) rfl rfl ?_
                refine t_X12_text_L248 ?_ _ (0 : Int32) S27 _ _ h
                · intro S35 r Z h
                  refine ax_Tgo [.iconst 0, .istore_n 3] (pc' := 274) (L' := [some (.inr (12, 0)), none, none, some (.inl (.int (0 : Int32)))]) (st' := []) (S' := S35) ok_X12_text.1 (by decide +kernel) rfl rfl ?_
                  refine t_X12_text_L274 ?_ _ (0 : Int32) S35 _ _ h
                  · intro S43 r Z h
                    refine ax_Tgo [.iconst 0, .istore_n 3] (pc' := 300) (L' := [some (.inr (12, 0)), none, none, some (.inl (.int (0 : Int32)))]) (st' := []) (S' := S43) ok_X12_text.1 (by decide +kernel) rfl rfl ?_
                    refine t_X12_text_L300 ?_ _ (0 : Int32) S43 _ _ h
                    · intro S50 r Z h
                      refine ax_Tgo [.iconst 0, .istore_n 3] (pc' := 322) (L' := [some (.inr (12, 0)), none, none, some (.inl (.int (0 : Int32)))]) (st' := []) (S' := S50) ok_X12_text.1 (by decide +kernel) rfl rfl ?_
                      refine t_X12_text_L322 ?_ _ (0 : Int32) S50 _ _ h
                      · intro S58 r Z h
                        refine ax_Tgo [.aload_n 0, .getfield 61, .bipush 21, .aload_n 0, .getfield 37, .iconst 2] (pc' := 368) (L' := [some (.inr (12, 0)), none, none, none]) (st' := [.inl (.int (2 : Int32)), .inr (47, 0), .inl (.int (21 : Int32)), .inr (55, 0)]) (S' := S58) ok_X12_text.1 (by decide +kernel) rfl rfl ?_
                        obtain ⟨g59, h⟩ := ax_gd_e h
                        refine ax_Tali (n := 3) ok_X12_text.1 (by decide +kernel) (by decide) rfl g59 ?_
                        obtain ⟨g60, h⟩ := ax_gd_e h
                        refine ax_Tasi (n := 204) ok_X12_text.1 (by decide +kernel) (by decide) rfl g60 ?_
                        obtain ⟨S61, eS61, h⟩ := ax_let_e h
                        rw [eS61]
                        refine ax_Tgo [.aload_n 0, .iconst 0, .putfield 294] (pc' := 375) (L' := [some (.inr (12, 0)), none, none, none]) (st' := []) (S' := (ax_sfi S61 12 0 47 (0 : Int32))) ok_X12_text.1 (by decide +kernel) rfl rfl ?_
                        obtain ⟨S62, eS62, h⟩ := ax_let_e h
                        rw [eS62]
                        refine ax_Tgo [.aload_n 0, .iconst 0, .putfield 297] (pc' := 380) (L' := [some (.inr (12, 0)), none, none, none]) (st' := []) (S' := (ax_sfi S62 12 0 39 (0 : Int32))) ok_X12_text.1 (by decide +kernel) rfl rfl ?_
                        obtain ⟨S63, eS63, h⟩ := ax_let_e h
                        rw [eS63]
                        refine ax_Tgo [.aload_n 0, .iconst 0, .putfield 300] (pc' := 385) (L' := [some (.inr (12, 0)), none, none, none]) (st' := []) (S' := (ax_sfi S63 12 0 49 (0 : Int32))) ok_X12_text.1 (by decide +kernel) rfl rfl ?_
                        obtain ⟨S64, eS64, h⟩ := ax_let_e h
                        rw [eS64]
                        refine ax_Tgo [.aload_n 0, .getfield 291] (pc' := 389) (L' := [some (.inr (12, 0)), none, none, none]) (st' := [.inl (.int (ax_fi S64 12 0 27))]) (S' := S64) ok_X12_text.1 (by decide +kernel) rfl rfl ?_
                        cases h
                        exact ax_Treti (by decide +kernel) rfl rfl
            · rw [if_pos c17] at h
              refine ax_Tgo [.iconst 0, .istore_n 3] (pc' := 137) (L' := [some (.inr (12, 0)), some (.inl (.int a1)), some (.inl (.int v14)), some (.inl (.int (0 : Int32)))]) (st' := []) (S' := S15) ok_X12_text.1 (by decide +kernel) rfl rfl ?_
              refine ax_Tdrop [true, false, false, true] (L' := [some (.inr (12, 0)), none, none, some (.inl (.int (0 : Int32)))]) rfl ?_
              refine t_X12_text_L137 ?_ _ (0 : Int32) S15 _ _ h
              · intro S72 r Z h
                refine ax_Tgo [.aload_n 0, .getfield 58, .aload_n 0, .getfield 283, .aload_n 0, .getfield 58, .iconst 4] (pc' := 186) (L' := [some (.inr (12, 0)), none, none, none]) (st' := [.inl (.int (4 : Int32)), .inr (54, 0), .inl (.int (ax_fi S72 12 0 30)), .inr (54, 0)]) (S' := S72) ok_X12_text.1 (by decide +kernel) rfl rfl ?_
                obtain ⟨g73, h⟩ := ax_gd_e h
                refine ax_Tali (n := 5) ok_X12_text.1 (by decide +kernel) (by decide) rfl g73 ?_
                obtain ⟨g74, h⟩ := ax_gd_e h
                refine ax_Tasi (n := 5) ok_X12_text.1 (by decide +kernel) (by decide) rfl g74 ?_
                obtain ⟨S75, eS75, h⟩ := ax_let_e h
                rw [eS75]
                refine ax_Tgo [.aload_n 0, .dup, .getfield 283, .iconst 1, .iadd, .putfield 283] (pc' := 198) (L' := [some (.inr (12, 0)), none, none, none]) (st' := []) (S' := (ax_sfi S75 12 0 30 ((ax_fi S75 12 0 30) + (1 : Int32)))) ok_X12_text.1 (by decide +kernel) rfl rfl ?_
                obtain ⟨S76, eS76, h⟩ := ax_let_e h
                rw [eS76]
                refine ax_Tgo [.aload_n 0, .getfield 283, .iconst 1, .isub] (pc' := 204) (L' := [some (.inr (12, 0)), none, none, none]) (st' := [.inl (.int ((ax_fi S76 12 0 30) - (1 : Int32)))]) (S' := S76) ok_X12_text.1 (by decide +kernel) rfl rfl ?_
                cases h
                exact ax_Treti (by decide +kernel) rfl rfl
          · rw [if_pos c16] at h
            refine ax_Tgo [.iconst 0, .istore_n 3] (pc' := 71) (L' := [some (.inr (12, 0)), some (.inl (.int a1)), some (.inl (.int v14)), some (.inl (.int (0 : Int32)))]) (st' := []) (S' := S15) ok_X12_text.1 (by decide +kernel) rfl rfl ?_
            refine ax_Tdrop [true, false, true, true] (L' := [some (.inr (12, 0)), none, some (.inl (.int v14)), some (.inl (.int (0 : Int32)))]) rfl ?_
            refine t_X12_text_L71 ?_ _ v14 (0 : Int32) S15 _ _ h
            · intro x79 S86 r Z h
              refine ax_Tgo [.aload_n 0, .getfield 16, .aload_n 0, .getfield 280, .iload_n 2] (pc' := 112) (L' := [some (.inr (12, 0)), none, some (.inl (.int x79)), none]) (st' := [.inl (.int x79), .inl (.int (ax_fi S86 12 0 7)), .inr (45, 0)]) (S' := S86) ok_X12_text.1 (by decide +kernel) rfl rfl ?_
              obtain ⟨g87, h⟩ := ax_gd_e h
              refine ax_Tasi (n := 4) ok_X12_text.1 (by decide +kernel) (by decide) rfl g87 ?_
              obtain ⟨S88, eS88, h⟩ := ax_let_e h
              rw [eS88]
              refine ax_Tgo [.aload_n 0, .dup, .getfield 280, .iconst 1, .iadd, .putfield 280] (pc' := 123) (L' := [some (.inr (12, 0)), none, some (.inl (.int x79)), none]) (st' := []) (S' := (ax_sfi S88 12 0 7 ((ax_fi S88 12 0 7) + (1 : Int32)))) ok_X12_text.1 (by decide +kernel) rfl rfl ?_
              obtain ⟨S89, eS89, h⟩ := ax_let_e h
              rw [eS89]
              refine ax_Tgo [.aload_n 0, .getfield 280, .iconst 1, .isub] (pc' := 129) (L' := [some (.inr (12, 0)), none, some (.inl (.int x79)), none]) (st' := [.inl (.int ((ax_fi S89 12 0 7) - (1 : Int32)))]) (S' := S89) ok_X12_text.1 (by decide +kernel) rfl rfl ?_
              cases h
              exact ax_Treti (by decide +kernel) rfl rfl
        · rw [if_neg c13] at h
          refine ax_Tgo [.iconst (-1)] (pc' := 53) (L' := [some (.inr (12, 0)), some (.inl (.int a1)), none, none]) (st' := [.inl (.int (Int32.ofInt (-1)))]) (S' := S9) ok_X12_text.1 (by decide +kernel) rfl rfl ?_
          cases h
          exact ax_Treti (by decide +kernel) rfl rfl
      · rw [if_pos c8] at h
        refine ax_Tgo [.aload_n 0, .getfield 283, .iconst 4] (pc' := 40) (L' := [some (.inr (12, 0)), some (.inl (.int a1)), none, none]) (st' := [.inl (.int (4 : Int32)), .inl (.int (ax_fi S1 12 0 30))]) (S' := S1) ok_X12_text.1 (by decide +kernel) rfl rfl ?_
        refine ax_Tic_eq (off := 12) (tgt := 52) (by decide +kernel) (by decide) (fun c90 => ?_) (fun c90 => ?_)
        · rw [if_pos c90] at h
          refine ax_Tgo [.iconst (-1)] (pc' := 53) (L' := [some (.inr (12, 0)), some (.inl (.int a1)), none, none]) (st' := [.inl (.int (Int32.ofInt (-1)))]) (S' := S1) ok_X12_text.1 (by decide +kernel) rfl rfl ?_
          cases h
          exact ax_Treti (by decide +kernel) rfl rfl
        · rw [if_neg c90] at h
          refine ax_Tgo [.aload_n 0, .iload_n 1] (pc' := 45) (L' := [some (.inr (12, 0)), some (.inl (.int a1)), none, none]) (st' := [.inl (.int a1), .inr (12, 0)]) (S' := S1) ok_X12_text.1 (by decide +kernel) rfl rfl ?_
          obtain ⟨r94, S91, hq92, h⟩ := ax_bu_e h
          refine ax_TVi (d := 72) (ka := 12) (i := 0) [.inl (.int a1)] [] lk_X12_286 (by decide +kernel) rfl (by decide) rfl (Nat.le_of_ble_eq_true rfl) (Nat.le_of_ble_eq_true rfl) ((t_X12_fault hq92).up (by decide)) ?_
          refine ax_Tgo [.iconst (-1)] (pc' := 49) (L' := [some (.inr (12, 0)), some (.inl (.int a1)), none, none]) (st' := [.inl (.int (Int32.ofInt (-1))), .inl (.int r94)]) (S' := S91) ok_X12_text.1 (by decide +kernel) rfl rfl ?_
          refine ax_Tic_eq (off := 5) (tgt := 54) (by decide +kernel) (by decide) (fun c95 => ?_) (fun c95 => ?_)
          · rw [if_pos c95] at h
            refine ax_Tgo [.aload_n 0, .getfield 106, .istore_n 2] (pc' := 59) (L' := [some (.inr (12, 0)), some (.inl (.int a1)), some (.inl (.int (ax_fi S91 12 0 6))), none]) (st' := []) (S' := S91) ok_X12_text.1 (by decide +kernel) rfl rfl ?_
            obtain ⟨v96, ev96, h⟩ := ax_let_e h
            rw [ev96]
            refine ax_Tgo [.aload_n 0, .iconst 0, .putfield 106] (pc' := 64) (L' := [some (.inr (12, 0)), some (.inl (.int a1)), some (.inl (.int v96)), none]) (st' := []) (S' := (ax_sfi S91 12 0 6 (0 : Int32))) ok_X12_text.1 (by decide +kernel) rfl rfl ?_
            obtain ⟨S97, eS97, h⟩ := ax_let_e h
            rw [eS97]
            refine ax_Tgo [.iload_n 1, .iconst 1] (pc' := 66) (L' := [some (.inr (12, 0)), some (.inl (.int a1)), some (.inl (.int v96)), none]) (st' := [.inl (.int (1 : Int32)), .inl (.int a1)]) (S' := S97) ok_X12_text.1 (by decide +kernel) rfl rfl ?_
            refine ax_Tic_ne (off := 64) (tgt := 130) (by decide +kernel) (by decide) (fun c98 => ?_) (fun c98 => ?_)
            · rw [if_neg c98] at h
              refine ax_Tgo [.iload_n 1, .iconst 2] (pc' := 132) (L' := [some (.inr (12, 0)), some (.inl (.int a1)), some (.inl (.int v96)), none]) (st' := [.inl (.int (2 : Int32)), .inl (.int a1)]) (S' := S97) ok_X12_text.1 (by decide +kernel) rfl rfl ?_
              refine ax_Tic_ne (off := 73) (tgt := 205) (by decide +kernel) (by decide) (fun c99 => ?_) (fun c99 => ?_)
              · rw [if_neg c99] at h
                refine ax_Tgo [.aload_n 0, .aload_n 0, .getfield 242, .putfield 288] (pc' := 213) (L' := [some (.inr (12, 0)), some (.inl (.int a1)), some (.inl (.int v96)), none]) (st' := []) (S' := (ax_sfi S97 12 0 26 (ax_fi S97 12 0 28))) ok_X12_text.1 (by decide +kernel) rfl rfl ?_
                obtain ⟨S100, eS100, h⟩ := ax_let_e h
                rw [eS100]
                refine ax_Tgo [.aload_n 0, .aload_n 0, .getfield 245, .putfield 291] (pc' := 221) (L' := [some (.inr (12, 0)), some (.inl (.int a1)), some (.inl (.int v96)), none]) (st' := []) (S' := (ax_sfi S100 12 0 27 (ax_fi S100 12 0 29))) ok_X12_text.1 (by decide +kernel) rfl rfl ?_
                obtain ⟨S101, eS101, h⟩ := ax_let_e h
                rw [eS101]
                refine ax_Tgo [.iconst 0, .istore_n 3] (pc' := 223) (L' := [some (.inr (12, 0)), some (.inl (.int a1)), some (.inl (.int v96)), some (.inl (.int (0 : Int32)))]) (st' := []) (S' := S101) ok_X12_text.1 (by decide +kernel) rfl rfl ?_
                refine ax_Tdrop [true, false, false, true] (L' := [some (.inr (12, 0)), none, none, some (.inl (.int (0 : Int32)))]) rfl ?_
                refine t_X12_text_L223 ?_ _ (0 : Int32) S101 _ _ h
                · intro S103 r Z h
                  refine ax_Tgo [.iconst 0, .istore_n 3] (pc' := 248) (L' := [some (.inr (12, 0)), none, none, some (.inl (.int (0 : Int32)))]) (st' := []) (S' := S103) ok_X12_text.1 (by decide +kernel) rfl rfl ?_
                  refine t_X12_text_L248 ?_ _ (0 : Int32) S103 _ _ h
                  · intro S105 r Z h
                    refine ax_Tgo [.iconst 0, .istore_n 3] (pc' := 274) (L' := [some (.inr (12, 0)), none, none, some (.inl (.int (0 : Int32)))]) (st' := []) (S' := S105) ok_X12_text.1 (by decide +kernel) rfl rfl ?_
                    refine t_X12_text_L274 ?_ _ (0 : Int32) S105 _ _ h
                    · intro S107 r Z h
                      refine ax_Tgo [.iconst 0, .istore_n 3] (pc' := 300) (L' := [some (.inr (12, 0)), none, none, some (.inl (.int (0 : Int32)))]) (st' := []) (S' := S107) ok_X12_text.1 (by decide +kernel) rfl rfl ?_
                      refine t_X12_text_L300 ?_ _ (0 : Int32) S107 _ _ h
                      · intro S109 r Z h
                        refine ax_Tgo [.iconst 0, .istore_n 3] (pc' := 322) (L' := [some (.inr (12, 0)), none, none, some (.inl (.int (0 : Int32)))]) (st' := []) (S' := S109) ok_X12_text.1 (by decide +kernel) rfl rfl ?_
                        refine t_X12_text_L322 ?_ _ (0 : Int32) S109 _ _ h
                        · intro S111 r Z h
                          refine ax_Tgo [.aload_n 0, .getfield 61, .bipush 21, .aload_n 0, .getfield 37, .iconst 2] (pc' := 368) (L' := [some (.inr (12, 0)), none, none, none]) (st' := [.inl (.int (2 : Int32)), .inr (47, 0), .inl (.int (21 : Int32)), .inr (55, 0)]) (S' := S111) ok_X12_text.1 (by decide +kernel) rfl rfl ?_
                          obtain ⟨g112, h⟩ := ax_gd_e h
                          refine ax_Tali (n := 3) ok_X12_text.1 (by decide +kernel) (by decide) rfl g112 ?_
                          obtain ⟨g113, h⟩ := ax_gd_e h
                          refine ax_Tasi (n := 204) ok_X12_text.1 (by decide +kernel) (by decide) rfl g113 ?_
                          obtain ⟨S114, eS114, h⟩ := ax_let_e h
                          rw [eS114]
                          refine ax_Tgo [.aload_n 0, .iconst 0, .putfield 294] (pc' := 375) (L' := [some (.inr (12, 0)), none, none, none]) (st' := []) (S' := (ax_sfi S114 12 0 47 (0 : Int32))) ok_X12_text.1 (by decide +kernel) rfl rfl ?_
                          obtain ⟨S115, eS115, h⟩ := ax_let_e h
                          rw [eS115]
                          refine ax_Tgo [.aload_n 0, .iconst 0, .putfield 297] (pc' := 380) (L' := [some (.inr (12, 0)), none, none, none]) (st' := []) (S' := (ax_sfi S115 12 0 39 (0 : Int32))) ok_X12_text.1 (by decide +kernel) rfl rfl ?_
                          obtain ⟨S116, eS116, h⟩ := ax_let_e h
                          rw [eS116]
                          refine ax_Tgo [.aload_n 0, .iconst 0, .putfield 300] (pc' := 385) (L' := [some (.inr (12, 0)), none, none, none]) (st' := []) (S' := (ax_sfi S116 12 0 49 (0 : Int32))) ok_X12_text.1 (by decide +kernel) rfl rfl ?_
                          obtain ⟨S117, eS117, h⟩ := ax_let_e h
                          rw [eS117]
                          refine ax_Tgo [.aload_n 0, .getfield 291] (pc' := 389) (L' := [some (.inr (12, 0)), none, none, none]) (st' := [.inl (.int (ax_fi S117 12 0 27))]) (S' := S117) ok_X12_text.1 (by decide +kernel) rfl rfl ?_
                          cases h
                          exact ax_Treti (by decide +kernel) rfl rfl
              · rw [if_pos c99] at h
                refine ax_Tgo [.iconst 0, .istore_n 3] (pc' := 137) (L' := [some (.inr (12, 0)), some (.inl (.int a1)), some (.inl (.int v96)), some (.inl (.int (0 : Int32)))]) (st' := []) (S' := S97) ok_X12_text.1 (by decide +kernel) rfl rfl ?_
                refine ax_Tdrop [true, false, false, true] (L' := [some (.inr (12, 0)), none, none, some (.inl (.int (0 : Int32)))]) rfl ?_
                refine t_X12_text_L137 ?_ _ (0 : Int32) S97 _ _ h
                · intro S119 r Z h
                  refine ax_Tgo [.aload_n 0, .getfield 58, .aload_n 0, .getfield 283, .aload_n 0, .getfield 58, .iconst 4] (pc' := 186) (L' := [some (.inr (12, 0)), none, none, none]) (st' := [.inl (.int (4 : Int32)), .inr (54, 0), .inl (.int (ax_fi S119 12 0 30)), .inr (54, 0)]) (S' := S119) ok_X12_text.1 (by decide +kernel) rfl rfl ?_
                  obtain ⟨g120, h⟩ := ax_gd_e h
                  refine ax_Tali (n := 5) ok_X12_text.1 (by decide +kernel) (by decide) rfl g120 ?_
                  obtain ⟨g121, h⟩ := ax_gd_e h
                  refine ax_Tasi (n := 5) ok_X12_text.1 (by decide +kernel) (by decide) rfl g121 ?_
                  obtain ⟨S122, eS122, h⟩ := ax_let_e h
                  rw [eS122]
                  refine ax_Tgo [.aload_n 0, .dup, .getfield 283, .iconst 1, .iadd, .putfield 283] (pc' := 198) (L' := [some (.inr (12, 0)), none, none, none]) (st' := []) (S' := (ax_sfi S122 12 0 30 ((ax_fi S122 12 0 30) + (1 : Int32)))) ok_X12_text.1 (by decide +kernel) rfl rfl ?_
                  obtain ⟨S123, eS123, h⟩ := ax_let_e h
                  rw [eS123]
                  refine ax_Tgo [.aload_n 0, .getfield 283, .iconst 1, .isub] (pc' := 204) (L' := [some (.inr (12, 0)), none, none, none]) (st' := [.inl (.int ((ax_fi S123 12 0 30) - (1 : Int32)))]) (S' := S123) ok_X12_text.1 (by decide +kernel) rfl rfl ?_
                  cases h
                  exact ax_Treti (by decide +kernel) rfl rfl
            · rw [if_pos c98] at h
              refine ax_Tgo [.iconst 0, .istore_n 3] (pc' := 71) (L' := [some (.inr (12, 0)), some (.inl (.int a1)), some (.inl (.int v96)), some (.inl (.int (0 : Int32)))]) (st' := []) (S' := S97) ok_X12_text.1 (by decide +kernel) rfl rfl ?_
              refine ax_Tdrop [true, false, true, true] (L' := [some (.inr (12, 0)), none, some (.inl (.int v96)), some (.inl (.int (0 : Int32)))]) rfl ?_
              refine t_X12_text_L71 ?_ _ v96 (0 : Int32) S97 _ _ h
              · intro x79 S126 r Z h
                refine ax_Tgo [.aload_n 0, .getfield 16, .aload_n 0, .getfield 280, .iload_n 2] (pc' := 112) (L' := [some (.inr (12, 0)), none, some (.inl (.int x79)), none]) (st' := [.inl (.int x79), .inl (.int (ax_fi S126 12 0 7)), .inr (45, 0)]) (S' := S126) ok_X12_text.1 (by decide +kernel) rfl rfl ?_
                obtain ⟨g127, h⟩ := ax_gd_e h
                refine ax_Tasi (n := 4) ok_X12_text.1 (by decide +kernel) (by decide) rfl g127 ?_
                obtain ⟨S128, eS128, h⟩ := ax_let_e h
                rw [eS128]
                refine ax_Tgo [.aload_n 0, .dup, .getfield 280, .iconst 1, .iadd, .putfield 280] (pc' := 123) (L' := [some (.inr (12, 0)), none, some (.inl (.int x79)), none]) (st' := []) (S' := (ax_sfi S128 12 0 7 ((ax_fi S128 12 0 7) + (1 : Int32)))) ok_X12_text.1 (by decide +kernel) rfl rfl ?_
                obtain ⟨S129, eS129, h⟩ := ax_let_e h
                rw [eS129]
                refine ax_Tgo [.aload_n 0, .getfield 280, .iconst 1, .isub] (pc' := 129) (L' := [some (.inr (12, 0)), none, some (.inl (.int x79)), none]) (st' := [.inl (.int ((ax_fi S129 12 0 7) - (1 : Int32)))]) (S' := S129) ok_X12_text.1 (by decide +kernel) rfl rfl ?_
                cases h
                exact ax_Treti (by decide +kernel) rfl rfl
          · rw [if_neg c95] at h
            refine ax_Tgo [.iconst (-1)] (pc' := 53) (L' := [some (.inr (12, 0)), some (.inl (.int a1)), none, none]) (st' := [.inl (.int (Int32.ofInt (-1)))]) (S' := S91) ok_X12_text.1 (by decide +kernel) rfl rfl ?_
            cases h
            exact ax_Treti (by decide +kernel) rfl rfl
    · rw [if_pos c7] at h
      refine ax_Tgo [.aload_n 0, .getfield 280, .iconst 4] (pc' := 27) (L' := [some (.inr (12, 0)), some (.inl (.int a1)), none, none]) (st' := [.inl (.int (4 : Int32)), .inl (.int (ax_fi S1 12 0 7))]) (S' := S1) ok_X12_text.1 (by decide +kernel) rfl rfl ?_
      refine ax_Tic_eq (off := 25) (tgt := 52) (by decide +kernel) (by decide) (fun c130 => ?_) (fun c130 => ?_)
      · rw [if_pos c130] at h
        refine ax_Tgo [.iconst (-1)] (pc' := 53) (L' := [some (.inr (12, 0)), some (.inl (.int a1)), none, none]) (st' := [.inl (.int (Int32.ofInt (-1)))]) (S' := S1) ok_X12_text.1 (by decide +kernel) rfl rfl ?_
        cases h
        exact ax_Treti (by decide +kernel) rfl rfl
      · rw [if_neg c130] at h
        refine ax_Tgo [.iload_n 1, .iconst 2] (pc' := 32) (L' := [some (.inr (12, 0)), some (.inl (.int a1)), none, none]) (st' := [.inl (.int (2 : Int32)), .inl (.int a1)]) (S' := S1) ok_X12_text.1 (by decide +kernel) rfl rfl ?_
        refine ax_Tic_ne (off := 11) (tgt := 43) (by decide +kernel) (by decide) (fun c131 => ?_) (fun c131 => ?_)
        · rw [if_neg c131] at h
          refine ax_Tgo [.aload_n 0, .iload_n 1] (pc' := 45) (L' := [some (.inr (12, 0)), some (.inl (.int a1)), none, none]) (st' := [.inl (.int a1), .inr (12, 0)]) (S' := S1) ok_X12_text.1 (by decide +kernel) rfl rfl ?_
          obtain ⟨r135, S132, hq133, h⟩ := ax_bu_e h
          refine ax_TVi (d := 72) (ka := 12) (i := 0) [.inl (.int a1)] [] lk_X12_286 (by decide +kernel) rfl (by decide) rfl (Nat.le_of_ble_eq_true rfl) (Nat.le_of_ble_eq_true rfl) ((t_X12_fault hq133).up (by decide)) ?_
          refine ax_Tgo [.iconst (-1)] (pc' := 49) (L' := [some (.inr (12, 0)), some (.inl (.int a1)), none, none]) (st' := [.inl (.int (Int32.ofInt (-1))), .inl (.int r135)]) (S' := S132) ok_X12_text.1 (by decide +kernel) rfl rfl ?_
          refine ax_Tic_eq (off := 5) (tgt := 54) (by decide +kernel) (by decide) (fun c136 => ?_) (fun c136 => ?_)
          · rw [if_pos c136] at h
            refine ax_Tgo [.aload_n 0, .getfield 106, .istore_n 2] (pc' := 59) (L' := [some (.inr (12, 0)), some (.inl (.int a1)), some (.inl (.int (ax_fi S132 12 0 6))), none]) (st' := []) (S' := S132) ok_X12_text.1 (by decide +kernel) rfl rfl ?_
            obtain ⟨v137, ev137, h⟩ := ax_let_e h
            rw [ev137]
            refine ax_Tgo [.aload_n 0, .iconst 0, .putfield 106] (pc' := 64) (L' := [some (.inr (12, 0)), some (.inl (.int a1)), some (.inl (.int v137)), none]) (st' := []) (S' := (ax_sfi S132 12 0 6 (0 : Int32))) ok_X12_text.1 (by decide +kernel) rfl rfl ?_
            obtain ⟨S138, eS138, h⟩ := ax_let_e h
            rw [eS138]
            refine ax_Tgo [.iload_n 1, .iconst 1] (pc' := 66) (L' := [some (.inr (12, 0)), some (.inl (.int a1)), some (.inl (.int v137)), none]) (st' := [.inl (.int (1 : Int32)), .inl (.int a1)]) (S' := S138) ok_X12_text.1 (by decide +kernel) rfl rfl ?_
            refine ax_Tic_ne (off := 64) (tgt := 130) (by decide +kernel) (by decide) (fun c139 => ?_) (fun c139 => ?_)
            · rw [if_neg c139] at h
              refine ax_Tgo [.iload_n 1, .iconst 2] (pc' := 132) (L' := [some (.inr (12, 0)), some (.inl (.int a1)), some (.inl (.int v137)), none]) (st' := [.inl (.int (2 : Int32)), .inl (.int a1)]) (S' := S138) ok_X12_text.1 (by decide +kernel) rfl rfl ?_
              refine ax_Tic_ne (off := 73) (tgt := 205) (by decide +kernel) (by decide) (fun c140 => ?_) (fun c140 => ?_)
              · rw [if_neg c140] at h
                refine ax_Tgo [.aload_n 0, .aload_n 0, .getfield 242, .putfield 288] (pc' := 213) (L' := [some (.inr (12, 0)), some (.inl (.int a1)), some (.inl (.int v137)), none]) (st' := []) (S' := (ax_sfi S138 12 0 26 (ax_fi S138 12 0 28))) ok_X12_text.1 (by decide +kernel) rfl rfl ?_
                obtain ⟨S141, eS141, h⟩ := ax_let_e h
                rw [eS141]
                refine ax_Tgo [.aload_n 0, .aload_n 0, .getfield 245, .putfield 291] (pc' := 221) (L' := [some (.inr (12, 0)), some (.inl (.int a1)), some (.inl (.int v137)), none]) (st' := []) (S' := (ax_sfi S141 12 0 27 (ax_fi S141 12 0 29))) ok_X12_text.1 (by decide +kernel) rfl rfl ?_
                obtain ⟨S142, eS142, h⟩ := ax_let_e h
                rw [eS142]
                refine ax_Tgo [.iconst 0, .istore_n 3] (pc' := 223) (L' := [some (.inr (12, 0)), some (.inl (.int a1)), some (.inl (.int v137)), some (.inl (.int (0 : Int32)))]) (st' := []) (S' := S142) ok_X12_text.1 (by decide +kernel) rfl rfl ?_
                refine ax_Tdrop [true, false, false, true] (L' := [some (.inr (12, 0)), none, none, some (.inl (.int (0 : Int32)))]) rfl ?_
                refine t_X12_text_L223 ?_ _ (0 : Int32) S142 _ _ h
                · intro S144 r Z h
                  refine ax_Tgo [.iconst 0, .istore_n 3] (pc' := 248) (L' := [some (.inr (12, 0)), none, none, some (.inl (.int (0 : Int32)))]) (st' := []) (S' := S144) ok_X12_text.1 (by decide +kernel) rfl rfl ?_
                  refine t_X12_text_L248 ?_ _ (0 : Int32) S144 _ _ h
                  · intro S146 r Z h
                    refine ax_Tgo [.iconst 0, .istore_n 3] (pc' := 274) (L' := [some (.inr (12, 0)), none, none, some (.inl (.int (0 : Int32)))]) (st' := []) (S' := S146) ok_X12_text.1 (by decide +kernel) rfl rfl ?_
                    refine t_X12_text_L274 ?_ _ (0 : Int32) S146 _ _ h
                    · intro S148 r Z h
                      refine ax_Tgo [.iconst 0, .istore_n 3] (pc' := 300) (L' := [some (.inr (12, 0)), none, none, some (.inl (.int (0 : Int32)))]) (st' := []) (S' := S148) ok_X12_text.1 (by decide +kernel) rfl rfl ?_
                      refine t_X12_text_L300 ?_ _ (0 : Int32) S148 _ _ h
                      · intro S150 r Z h
                        refine ax_Tgo [.iconst 0, .istore_n 3] (pc' := 322) (L' := [some (.inr (12, 0)), none, none, some (.inl (.int (0 : Int32)))]) (st' := []) (S' := S150) ok_X12_text.1 (by decide +kernel) rfl rfl ?_
                        refine t_X12_text_L322 ?_ _ (0 : Int32) S150 _ _ h
                        · intro S152 r Z h
                          refine ax_Tgo [.aload_n 0, .getfield 61, .bipush 21, .aload_n 0, .getfield 37, .iconst 2] (pc' := 368) (L' := [some (.inr (12, 0)), none, none, none]) (st' := [.inl (.int (2 : Int32)), .inr (47, 0), .inl (.int (21 : Int32)), .inr (55, 0)]) (S' := S152) ok_X12_text.1 (by decide +kernel) rfl rfl ?_
                          obtain ⟨g153, h⟩ := ax_gd_e h
                          refine ax_Tali (n := 3) ok_X12_text.1 (by decide +kernel) (by decide) rfl g153 ?_
                          obtain ⟨g154, h⟩ := ax_gd_e h
                          refine ax_Tasi (n := 204) ok_X12_text.1 (by decide +kernel) (by decide) rfl g154 ?_
                          obtain ⟨S155, eS155, h⟩ := ax_let_e h
                          rw [eS155]
                          refine ax_Tgo [.aload_n 0, .iconst 0, .putfield 294] (pc' := 375) (L' := [some (.inr (12, 0)), none, none, none]) (st' := []) (S' := (ax_sfi S155 12 0 47 (0 : Int32))) ok_X12_text.1 (by decide +kernel) rfl rfl ?_
                          obtain ⟨S156, eS156, h⟩ := ax_let_e h
                          rw [eS156]
                          refine ax_Tgo [.aload_n 0, .iconst 0, .putfield 297] (pc' := 380) (L' := [some (.inr (12, 0)), none, none, none]) (st' := []) (S' := (ax_sfi S156 12 0 39 (0 : Int32))) ok_X12_text.1 (by decide +kernel) rfl rfl ?_
                          obtain ⟨S157, eS157, h⟩ := ax_let_e h
                          rw [eS157]
                          refine ax_Tgo [.aload_n 0, .iconst 0, .putfield 300] (pc' := 385) (L' := [some (.inr (12, 0)), none, none, none]) (st' := []) (S' := (ax_sfi S157 12 0 49 (0 : Int32))) ok_X12_text.1 (by decide +kernel) rfl rfl ?_
                          obtain ⟨S158, eS158, h⟩ := ax_let_e h
                          rw [eS158]
                          refine ax_Tgo [.aload_n 0, .getfield 291] (pc' := 389) (L' := [some (.inr (12, 0)), none, none, none]) (st' := [.inl (.int (ax_fi S158 12 0 27))]) (S' := S158) ok_X12_text.1 (by decide +kernel) rfl rfl ?_
                          cases h
                          exact ax_Treti (by decide +kernel) rfl rfl
              · rw [if_pos c140] at h
                refine ax_Tgo [.iconst 0, .istore_n 3] (pc' := 137) (L' := [some (.inr (12, 0)), some (.inl (.int a1)), some (.inl (.int v137)), some (.inl (.int (0 : Int32)))]) (st' := []) (S' := S138) ok_X12_text.1 (by decide +kernel) rfl rfl ?_
                refine ax_Tdrop [true, false, false, true] (L' := [some (.inr (12, 0)), none, none, some (.inl (.int (0 : Int32)))]) rfl ?_
                refine t_X12_text_L137 ?_ _ (0 : Int32) S138 _ _ h
                · intro S160 r Z h
                  refine ax_Tgo [.aload_n 0, .getfield 58, .aload_n 0, .getfield 283, .aload_n 0, .getfield 58, .iconst 4] (pc' := 186) (L' := [some (.inr (12, 0)), none, none, none]) (st' := [.inl (.int (4 : Int32)), .inr (54, 0), .inl (.int (ax_fi S160 12 0 30)), .inr (54, 0)]) (S' := S160) ok_X12_text.1 (by decide +kernel) rfl rfl ?_
                  obtain ⟨g161, h⟩ := ax_gd_e h
                  refine ax_Tali (n := 5) ok_X12_text.1 (by decide +kernel) (by decide) rfl g161 ?_
                  obtain ⟨g162, h⟩ := ax_gd_e h
                  refine ax_Tasi (n := 5) ok_X12_text.1 (by decide +kernel) (by decide) rfl g162 ?_
                  obtain ⟨S163, eS163, h⟩ := ax_let_e h
                  rw [eS163]
                  refine ax_Tgo [.aload_n 0, .dup, .getfield 283, .iconst 1, .iadd, .putfield 283] (pc' := 198) (L' := [some (.inr (12, 0)), none, none, none]) (st' := []) (S' := (ax_sfi S163 12 0 30 ((ax_fi S163 12 0 30) + (1 : Int32)))) ok_X12_text.1 (by decide +kernel) rfl rfl ?_
                  obtain ⟨S164, eS164, h⟩ := ax_let_e h
                  rw [eS164]
                  refine ax_Tgo [.aload_n 0, .getfield 283, .iconst 1, .isub] (pc' := 204) (L' := [some (.inr (12, 0)), none, none, none]) (st' := [.inl (.int ((ax_fi S164 12 0 30) - (1 : Int32)))]) (S' := S164) ok_X12_text.1 (by decide +kernel) rfl rfl ?_
                  cases h
                  exact ax_Treti (by decide +kernel) rfl rfl
            · rw [if_pos c139] at h
              refine ax_Tgo [.iconst 0, .istore_n 3] (pc' := 71) (L' := [some (.inr (12, 0)), some (.inl (.int a1)), some (.inl (.int v137)), some (.inl (.int (0 : Int32)))]) (st' := []) (S' := S138) ok_X12_text.1 (by decide +kernel) rfl rfl ?_
              refine ax_Tdrop [true, false, true, true] (L' := [some (.inr (12, 0)), none, some (.inl (.int v137)), some (.inl (.int (0 : Int32)))]) rfl ?_
              refine t_X12_text_L71 ?_ _ v137 (0 : Int32) S138 _ _ h
              · intro x79 S167 r Z h
                refine ax_Tgo [.aload_n 0, .getfield 16, .aload_n 0, .getfield 280, .iload_n 2] (pc' := 112) (L' := [some (.inr (12, 0)), none, some (.inl (.int x79)), none]) (st' := [.inl (.int x79), .inl (.int (ax_fi S167 12 0 7)), .inr (45, 0)]) (S' := S167) ok_X12_text.1 (by decide +kernel) rfl rfl ?_
                obtain ⟨g168, h⟩ := ax_gd_e h
                refine ax_Tasi (n := 4) ok_X12_text.1 (by decide +kernel) (by decide) rfl g168 ?_
                obtain ⟨S169, eS169, h⟩ := ax_let_e h
                rw [eS169]
                refine ax_Tgo [.aload_n 0, .dup, .getfield 280, .iconst 1, .iadd, .putfield 280] (pc' := 123) (L' := [some (.inr (12, 0)), none, some (.inl (.int x79)), none]) (st' := []) (S' := (ax_sfi S169 12 0 7 ((ax_fi S169 12 0 7) + (1 : Int32)))) ok_X12_text.1 (by decide +kernel) rfl rfl ?_
                obtain ⟨S170, eS170, h⟩ := ax_let_e h
                rw [eS170]
                refine ax_Tgo [.aload_n 0, .getfield 280, .iconst 1, .isub] (pc' := 129) (L' := [some (.inr (12, 0)), none, some (.inl (.int x79)), none]) (st' := [.inl (.int ((ax_fi S170 12 0 7) - (1 : Int32)))]) (S' := S170) ok_X12_text.1 (by decide +kernel) rfl rfl ?_
                cases h
                exact ax_Treti (by decide +kernel) rfl rfl
          · rw [if_neg c136] at h
            refine ax_Tgo [.iconst (-1)] (pc' := 53) (L' := [some (.inr (12, 0)), some (.inl (.int a1)), none, none]) (st' := [.inl (.int (Int32.ofInt (-1)))]) (S' := S132) ok_X12_text.1 (by decide +kernel) rfl rfl ?_
            cases h
            exact ax_Treti (by decide +kernel) rfl rfl
        · rw [if_pos c131] at h
          refine ax_Tgo [.aload_n 0, .getfield 283, .iconst 4] (pc' := 40) (L' := [some (.inr (12, 0)), some (.inl (.int a1)), none, none]) (st' := [.inl (.int (4 : Int32)), .inl (.int (ax_fi S1 12 0 30))]) (S' := S1) ok_X12_text.1 (by decide +kernel) rfl rfl ?_
          refine ax_Tic_eq (off := 12) (tgt := 52) (by decide +kernel) (by decide) (fun c171 => ?_) (fun c171 => ?_)
          · rw [if_pos c171] at h
            refine ax_Tgo [.iconst (-1)] (pc' := 53) (L' := [some (.inr (12, 0)), some (.inl (.int a1)), none, none]) (st' := [.inl (.int (Int32.ofInt (-1)))]) (S' := S1) ok_X12_text.1 (by decide +kernel) rfl rfl ?_
            cases h
            exact ax_Treti (by decide +kernel) rfl rfl
          · rw [if_neg c171] at h
            refine ax_Tgo [.aload_n 0, .iload_n 1] (pc' := 45) (L' := [some (.inr (12, 0)), some (.inl (.int a1)), none, none]) (st' := [.inl (.int a1), .inr (12, 0)]) (S' := S1) ok_X12_text.1 (by decide +kernel) rfl rfl ?_
            obtain ⟨r175, S172, hq173, h⟩ := ax_bu_e h
            refine ax_TVi (d := 72) (ka := 12) (i := 0) [.inl (.int a1)] [] lk_X12_286 (by decide +kernel) rfl (by decide) rfl (Nat.le_of_ble_eq_true rfl) (Nat.le_of_ble_eq_true rfl) ((t_X12_fault hq173).up (by decide)) ?_
            refine ax_Tgo [.iconst (-1)] (pc' := 49) (L' := [some (.inr (12, 0)), some (.inl (.int a1)), none, none]) (st' := [.inl (.int (Int32.ofInt (-1))), .inl (.int r175)]) (S' := S172) ok_X12_text.1 (by decide +kernel) rfl rfl ?_
            refine ax_Tic_eq (off := 5) (tgt := 54) (by decide +kernel) (by decide) (fun c176 => ?_) (fun c176 => ?_)
            · rw [if_pos c176] at h
              refine ax_Tgo [.aload_n 0, .getfield 106, .istore_n 2] (pc' := 59) (L' := [some (.inr (12, 0)), some (.inl (.int a1)), some (.inl (.int (ax_fi S172 12 0 6))), none]) (st' := []) (S' := S172) ok_X12_text.1 (by decide +kernel) rfl rfl ?_
              obtain ⟨v177, ev177, h⟩ := ax_let_e h
              rw [ev177]
              refine ax_Tgo [.aload_n 0, .iconst 0, .putfield 106] (pc' := 64) (L' := [some (.inr (12, 0)), some (.inl (.int a1)), some (.inl (.int v177)), none]) (st' := []) (S' := (ax_sfi S172 12 0 6 (0 : Int32))) ok_X12_text.1 (by decide +kernel) rfl rfl ?_
              obtain ⟨S178, eS178, h⟩ := ax_let_e h
              rw [eS178]
              refine ax_Tgo [.iload_n 1, .iconst 1] (pc' := 66) (L' := [some (.inr (12, 0)), some (.inl (.int a1)), some (.inl (.int v177)), none]) (st' := [.inl (.int (1 : Int32)), .inl (.int a1)]) (S' := S178) ok_X12_text.1 (by decide +kernel) rfl rfl ?_
              refine ax_Tic_ne (off := 64) (tgt := 130) (by decide +kernel) (by decide) (fun c179 => ?_) (fun c179 => ?_)
              · rw [if_neg c179] at h
                refine ax_Tgo [.iload_n 1, .iconst 2] (pc' := 132) (L' := [some (.inr (12, 0)), some (.inl (.int a1)), some (.inl (.int v177)), none]) (st' := [.inl (.int (2 : Int32)), .inl (.int a1)]) (S' := S178) ok_X12_text.1 (by decide +kernel) rfl rfl ?_
                refine ax_Tic_ne (off := 73) (tgt := 205) (by decide +kernel) (by decide) (fun c180 => ?_) (fun c180 => ?_)
                · rw [if_neg c180] at h
                  refine ax_Tgo [.aload_n 0, .aload_n 0, .getfield 242, .putfield 288] (pc' := 213) (L' := [some (.inr (12, 0)), some (.inl (.int a1)), some (.inl (.int v177)), none]) (st' := []) (S' := (ax_sfi S178 12 0 26 (ax_fi S178 12 0 28))) ok_X12_text.1 (by decide +kernel) rfl rfl ?_
                  obtain ⟨S181, eS181, h⟩ := ax_let_e h
                  rw [eS181]
                  refine ax_Tgo [.aload_n 0, .aload_n 0, .getfield 245, .putfield 291] (pc' := 221) (L' := [some (.inr (12, 0)), some (.inl (.int a1)), some (.inl (.int v177)), none]) (st' := []) (S' := (ax_sfi S181 12 0 27 (ax_fi S181 12 0 29))) ok_X12_text.1 (by decide +kernel) rfl rfl ?_
                  obtain ⟨S182, eS182, h⟩ := ax_let_e h
                  rw [eS182]
                  refine ax_Tgo [.iconst 0, .istore_n 3] (pc' := 223) (L' := [some (.inr (12, 0)), some (.inl (.int a1)), some (.inl (.int v177)), some (.inl (.int (0 : Int32)))]) (st' := []) (S' := S182) ok_X12_text.1 (by decide +kernel) rfl rfl ?_
                  refine ax_Tdrop [true, false, false, true] (L' := [some (.inr (12, 0)), none, none, some (.inl (.int (0 : Int32)))]) rfl ?_
                  refine t_X12_text_L223 ?_ _ (0 : Int32) S182 _ _ h
                  · intro S184 r Z h
                    refine ax_Tgo [.iconst 0, .istore_n 3] (pc' := 248) (L' := [some (.inr (12, 0)), none, none, some (.inl (.int (0 : Int32)))]) (st' := []) (S' := S184) ok_X12_text.1 (by decide +kernel) rfl rfl ?_
                    refine t_X12_text_L248 ?_ _ (0 : Int32) S184 _ _ h
                    · intro S186 r Z h
                      refine ax_Tgo [.iconst 0, .istore_n 3] (pc' := 274) (L' := [some (.inr (12, 0)), none, none, some (.inl (.int (0 : Int32)))]) (st' := []) (S' := S186) ok_X12_text.1 (by decide +kernel) rfl rfl ?_
                      refine t_X12_text_L274 ?_ _ (0 : Int32) S186 _ _ h
                      · intro S188 r Z h
                        refine ax_Tgo [.iconst 0, .istore_n 3] (pc' := 300) (L' := [some (.inr (12, 0)), none, none, some (.inl (.int (0 : Int32)))]) (st' := []) (S' := S188) ok_X12_text.1 (by decide +kernel) rfl rfl ?_
                        refine t_X12_text_L300 ?_ _ (0 : Int32) S188 _ _ h
                        · intro S190 r Z h
                          refine ax_Tgo [.iconst 0, .istore_n 3] (pc' := 322) (L' := [some (.inr (12, 0)), none, none, some (.inl (.int (0 : Int32)))]) (st' := []) (S' := S190) ok_X12_text.1 (by decide +kernel) rfl rfl ?_
                          refine t_X12_text_L322 ?_ _ (0 : Int32) S190 _ _ h
                          · intro S192 r Z h
                            refine ax_Tgo [.aload_n 0, .getfield 61, .bipush 21, .aload_n 0, .getfield 37, .iconst 2] (pc' := 368) (L' := [some (.inr (12, 0)), none, none, none]) (st' := [.inl (.int (2 : Int32)), .inr (47, 0), .inl (.int (21 : Int32)), .inr (55, 0)]) (S' := S192) ok_X12_text.1 (by decide +kernel) rfl rfl ?_
                            obtain ⟨g193, h⟩ := ax_gd_e h
                            refine ax_Tali (n := 3) ok_X12_text.1 (by decide +kernel) (by decide) rfl g193 ?_
                            obtain ⟨g194, h⟩ := ax_gd_e h
                            refine ax_Tasi (n := 204) ok_X12_text.1 (by decide +kernel) (by decide) rfl g194 ?_
                            obtain ⟨S195, eS195, h⟩ := ax_let_e h
                            rw [eS195]
                            refine ax_Tgo [.aload_n 0, .iconst 0, .putfield 294] (pc' := 375) (L' := [some (.inr (12, 0)), none, none, none]) (st' := []) (S' := (ax_sfi S195 12 0 47 (0 : Int32))) ok_X12_text.1 (by decide +kernel) rfl rfl ?_
                            obtain ⟨S196, eS196, h⟩ := ax_let_e h
                            rw [eS196]
                            refine ax_Tgo [.aload_n 0, .iconst 0, .putfield 297] (pc' := 380) (L' := [some (.inr (12, 0)), none, none, none]) (st' := []) (S' := (ax_sfi S196 12 0 39 (0 : Int32))) ok_X12_text.1 (by decide +kernel) rfl rfl ?_
                            obtain ⟨S197, eS197, h⟩ := ax_let_e h
                            rw [eS197]
                            refine ax_Tgo [.aload_n 0, .iconst 0, .putfield 300] (pc' := 385) (L' := [some (.inr (12, 0)), none, none, none]) (st' := []) (S' := (ax_sfi S197 12 0 49 (0 : Int32))) ok_X12_text.1 (by decide +kernel) rfl rfl ?_
                            obtain ⟨S198, eS198, h⟩ := ax_let_e h
                            rw [eS198]
                            refine ax_Tgo [.aload_n 0, .getfield 291] (pc' := 389) (L' := [some (.inr (12, 0)), none, none, none]) (st' := [.inl (.int (ax_fi S198 12 0 27))]) (S' := S198) ok_X12_text.1 (by decide +kernel) rfl rfl ?_
                            cases h
                            exact ax_Treti (by decide +kernel) rfl rfl
                · rw [if_pos c180] at h
                  refine ax_Tgo [.iconst 0, .istore_n 3] (pc' := 137) (L' := [some (.inr (12, 0)), some (.inl (.int a1)), some (.inl (.int v177)), some (.inl (.int (0 : Int32)))]) (st' := []) (S' := S178) ok_X12_text.1 (by decide +kernel) rfl rfl ?_
                  refine ax_Tdrop [true, false, false, true] (L' := [some (.inr (12, 0)), none, none, some (.inl (.int (0 : Int32)))]) rfl ?_
                  refine t_X12_text_L137 ?_ _ (0 : Int32) S178 _ _ h
                  · intro S200 r Z h
                    refine ax_Tgo [.aload_n 0, .getfield 58, .aload_n 0, .getfield 283, .aload_n 0, .getfield 58, .iconst 4] (pc' := 186) (L' := [some (.inr (12, 0)), none, none, none]) (st' := [.inl (.int (4 : Int32)), .inr (54, 0), .inl (.int (ax_fi S200 12 0 30)), .inr (54, 0)]) (S' := S200) ok_X12_text.1 (by decide +kernel) rfl rfl ?_
                    obtain ⟨g201, h⟩ := ax_gd_e h
                    refine ax_Tali (n := 5) ok_X12_text.1 (by decide +kernel) (by decide) rfl g201 ?_
                    obtain ⟨g202, h⟩ := ax_gd_e h
                    refine ax_Tasi (n := 5) ok_X12_text.1 (by decide +kernel) (by decide) rfl g202 ?_
                    obtain ⟨S203, eS203, h⟩ := ax_let_e h
                    rw [eS203]
                    refine ax_Tgo [.aload_n 0, .dup, .getfield 283, .iconst 1, .iadd, .putfield 283] (pc' := 198) (L' := [some (.inr (12, 0)), none, none, none]) (st' := []) (S' := (ax_sfi S203 12 0 30 ((ax_fi S203 12 0 30) + (1 : Int32)))) ok_X12_text.1 (by decide +kernel) rfl rfl ?_
                    obtain ⟨S204, eS204, h⟩ := ax_let_e h
                    rw [eS204]
                    refine ax_Tgo [.aload_n 0, .getfield 283, .iconst 1, .isub] (pc' := 204) (L' := [some (.inr (12, 0)), none, none, none]) (st' := [.inl (.int ((ax_fi S204 12 0 30) - (1 : Int32)))]) (S' := S204) ok_X12_text.1 (by decide +kernel) rfl rfl ?_
                    cases h
                    exact ax_Treti (by decide +kernel) rfl rfl
              · rw [if_pos c179] at h
                refine ax_Tgo [.iconst 0, .istore_n 3] (pc' := 71) (L' := [some (.inr (12, 0)), some (.inl (.int a1)), some (.inl (.int v177)), some (.inl (.int (0 : Int32)))]) (st' := []) (S' := S178) ok_X12_text.1 (by decide +kernel) rfl rfl ?_
                refine ax_Tdrop [true, false, true, true] (L' := [some (.inr (12, 0)), none, some (.inl (.int v177)), some (.inl (.int (0 : Int32)))]) rfl ?_
                refine t_X12_text_L71 ?_ _ v177 (0 : Int32) S178 _ _ h
                · intro x79 S207 r Z h
                  refine ax_Tgo [.aload_n 0, .getfield 16, .aload_n 0, .getfield 280, .iload_n 2] (pc' := 112) (L' := [some (.inr (12, 0)), none, some (.inl (.int x79)), none]) (st' := [.inl (.int x79), .inl (.int (ax_fi S207 12 0 7)), .inr (45, 0)]) (S' := S207) ok_X12_text.1 (by decide +kernel) rfl rfl ?_
                  obtain ⟨g208, h⟩ := ax_gd_e h
                  refine ax_Tasi (n := 4) ok_X12_text.1 (by decide +kernel) (by decide) rfl g208 ?_
                  obtain ⟨S209, eS209, h⟩ := ax_let_e h
                  rw [eS209]
                  refine ax_Tgo [.aload_n 0, .dup, .getfield 280, .iconst 1, .iadd, .putfield 280] (pc' := 123) (L' := [some (.inr (12, 0)), none, some (.inl (.int x79)), none]) (st' := []) (S' := (ax_sfi S209 12 0 7 ((ax_fi S209 12 0 7) + (1 : Int32)))) ok_X12_text.1 (by decide +kernel) rfl rfl ?_
                  obtain ⟨S210, eS210, h⟩ := ax_let_e h
                  rw [eS210]
                  refine ax_Tgo [.aload_n 0, .getfield 280, .iconst 1, .isub] (pc' := 129) (L' := [some (.inr (12, 0)), none, some (.inl (.int x79)), none]) (st' := [.inl (.int ((ax_fi S210 12 0 7) - (1 : Int32)))]) (S' := S210) ok_X12_text.1 (by decide +kernel) rfl rfl ?_
                  cases h
                  exact ax_Treti (by decide +kernel) rfl rfl
            · rw [if_neg c176] at h
              refine ax_Tgo [.iconst (-1)] (pc' := 53) (L' := [some (.inr (12, 0)), some (.inl (.int a1)), none, none]) (st' := [.inl (.int (Int32.ofInt (-1)))]) (S' := S172) ok_X12_text.1 (by decide +kernel) rfl rfl ?_
              cases h
              exact ax_Treti (by decide +kernel) rfl rfl
def f_X12_thrown (S : AS) : Option (Int32) := some (ax_fi S 12 0 0)
set_option maxRecDepth 100000 in
theorem t_X12_thrown {l : Launch} {S : AS} {r : Int32} (h : f_X12_thrown S = some r) : ax_M l 0 ma_X12_thrown [.inr (12, 0)] S (some (.inl (.int r))) S := by
  unfold f_X12_thrown at h
  show ax_T l 0 ma_X12_thrown (0, [some (.inr (12, 0))], [], S) (some (.inl (.int r))) S
  refine ax_Tgo [.aload_n 0, .getfield 93] (pc' := 4) (L' := [some (.inr (12, 0))]) (st' := [.inl (.int (ax_fi S 12 0 0))]) (S' := S) ok_X12_thrown.1 (by decide +kernel) rfl rfl ?_
  cases h
  exact ax_Treti (by decide +kernel) rfl rfl
def f_X12_timed_L30 (K67 : Int32 → AS → Option (Int32 × AS)) : Nat → Int32 → Int32 → Int32 → AS → Option (Int32 × AS)
  | 0, _, _, _, _ => none
  | n + 1, x8, x9, x10, S12 => (if (ax_fi S12 12 0 27) ≤ x10 then K67 x9 S12 else ax_bu (f_X12_takesIn_55x0 x10 S12) (fun (r17 : Int32) (S14 : AS) => (if r17 = x8 then ax_let (x9 ||| ((1 : Int32) <<< (x10 &&& 31))) (fun (v21 : Int32) => ax_let (x10 + (1 : Int32)) (fun (v22 : Int32) => f_X12_timed_L30 K67 n x8 v21 v22 S14)) else ax_let (x9 ||| (0 : Int32)) (fun (v19 : Int32) => ax_let (x10 + (1 : Int32)) (fun (v20 : Int32) => f_X12_timed_L30 K67 n x8 v19 v20 S14)))))
def f_X12_timed (a1 : Int32) (S : AS) : Option (Int32 × AS) := ax_let (ax_sfi S 12 0 0 (0 : Int32)) (fun (S1 : AS) => (if (ax_fi S1 12 0 27) = (0 : Int32) then some ((Int32.ofInt (-1)), S1) else (f_X12_isIn (a1.toInt64) (1 : Int64) (60 : Int64) S1).bind (fun (r6 : Int32) => (if r6 = (0 : Int32) then some ((Int32.ofInt (-1)), S1) else f_X12_timed_L30 (fun (x11 : Int32) (S23 : AS) => some (x11, S23)) ax_F a1 (0 : Int32) (0 : Int32) S1))))
set_option maxRecDepth 100000 in
theorem t_X12_timed_L30 {l : Launch} {K67 : Int32 → AS → Option (Int32 × AS)} (hK67 : ∀ (x11 : Int32) (S : AS) r Z, K67 x11 S = some (r, Z) → ax_T l 75 ma_X12_timed (67, [none, none, some (.inl (.int x11)), none], [], S) (some (.inl (.int r))) Z) : ∀ (n : Nat) (x8 : Int32) (x9 : Int32) (x10 : Int32) (S12 : AS) r Z, f_X12_timed_L30 K67 n x8 x9 x10 S12 = some (r, Z) → ax_T l 75 ma_X12_timed (30, [some (.inr (12, 0)), some (.inl (.int x8)), some (.inl (.int x9)), some (.inl (.int x10))], [], S12) (some (.inl (.int r))) Z := by
  intro n
  induction n with
  | zero =>
    intro x8 x9 x10 S12 r Z h
    cases h
  | succ n ih =>
    intro x8 x9 x10 S12 r Z h
    unfold f_X12_timed_L30 at h
    refine ax_Tgo [.iload_n 3, .aload_n 0, .getfield 291] (pc' := 35) (L' := [some (.inr (12, 0)), some (.inl (.int x8)), some (.inl (.int x9)), some (.inl (.int x10))]) (st' := [.inl (.int (ax_fi S12 12 0 27)), .inl (.int x10)]) (S' := S12) ok_X12_timed.1 (by decide +kernel) rfl rfl ?_
    refine ax_Tic_ge (off := 32) (tgt := 67) (by decide +kernel) (by decide) (fun c13 => ?_) (fun c13 => ?_)
    · rw [if_pos c13] at h
      refine ax_Tdrop [false, false, true, false] (L' := [none, none, some (.inl (.int x9)), none]) rfl ?_
      exact hK67 x9 S12 _ _ h
    · rw [if_neg c13] at h
      refine ax_Tgo [.iload_n 2, .aload_n 0, .aload_n 0, .getfield 61, .iload_n 3] (pc' := 45) (L' := [some (.inr (12, 0)), some (.inl (.int x8)), some (.inl (.int x9)), some (.inl (.int x10))]) (st' := [.inl (.int x10), .inr (55, 0), .inr (12, 0), .inl (.int x9)]) (S' := S12) ok_X12_timed.1 (by decide +kernel) rfl rfl ?_
      obtain ⟨r17, S14, hq15, h⟩ := ax_bu_e h
      refine ax_TVi (d := 74) (ka := 12) (i := 0) [.inr (55, 0), .inl (.int x10)] [.inl (.int x9)] lk_X12_327 (by decide +kernel) rfl (by decide) rfl (Nat.le_of_ble_eq_true rfl) (Nat.le_of_ble_eq_true rfl) ((t_X12_takesIn_55x0 hq15).up (by decide)) ?_
      refine ax_Tgo [.iload_n 1] (pc' := 49) (L' := [some (.inr (12, 0)), some (.inl (.int x8)), some (.inl (.int x9)), some (.inl (.int x10))]) (st' := [.inl (.int x8), .inl (.int r17), .inl (.int x9)]) (S' := S14) ok_X12_timed.1 (by decide +kernel) rfl rfl ?_
      refine ax_Tic_ne (off := 9) (tgt := 58) (by decide +kernel) (by decide) (fun c18 => ?_) (fun c18 => ?_)
      · rw [if_neg c18] at h
        refine ax_Tgo [.iconst 0, .ior, .istore_n 2] (pc' := 61) (L' := [some (.inr (12, 0)), some (.inl (.int x8)), some (.inl (.int (x9 ||| (0 : Int32)))), some (.inl (.int x10))]) (st' := []) (S' := S14) ok_X12_timed.1 (by decide +kernel) rfl rfl ?_
        obtain ⟨v19, ev19, h⟩ := ax_let_e h
        rw [ev19]
        refine ax_Tgo [.iinc 3 1] (pc' := 64) (L' := [some (.inr (12, 0)), some (.inl (.int x8)), some (.inl (.int v19)), some (.inl (.int (x10 + (1 : Int32))))]) (st' := []) (S' := S14) ok_X12_timed.1 (by decide +kernel) rfl rfl ?_
        obtain ⟨v20, ev20, h⟩ := ax_let_e h
        rw [ev20]
        refine ax_Tgoto (off := (-34)) (tgt := 30) (by decide +kernel) (by decide) ?_
        exact ih x8 v19 v20 S14 _ _ h
      · rw [if_pos c18] at h
        refine ax_Tgo [.iconst 1, .iload_n 3, .ishl] (pc' := 55) (L' := [some (.inr (12, 0)), some (.inl (.int x8)), some (.inl (.int x9)), some (.inl (.int x10))]) (st' := [.inl (.int ((1 : Int32) <<< (x10 &&& 31))), .inl (.int x9)]) (S' := S14) ok_X12_timed.1 (by decide +kernel) rfl rfl ?_
        refine ax_Tgoto (off := 4) (tgt := 59) (by decide +kernel) (by decide) ?_
        refine ax_Tgo [.ior, .istore_n 2] (pc' := 61) (L' := [some (.inr (12, 0)), some (.inl (.int x8)), some (.inl (.int (x9 ||| ((1 : Int32) <<< (x10 &&& 31))))), some (.inl (.int x10))]) (st' := []) (S' := S14) ok_X12_timed.1 (by decide +kernel) rfl rfl ?_
        obtain ⟨v21, ev21, h⟩ := ax_let_e h
        rw [ev21]
        refine ax_Tgo [.iinc 3 1] (pc' := 64) (L' := [some (.inr (12, 0)), some (.inl (.int x8)), some (.inl (.int v21)), some (.inl (.int (x10 + (1 : Int32))))]) (st' := []) (S' := S14) ok_X12_timed.1 (by decide +kernel) rfl rfl ?_
        obtain ⟨v22, ev22, h⟩ := ax_let_e h
        rw [ev22]
        refine ax_Tgoto (off := (-34)) (tgt := 30) (by decide +kernel) (by decide) ?_
        exact ih x8 v21 v22 S14 _ _ h
set_option maxRecDepth 100000 in
theorem t_X12_timed {l : Launch} {a1 : Int32} {S Z : AS} {r : Int32} (h : f_X12_timed a1 S = some (r, Z)) : ax_M l 75 ma_X12_timed [.inr (12, 0), .inl (.int a1)] S (some (.inl (.int r))) Z := by
  unfold f_X12_timed at h
  show ax_T l 75 ma_X12_timed (0, [some (.inr (12, 0)), some (.inl (.int a1)), none, none], [], S) (some (.inl (.int r))) Z
  refine ax_Tgo [.aload_n 0, .iconst 0, .putfield 93] (pc' := 5) (L' := [some (.inr (12, 0)), some (.inl (.int a1)), none, none]) (st' := []) (S' := (ax_sfi S 12 0 0 (0 : Int32))) ok_X12_timed.1 (by decide +kernel) rfl rfl ?_
  obtain ⟨S1, eS1, h⟩ := ax_let_e h
  rw [eS1]
  refine ax_Tgo [.aload_n 0, .getfield 291] (pc' := 9) (L' := [some (.inr (12, 0)), some (.inl (.int a1)), none, none]) (st' := [.inl (.int (ax_fi S1 12 0 27))]) (S' := S1) ok_X12_timed.1 (by decide +kernel) rfl rfl ?_
  refine ax_Tif_eq (off := 15) (tgt := 24) (by decide +kernel) (by decide) (fun c2 => ?_) (fun c2 => ?_)
  · rw [if_pos c2] at h
    refine ax_Tgo [.iconst (-1)] (pc' := 25) (L' := [some (.inr (12, 0)), some (.inl (.int a1)), none, none]) (st' := [.inl (.int (Int32.ofInt (-1)))]) (S' := S1) ok_X12_timed.1 (by decide +kernel) rfl rfl ?_
    cases h
    exact ax_Treti (by decide +kernel) rfl rfl
  · rw [if_neg c2] at h
    refine ax_Tgo [.iload_n 1, .i2l, .lconst 1, .ldc2_w 422] (pc' := 18) (L' := [some (.inr (12, 0)), some (.inl (.int a1)), none, none]) (st' := [.inl (.long (60 : Int64)), .inl (.long (1 : Int64)), .inl (.long a1.toInt64)]) (S' := S1) ok_X12_timed.1 (by decide +kernel) rfl rfl ?_
    obtain ⟨r6, hq4, h⟩ := ax_bd_e h
    refine ax_TSi (d := 74) [.inl (.long a1.toInt64), .inl (.long (1 : Int64)), .inl (.long (60 : Int64))] [] lk_X12_214 (by decide +kernel) rfl rfl (Nat.le_of_ble_eq_true rfl) (Nat.le_of_ble_eq_true rfl) ((t_X12_isIn hq4).up (by decide)) ?_
    refine ax_Tif_ne (off := 5) (tgt := 26) (by decide +kernel) (by decide) (fun c7 => ?_) (fun c7 => ?_)
    · rw [if_neg c7] at h
      refine ax_Tgo [.iconst 0, .istore_n 2, .iconst 0, .istore_n 3] (pc' := 30) (L' := [some (.inr (12, 0)), some (.inl (.int a1)), some (.inl (.int (0 : Int32))), some (.inl (.int (0 : Int32)))]) (st' := []) (S' := S1) ok_X12_timed.1 (by decide +kernel) rfl rfl ?_
      refine t_X12_timed_L30 ?_ _ a1 (0 : Int32) (0 : Int32) S1 _ _ h
      · intro x11 S23 r Z h
        refine ax_Tgo [.iload_n 2] (pc' := 68) (L' := [none, none, some (.inl (.int x11)), none]) (st' := [.inl (.int x11)]) (S' := S23) ok_X12_timed.1 (by decide +kernel) rfl rfl ?_
        cases h
        exact ax_Treti (by decide +kernel) rfl rfl
    · rw [if_pos c7] at h
      refine ax_Tgo [.iconst (-1)] (pc' := 25) (L' := [some (.inr (12, 0)), some (.inl (.int a1)), none, none]) (st' := [.inl (.int (Int32.ofInt (-1)))]) (S' := S1) ok_X12_timed.1 (by decide +kernel) rfl rfl ?_
      cases h
      exact ax_Treti (by decide +kernel) rfl rfl
def f_X12_title (a1 : Int32) (S : AS) : Option (Int32 × AS) := ax_let (ax_sfi S 12 0 0 (0 : Int32)) (fun (S1 : AS) => (f_X12_canTitle_55x0 a1 S1).bind (fun (r5 : Int32) => (if r5 = (0 : Int32) then some ((Int32.ofInt (-1)), S1) else (f_X12_remember S1).bind (fun (S7 : AS) => (f_X12_titles_55x0 a1 S7).bind (fun (S10 : AS) => ax_gd (ax_in (((2 : Int32) * a1) + (0 : Int32)) 204) (some ((ax_ai S10 55 0 (((2 : Int32) * a1) + (0 : Int32)).toNatClampNeg), S10)))))))
set_option maxRecDepth 100000 in
theorem t_X12_title {l : Launch} {a1 : Int32} {S Z : AS} {r : Int32} (h : f_X12_title a1 S = some (r, Z)) : ax_M l 2 ma_X12_title [.inr (12, 0), .inl (.int a1)] S (some (.inl (.int r))) Z := by
  unfold f_X12_title at h
  show ax_T l 2 ma_X12_title (0, [some (.inr (12, 0)), some (.inl (.int a1))], [], S) (some (.inl (.int r))) Z
  refine ax_Tgo [.aload_n 0, .iconst 0, .putfield 93] (pc' := 5) (L' := [some (.inr (12, 0)), some (.inl (.int a1))]) (st' := []) (S' := (ax_sfi S 12 0 0 (0 : Int32))) ok_X12_title.1 (by decide +kernel) rfl rfl ?_
  obtain ⟨S1, eS1, h⟩ := ax_let_e h
  rw [eS1]
  refine ax_Tgo [.aload_n 0, .aload_n 0, .getfield 61, .iload_n 1] (pc' := 11) (L' := [some (.inr (12, 0)), some (.inl (.int a1))]) (st' := [.inl (.int a1), .inr (55, 0), .inr (12, 0)]) (S' := S1) ok_X12_title.1 (by decide +kernel) rfl rfl ?_
  obtain ⟨r5, hq3, h⟩ := ax_bd_e h
  refine ax_TVi (d := 1) (ka := 12) (i := 0) [.inr (55, 0), .inl (.int a1)] [] lk_X12_358 (by decide +kernel) rfl (by decide) rfl (Nat.le_of_ble_eq_true rfl) (Nat.le_of_ble_eq_true rfl) ((t_X12_canTitle_55x0 hq3).up (by decide)) ?_
  refine ax_Tif_ne (off := 5) (tgt := 19) (by decide +kernel) (by decide) (fun c6 => ?_) (fun c6 => ?_)
  · rw [if_neg c6] at h
    refine ax_Tgo [.aload_n 0] (pc' := 20) (L' := [some (.inr (12, 0)), some (.inl (.int a1))]) (st' := [.inr (12, 0)]) (S' := S1) ok_X12_title.1 (by decide +kernel) rfl rfl ?_
    obtain ⟨S7, hq8, h⟩ := ax_bd_e h
    refine ax_TVv (d := 1) (ka := 12) (i := 0) [] [] lk_X12_352 (by decide +kernel) rfl (by decide) rfl (Nat.le_of_ble_eq_true rfl) (Nat.le_of_ble_eq_true rfl) ((t_X12_remember hq8).up (by decide)) ?_
    refine ax_Tgo [.aload_n 0, .getfield 61, .iload_n 1] (pc' := 28) (L' := [some (.inr (12, 0)), some (.inl (.int a1))]) (st' := [.inl (.int a1), .inr (55, 0)]) (S' := S7) ok_X12_title.1 (by decide +kernel) rfl rfl ?_
    obtain ⟨S10, hq11, h⟩ := ax_bd_e h
    refine ax_TSv (d := 1) [.inr (55, 0), .inl (.int a1)] [] lk_X12_361 (by decide +kernel) rfl rfl (Nat.le_of_ble_eq_true rfl) (Nat.le_of_ble_eq_true rfl) ((t_X12_titles_55x0 hq11).up (by decide)) ?_
    refine ax_Tgo [.aload_n 0, .getfield 61, .iconst 2, .iload_n 1, .imul, .iconst 0, .iadd] (pc' := 40) (L' := [some (.inr (12, 0)), some (.inl (.int a1))]) (st' := [.inl (.int (((2 : Int32) * a1) + (0 : Int32))), .inr (55, 0)]) (S' := S10) ok_X12_title.1 (by decide +kernel) rfl rfl ?_
    obtain ⟨g13, h⟩ := ax_gd_e h
    refine ax_Tali (n := 204) ok_X12_title.1 (by decide +kernel) (by decide) rfl g13 ?_
    cases h
    exact ax_Treti (by decide +kernel) rfl rfl
  · rw [if_pos c6] at h
    refine ax_Tgo [.iconst (-1)] (pc' := 18) (L' := [some (.inr (12, 0)), some (.inl (.int a1))]) (st' := [.inl (.int (Int32.ofInt (-1)))]) (S' := S1) ok_X12_title.1 (by decide +kernel) rfl rfl ?_
    cases h
    exact ax_Treti (by decide +kernel) rfl rfl
def f_X12_undo_L26 (K60 : AS → Option (Int32 × AS)) : Nat → Int32 → AS → Option (Int32 × AS)
  | 0, _, _ => none
  | n + 1, x4, S5 => (if (204 : Int32) ≤ x4 then K60 S5 else ax_gd (ax_in (((204 : Int32) * (ax_fi S5 12 0 39)) + x4) 8160) (ax_gd (ax_in x4 204) (ax_let (ax_sai S5 55 0 x4.toNatClampNeg (ax_ai S5 59 0 (((204 : Int32) * (ax_fi S5 12 0 39)) + x4).toNatClampNeg)) (fun (S9 : AS) => ax_let (x4 + (1 : Int32)) (fun (v10 : Int32) => f_X12_undo_L26 K60 n v10 S9)))))
def f_X12_undo (S : AS) : Option (Int32 × AS) := ax_let (ax_sfi S 12 0 0 (0 : Int32)) (fun (S1 : AS) => (if (ax_fi S1 12 0 39) = (0 : Int32) then some ((Int32.ofInt (-1)), S1) else ax_let (ax_sfi S1 12 0 39 ((ax_fi S1 12 0 39) - (1 : Int32))) (fun (S3 : AS) => f_X12_undo_L26 (fun (S11 : AS) => some ((ax_fi S11 12 0 39), S11)) ax_F (0 : Int32) S3)))
set_option maxRecDepth 100000 in
theorem t_X12_undo_L26 {l : Launch} {K60 : AS → Option (Int32 × AS)} (hK60 : ∀ (S : AS) r Z, K60 S = some (r, Z) → ax_T l 0 ma_X12_undo (60, [some (.inr (12, 0)), none], [], S) (some (.inl (.int r))) Z) : ∀ (n : Nat) (x4 : Int32) (S5 : AS) r Z, f_X12_undo_L26 K60 n x4 S5 = some (r, Z) → ax_T l 0 ma_X12_undo (26, [some (.inr (12, 0)), some (.inl (.int x4))], [], S5) (some (.inl (.int r))) Z := by
  intro n
  induction n with
  | zero =>
    intro x4 S5 r Z h
    cases h
  | succ n ih =>
    intro x4 S5 r Z h
    unfold f_X12_undo_L26 at h
    refine ax_Tgo [.iload_n 1, .sipush 204] (pc' := 30) (L' := [some (.inr (12, 0)), some (.inl (.int x4))]) (st' := [.inl (.int (204 : Int32)), .inl (.int x4)]) (S' := S5) ok_X12_undo.1 (by decide +kernel) rfl rfl ?_
    refine ax_Tic_ge (off := 30) (tgt := 60) (by decide +kernel) (by decide) (fun c6 => ?_) (fun c6 => ?_)
    · rw [if_pos c6] at h
      refine ax_Tdrop [true, false] (L' := [some (.inr (12, 0)), none]) rfl ?_
      exact hK60 S5 _ _ h
    · rw [if_neg c6] at h
      refine ax_Tgo [.aload_n 0, .getfield 61, .iload_n 1, .aload_n 0, .getfield 81, .sipush 204, .aload_n 0, .getfield 297, .imul, .iload_n 1, .iadd] (pc' := 52) (L' := [some (.inr (12, 0)), some (.inl (.int x4))]) (st' := [.inl (.int (((204 : Int32) * (ax_fi S5 12 0 39)) + x4)), .inr (59, 0), .inl (.int x4), .inr (55, 0)]) (S' := S5) ok_X12_undo.1 (by decide +kernel) rfl rfl ?_
      obtain ⟨g7, h⟩ := ax_gd_e h
      refine ax_Tali (n := 8160) ok_X12_undo.1 (by decide +kernel) (by decide) rfl g7 ?_
      obtain ⟨g8, h⟩ := ax_gd_e h
      refine ax_Tasi (n := 204) ok_X12_undo.1 (by decide +kernel) (by decide) rfl g8 ?_
      obtain ⟨S9, eS9, h⟩ := ax_let_e h
      rw [eS9]
      refine ax_Tgo [.iinc 1 1] (pc' := 57) (L' := [some (.inr (12, 0)), some (.inl (.int (x4 + (1 : Int32))))]) (st' := []) (S' := S9) ok_X12_undo.1 (by decide +kernel) rfl rfl ?_
      obtain ⟨v10, ev10, h⟩ := ax_let_e h
      rw [ev10]
      refine ax_Tgoto (off := (-31)) (tgt := 26) (by decide +kernel) (by decide) ?_
      exact ih v10 S9 _ _ h
set_option maxRecDepth 100000 in
theorem t_X12_undo {l : Launch} {S Z : AS} {r : Int32} (h : f_X12_undo S = some (r, Z)) : ax_M l 0 ma_X12_undo [.inr (12, 0)] S (some (.inl (.int r))) Z := by
  unfold f_X12_undo at h
  show ax_T l 0 ma_X12_undo (0, [some (.inr (12, 0)), none], [], S) (some (.inl (.int r))) Z
  refine ax_Tgo [.aload_n 0, .iconst 0, .putfield 93] (pc' := 5) (L' := [some (.inr (12, 0)), none]) (st' := []) (S' := (ax_sfi S 12 0 0 (0 : Int32))) ok_X12_undo.1 (by decide +kernel) rfl rfl ?_
  obtain ⟨S1, eS1, h⟩ := ax_let_e h
  rw [eS1]
  refine ax_Tgo [.aload_n 0, .getfield 297] (pc' := 9) (L' := [some (.inr (12, 0)), none]) (st' := [.inl (.int (ax_fi S1 12 0 39))]) (S' := S1) ok_X12_undo.1 (by decide +kernel) rfl rfl ?_
  refine ax_Tif_ne (off := 5) (tgt := 14) (by decide +kernel) (by decide) (fun c2 => ?_) (fun c2 => ?_)
  · rw [if_neg c2] at h
    refine ax_Tgo [.aload_n 0, .dup, .getfield 297, .iconst 1, .isub, .putfield 297] (pc' := 24) (L' := [some (.inr (12, 0)), none]) (st' := []) (S' := (ax_sfi S1 12 0 39 ((ax_fi S1 12 0 39) - (1 : Int32)))) ok_X12_undo.1 (by decide +kernel) rfl rfl ?_
    obtain ⟨S3, eS3, h⟩ := ax_let_e h
    rw [eS3]
    refine ax_Tgo [.iconst 0, .istore_n 1] (pc' := 26) (L' := [some (.inr (12, 0)), some (.inl (.int (0 : Int32)))]) (st' := []) (S' := S3) ok_X12_undo.1 (by decide +kernel) rfl rfl ?_
    refine t_X12_undo_L26 ?_ _ (0 : Int32) S3 _ _ h
    · intro S11 r Z h
      refine ax_Tgo [.aload_n 0, .getfield 297] (pc' := 64) (L' := [some (.inr (12, 0)), none]) (st' := [.inl (.int (ax_fi S11 12 0 39))]) (S' := S11) ok_X12_undo.1 (by decide +kernel) rfl rfl ?_
      cases h
      exact ax_Treti (by decide +kernel) rfl rfl
  · rw [if_pos c2] at h
    refine ax_Tgo [.iconst (-1)] (pc' := 13) (L' := [some (.inr (12, 0)), none]) (st' := [.inl (.int (Int32.ofInt (-1)))]) (S' := S1) ok_X12_undo.1 (by decide +kernel) rfl rfl ?_
    cases h
    exact ax_Treti (by decide +kernel) rfl rfl
def f_X12_whim (a1 : Int32) (S : AS) : Option (Int32 × AS) := ax_let (ax_sfi S 12 0 0 (0 : Int32)) (fun (S1 : AS) => (f_X12_isIn (a1.toInt64) (0 : Int64) (9 : Int64) S1).bind (fun (r5 : Int32) => (if r5 = (0 : Int32) then some ((0 : Int32), S1) else (if a1 = (ax_fi S1 12 0 35) then some ((0 : Int32), S1) else ax_let (ax_sfi S1 12 0 35 a1) (fun (S8 : AS) => some ((1 : Int32), S8))))))
set_option maxRecDepth 100000 in
theorem t_X12_whim {l : Launch} {a1 : Int32} {S Z : AS} {r : Int32} (h : f_X12_whim a1 S = some (r, Z)) : ax_M l 1 ma_X12_whim [.inr (12, 0), .inl (.int a1)] S (some (.inl (.int r))) Z := by
  unfold f_X12_whim at h
  show ax_T l 1 ma_X12_whim (0, [some (.inr (12, 0)), some (.inl (.int a1))], [], S) (some (.inl (.int r))) Z
  refine ax_Tgo [.aload_n 0, .iconst 0, .putfield 93] (pc' := 5) (L' := [some (.inr (12, 0)), some (.inl (.int a1))]) (st' := []) (S' := (ax_sfi S 12 0 0 (0 : Int32))) ok_X12_whim.1 (by decide +kernel) rfl rfl ?_
  obtain ⟨S1, eS1, h⟩ := ax_let_e h
  rw [eS1]
  refine ax_Tgo [.iload_n 1, .i2l, .lconst 0, .ldc2_w 346] (pc' := 11) (L' := [some (.inr (12, 0)), some (.inl (.int a1))]) (st' := [.inl (.long (9 : Int64)), .inl (.long (0 : Int64)), .inl (.long a1.toInt64)]) (S' := S1) ok_X12_whim.1 (by decide +kernel) rfl rfl ?_
  obtain ⟨r5, hq3, h⟩ := ax_bd_e h
  refine ax_TSi (d := 0) [.inl (.long a1.toInt64), .inl (.long (0 : Int64)), .inl (.long (9 : Int64))] [] lk_X12_214 (by decide +kernel) rfl rfl (Nat.le_of_ble_eq_true rfl) (Nat.le_of_ble_eq_true rfl) ((t_X12_isIn hq3).up (by decide)) ?_
  refine ax_Tif_eq (off := 11) (tgt := 25) (by decide +kernel) (by decide) (fun c6 => ?_) (fun c6 => ?_)
  · rw [if_pos c6] at h
    refine ax_Tgo [.iconst 0] (pc' := 26) (L' := [some (.inr (12, 0)), some (.inl (.int a1))]) (st' := [.inl (.int (0 : Int32))]) (S' := S1) ok_X12_whim.1 (by decide +kernel) rfl rfl ?_
    cases h
    exact ax_Treti (by decide +kernel) rfl rfl
  · rw [if_neg c6] at h
    refine ax_Tgo [.iload_n 1, .aload_n 0, .getfield 71] (pc' := 22) (L' := [some (.inr (12, 0)), some (.inl (.int a1))]) (st' := [.inl (.int (ax_fi S1 12 0 35)), .inl (.int a1)]) (S' := S1) ok_X12_whim.1 (by decide +kernel) rfl rfl ?_
    refine ax_Tic_ne (off := 5) (tgt := 27) (by decide +kernel) (by decide) (fun c7 => ?_) (fun c7 => ?_)
    · rw [if_neg c7] at h
      refine ax_Tgo [.aload_n 0, .iload_n 1, .putfield 71] (pc' := 32) (L' := [some (.inr (12, 0)), some (.inl (.int a1))]) (st' := []) (S' := (ax_sfi S1 12 0 35 a1)) ok_X12_whim.1 (by decide +kernel) rfl rfl ?_
      obtain ⟨S8, eS8, h⟩ := ax_let_e h
      rw [eS8]
      refine ax_Tgo [.iconst 1] (pc' := 33) (L' := [some (.inr (12, 0)), some (.inl (.int a1))]) (st' := [.inl (.int (1 : Int32))]) (S' := S8) ok_X12_whim.1 (by decide +kernel) rfl rfl ?_
      cases h
      exact ax_Treti (by decide +kernel) rfl rfl
    · rw [if_pos c7] at h
      refine ax_Tgo [.iconst 0] (pc' := 26) (L' := [some (.inr (12, 0)), some (.inl (.int a1))]) (st' := [.inl (.int (0 : Int32))]) (S' := S1) ok_X12_whim.1 (by decide +kernel) rfl rfl ?_
      cases h
      exact ax_Treti (by decide +kernel) rfl rfl
def f_X12_whose_L19 (K53 : Int32 → AS → Option (Int32 × AS)) : Nat → Int32 → Int32 → Int32 → AS → Option (Int32 × AS)
  | 0, _, _, _, _ => none
  | n + 1, x7, x8, x9, S11 => (if (ax_fi S11 12 0 27) ≤ x9 then K53 x8 S11 else (f_X12_of x9 (5 : Int32) S11).bind (fun (r16 : Int32) => (if r16 = x7 then ax_let (x8 ||| ((1 : Int32) <<< (x9 &&& 31))) (fun (v20 : Int32) => ax_let (x9 + (1 : Int32)) (fun (v21 : Int32) => f_X12_whose_L19 K53 n x7 v20 v21 S11)) else ax_let (x8 ||| (0 : Int32)) (fun (v18 : Int32) => ax_let (x9 + (1 : Int32)) (fun (v19 : Int32) => f_X12_whose_L19 K53 n x7 v18 v19 S11)))))
def f_X12_whose (a1 : Int32) (S : AS) : Option (Int32 × AS) := ax_let (ax_sfi S 12 0 0 (0 : Int32)) (fun (S1 : AS) => (f_X12_isLodger a1 S1).bind (fun (r5 : Int32) => (if r5 = (0 : Int32) then some ((Int32.ofInt (-1)), S1) else f_X12_whose_L19 (fun (x10 : Int32) (S22 : AS) => some (x10, S22)) ax_F a1 (0 : Int32) (0 : Int32) S1)))
set_option maxRecDepth 100000 in
theorem t_X12_whose_L19 {l : Launch} {K53 : Int32 → AS → Option (Int32 × AS)} (hK53 : ∀ (x10 : Int32) (S : AS) r Z, K53 x10 S = some (r, Z) → ax_T l 1 ma_X12_whose (53, [none, none, some (.inl (.int x10)), none], [], S) (some (.inl (.int r))) Z) : ∀ (n : Nat) (x7 : Int32) (x8 : Int32) (x9 : Int32) (S11 : AS) r Z, f_X12_whose_L19 K53 n x7 x8 x9 S11 = some (r, Z) → ax_T l 1 ma_X12_whose (19, [some (.inr (12, 0)), some (.inl (.int x7)), some (.inl (.int x8)), some (.inl (.int x9))], [], S11) (some (.inl (.int r))) Z := by
  intro n
  induction n with
  | zero =>
    intro x7 x8 x9 S11 r Z h
    cases h
  | succ n ih =>
    intro x7 x8 x9 S11 r Z h
    unfold f_X12_whose_L19 at h
    refine ax_Tgo [.iload_n 3, .aload_n 0, .getfield 291] (pc' := 24) (L' := [some (.inr (12, 0)), some (.inl (.int x7)), some (.inl (.int x8)), some (.inl (.int x9))]) (st' := [.inl (.int (ax_fi S11 12 0 27)), .inl (.int x9)]) (S' := S11) ok_X12_whose.1 (by decide +kernel) rfl rfl ?_
    refine ax_Tic_ge (off := 29) (tgt := 53) (by decide +kernel) (by decide) (fun c12 => ?_) (fun c12 => ?_)
    · rw [if_pos c12] at h
      refine ax_Tdrop [false, false, true, false] (L' := [none, none, some (.inl (.int x8)), none]) rfl ?_
      exact hK53 x8 S11 _ _ h
    · rw [if_neg c12] at h
      refine ax_Tgo [.iload_n 2, .aload_n 0, .iload_n 3, .iconst 5] (pc' := 31) (L' := [some (.inr (12, 0)), some (.inl (.int x7)), some (.inl (.int x8)), some (.inl (.int x9))]) (st' := [.inl (.int (5 : Int32)), .inl (.int x9), .inr (12, 0), .inl (.int x8)]) (S' := S11) ok_X12_whose.1 (by decide +kernel) rfl rfl ?_
      obtain ⟨r16, hq14, h⟩ := ax_bd_e h
      refine ax_TVi (d := 0) (ka := 12) (i := 0) [.inl (.int x9), .inl (.int (5 : Int32))] [.inl (.int x8)] lk_X12_311 (by decide +kernel) rfl (by decide) rfl (Nat.le_of_ble_eq_true rfl) (Nat.le_of_ble_eq_true rfl) ((t_X12_of hq14).up (by decide)) ?_
      refine ax_Tgo [.iload_n 1] (pc' := 35) (L' := [some (.inr (12, 0)), some (.inl (.int x7)), some (.inl (.int x8)), some (.inl (.int x9))]) (st' := [.inl (.int x7), .inl (.int r16), .inl (.int x8)]) (S' := S11) ok_X12_whose.1 (by decide +kernel) rfl rfl ?_
      refine ax_Tic_ne (off := 9) (tgt := 44) (by decide +kernel) (by decide) (fun c17 => ?_) (fun c17 => ?_)
      · rw [if_neg c17] at h
        refine ax_Tgo [.iconst 0, .ior, .istore_n 2] (pc' := 47) (L' := [some (.inr (12, 0)), some (.inl (.int x7)), some (.inl (.int (x8 ||| (0 : Int32)))), some (.inl (.int x9))]) (st' := []) (S' := S11) ok_X12_whose.1 (by decide +kernel) rfl rfl ?_
        obtain ⟨v18, ev18, h⟩ := ax_let_e h
        rw [ev18]
        refine ax_Tgo [.iinc 3 1] (pc' := 50) (L' := [some (.inr (12, 0)), some (.inl (.int x7)), some (.inl (.int v18)), some (.inl (.int (x9 + (1 : Int32))))]) (st' := []) (S' := S11) ok_X12_whose.1 (by decide +kernel) rfl rfl ?_
        obtain ⟨v19, ev19, h⟩ := ax_let_e h
        rw [ev19]
        refine ax_Tgoto (off := (-31)) (tgt := 19) (by decide +kernel) (by decide) ?_
        exact ih x7 v18 v19 S11 _ _ h
      · rw [if_pos c17] at h
        refine ax_Tgo [.iconst 1, .iload_n 3, .ishl] (pc' := 41) (L' := [some (.inr (12, 0)), some (.inl (.int x7)), some (.inl (.int x8)), some (.inl (.int x9))]) (st' := [.inl (.int ((1 : Int32) <<< (x9 &&& 31))), .inl (.int x8)]) (S' := S11) ok_X12_whose.1 (by decide +kernel) rfl rfl ?_
        refine ax_Tgoto (off := 4) (tgt := 45) (by decide +kernel) (by decide) ?_
        refine ax_Tgo [.ior, .istore_n 2] (pc' := 47) (L' := [some (.inr (12, 0)), some (.inl (.int x7)), some (.inl (.int (x8 ||| ((1 : Int32) <<< (x9 &&& 31))))), some (.inl (.int x9))]) (st' := []) (S' := S11) ok_X12_whose.1 (by decide +kernel) rfl rfl ?_
        obtain ⟨v20, ev20, h⟩ := ax_let_e h
        rw [ev20]
        refine ax_Tgo [.iinc 3 1] (pc' := 50) (L' := [some (.inr (12, 0)), some (.inl (.int x7)), some (.inl (.int v20)), some (.inl (.int (x9 + (1 : Int32))))]) (st' := []) (S' := S11) ok_X12_whose.1 (by decide +kernel) rfl rfl ?_
        obtain ⟨v21, ev21, h⟩ := ax_let_e h
        rw [ev21]
        refine ax_Tgoto (off := (-31)) (tgt := 19) (by decide +kernel) (by decide) ?_
        exact ih x7 v20 v21 S11 _ _ h
set_option maxRecDepth 100000 in
theorem t_X12_whose {l : Launch} {a1 : Int32} {S Z : AS} {r : Int32} (h : f_X12_whose a1 S = some (r, Z)) : ax_M l 1 ma_X12_whose [.inr (12, 0), .inl (.int a1)] S (some (.inl (.int r))) Z := by
  unfold f_X12_whose at h
  show ax_T l 1 ma_X12_whose (0, [some (.inr (12, 0)), some (.inl (.int a1)), none, none], [], S) (some (.inl (.int r))) Z
  refine ax_Tgo [.aload_n 0, .iconst 0, .putfield 93] (pc' := 5) (L' := [some (.inr (12, 0)), some (.inl (.int a1)), none, none]) (st' := []) (S' := (ax_sfi S 12 0 0 (0 : Int32))) ok_X12_whose.1 (by decide +kernel) rfl rfl ?_
  obtain ⟨S1, eS1, h⟩ := ax_let_e h
  rw [eS1]
  refine ax_Tgo [.aload_n 0, .iload_n 1] (pc' := 7) (L' := [some (.inr (12, 0)), some (.inl (.int a1)), none, none]) (st' := [.inl (.int a1), .inr (12, 0)]) (S' := S1) ok_X12_whose.1 (by decide +kernel) rfl rfl ?_
  obtain ⟨r5, hq3, h⟩ := ax_bd_e h
  refine ax_TVi (d := 0) (ka := 12) (i := 0) [.inl (.int a1)] [] lk_X12_338 (by decide +kernel) rfl (by decide) rfl (Nat.le_of_ble_eq_true rfl) (Nat.le_of_ble_eq_true rfl) ((t_X12_isLodger hq3).up (by decide)) ?_
  refine ax_Tif_ne (off := 5) (tgt := 15) (by decide +kernel) (by decide) (fun c6 => ?_) (fun c6 => ?_)
  · rw [if_neg c6] at h
    refine ax_Tgo [.iconst 0, .istore_n 2, .iconst 0, .istore_n 3] (pc' := 19) (L' := [some (.inr (12, 0)), some (.inl (.int a1)), some (.inl (.int (0 : Int32))), some (.inl (.int (0 : Int32)))]) (st' := []) (S' := S1) ok_X12_whose.1 (by decide +kernel) rfl rfl ?_
    refine t_X12_whose_L19 ?_ _ a1 (0 : Int32) (0 : Int32) S1 _ _ h
    · intro x10 S22 r Z h
      refine ax_Tgo [.iload_n 2] (pc' := 54) (L' := [none, none, some (.inl (.int x10)), none]) (st' := [.inl (.int x10)]) (S' := S22) ok_X12_whose.1 (by decide +kernel) rfl rfl ?_
      cases h
      exact ax_Treti (by decide +kernel) rfl rfl
  · rw [if_pos c6] at h
    refine ax_Tgo [.iconst (-1)] (pc' := 14) (L' := [some (.inr (12, 0)), some (.inl (.int a1)), none, none]) (st' := [.inl (.int (Int32.ofInt (-1)))]) (S' := S1) ok_X12_whose.1 (by decide +kernel) rfl rfl ?_
    cases h
    exact ax_Treti (by decide +kernel) rfl rfl
def f_X12_years_L62 (K109 : Int32 → Int32 → AS → Option (Int32 × AS)) : Nat → Int32 → Int32 → Int32 → AS → Option (Int32 × AS)
  | 0, _, _, _, _ => none
  | n + 1, x18, x19, x20, S23 => (if (3 : Int32) ≤ x20 then K109 x18 x19 S23 else ax_bu (f_X12_draw (ax_fi S23 12 0 27) S23) (fun (r28 : Int32) (S25 : AS) => ax_bu (f_X12_canCall_55x0 r28 S25) (fun (r32 : Int32) (S29 : AS) => (if r32 = (0 : Int32) then ax_let (x20 + (1 : Int32)) (fun (v34 : Int32) => f_X12_years_L62 K109 n x18 x19 v34 S29) else ax_bu (f_X12_calls_55x0 r28 S29) (fun (r38 : Int32) (S35 : AS) => ax_let (x20 + (1 : Int32)) (fun (v39 : Int32) => f_X12_years_L62 K109 n x18 x19 v39 S35))))))
def f_X12_years_L49 (K162 : AS → Option (Int32 × AS)) : Nat → Int32 → Int32 → AS → Option (Int32 × AS)
  | 0, _, _, _ => none
  | n + 1, x11, x12, S13 => (if x11 ≤ x12 then K162 S13 else (f_X12_remember S13).bind (fun (S15 : AS) => f_X12_years_L62 (fun (x21 : Int32) (x22 : Int32) (S40 : AS) => ax_bu (f_X12_draw (10 : Int32) S40) (fun (r44 : Int32) (S41 : AS) => (if (ax_fi S41 12 0 35) ≤ r44 then (f_X12_goDay_55x0 S41).bind (fun (S46 : AS) => ax_let (x22 + (1 : Int32)) (fun (v49 : Int32) => f_X12_years_L49 K162 n x21 v49 S46)) else ax_bu (f_X12_draw (ax_fi S41 12 0 27) S41) (fun (r53 : Int32) (S50 : AS) => ax_bu (f_X12_draw (4 : Int32) S50) (fun (r57 : Int32) (S54 : AS) => ax_gd (ax_in (((2 : Int32) * r53) + (0 : Int32)) 204) (ax_let (ax_sai S54 55 0 (((2 : Int32) * r53) + (0 : Int32)).toNatClampNeg r57) (fun (S59 : AS) => (f_X12_goDay_55x0 S59).bind (fun (S60 : AS) => ax_let (x22 + (1 : Int32)) (fun (v63 : Int32) => f_X12_years_L49 K162 n x21 v63 S60))))))))) ax_F x11 x12 (0 : Int32) S15))
def f_X12_years (a1 : Int32) (a2 : Int64) (S : AS) : Option (Int32 × AS) := ax_let (ax_sfi S 12 0 0 (0 : Int32)) (fun (S1 : AS) => (if (ax_fi S1 12 0 27) = (0 : Int32) then some ((Int32.ofInt (-1)), S1) else (f_X12_isIn (a1.toInt64) (1 : Int64) (30 : Int64) S1).bind (fun (r6 : Int32) => (if r6 = (0 : Int32) then some ((Int32.ofInt (-1)), S1) else ax_gd (ax_in (22 : Int32) 204) ((if ((ax_ai S1 55 0 (22 : Int32).toNatClampNeg) + a1) ≤ (999 : Int32) then ax_let (ax_sfl S1 12 0 40 a2) (fun (S10 : AS) => f_X12_years_L49 (fun (S64 : AS) => ax_gd (ax_in (22 : Int32) 204) (some ((ax_ai S64 55 0 (22 : Int32).toNatClampNeg), S64))) ax_F a1 (0 : Int32) S10) else some ((Int32.ofInt (-1)), S1)))))))
set_option maxRecDepth 100000 in
theorem t_X12_years_L62 {l : Launch} {K109 : Int32 → Int32 → AS → Option (Int32 × AS)} (hK109 : ∀ (x21 : Int32) (x22 : Int32) (S : AS) r Z, K109 x21 x22 S = some (r, Z) → ax_T l 76 ma_X12_years (109, [some (.inr (12, 0)), some (.inl (.int x21)), none, none, some (.inl (.int x22)), none, none, none], [], S) (some (.inl (.int r))) Z) : ∀ (n : Nat) (x18 : Int32) (x19 : Int32) (x20 : Int32) (S23 : AS) r Z, f_X12_years_L62 K109 n x18 x19 x20 S23 = some (r, Z) → ax_T l 76 ma_X12_years (62, [some (.inr (12, 0)), some (.inl (.int x18)), none, none, some (.inl (.int x19)), some (.inl (.int x20)), none, none], [], S23) (some (.inl (.int r))) Z := by
  intro n
  induction n with
  | zero =>
    intro x18 x19 x20 S23 r Z h
    cases h
  | succ n ih =>
    intro x18 x19 x20 S23 r Z h
    unfold f_X12_years_L62 at h
    refine ax_Tgo [.iload 5, .iconst 3] (pc' := 65) (L' := [some (.inr (12, 0)), some (.inl (.int x18)), none, none, some (.inl (.int x19)), some (.inl (.int x20)), none, none]) (st' := [.inl (.int (3 : Int32)), .inl (.int x20)]) (S' := S23) ok_X12_years.1 (by decide +kernel) rfl rfl ?_
    refine ax_Tic_ge (off := 44) (tgt := 109) (by decide +kernel) (by decide) (fun c24 => ?_) (fun c24 => ?_)
    · rw [if_pos c24] at h
      refine ax_Tdrop [true, true, true, true, true, false, true, true] (L' := [some (.inr (12, 0)), some (.inl (.int x18)), none, none, some (.inl (.int x19)), none, none, none]) rfl ?_
      exact hK109 x18 x19 S23 _ _ h
    · rw [if_neg c24] at h
      refine ax_Tgo [.aload_n 0, .aload_n 0, .getfield 291] (pc' := 73) (L' := [some (.inr (12, 0)), some (.inl (.int x18)), none, none, some (.inl (.int x19)), some (.inl (.int x20)), none, none]) (st' := [.inl (.int (ax_fi S23 12 0 27)), .inr (12, 0)]) (S' := S23) ok_X12_years.1 (by decide +kernel) rfl rfl ?_
      obtain ⟨r28, S25, hq26, h⟩ := ax_bu_e h
      refine ax_TVi (d := 75) (ka := 12) (i := 0) [.inl (.int (ax_fi S23 12 0 27))] [] lk_X12_382 (by decide +kernel) rfl (by decide) rfl (Nat.le_of_ble_eq_true rfl) (Nat.le_of_ble_eq_true rfl) ((t_X12_draw hq26).up (by decide)) ?_
      refine ax_Tgo [.istore 6, .aload_n 0, .aload_n 0, .getfield 61, .iload 6] (pc' := 85) (L' := [some (.inr (12, 0)), some (.inl (.int x18)), none, none, some (.inl (.int x19)), some (.inl (.int x20)), some (.inl (.int r28)), none]) (st' := [.inl (.int r28), .inr (55, 0), .inr (12, 0)]) (S' := S25) ok_X12_years.1 (by decide +kernel) rfl rfl ?_
      obtain ⟨r32, S29, hq30, h⟩ := ax_bu_e h
      refine ax_TVi (d := 75) (ka := 12) (i := 0) [.inr (55, 0), .inl (.int r28)] [] lk_X12_348 (by decide +kernel) rfl (by decide) rfl (Nat.le_of_ble_eq_true rfl) (Nat.le_of_ble_eq_true rfl) ((t_X12_canCall_55x0 hq30).up (by decide)) ?_
      refine ax_Tif_eq (off := 15) (tgt := 103) (by decide +kernel) (by decide) (fun c33 => ?_) (fun c33 => ?_)
      · rw [if_pos c33] at h
        refine ax_Tgo [.iinc 5 1] (pc' := 106) (L' := [some (.inr (12, 0)), some (.inl (.int x18)), none, none, some (.inl (.int x19)), some (.inl (.int (x20 + (1 : Int32)))), some (.inl (.int r28)), none]) (st' := []) (S' := S29) ok_X12_years.1 (by decide +kernel) rfl rfl ?_
        obtain ⟨v34, ev34, h⟩ := ax_let_e h
        rw [ev34]
        refine ax_Tgoto (off := (-44)) (tgt := 62) (by decide +kernel) (by decide) ?_
        refine ax_Tdrop [true, true, true, true, true, true, false, true] (L' := [some (.inr (12, 0)), some (.inl (.int x18)), none, none, some (.inl (.int x19)), some (.inl (.int v34)), none, none]) rfl ?_
        exact ih x18 x19 v34 S29 _ _ h
      · rw [if_neg c33] at h
        refine ax_Tgo [.aload_n 0, .aload_n 0, .getfield 61, .iload 6] (pc' := 98) (L' := [some (.inr (12, 0)), some (.inl (.int x18)), none, none, some (.inl (.int x19)), some (.inl (.int x20)), some (.inl (.int r28)), none]) (st' := [.inl (.int r28), .inr (55, 0), .inr (12, 0)]) (S' := S29) ok_X12_years.1 (by decide +kernel) rfl rfl ?_
        obtain ⟨r38, S35, hq36, h⟩ := ax_bu_e h
        refine ax_TVi (d := 75) (ka := 12) (i := 0) [.inr (55, 0), .inl (.int r28)] [] lk_X12_355 (by decide +kernel) rfl (by decide) rfl (Nat.le_of_ble_eq_true rfl) (Nat.le_of_ble_eq_true rfl) ((t_X12_calls_55x0 hq36).up (by decide)) ?_
        refine ax_Tgo [.istore 7, .iinc 5 1] (pc' := 106) (L' := [some (.inr (12, 0)), some (.inl (.int x18)), none, none, some (.inl (.int x19)), some (.inl (.int (x20 + (1 : Int32)))), some (.inl (.int r28)), some (.inl (.int r38))]) (st' := []) (S' := S35) ok_X12_years.1 (by decide +kernel) rfl rfl ?_
        obtain ⟨v39, ev39, h⟩ := ax_let_e h
        rw [ev39]
        refine ax_Tgoto (off := (-44)) (tgt := 62) (by decide +kernel) (by decide) ?_
        refine ax_Tdrop [true, true, true, true, true, true, false, false] (L' := [some (.inr (12, 0)), some (.inl (.int x18)), none, none, some (.inl (.int x19)), some (.inl (.int v39)), none, none]) rfl ?_
        exact ih x18 x19 v39 S35 _ _ h
set_option maxRecDepth 100000 in
theorem t_X12_years_L49 {l : Launch} {K162 : AS → Option (Int32 × AS)} (hK162 : ∀ (S : AS) r Z, K162 S = some (r, Z) → ax_T l 76 ma_X12_years (162, [some (.inr (12, 0)), none, none, none, none, none, none, none], [], S) (some (.inl (.int r))) Z) : ∀ (n : Nat) (x11 : Int32) (x12 : Int32) (S13 : AS) r Z, f_X12_years_L49 K162 n x11 x12 S13 = some (r, Z) → ax_T l 76 ma_X12_years (49, [some (.inr (12, 0)), some (.inl (.int x11)), none, none, some (.inl (.int x12)), none, none, none], [], S13) (some (.inl (.int r))) Z := by
  intro n
  induction n with
  | zero =>
    intro x11 x12 S13 r Z h
    cases h
  | succ n ih =>
    intro x11 x12 S13 r Z h
    unfold f_X12_years_L49 at h
    refine ax_Tgo [.iload 4, .iload_n 1] (pc' := 52) (L' := [some (.inr (12, 0)), some (.inl (.int x11)), none, none, some (.inl (.int x12)), none, none, none]) (st' := [.inl (.int x11), .inl (.int x12)]) (S' := S13) ok_X12_years.1 (by decide +kernel) rfl rfl ?_
    refine ax_Tic_ge (off := 110) (tgt := 162) (by decide +kernel) (by decide) (fun c14 => ?_) (fun c14 => ?_)
    · rw [if_pos c14] at h
      refine ax_Tdrop [true, false, true, true, false, true, true, true] (L' := [some (.inr (12, 0)), none, none, none, none, none, none, none]) rfl ?_
      exact hK162 S13 _ _ h
    · rw [if_neg c14] at h
      refine ax_Tgo [.aload_n 0] (pc' := 56) (L' := [some (.inr (12, 0)), some (.inl (.int x11)), none, none, some (.inl (.int x12)), none, none, none]) (st' := [.inr (12, 0)]) (S' := S13) ok_X12_years.1 (by decide +kernel) rfl rfl ?_
      obtain ⟨S15, hq16, h⟩ := ax_bd_e h
      refine ax_TVv (d := 75) (ka := 12) (i := 0) [] [] lk_X12_352 (by decide +kernel) rfl (by decide) rfl (Nat.le_of_ble_eq_true rfl) (Nat.le_of_ble_eq_true rfl) ((t_X12_remember hq16).up (by decide)) ?_
      refine ax_Tgo [.iconst 0, .istore 5] (pc' := 62) (L' := [some (.inr (12, 0)), some (.inl (.int x11)), none, none, some (.inl (.int x12)), some (.inl (.int (0 : Int32))), none, none]) (st' := []) (S' := S15) ok_X12_years.1 (by decide +kernel) rfl rfl ?_
      refine t_X12_years_L62 ?_ _ x11 x12 (0 : Int32) S15 _ _ h
      · intro x21 x22 S40 r Z h
        refine ax_Tgo [.aload_n 0, .bipush 10] (pc' := 112) (L' := [some (.inr (12, 0)), some (.inl (.int x21)), none, none, some (.inl (.int x22)), none, none, none]) (st' := [.inl (.int (10 : Int32)), .inr (12, 0)]) (S' := S40) ok_X12_years.1 (by decide +kernel) rfl rfl ?_
        obtain ⟨r44, S41, hq42, h⟩ := ax_bu_e h
        refine ax_TVi (d := 75) (ka := 12) (i := 0) [.inl (.int (10 : Int32))] [] lk_X12_382 (by decide +kernel) rfl (by decide) rfl (Nat.le_of_ble_eq_true rfl) (Nat.le_of_ble_eq_true rfl) ((t_X12_draw hq42).up (by decide)) ?_
        refine ax_Tgo [.aload_n 0, .getfield 71] (pc' := 119) (L' := [some (.inr (12, 0)), some (.inl (.int x21)), none, none, some (.inl (.int x22)), none, none, none]) (st' := [.inl (.int (ax_fi S41 12 0 35)), .inl (.int r44)]) (S' := S41) ok_X12_years.1 (by decide +kernel) rfl rfl ?_
        refine ax_Tic_ge (off := 29) (tgt := 148) (by decide +kernel) (by decide) (fun c45 => ?_) (fun c45 => ?_)
        · rw [if_pos c45] at h
          refine ax_Tgo [.aload_n 0, .aload_n 0, .getfield 61] (pc' := 153) (L' := [some (.inr (12, 0)), some (.inl (.int x21)), none, none, some (.inl (.int x22)), none, none, none]) (st' := [.inr (55, 0), .inr (12, 0)]) (S' := S41) ok_X12_years.1 (by decide +kernel) rfl rfl ?_
          obtain ⟨S46, hq47, h⟩ := ax_bd_e h
          refine ax_TVv (d := 75) (ka := 12) (i := 0) [.inr (55, 0)] [] lk_X12_368 (by decide +kernel) rfl (by decide) rfl (Nat.le_of_ble_eq_true rfl) (Nat.le_of_ble_eq_true rfl) ((t_X12_goDay_55x0 hq47).up (by decide)) ?_
          refine ax_Tgo [.iinc 4 1] (pc' := 159) (L' := [some (.inr (12, 0)), some (.inl (.int x21)), none, none, some (.inl (.int (x22 + (1 : Int32)))), none, none, none]) (st' := []) (S' := S46) ok_X12_years.1 (by decide +kernel) rfl rfl ?_
          obtain ⟨v49, ev49, h⟩ := ax_let_e h
          rw [ev49]
          refine ax_Tgoto (off := (-110)) (tgt := 49) (by decide +kernel) (by decide) ?_
          exact ih x21 v49 S46 _ _ h
        · rw [if_neg c45] at h
          refine ax_Tgo [.aload_n 0, .aload_n 0, .getfield 291] (pc' := 127) (L' := [some (.inr (12, 0)), some (.inl (.int x21)), none, none, some (.inl (.int x22)), none, none, none]) (st' := [.inl (.int (ax_fi S41 12 0 27)), .inr (12, 0)]) (S' := S41) ok_X12_years.1 (by decide +kernel) rfl rfl ?_
          obtain ⟨r53, S50, hq51, h⟩ := ax_bu_e h
          refine ax_TVi (d := 75) (ka := 12) (i := 0) [.inl (.int (ax_fi S41 12 0 27))] [] lk_X12_382 (by decide +kernel) rfl (by decide) rfl (Nat.le_of_ble_eq_true rfl) (Nat.le_of_ble_eq_true rfl) ((t_X12_draw hq51).up (by decide)) ?_
          refine ax_Tgo [.istore 5, .aload_n 0, .getfield 61, .iconst 2, .iload 5, .imul, .iconst 0, .iadd, .aload_n 0, .iconst 4] (pc' := 144) (L' := [some (.inr (12, 0)), some (.inl (.int x21)), none, none, some (.inl (.int x22)), some (.inl (.int r53)), none, none]) (st' := [.inl (.int (4 : Int32)), .inr (12, 0), .inl (.int (((2 : Int32) * r53) + (0 : Int32))), .inr (55, 0)]) (S' := S50) ok_X12_years.1 (by decide +kernel) rfl rfl ?_
          obtain ⟨r57, S54, hq55, h⟩ := ax_bu_e h
          refine ax_TVi (d := 75) (ka := 12) (i := 0) [.inl (.int (4 : Int32))] [.inl (.int (((2 : Int32) * r53) + (0 : Int32))), .inr (55, 0)] lk_X12_382 (by decide +kernel) rfl (by decide) rfl (Nat.le_of_ble_eq_true rfl) (Nat.le_of_ble_eq_true rfl) ((t_X12_draw hq55).up (by decide)) ?_
          obtain ⟨g58, h⟩ := ax_gd_e h
          refine ax_Tasi (n := 204) ok_X12_years.1 (by decide +kernel) (by decide) rfl g58 ?_
          obtain ⟨S59, eS59, h⟩ := ax_let_e h
          rw [eS59]
          refine ax_Tgo [.aload_n 0, .aload_n 0, .getfield 61] (pc' := 153) (L' := [some (.inr (12, 0)), some (.inl (.int x21)), none, none, some (.inl (.int x22)), some (.inl (.int r53)), none, none]) (st' := [.inr (55, 0), .inr (12, 0)]) (S' := S59) ok_X12_years.1 (by decide +kernel) rfl rfl ?_
          obtain ⟨S60, hq61, h⟩ := ax_bd_e h
          refine ax_TVv (d := 75) (ka := 12) (i := 0) [.inr (55, 0)] [] lk_X12_368 (by decide +kernel) rfl (by decide) rfl (Nat.le_of_ble_eq_true rfl) (Nat.le_of_ble_eq_true rfl) ((t_X12_goDay_55x0 hq61).up (by decide)) ?_
          refine ax_Tgo [.iinc 4 1] (pc' := 159) (L' := [some (.inr (12, 0)), some (.inl (.int x21)), none, none, some (.inl (.int (x22 + (1 : Int32)))), some (.inl (.int r53)), none, none]) (st' := []) (S' := S60) ok_X12_years.1 (by decide +kernel) rfl rfl ?_
          obtain ⟨v63, ev63, h⟩ := ax_let_e h
          rw [ev63]
          refine ax_Tgoto (off := (-110)) (tgt := 49) (by decide +kernel) (by decide) ?_
          refine ax_Tdrop [true, true, true, true, true, false, true, true] (L' := [some (.inr (12, 0)), some (.inl (.int x21)), none, none, some (.inl (.int v63)), none, none, none]) rfl ?_
          exact ih x21 v63 S60 _ _ h
set_option maxRecDepth 100000 in
theorem t_X12_years {l : Launch} {a1 : Int32} {a2 : Int64} {S Z : AS} {r : Int32} (h : f_X12_years a1 a2 S = some (r, Z)) : ax_M l 76 ma_X12_years [.inr (12, 0), .inl (.int a1), .inl (.long a2)] S (some (.inl (.int r))) Z := by
  unfold f_X12_years at h
  show ax_T l 76 ma_X12_years (0, [some (.inr (12, 0)), some (.inl (.int a1)), some (.inl (.long a2)), none, none, none, none, none], [], S) (some (.inl (.int r))) Z
  refine ax_Tgo [.aload_n 0, .iconst 0, .putfield 93] (pc' := 5) (L' := [some (.inr (12, 0)), some (.inl (.int a1)), some (.inl (.long a2)), none, none, none, none, none]) (st' := []) (S' := (ax_sfi S 12 0 0 (0 : Int32))) ok_X12_years.1 (by decide +kernel) rfl rfl ?_
  obtain ⟨S1, eS1, h⟩ := ax_let_e h
  rw [eS1]
  refine ax_Tgo [.aload_n 0, .getfield 291] (pc' := 9) (L' := [some (.inr (12, 0)), some (.inl (.int a1)), some (.inl (.long a2)), none, none, none, none, none]) (st' := [.inl (.int (ax_fi S1 12 0 27))]) (S' := S1) ok_X12_years.1 (by decide +kernel) rfl rfl ?_
  refine ax_Tif_eq (off := 30) (tgt := 39) (by decide +kernel) (by decide) (fun c2 => ?_) (fun c2 => ?_)
  · rw [if_pos c2] at h
    refine ax_Tgo [.iconst (-1)] (pc' := 40) (L' := [some (.inr (12, 0)), some (.inl (.int a1)), some (.inl (.long a2)), none, none, none, none, none]) (st' := [.inl (.int (Int32.ofInt (-1)))]) (S' := S1) ok_X12_years.1 (by decide +kernel) rfl rfl ?_
    cases h
    exact ax_Treti (by decide +kernel) rfl rfl
  · rw [if_neg c2] at h
    refine ax_Tgo [.iload_n 1, .i2l, .lconst 1, .ldc2_w 380] (pc' := 18) (L' := [some (.inr (12, 0)), some (.inl (.int a1)), some (.inl (.long a2)), none, none, none, none, none]) (st' := [.inl (.long (30 : Int64)), .inl (.long (1 : Int64)), .inl (.long a1.toInt64)]) (S' := S1) ok_X12_years.1 (by decide +kernel) rfl rfl ?_
    obtain ⟨r6, hq4, h⟩ := ax_bd_e h
    refine ax_TSi (d := 75) [.inl (.long a1.toInt64), .inl (.long (1 : Int64)), .inl (.long (30 : Int64))] [] lk_X12_214 (by decide +kernel) rfl rfl (Nat.le_of_ble_eq_true rfl) (Nat.le_of_ble_eq_true rfl) ((t_X12_isIn hq4).up (by decide)) ?_
    refine ax_Tif_eq (off := 18) (tgt := 39) (by decide +kernel) (by decide) (fun c7 => ?_) (fun c7 => ?_)
    · rw [if_pos c7] at h
      refine ax_Tgo [.iconst (-1)] (pc' := 40) (L' := [some (.inr (12, 0)), some (.inl (.int a1)), some (.inl (.long a2)), none, none, none, none, none]) (st' := [.inl (.int (Int32.ofInt (-1)))]) (S' := S1) ok_X12_years.1 (by decide +kernel) rfl rfl ?_
      cases h
      exact ax_Treti (by decide +kernel) rfl rfl
    · rw [if_neg c7] at h
      refine ax_Tgo [.aload_n 0, .getfield 61, .bipush 22] (pc' := 30) (L' := [some (.inr (12, 0)), some (.inl (.int a1)), some (.inl (.long a2)), none, none, none, none, none]) (st' := [.inl (.int (22 : Int32)), .inr (55, 0)]) (S' := S1) ok_X12_years.1 (by decide +kernel) rfl rfl ?_
      obtain ⟨g8, h⟩ := ax_gd_e h
      refine ax_Tali (n := 204) ok_X12_years.1 (by decide +kernel) (by decide) rfl g8 ?_
      refine ax_Tgo [.iload_n 1, .iadd, .sipush 999] (pc' := 36) (L' := [some (.inr (12, 0)), some (.inl (.int a1)), some (.inl (.long a2)), none, none, none, none, none]) (st' := [.inl (.int (999 : Int32)), .inl (.int ((ax_ai S1 55 0 (22 : Int32).toNatClampNeg) + a1))]) (S' := S1) ok_X12_years.1 (by decide +kernel) rfl rfl ?_
      refine ax_Tic_le (off := 5) (tgt := 41) (by decide +kernel) (by decide) (fun c9 => ?_) (fun c9 => ?_)
      · rw [if_pos c9] at h
        refine ax_Tgo [.aload_n 0, .lload_n 2, .putfield 372] (pc' := 46) (L' := [some (.inr (12, 0)), some (.inl (.int a1)), some (.inl (.long a2)), none, none, none, none, none]) (st' := []) (S' := (ax_sfl S1 12 0 40 a2)) ok_X12_years.1 (by decide +kernel) rfl rfl ?_
        obtain ⟨S10, eS10, h⟩ := ax_let_e h
        rw [eS10]
        refine ax_Tgo [.iconst 0, .istore 4] (pc' := 49) (L' := [some (.inr (12, 0)), some (.inl (.int a1)), some (.inl (.long a2)), none, some (.inl (.int (0 : Int32))), none, none, none]) (st' := []) (S' := S10) ok_X12_years.1 (by decide +kernel) rfl rfl ?_
        refine ax_Tdrop [true, true, false, true, true, true, true, true] (L' := [some (.inr (12, 0)), some (.inl (.int a1)), none, none, some (.inl (.int (0 : Int32))), none, none, none]) rfl ?_
        refine t_X12_years_L49 ?_ _ a1 (0 : Int32) S10 _ _ h
        · intro S64 r Z h
          refine ax_Tgo [.aload_n 0, .getfield 61, .bipush 22] (pc' := 168) (L' := [some (.inr (12, 0)), none, none, none, none, none, none, none]) (st' := [.inl (.int (22 : Int32)), .inr (55, 0)]) (S' := S64) ok_X12_years.1 (by decide +kernel) rfl rfl ?_
          obtain ⟨g65, h⟩ := ax_gd_e h
          refine ax_Tali (n := 204) ok_X12_years.1 (by decide +kernel) (by decide) rfl g65 ?_
          cases h
          exact ax_Treti (by decide +kernel) rfl rfl
      · rw [if_neg c9] at h
        refine ax_Tgo [.iconst (-1)] (pc' := 40) (L' := [some (.inr (12, 0)), some (.inl (.int a1)), some (.inl (.long a2)), none, none, none, none, none]) (st' := [.inl (.int (Int32.ofInt (-1)))]) (S' := S1) ok_X12_years.1 (by decide +kernel) rfl rfl ?_
        cases h
        exact ax_Treti (by decide +kernel) rfl rfl

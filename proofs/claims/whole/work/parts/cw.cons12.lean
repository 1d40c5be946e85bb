/-! CONSTRUCTOR of the reference (by program: wip/whole/mkcv.py) -/
def ma_X12_init : AM := (ka_X12, yX12_init, cX12_init, 1, none, 0, false)
set_option maxRecDepth 20000 in
theorem ok_X12_init : ax_ok ma_X12_init := ⟨List.mem_of_getElem? (i := 12) rfl, rfl, fun h => absurd h (by decide), ax_memi (ws := [Cond.code yX12_init cX12_init 1 none]) [1380] rfl (by decide +kernel) _ List.mem_cons_self, ai_X12, by decide⟩
theorem kl_X12 : ax_cls 12 (RX12, TX12, 50) tyX12 := ⟨al_X12, rfl, tyX12_ok, nmX12, ay_X12⟩
set_option maxRecDepth 20000 in
theorem wo_X12 : Cond.methodLink ma_X12_init.1.2.1 3 objectInit ∈ ax_tb ∧ Cond.instanceMethod objectInit ∈ ax_tb ∧ Cond.code objectInit ⟨#[0xb1]⟩ 1 none ∈ ax_tb := ⟨ax_memi (ws := [Cond.methodLink RX12 3 objectInit]) [1381] rfl (by decide +kernel) _ List.mem_cons_self, aw_oi, aw_oc⟩
abbrev fz_X12 : List Value := .int 0 :: .null :: .null :: .null :: .null :: .null :: .int 0 :: .int 0 :: .int 0 :: .int 0 :: .int 0 :: .int 0 :: .int 0 :: .int 0 :: .int 0 :: .null :: .null :: .int 0 :: .null :: .null :: .null :: .null :: .null :: .null :: .null :: .null :: .int 0 :: .int 0 :: .int 0 :: .int 0 :: .int 0 :: .int 0 :: .null :: .null :: .int 0 :: .int 0 :: .null :: .null :: .null :: .int 0 :: .long 0 :: .int 0 :: .int 0 :: .int 0 :: .int 0 :: .null :: .null :: .int 0 :: .null :: .int 0 :: []
theorem hf_X12 : ∀ j, j < 50 → defaultValue (tyX12 j) = vp_V fz_X12 j := by decide +kernel
theorem dz_X12_0 : decode ma_X12_init.2.2.1 0 = .ok (.aload_n 0, 1) := by decide +kernel
theorem dz_X12_1 : decode ma_X12_init.2.2.1 1 = .ok (.invokespecial 3, 3) := by decide +kernel
theorem dz_X12_4 : decode ma_X12_init.2.2.1 4 = .ok (.aload_n 0, 1) := by decide +kernel
theorem dz_X12_5 : decode ma_X12_init.2.2.1 5 = .ok (.sipush 240, 3) := by decide +kernel
theorem dz_X12_8 : decode ma_X12_init.2.2.1 8 = .ok (.newarray .byte, 2) := by decide +kernel
theorem dz_X12_10 : decode ma_X12_init.2.2.1 10 = .ok (.putfield 9, 3) := by decide +kernel
theorem dz_X12_13 : decode ma_X12_init.2.2.1 13 = .ok (.aload_n 0, 1) := by decide +kernel
theorem dz_X12_14 : decode ma_X12_init.2.2.1 14 = .ok (.sipush 960, 3) := by decide +kernel
theorem dz_X12_17 : decode ma_X12_init.2.2.1 17 = .ok (.newarray .byte, 2) := by decide +kernel
theorem dz_X12_19 : decode ma_X12_init.2.2.1 19 = .ok (.putfield 13, 3) := by decide +kernel
theorem dz_X12_22 : decode ma_X12_init.2.2.1 22 = .ok (.aload_n 0, 1) := by decide +kernel
theorem dz_X12_23 : decode ma_X12_init.2.2.1 23 = .ok (.iconst 4, 1) := by decide +kernel
theorem dz_X12_24 : decode ma_X12_init.2.2.1 24 = .ok (.newarray .int, 2) := by decide +kernel
theorem dz_X12_26 : decode ma_X12_init.2.2.1 26 = .ok (.putfield 16, 3) := by decide +kernel
theorem dz_X12_29 : decode ma_X12_init.2.2.1 29 = .ok (.aload_n 0, 1) := by decide +kernel
theorem dz_X12_30 : decode ma_X12_init.2.2.1 30 = .ok (.sipush 128, 3) := by decide +kernel
theorem dz_X12_33 : decode ma_X12_init.2.2.1 33 = .ok (.newarray .int, 2) := by decide +kernel
theorem dz_X12_35 : decode ma_X12_init.2.2.1 35 = .ok (.putfield 20, 3) := by decide +kernel
theorem dz_X12_38 : decode ma_X12_init.2.2.1 38 = .ok (.aload_n 0, 1) := by decide +kernel
theorem dz_X12_39 : decode ma_X12_init.2.2.1 39 = .ok (.aload_n 0, 1) := by decide +kernel
theorem dz_X12_40 : decode ma_X12_init.2.2.1 40 = .ok (.getfield 9, 3) := by decide +kernel
theorem dz_X12_43 : decode ma_X12_init.2.2.1 43 = .ok (.putfield 23, 3) := by decide +kernel
theorem dz_X12_46 : decode ma_X12_init.2.2.1 46 = .ok (.aload_n 0, 1) := by decide +kernel
theorem dz_X12_47 : decode ma_X12_init.2.2.1 47 = .ok (.ldc 26, 2) := by decide +kernel
theorem dz_X12_49 : decode ma_X12_init.2.2.1 49 = .ok (.putfield 28, 3) := by decide +kernel
theorem dz_X12_52 : decode ma_X12_init.2.2.1 52 = .ok (.aload_n 0, 1) := by decide +kernel
theorem dz_X12_53 : decode ma_X12_init.2.2.1 53 = .ok (.ldc 32, 2) := by decide +kernel
theorem dz_X12_55 : decode ma_X12_init.2.2.1 55 = .ok (.putfield 34, 3) := by decide +kernel
theorem dz_X12_58 : decode ma_X12_init.2.2.1 58 = .ok (.aload_n 0, 1) := by decide +kernel
theorem dz_X12_59 : decode ma_X12_init.2.2.1 59 = .ok (.iconst 3, 1) := by decide +kernel
theorem dz_X12_60 : decode ma_X12_init.2.2.1 60 = .ok (.newarray .int, 2) := by decide +kernel
theorem dz_X12_62 : decode ma_X12_init.2.2.1 62 = .ok (.putfield 37, 3) := by decide +kernel
theorem dz_X12_65 : decode ma_X12_init.2.2.1 65 = .ok (.aload_n 0, 1) := by decide +kernel
theorem dz_X12_66 : decode ma_X12_init.2.2.1 66 = .ok (.iconst 3, 1) := by decide +kernel
theorem dz_X12_67 : decode ma_X12_init.2.2.1 67 = .ok (.newarray .int, 2) := by decide +kernel
theorem dz_X12_69 : decode ma_X12_init.2.2.1 69 = .ok (.putfield 40, 3) := by decide +kernel
theorem dz_X12_72 : decode ma_X12_init.2.2.1 72 = .ok (.aload_n 0, 1) := by decide +kernel
theorem dz_X12_73 : decode ma_X12_init.2.2.1 73 = .ok (.bipush 8, 2) := by decide +kernel
theorem dz_X12_75 : decode ma_X12_init.2.2.1 75 = .ok (.newarray .int, 2) := by decide +kernel
theorem dz_X12_77 : decode ma_X12_init.2.2.1 77 = .ok (.putfield 43, 3) := by decide +kernel
theorem dz_X12_80 : decode ma_X12_init.2.2.1 80 = .ok (.aload_n 0, 1) := by decide +kernel
theorem dz_X12_81 : decode ma_X12_init.2.2.1 81 = .ok (.bipush 8, 2) := by decide +kernel
theorem dz_X12_83 : decode ma_X12_init.2.2.1 83 = .ok (.newarray .int, 2) := by decide +kernel
theorem dz_X12_85 : decode ma_X12_init.2.2.1 85 = .ok (.putfield 46, 3) := by decide +kernel
theorem dz_X12_88 : decode ma_X12_init.2.2.1 88 = .ok (.aload_n 0, 1) := by decide +kernel
theorem dz_X12_89 : decode ma_X12_init.2.2.1 89 = .ok (.bipush 42, 2) := by decide +kernel
theorem dz_X12_91 : decode ma_X12_init.2.2.1 91 = .ok (.newarray .int, 2) := by decide +kernel
theorem dz_X12_93 : decode ma_X12_init.2.2.1 93 = .ok (.putfield 49, 3) := by decide +kernel
theorem dz_X12_96 : decode ma_X12_init.2.2.1 96 = .ok (.aload_n 0, 1) := by decide +kernel
theorem dz_X12_97 : decode ma_X12_init.2.2.1 97 = .ok (.bipush 42, 2) := by decide +kernel
theorem dz_X12_99 : decode ma_X12_init.2.2.1 99 = .ok (.newarray .int, 2) := by decide +kernel
theorem dz_X12_101 : decode ma_X12_init.2.2.1 101 = .ok (.putfield 52, 3) := by decide +kernel
theorem dz_X12_104 : decode ma_X12_init.2.2.1 104 = .ok (.aload_n 0, 1) := by decide +kernel
theorem dz_X12_105 : decode ma_X12_init.2.2.1 105 = .ok (.sipush 160, 3) := by decide +kernel
theorem dz_X12_108 : decode ma_X12_init.2.2.1 108 = .ok (.newarray .int, 2) := by decide +kernel
theorem dz_X12_110 : decode ma_X12_init.2.2.1 110 = .ok (.putfield 55, 3) := by decide +kernel
theorem dz_X12_113 : decode ma_X12_init.2.2.1 113 = .ok (.aload_n 0, 1) := by decide +kernel
theorem dz_X12_114 : decode ma_X12_init.2.2.1 114 = .ok (.iconst 5, 1) := by decide +kernel
theorem dz_X12_115 : decode ma_X12_init.2.2.1 115 = .ok (.newarray .int, 2) := by decide +kernel
theorem dz_X12_117 : decode ma_X12_init.2.2.1 117 = .ok (.putfield 58, 3) := by decide +kernel
theorem dz_X12_120 : decode ma_X12_init.2.2.1 120 = .ok (.aload_n 0, 1) := by decide +kernel
theorem dz_X12_121 : decode ma_X12_init.2.2.1 121 = .ok (.sipush 204, 3) := by decide +kernel
theorem dz_X12_124 : decode ma_X12_init.2.2.1 124 = .ok (.newarray .int, 2) := by decide +kernel
theorem dz_X12_126 : decode ma_X12_init.2.2.1 126 = .ok (.putfield 61, 3) := by decide +kernel
theorem dz_X12_129 : decode ma_X12_init.2.2.1 129 = .ok (.aload_n 0, 1) := by decide +kernel
theorem dz_X12_130 : decode ma_X12_init.2.2.1 130 = .ok (.sipush 204, 3) := by decide +kernel
theorem dz_X12_133 : decode ma_X12_init.2.2.1 133 = .ok (.newarray .int, 2) := by decide +kernel
theorem dz_X12_135 : decode ma_X12_init.2.2.1 135 = .ok (.putfield 64, 3) := by decide +kernel
theorem dz_X12_138 : decode ma_X12_init.2.2.1 138 = .ok (.aload_n 0, 1) := by decide +kernel
theorem dz_X12_139 : decode ma_X12_init.2.2.1 139 = .ok (.iconst (-1), 1) := by decide +kernel
theorem dz_X12_140 : decode ma_X12_init.2.2.1 140 = .ok (.putfield 67, 3) := by decide +kernel
theorem dz_X12_143 : decode ma_X12_init.2.2.1 143 = .ok (.aload_n 0, 1) := by decide +kernel
theorem dz_X12_144 : decode ma_X12_init.2.2.1 144 = .ok (.iconst 1, 1) := by decide +kernel
theorem dz_X12_145 : decode ma_X12_init.2.2.1 145 = .ok (.putfield 71, 3) := by decide +kernel
theorem dz_X12_148 : decode ma_X12_init.2.2.1 148 = .ok (.aload_n 0, 1) := by decide +kernel
theorem dz_X12_149 : decode ma_X12_init.2.2.1 149 = .ok (.sipush 8191, 3) := by decide +kernel
theorem dz_X12_152 : decode ma_X12_init.2.2.1 152 = .ok (.newarray .long, 2) := by decide +kernel
theorem dz_X12_154 : decode ma_X12_init.2.2.1 154 = .ok (.putfield 74, 3) := by decide +kernel
theorem dz_X12_157 : decode ma_X12_init.2.2.1 157 = .ok (.aload_n 0, 1) := by decide +kernel
theorem dz_X12_158 : decode ma_X12_init.2.2.1 158 = .ok (.sipush 8191, 3) := by decide +kernel
theorem dz_X12_161 : decode ma_X12_init.2.2.1 161 = .ok (.newarray .int, 2) := by decide +kernel
theorem dz_X12_163 : decode ma_X12_init.2.2.1 163 = .ok (.putfield 78, 3) := by decide +kernel
theorem dz_X12_166 : decode ma_X12_init.2.2.1 166 = .ok (.aload_n 0, 1) := by decide +kernel
theorem dz_X12_167 : decode ma_X12_init.2.2.1 167 = .ok (.sipush 8160, 3) := by decide +kernel
theorem dz_X12_170 : decode ma_X12_init.2.2.1 170 = .ok (.newarray .int, 2) := by decide +kernel
theorem dz_X12_172 : decode ma_X12_init.2.2.1 172 = .ok (.putfield 81, 3) := by decide +kernel
theorem dz_X12_175 : decode ma_X12_init.2.2.1 175 = .ok (.aload_n 0, 1) := by decide +kernel
theorem dz_X12_176 : decode ma_X12_init.2.2.1 176 = .ok (.sipush 168, 3) := by decide +kernel
theorem dz_X12_179 : decode ma_X12_init.2.2.1 179 = .ok (.newarray .int, 2) := by decide +kernel
theorem dz_X12_181 : decode ma_X12_init.2.2.1 181 = .ok (.putfield 84, 3) := by decide +kernel
theorem dz_X12_184 : decode ma_X12_init.2.2.1 184 = .ok (.aload_n 0, 1) := by decide +kernel
theorem dz_X12_185 : decode ma_X12_init.2.2.1 185 = .ok (.bipush 30, 2) := by decide +kernel
theorem dz_X12_187 : decode ma_X12_init.2.2.1 187 = .ok (.newarray .int, 2) := by decide +kernel
theorem dz_X12_189 : decode ma_X12_init.2.2.1 189 = .ok (.putfield 87, 3) := by decide +kernel
theorem dz_X12_192 : decode ma_X12_init.2.2.1 192 = .ok (.aload_n 0, 1) := by decide +kernel
theorem dz_X12_193 : decode ma_X12_init.2.2.1 193 = .ok (.sipush 204, 3) := by decide +kernel
theorem dz_X12_196 : decode ma_X12_init.2.2.1 196 = .ok (.newarray .int, 2) := by decide +kernel
theorem dz_X12_198 : decode ma_X12_init.2.2.1 198 = .ok (.putfield 90, 3) := by decide +kernel
theorem dz_X12_201 : decode ma_X12_init.2.2.1 201 = .ok (.return_, 1) := by decide +kernel
def w_X12 (ay an : Nat) (cy : Nat → ClassId) (h0 : Nat) (u : Nat → Nat) : va_W := [(h0, .inr (12, .int 0 :: .ref (u 0) :: .ref (u 1) :: .ref (u 2) :: .ref (u 3) :: .ref (u 0) :: .int 0 :: .int 0 :: .int 0 :: .int 0 :: .int 0 :: .int 0 :: .int 0 :: .int 0 :: .int 0 :: .ref ay :: .ref an :: .int 0 :: .ref (u 4) :: .ref (u 5) :: .ref (u 6) :: .ref (u 7) :: .ref (u 8) :: .ref (u 9) :: .ref (u 10) :: .ref (u 11) :: .int 0 :: .int 0 :: .int 0 :: .int 0 :: .int 0 :: .int 0 :: .ref (u 12) :: .ref (u 13) :: .int (-1) :: .int 1 :: .ref (u 14) :: .ref (u 15) :: .ref (u 16) :: .int 0 :: .long 0 :: .int 0 :: .int 0 :: .int 0 :: .int 0 :: .ref (u 17) :: .ref (u 18) :: .int 0 :: .ref (u 19) :: .int 0 :: [])), (u 0, .inl (cy 2, 240, .inl (fun _ => 0))), (u 1, .inl (cy 2, 960, .inl (fun _ => 0))), (u 2, .inl (cy 0, 4, .inl (fun _ => 0))), (u 3, .inl (cy 0, 128, .inl (fun _ => 0))), (u 4, .inl (cy 0, 3, .inl (fun _ => 0))), (u 5, .inl (cy 0, 3, .inl (fun _ => 0))), (u 6, .inl (cy 0, 8, .inl (fun _ => 0))), (u 7, .inl (cy 0, 8, .inl (fun _ => 0))), (u 8, .inl (cy 0, 42, .inl (fun _ => 0))), (u 9, .inl (cy 0, 42, .inl (fun _ => 0))), (u 10, .inl (cy 0, 160, .inl (fun _ => 0))), (u 11, .inl (cy 0, 5, .inl (fun _ => 0))), (u 12, .inl (cy 0, 204, .inl (fun _ => 0))), (u 13, .inl (cy 0, 204, .inl (fun _ => 0))), (u 14, .inl (cy 3, 8191, .inr (.inl (fun _ => 0)))), (u 15, .inl (cy 0, 8191, .inl (fun _ => 0))), (u 16, .inl (cy 0, 8160, .inl (fun _ => 0))), (u 17, .inl (cy 0, 168, .inl (fun _ => 0))), (u 18, .inl (cy 0, 30, .inl (fun _ => 0))), (u 19, .inl (cy 0, 204, .inl (fun _ => 0)))]
def g_X12 (ay an : Nat) (U : State) : Prop := vk_R RX12 26 "y" ay U ∧ vk_R RX12 32 "nptgsd" an U
set_option maxHeartbeats 4000000 in
set_option maxRecDepth 20000 in
theorem cb_X12 {l : Launch} {ay an : Nat} : cz_B l ma_X12_init 12 fz_X12 (w_X12 ay an) 20 26955 1 (g_X12 ay an) := by
  intro p e R s m args below meth c Q A dC dI cy h0 ls hC hnm hG hR hl hI kk
  have hx := hC.1
  have hb := hC.2.1
  have a0 := lv_at hl 0 rfl
  refine lv_aload_n hx hb dz_X12_0 rfl a0 ?_
  refine cz_obj hC hl.1 wo_X12 ⟨by omega, by omega⟩ dz_X12_1 ?_
  obtain ⟨w0, e0⟩ : ∃ z : va_W, z = [] := ⟨_, rfl⟩
  have hI : cz_I s A dC dI ((h0, .inr (12, .int 0 :: .null :: .null :: .null :: .null :: .null :: .int 0 :: .int 0 :: .int 0 :: .int 0 :: .int 0 :: .int 0 :: .int 0 :: .int 0 :: .int 0 :: .null :: .null :: .int 0 :: .null :: .null :: .null :: .null :: .null :: .null :: .null :: .null :: .int 0 :: .int 0 :: .int 0 :: .int 0 :: .int 0 :: .int 0 :: .null :: .null :: .int 0 :: .int 0 :: .null :: .null :: .null :: .int 0 :: .long 0 :: .int 0 :: .int 0 :: .int 0 :: .int 0 :: .null :: .null :: .int 0 :: .null :: .int 0 :: [])) :: w0) s.heap [] := by rw [e0]; exact hI
  refine lv_aload_n hx hb dz_X12_4 rfl a0 ?_
  refine lv_sipush (v := 240) hx hb dz_X12_5 (by decide) ?_
  refine cz_newb (N' := 240) hC hI dz_X12_8 aw_byte (by decide) (by decide) (by decide) (by omega) (by omega) (fun q0 H hI => ?_)
  obtain ⟨w1, e1⟩ : ∃ z : va_W, z = w0 ++ [(q0, .inl (cy 2, 240, .inl (fun _ => 0)))] := ⟨_, rfl⟩
  have hI : cz_I s A dC dI ((h0, .inr (12, .int 0 :: .null :: .null :: .null :: .null :: .null :: .int 0 :: .int 0 :: .int 0 :: .int 0 :: .int 0 :: .int 0 :: .int 0 :: .int 0 :: .int 0 :: .null :: .null :: .int 0 :: .null :: .null :: .null :: .null :: .null :: .null :: .null :: .null :: .int 0 :: .int 0 :: .int 0 :: .int 0 :: .int 0 :: .int 0 :: .null :: .null :: .int 0 :: .int 0 :: .null :: .null :: .null :: .int 0 :: .long 0 :: .int 0 :: .int 0 :: .int 0 :: .int 0 :: .null :: .null :: .int 0 :: .null :: .int 0 :: [])) :: w1) H [] := by rw [e1]; exact hI
  refine cz_put (sl := 1) hC hI rfl kl_X12 hnm (by decide) (by decide) rfl rfl rfl (by show 1 < 50; decide) dz_X12_10 (fun H locs hI => ?_)
  have hI : cz_I s A dC dI ((h0, .inr (12, .int 0 :: .ref q0 :: .null :: .null :: .null :: .null :: .int 0 :: .int 0 :: .int 0 :: .int 0 :: .int 0 :: .int 0 :: .int 0 :: .int 0 :: .int 0 :: .null :: .null :: .int 0 :: .null :: .null :: .null :: .null :: .null :: .null :: .null :: .null :: .int 0 :: .int 0 :: .int 0 :: .int 0 :: .int 0 :: .int 0 :: .null :: .null :: .int 0 :: .int 0 :: .null :: .null :: .null :: .int 0 :: .long 0 :: .int 0 :: .int 0 :: .int 0 :: .int 0 :: .null :: .null :: .int 0 :: .null :: .int 0 :: [])) :: w1) H locs := hI
  refine lv_aload_n hx hb dz_X12_13 rfl a0 ?_
  refine lv_sipush (v := 960) hx hb dz_X12_14 (by decide) ?_
  refine cz_newb (N' := 960) hC hI dz_X12_17 aw_byte (by decide) (by decide) (by decide) (by omega) (by omega) (fun q1 H hI => ?_)
  obtain ⟨w2, e2⟩ : ∃ z : va_W, z = w1 ++ [(q1, .inl (cy 2, 960, .inl (fun _ => 0)))] := ⟨_, rfl⟩
  have hI : cz_I s A dC dI ((h0, .inr (12, .int 0 :: .ref q0 :: .null :: .null :: .null :: .null :: .int 0 :: .int 0 :: .int 0 :: .int 0 :: .int 0 :: .int 0 :: .int 0 :: .int 0 :: .int 0 :: .null :: .null :: .int 0 :: .null :: .null :: .null :: .null :: .null :: .null :: .null :: .null :: .int 0 :: .int 0 :: .int 0 :: .int 0 :: .int 0 :: .int 0 :: .null :: .null :: .int 0 :: .int 0 :: .null :: .null :: .null :: .int 0 :: .long 0 :: .int 0 :: .int 0 :: .int 0 :: .int 0 :: .null :: .null :: .int 0 :: .null :: .int 0 :: [])) :: w2) H locs := by rw [e2]; exact hI
  refine cz_put (sl := 2) hC hI rfl kl_X12 hnm (by decide) (by decide) rfl rfl rfl (by show 2 < 50; decide) dz_X12_19 (fun H locs hI => ?_)
  have hI : cz_I s A dC dI ((h0, .inr (12, .int 0 :: .ref q0 :: .ref q1 :: .null :: .null :: .null :: .int 0 :: .int 0 :: .int 0 :: .int 0 :: .int 0 :: .int 0 :: .int 0 :: .int 0 :: .int 0 :: .null :: .null :: .int 0 :: .null :: .null :: .null :: .null :: .null :: .null :: .null :: .null :: .int 0 :: .int 0 :: .int 0 :: .int 0 :: .int 0 :: .int 0 :: .null :: .null :: .int 0 :: .int 0 :: .null :: .null :: .null :: .int 0 :: .long 0 :: .int 0 :: .int 0 :: .int 0 :: .int 0 :: .null :: .null :: .int 0 :: .null :: .int 0 :: [])) :: w2) H locs := hI
  refine lv_aload_n hx hb dz_X12_22 rfl a0 ?_
  refine lv_iconst (v := 4) hx hb dz_X12_23 (by decide) ?_
  refine cz_newi (N' := 4) hC hI dz_X12_24 aw_int (by decide) (by decide) (by decide) (by omega) (by omega) (fun q2 H hI => ?_)
  obtain ⟨w3, e3⟩ : ∃ z : va_W, z = w2 ++ [(q2, .inl (cy 0, 4, .inl (fun _ => 0)))] := ⟨_, rfl⟩
  have hI : cz_I s A dC dI ((h0, .inr (12, .int 0 :: .ref q0 :: .ref q1 :: .null :: .null :: .null :: .int 0 :: .int 0 :: .int 0 :: .int 0 :: .int 0 :: .int 0 :: .int 0 :: .int 0 :: .int 0 :: .null :: .null :: .int 0 :: .null :: .null :: .null :: .null :: .null :: .null :: .null :: .null :: .int 0 :: .int 0 :: .int 0 :: .int 0 :: .int 0 :: .int 0 :: .null :: .null :: .int 0 :: .int 0 :: .null :: .null :: .null :: .int 0 :: .long 0 :: .int 0 :: .int 0 :: .int 0 :: .int 0 :: .null :: .null :: .int 0 :: .null :: .int 0 :: [])) :: w3) H locs := by rw [e3]; exact hI
  refine cz_put (sl := 3) hC hI rfl kl_X12 hnm (by decide) (by decide) rfl rfl rfl (by show 3 < 50; decide) dz_X12_26 (fun H locs hI => ?_)
  have hI : cz_I s A dC dI ((h0, .inr (12, .int 0 :: .ref q0 :: .ref q1 :: .ref q2 :: .null :: .null :: .int 0 :: .int 0 :: .int 0 :: .int 0 :: .int 0 :: .int 0 :: .int 0 :: .int 0 :: .int 0 :: .null :: .null :: .int 0 :: .null :: .null :: .null :: .null :: .null :: .null :: .null :: .null :: .int 0 :: .int 0 :: .int 0 :: .int 0 :: .int 0 :: .int 0 :: .null :: .null :: .int 0 :: .int 0 :: .null :: .null :: .null :: .int 0 :: .long 0 :: .int 0 :: .int 0 :: .int 0 :: .int 0 :: .null :: .null :: .int 0 :: .null :: .int 0 :: [])) :: w3) H locs := hI
  refine lv_aload_n hx hb dz_X12_29 rfl a0 ?_
  refine lv_sipush (v := 128) hx hb dz_X12_30 (by decide) ?_
  refine cz_newi (N' := 128) hC hI dz_X12_33 aw_int (by decide) (by decide) (by decide) (by omega) (by omega) (fun q3 H hI => ?_)
  obtain ⟨w4, e4⟩ : ∃ z : va_W, z = w3 ++ [(q3, .inl (cy 0, 128, .inl (fun _ => 0)))] := ⟨_, rfl⟩
  have hI : cz_I s A dC dI ((h0, .inr (12, .int 0 :: .ref q0 :: .ref q1 :: .ref q2 :: .null :: .null :: .int 0 :: .int 0 :: .int 0 :: .int 0 :: .int 0 :: .int 0 :: .int 0 :: .int 0 :: .int 0 :: .null :: .null :: .int 0 :: .null :: .null :: .null :: .null :: .null :: .null :: .null :: .null :: .int 0 :: .int 0 :: .int 0 :: .int 0 :: .int 0 :: .int 0 :: .null :: .null :: .int 0 :: .int 0 :: .null :: .null :: .null :: .int 0 :: .long 0 :: .int 0 :: .int 0 :: .int 0 :: .int 0 :: .null :: .null :: .int 0 :: .null :: .int 0 :: [])) :: w4) H locs := by rw [e4]; exact hI
  refine cz_put (sl := 4) hC hI rfl kl_X12 hnm (by decide) (by decide) rfl rfl rfl (by show 4 < 50; decide) dz_X12_35 (fun H locs hI => ?_)
  have hI : cz_I s A dC dI ((h0, .inr (12, .int 0 :: .ref q0 :: .ref q1 :: .ref q2 :: .ref q3 :: .null :: .int 0 :: .int 0 :: .int 0 :: .int 0 :: .int 0 :: .int 0 :: .int 0 :: .int 0 :: .int 0 :: .null :: .null :: .int 0 :: .null :: .null :: .null :: .null :: .null :: .null :: .null :: .null :: .int 0 :: .int 0 :: .int 0 :: .int 0 :: .int 0 :: .int 0 :: .null :: .null :: .int 0 :: .int 0 :: .null :: .null :: .null :: .int 0 :: .long 0 :: .int 0 :: .int 0 :: .int 0 :: .int 0 :: .null :: .null :: .int 0 :: .null :: .int 0 :: [])) :: w4) H locs := hI
  refine lv_aload_n hx hb dz_X12_38 rfl a0 ?_
  refine lv_aload_n hx hb dz_X12_39 rfl a0 ?_
  refine cz_get (sl := 1) (v := .ref q0) hC hI rfl kl_X12 (by decide) (by decide) rfl dz_X12_40 ?_
  refine cz_put (sl := 5) hC hI rfl kl_X12 hnm (by decide) (by decide) rfl rfl rfl (by show 5 < 50; decide) dz_X12_43 (fun H locs hI => ?_)
  have hI : cz_I s A dC dI ((h0, .inr (12, .int 0 :: .ref q0 :: .ref q1 :: .ref q2 :: .ref q3 :: .ref q0 :: .int 0 :: .int 0 :: .int 0 :: .int 0 :: .int 0 :: .int 0 :: .int 0 :: .int 0 :: .int 0 :: .null :: .null :: .int 0 :: .null :: .null :: .null :: .null :: .null :: .null :: .null :: .null :: .int 0 :: .int 0 :: .int 0 :: .int 0 :: .int 0 :: .int 0 :: .null :: .null :: .int 0 :: .int 0 :: .null :: .null :: .null :: .int 0 :: .long 0 :: .int 0 :: .int 0 :: .int 0 :: .int 0 :: .null :: .null :: .int 0 :: .null :: .int 0 :: [])) :: w4) H locs := hI
  refine lv_aload_n hx hb dz_X12_46 rfl a0 ?_
  refine va_ldcS hx hb hC.2.2.2.1 hG.1 dz_X12_47 ?_
  refine cz_put (sl := 15) hC hI rfl kl_X12 hnm (by decide) (by decide) rfl rfl rfl (by show 15 < 50; decide) dz_X12_49 (fun H locs hI => ?_)
  have hI : cz_I s A dC dI ((h0, .inr (12, .int 0 :: .ref q0 :: .ref q1 :: .ref q2 :: .ref q3 :: .ref q0 :: .int 0 :: .int 0 :: .int 0 :: .int 0 :: .int 0 :: .int 0 :: .int 0 :: .int 0 :: .int 0 :: .ref ay :: .null :: .int 0 :: .null :: .null :: .null :: .null :: .null :: .null :: .null :: .null :: .int 0 :: .int 0 :: .int 0 :: .int 0 :: .int 0 :: .int 0 :: .null :: .null :: .int 0 :: .int 0 :: .null :: .null :: .null :: .int 0 :: .long 0 :: .int 0 :: .int 0 :: .int 0 :: .int 0 :: .null :: .null :: .int 0 :: .null :: .int 0 :: [])) :: w4) H locs := hI
  refine lv_aload_n hx hb dz_X12_52 rfl a0 ?_
  refine va_ldcS hx hb hC.2.2.2.1 hG.2 dz_X12_53 ?_
  refine cz_put (sl := 16) hC hI rfl kl_X12 hnm (by decide) (by decide) rfl rfl rfl (by show 16 < 50; decide) dz_X12_55 (fun H locs hI => ?_)
  have hI : cz_I s A dC dI ((h0, .inr (12, .int 0 :: .ref q0 :: .ref q1 :: .ref q2 :: .ref q3 :: .ref q0 :: .int 0 :: .int 0 :: .int 0 :: .int 0 :: .int 0 :: .int 0 :: .int 0 :: .int 0 :: .int 0 :: .ref ay :: .ref an :: .int 0 :: .null :: .null :: .null :: .null :: .null :: .null :: .null :: .null :: .int 0 :: .int 0 :: .int 0 :: .int 0 :: .int 0 :: .int 0 :: .null :: .null :: .int 0 :: .int 0 :: .null :: .null :: .null :: .int 0 :: .long 0 :: .int 0 :: .int 0 :: .int 0 :: .int 0 :: .null :: .null :: .int 0 :: .null :: .int 0 :: [])) :: w4) H locs := hI
  refine lv_aload_n hx hb dz_X12_58 rfl a0 ?_
  refine lv_iconst (v := 3) hx hb dz_X12_59 (by decide) ?_
  refine cz_newi (N' := 3) hC hI dz_X12_60 aw_int (by decide) (by decide) (by decide) (by omega) (by omega) (fun q4 H hI => ?_)
  obtain ⟨w5, e5⟩ : ∃ z : va_W, z = w4 ++ [(q4, .inl (cy 0, 3, .inl (fun _ => 0)))] := ⟨_, rfl⟩
  have hI : cz_I s A dC dI ((h0, .inr (12, .int 0 :: .ref q0 :: .ref q1 :: .ref q2 :: .ref q3 :: .ref q0 :: .int 0 :: .int 0 :: .int 0 :: .int 0 :: .int 0 :: .int 0 :: .int 0 :: .int 0 :: .int 0 :: .ref ay :: .ref an :: .int 0 :: .null :: .null :: .null :: .null :: .null :: .null :: .null :: .null :: .int 0 :: .int 0 :: .int 0 :: .int 0 :: .int 0 :: .int 0 :: .null :: .null :: .int 0 :: .int 0 :: .null :: .null :: .null :: .int 0 :: .long 0 :: .int 0 :: .int 0 :: .int 0 :: .int 0 :: .null :: .null :: .int 0 :: .null :: .int 0 :: [])) :: w5) H locs := by rw [e5]; exact hI
  refine cz_put (sl := 18) hC hI rfl kl_X12 hnm (by decide) (by decide) rfl rfl rfl (by show 18 < 50; decide) dz_X12_62 (fun H locs hI => ?_)
  have hI : cz_I s A dC dI ((h0, .inr (12, .int 0 :: .ref q0 :: .ref q1 :: .ref q2 :: .ref q3 :: .ref q0 :: .int 0 :: .int 0 :: .int 0 :: .int 0 :: .int 0 :: .int 0 :: .int 0 :: .int 0 :: .int 0 :: .ref ay :: .ref an :: .int 0 :: .ref q4 :: .null :: .null :: .null :: .null :: .null :: .null :: .null :: .int 0 :: .int 0 :: .int 0 :: .int 0 :: .int 0 :: .int 0 :: .null :: .null :: .int 0 :: .int 0 :: .null :: .null :: .null :: .int 0 :: .long 0 :: .int 0 :: .int 0 :: .int 0 :: .int 0 :: .null :: .null :: .int 0 :: .null :: .int 0 :: [])) :: w5) H locs := hI
  refine lv_aload_n hx hb dz_X12_65 rfl a0 ?_
  refine lv_iconst (v := 3) hx hb dz_X12_66 (by decide) ?_
  refine cz_newi (N' := 3) hC hI dz_X12_67 aw_int (by decide) (by decide) (by decide) (by omega) (by omega) (fun q5 H hI => ?_)
  obtain ⟨w6, e6⟩ : ∃ z : va_W, z = w5 ++ [(q5, .inl (cy 0, 3, .inl (fun _ => 0)))] := ⟨_, rfl⟩
  have hI : cz_I s A dC dI ((h0, .inr (12, .int 0 :: .ref q0 :: .ref q1 :: .ref q2 :: .ref q3 :: .ref q0 :: .int 0 :: .int 0 :: .int 0 :: .int 0 :: .int 0 :: .int 0 :: .int 0 :: .int 0 :: .int 0 :: .ref ay :: .ref an :: .int 0 :: .ref q4 :: .null :: .null :: .null :: .null :: .null :: .null :: .null :: .int 0 :: .int 0 :: .int 0 :: .int 0 :: .int 0 :: .int 0 :: .null :: .null :: .int 0 :: .int 0 :: .null :: .null :: .null :: .int 0 :: .long 0 :: .int 0 :: .int 0 :: .int 0 :: .int 0 :: .null :: .null :: .int 0 :: .null :: .int 0 :: [])) :: w6) H locs := by rw [e6]; exact hI
  refine cz_put (sl := 19) hC hI rfl kl_X12 hnm (by decide) (by decide) rfl rfl rfl (by show 19 < 50; decide) dz_X12_69 (fun H locs hI => ?_)
  have hI : cz_I s A dC dI ((h0, .inr (12, .int 0 :: .ref q0 :: .ref q1 :: .ref q2 :: .ref q3 :: .ref q0 :: .int 0 :: .int 0 :: .int 0 :: .int 0 :: .int 0 :: .int 0 :: .int 0 :: .int 0 :: .int 0 :: .ref ay :: .ref an :: .int 0 :: .ref q4 :: .ref q5 :: .null :: .null :: .null :: .null :: .null :: .null :: .int 0 :: .int 0 :: .int 0 :: .int 0 :: .int 0 :: .int 0 :: .null :: .null :: .int 0 :: .int 0 :: .null :: .null :: .null :: .int 0 :: .long 0 :: .int 0 :: .int 0 :: .int 0 :: .int 0 :: .null :: .null :: .int 0 :: .null :: .int 0 :: [])) :: w6) H locs := hI
  refine lv_aload_n hx hb dz_X12_72 rfl a0 ?_
  refine lv_bipush (v := 8) hx hb dz_X12_73 (by decide) ?_
  refine cz_newi (N' := 8) hC hI dz_X12_75 aw_int (by decide) (by decide) (by decide) (by omega) (by omega) (fun q6 H hI => ?_)
  obtain ⟨w7, e7⟩ : ∃ z : va_W, z = w6 ++ [(q6, .inl (cy 0, 8, .inl (fun _ => 0)))] := ⟨_, rfl⟩
  have hI : cz_I s A dC dI ((h0, .inr (12, .int 0 :: .ref q0 :: .ref q1 :: .ref q2 :: .ref q3 :: .ref q0 :: .int 0 :: .int 0 :: .int 0 :: .int 0 :: .int 0 :: .int 0 :: .int 0 :: .int 0 :: .int 0 :: .ref ay :: .ref an :: .int 0 :: .ref q4 :: .ref q5 :: .null :: .null :: .null :: .null :: .null :: .null :: .int 0 :: .int 0 :: .int 0 :: .int 0 :: .int 0 :: .int 0 :: .null :: .null :: .int 0 :: .int 0 :: .null :: .null :: .null :: .int 0 :: .long 0 :: .int 0 :: .int 0 :: .int 0 :: .int 0 :: .null :: .null :: .int 0 :: .null :: .int 0 :: [])) :: w7) H locs := by rw [e7]; exact hI
  refine cz_put (sl := 20) hC hI rfl kl_X12 hnm (by decide) (by decide) rfl rfl rfl (by show 20 < 50; decide) dz_X12_77 (fun H locs hI => ?_)
  have hI : cz_I s A dC dI ((h0, .inr (12, .int 0 :: .ref q0 :: .ref q1 :: .ref q2 :: .ref q3 :: .ref q0 :: .int 0 :: .int 0 :: .int 0 :: .int 0 :: .int 0 :: .int 0 :: .int 0 :: .int 0 :: .int 0 :: .ref ay :: .ref an :: .int 0 :: .ref q4 :: .ref q5 :: .ref q6 :: .null :: .null :: .null :: .null :: .null :: .int 0 :: .int 0 :: .int 0 :: .int 0 :: .int 0 :: .int 0 :: .null :: .null :: .int 0 :: .int 0 :: .null :: .null :: .null :: .int 0 :: .long 0 :: .int 0 :: .int 0 :: .int 0 :: .int 0 :: .null :: .null :: .int 0 :: .null :: .int 0 :: [])) :: w7) H locs := hI
  refine lv_aload_n hx hb dz_X12_80 rfl a0 ?_
  refine lv_bipush (v := 8) hx hb dz_X12_81 (by decide) ?_
  refine cz_newi (N' := 8) hC hI dz_X12_83 aw_int (by decide) (by decide) (by decide) (by omega) (by omega) (fun q7 H hI => ?_)
  obtain ⟨w8, e8⟩ : ∃ z : va_W, z = w7 ++ [(q7, .inl (cy 0, 8, .inl (fun _ => 0)))] := ⟨_, rfl⟩
  have hI : cz_I s A dC dI ((h0, .inr (12, .int 0 :: .ref q0 :: .ref q1 :: .ref q2 :: .ref q3 :: .ref q0 :: .int 0 :: .int 0 :: .int 0 :: .int 0 :: .int 0 :: .int 0 :: .int 0 :: .int 0 :: .int 0 :: .ref ay :: .ref an :: .int 0 :: .ref q4 :: .ref q5 :: .ref q6 :: .null :: .null :: .null :: .null :: .null :: .int 0 :: .int 0 :: .int 0 :: .int 0 :: .int 0 :: .int 0 :: .null :: .null :: .int 0 :: .int 0 :: .null :: .null :: .null :: .int 0 :: .long 0 :: .int 0 :: .int 0 :: .int 0 :: .int 0 :: .null :: .null :: .int 0 :: .null :: .int 0 :: [])) :: w8) H locs := by rw [e8]; exact hI
  refine cz_put (sl := 21) hC hI rfl kl_X12 hnm (by decide) (by decide) rfl rfl rfl (by show 21 < 50; decide) dz_X12_85 (fun H locs hI => ?_)
  have hI : cz_I s A dC dI ((h0, .inr (12, .int 0 :: .ref q0 :: .ref q1 :: .ref q2 :: .ref q3 :: .ref q0 :: .int 0 :: .int 0 :: .int 0 :: .int 0 :: .int 0 :: .int 0 :: .int 0 :: .int 0 :: .int 0 :: .ref ay :: .ref an :: .int 0 :: .ref q4 :: .ref q5 :: .ref q6 :: .ref q7 :: .null :: .null :: .null :: .null :: .int 0 :: .int 0 :: .int 0 :: .int 0 :: .int 0 :: .int 0 :: .null :: .null :: .int 0 :: .int 0 :: .null :: .null :: .null :: .int 0 :: .long 0 :: .int 0 :: .int 0 :: .int 0 :: .int 0 :: .null :: .null :: .int 0 :: .null :: .int 0 :: [])) :: w8) H locs := hI
  refine lv_aload_n hx hb dz_X12_88 rfl a0 ?_
  refine lv_bipush (v := 42) hx hb dz_X12_89 (by decide) ?_
  refine cz_newi (N' := 42) hC hI dz_X12_91 aw_int (by decide) (by decide) (by decide) (by omega) (by omega) (fun q8 H hI => ?_)
  obtain ⟨w9, e9⟩ : ∃ z : va_W, z = w8 ++ [(q8, .inl (cy 0, 42, .inl (fun _ => 0)))] := ⟨_, rfl⟩
  have hI : cz_I s A dC dI ((h0, .inr (12, .int 0 :: .ref q0 :: .ref q1 :: .ref q2 :: .ref q3 :: .ref q0 :: .int 0 :: .int 0 :: .int 0 :: .int 0 :: .int 0 :: .int 0 :: .int 0 :: .int 0 :: .int 0 :: .ref ay :: .ref an :: .int 0 :: .ref q4 :: .ref q5 :: .ref q6 :: .ref q7 :: .null :: .null :: .null :: .null :: .int 0 :: .int 0 :: .int 0 :: .int 0 :: .int 0 :: .int 0 :: .null :: .null :: .int 0 :: .int 0 :: .null :: .null :: .null :: .int 0 :: .long 0 :: .int 0 :: .int 0 :: .int 0 :: .int 0 :: .null :: .null :: .int 0 :: .null :: .int 0 :: [])) :: w9) H locs := by rw [e9]; exact hI
  refine cz_put (sl := 22) hC hI rfl kl_X12 hnm (by decide) (by decide) rfl rfl rfl (by show 22 < 50; decide) dz_X12_93 (fun H locs hI => ?_)
  have hI : cz_I s A dC dI ((h0, .inr (12, .int 0 :: .ref q0 :: .ref q1 :: .ref q2 :: .ref q3 :: .ref q0 :: .int 0 :: .int 0 :: .int 0 :: .int 0 :: .int 0 :: .int 0 :: .int 0 :: .int 0 :: .int 0 :: .ref ay :: .ref an :: .int 0 :: .ref q4 :: .ref q5 :: .ref q6 :: .ref q7 :: .ref q8 :: .null :: .null :: .null :: .int 0 :: .int 0 :: .int 0 :: .int 0 :: .int 0 :: .int 0 :: .null :: .null :: .int 0 :: .int 0 :: .null :: .null :: .null :: .int 0 :: .long 0 :: .int 0 :: .int 0 :: .int 0 :: .int 0 :: .null :: .null :: .int 0 :: .null :: .int 0 :: [])) :: w9) H locs := hI
  refine lv_aload_n hx hb dz_X12_96 rfl a0 ?_
  refine lv_bipush (v := 42) hx hb dz_X12_97 (by decide) ?_
  refine cz_newi (N' := 42) hC hI dz_X12_99 aw_int (by decide) (by decide) (by decide) (by omega) (by omega) (fun q9 H hI => ?_)
  obtain ⟨w10, e10⟩ : ∃ z : va_W, z = w9 ++ [(q9, .inl (cy 0, 42, .inl (fun _ => 0)))] := ⟨_, rfl⟩
  have hI : cz_I s A dC dI ((h0, .inr (12, .int 0 :: .ref q0 :: .ref q1 :: .ref q2 :: .ref q3 :: .ref q0 :: .int 0 :: .int 0 :: .int 0 :: .int 0 :: .int 0 :: .int 0 :: .int 0 :: .int 0 :: .int 0 :: .ref ay :: .ref an :: .int 0 :: .ref q4 :: .ref q5 :: .ref q6 :: .ref q7 :: .ref q8 :: .null :: .null :: .null :: .int 0 :: .int 0 :: .int 0 :: .int 0 :: .int 0 :: .int 0 :: .null :: .null :: .int 0 :: .int 0 :: .null :: .null :: .null :: .int 0 :: .long 0 :: .int 0 :: .int 0 :: .int 0 :: .int 0 :: .null :: .null :: .int 0 :: .null :: .int 0 :: [])) :: w10) H locs := by rw [e10]; exact hI
  refine cz_put (sl := 23) hC hI rfl kl_X12 hnm (by decide) (by decide) rfl rfl rfl (by show 23 < 50; decide) dz_X12_101 (fun H locs hI => ?_)
  have hI : cz_I s A dC dI ((h0, .inr (12, .int 0 :: .ref q0 :: .ref q1 :: .ref q2 :: .ref q3 :: .ref q0 :: .int 0 :: .int 0 :: .int 0 :: .int 0 :: .int 0 :: .int 0 :: .int 0 :: .int 0 :: .int 0 :: .ref ay :: .ref an :: .int 0 :: .ref q4 :: .ref q5 :: .ref q6 :: .ref q7 :: .ref q8 :: .ref q9 :: .null :: .null :: .int 0 :: .int 0 :: .int 0 :: .int 0 :: .int 0 :: .int 0 :: .null :: .null :: .int 0 :: .int 0 :: .null :: .null :: .null :: .int 0 :: .long 0 :: .int 0 :: .int 0 :: .int 0 :: .int 0 :: .null :: .null :: .int 0 :: .null :: .int 0 :: [])) :: w10) H locs := hI
  refine lv_aload_n hx hb dz_X12_104 rfl a0 ?_
  refine lv_sipush (v := 160) hx hb dz_X12_105 (by decide) ?_
  refine cz_newi (N' := 160) hC hI dz_X12_108 aw_int (by decide) (by decide) (by decide) (by omega) (by omega) (fun q10 H hI => ?_)
  obtain ⟨w11, e11⟩ : ∃ z : va_W, z = w10 ++ [(q10, .inl (cy 0, 160, .inl (fun _ => 0)))] := ⟨_, rfl⟩
  have hI : cz_I s A dC dI ((h0, .inr (12, .int 0 :: .ref q0 :: .ref q1 :: .ref q2 :: .ref q3 :: .ref q0 :: .int 0 :: .int 0 :: .int 0 :: .int 0 :: .int 0 :: .int 0 :: .int 0 :: .int 0 :: .int 0 :: .ref ay :: .ref an :: .int 0 :: .ref q4 :: .ref q5 :: .ref q6 :: .ref q7 :: .ref q8 :: .ref q9 :: .null :: .null :: .int 0 :: .int 0 :: .int 0 :: .int 0 :: .int 0 :: .int 0 :: .null :: .null :: .int 0 :: .int 0 :: .null :: .null :: .null :: .int 0 :: .long 0 :: .int 0 :: .int 0 :: .int 0 :: .int 0 :: .null :: .null :: .int 0 :: .null :: .int 0 :: [])) :: w11) H locs := by rw [e11]; exact hI
  refine cz_put (sl := 24) hC hI rfl kl_X12 hnm (by decide) (by decide) rfl rfl rfl (by show 24 < 50; decide) dz_X12_110 (fun H locs hI => ?_)
  have hI : cz_I s A dC dI ((h0, .inr (12, .int 0 :: .ref q0 :: .ref q1 :: .ref q2 :: .ref q3 :: .ref q0 :: .int 0 :: .int 0 :: .int 0 :: .int 0 :: .int 0 :: .int 0 :: .int 0 :: .int 0 :: .int 0 :: .ref ay :: .ref an :: .int 0 :: .ref q4 :: .ref q5 :: .ref q6 :: .ref q7 :: .ref q8 :: .ref q9 :: .ref q10 :: .null :: .int 0 :: .int 0 :: .int 0 :: .int 0 :: .int 0 :: .int 0 :: .null :: .null :: .int 0 :: .int 0 :: .null :: .null :: .null :: .int 0 :: .long 0 :: .int 0 :: .int 0 :: .int 0 :: .int 0 :: .null :: .null :: .int 0 :: .null :: .int 0 :: [])) :: w11) H locs := hI
  refine lv_aload_n hx hb dz_X12_113 rfl a0 ?_
  refine lv_iconst (v := 5) hx hb dz_X12_114 (by decide) ?_
  refine cz_newi (N' := 5) hC hI dz_X12_115 aw_int (by decide) (by decide) (by decide) (by omega) (by omega) (fun q11 H hI => ?_)
  obtain ⟨w12, e12⟩ : ∃ z : va_W, z = w11 ++ [(q11, .inl (cy 0, 5, .inl (fun _ => 0)))] := ⟨_, rfl⟩
  have hI : cz_I s A dC dI ((h0, .inr (12, .int 0 :: .ref q0 :: .ref q1 :: .ref q2 :: .ref q3 :: .ref q0 :: .int 0 :: .int 0 :: .int 0 :: .int 0 :: .int 0 :: .int 0 :: .int 0 :: .int 0 :: .int 0 :: .ref ay :: .ref an :: .int 0 :: .ref q4 :: .ref q5 :: .ref q6 :: .ref q7 :: .ref q8 :: .ref q9 :: .ref q10 :: .null :: .int 0 :: .int 0 :: .int 0 :: .int 0 :: .int 0 :: .int 0 :: .null :: .null :: .int 0 :: .int 0 :: .null :: .null :: .null :: .int 0 :: .long 0 :: .int 0 :: .int 0 :: .int 0 :: .int 0 :: .null :: .null :: .int 0 :: .null :: .int 0 :: [])) :: w12) H locs := by rw [e12]; exact hI
  refine cz_put (sl := 25) hC hI rfl kl_X12 hnm (by decide) (by decide) rfl rfl rfl (by show 25 < 50; decide) dz_X12_117 (fun H locs hI => ?_)
  have hI : cz_I s A dC dI ((h0, .inr (12, .int 0 :: .ref q0 :: .ref q1 :: .ref q2 :: .ref q3 :: .ref q0 :: .int 0 :: .int 0 :: .int 0 :: .int 0 :: .int 0 :: .int 0 :: .int 0 :: .int 0 :: .int 0 :: .ref ay :: .ref an :: .int 0 :: .ref q4 :: .ref q5 :: .ref q6 :: .ref q7 :: .ref q8 :: .ref q9 :: .ref q10 :: .ref q11 :: .int 0 :: .int 0 :: .int 0 :: .int 0 :: .int 0 :: .int 0 :: .null :: .null :: .int 0 :: .int 0 :: .null :: .null :: .null :: .int 0 :: .long 0 :: .int 0 :: .int 0 :: .int 0 :: .int 0 :: .null :: .null :: .int 0 :: .null :: .int 0 :: [])) :: w12) H locs := hI
  refine lv_aload_n hx hb dz_X12_120 rfl a0 ?_
  refine lv_sipush (v := 204) hx hb dz_X12_121 (by decide) ?_
  refine cz_newi (N' := 204) hC hI dz_X12_124 aw_int (by decide) (by decide) (by decide) (by omega) (by omega) (fun q12 H hI => ?_)
  obtain ⟨w13, e13⟩ : ∃ z : va_W, z = w12 ++ [(q12, .inl (cy 0, 204, .inl (fun _ => 0)))] := ⟨_, rfl⟩
  have hI : cz_I s A dC dI ((h0, .inr (12, .int 0 :: .ref q0 :: .ref q1 :: .ref q2 :: .ref q3 :: .ref q0 :: .int 0 :: .int 0 :: .int 0 :: .int 0 :: .int 0 :: .int 0 :: .int 0 :: .int 0 :: .int 0 :: .ref ay :: .ref an :: .int 0 :: .ref q4 :: .ref q5 :: .ref q6 :: .ref q7 :: .ref q8 :: .ref q9 :: .ref q10 :: .ref q11 :: .int 0 :: .int 0 :: .int 0 :: .int 0 :: .int 0 :: .int 0 :: .null :: .null :: .int 0 :: .int 0 :: .null :: .null :: .null :: .int 0 :: .long 0 :: .int 0 :: .int 0 :: .int 0 :: .int 0 :: .null :: .null :: .int 0 :: .null :: .int 0 :: [])) :: w13) H locs := by rw [e13]; exact hI
  refine cz_put (sl := 32) hC hI rfl kl_X12 hnm (by decide) (by decide) rfl rfl rfl (by show 32 < 50; decide) dz_X12_126 (fun H locs hI => ?_)
  have hI : cz_I s A dC dI ((h0, .inr (12, .int 0 :: .ref q0 :: .ref q1 :: .ref q2 :: .ref q3 :: .ref q0 :: .int 0 :: .int 0 :: .int 0 :: .int 0 :: .int 0 :: .int 0 :: .int 0 :: .int 0 :: .int 0 :: .ref ay :: .ref an :: .int 0 :: .ref q4 :: .ref q5 :: .ref q6 :: .ref q7 :: .ref q8 :: .ref q9 :: .ref q10 :: .ref q11 :: .int 0 :: .int 0 :: .int 0 :: .int 0 :: .int 0 :: .int 0 :: .ref q12 :: .null :: .int 0 :: .int 0 :: .null :: .null :: .null :: .int 0 :: .long 0 :: .int 0 :: .int 0 :: .int 0 :: .int 0 :: .null :: .null :: .int 0 :: .null :: .int 0 :: [])) :: w13) H locs := hI
  refine lv_aload_n hx hb dz_X12_129 rfl a0 ?_
  refine lv_sipush (v := 204) hx hb dz_X12_130 (by decide) ?_
  refine cz_newi (N' := 204) hC hI dz_X12_133 aw_int (by decide) (by decide) (by decide) (by omega) (by omega) (fun q13 H hI => ?_)
  obtain ⟨w14, e14⟩ : ∃ z : va_W, z = w13 ++ [(q13, .inl (cy 0, 204, .inl (fun _ => 0)))] := ⟨_, rfl⟩
  have hI : cz_I s A dC dI ((h0, .inr (12, .int 0 :: .ref q0 :: .ref q1 :: .ref q2 :: .ref q3 :: .ref q0 :: .int 0 :: .int 0 :: .int 0 :: .int 0 :: .int 0 :: .int 0 :: .int 0 :: .int 0 :: .int 0 :: .ref ay :: .ref an :: .int 0 :: .ref q4 :: .ref q5 :: .ref q6 :: .ref q7 :: .ref q8 :: .ref q9 :: .ref q10 :: .ref q11 :: .int 0 :: .int 0 :: .int 0 :: .int 0 :: .int 0 :: .int 0 :: .ref q12 :: .null :: .int 0 :: .int 0 :: .null :: .null :: .null :: .int 0 :: .long 0 :: .int 0 :: .int 0 :: .int 0 :: .int 0 :: .null :: .null :: .int 0 :: .null :: .int 0 :: [])) :: w14) H locs := by rw [e14]; exact hI
  refine cz_put (sl := 33) hC hI rfl kl_X12 hnm (by decide) (by decide) rfl rfl rfl (by show 33 < 50; decide) dz_X12_135 (fun H locs hI => ?_)
  have hI : cz_I s A dC dI ((h0, .inr (12, .int 0 :: .ref q0 :: .ref q1 :: .ref q2 :: .ref q3 :: .ref q0 :: .int 0 :: .int 0 :: .int 0 :: .int 0 :: .int 0 :: .int 0 :: .int 0 :: .int 0 :: .int 0 :: .ref ay :: .ref an :: .int 0 :: .ref q4 :: .ref q5 :: .ref q6 :: .ref q7 :: .ref q8 :: .ref q9 :: .ref q10 :: .ref q11 :: .int 0 :: .int 0 :: .int 0 :: .int 0 :: .int 0 :: .int 0 :: .ref q12 :: .ref q13 :: .int 0 :: .int 0 :: .null :: .null :: .null :: .int 0 :: .long 0 :: .int 0 :: .int 0 :: .int 0 :: .int 0 :: .null :: .null :: .int 0 :: .null :: .int 0 :: [])) :: w14) H locs := hI
  refine lv_aload_n hx hb dz_X12_138 rfl a0 ?_
  refine lv_iconst (v := (-1)) hx hb dz_X12_139 (by decide) ?_
  refine cz_put (sl := 34) hC hI rfl kl_X12 hnm (by decide) (by decide) rfl rfl rfl (by show 34 < 50; decide) dz_X12_140 (fun H locs hI => ?_)
  have hI : cz_I s A dC dI ((h0, .inr (12, .int 0 :: .ref q0 :: .ref q1 :: .ref q2 :: .ref q3 :: .ref q0 :: .int 0 :: .int 0 :: .int 0 :: .int 0 :: .int 0 :: .int 0 :: .int 0 :: .int 0 :: .int 0 :: .ref ay :: .ref an :: .int 0 :: .ref q4 :: .ref q5 :: .ref q6 :: .ref q7 :: .ref q8 :: .ref q9 :: .ref q10 :: .ref q11 :: .int 0 :: .int 0 :: .int 0 :: .int 0 :: .int 0 :: .int 0 :: .ref q12 :: .ref q13 :: .int (-1) :: .int 0 :: .null :: .null :: .null :: .int 0 :: .long 0 :: .int 0 :: .int 0 :: .int 0 :: .int 0 :: .null :: .null :: .int 0 :: .null :: .int 0 :: [])) :: w14) H locs := hI
  refine lv_aload_n hx hb dz_X12_143 rfl a0 ?_
  refine lv_iconst (v := 1) hx hb dz_X12_144 (by decide) ?_
  refine cz_put (sl := 35) hC hI rfl kl_X12 hnm (by decide) (by decide) rfl rfl rfl (by show 35 < 50; decide) dz_X12_145 (fun H locs hI => ?_)
  have hI : cz_I s A dC dI ((h0, .inr (12, .int 0 :: .ref q0 :: .ref q1 :: .ref q2 :: .ref q3 :: .ref q0 :: .int 0 :: .int 0 :: .int 0 :: .int 0 :: .int 0 :: .int 0 :: .int 0 :: .int 0 :: .int 0 :: .ref ay :: .ref an :: .int 0 :: .ref q4 :: .ref q5 :: .ref q6 :: .ref q7 :: .ref q8 :: .ref q9 :: .ref q10 :: .ref q11 :: .int 0 :: .int 0 :: .int 0 :: .int 0 :: .int 0 :: .int 0 :: .ref q12 :: .ref q13 :: .int (-1) :: .int 1 :: .null :: .null :: .null :: .int 0 :: .long 0 :: .int 0 :: .int 0 :: .int 0 :: .int 0 :: .null :: .null :: .int 0 :: .null :: .int 0 :: [])) :: w14) H locs := hI
  refine lv_aload_n hx hb dz_X12_148 rfl a0 ?_
  refine lv_sipush (v := 8191) hx hb dz_X12_149 (by decide) ?_
  refine cz_newl (N' := 8191) hC hI dz_X12_152 aw_long (by decide) (by decide) (by decide) (by omega) (by omega) (fun q14 H hI => ?_)
  obtain ⟨w15, e15⟩ : ∃ z : va_W, z = w14 ++ [(q14, .inl (cy 3, 8191, .inr (.inl (fun _ => 0))))] := ⟨_, rfl⟩
  have hI : cz_I s A dC dI ((h0, .inr (12, .int 0 :: .ref q0 :: .ref q1 :: .ref q2 :: .ref q3 :: .ref q0 :: .int 0 :: .int 0 :: .int 0 :: .int 0 :: .int 0 :: .int 0 :: .int 0 :: .int 0 :: .int 0 :: .ref ay :: .ref an :: .int 0 :: .ref q4 :: .ref q5 :: .ref q6 :: .ref q7 :: .ref q8 :: .ref q9 :: .ref q10 :: .ref q11 :: .int 0 :: .int 0 :: .int 0 :: .int 0 :: .int 0 :: .int 0 :: .ref q12 :: .ref q13 :: .int (-1) :: .int 1 :: .null :: .null :: .null :: .int 0 :: .long 0 :: .int 0 :: .int 0 :: .int 0 :: .int 0 :: .null :: .null :: .int 0 :: .null :: .int 0 :: [])) :: w15) H locs := by rw [e15]; exact hI
  refine cz_put (sl := 36) hC hI rfl kl_X12 hnm (by decide) (by decide) rfl rfl rfl (by show 36 < 50; decide) dz_X12_154 (fun H locs hI => ?_)
  have hI : cz_I s A dC dI ((h0, .inr (12, .int 0 :: .ref q0 :: .ref q1 :: .ref q2 :: .ref q3 :: .ref q0 :: .int 0 :: .int 0 :: .int 0 :: .int 0 :: .int 0 :: .int 0 :: .int 0 :: .int 0 :: .int 0 :: .ref ay :: .ref an :: .int 0 :: .ref q4 :: .ref q5 :: .ref q6 :: .ref q7 :: .ref q8 :: .ref q9 :: .ref q10 :: .ref q11 :: .int 0 :: .int 0 :: .int 0 :: .int 0 :: .int 0 :: .int 0 :: .ref q12 :: .ref q13 :: .int (-1) :: .int 1 :: .ref q14 :: .null :: .null :: .int 0 :: .long 0 :: .int 0 :: .int 0 :: .int 0 :: .int 0 :: .null :: .null :: .int 0 :: .null :: .int 0 :: [])) :: w15) H locs := hI
  refine lv_aload_n hx hb dz_X12_157 rfl a0 ?_
  refine lv_sipush (v := 8191) hx hb dz_X12_158 (by decide) ?_
  refine cz_newi (N' := 8191) hC hI dz_X12_161 aw_int (by decide) (by decide) (by decide) (by omega) (by omega) (fun q15 H hI => ?_)
  obtain ⟨w16, e16⟩ : ∃ z : va_W, z = w15 ++ [(q15, .inl (cy 0, 8191, .inl (fun _ => 0)))] := ⟨_, rfl⟩
  have hI : cz_I s A dC dI ((h0, .inr (12, .int 0 :: .ref q0 :: .ref q1 :: .ref q2 :: .ref q3 :: .ref q0 :: .int 0 :: .int 0 :: .int 0 :: .int 0 :: .int 0 :: .int 0 :: .int 0 :: .int 0 :: .int 0 :: .ref ay :: .ref an :: .int 0 :: .ref q4 :: .ref q5 :: .ref q6 :: .ref q7 :: .ref q8 :: .ref q9 :: .ref q10 :: .ref q11 :: .int 0 :: .int 0 :: .int 0 :: .int 0 :: .int 0 :: .int 0 :: .ref q12 :: .ref q13 :: .int (-1) :: .int 1 :: .ref q14 :: .null :: .null :: .int 0 :: .long 0 :: .int 0 :: .int 0 :: .int 0 :: .int 0 :: .null :: .null :: .int 0 :: .null :: .int 0 :: [])) :: w16) H locs := by rw [e16]; exact hI
  refine cz_put (sl := 37) hC hI rfl kl_X12 hnm (by decide) (by decide) rfl rfl rfl (by show 37 < 50; decide) dz_X12_163 (fun H locs hI => ?_)
  have hI : cz_I s A dC dI ((h0, .inr (12, .int 0 :: .ref q0 :: .ref q1 :: .ref q2 :: .ref q3 :: .ref q0 :: .int 0 :: .int 0 :: .int 0 :: .int 0 :: .int 0 :: .int 0 :: .int 0 :: .int 0 :: .int 0 :: .ref ay :: .ref an :: .int 0 :: .ref q4 :: .ref q5 :: .ref q6 :: .ref q7 :: .ref q8 :: .ref q9 :: .ref q10 :: .ref q11 :: .int 0 :: .int 0 :: .int 0 :: .int 0 :: .int 0 :: .int 0 :: .ref q12 :: .ref q13 :: .int (-1) :: .int 1 :: .ref q14 :: .ref q15 :: .null :: .int 0 :: .long 0 :: .int 0 :: .int 0 :: .int 0 :: .int 0 :: .null :: .null :: .int 0 :: .null :: .int 0 :: [])) :: w16) H locs := hI
  refine lv_aload_n hx hb dz_X12_166 rfl a0 ?_
  refine lv_sipush (v := 8160) hx hb dz_X12_167 (by decide) ?_
  refine cz_newi (N' := 8160) hC hI dz_X12_170 aw_int (by decide) (by decide) (by decide) (by omega) (by omega) (fun q16 H hI => ?_)
  obtain ⟨w17, e17⟩ : ∃ z : va_W, z = w16 ++ [(q16, .inl (cy 0, 8160, .inl (fun _ => 0)))] := ⟨_, rfl⟩
  have hI : cz_I s A dC dI ((h0, .inr (12, .int 0 :: .ref q0 :: .ref q1 :: .ref q2 :: .ref q3 :: .ref q0 :: .int 0 :: .int 0 :: .int 0 :: .int 0 :: .int 0 :: .int 0 :: .int 0 :: .int 0 :: .int 0 :: .ref ay :: .ref an :: .int 0 :: .ref q4 :: .ref q5 :: .ref q6 :: .ref q7 :: .ref q8 :: .ref q9 :: .ref q10 :: .ref q11 :: .int 0 :: .int 0 :: .int 0 :: .int 0 :: .int 0 :: .int 0 :: .ref q12 :: .ref q13 :: .int (-1) :: .int 1 :: .ref q14 :: .ref q15 :: .null :: .int 0 :: .long 0 :: .int 0 :: .int 0 :: .int 0 :: .int 0 :: .null :: .null :: .int 0 :: .null :: .int 0 :: [])) :: w17) H locs := by rw [e17]; exact hI
  refine cz_put (sl := 38) hC hI rfl kl_X12 hnm (by decide) (by decide) rfl rfl rfl (by show 38 < 50; decide) dz_X12_172 (fun H locs hI => ?_)
  have hI : cz_I s A dC dI ((h0, .inr (12, .int 0 :: .ref q0 :: .ref q1 :: .ref q2 :: .ref q3 :: .ref q0 :: .int 0 :: .int 0 :: .int 0 :: .int 0 :: .int 0 :: .int 0 :: .int 0 :: .int 0 :: .int 0 :: .ref ay :: .ref an :: .int 0 :: .ref q4 :: .ref q5 :: .ref q6 :: .ref q7 :: .ref q8 :: .ref q9 :: .ref q10 :: .ref q11 :: .int 0 :: .int 0 :: .int 0 :: .int 0 :: .int 0 :: .int 0 :: .ref q12 :: .ref q13 :: .int (-1) :: .int 1 :: .ref q14 :: .ref q15 :: .ref q16 :: .int 0 :: .long 0 :: .int 0 :: .int 0 :: .int 0 :: .int 0 :: .null :: .null :: .int 0 :: .null :: .int 0 :: [])) :: w17) H locs := hI
  refine lv_aload_n hx hb dz_X12_175 rfl a0 ?_
  refine lv_sipush (v := 168) hx hb dz_X12_176 (by decide) ?_
  refine cz_newi (N' := 168) hC hI dz_X12_179 aw_int (by decide) (by decide) (by decide) (by omega) (by omega) (fun q17 H hI => ?_)
  obtain ⟨w18, e18⟩ : ∃ z : va_W, z = w17 ++ [(q17, .inl (cy 0, 168, .inl (fun _ => 0)))] := ⟨_, rfl⟩
  have hI : cz_I s A dC dI ((h0, .inr (12, .int 0 :: .ref q0 :: .ref q1 :: .ref q2 :: .ref q3 :: .ref q0 :: .int 0 :: .int 0 :: .int 0 :: .int 0 :: .int 0 :: .int 0 :: .int 0 :: .int 0 :: .int 0 :: .ref ay :: .ref an :: .int 0 :: .ref q4 :: .ref q5 :: .ref q6 :: .ref q7 :: .ref q8 :: .ref q9 :: .ref q10 :: .ref q11 :: .int 0 :: .int 0 :: .int 0 :: .int 0 :: .int 0 :: .int 0 :: .ref q12 :: .ref q13 :: .int (-1) :: .int 1 :: .ref q14 :: .ref q15 :: .ref q16 :: .int 0 :: .long 0 :: .int 0 :: .int 0 :: .int 0 :: .int 0 :: .null :: .null :: .int 0 :: .null :: .int 0 :: [])) :: w18) H locs := by rw [e18]; exact hI
  refine cz_put (sl := 45) hC hI rfl kl_X12 hnm (by decide) (by decide) rfl rfl rfl (by show 45 < 50; decide) dz_X12_181 (fun H locs hI => ?_)
  have hI : cz_I s A dC dI ((h0, .inr (12, .int 0 :: .ref q0 :: .ref q1 :: .ref q2 :: .ref q3 :: .ref q0 :: .int 0 :: .int 0 :: .int 0 :: .int 0 :: .int 0 :: .int 0 :: .int 0 :: .int 0 :: .int 0 :: .ref ay :: .ref an :: .int 0 :: .ref q4 :: .ref q5 :: .ref q6 :: .ref q7 :: .ref q8 :: .ref q9 :: .ref q10 :: .ref q11 :: .int 0 :: .int 0 :: .int 0 :: .int 0 :: .int 0 :: .int 0 :: .ref q12 :: .ref q13 :: .int (-1) :: .int 1 :: .ref q14 :: .ref q15 :: .ref q16 :: .int 0 :: .long 0 :: .int 0 :: .int 0 :: .int 0 :: .int 0 :: .ref q17 :: .null :: .int 0 :: .null :: .int 0 :: [])) :: w18) H locs := hI
  refine lv_aload_n hx hb dz_X12_184 rfl a0 ?_
  refine lv_bipush (v := 30) hx hb dz_X12_185 (by decide) ?_
  refine cz_newi (N' := 30) hC hI dz_X12_187 aw_int (by decide) (by decide) (by decide) (by omega) (by omega) (fun q18 H hI => ?_)
  obtain ⟨w19, e19⟩ : ∃ z : va_W, z = w18 ++ [(q18, .inl (cy 0, 30, .inl (fun _ => 0)))] := ⟨_, rfl⟩
  have hI : cz_I s A dC dI ((h0, .inr (12, .int 0 :: .ref q0 :: .ref q1 :: .ref q2 :: .ref q3 :: .ref q0 :: .int 0 :: .int 0 :: .int 0 :: .int 0 :: .int 0 :: .int 0 :: .int 0 :: .int 0 :: .int 0 :: .ref ay :: .ref an :: .int 0 :: .ref q4 :: .ref q5 :: .ref q6 :: .ref q7 :: .ref q8 :: .ref q9 :: .ref q10 :: .ref q11 :: .int 0 :: .int 0 :: .int 0 :: .int 0 :: .int 0 :: .int 0 :: .ref q12 :: .ref q13 :: .int (-1) :: .int 1 :: .ref q14 :: .ref q15 :: .ref q16 :: .int 0 :: .long 0 :: .int 0 :: .int 0 :: .int 0 :: .int 0 :: .ref q17 :: .null :: .int 0 :: .null :: .int 0 :: [])) :: w19) H locs := by rw [e19]; exact hI
  refine cz_put (sl := 46) hC hI rfl kl_X12 hnm (by decide) (by decide) rfl rfl rfl (by show 46 < 50; decide) dz_X12_189 (fun H locs hI => ?_)
  have hI : cz_I s A dC dI ((h0, .inr (12, .int 0 :: .ref q0 :: .ref q1 :: .ref q2 :: .ref q3 :: .ref q0 :: .int 0 :: .int 0 :: .int 0 :: .int 0 :: .int 0 :: .int 0 :: .int 0 :: .int 0 :: .int 0 :: .ref ay :: .ref an :: .int 0 :: .ref q4 :: .ref q5 :: .ref q6 :: .ref q7 :: .ref q8 :: .ref q9 :: .ref q10 :: .ref q11 :: .int 0 :: .int 0 :: .int 0 :: .int 0 :: .int 0 :: .int 0 :: .ref q12 :: .ref q13 :: .int (-1) :: .int 1 :: .ref q14 :: .ref q15 :: .ref q16 :: .int 0 :: .long 0 :: .int 0 :: .int 0 :: .int 0 :: .int 0 :: .ref q17 :: .ref q18 :: .int 0 :: .null :: .int 0 :: [])) :: w19) H locs := hI
  refine lv_aload_n hx hb dz_X12_192 rfl a0 ?_
  refine lv_sipush (v := 204) hx hb dz_X12_193 (by decide) ?_
  refine cz_newi (N' := 204) hC hI dz_X12_196 aw_int (by decide) (by decide) (by decide) (by omega) (by omega) (fun q19 H hI => ?_)
  obtain ⟨w20, e20⟩ : ∃ z : va_W, z = w19 ++ [(q19, .inl (cy 0, 204, .inl (fun _ => 0)))] := ⟨_, rfl⟩
  have hI : cz_I s A dC dI ((h0, .inr (12, .int 0 :: .ref q0 :: .ref q1 :: .ref q2 :: .ref q3 :: .ref q0 :: .int 0 :: .int 0 :: .int 0 :: .int 0 :: .int 0 :: .int 0 :: .int 0 :: .int 0 :: .int 0 :: .ref ay :: .ref an :: .int 0 :: .ref q4 :: .ref q5 :: .ref q6 :: .ref q7 :: .ref q8 :: .ref q9 :: .ref q10 :: .ref q11 :: .int 0 :: .int 0 :: .int 0 :: .int 0 :: .int 0 :: .int 0 :: .ref q12 :: .ref q13 :: .int (-1) :: .int 1 :: .ref q14 :: .ref q15 :: .ref q16 :: .int 0 :: .long 0 :: .int 0 :: .int 0 :: .int 0 :: .int 0 :: .ref q17 :: .ref q18 :: .int 0 :: .null :: .int 0 :: [])) :: w20) H locs := by rw [e20]; exact hI
  refine cz_put (sl := 48) hC hI rfl kl_X12 hnm (by decide) (by decide) rfl rfl rfl (by show 48 < 50; decide) dz_X12_198 (fun H locs hI => ?_)
  have hI : cz_I s A dC dI ((h0, .inr (12, .int 0 :: .ref q0 :: .ref q1 :: .ref q2 :: .ref q3 :: .ref q0 :: .int 0 :: .int 0 :: .int 0 :: .int 0 :: .int 0 :: .int 0 :: .int 0 :: .int 0 :: .int 0 :: .ref ay :: .ref an :: .int 0 :: .ref q4 :: .ref q5 :: .ref q6 :: .ref q7 :: .ref q8 :: .ref q9 :: .ref q10 :: .ref q11 :: .int 0 :: .int 0 :: .int 0 :: .int 0 :: .int 0 :: .int 0 :: .ref q12 :: .ref q13 :: .int (-1) :: .int 1 :: .ref q14 :: .ref q15 :: .ref q16 :: .int 0 :: .long 0 :: .int 0 :: .int 0 :: .int 0 :: .int 0 :: .ref q17 :: .ref q18 :: .int 0 :: .ref q19 :: .int 0 :: [])) :: w20) H locs := hI
  subst e20 e19 e18 e17 e16 e15 e14 e13 e12 e11 e10 e9 e8 e7 e6 e5 e4 e3 e2 e1 e0
  exact kk (fun j => [q0, q1, q2, q3, q4, q5, q6, q7, q8, q9, q10, q11, q12, q13, q14, q15, q16, q17, q18, q19].getD j 0) _ _ _ 201 dz_X12_201 hI
theorem cm_X12 {l : Launch} {ay an : Nat} : cz_Met l ma_X12_init 12 fz_X12 (w_X12 ay an) 20 26955 1 (g_X12 ay an) := cz_met ok_X12_init rfl (by decide) rfl cb_X12

/-! CONSTRUCTORS of the nested classes: names, words, bodies, contracts (by program: wip/whole/mkcv.py) -/
set_option maxRecDepth 20000 in
theorem aw_int : Cond.arrayClass .int ∈ ax_tb := ax_memi (ws := [Cond.arrayClass .int]) [155] rfl (by decide +kernel) _ List.mem_cons_self
set_option maxRecDepth 20000 in
theorem aw_boolean : Cond.arrayClass .boolean ∈ ax_tb := ax_memi (ws := [Cond.arrayClass .boolean]) [221] rfl (by decide +kernel) _ List.mem_cons_self
set_option maxRecDepth 20000 in
theorem aw_byte : Cond.arrayClass .byte ∈ ax_tb := ax_memi (ws := [Cond.arrayClass .byte]) [750] rfl (by decide +kernel) _ List.mem_cons_self
set_option maxRecDepth 20000 in
theorem aw_long : Cond.arrayClass .long ∈ ax_tb := ax_memi (ws := [Cond.arrayClass .long]) [336] rfl (by decide +kernel) _ List.mem_cons_self
set_option maxRecDepth 20000 in
theorem aw_oi : Cond.instanceMethod objectInit ∈ ax_tb := ax_memi (ws := [Cond.instanceMethod objectInit]) [134] rfl (by decide +kernel) _ List.mem_cons_self
set_option maxRecDepth 20000 in
theorem aw_oc : Cond.code objectInit ⟨#[0xb1]⟩ 1 none ∈ ax_tb := ax_memi (ws := [Cond.code objectInit ⟨#[0xb1]⟩ 1 none]) [135] rfl (by decide +kernel) _ List.mem_cons_self
def ma_X0_init : AM := (ka_X0, yX0_init, cX0_init, 1, none, 0, false)
set_option maxRecDepth 20000 in
theorem ok_X0_init : ax_ok ma_X0_init := ⟨List.mem_of_getElem? (i := 0) rfl, rfl, fun h => absurd h (by decide), ax_memi (ws := [Cond.code yX0_init cX0_init 1 none]) [383] rfl (by decide +kernel) _ List.mem_cons_self, ai_X0, by decide⟩
theorem kl_X0 : ax_cls 0 (RX0, TX0, 3) tyX0 := ⟨al_X0, rfl, tyX0_ok, nmX0, ay_X0⟩
set_option maxRecDepth 20000 in
theorem wo_X0 : Cond.methodLink ma_X0_init.1.2.1 3 objectInit ∈ ax_tb ∧ Cond.instanceMethod objectInit ∈ ax_tb ∧ Cond.code objectInit ⟨#[0xb1]⟩ 1 none ∈ ax_tb := ⟨ax_memi (ws := [Cond.methodLink RX0 3 objectInit]) [384] rfl (by decide +kernel) _ List.mem_cons_self, aw_oi, aw_oc⟩
abbrev fz_X0 : List Value := .null :: .null :: .int 0 :: []
theorem hf_X0 : ∀ j, j < 3 → defaultValue (tyX0 j) = vp_V fz_X0 j := by decide +kernel
theorem dz_X0_0 : decode ma_X0_init.2.2.1 0 = .ok (.aload_n 0, 1) := by decide +kernel
theorem dz_X0_1 : decode ma_X0_init.2.2.1 1 = .ok (.invokespecial 3, 3) := by decide +kernel
theorem dz_X0_4 : decode ma_X0_init.2.2.1 4 = .ok (.aload_n 0, 1) := by decide +kernel
theorem dz_X0_5 : decode ma_X0_init.2.2.1 5 = .ok (.bipush 16, 2) := by decide +kernel
theorem dz_X0_7 : decode ma_X0_init.2.2.1 7 = .ok (.newarray .int, 2) := by decide +kernel
theorem dz_X0_9 : decode ma_X0_init.2.2.1 9 = .ok (.putfield 11, 3) := by decide +kernel
theorem dz_X0_12 : decode ma_X0_init.2.2.1 12 = .ok (.aload_n 0, 1) := by decide +kernel
theorem dz_X0_13 : decode ma_X0_init.2.2.1 13 = .ok (.bipush 16, 2) := by decide +kernel
theorem dz_X0_15 : decode ma_X0_init.2.2.1 15 = .ok (.newarray .int, 2) := by decide +kernel
theorem dz_X0_17 : decode ma_X0_init.2.2.1 17 = .ok (.putfield 15, 3) := by decide +kernel
theorem dz_X0_20 : decode ma_X0_init.2.2.1 20 = .ok (.aload_n 0, 1) := by decide +kernel
theorem dz_X0_21 : decode ma_X0_init.2.2.1 21 = .ok (.iconst 0, 1) := by decide +kernel
theorem dz_X0_22 : decode ma_X0_init.2.2.1 22 = .ok (.putfield 18, 3) := by decide +kernel
theorem dz_X0_25 : decode ma_X0_init.2.2.1 25 = .ok (.return_, 1) := by decide +kernel
def w_X0 (cy : Nat → ClassId) (h0 : Nat) (u : Nat → Nat) : va_W := [(h0, .inr (0, [.ref (u 0), .ref (u 1), .int 0])), (u 0, .inl (cy 0, 16, .inl (fun _ => 0))), (u 1, .inl (cy 0, 16, .inl (fun _ => 0)))]
theorem cb_X0 {l : Launch} : cz_B l ma_X0_init 0 fz_X0 w_X0 2 32 1 (fun _ => True) := by
  intro p e R s m args below meth c Q A dC dI cy h0 ls hC hnm _ hR hl hI kk
  have hx := hC.1
  have hb := hC.2.1
  have a0 := lv_at hl 0 rfl
  refine lv_aload_n hx hb dz_X0_0 rfl a0 ?_
  refine cz_obj hC hl.1 wo_X0 ⟨by omega, by omega⟩ dz_X0_1 ?_
  refine lv_aload_n hx hb dz_X0_4 rfl a0 ?_
  refine lv_bipush (v := 16) hx hb dz_X0_5 (by decide) ?_
  refine cz_newi (N' := 16) hC hI dz_X0_7 aw_int (by decide) (by decide) (by decide) (by omega) (by omega) (fun q0 H hI => ?_)
  have hI : cz_I s A dC dI [(h0, .inr (0, [.null, .null, .int 0])), (q0, .inl (cy 0, 16, .inl (fun _ => 0)))] H _ := hI
  refine cz_put (sl := 0) hC hI rfl kl_X0 hnm (by decide) (by decide) rfl rfl rfl (by show 0 < 3; decide) dz_X0_9 (fun H locs hI => ?_)
  have hI : cz_I s A dC dI [(h0, .inr (0, [.ref q0, .null, .int 0])), (q0, .inl (cy 0, 16, .inl (fun _ => 0)))] H locs := hI
  refine lv_aload_n hx hb dz_X0_12 rfl a0 ?_
  refine lv_bipush (v := 16) hx hb dz_X0_13 (by decide) ?_
  refine cz_newi (N' := 16) hC hI dz_X0_15 aw_int (by decide) (by decide) (by decide) (by omega) (by omega) (fun q1 H hI => ?_)
  have hI : cz_I s A dC dI [(h0, .inr (0, [.ref q0, .null, .int 0])), (q0, .inl (cy 0, 16, .inl (fun _ => 0))), (q1, .inl (cy 0, 16, .inl (fun _ => 0)))] H _ := hI
  refine cz_put (sl := 1) hC hI rfl kl_X0 hnm (by decide) (by decide) rfl rfl rfl (by show 1 < 3; decide) dz_X0_17 (fun H locs hI => ?_)
  have hI : cz_I s A dC dI [(h0, .inr (0, [.ref q0, .ref q1, .int 0])), (q0, .inl (cy 0, 16, .inl (fun _ => 0))), (q1, .inl (cy 0, 16, .inl (fun _ => 0)))] H locs := hI
  refine lv_aload_n hx hb dz_X0_20 rfl a0 ?_
  refine lv_iconst (v := 0) hx hb dz_X0_21 (by decide) ?_
  refine cz_put (sl := 2) hC hI rfl kl_X0 hnm (by decide) (by decide) rfl rfl rfl (by show 2 < 3; decide) dz_X0_22 (fun H locs hI => ?_)
  have hI : cz_I s A dC dI [(h0, .inr (0, [.ref q0, .ref q1, .int 0])), (q0, .inl (cy 0, 16, .inl (fun _ => 0))), (q1, .inl (cy 0, 16, .inl (fun _ => 0)))] H locs := hI
  exact kk (fun j => [q0, q1].getD j 0) _ _ _ 25 dz_X0_25 hI
theorem cm_X0 {l : Launch} : cz_Met l ma_X0_init 0 fz_X0 w_X0 2 32 1 (fun _ => True) := cz_met ok_X0_init rfl (by decide) rfl cb_X0
def ma_X1_init : AM := (ka_X1, yX1_init, cX1_init, 1, none, 0, false)
set_option maxRecDepth 20000 in
theorem ok_X1_init : ax_ok ma_X1_init := ⟨List.mem_of_getElem? (i := 1) rfl, rfl, fun h => absurd h (by decide), ax_memi (ws := [Cond.code yX1_init cX1_init 1 none]) [323] rfl (by decide +kernel) _ List.mem_cons_self, ai_X1, by decide⟩
theorem kl_X1 : ax_cls 1 (RX1, TX1, 3) tyX1 := ⟨al_X1, rfl, tyX1_ok, nmX1, ay_X1⟩
set_option maxRecDepth 20000 in
theorem wo_X1 : Cond.methodLink ma_X1_init.1.2.1 3 objectInit ∈ ax_tb ∧ Cond.instanceMethod objectInit ∈ ax_tb ∧ Cond.code objectInit ⟨#[0xb1]⟩ 1 none ∈ ax_tb := ⟨ax_memi (ws := [Cond.methodLink RX1 3 objectInit]) [324] rfl (by decide +kernel) _ List.mem_cons_self, aw_oi, aw_oc⟩
abbrev fz_X1 : List Value := .null :: .long 0 :: .int 0 :: []
theorem hf_X1 : ∀ j, j < 3 → defaultValue (tyX1 j) = vp_V fz_X1 j := by decide +kernel
theorem dz_X1_0 : decode ma_X1_init.2.2.1 0 = .ok (.aload_n 0, 1) := by decide +kernel
theorem dz_X1_1 : decode ma_X1_init.2.2.1 1 = .ok (.invokespecial 3, 3) := by decide +kernel
theorem dz_X1_4 : decode ma_X1_init.2.2.1 4 = .ok (.aload_n 0, 1) := by decide +kernel
theorem dz_X1_5 : decode ma_X1_init.2.2.1 5 = .ok (.bipush 32, 2) := by decide +kernel
theorem dz_X1_7 : decode ma_X1_init.2.2.1 7 = .ok (.newarray .long, 2) := by decide +kernel
theorem dz_X1_9 : decode ma_X1_init.2.2.1 9 = .ok (.putfield 9, 3) := by decide +kernel
theorem dz_X1_12 : decode ma_X1_init.2.2.1 12 = .ok (.aload_n 0, 1) := by decide +kernel
theorem dz_X1_13 : decode ma_X1_init.2.2.1 13 = .ok (.lconst 0, 1) := by decide +kernel
theorem dz_X1_14 : decode ma_X1_init.2.2.1 14 = .ok (.putfield 15, 3) := by decide +kernel
theorem dz_X1_17 : decode ma_X1_init.2.2.1 17 = .ok (.aload_n 0, 1) := by decide +kernel
theorem dz_X1_18 : decode ma_X1_init.2.2.1 18 = .ok (.iconst 1, 1) := by decide +kernel
theorem dz_X1_19 : decode ma_X1_init.2.2.1 19 = .ok (.putfield 19, 3) := by decide +kernel
theorem dz_X1_22 : decode ma_X1_init.2.2.1 22 = .ok (.return_, 1) := by decide +kernel
def w_X1 (cy : Nat → ClassId) (h0 : Nat) (u : Nat → Nat) : va_W := [(h0, .inr (1, [.ref (u 0), .long 0, .int 1])), (u 0, .inl (cy 3, 32, .inr (.inl (fun _ => 0))))]
theorem cb_X1 {l : Launch} : cz_B l ma_X1_init 1 fz_X1 w_X1 1 32 1 (fun _ => True) := by
  intro p e R s m args below meth c Q A dC dI cy h0 ls hC hnm _ hR hl hI kk
  have hx := hC.1
  have hb := hC.2.1
  have a0 := lv_at hl 0 rfl
  refine lv_aload_n hx hb dz_X1_0 rfl a0 ?_
  refine cz_obj hC hl.1 wo_X1 ⟨by omega, by omega⟩ dz_X1_1 ?_
  refine lv_aload_n hx hb dz_X1_4 rfl a0 ?_
  refine lv_bipush (v := 32) hx hb dz_X1_5 (by decide) ?_
  refine cz_newl (N' := 32) hC hI dz_X1_7 aw_long (by decide) (by decide) (by decide) (by omega) (by omega) (fun q0 H hI => ?_)
  have hI : cz_I s A dC dI [(h0, .inr (1, [.null, .long 0, .int 0])), (q0, .inl (cy 3, 32, .inr (.inl (fun _ => 0))))] H _ := hI
  refine cz_put (sl := 0) hC hI rfl kl_X1 hnm (by decide) (by decide) rfl rfl rfl (by show 0 < 3; decide) dz_X1_9 (fun H locs hI => ?_)
  have hI : cz_I s A dC dI [(h0, .inr (1, [.ref q0, .long 0, .int 0])), (q0, .inl (cy 3, 32, .inr (.inl (fun _ => 0))))] H locs := hI
  refine lv_aload_n hx hb dz_X1_12 rfl a0 ?_
  refine lv_lconst (v := 0) hx hb dz_X1_13 (by decide) ?_
  refine cz_put (sl := 1) hC hI rfl kl_X1 hnm (by decide) (by decide) rfl rfl rfl (by show 1 < 3; decide) dz_X1_14 (fun H locs hI => ?_)
  have hI : cz_I s A dC dI [(h0, .inr (1, [.ref q0, .long 0, .int 0])), (q0, .inl (cy 3, 32, .inr (.inl (fun _ => 0))))] H locs := hI
  refine lv_aload_n hx hb dz_X1_17 rfl a0 ?_
  refine lv_iconst (v := 1) hx hb dz_X1_18 (by decide) ?_
  refine cz_put (sl := 2) hC hI rfl kl_X1 hnm (by decide) (by decide) rfl rfl rfl (by show 2 < 3; decide) dz_X1_19 (fun H locs hI => ?_)
  have hI : cz_I s A dC dI [(h0, .inr (1, [.ref q0, .long 0, .int 1])), (q0, .inl (cy 3, 32, .inr (.inl (fun _ => 0))))] H locs := hI
  exact kk (fun j => [q0].getD j 0) _ _ _ 22 dz_X1_22 hI
theorem cm_X1 {l : Launch} : cz_Met l ma_X1_init 1 fz_X1 w_X1 1 32 1 (fun _ => True) := cz_met ok_X1_init rfl (by decide) rfl cb_X1
def ma_X2_init : AM := (ka_X2, yX2_init, cX2_init, 1, none, 0, false)
set_option maxRecDepth 20000 in
theorem ok_X2_init : ax_ok ma_X2_init := ⟨List.mem_of_getElem? (i := 2) rfl, rfl, fun h => absurd h (by decide), ax_memi (ws := [Cond.code yX2_init cX2_init 1 none]) [196] rfl (by decide +kernel) _ List.mem_cons_self, ai_X2, by decide⟩
theorem kl_X2 : ax_cls 2 (RX2, TX2, 1) tyX2 := ⟨al_X2, rfl, tyX2_ok, nmX2, ay_X2⟩
set_option maxRecDepth 20000 in
theorem wo_X2 : Cond.methodLink ma_X2_init.1.2.1 7 objectInit ∈ ax_tb ∧ Cond.instanceMethod objectInit ∈ ax_tb ∧ Cond.code objectInit ⟨#[0xb1]⟩ 1 none ∈ ax_tb := ⟨ax_memi (ws := [Cond.methodLink RX2 7 objectInit]) [197] rfl (by decide +kernel) _ List.mem_cons_self, aw_oi, aw_oc⟩
abbrev fz_X2 : List Value := .null :: []
theorem hf_X2 : ∀ j, j < 1 → defaultValue (tyX2 j) = vp_V fz_X2 j := by decide +kernel
theorem dz_X2_0 : decode ma_X2_init.2.2.1 0 = .ok (.aload_n 0, 1) := by decide +kernel
theorem dz_X2_1 : decode ma_X2_init.2.2.1 1 = .ok (.invokespecial 7, 3) := by decide +kernel
theorem dz_X2_4 : decode ma_X2_init.2.2.1 4 = .ok (.aload_n 0, 1) := by decide +kernel
theorem dz_X2_5 : decode ma_X2_init.2.2.1 5 = .ok (.sipush 300, 3) := by decide +kernel
theorem dz_X2_8 : decode ma_X2_init.2.2.1 8 = .ok (.newarray .int, 2) := by decide +kernel
theorem dz_X2_10 : decode ma_X2_init.2.2.1 10 = .ok (.putfield 13, 3) := by decide +kernel
theorem dz_X2_13 : decode ma_X2_init.2.2.1 13 = .ok (.return_, 1) := by decide +kernel
def w_X2 (cy : Nat → ClassId) (h0 : Nat) (u : Nat → Nat) : va_W := [(h0, .inr (2, [.ref (u 0)])), (u 0, .inl (cy 0, 300, .inl (fun _ => 0)))]
theorem cb_X2 {l : Launch} : cz_B l ma_X2_init 2 fz_X2 w_X2 1 300 1 (fun _ => True) := by
  intro p e R s m args below meth c Q A dC dI cy h0 ls hC hnm _ hR hl hI kk
  have hx := hC.1
  have hb := hC.2.1
  have a0 := lv_at hl 0 rfl
  refine lv_aload_n hx hb dz_X2_0 rfl a0 ?_
  refine cz_obj hC hl.1 wo_X2 ⟨by omega, by omega⟩ dz_X2_1 ?_
  refine lv_aload_n hx hb dz_X2_4 rfl a0 ?_
  refine lv_sipush (v := 300) hx hb dz_X2_5 (by decide) ?_
  refine cz_newi (N' := 300) hC hI dz_X2_8 aw_int (by decide) (by decide) (by decide) (by omega) (by omega) (fun q0 H hI => ?_)
  have hI : cz_I s A dC dI [(h0, .inr (2, [.null])), (q0, .inl (cy 0, 300, .inl (fun _ => 0)))] H _ := hI
  refine cz_put (sl := 0) hC hI rfl kl_X2 hnm (by decide) (by decide) rfl rfl rfl (by show 0 < 1; decide) dz_X2_10 (fun H locs hI => ?_)
  have hI : cz_I s A dC dI [(h0, .inr (2, [.ref q0])), (q0, .inl (cy 0, 300, .inl (fun _ => 0)))] H locs := hI
  exact kk (fun j => [q0].getD j 0) _ _ _ 13 dz_X2_13 hI
theorem cm_X2 {l : Launch} : cz_Met l ma_X2_init 2 fz_X2 w_X2 1 300 1 (fun _ => True) := cz_met ok_X2_init rfl (by decide) rfl cb_X2
def ma_X3_init : AM := (ka_X3, yX3_init, cX3_init, 1, none, 0, false)
set_option maxRecDepth 20000 in
theorem ok_X3_init : ax_ok ma_X3_init := ⟨List.mem_of_getElem? (i := 3) rfl, rfl, fun h => absurd h (by decide), ax_memi (ws := [Cond.code yX3_init cX3_init 1 none]) [206] rfl (by decide +kernel) _ List.mem_cons_self, ai_X3, by decide⟩
theorem kl_X3 : ax_cls 3 (RX3, TX3, 4) tyX3 := ⟨al_X3, rfl, tyX3_ok, nmX3, ay_X3⟩
set_option maxRecDepth 20000 in
theorem wo_X3 : Cond.methodLink ma_X3_init.1.2.1 1 objectInit ∈ ax_tb ∧ Cond.instanceMethod objectInit ∈ ax_tb ∧ Cond.code objectInit ⟨#[0xb1]⟩ 1 none ∈ ax_tb := ⟨ax_memi (ws := [Cond.methodLink RX3 1 objectInit]) [207] rfl (by decide +kernel) _ List.mem_cons_self, aw_oi, aw_oc⟩
abbrev fz_X3 : List Value := .null :: .null :: .null :: .int 0 :: []
theorem hf_X3 : ∀ j, j < 4 → defaultValue (tyX3 j) = vp_V fz_X3 j := by decide +kernel
theorem dz_X3_0 : decode ma_X3_init.2.2.1 0 = .ok (.aload_n 0, 1) := by decide +kernel
theorem dz_X3_1 : decode ma_X3_init.2.2.1 1 = .ok (.invokespecial 1, 3) := by decide +kernel
theorem dz_X3_4 : decode ma_X3_init.2.2.1 4 = .ok (.aload_n 0, 1) := by decide +kernel
theorem dz_X3_5 : decode ma_X3_init.2.2.1 5 = .ok (.bipush 10, 2) := by decide +kernel
theorem dz_X3_7 : decode ma_X3_init.2.2.1 7 = .ok (.newarray .int, 2) := by decide +kernel
theorem dz_X3_9 : decode ma_X3_init.2.2.1 9 = .ok (.putfield 9, 3) := by decide +kernel
theorem dz_X3_12 : decode ma_X3_init.2.2.1 12 = .ok (.aload_n 0, 1) := by decide +kernel
theorem dz_X3_13 : decode ma_X3_init.2.2.1 13 = .ok (.bipush 10, 2) := by decide +kernel
theorem dz_X3_15 : decode ma_X3_init.2.2.1 15 = .ok (.newarray .int, 2) := by decide +kernel
theorem dz_X3_17 : decode ma_X3_init.2.2.1 17 = .ok (.putfield 13, 3) := by decide +kernel
theorem dz_X3_20 : decode ma_X3_init.2.2.1 20 = .ok (.aload_n 0, 1) := by decide +kernel
theorem dz_X3_21 : decode ma_X3_init.2.2.1 21 = .ok (.bipush 10, 2) := by decide +kernel
theorem dz_X3_23 : decode ma_X3_init.2.2.1 23 = .ok (.newarray .boolean, 2) := by decide +kernel
theorem dz_X3_25 : decode ma_X3_init.2.2.1 25 = .ok (.putfield 16, 3) := by decide +kernel
theorem dz_X3_28 : decode ma_X3_init.2.2.1 28 = .ok (.aload_n 0, 1) := by decide +kernel
theorem dz_X3_29 : decode ma_X3_init.2.2.1 29 = .ok (.iconst 0, 1) := by decide +kernel
theorem dz_X3_30 : decode ma_X3_init.2.2.1 30 = .ok (.putfield 20, 3) := by decide +kernel
theorem dz_X3_33 : decode ma_X3_init.2.2.1 33 = .ok (.return_, 1) := by decide +kernel
def w_X3 (cy : Nat → ClassId) (h0 : Nat) (u : Nat → Nat) : va_W := [(h0, .inr (3, [.ref (u 0), .ref (u 1), .ref (u 2), .int 0])), (u 0, .inl (cy 0, 10, .inl (fun _ => 0))), (u 1, .inl (cy 0, 10, .inl (fun _ => 0))), (u 2, .inl (cy 1, 10, .inl (fun _ => 0)))]
theorem cb_X3 {l : Launch} : cz_B l ma_X3_init 3 fz_X3 w_X3 3 30 1 (fun _ => True) := by
  intro p e R s m args below meth c Q A dC dI cy h0 ls hC hnm _ hR hl hI kk
  have hx := hC.1
  have hb := hC.2.1
  have a0 := lv_at hl 0 rfl
  refine lv_aload_n hx hb dz_X3_0 rfl a0 ?_
  refine cz_obj hC hl.1 wo_X3 ⟨by omega, by omega⟩ dz_X3_1 ?_
  refine lv_aload_n hx hb dz_X3_4 rfl a0 ?_
  refine lv_bipush (v := 10) hx hb dz_X3_5 (by decide) ?_
  refine cz_newi (N' := 10) hC hI dz_X3_7 aw_int (by decide) (by decide) (by decide) (by omega) (by omega) (fun q0 H hI => ?_)
  have hI : cz_I s A dC dI [(h0, .inr (3, [.null, .null, .null, .int 0])), (q0, .inl (cy 0, 10, .inl (fun _ => 0)))] H _ := hI
  refine cz_put (sl := 0) hC hI rfl kl_X3 hnm (by decide) (by decide) rfl rfl rfl (by show 0 < 4; decide) dz_X3_9 (fun H locs hI => ?_)
  have hI : cz_I s A dC dI [(h0, .inr (3, [.ref q0, .null, .null, .int 0])), (q0, .inl (cy 0, 10, .inl (fun _ => 0)))] H locs := hI
  refine lv_aload_n hx hb dz_X3_12 rfl a0 ?_
  refine lv_bipush (v := 10) hx hb dz_X3_13 (by decide) ?_
  refine cz_newi (N' := 10) hC hI dz_X3_15 aw_int (by decide) (by decide) (by decide) (by omega) (by omega) (fun q1 H hI => ?_)
  have hI : cz_I s A dC dI [(h0, .inr (3, [.ref q0, .null, .null, .int 0])), (q0, .inl (cy 0, 10, .inl (fun _ => 0))), (q1, .inl (cy 0, 10, .inl (fun _ => 0)))] H _ := hI
  refine cz_put (sl := 1) hC hI rfl kl_X3 hnm (by decide) (by decide) rfl rfl rfl (by show 1 < 4; decide) dz_X3_17 (fun H locs hI => ?_)
  have hI : cz_I s A dC dI [(h0, .inr (3, [.ref q0, .ref q1, .null, .int 0])), (q0, .inl (cy 0, 10, .inl (fun _ => 0))), (q1, .inl (cy 0, 10, .inl (fun _ => 0)))] H locs := hI
  refine lv_aload_n hx hb dz_X3_20 rfl a0 ?_
  refine lv_bipush (v := 10) hx hb dz_X3_21 (by decide) ?_
  refine cz_newz (N' := 10) hC hI dz_X3_23 aw_boolean (by decide) (by decide) (by decide) (by omega) (by omega) (fun q2 H hI => ?_)
  have hI : cz_I s A dC dI [(h0, .inr (3, [.ref q0, .ref q1, .null, .int 0])), (q0, .inl (cy 0, 10, .inl (fun _ => 0))), (q1, .inl (cy 0, 10, .inl (fun _ => 0))), (q2, .inl (cy 1, 10, .inl (fun _ => 0)))] H _ := hI
  refine cz_put (sl := 2) hC hI rfl kl_X3 hnm (by decide) (by decide) rfl rfl rfl (by show 2 < 4; decide) dz_X3_25 (fun H locs hI => ?_)
  have hI : cz_I s A dC dI [(h0, .inr (3, [.ref q0, .ref q1, .ref q2, .int 0])), (q0, .inl (cy 0, 10, .inl (fun _ => 0))), (q1, .inl (cy 0, 10, .inl (fun _ => 0))), (q2, .inl (cy 1, 10, .inl (fun _ => 0)))] H locs := hI
  refine lv_aload_n hx hb dz_X3_28 rfl a0 ?_
  refine lv_iconst (v := 0) hx hb dz_X3_29 (by decide) ?_
  refine cz_put (sl := 3) hC hI rfl kl_X3 hnm (by decide) (by decide) rfl rfl rfl (by show 3 < 4; decide) dz_X3_30 (fun H locs hI => ?_)
  have hI : cz_I s A dC dI [(h0, .inr (3, [.ref q0, .ref q1, .ref q2, .int 0])), (q0, .inl (cy 0, 10, .inl (fun _ => 0))), (q1, .inl (cy 0, 10, .inl (fun _ => 0))), (q2, .inl (cy 1, 10, .inl (fun _ => 0)))] H locs := hI
  exact kk (fun j => [q0, q1, q2].getD j 0) _ _ _ 33 dz_X3_33 hI
theorem cm_X3 {l : Launch} : cz_Met l ma_X3_init 3 fz_X3 w_X3 3 30 1 (fun _ => True) := cz_met ok_X3_init rfl (by decide) rfl cb_X3
def ma_X4_init : AM := (ka_X4, yX4_init, cX4_init, 1, none, 0, false)
set_option maxRecDepth 20000 in
theorem ok_X4_init : ax_ok ma_X4_init := ⟨List.mem_of_getElem? (i := 4) rfl, rfl, fun h => absurd h (by decide), ax_memi (ws := [Cond.code yX4_init cX4_init 1 none]) [341] rfl (by decide +kernel) _ List.mem_cons_self, ai_X4, by decide⟩
theorem kl_X4 : ax_cls 4 (RX4, TX4, 6) tyX4 := ⟨al_X4, rfl, tyX4_ok, nmX4, ay_X4⟩
set_option maxRecDepth 20000 in
theorem wo_X4 : Cond.methodLink ma_X4_init.1.2.1 3 objectInit ∈ ax_tb ∧ Cond.instanceMethod objectInit ∈ ax_tb ∧ Cond.code objectInit ⟨#[0xb1]⟩ 1 none ∈ ax_tb := ⟨ax_memi (ws := [Cond.methodLink RX4 3 objectInit]) [342] rfl (by decide +kernel) _ List.mem_cons_self, aw_oi, aw_oc⟩
abbrev fz_X4 : List Value := .null :: .null :: .null :: .int 0 :: .int 0 :: .int 0 :: []
theorem hf_X4 : ∀ j, j < 6 → defaultValue (tyX4 j) = vp_V fz_X4 j := by decide +kernel
theorem dz_X4_0 : decode ma_X4_init.2.2.1 0 = .ok (.aload_n 0, 1) := by decide +kernel
theorem dz_X4_1 : decode ma_X4_init.2.2.1 1 = .ok (.invokespecial 3, 3) := by decide +kernel
theorem dz_X4_4 : decode ma_X4_init.2.2.1 4 = .ok (.aload_n 0, 1) := by decide +kernel
theorem dz_X4_5 : decode ma_X4_init.2.2.1 5 = .ok (.iconst 3, 1) := by decide +kernel
theorem dz_X4_6 : decode ma_X4_init.2.2.1 6 = .ok (.newarray .int, 2) := by decide +kernel
theorem dz_X4_8 : decode ma_X4_init.2.2.1 8 = .ok (.putfield 11, 3) := by decide +kernel
theorem dz_X4_11 : decode ma_X4_init.2.2.1 11 = .ok (.aload_n 0, 1) := by decide +kernel
theorem dz_X4_12 : decode ma_X4_init.2.2.1 12 = .ok (.bipush 8, 2) := by decide +kernel
theorem dz_X4_14 : decode ma_X4_init.2.2.1 14 = .ok (.newarray .int, 2) := by decide +kernel
theorem dz_X4_16 : decode ma_X4_init.2.2.1 16 = .ok (.putfield 15, 3) := by decide +kernel
theorem dz_X4_19 : decode ma_X4_init.2.2.1 19 = .ok (.aload_n 0, 1) := by decide +kernel
theorem dz_X4_20 : decode ma_X4_init.2.2.1 20 = .ok (.bipush 42, 2) := by decide +kernel
theorem dz_X4_22 : decode ma_X4_init.2.2.1 22 = .ok (.newarray .int, 2) := by decide +kernel
theorem dz_X4_24 : decode ma_X4_init.2.2.1 24 = .ok (.putfield 18, 3) := by decide +kernel
theorem dz_X4_27 : decode ma_X4_init.2.2.1 27 = .ok (.aload_n 0, 1) := by decide +kernel
theorem dz_X4_28 : decode ma_X4_init.2.2.1 28 = .ok (.iconst 0, 1) := by decide +kernel
theorem dz_X4_29 : decode ma_X4_init.2.2.1 29 = .ok (.putfield 21, 3) := by decide +kernel
theorem dz_X4_32 : decode ma_X4_init.2.2.1 32 = .ok (.aload_n 0, 1) := by decide +kernel
theorem dz_X4_33 : decode ma_X4_init.2.2.1 33 = .ok (.iconst 0, 1) := by decide +kernel
theorem dz_X4_34 : decode ma_X4_init.2.2.1 34 = .ok (.putfield 25, 3) := by decide +kernel
theorem dz_X4_37 : decode ma_X4_init.2.2.1 37 = .ok (.aload_n 0, 1) := by decide +kernel
theorem dz_X4_38 : decode ma_X4_init.2.2.1 38 = .ok (.iconst 0, 1) := by decide +kernel
theorem dz_X4_39 : decode ma_X4_init.2.2.1 39 = .ok (.putfield 29, 3) := by decide +kernel
theorem dz_X4_42 : decode ma_X4_init.2.2.1 42 = .ok (.return_, 1) := by decide +kernel
def w_X4 (cy : Nat → ClassId) (h0 : Nat) (u : Nat → Nat) : va_W := [(h0, .inr (4, [.ref (u 0), .ref (u 1), .ref (u 2), .int 0, .int 0, .int 0])), (u 0, .inl (cy 0, 3, .inl (fun _ => 0))), (u 1, .inl (cy 0, 8, .inl (fun _ => 0))), (u 2, .inl (cy 0, 42, .inl (fun _ => 0)))]
theorem cb_X4 {l : Launch} : cz_B l ma_X4_init 4 fz_X4 w_X4 3 53 1 (fun _ => True) := by
  intro p e R s m args below meth c Q A dC dI cy h0 ls hC hnm _ hR hl hI kk
  have hx := hC.1
  have hb := hC.2.1
  have a0 := lv_at hl 0 rfl
  refine lv_aload_n hx hb dz_X4_0 rfl a0 ?_
  refine cz_obj hC hl.1 wo_X4 ⟨by omega, by omega⟩ dz_X4_1 ?_
  refine lv_aload_n hx hb dz_X4_4 rfl a0 ?_
  refine lv_iconst (v := 3) hx hb dz_X4_5 (by decide) ?_
  refine cz_newi (N' := 3) hC hI dz_X4_6 aw_int (by decide) (by decide) (by decide) (by omega) (by omega) (fun q0 H hI => ?_)
  have hI : cz_I s A dC dI [(h0, .inr (4, [.null, .null, .null, .int 0, .int 0, .int 0])), (q0, .inl (cy 0, 3, .inl (fun _ => 0)))] H _ := hI
  refine cz_put (sl := 0) hC hI rfl kl_X4 hnm (by decide) (by decide) rfl rfl rfl (by show 0 < 6; decide) dz_X4_8 (fun H locs hI => ?_)
  have hI : cz_I s A dC dI [(h0, .inr (4, [.ref q0, .null, .null, .int 0, .int 0, .int 0])), (q0, .inl (cy 0, 3, .inl (fun _ => 0)))] H locs := hI
  refine lv_aload_n hx hb dz_X4_11 rfl a0 ?_
  refine lv_bipush (v := 8) hx hb dz_X4_12 (by decide) ?_
  refine cz_newi (N' := 8) hC hI dz_X4_14 aw_int (by decide) (by decide) (by decide) (by omega) (by omega) (fun q1 H hI => ?_)
  have hI : cz_I s A dC dI [(h0, .inr (4, [.ref q0, .null, .null, .int 0, .int 0, .int 0])), (q0, .inl (cy 0, 3, .inl (fun _ => 0))), (q1, .inl (cy 0, 8, .inl (fun _ => 0)))] H _ := hI
  refine cz_put (sl := 1) hC hI rfl kl_X4 hnm (by decide) (by decide) rfl rfl rfl (by show 1 < 6; decide) dz_X4_16 (fun H locs hI => ?_)
  have hI : cz_I s A dC dI [(h0, .inr (4, [.ref q0, .ref q1, .null, .int 0, .int 0, .int 0])), (q0, .inl (cy 0, 3, .inl (fun _ => 0))), (q1, .inl (cy 0, 8, .inl (fun _ => 0)))] H locs := hI
  refine lv_aload_n hx hb dz_X4_19 rfl a0 ?_
  refine lv_bipush (v := 42) hx hb dz_X4_20 (by decide) ?_
  refine cz_newi (N' := 42) hC hI dz_X4_22 aw_int (by decide) (by decide) (by decide) (by omega) (by omega) (fun q2 H hI => ?_)
  have hI : cz_I s A dC dI [(h0, .inr (4, [.ref q0, .ref q1, .null, .int 0, .int 0, .int 0])), (q0, .inl (cy 0, 3, .inl (fun _ => 0))), (q1, .inl (cy 0, 8, .inl (fun _ => 0))), (q2, .inl (cy 0, 42, .inl (fun _ => 0)))] H _ := hI
  refine cz_put (sl := 2) hC hI rfl kl_X4 hnm (by decide) (by decide) rfl rfl rfl (by show 2 < 6; decide) dz_X4_24 (fun H locs hI => ?_)
  have hI : cz_I s A dC dI [(h0, .inr (4, [.ref q0, .ref q1, .ref q2, .int 0, .int 0, .int 0])), (q0, .inl (cy 0, 3, .inl (fun _ => 0))), (q1, .inl (cy 0, 8, .inl (fun _ => 0))), (q2, .inl (cy 0, 42, .inl (fun _ => 0)))] H locs := hI
  refine lv_aload_n hx hb dz_X4_27 rfl a0 ?_
  refine lv_iconst (v := 0) hx hb dz_X4_28 (by decide) ?_
  refine cz_put (sl := 3) hC hI rfl kl_X4 hnm (by decide) (by decide) rfl rfl rfl (by show 3 < 6; decide) dz_X4_29 (fun H locs hI => ?_)
  have hI : cz_I s A dC dI [(h0, .inr (4, [.ref q0, .ref q1, .ref q2, .int 0, .int 0, .int 0])), (q0, .inl (cy 0, 3, .inl (fun _ => 0))), (q1, .inl (cy 0, 8, .inl (fun _ => 0))), (q2, .inl (cy 0, 42, .inl (fun _ => 0)))] H locs := hI
  refine lv_aload_n hx hb dz_X4_32 rfl a0 ?_
  refine lv_iconst (v := 0) hx hb dz_X4_33 (by decide) ?_
  refine cz_put (sl := 4) hC hI rfl kl_X4 hnm (by decide) (by decide) rfl rfl rfl (by show 4 < 6; decide) dz_X4_34 (fun H locs hI => ?_)
  have hI : cz_I s A dC dI [(h0, .inr (4, [.ref q0, .ref q1, .ref q2, .int 0, .int 0, .int 0])), (q0, .inl (cy 0, 3, .inl (fun _ => 0))), (q1, .inl (cy 0, 8, .inl (fun _ => 0))), (q2, .inl (cy 0, 42, .inl (fun _ => 0)))] H locs := hI
  refine lv_aload_n hx hb dz_X4_37 rfl a0 ?_
  refine lv_iconst (v := 0) hx hb dz_X4_38 (by decide) ?_
  refine cz_put (sl := 5) hC hI rfl kl_X4 hnm (by decide) (by decide) rfl rfl rfl (by show 5 < 6; decide) dz_X4_39 (fun H locs hI => ?_)
  have hI : cz_I s A dC dI [(h0, .inr (4, [.ref q0, .ref q1, .ref q2, .int 0, .int 0, .int 0])), (q0, .inl (cy 0, 3, .inl (fun _ => 0))), (q1, .inl (cy 0, 8, .inl (fun _ => 0))), (q2, .inl (cy 0, 42, .inl (fun _ => 0)))] H locs := hI
  exact kk (fun j => [q0, q1, q2].getD j 0) _ _ _ 42 dz_X4_42 hI
theorem cm_X4 {l : Launch} : cz_Met l ma_X4_init 4 fz_X4 w_X4 3 53 1 (fun _ => True) := cz_met ok_X4_init rfl (by decide) rfl cb_X4
def ma_X5_init : AM := (ka_X5, yX5_init, cX5_init, 1, none, 0, false)
set_option maxRecDepth 20000 in
theorem ok_X5_init : ax_ok ma_X5_init := ⟨List.mem_of_getElem? (i := 5) rfl, rfl, fun h => absurd h (by decide), ax_memi (ws := [Cond.code yX5_init cX5_init 1 none]) [365] rfl (by decide +kernel) _ List.mem_cons_self, ai_X5, by decide⟩
theorem kl_X5 : ax_cls 5 (RX5, TX5, 4) tyX5 := ⟨al_X5, rfl, tyX5_ok, nmX5, ay_X5⟩
set_option maxRecDepth 20000 in
theorem wo_X5 : Cond.methodLink ma_X5_init.1.2.1 3 objectInit ∈ ax_tb ∧ Cond.instanceMethod objectInit ∈ ax_tb ∧ Cond.code objectInit ⟨#[0xb1]⟩ 1 none ∈ ax_tb := ⟨ax_memi (ws := [Cond.methodLink RX5 3 objectInit]) [366] rfl (by decide +kernel) _ List.mem_cons_self, aw_oi, aw_oc⟩
abbrev fz_X5 : List Value := .null :: .null :: .int 0 :: .int 0 :: []
theorem hf_X5 : ∀ j, j < 4 → defaultValue (tyX5 j) = vp_V fz_X5 j := by decide +kernel
theorem dz_X5_0 : decode ma_X5_init.2.2.1 0 = .ok (.aload_n 0, 1) := by decide +kernel
theorem dz_X5_1 : decode ma_X5_init.2.2.1 1 = .ok (.invokespecial 3, 3) := by decide +kernel
theorem dz_X5_4 : decode ma_X5_init.2.2.1 4 = .ok (.aload_n 0, 1) := by decide +kernel
theorem dz_X5_5 : decode ma_X5_init.2.2.1 5 = .ok (.sipush 241, 3) := by decide +kernel
theorem dz_X5_8 : decode ma_X5_init.2.2.1 8 = .ok (.newarray .int, 2) := by decide +kernel
theorem dz_X5_10 : decode ma_X5_init.2.2.1 10 = .ok (.putfield 11, 3) := by decide +kernel
theorem dz_X5_13 : decode ma_X5_init.2.2.1 13 = .ok (.aload_n 0, 1) := by decide +kernel
theorem dz_X5_14 : decode ma_X5_init.2.2.1 14 = .ok (.bipush 40, 2) := by decide +kernel
theorem dz_X5_16 : decode ma_X5_init.2.2.1 16 = .ok (.newarray .int, 2) := by decide +kernel
theorem dz_X5_18 : decode ma_X5_init.2.2.1 18 = .ok (.putfield 17, 3) := by decide +kernel
theorem dz_X5_21 : decode ma_X5_init.2.2.1 21 = .ok (.aload_n 0, 1) := by decide +kernel
theorem dz_X5_22 : decode ma_X5_init.2.2.1 22 = .ok (.iconst 0, 1) := by decide +kernel
theorem dz_X5_23 : decode ma_X5_init.2.2.1 23 = .ok (.putfield 20, 3) := by decide +kernel
theorem dz_X5_26 : decode ma_X5_init.2.2.1 26 = .ok (.aload_n 0, 1) := by decide +kernel
theorem dz_X5_27 : decode ma_X5_init.2.2.1 27 = .ok (.iconst 0, 1) := by decide +kernel
theorem dz_X5_28 : decode ma_X5_init.2.2.1 28 = .ok (.putfield 24, 3) := by decide +kernel
theorem dz_X5_31 : decode ma_X5_init.2.2.1 31 = .ok (.return_, 1) := by decide +kernel
def w_X5 (cy : Nat → ClassId) (h0 : Nat) (u : Nat → Nat) : va_W := [(h0, .inr (5, [.ref (u 0), .ref (u 1), .int 0, .int 0])), (u 0, .inl (cy 0, 241, .inl (fun _ => 0))), (u 1, .inl (cy 0, 40, .inl (fun _ => 0)))]
theorem cb_X5 {l : Launch} : cz_B l ma_X5_init 5 fz_X5 w_X5 2 281 1 (fun _ => True) := by
  intro p e R s m args below meth c Q A dC dI cy h0 ls hC hnm _ hR hl hI kk
  have hx := hC.1
  have hb := hC.2.1
  have a0 := lv_at hl 0 rfl
  refine lv_aload_n hx hb dz_X5_0 rfl a0 ?_
  refine cz_obj hC hl.1 wo_X5 ⟨by omega, by omega⟩ dz_X5_1 ?_
  refine lv_aload_n hx hb dz_X5_4 rfl a0 ?_
  refine lv_sipush (v := 241) hx hb dz_X5_5 (by decide) ?_
  refine cz_newi (N' := 241) hC hI dz_X5_8 aw_int (by decide) (by decide) (by decide) (by omega) (by omega) (fun q0 H hI => ?_)
  have hI : cz_I s A dC dI [(h0, .inr (5, [.null, .null, .int 0, .int 0])), (q0, .inl (cy 0, 241, .inl (fun _ => 0)))] H _ := hI
  refine cz_put (sl := 0) hC hI rfl kl_X5 hnm (by decide) (by decide) rfl rfl rfl (by show 0 < 4; decide) dz_X5_10 (fun H locs hI => ?_)
  have hI : cz_I s A dC dI [(h0, .inr (5, [.ref q0, .null, .int 0, .int 0])), (q0, .inl (cy 0, 241, .inl (fun _ => 0)))] H locs := hI
  refine lv_aload_n hx hb dz_X5_13 rfl a0 ?_
  refine lv_bipush (v := 40) hx hb dz_X5_14 (by decide) ?_
  refine cz_newi (N' := 40) hC hI dz_X5_16 aw_int (by decide) (by decide) (by decide) (by omega) (by omega) (fun q1 H hI => ?_)
  have hI : cz_I s A dC dI [(h0, .inr (5, [.ref q0, .null, .int 0, .int 0])), (q0, .inl (cy 0, 241, .inl (fun _ => 0))), (q1, .inl (cy 0, 40, .inl (fun _ => 0)))] H _ := hI
  refine cz_put (sl := 1) hC hI rfl kl_X5 hnm (by decide) (by decide) rfl rfl rfl (by show 1 < 4; decide) dz_X5_18 (fun H locs hI => ?_)
  have hI : cz_I s A dC dI [(h0, .inr (5, [.ref q0, .ref q1, .int 0, .int 0])), (q0, .inl (cy 0, 241, .inl (fun _ => 0))), (q1, .inl (cy 0, 40, .inl (fun _ => 0)))] H locs := hI
  refine lv_aload_n hx hb dz_X5_21 rfl a0 ?_
  refine lv_iconst (v := 0) hx hb dz_X5_22 (by decide) ?_
  refine cz_put (sl := 2) hC hI rfl kl_X5 hnm (by decide) (by decide) rfl rfl rfl (by show 2 < 4; decide) dz_X5_23 (fun H locs hI => ?_)
  have hI : cz_I s A dC dI [(h0, .inr (5, [.ref q0, .ref q1, .int 0, .int 0])), (q0, .inl (cy 0, 241, .inl (fun _ => 0))), (q1, .inl (cy 0, 40, .inl (fun _ => 0)))] H locs := hI
  refine lv_aload_n hx hb dz_X5_26 rfl a0 ?_
  refine lv_iconst (v := 0) hx hb dz_X5_27 (by decide) ?_
  refine cz_put (sl := 3) hC hI rfl kl_X5 hnm (by decide) (by decide) rfl rfl rfl (by show 3 < 4; decide) dz_X5_28 (fun H locs hI => ?_)
  have hI : cz_I s A dC dI [(h0, .inr (5, [.ref q0, .ref q1, .int 0, .int 0])), (q0, .inl (cy 0, 241, .inl (fun _ => 0))), (q1, .inl (cy 0, 40, .inl (fun _ => 0)))] H locs := hI
  exact kk (fun j => [q0, q1].getD j 0) _ _ _ 31 dz_X5_31 hI
theorem cm_X5 {l : Launch} : cz_Met l ma_X5_init 5 fz_X5 w_X5 2 281 1 (fun _ => True) := cz_met ok_X5_init rfl (by decide) rfl cb_X5
def ma_X6_init : AM := (ka_X6, yX6_init, cX6_init, 1, none, 0, false)
set_option maxRecDepth 20000 in
theorem ok_X6_init : ax_ok ma_X6_init := ⟨List.mem_of_getElem? (i := 6) rfl, rfl, fun h => absurd h (by decide), ax_memi (ws := [Cond.code yX6_init cX6_init 1 none]) [164] rfl (by decide +kernel) _ List.mem_cons_self, ai_X6, by decide⟩
theorem kl_X6 : ax_cls 6 (RX6, TX6, 3) tyX6 := ⟨al_X6, rfl, tyX6_ok, nmX6, ay_X6⟩
set_option maxRecDepth 20000 in
theorem wo_X6 : Cond.methodLink ma_X6_init.1.2.1 3 objectInit ∈ ax_tb ∧ Cond.instanceMethod objectInit ∈ ax_tb ∧ Cond.code objectInit ⟨#[0xb1]⟩ 1 none ∈ ax_tb := ⟨ax_memi (ws := [Cond.methodLink RX6 3 objectInit]) [165] rfl (by decide +kernel) _ List.mem_cons_self, aw_oi, aw_oc⟩
abbrev fz_X6 : List Value := .null :: .null :: .null :: []
theorem hf_X6 : ∀ j, j < 3 → defaultValue (tyX6 j) = vp_V fz_X6 j := by decide +kernel
theorem dz_X6_0 : decode ma_X6_init.2.2.1 0 = .ok (.aload_n 0, 1) := by decide +kernel
theorem dz_X6_1 : decode ma_X6_init.2.2.1 1 = .ok (.invokespecial 3, 3) := by decide +kernel
theorem dz_X6_4 : decode ma_X6_init.2.2.1 4 = .ok (.aload_n 0, 1) := by decide +kernel
theorem dz_X6_5 : decode ma_X6_init.2.2.1 5 = .ok (.bipush 6, 2) := by decide +kernel
theorem dz_X6_7 : decode ma_X6_init.2.2.1 7 = .ok (.newarray .int, 2) := by decide +kernel
theorem dz_X6_9 : decode ma_X6_init.2.2.1 9 = .ok (.putfield 9, 3) := by decide +kernel
theorem dz_X6_12 : decode ma_X6_init.2.2.1 12 = .ok (.aload_n 0, 1) := by decide +kernel
theorem dz_X6_13 : decode ma_X6_init.2.2.1 13 = .ok (.aconst_null, 1) := by decide +kernel
theorem dz_X6_14 : decode ma_X6_init.2.2.1 14 = .ok (.putfield 15, 3) := by decide +kernel
theorem dz_X6_17 : decode ma_X6_init.2.2.1 17 = .ok (.aload_n 0, 1) := by decide +kernel
theorem dz_X6_18 : decode ma_X6_init.2.2.1 18 = .ok (.aconst_null, 1) := by decide +kernel
theorem dz_X6_19 : decode ma_X6_init.2.2.1 19 = .ok (.putfield 19, 3) := by decide +kernel
theorem dz_X6_22 : decode ma_X6_init.2.2.1 22 = .ok (.return_, 1) := by decide +kernel
def w_X6 (cy : Nat → ClassId) (h0 : Nat) (u : Nat → Nat) : va_W := [(h0, .inr (6, [.ref (u 0), .null, .null])), (u 0, .inl (cy 0, 6, .inl (fun _ => 0)))]
theorem cb_X6 {l : Launch} : cz_B l ma_X6_init 6 fz_X6 w_X6 1 6 1 (fun _ => True) := by
  intro p e R s m args below meth c Q A dC dI cy h0 ls hC hnm _ hR hl hI kk
  have hx := hC.1
  have hb := hC.2.1
  have a0 := lv_at hl 0 rfl
  refine lv_aload_n hx hb dz_X6_0 rfl a0 ?_
  refine cz_obj hC hl.1 wo_X6 ⟨by omega, by omega⟩ dz_X6_1 ?_
  refine lv_aload_n hx hb dz_X6_4 rfl a0 ?_
  refine lv_bipush (v := 6) hx hb dz_X6_5 (by decide) ?_
  refine cz_newi (N' := 6) hC hI dz_X6_7 aw_int (by decide) (by decide) (by decide) (by omega) (by omega) (fun q0 H hI => ?_)
  have hI : cz_I s A dC dI [(h0, .inr (6, [.null, .null, .null])), (q0, .inl (cy 0, 6, .inl (fun _ => 0)))] H _ := hI
  refine cz_put (sl := 0) hC hI rfl kl_X6 hnm (by decide) (by decide) rfl rfl rfl (by show 0 < 3; decide) dz_X6_9 (fun H locs hI => ?_)
  have hI : cz_I s A dC dI [(h0, .inr (6, [.ref q0, .null, .null])), (q0, .inl (cy 0, 6, .inl (fun _ => 0)))] H locs := hI
  refine lv_aload_n hx hb dz_X6_12 rfl a0 ?_
  refine lv_null hx hb dz_X6_13 ?_
  refine cz_put (sl := 1) hC hI rfl kl_X6 hnm (by decide) (by decide) rfl rfl rfl (by show 1 < 3; decide) dz_X6_14 (fun H locs hI => ?_)
  have hI : cz_I s A dC dI [(h0, .inr (6, [.ref q0, .null, .null])), (q0, .inl (cy 0, 6, .inl (fun _ => 0)))] H locs := hI
  refine lv_aload_n hx hb dz_X6_17 rfl a0 ?_
  refine lv_null hx hb dz_X6_18 ?_
  refine cz_put (sl := 2) hC hI rfl kl_X6 hnm (by decide) (by decide) rfl rfl rfl (by show 2 < 3; decide) dz_X6_19 (fun H locs hI => ?_)
  have hI : cz_I s A dC dI [(h0, .inr (6, [.ref q0, .null, .null])), (q0, .inl (cy 0, 6, .inl (fun _ => 0)))] H locs := hI
  exact kk (fun j => [q0].getD j 0) _ _ _ 22 dz_X6_22 hI
theorem cm_X6 {l : Launch} : cz_Met l ma_X6_init 6 fz_X6 w_X6 1 6 1 (fun _ => True) := cz_met ok_X6_init rfl (by decide) rfl cb_X6
def ma_X7_init : AM := (ka_X7, yX7_init, cX7_init, 1, none, 0, false)
set_option maxRecDepth 20000 in
theorem ok_X7_init : ax_ok ma_X7_init := ⟨List.mem_of_getElem? (i := 7) rfl, rfl, fun h => absurd h (by decide), ax_memi (ws := [Cond.code yX7_init cX7_init 1 none]) [180] rfl (by decide +kernel) _ List.mem_cons_self, ai_X7, by decide⟩
theorem kl_X7 : ax_cls 7 (RX7, TX7, 3) tyX7 := ⟨al_X7, rfl, tyX7_ok, nmX7, ay_X7⟩
set_option maxRecDepth 20000 in
theorem wo_X7 : Cond.methodLink ma_X7_init.1.2.1 1 objectInit ∈ ax_tb ∧ Cond.instanceMethod objectInit ∈ ax_tb ∧ Cond.code objectInit ⟨#[0xb1]⟩ 1 none ∈ ax_tb := ⟨ax_memi (ws := [Cond.methodLink RX7 1 objectInit]) [181] rfl (by decide +kernel) _ List.mem_cons_self, aw_oi, aw_oc⟩
abbrev fz_X7 : List Value := .null :: .int 0 :: .int 0 :: []
theorem hf_X7 : ∀ j, j < 3 → defaultValue (tyX7 j) = vp_V fz_X7 j := by decide +kernel
theorem dz_X7_0 : decode ma_X7_init.2.2.1 0 = .ok (.aload_n 0, 1) := by decide +kernel
theorem dz_X7_1 : decode ma_X7_init.2.2.1 1 = .ok (.invokespecial 1, 3) := by decide +kernel
theorem dz_X7_4 : decode ma_X7_init.2.2.1 4 = .ok (.aload_n 0, 1) := by decide +kernel
theorem dz_X7_5 : decode ma_X7_init.2.2.1 5 = .ok (.sipush 720, 3) := by decide +kernel
theorem dz_X7_8 : decode ma_X7_init.2.2.1 8 = .ok (.newarray .int, 2) := by decide +kernel
theorem dz_X7_10 : decode ma_X7_init.2.2.1 10 = .ok (.putfield 11, 3) := by decide +kernel
theorem dz_X7_13 : decode ma_X7_init.2.2.1 13 = .ok (.aload_n 0, 1) := by decide +kernel
theorem dz_X7_14 : decode ma_X7_init.2.2.1 14 = .ok (.iconst 0, 1) := by decide +kernel
theorem dz_X7_15 : decode ma_X7_init.2.2.1 15 = .ok (.putfield 15, 3) := by decide +kernel
theorem dz_X7_18 : decode ma_X7_init.2.2.1 18 = .ok (.aload_n 0, 1) := by decide +kernel
theorem dz_X7_19 : decode ma_X7_init.2.2.1 19 = .ok (.iconst 0, 1) := by decide +kernel
theorem dz_X7_20 : decode ma_X7_init.2.2.1 20 = .ok (.putfield 19, 3) := by decide +kernel
theorem dz_X7_23 : decode ma_X7_init.2.2.1 23 = .ok (.return_, 1) := by decide +kernel
def w_X7 (cy : Nat → ClassId) (h0 : Nat) (u : Nat → Nat) : va_W := [(h0, .inr (7, [.ref (u 0), .int 0, .int 0])), (u 0, .inl (cy 0, 720, .inl (fun _ => 0)))]
theorem cb_X7 {l : Launch} : cz_B l ma_X7_init 7 fz_X7 w_X7 1 720 1 (fun _ => True) := by
  intro p e R s m args below meth c Q A dC dI cy h0 ls hC hnm _ hR hl hI kk
  have hx := hC.1
  have hb := hC.2.1
  have a0 := lv_at hl 0 rfl
  refine lv_aload_n hx hb dz_X7_0 rfl a0 ?_
  refine cz_obj hC hl.1 wo_X7 ⟨by omega, by omega⟩ dz_X7_1 ?_
  refine lv_aload_n hx hb dz_X7_4 rfl a0 ?_
  refine lv_sipush (v := 720) hx hb dz_X7_5 (by decide) ?_
  refine cz_newi (N' := 720) hC hI dz_X7_8 aw_int (by decide) (by decide) (by decide) (by omega) (by omega) (fun q0 H hI => ?_)
  have hI : cz_I s A dC dI [(h0, .inr (7, [.null, .int 0, .int 0])), (q0, .inl (cy 0, 720, .inl (fun _ => 0)))] H _ := hI
  refine cz_put (sl := 0) hC hI rfl kl_X7 hnm (by decide) (by decide) rfl rfl rfl (by show 0 < 3; decide) dz_X7_10 (fun H locs hI => ?_)
  have hI : cz_I s A dC dI [(h0, .inr (7, [.ref q0, .int 0, .int 0])), (q0, .inl (cy 0, 720, .inl (fun _ => 0)))] H locs := hI
  refine lv_aload_n hx hb dz_X7_13 rfl a0 ?_
  refine lv_iconst (v := 0) hx hb dz_X7_14 (by decide) ?_
  refine cz_put (sl := 1) hC hI rfl kl_X7 hnm (by decide) (by decide) rfl rfl rfl (by show 1 < 3; decide) dz_X7_15 (fun H locs hI => ?_)
  have hI : cz_I s A dC dI [(h0, .inr (7, [.ref q0, .int 0, .int 0])), (q0, .inl (cy 0, 720, .inl (fun _ => 0)))] H locs := hI
  refine lv_aload_n hx hb dz_X7_18 rfl a0 ?_
  refine lv_iconst (v := 0) hx hb dz_X7_19 (by decide) ?_
  refine cz_put (sl := 2) hC hI rfl kl_X7 hnm (by decide) (by decide) rfl rfl rfl (by show 2 < 3; decide) dz_X7_20 (fun H locs hI => ?_)
  have hI : cz_I s A dC dI [(h0, .inr (7, [.ref q0, .int 0, .int 0])), (q0, .inl (cy 0, 720, .inl (fun _ => 0)))] H locs := hI
  exact kk (fun j => [q0].getD j 0) _ _ _ 23 dz_X7_23 hI
theorem cm_X7 {l : Launch} : cz_Met l ma_X7_init 7 fz_X7 w_X7 1 720 1 (fun _ => True) := cz_met ok_X7_init rfl (by decide) rfl cb_X7
def ma_X8_init : AM := (ka_X8, yX8_init, cX8_init, 1, none, 0, false)
set_option maxRecDepth 20000 in
theorem ok_X8_init : ax_ok ma_X8_init := ⟨List.mem_of_getElem? (i := 8) rfl, rfl, fun h => absurd h (by decide), ax_memi (ws := [Cond.code yX8_init cX8_init 1 none]) [226] rfl (by decide +kernel) _ List.mem_cons_self, ai_X8, by decide⟩
theorem kl_X8 : ax_cls 8 (RX8, TX8, 10) tyX8 := ⟨al_X8, rfl, tyX8_ok, nmX8, ay_X8⟩
set_option maxRecDepth 20000 in
theorem wo_X8 : Cond.methodLink ma_X8_init.1.2.1 3 objectInit ∈ ax_tb ∧ Cond.instanceMethod objectInit ∈ ax_tb ∧ Cond.code objectInit ⟨#[0xb1]⟩ 1 none ∈ ax_tb := ⟨ax_memi (ws := [Cond.methodLink RX8 3 objectInit]) [227] rfl (by decide +kernel) _ List.mem_cons_self, aw_oi, aw_oc⟩
abbrev fz_X8 : List Value := .null :: .null :: .null :: .null :: .int 0 :: .int 0 :: .int 0 :: .int 0 :: .int 0 :: .int 0 :: []
theorem hf_X8 : ∀ j, j < 10 → defaultValue (tyX8 j) = vp_V fz_X8 j := by decide +kernel
theorem dz_X8_0 : decode ma_X8_init.2.2.1 0 = .ok (.aload_n 0, 1) := by decide +kernel
theorem dz_X8_1 : decode ma_X8_init.2.2.1 1 = .ok (.invokespecial 3, 3) := by decide +kernel
theorem dz_X8_4 : decode ma_X8_init.2.2.1 4 = .ok (.aload_n 0, 1) := by decide +kernel
theorem dz_X8_5 : decode ma_X8_init.2.2.1 5 = .ok (.bipush 36, 2) := by decide +kernel
theorem dz_X8_7 : decode ma_X8_init.2.2.1 7 = .ok (.newarray .int, 2) := by decide +kernel
theorem dz_X8_9 : decode ma_X8_init.2.2.1 9 = .ok (.putfield 9, 3) := by decide +kernel
theorem dz_X8_12 : decode ma_X8_init.2.2.1 12 = .ok (.aload_n 0, 1) := by decide +kernel
theorem dz_X8_13 : decode ma_X8_init.2.2.1 13 = .ok (.bipush 36, 2) := by decide +kernel
theorem dz_X8_15 : decode ma_X8_init.2.2.1 15 = .ok (.newarray .int, 2) := by decide +kernel
theorem dz_X8_17 : decode ma_X8_init.2.2.1 17 = .ok (.putfield 15, 3) := by decide +kernel
theorem dz_X8_20 : decode ma_X8_init.2.2.1 20 = .ok (.aload_n 0, 1) := by decide +kernel
theorem dz_X8_21 : decode ma_X8_init.2.2.1 21 = .ok (.bipush 6, 2) := by decide +kernel
theorem dz_X8_23 : decode ma_X8_init.2.2.1 23 = .ok (.newarray .int, 2) := by decide +kernel
theorem dz_X8_25 : decode ma_X8_init.2.2.1 25 = .ok (.putfield 18, 3) := by decide +kernel
theorem dz_X8_28 : decode ma_X8_init.2.2.1 28 = .ok (.aload_n 0, 1) := by decide +kernel
theorem dz_X8_29 : decode ma_X8_init.2.2.1 29 = .ok (.iconst 4, 1) := by decide +kernel
theorem dz_X8_30 : decode ma_X8_init.2.2.1 30 = .ok (.newarray .int, 2) := by decide +kernel
theorem dz_X8_32 : decode ma_X8_init.2.2.1 32 = .ok (.putfield 21, 3) := by decide +kernel
theorem dz_X8_35 : decode ma_X8_init.2.2.1 35 = .ok (.aload_n 0, 1) := by decide +kernel
theorem dz_X8_36 : decode ma_X8_init.2.2.1 36 = .ok (.iconst 0, 1) := by decide +kernel
theorem dz_X8_37 : decode ma_X8_init.2.2.1 37 = .ok (.putfield 24, 3) := by decide +kernel
theorem dz_X8_40 : decode ma_X8_init.2.2.1 40 = .ok (.aload_n 0, 1) := by decide +kernel
theorem dz_X8_41 : decode ma_X8_init.2.2.1 41 = .ok (.iconst 0, 1) := by decide +kernel
theorem dz_X8_42 : decode ma_X8_init.2.2.1 42 = .ok (.putfield 28, 3) := by decide +kernel
theorem dz_X8_45 : decode ma_X8_init.2.2.1 45 = .ok (.aload_n 0, 1) := by decide +kernel
theorem dz_X8_46 : decode ma_X8_init.2.2.1 46 = .ok (.iconst 0, 1) := by decide +kernel
theorem dz_X8_47 : decode ma_X8_init.2.2.1 47 = .ok (.putfield 31, 3) := by decide +kernel
theorem dz_X8_50 : decode ma_X8_init.2.2.1 50 = .ok (.aload_n 0, 1) := by decide +kernel
theorem dz_X8_51 : decode ma_X8_init.2.2.1 51 = .ok (.iconst 0, 1) := by decide +kernel
theorem dz_X8_52 : decode ma_X8_init.2.2.1 52 = .ok (.putfield 34, 3) := by decide +kernel
theorem dz_X8_55 : decode ma_X8_init.2.2.1 55 = .ok (.aload_n 0, 1) := by decide +kernel
theorem dz_X8_56 : decode ma_X8_init.2.2.1 56 = .ok (.iconst 0, 1) := by decide +kernel
theorem dz_X8_57 : decode ma_X8_init.2.2.1 57 = .ok (.putfield 37, 3) := by decide +kernel
theorem dz_X8_60 : decode ma_X8_init.2.2.1 60 = .ok (.aload_n 0, 1) := by decide +kernel
theorem dz_X8_61 : decode ma_X8_init.2.2.1 61 = .ok (.iconst 0, 1) := by decide +kernel
theorem dz_X8_62 : decode ma_X8_init.2.2.1 62 = .ok (.putfield 40, 3) := by decide +kernel
theorem dz_X8_65 : decode ma_X8_init.2.2.1 65 = .ok (.return_, 1) := by decide +kernel
def w_X8 (cy : Nat → ClassId) (h0 : Nat) (u : Nat → Nat) : va_W := [(h0, .inr (8, [.ref (u 0), .ref (u 1), .ref (u 2), .ref (u 3), .int 0, .int 0, .int 0, .int 0, .int 0, .int 0])), (u 0, .inl (cy 0, 36, .inl (fun _ => 0))), (u 1, .inl (cy 0, 36, .inl (fun _ => 0))), (u 2, .inl (cy 0, 6, .inl (fun _ => 0))), (u 3, .inl (cy 0, 4, .inl (fun _ => 0)))]
theorem cb_X8 {l : Launch} : cz_B l ma_X8_init 8 fz_X8 w_X8 4 82 1 (fun _ => True) := by
  intro p e R s m args below meth c Q A dC dI cy h0 ls hC hnm _ hR hl hI kk
  have hx := hC.1
  have hb := hC.2.1
  have a0 := lv_at hl 0 rfl
  refine lv_aload_n hx hb dz_X8_0 rfl a0 ?_
  refine cz_obj hC hl.1 wo_X8 ⟨by omega, by omega⟩ dz_X8_1 ?_
  refine lv_aload_n hx hb dz_X8_4 rfl a0 ?_
  refine lv_bipush (v := 36) hx hb dz_X8_5 (by decide) ?_
  refine cz_newi (N' := 36) hC hI dz_X8_7 aw_int (by decide) (by decide) (by decide) (by omega) (by omega) (fun q0 H hI => ?_)
  have hI : cz_I s A dC dI [(h0, .inr (8, [.null, .null, .null, .null, .int 0, .int 0, .int 0, .int 0, .int 0, .int 0])), (q0, .inl (cy 0, 36, .inl (fun _ => 0)))] H _ := hI
  refine cz_put (sl := 0) hC hI rfl kl_X8 hnm (by decide) (by decide) rfl rfl rfl (by show 0 < 10; decide) dz_X8_9 (fun H locs hI => ?_)
  have hI : cz_I s A dC dI [(h0, .inr (8, [.ref q0, .null, .null, .null, .int 0, .int 0, .int 0, .int 0, .int 0, .int 0])), (q0, .inl (cy 0, 36, .inl (fun _ => 0)))] H locs := hI
  refine lv_aload_n hx hb dz_X8_12 rfl a0 ?_
  refine lv_bipush (v := 36) hx hb dz_X8_13 (by decide) ?_
  refine cz_newi (N' := 36) hC hI dz_X8_15 aw_int (by decide) (by decide) (by decide) (by omega) (by omega) (fun q1 H hI => ?_)
  have hI : cz_I s A dC dI [(h0, .inr (8, [.ref q0, .null, .null, .null, .int 0, .int 0, .int 0, .int 0, .int 0, .int 0])), (q0, .inl (cy 0, 36, .inl (fun _ => 0))), (q1, .inl (cy 0, 36, .inl (fun _ => 0)))] H _ := hI
  refine cz_put (sl := 1) hC hI rfl kl_X8 hnm (by decide) (by decide) rfl rfl rfl (by show 1 < 10; decide) dz_X8_17 (fun H locs hI => ?_)
  have hI : cz_I s A dC dI [(h0, .inr (8, [.ref q0, .ref q1, .null, .null, .int 0, .int 0, .int 0, .int 0, .int 0, .int 0])), (q0, .inl (cy 0, 36, .inl (fun _ => 0))), (q1, .inl (cy 0, 36, .inl (fun _ => 0)))] H locs := hI
  refine lv_aload_n hx hb dz_X8_20 rfl a0 ?_
  refine lv_bipush (v := 6) hx hb dz_X8_21 (by decide) ?_
  refine cz_newi (N' := 6) hC hI dz_X8_23 aw_int (by decide) (by decide) (by decide) (by omega) (by omega) (fun q2 H hI => ?_)
  have hI : cz_I s A dC dI [(h0, .inr (8, [.ref q0, .ref q1, .null, .null, .int 0, .int 0, .int 0, .int 0, .int 0, .int 0])), (q0, .inl (cy 0, 36, .inl (fun _ => 0))), (q1, .inl (cy 0, 36, .inl (fun _ => 0))), (q2, .inl (cy 0, 6, .inl (fun _ => 0)))] H _ := hI
  refine cz_put (sl := 2) hC hI rfl kl_X8 hnm (by decide) (by decide) rfl rfl rfl (by show 2 < 10; decide) dz_X8_25 (fun H locs hI => ?_)
  have hI : cz_I s A dC dI [(h0, .inr (8, [.ref q0, .ref q1, .ref q2, .null, .int 0, .int 0, .int 0, .int 0, .int 0, .int 0])), (q0, .inl (cy 0, 36, .inl (fun _ => 0))), (q1, .inl (cy 0, 36, .inl (fun _ => 0))), (q2, .inl (cy 0, 6, .inl (fun _ => 0)))] H locs := hI
  refine lv_aload_n hx hb dz_X8_28 rfl a0 ?_
  refine lv_iconst (v := 4) hx hb dz_X8_29 (by decide) ?_
  refine cz_newi (N' := 4) hC hI dz_X8_30 aw_int (by decide) (by decide) (by decide) (by omega) (by omega) (fun q3 H hI => ?_)
  have hI : cz_I s A dC dI [(h0, .inr (8, [.ref q0, .ref q1, .ref q2, .null, .int 0, .int 0, .int 0, .int 0, .int 0, .int 0])), (q0, .inl (cy 0, 36, .inl (fun _ => 0))), (q1, .inl (cy 0, 36, .inl (fun _ => 0))), (q2, .inl (cy 0, 6, .inl (fun _ => 0))), (q3, .inl (cy 0, 4, .inl (fun _ => 0)))] H _ := hI
  refine cz_put (sl := 3) hC hI rfl kl_X8 hnm (by decide) (by decide) rfl rfl rfl (by show 3 < 10; decide) dz_X8_32 (fun H locs hI => ?_)
  have hI : cz_I s A dC dI [(h0, .inr (8, [.ref q0, .ref q1, .ref q2, .ref q3, .int 0, .int 0, .int 0, .int 0, .int 0, .int 0])), (q0, .inl (cy 0, 36, .inl (fun _ => 0))), (q1, .inl (cy 0, 36, .inl (fun _ => 0))), (q2, .inl (cy 0, 6, .inl (fun _ => 0))), (q3, .inl (cy 0, 4, .inl (fun _ => 0)))] H locs := hI
  refine lv_aload_n hx hb dz_X8_35 rfl a0 ?_
  refine lv_iconst (v := 0) hx hb dz_X8_36 (by decide) ?_
  refine cz_put (sl := 4) hC hI rfl kl_X8 hnm (by decide) (by decide) rfl rfl rfl (by show 4 < 10; decide) dz_X8_37 (fun H locs hI => ?_)
  have hI : cz_I s A dC dI [(h0, .inr (8, [.ref q0, .ref q1, .ref q2, .ref q3, .int 0, .int 0, .int 0, .int 0, .int 0, .int 0])), (q0, .inl (cy 0, 36, .inl (fun _ => 0))), (q1, .inl (cy 0, 36, .inl (fun _ => 0))), (q2, .inl (cy 0, 6, .inl (fun _ => 0))), (q3, .inl (cy 0, 4, .inl (fun _ => 0)))] H locs := hI
  refine lv_aload_n hx hb dz_X8_40 rfl a0 ?_
  refine lv_iconst (v := 0) hx hb dz_X8_41 (by decide) ?_
  refine cz_put (sl := 5) hC hI rfl kl_X8 hnm (by decide) (by decide) rfl rfl rfl (by show 5 < 10; decide) dz_X8_42 (fun H locs hI => ?_)
  have hI : cz_I s A dC dI [(h0, .inr (8, [.ref q0, .ref q1, .ref q2, .ref q3, .int 0, .int 0, .int 0, .int 0, .int 0, .int 0])), (q0, .inl (cy 0, 36, .inl (fun _ => 0))), (q1, .inl (cy 0, 36, .inl (fun _ => 0))), (q2, .inl (cy 0, 6, .inl (fun _ => 0))), (q3, .inl (cy 0, 4, .inl (fun _ => 0)))] H locs := hI
  refine lv_aload_n hx hb dz_X8_45 rfl a0 ?_
  refine lv_iconst (v := 0) hx hb dz_X8_46 (by decide) ?_
  refine cz_put (sl := 6) hC hI rfl kl_X8 hnm (by decide) (by decide) rfl rfl rfl (by show 6 < 10; decide) dz_X8_47 (fun H locs hI => ?_)
  have hI : cz_I s A dC dI [(h0, .inr (8, [.ref q0, .ref q1, .ref q2, .ref q3, .int 0, .int 0, .int 0, .int 0, .int 0, .int 0])), (q0, .inl (cy 0, 36, .inl (fun _ => 0))), (q1, .inl (cy 0, 36, .inl (fun _ => 0))), (q2, .inl (cy 0, 6, .inl (fun _ => 0))), (q3, .inl (cy 0, 4, .inl (fun _ => 0)))] H locs := hI
  refine lv_aload_n hx hb dz_X8_50 rfl a0 ?_
  refine lv_iconst (v := 0) hx hb dz_X8_51 (by decide) ?_
  refine cz_put (sl := 7) hC hI rfl kl_X8 hnm (by decide) (by decide) rfl rfl rfl (by show 7 < 10; decide) dz_X8_52 (fun H locs hI => ?_)
  have hI : cz_I s A dC dI [(h0, .inr (8, [.ref q0, .ref q1, .ref q2, .ref q3, .int 0, .int 0, .int 0, .int 0, .int 0, .int 0])), (q0, .inl (cy 0, 36, .inl (fun _ => 0))), (q1, .inl (cy 0, 36, .inl (fun _ => 0))), (q2, .inl (cy 0, 6, .inl (fun _ => 0))), (q3, .inl (cy 0, 4, .inl (fun _ => 0)))] H locs := hI
  refine lv_aload_n hx hb dz_X8_55 rfl a0 ?_
  refine lv_iconst (v := 0) hx hb dz_X8_56 (by decide) ?_
  refine cz_put (sl := 8) hC hI rfl kl_X8 hnm (by decide) (by decide) rfl rfl rfl (by show 8 < 10; decide) dz_X8_57 (fun H locs hI => ?_)
  have hI : cz_I s A dC dI [(h0, .inr (8, [.ref q0, .ref q1, .ref q2, .ref q3, .int 0, .int 0, .int 0, .int 0, .int 0, .int 0])), (q0, .inl (cy 0, 36, .inl (fun _ => 0))), (q1, .inl (cy 0, 36, .inl (fun _ => 0))), (q2, .inl (cy 0, 6, .inl (fun _ => 0))), (q3, .inl (cy 0, 4, .inl (fun _ => 0)))] H locs := hI
  refine lv_aload_n hx hb dz_X8_60 rfl a0 ?_
  refine lv_iconst (v := 0) hx hb dz_X8_61 (by decide) ?_
  refine cz_put (sl := 9) hC hI rfl kl_X8 hnm (by decide) (by decide) rfl rfl rfl (by show 9 < 10; decide) dz_X8_62 (fun H locs hI => ?_)
  have hI : cz_I s A dC dI [(h0, .inr (8, [.ref q0, .ref q1, .ref q2, .ref q3, .int 0, .int 0, .int 0, .int 0, .int 0, .int 0])), (q0, .inl (cy 0, 36, .inl (fun _ => 0))), (q1, .inl (cy 0, 36, .inl (fun _ => 0))), (q2, .inl (cy 0, 6, .inl (fun _ => 0))), (q3, .inl (cy 0, 4, .inl (fun _ => 0)))] H locs := hI
  exact kk (fun j => [q0, q1, q2, q3].getD j 0) _ _ _ 65 dz_X8_65 hI
theorem cm_X8 {l : Launch} : cz_Met l ma_X8_init 8 fz_X8 w_X8 4 82 1 (fun _ => True) := cz_met ok_X8_init rfl (by decide) rfl cb_X8
def ma_X9_init : AM := (ka_X9, yX9_init, cX9_init, 1, none, 0, false)
set_option maxRecDepth 20000 in
theorem ok_X9_init : ax_ok ma_X9_init := ⟨List.mem_of_getElem? (i := 9) rfl, rfl, fun h => absurd h (by decide), ax_memi (ws := [Cond.code yX9_init cX9_init 1 none]) [263] rfl (by decide +kernel) _ List.mem_cons_self, ai_X9, by decide⟩
theorem kl_X9 : ax_cls 9 (RX9, TX9, 10) tyX9 := ⟨al_X9, rfl, tyX9_ok, nmX9, ay_X9⟩
set_option maxRecDepth 20000 in
theorem wo_X9 : Cond.methodLink ma_X9_init.1.2.1 5 objectInit ∈ ax_tb ∧ Cond.instanceMethod objectInit ∈ ax_tb ∧ Cond.code objectInit ⟨#[0xb1]⟩ 1 none ∈ ax_tb := ⟨ax_memi (ws := [Cond.methodLink RX9 5 objectInit]) [264] rfl (by decide +kernel) _ List.mem_cons_self, aw_oi, aw_oc⟩
abbrev fz_X9 : List Value := .int 0 :: .int 0 :: .int 0 :: .int 0 :: .int 0 :: .int 0 :: .int 0 :: .int 0 :: .null :: .null :: []
theorem hf_X9 : ∀ j, j < 10 → defaultValue (tyX9 j) = vp_V fz_X9 j := by decide +kernel
theorem dz_X9_0 : decode ma_X9_init.2.2.1 0 = .ok (.aload_n 0, 1) := by decide +kernel
theorem dz_X9_1 : decode ma_X9_init.2.2.1 1 = .ok (.invokespecial 5, 3) := by decide +kernel
theorem dz_X9_4 : decode ma_X9_init.2.2.1 4 = .ok (.aload_n 0, 1) := by decide +kernel
theorem dz_X9_5 : decode ma_X9_init.2.2.1 5 = .ok (.iconst 0, 1) := by decide +kernel
theorem dz_X9_6 : decode ma_X9_init.2.2.1 6 = .ok (.putfield 11, 3) := by decide +kernel
theorem dz_X9_9 : decode ma_X9_init.2.2.1 9 = .ok (.aload_n 0, 1) := by decide +kernel
theorem dz_X9_10 : decode ma_X9_init.2.2.1 10 = .ok (.iconst 0, 1) := by decide +kernel
theorem dz_X9_11 : decode ma_X9_init.2.2.1 11 = .ok (.putfield 15, 3) := by decide +kernel
theorem dz_X9_14 : decode ma_X9_init.2.2.1 14 = .ok (.aload_n 0, 1) := by decide +kernel
theorem dz_X9_15 : decode ma_X9_init.2.2.1 15 = .ok (.iconst 0, 1) := by decide +kernel
theorem dz_X9_16 : decode ma_X9_init.2.2.1 16 = .ok (.putfield 18, 3) := by decide +kernel
theorem dz_X9_19 : decode ma_X9_init.2.2.1 19 = .ok (.aload_n 0, 1) := by decide +kernel
theorem dz_X9_20 : decode ma_X9_init.2.2.1 20 = .ok (.iconst 0, 1) := by decide +kernel
theorem dz_X9_21 : decode ma_X9_init.2.2.1 21 = .ok (.putfield 21, 3) := by decide +kernel
theorem dz_X9_24 : decode ma_X9_init.2.2.1 24 = .ok (.aload_n 0, 1) := by decide +kernel
theorem dz_X9_25 : decode ma_X9_init.2.2.1 25 = .ok (.iconst 0, 1) := by decide +kernel
theorem dz_X9_26 : decode ma_X9_init.2.2.1 26 = .ok (.putfield 24, 3) := by decide +kernel
theorem dz_X9_29 : decode ma_X9_init.2.2.1 29 = .ok (.aload_n 0, 1) := by decide +kernel
theorem dz_X9_30 : decode ma_X9_init.2.2.1 30 = .ok (.iconst 0, 1) := by decide +kernel
theorem dz_X9_31 : decode ma_X9_init.2.2.1 31 = .ok (.putfield 27, 3) := by decide +kernel
theorem dz_X9_34 : decode ma_X9_init.2.2.1 34 = .ok (.aload_n 0, 1) := by decide +kernel
theorem dz_X9_35 : decode ma_X9_init.2.2.1 35 = .ok (.iconst 0, 1) := by decide +kernel
theorem dz_X9_36 : decode ma_X9_init.2.2.1 36 = .ok (.putfield 30, 3) := by decide +kernel
theorem dz_X9_39 : decode ma_X9_init.2.2.1 39 = .ok (.aload_n 0, 1) := by decide +kernel
theorem dz_X9_40 : decode ma_X9_init.2.2.1 40 = .ok (.iconst 0, 1) := by decide +kernel
theorem dz_X9_41 : decode ma_X9_init.2.2.1 41 = .ok (.putfield 33, 3) := by decide +kernel
theorem dz_X9_44 : decode ma_X9_init.2.2.1 44 = .ok (.aload_n 0, 1) := by decide +kernel
theorem dz_X9_45 : decode ma_X9_init.2.2.1 45 = .ok (.iconst 4, 1) := by decide +kernel
theorem dz_X9_46 : decode ma_X9_init.2.2.1 46 = .ok (.newarray .int, 2) := by decide +kernel
theorem dz_X9_48 : decode ma_X9_init.2.2.1 48 = .ok (.putfield 36, 3) := by decide +kernel
theorem dz_X9_51 : decode ma_X9_init.2.2.1 51 = .ok (.aload_n 0, 1) := by decide +kernel
theorem dz_X9_52 : decode ma_X9_init.2.2.1 52 = .ok (.bipush 6, 2) := by decide +kernel
theorem dz_X9_54 : decode ma_X9_init.2.2.1 54 = .ok (.newarray .int, 2) := by decide +kernel
theorem dz_X9_56 : decode ma_X9_init.2.2.1 56 = .ok (.putfield 40, 3) := by decide +kernel
theorem dz_X9_59 : decode ma_X9_init.2.2.1 59 = .ok (.return_, 1) := by decide +kernel
def w_X9 (cy : Nat → ClassId) (h0 : Nat) (u : Nat → Nat) : va_W := [(h0, .inr (9, [.int 0, .int 0, .int 0, .int 0, .int 0, .int 0, .int 0, .int 0, .ref (u 0), .ref (u 1)])), (u 0, .inl (cy 0, 4, .inl (fun _ => 0))), (u 1, .inl (cy 0, 6, .inl (fun _ => 0)))]
theorem cb_X9 {l : Launch} : cz_B l ma_X9_init 9 fz_X9 w_X9 2 10 1 (fun _ => True) := by
  intro p e R s m args below meth c Q A dC dI cy h0 ls hC hnm _ hR hl hI kk
  have hx := hC.1
  have hb := hC.2.1
  have a0 := lv_at hl 0 rfl
  refine lv_aload_n hx hb dz_X9_0 rfl a0 ?_
  refine cz_obj hC hl.1 wo_X9 ⟨by omega, by omega⟩ dz_X9_1 ?_
  refine lv_aload_n hx hb dz_X9_4 rfl a0 ?_
  refine lv_iconst (v := 0) hx hb dz_X9_5 (by decide) ?_
  refine cz_put (sl := 0) hC hI rfl kl_X9 hnm (by decide) (by decide) rfl rfl rfl (by show 0 < 10; decide) dz_X9_6 (fun H locs hI => ?_)
  have hI : cz_I s A dC dI [(h0, .inr (9, [.int 0, .int 0, .int 0, .int 0, .int 0, .int 0, .int 0, .int 0, .null, .null]))] H locs := hI
  refine lv_aload_n hx hb dz_X9_9 rfl a0 ?_
  refine lv_iconst (v := 0) hx hb dz_X9_10 (by decide) ?_
  refine cz_put (sl := 1) hC hI rfl kl_X9 hnm (by decide) (by decide) rfl rfl rfl (by show 1 < 10; decide) dz_X9_11 (fun H locs hI => ?_)
  have hI : cz_I s A dC dI [(h0, .inr (9, [.int 0, .int 0, .int 0, .int 0, .int 0, .int 0, .int 0, .int 0, .null, .null]))] H locs := hI
  refine lv_aload_n hx hb dz_X9_14 rfl a0 ?_
  refine lv_iconst (v := 0) hx hb dz_X9_15 (by decide) ?_
  refine cz_put (sl := 2) hC hI rfl kl_X9 hnm (by decide) (by decide) rfl rfl rfl (by show 2 < 10; decide) dz_X9_16 (fun H locs hI => ?_)
  have hI : cz_I s A dC dI [(h0, .inr (9, [.int 0, .int 0, .int 0, .int 0, .int 0, .int 0, .int 0, .int 0, .null, .null]))] H locs := hI
  refine lv_aload_n hx hb dz_X9_19 rfl a0 ?_
  refine lv_iconst (v := 0) hx hb dz_X9_20 (by decide) ?_
  refine cz_put (sl := 3) hC hI rfl kl_X9 hnm (by decide) (by decide) rfl rfl rfl (by show 3 < 10; decide) dz_X9_21 (fun H locs hI => ?_)
  have hI : cz_I s A dC dI [(h0, .inr (9, [.int 0, .int 0, .int 0, .int 0, .int 0, .int 0, .int 0, .int 0, .null, .null]))] H locs := hI
  refine lv_aload_n hx hb dz_X9_24 rfl a0 ?_
  refine lv_iconst (v := 0) hx hb dz_X9_25 (by decide) ?_
  refine cz_put (sl := 4) hC hI rfl kl_X9 hnm (by decide) (by decide) rfl rfl rfl (by show 4 < 10; decide) dz_X9_26 (fun H locs hI => ?_)
  have hI : cz_I s A dC dI [(h0, .inr (9, [.int 0, .int 0, .int 0, .int 0, .int 0, .int 0, .int 0, .int 0, .null, .null]))] H locs := hI
  refine lv_aload_n hx hb dz_X9_29 rfl a0 ?_
  refine lv_iconst (v := 0) hx hb dz_X9_30 (by decide) ?_
  refine cz_put (sl := 5) hC hI rfl kl_X9 hnm (by decide) (by decide) rfl rfl rfl (by show 5 < 10; decide) dz_X9_31 (fun H locs hI => ?_)
  have hI : cz_I s A dC dI [(h0, .inr (9, [.int 0, .int 0, .int 0, .int 0, .int 0, .int 0, .int 0, .int 0, .null, .null]))] H locs := hI
  refine lv_aload_n hx hb dz_X9_34 rfl a0 ?_
  refine lv_iconst (v := 0) hx hb dz_X9_35 (by decide) ?_
  refine cz_put (sl := 6) hC hI rfl kl_X9 hnm (by decide) (by decide) rfl rfl rfl (by show 6 < 10; decide) dz_X9_36 (fun H locs hI => ?_)
  have hI : cz_I s A dC dI [(h0, .inr (9, [.int 0, .int 0, .int 0, .int 0, .int 0, .int 0, .int 0, .int 0, .null, .null]))] H locs := hI
  refine lv_aload_n hx hb dz_X9_39 rfl a0 ?_
  refine lv_iconst (v := 0) hx hb dz_X9_40 (by decide) ?_
  refine cz_put (sl := 7) hC hI rfl kl_X9 hnm (by decide) (by decide) rfl rfl rfl (by show 7 < 10; decide) dz_X9_41 (fun H locs hI => ?_)
  have hI : cz_I s A dC dI [(h0, .inr (9, [.int 0, .int 0, .int 0, .int 0, .int 0, .int 0, .int 0, .int 0, .null, .null]))] H locs := hI
  refine lv_aload_n hx hb dz_X9_44 rfl a0 ?_
  refine lv_iconst (v := 4) hx hb dz_X9_45 (by decide) ?_
  refine cz_newi (N' := 4) hC hI dz_X9_46 aw_int (by decide) (by decide) (by decide) (by omega) (by omega) (fun q0 H hI => ?_)
  have hI : cz_I s A dC dI [(h0, .inr (9, [.int 0, .int 0, .int 0, .int 0, .int 0, .int 0, .int 0, .int 0, .null, .null])), (q0, .inl (cy 0, 4, .inl (fun _ => 0)))] H _ := hI
  refine cz_put (sl := 8) hC hI rfl kl_X9 hnm (by decide) (by decide) rfl rfl rfl (by show 8 < 10; decide) dz_X9_48 (fun H locs hI => ?_)
  have hI : cz_I s A dC dI [(h0, .inr (9, [.int 0, .int 0, .int 0, .int 0, .int 0, .int 0, .int 0, .int 0, .ref q0, .null])), (q0, .inl (cy 0, 4, .inl (fun _ => 0)))] H locs := hI
  refine lv_aload_n hx hb dz_X9_51 rfl a0 ?_
  refine lv_bipush (v := 6) hx hb dz_X9_52 (by decide) ?_
  refine cz_newi (N' := 6) hC hI dz_X9_54 aw_int (by decide) (by decide) (by decide) (by omega) (by omega) (fun q1 H hI => ?_)
  have hI : cz_I s A dC dI [(h0, .inr (9, [.int 0, .int 0, .int 0, .int 0, .int 0, .int 0, .int 0, .int 0, .ref q0, .null])), (q0, .inl (cy 0, 4, .inl (fun _ => 0))), (q1, .inl (cy 0, 6, .inl (fun _ => 0)))] H _ := hI
  refine cz_put (sl := 9) hC hI rfl kl_X9 hnm (by decide) (by decide) rfl rfl rfl (by show 9 < 10; decide) dz_X9_56 (fun H locs hI => ?_)
  have hI : cz_I s A dC dI [(h0, .inr (9, [.int 0, .int 0, .int 0, .int 0, .int 0, .int 0, .int 0, .int 0, .ref q0, .ref q1])), (q0, .inl (cy 0, 4, .inl (fun _ => 0))), (q1, .inl (cy 0, 6, .inl (fun _ => 0)))] H locs := hI
  exact kk (fun j => [q0, q1].getD j 0) _ _ _ 59 dz_X9_59 hI
theorem cm_X9 {l : Launch} : cz_Met l ma_X9_init 9 fz_X9 w_X9 2 10 1 (fun _ => True) := cz_met ok_X9_init rfl (by decide) rfl cb_X9
def ma_X10_init : AM := (ka_X10, yX10_init, cX10_init, 1, none, 0, false)
set_option maxRecDepth 20000 in
theorem ok_X10_init : ax_ok ma_X10_init := ⟨List.mem_of_getElem? (i := 10) rfl, rfl, fun h => absurd h (by decide), ax_memi (ws := [Cond.code yX10_init cX10_init 1 none]) [140] rfl (by decide +kernel) _ List.mem_cons_self, ai_X10, by decide⟩
theorem kl_X10 : ax_cls 10 (RX10, TX10, 4) tyX10 := ⟨al_X10, rfl, tyX10_ok, nmX10, ay_X10⟩
set_option maxRecDepth 20000 in
theorem wo_X10 : Cond.methodLink ma_X10_init.1.2.1 3 objectInit ∈ ax_tb ∧ Cond.instanceMethod objectInit ∈ ax_tb ∧ Cond.code objectInit ⟨#[0xb1]⟩ 1 none ∈ ax_tb := ⟨ax_memi (ws := [Cond.methodLink RX10 3 objectInit]) [141] rfl (by decide +kernel) _ List.mem_cons_self, aw_oi, aw_oc⟩
abbrev fz_X10 : List Value := .null :: .int 0 :: .int 0 :: .int 0 :: []
theorem hf_X10 : ∀ j, j < 4 → defaultValue (tyX10 j) = vp_V fz_X10 j := by decide +kernel
theorem dz_X10_0 : decode ma_X10_init.2.2.1 0 = .ok (.aload_n 0, 1) := by decide +kernel
theorem dz_X10_1 : decode ma_X10_init.2.2.1 1 = .ok (.invokespecial 3, 3) := by decide +kernel
theorem dz_X10_4 : decode ma_X10_init.2.2.1 4 = .ok (.aload_n 0, 1) := by decide +kernel
theorem dz_X10_5 : decode ma_X10_init.2.2.1 5 = .ok (.sipush 240, 3) := by decide +kernel
theorem dz_X10_8 : decode ma_X10_init.2.2.1 8 = .ok (.newarray .int, 2) := by decide +kernel
theorem dz_X10_10 : decode ma_X10_init.2.2.1 10 = .ok (.putfield 11, 3) := by decide +kernel
theorem dz_X10_13 : decode ma_X10_init.2.2.1 13 = .ok (.aload_n 0, 1) := by decide +kernel
theorem dz_X10_14 : decode ma_X10_init.2.2.1 14 = .ok (.iconst 0, 1) := by decide +kernel
theorem dz_X10_15 : decode ma_X10_init.2.2.1 15 = .ok (.putfield 15, 3) := by decide +kernel
theorem dz_X10_18 : decode ma_X10_init.2.2.1 18 = .ok (.aload_n 0, 1) := by decide +kernel
theorem dz_X10_19 : decode ma_X10_init.2.2.1 19 = .ok (.iconst 0, 1) := by decide +kernel
theorem dz_X10_20 : decode ma_X10_init.2.2.1 20 = .ok (.putfield 19, 3) := by decide +kernel
theorem dz_X10_23 : decode ma_X10_init.2.2.1 23 = .ok (.aload_n 0, 1) := by decide +kernel
theorem dz_X10_24 : decode ma_X10_init.2.2.1 24 = .ok (.iconst (-1), 1) := by decide +kernel
theorem dz_X10_25 : decode ma_X10_init.2.2.1 25 = .ok (.putfield 22, 3) := by decide +kernel
theorem dz_X10_28 : decode ma_X10_init.2.2.1 28 = .ok (.return_, 1) := by decide +kernel
def w_X10 (cy : Nat → ClassId) (h0 : Nat) (u : Nat → Nat) : va_W := [(h0, .inr (10, [.ref (u 0), .int 0, .int 0, .int (-1)])), (u 0, .inl (cy 0, 240, .inl (fun _ => 0)))]
theorem cb_X10 {l : Launch} : cz_B l ma_X10_init 10 fz_X10 w_X10 1 240 1 (fun _ => True) := by
  intro p e R s m args below meth c Q A dC dI cy h0 ls hC hnm _ hR hl hI kk
  have hx := hC.1
  have hb := hC.2.1
  have a0 := lv_at hl 0 rfl
  refine lv_aload_n hx hb dz_X10_0 rfl a0 ?_
  refine cz_obj hC hl.1 wo_X10 ⟨by omega, by omega⟩ dz_X10_1 ?_
  refine lv_aload_n hx hb dz_X10_4 rfl a0 ?_
  refine lv_sipush (v := 240) hx hb dz_X10_5 (by decide) ?_
  refine cz_newi (N' := 240) hC hI dz_X10_8 aw_int (by decide) (by decide) (by decide) (by omega) (by omega) (fun q0 H hI => ?_)
  have hI : cz_I s A dC dI [(h0, .inr (10, [.null, .int 0, .int 0, .int 0])), (q0, .inl (cy 0, 240, .inl (fun _ => 0)))] H _ := hI
  refine cz_put (sl := 0) hC hI rfl kl_X10 hnm (by decide) (by decide) rfl rfl rfl (by show 0 < 4; decide) dz_X10_10 (fun H locs hI => ?_)
  have hI : cz_I s A dC dI [(h0, .inr (10, [.ref q0, .int 0, .int 0, .int 0])), (q0, .inl (cy 0, 240, .inl (fun _ => 0)))] H locs := hI
  refine lv_aload_n hx hb dz_X10_13 rfl a0 ?_
  refine lv_iconst (v := 0) hx hb dz_X10_14 (by decide) ?_
  refine cz_put (sl := 1) hC hI rfl kl_X10 hnm (by decide) (by decide) rfl rfl rfl (by show 1 < 4; decide) dz_X10_15 (fun H locs hI => ?_)
  have hI : cz_I s A dC dI [(h0, .inr (10, [.ref q0, .int 0, .int 0, .int 0])), (q0, .inl (cy 0, 240, .inl (fun _ => 0)))] H locs := hI
  refine lv_aload_n hx hb dz_X10_18 rfl a0 ?_
  refine lv_iconst (v := 0) hx hb dz_X10_19 (by decide) ?_
  refine cz_put (sl := 2) hC hI rfl kl_X10 hnm (by decide) (by decide) rfl rfl rfl (by show 2 < 4; decide) dz_X10_20 (fun H locs hI => ?_)
  have hI : cz_I s A dC dI [(h0, .inr (10, [.ref q0, .int 0, .int 0, .int 0])), (q0, .inl (cy 0, 240, .inl (fun _ => 0)))] H locs := hI
  refine lv_aload_n hx hb dz_X10_23 rfl a0 ?_
  refine lv_iconst (v := (-1)) hx hb dz_X10_24 (by decide) ?_
  refine cz_put (sl := 3) hC hI rfl kl_X10 hnm (by decide) (by decide) rfl rfl rfl (by show 3 < 4; decide) dz_X10_25 (fun H locs hI => ?_)
  have hI : cz_I s A dC dI [(h0, .inr (10, [.ref q0, .int 0, .int 0, .int (-1)])), (q0, .inl (cy 0, 240, .inl (fun _ => 0)))] H locs := hI
  exact kk (fun j => [q0].getD j 0) _ _ _ 28 dz_X10_28 hI
theorem cm_X10 {l : Launch} : cz_Met l ma_X10_init 10 fz_X10 w_X10 1 240 1 (fun _ => True) := cz_met ok_X10_init rfl (by decide) rfl cb_X10

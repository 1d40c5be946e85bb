/-! CASE 6: NamedCallersLaw.caller, which catches -/
abbrev cw_L : Cond := Cond.codeWith yL_caller cL_caller 5 (some .int) [(0, 10, 13, 13)]
theorem cw_in : cw_L ∈ ax_tb := List.mem_filter.mpr ⟨by decide +kernel, by decide +kernel⟩
theorem cw_lk : Cond.classLink RL 13 xE ∈ ax_tb := List.mem_filter.mpr ⟨by decide +kernel, by decide +kernel⟩
theorem cw_ini : Cond.initialized RL ∈ ax_tb := List.mem_filter.mpr ⟨by decide +kernel, by decide +kernel⟩
theorem cw_ml : Cond.methodLink RL 46 yL_caller ∈ ax_tb := List.mem_filter.mpr ⟨by decide +kernel, by decide +kernel⟩
theorem cw_st : Cond.static yL_caller ∈ ax_tb := List.mem_filter.mpr ⟨by decide +kernel, by decide +kernel⟩
def ma_L_caller : AM := (ka_L, yL_caller, cL_caller, 5, some .int, 4, true)
theorem x_ofW {l : Launch} {y : MethodName} {ws ws' : List Cond} {rm : Room} {Pc : Array Value → State → Prop} {Qc : Array Value → State → Outcome → State → Prop} {mc ms : Nat} {free : Addr → Prop} {cc : ByteArray} {maxL : Nat} {ret : Option FieldType} {hh : List (Nat × Nat × Nat × Nat)}
    (hy : plainFor y = true) (hw : ws = Cond.codeWith y cc maxL ret hh :: ws')
    (body : ∀ p e s m args below meth c s₁, BodyLoose p l y (headSpec ws rm) cc maxL ret e s m args below meth c s₁ → c.maxLocals = maxL → Pc args s → W p l e (headSpec ws rm).room s m args below meth c s.heap [] 0 0 (MQ below Qc args s mc ms free) (entryFrame m args maxL)) : Met l y ws rm Pc Qc mc ms free := by
  refine MetFree.of_bodySF (code := cc) (maxLocals := maxL) (ret := ret) hy ?_ ?_
  · intro args s m h hn
    obtain ⟨m9, meth, c, hn9, h1, h2, h3, h4, -, h5, h6, -⟩ := Cond.codeWith_spec (atoms_spec (ws := ws) h _ (by rw [hw]; exact List.mem_cons_self))
    cases hn.symm.trans hn9
    exact ⟨meth, c, h1, h2, h3, h4, h5, h6⟩
  · intro p e s m args below meth c s₁ B hml hP _
    have hh0 : s₁.heap = s.heap := by rw [B.state]; rfl
    obtain ⟨t, a1, o, b1, b2, b3⟩ := body p e s m args below meth c s₁ B hml hP s₁ hh0 (Stand.of_body B)
    exact ⟨t, o, a1, b1, b2, ⟨b3.1, b3.2⟩⟩
abbrev LC (a b : Int32) : AL := [some (.inr (11, 0)), some (.inl (.int a)), some (.inl (.int b)), some (.inr (63, 0)), none]
theorem lc_R0 {l : Launch} {a b : Int32} {S : AS} : ax_R l 7 ma_L_caller (0, LC a b, [], S) (5, LC a b, [.inl (.int b), .inl (.int a), .inr (11, 0), .inl (.int 0), .inr (63, 0)], S) := ax_go [.aload_n 3, .iconst 0, .aload_n 0, .iload_n 1, .iload_n 2] (pc' := 5) (L' := LC a b) (st' := [.inl (.int b), .inl (.int a), .inr (11, 0), .inl (.int 0), .inr (63, 0)]) (S' := S) (List.mem_of_getElem? (i := 13) rfl) (by decide +kernel) rfl rfl ax_R.rf
theorem ax_Rasl {l : Launch} {d : Nat} {k : AM} {pc : Nat} {L : AL} {st : List AV} {S : AS} {ka i n : Nat} {j : Int32} {x : Int64} (hok : k.1 ∈ ax_KL) (hd : decode k.2.2.1 pc = .ok (.lastore, 1)) (h1 : (ax_kd ka).1 = 1 ∧ (ax_kd ka).2.1 = 3) (hn : ax_ln S ka i = n) (g : ax_in j n = true) : ax_R l d k (pc, L, .inl (.long x) :: .inl (.int j) :: .inr (ka, i) :: st, S) (pc + 1, L, st, ax_sal S ka i j.toNatClampNeg x) := by
  subst hn
  exact ax_step (i := .lastore) hok hd (if_pos ⟨h1.1, h1.2, g⟩)
theorem ax_Rall {l : Launch} {d : Nat} {k : AM} {pc : Nat} {L : AL} {st : List AV} {S : AS} {ka i n : Nat} {j : Int32} (hok : k.1 ∈ ax_KL) (hd : decode k.2.2.1 pc = .ok (.laload, 1)) (h1 : (ax_kd ka).1 = 1 ∧ (ax_kd ka).2.1 = 3) (hn : ax_ln S ka i = n) (g : ax_in j n = true) : ax_R l d k (pc, L, .inl (.int j) :: .inr (ka, i) :: st, S) (pc + 1, L, .inl (.long (ax_al S ka i j.toNatClampNeg)) :: st, S) := by
  subst hn
  exact ax_step (i := .laload) hok hd (if_pos ⟨h1.1, h1.2, g⟩)
theorem lcst {l : Launch} {a b : Int32} {x : Int64} {S : AS} : ax_R l 7 ma_L_caller (9, LC a b, [.inl (.long x), .inl (.int 0), .inr (63, 0)], S) (10, LC a b, [], ax_sal S 63 0 (0 : Int32).toNatClampNeg x) := ax_Rasl (n := 1) (List.mem_of_getElem? (i := 13) rfl) (by decide +kernel) (by decide) rfl (by decide)
theorem lc_R1 {l : Launch} {a b r : Int32} {S : AS} (h : f_X11_caller a b S = some r) : ax_R l 7 ma_L_caller (0, LC a b, [], S) (18, LC a b, [.inl (.int 0)], ax_sal S 63 0 (0 : Int32).toNatClampNeg r.toInt64) := by
  refine lc_R0.tr ?_
  refine ax_cVi (d := 6) (ka := 11) (i := 0) [.inl (.int a), .inl (.int b)] [.inl (.int 0), .inr (63, 0)] lk_L_7 (by decide +kernel) rfl (by decide) rfl (Nat.le_of_ble_eq_true rfl) (Nat.le_of_ble_eq_true rfl) ((t_X11_caller h).up (by decide)) ?_
  refine ax_go [.i2l] (pc' := 9) (L' := LC a b) (st' := [.inl (.long r.toInt64), .inl (.int 0), .inr (63, 0)]) (S' := S) (List.mem_of_getElem? (i := 13) rfl) (by decide +kernel) rfl rfl ?_
  refine (lcst (x := r.toInt64)).tr ?_
  refine ax_goto (off := 7) (tgt := 17) (by decide +kernel) (by decide) ?_
  exact ax_go [.iconst 0] (pc' := 18) (L' := LC a b) (st' := [.inl (.int 0)]) (S' := ax_sal S 63 0 (0 : Int32).toNatClampNeg r.toInt64) (List.mem_of_getElem? (i := 13) rfl) (by decide +kernel) rfl rfl ax_R.rf
def y_rm : Room := { frames := 7, cells := 1, slots := 6, locals := 700 }
/-- what comes of it -/
def xO (a b : Int32) (S : AS) (v : Int32) (S1 : AS) : Prop := (∃ r, f_X11_caller a b S = some r ∧ v = 0 ∧ S1 = ax_sal S 63 0 (0 : Int32).toNatClampNeg r.toInt64) ∨ (xR a b S ∧ v = 1 ∧ S1 = S)
theorem lc_met {l : Launch} {a b v : Int32} {S S1 : AS} {ad : Nat → Nat → Nat} {ov : Value} {dC : Nat → ClassId} {dI : Nat → Nat → Nat} {cy : Nat → ClassId} {Ln : Nat} {xs : Nat → Int32} {sz : Nat} (hl : l.stackTraces = false) (hov : ov = .null ∨ ∃ t, ov = .ref t) (hvS : ax_vS S) (hsc : ax_Sc Ln xs S) (h : xO a b S v S1) : Met l yL_caller (cw_L :: ax_tb) y_rm (x_Pc ad ov dC dI cy Ln xs [.inr (11, 0), .inl (.int a), .inl (.int b), .inr (63, 0)] S sz) (va_Qi (fun r u => r = v ∧ u = S1) (ax_B ad ov dC dI cy Ln xs (va_A (ax_gw ad ov cy S) sz)) (va_A (ax_gw ad ov cy S) sz)) 1 6 (va_A (ax_gw ad ov cy S) sz) := by
  have hva : ax_vs [.inr (11, 0), .inl (.int a), .inl (.int b), .inr (63, 0)] := ax_vs_c (ax_vv_r (by decide)) (ax_vs_c (ax_vv_i _) (ax_vs_c (ax_vv_i _) (ax_vs_c (ax_vv_r (by decide)) ax_vs_nil)))
  refine x_ofW (cc := cL_caller) (maxL := 5) (ret := some .int) (by decide +kernel) rfl ?_
  intro p e s m args below meth c s₁ B hml hv
  obtain ⟨⟨rfl, hsz, hP, hK, hD0, hCt⟩, hz⟩ := hv
  have hts := atoms_spec (ws := cw_L :: ax_tb) B.pre
  have hown : s.vm.findClass RL = some m.cls := findClass_of_methodNamed B.named
  have htb : ∀ w ∈ ax_tb, w.before (([.inr (11, 0), .inl (.int a), .inl (.int b), .inr (63, 0)] : List AV).map (ax_cv ad ov)).toArray s = true := fun w h => hts w (List.mem_cons_of_mem _ h)
  have hsplit := vx_table (x := yL_caller) B (hts _ List.mem_cons_self)
  subst hsz
  have hle := lv_entry (([.inr (11, 0), .inl (.int a), .inl (.int b), .inr (63, 0)] : List AV).map (ax_cv ad ov)) (n := 5) (by rw [ax_l0_len hov _ hva]; exact Nat.le_of_ble_eq_true rfl)
  rw [lg_entry_eq]
  have hcx : ax_Cx p l (headSpec (cw_L :: ax_tb) y_rm).room s m (([.inr (11, 0), .inl (.int a), .inl (.int b), .inr (63, 0)] : List AV).map (ax_cv ad ov)).toArray meth c (va_A (ax_gw ad ov cy S) s.heap.size) ad ov dC dI cy Ln xs ma_L_caller 7 := ⟨B.exec, B.bytes, hml, hown, htb, ⟨List.mem_of_getElem? (i := 13) rfl, trivial⟩, ⟨Nat.le_refl 7, Nat.le_refl 700⟩, fun q h => Or.inr h, hK, hCt, hov⟩
  rcases h with ⟨r, h, rfl, rfl⟩ | ⟨h, rfl, rfl⟩
  · refine W.widen (k := 1) (n := 6) (Nat.zero_le _) (Nat.zero_le _) ?_
    refine lc_R1 h p e _ s m _ below meth c 1 6 _ (va_A (ax_gw ad ov cy S) s.heap.size) ad ov dC dI cy Ln xs hcx (Nat.le_refl _) (Nat.le_refl _) (fun H locs ls hi => ?_) s.heap [] _ ⟨⟨ax_vL_lo (n := 5) hva, ax_vs_nil, hvS⟩, ⟨hP, hD0.self, va_S.rf⟩, ⟨ax_lo_has (n := 5) hov hva hle, Nat.le_of_ble_eq_true rfl⟩, hsc⟩
    obtain ⟨⟨v1, v2, v3⟩, ⟨w1, w2, w3⟩, l1, sc⟩ := hi
    exact W.zret B.exec B.bytes B.returns rfl (fun t ht hW => ⟨⟨0, _, rfl, ⟨rfl, rfl⟩, by rw [ht]; exact w1, w2, v3, sc⟩, w3.F ht⟩) w3.2.2 (show decode cL_caller 18 = .ok (.ireturn, 1) by decide +kernel) B.notSynchronized
  · refine lc_R0 p e _ s m _ below meth c 0 0 _ (va_A (ax_gw ad ov cy S1) s.heap.size) ad ov dC dI cy Ln xs hcx (Nat.zero_le _) (Nat.zero_le _) (fun H locs ls hi => ?_) s.heap [] _ ⟨⟨ax_vL_lo (n := 5) hva, ax_vs_nil, hvS⟩, ⟨hP, hD0.self, va_S.rf⟩, ⟨ax_lo_has (n := 5) hov hva hle, Nat.le_of_ble_eq_true rfl⟩, hsc⟩
    obtain ⟨⟨v1, v2, v3⟩, ⟨w1, w2, w3⟩, ⟨l1, l2⟩, sc⟩ := hi
    have hmoved : ∀ q, va_A (ax_gw ad ov cy S1) H.size q → va_A (ax_gw ad ov cy S1) s.heap.size q := fun q hq => by
      rcases hq with ⟨j, z, hj⟩ | hq
      · exact w2.2 j _ hj
      · exact Or.inr (Nat.le_trans w3.1 hq)
    have hrf : ax_cv ad ov (.inr (11, 0)) = .ref (ad 11 0) := ax_cv_k (by decide)
    have hrg : ax_cv ad ov (.inr (63, 0)) = .ref (ad 63 0) := ax_cv_k (by decide)
    have hpre : ∀ U : State, U.heap = H → s.WarmedH U.vm → x_Pc ad ov dC dI cy Ln xs [.inr (11, 0), .inl (.int a), .inl (.int b)] S1 H.size (Value.ref (ad 11 0) :: [Value.int a, Value.int b]).toArray U := fun U hU hW => ⟨⟨by rw [List.map_cons, hrf]; rfl, by rw [hU], by rw [hU]; exact w1, va_K.moved hW.alike hK, w2.weaken (fun _ _ _ _ => trivial), by rw [hU]; exact ax_Ct.move hCt hW w3.2.1 hmoved⟩, by rw [hU]; exact hz.move hW w3.2.1 hmoved⟩
    have hcb := callB_of (R := (headSpec (cw_L :: ax_tb) y_rm).room) (rm := x_rm) (n := 2) htb (ax_goodk ok_X11_caller) rfl rfl rfl (htb _ ok_X11_caller.2.2.2.2.1) (htb _ lk_L_7.2.1) lk_L_7.2.2.2.2 ⟨Nat.le_of_ble_eq_true rfl, Nat.le_of_ble_eq_true rfl⟩
    have hrecv : ∃ cell : Cell, H[ad 11 0]? = some cell ∧ cell.vm.isStatics = false ∧ s.vm.findClass RX11 = some cell.cls := by
      obtain ⟨q, -, hq⟩ := ax_gw_at (ad := ad) (ov := ov) (cy := cy) S1 (show (ax_kd 11).1 ≤ 1 by decide) (show 0 < ax_cn 11 by decide)
      have he : ax_ce ad ov cy S1 11 0 = .inr ((ax_kd 11).2.1, (List.range (ax_nf (ax_kd 11).2.1)).map (fun j => ax_cv ad ov (ax_fv S1 11 0 (ax_kd 11).2.1 j))) := if_pos (by decide)
      have a2 : (ax_kd 11).2.1 = 11 := by decide
      rw [he, a2] at hq
      obtain ⟨r9, h91, h92⟩ := Option.map_eq_some_iff.mp (ax_T6 ka_X11 (List.mem_of_getElem? (i := 11) rfl) (by decide))
      have h93 : r9.1 = RX11 := h92
      rw [← h93]
      exact va_recv hK w1 h91 hq
    show W p l e _ s m _ below meth c H locs 0 0 _ (F0 m 5 ls [ax_cv ad ov (.inl (.int b)), ax_cv ad ov (.inl (.int a)), ax_cv ad ov (.inr (11, 0)), ax_cv ad ov (.inl (.int 0)), ax_cv ad ov (.inr (63, 0))])
    rw [hrf, hrg]
    refine vx_calli (A0 := va_A (ax_gw ad ov cy S1) s.heap.size) (post := fun (_ : Int32) (_ : AS) => False) (B := fun (_ : AS) (_ : State) => True) (A1 := va_A (ax_gw ad ov cy S1) H.size) (vx_runV (As := [Value.int a, Value.int b]) (rest := [Value.int 0, Value.ref (ad 63 0)]) (C := RX11) (own := RL) ⟨B.exec, B.bytes, hml, hown, htb⟩ (xc_met (sz := H.size) hl hov v3 sc h _) ⟨hcb, htb _ lk_L_7.2.2.1, htb _ lk_L_7.2.2.2.1⟩ ⟨x_blind, hrecv, hpre⟩ rfl rfl l1.1 rfl (Nat.le_of_ble_eq_true rfl) (show decode cL_caller 5 = .ok (.invokevirtual 7, 3) by decide +kernel) ⟨Nat.le_refl _, Nat.le_refl _⟩) w3 (fun q _ h => hmoved q h) hmoved (fun q _ h => hmoved q h) (fun E ce q9 u t H1 locs1 ht hvm hu hB hz1 hk1 hS1 hcell hnone hfind => ?_) (fun r u t H1 locs1 _ _ hf => hf.elim)
    subst hu
    obtain ⟨rfl, b1, b2, b3, b4⟩ := hB
    rw [ht] at b1
    refine ct_catch (own := RL) (name := xE) (E := xE) hown ⟨0, 10, 13, 13⟩ [] hsplit (by decide) (by decide) (htb _ cw_lk) (va_Nw.use rfl hz.2.2.2.2.2) hcell hnone hfind ?_
    refine lv_astore (i := 4) (nL := 5) B.exec B.bytes (show decode cL_caller 13 = .ok (.astore 4, 2) by decide +kernel) l1 (by omega) rfl (fun ls' h' => ?_)
    refine lv_iconst (v := 1) B.exec B.bytes (show decode cL_caller 15 = .ok (.iconst 1, 1) by decide +kernel) rfl ?_
    exact W.zret B.exec B.bytes B.returns rfl (fun t' ht' hW => ⟨⟨1, _, rfl, ⟨rfl, rfl⟩, by rw [ht']; exact b1, b2.weaken (fun _ _ _ h => hmoved _ h), b3, b4⟩, hS1.F ht'⟩) hS1.2.2 (show decode cL_caller 16 = .ok (.ireturn, 1) by decide +kernel) B.notSynchronized

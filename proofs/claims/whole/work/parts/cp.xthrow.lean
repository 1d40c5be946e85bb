/-! CASE 6: NamedCallers.caller, where it throws -/
abbrev xE : String := "java/util/NoSuchElementException"
abbrev xW : List Cond := vx_at0 RX11 188 xE ["java/lang/RuntimeException", "java/lang/Exception"]
abbrev xB : List Cond := [.declares (Bundle.init0 "java/lang/RuntimeException"), .declares (Bundle.init0 "java/lang/Exception"), .declares (Bundle.init0 Bundle.tN), .castable xE xE]
theorem xw0 : ∀ w ∈ xW.filter goodWord, w ∈ lw_tbl := by decide +kernel
theorem xw1 : ∀ w ∈ xW.filter goodWord, w ∈ ax_tb := fun w hw => List.mem_filter.mpr ⟨xw0 w hw, (List.mem_filter.mp hw).2⟩
theorem xw2 : ∀ w ∈ xW.filter (fun w => !goodWord w), w ∈ xB := by decide +kernel
theorem xw3 : ∀ w ∈ Cond.classLink RX11 186 xE :: Cond.initialized xE :: xW, vx_ot w = true := by decide +kernel
theorem xw4 : Cond.classLink RX11 186 xE ∈ ax_tb := List.mem_filter.mpr ⟨by decide +kernel, by decide +kernel⟩
theorem xw5 : Cond.initialized xE ∈ ax_tb := List.mem_filter.mpr ⟨by decide +kernel, by decide +kernel⟩
/-- the words of a throw that don't stay by themselves -/
def xN (U : State) : Prop := va_Nw (.declares (Bundle.init0 "java/lang/RuntimeException")) U ∧ va_Nw (.declares (Bundle.init0 "java/lang/Exception")) U ∧ va_Nw (.declares (Bundle.init0 Bundle.tN)) U ∧ va_Nw (.castable xE xE) U
theorem xN.warm {s U : State} (h : xN s) (hW : s.WarmedH U.vm) : xN U := ⟨va_Nw.warmD hW h.1, va_Nw.warmD hW h.2.1, va_Nw.warmD hW h.2.2.1, va_Nw.warmC hW h.2.2.2⟩
theorem xN.use {args : Array Value} {U : State} (h : xN U) : ∀ w ∈ xB, w.before args U = true := vx_c (va_Nw.use rfl h.1) (vx_c (va_Nw.use rfl h.2.1) (vx_c (va_Nw.use rfl h.2.2.1) (vx_c (va_Nw.use rfl h.2.2.2) vx_n)))
def xZ (A : Nat → Prop) (U : State) (H : Heap) : Prop := vx_Zq Bundle.tN "UNASSIGNED_STACK" Bundle.steD A U H ∧ vx_Zq Bundle.tN "SUPPRESSED_SENTINEL" Bundle.listD A U H ∧ xN U
theorem xZ.move {A B : Nat → Prop} {s U : State} {H : Heap} (h : xZ A s s.heap) (hW : s.WarmedH U.vm) (hq : ∀ q : Nat, q < s.heap.size → ¬ A q → H[q]? = s.heap[q]?) (hAB : ∀ q, B q → A q) : xZ B U H := ⟨vx_Zq.moved hW.alike ((h.1.kept hq).narrow hAB), vx_Zq.moved hW.alike ((h.2.1.kept hq).narrow hAB), h.2.2.warm hW⟩
/-- what refuses -/
def xR (a b : Int32) (S : AS) : Prop := f_X11_noSuchCaller a S = some 1 ∨ (f_X11_noSuchCaller a S = some 0 ∧ (b < 0 ∨ (¬ (b < 0) ∧ ¬ (b ≤ 7))))
theorem xc_R {l : Launch} {a b : Int32} {S : AS} (h : xR a b S) : ax_R l 2 ma_X11_caller (0, [some (.inr (11, 0)), some (.inl (.int a)), some (.inl (.int b))], [], S) (18, [some (.inr (11, 0)), some (.inl (.int a)), some (.inl (.int b))], [], S) := by
  refine ax_go [.aload_n 0, .iload_n 1] (pc' := 2) (L' := [some (.inr (11, 0)), some (.inl (.int a)), some (.inl (.int b))]) (st' := [.inl (.int a), .inr (11, 0)]) (S' := S) ok_X11_caller.1 (by decide +kernel) rfl rfl ?_
  rcases h with e | ⟨e, h⟩
  · refine ax_cVi (d := 1) (ka := 11) (i := 0) [.inl (.int a)] [] lk_X11_183 (by decide +kernel) rfl (by decide) rfl (Nat.le_of_ble_eq_true rfl) (Nat.le_of_ble_eq_true rfl) ((t_X11_noSuchCaller e).up (by decide)) ?_
    exact ax_if_ne (off := 13) (tgt := 18) (by decide +kernel) (by decide) (fun _ => ax_R.rf) (fun c => absurd c (by decide))
  · refine ax_cVi (d := 1) (ka := 11) (i := 0) [.inl (.int a)] [] lk_X11_183 (by decide +kernel) rfl (by decide) rfl (Nat.le_of_ble_eq_true rfl) (Nat.le_of_ble_eq_true rfl) ((t_X11_noSuchCaller e).up (by decide)) ?_
    refine ax_if_ne (off := 13) (tgt := 18) (by decide +kernel) (by decide) (fun c => absurd rfl c) (fun _ => ?_)
    refine ax_go [.iload_n 2] (pc' := 9) (L' := [some (.inr (11, 0)), some (.inl (.int a)), some (.inl (.int b))]) (st' := [.inl (.int b)]) (S' := S) ok_X11_caller.1 (by decide +kernel) rfl rfl ?_
    rcases h with h | ⟨h1, h2⟩
    · exact ax_if_lt (off := 9) (tgt := 18) (by decide +kernel) (by decide) (fun _ => ax_R.rf) (fun c => absurd h c)
    · refine ax_if_lt (off := 9) (tgt := 18) (by decide +kernel) (by decide) (fun c => absurd c h1) (fun _ => ?_)
      refine ax_go [.iload_n 2, .bipush 7] (pc' := 15) (L' := [some (.inr (11, 0)), some (.inl (.int a)), some (.inl (.int b))]) (st' := [.inl (.int 7), .inl (.int b)]) (S' := S) ok_X11_caller.1 (by decide +kernel) rfl rfl ?_
      exact ax_ic_le (off := 11) (tgt := 26) (by decide +kernel) (by decide) (fun c => absurd c h2) (fun _ => ax_R.rf)
def x_rm : Room := { frames := 6, cells := 1, slots := 6, locals := 600 }
def x_Pc (ad : Nat → Nat → Nat) (ov : Value) (dC : Nat → ClassId) (dI : Nat → Nat → Nat) (cy : Nat → ClassId) (Ln : Nat) (xs : Nat → Int32) (as : List AV) (S : AS) (sz : Nat) : Array Value → State → Prop := fun v U => ax_Pc ad ov dC dI cy Ln xs as S sz v U ∧ xZ (va_A (ax_gw ad ov cy S) sz) U U.heap
theorem x_blind {ad : Nat → Nat → Nat} {ov : Value} {dC : Nat → ClassId} {dI : Nat → Nat → Nat} {cy : Nat → ClassId} {Ln : Nat} {xs : Nat → Int32} {as : List AV} {S : AS} {sz : Nat} : FrameBlind (x_Pc ad ov dC dI cy Ln xs as S sz) := by
  intro a U g mk q
  have hv : U.vm = (U.calling g mk a).vm := rfl
  exact ⟨ax_blind a U g mk q.1, vx_Zq.moved (u := U) (U := U.calling g mk a) (Vm.Alike.refl U.vm) q.2.1, vx_Zq.moved (u := U) (U := U.calling g mk a) (Vm.Alike.refl U.vm) q.2.2.1, va_Nw.same rfl hv q.2.2.2.1, va_Nw.same rfl hv q.2.2.2.2.1, va_Nw.same rfl hv q.2.2.2.2.2.1, va_Nw.same rfl hv q.2.2.2.2.2.2⟩
def x_X (ad : Nat → Nat → Nat) (ov : Value) (dC : Nat → ClassId) (dI : Nat → Nat → Nat) (cy : Nat → ClassId) (Ln : Nat) (xs : Nat → Int32) (S : AS) (sz : Nat) : String → State → State → Prop := vx_X (fun u : AS => u = S) (fun E u t => E = xE ∧ ax_B ad ov dC dI cy Ln xs (va_A (ax_gw ad ov cy S) sz) u t) (va_A (ax_gw ad ov cy S) sz)
theorem xc_met {l : Launch} {a b : Int32} {S : AS} {ad : Nat → Nat → Nat} {ov : Value} {dC : Nat → ClassId} {dI : Nat → Nat → Nat} {cy : Nat → ClassId} {Ln : Nat} {xs : Nat → Int32} {sz : Nat} (hl : l.stackTraces = false) (hov : ov = .null ∨ ∃ t, ov = .ref t) (hvS : ax_vS S) (hsc : ax_Sc Ln xs S) (hr : xR a b S) (Qc : Array Value → State → Outcome → State → Prop) : vx_Met l yX11_caller (ax_ws ma_X11_caller) x_rm (x_Pc ad ov dC dI cy Ln xs [.inr (11, 0), .inl (.int a), .inl (.int b)] S sz) Qc (x_X ad ov dC dI cy Ln xs S sz) 1 6 (va_A (ax_gw ad ov cy S) sz) := by
  have hva : ax_vs [.inr (11, 0), .inl (.int a), .inl (.int b)] := ax_vs_c (ax_vv_r (by decide)) (ax_vs_c (ax_vv_i _) (ax_vs_c (ax_vv_i _) ax_vs_nil))
  have hok := ok_X11_caller
  refine vx_ofW (cc := cX11_caller) (maxL := 3) (ret := some .int) (by decide +kernel) rfl ?_
  intro p e s m args below meth c s₁ B hml htab hv
  obtain ⟨⟨rfl, hsz, hP, hK, hD0, hCt⟩, hz⟩ := hv
  have hts := atoms_spec (ws := ax_ws ma_X11_caller) B.pre
  have hown : s.vm.findClass RX11 = some m.cls := findClass_of_methodNamed B.named
  have htb : ∀ w ∈ ax_tb, w.before (([.inr (11, 0), .inl (.int a), .inl (.int b)] : List AV).map (ax_cv ad ov)).toArray s = true := fun w h => hts w (List.mem_cons_of_mem _ h)
  subst hsz
  have hle := lv_entry (([.inr (11, 0), .inl (.int a), .inl (.int b)] : List AV).map (ax_cv ad ov)) (n := 3) (by rw [ax_l0_len hov _ hva]; exact Nat.le_of_ble_eq_true rfl)
  rw [lg_entry_eq]
  refine (ax_R.up (xc_R (l := l) hr) (d' := 6) (by omega)) p e _ s m _ below meth c 0 0 _ (va_A (ax_gw ad ov cy S) s.heap.size) ad ov dC dI cy Ln xs ⟨B.exec, B.bytes, hml, hown, htb, ⟨hok.1, trivial⟩, ⟨Nat.le_refl 6, Nat.le_refl 600⟩, fun q h => Or.inr h, hK, hCt, hov⟩ (Nat.zero_le _) (Nat.zero_le _) (fun H locs ls hi => ?_) s.heap [] _ ⟨⟨ax_vL_lo (n := 3) hva, ax_vs_nil, hvS⟩, ⟨hP, hD0.self, va_S.rf⟩, ⟨ax_lo_has (n := 3) hov hva hle, Nat.le_of_ble_eq_true rfl⟩, hsc⟩
  obtain ⟨⟨v1, v2, v3⟩, ⟨w1, w2, w3⟩, ⟨l1, l2⟩, sc⟩ := hi
  have hat : ∀ w ∈ xW, w.before (([.inr (11, 0), .inl (.int a), .inl (.int b)] : List AV).map (ax_cv ad ov)).toArray s = true := vx_hat (fun w hw => htb w (xw1 w hw)) xw2 hz.2.2.use
  exact vx_throw0 (cc := cX11_caller) (pc := 18) B.exec B.bytes hl (own := RX11) (cls := xE) (names := ["java/lang/RuntimeException", "java/lang/Exception"]) (ik := 186) (ic := 188) (A := va_A (ax_gw ad ov cy S) s.heap.size) hown (by decide +kernel) (by decide +kernel) (htb _ xw4) (htb _ xw5) hat xw3 hz.1 hz.2.1 w3 (l1.1.trans hml.symm) (by decide +kernel) (by decide +kernel) (by decide +kernel) (by decide +kernel) (fun x hx => (htab x hx).elim) (Nat.le_of_ble_eq_true rfl) (Nat.le_of_ble_eq_true rfl) (Nat.le_of_ble_eq_true rfl) (Nat.le_of_ble_eq_true rfl) B.notSynchronized (fun t hvm hsz hsame => ⟨S, rfl, ⟨rfl, w1.kept (fun k q hk => hsame q.1 (w1 k q hk).lt), w2, v3, sc⟩, Nat.le_trans w3.1 hsz, fun q h1 h2 => (hsame q (Nat.lt_of_lt_of_le h1 w3.1)).trans (w3.2.1 q h1 h2)⟩) w3.2.2 (Nat.le_refl _) (Nat.le_refl _)

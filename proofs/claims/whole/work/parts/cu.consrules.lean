/-! CONSTRUCTORS: what holds while one runs, a field written, a row made, an object made -/
def cz_C (p : Program) (s : State) (m : MethodId) (args : Array Value) (c : Code) (A : Nat → Prop) (dC : Nat → ClassId) (dI : Nat → Nat → Nat) (cy : Nat → ClassId) (k : AM) : Prop :=
  p.tables.exec = Jvm.exec ∧ c.code = k.2.2.1 ∧ c.maxLocals = k.2.2.2.1 ∧ s.vm.findClass k.1.2.1 = some m.cls ∧ (∀ w ∈ ax_tb, w.before args s = true) ∧ (∀ q, s.heap.size ≤ q → A q) ∧ va_K (dC, dI) vwCl (ax_tys cy) s ∧ k.1 ∈ ax_KL
def cz_I (s : State) (A : Nat → Prop) (dC : Nat → ClassId) (dI : Nat → Nat → Nat) (ws : va_W) (H : Heap) (locs : List Loc) : Prop := va_P (dC, dI) vwCl ws H ∧ va_D A ws ∧ va_S A s.heap H locs
section
variable {p : Program} {l : Launch} {e : Env} {R : Room} {s : State} {m : MethodId} {args : Array Value} {below : List Frame} {meth : Method} {c : Code} {H : Heap} {locs : List Loc} {cells slots : Nat} {Q : State → Prop} {pc : Nat} {ls : Array Slot} {rest : List Value} {A : Nat → Prop} {dC : Nat → ClassId} {dI : Nat → Nat → Nat} {cy : Nat → ClassId} {k : AM} {ws : va_W}
theorem cz_newa {t N' : Nat} {n : Int32} {atype : ArrayType} {ty : FieldType} {a0 : vp_A} (hC : cz_C p s m args c A dC dI cy k) (hI : cz_I s A dC dI ws H locs) (hdg : decode k.2.2.1 pc = .ok (.newarray atype, 2)) (hty : newarray.typeOf atype = ty) (htt : (ax_tys cy)[t]? = some (cy t, ty)) (hw : Cond.arrayClass ty ∈ ax_tb) (hra : ∀ c1 c2 : ClassId, va_RA s c1 ty → va_RA s c2 ty → c1 = c2) (ha : ∀ cA : ClassId, vp_cell cA a0 = arrV cA N' (fun _ => defaultValue ty)) (hn : ¬ n < 0) (hN : n.toNatClampNeg = N') (hby : N' * componentBytes ty ≤ 536870912) (hcells : cells + 1 ≤ R.cells) (hslots : slots + N' ≤ R.slots)
    (kk : ∀ (q : Nat) (H1 : Heap), cz_I s A dC dI (ws ++ [(q, .inl (cy t, a0))]) H1 locs → W p l e R s m args below meth c H1 locs (cells + 1) (slots + N') Q (F0 m (pc + 2) ls (.ref q :: rest))) : W p l e R s m args below meth c H locs cells slots Q (F0 m pc ls (.int n :: rest)) := by
  obtain ⟨h1, h2, -, -, h5, h6, h7, -⟩ := hC
  obtain ⟨i1, i2, i3⟩ := hI
  refine va_newa (D := (dC, dI)) (cl := vwCl) h1 h2 (by rw [hty]; exact h5 _ hw) hty h7 i1 i2 i3 h6 ha hn hN hby hcells hslots hdg (fun q cA H1 hK hP hD hS => ?_)
  have e1 : cA = cy t := hra _ _ (hK.2 (ax_tys cy).length (cA, ty) (by rw [List.getElem?_append_right (Nat.le_refl _), Nat.sub_self]; rfl)).2 (h7.2 t _ htt).2
  subst e1
  exact kk q H1 ⟨hP, hD, hS⟩
theorem cz_newi {N' : Nat} {n : Int32} (hC : cz_C p s m args c A dC dI cy k) (hI : cz_I s A dC dI ws H locs) (hdg : decode k.2.2.1 pc = .ok (.newarray .int, 2)) (hw : Cond.arrayClass .int ∈ ax_tb) (hn : ¬ n < 0) (hN : n.toNatClampNeg = N') (hby : N' * 4 ≤ 536870912) (hcells : cells + 1 ≤ R.cells) (hslots : slots + N' ≤ R.slots)
    (kk : ∀ (q : Nat) (H1 : Heap), cz_I s A dC dI (ws ++ [(q, .inl (cy 0, N', .inl (fun _ => 0)))]) H1 locs → W p l e R s m args below meth c H1 locs (cells + 1) (slots + N') Q (F0 m (pc + 2) ls (.ref q :: rest))) : W p l e R s m args below meth c H locs cells slots Q (F0 m pc ls (.int n :: rest)) :=
  cz_newa (t := 0) (atype := .int) (ty := .int) hC hI hdg rfl rfl hw (fun _ _ a b => Option.some.inj (a.symm.trans b)) (fun _ => rfl) hn hN hby hcells hslots kk
theorem cz_newz {N' : Nat} {n : Int32} (hC : cz_C p s m args c A dC dI cy k) (hI : cz_I s A dC dI ws H locs) (hdg : decode k.2.2.1 pc = .ok (.newarray .boolean, 2)) (hw : Cond.arrayClass .boolean ∈ ax_tb) (hn : ¬ n < 0) (hN : n.toNatClampNeg = N') (hby : N' * 1 ≤ 536870912) (hcells : cells + 1 ≤ R.cells) (hslots : slots + N' ≤ R.slots)
    (kk : ∀ (q : Nat) (H1 : Heap), cz_I s A dC dI (ws ++ [(q, .inl (cy 1, N', .inl (fun _ => 0)))]) H1 locs → W p l e R s m args below meth c H1 locs (cells + 1) (slots + N') Q (F0 m (pc + 2) ls (.ref q :: rest))) : W p l e R s m args below meth c H locs cells slots Q (F0 m pc ls (.int n :: rest)) :=
  cz_newa (t := 1) (atype := .boolean) (ty := .boolean) hC hI hdg rfl rfl hw (fun _ _ a b => Option.some.inj (a.symm.trans b)) (fun _ => rfl) hn hN hby hcells hslots kk
theorem cz_newb {N' : Nat} {n : Int32} (hC : cz_C p s m args c A dC dI cy k) (hI : cz_I s A dC dI ws H locs) (hdg : decode k.2.2.1 pc = .ok (.newarray .byte, 2)) (hw : Cond.arrayClass .byte ∈ ax_tb) (hn : ¬ n < 0) (hN : n.toNatClampNeg = N') (hby : N' * 1 ≤ 536870912) (hcells : cells + 1 ≤ R.cells) (hslots : slots + N' ≤ R.slots)
    (kk : ∀ (q : Nat) (H1 : Heap), cz_I s A dC dI (ws ++ [(q, .inl (cy 2, N', .inl (fun _ => 0)))]) H1 locs → W p l e R s m args below meth c H1 locs (cells + 1) (slots + N') Q (F0 m (pc + 2) ls (.ref q :: rest))) : W p l e R s m args below meth c H locs cells slots Q (F0 m pc ls (.int n :: rest)) :=
  cz_newa (t := 2) (atype := .byte) (ty := .byte) hC hI hdg rfl rfl hw (fun _ _ a b => Option.some.inj (a.symm.trans b)) (fun _ => rfl) hn hN hby hcells hslots kk
theorem cz_newl {N' : Nat} {n : Int32} (hC : cz_C p s m args c A dC dI cy k) (hI : cz_I s A dC dI ws H locs) (hdg : decode k.2.2.1 pc = .ok (.newarray .long, 2)) (hw : Cond.arrayClass .long ∈ ax_tb) (hn : ¬ n < 0) (hN : n.toNatClampNeg = N') (hby : N' * 8 ≤ 536870912) (hcells : cells + 1 ≤ R.cells) (hslots : slots + N' ≤ R.slots)
    (kk : ∀ (q : Nat) (H1 : Heap), cz_I s A dC dI (ws ++ [(q, .inl (cy 3, N', .inr (.inl (fun _ => 0))))]) H1 locs → W p l e R s m args below meth c H1 locs (cells + 1) (slots + N') Q (F0 m (pc + 2) ls (.ref q :: rest))) : W p l e R s m args below meth c H locs cells slots Q (F0 m pc ls (.int n :: rest)) :=
  cz_newa (t := 3) (atype := .long) (ty := .long) hC hI hdg rfl rfl hw (fun _ _ a b => Option.some.inj (a.symm.trans b)) (fun _ => rfl) hn hN hby hcells hslots kk
/-- a row of references -/
theorem cz_newq {t N' idx : Nat} {C : String} {n : Int32} (hC : cz_C p s m args c A dC dI cy k) (hI : cz_I s A dC dI ws H locs) (hdg : decode k.2.2.1 pc = .ok (.anewarray idx, 3)) (htt : (ax_tys cy)[t]? = some (cy t, .object C)) (hw1 : Cond.classLink k.1.2.1 idx C ∈ ax_tb) (hw2 : va_AO C s) (hn : ¬ n < 0) (hN : n.toNatClampNeg = N') (hby : N' * 4 ≤ 536870912) (hcells : cells + 1 ≤ R.cells) (hslots : slots + N' ≤ R.slots)
    (kk : ∀ (q : Nat) (H1 : Heap), cz_I s A dC dI (ws ++ [(q, .inl (cy t, N', .inr (.inr (.inr (.inr (fun _ => none))))))]) H1 locs → W p l e R s m args below meth c H1 locs (cells + 1) (slots + N') Q (F0 m (pc + 3) ls (.ref q :: rest))) : W p l e R s m args below meth c H locs cells slots Q (F0 m pc ls (.int n :: rest)) := by
  obtain ⟨h1, h2, -, h4, h5, h6, h7, -⟩ := hC
  obtain ⟨i1, i2, i3⟩ := hI
  refine va_newq (D := (dC, dI)) (cl := vwCl) (C := C) h1 h2 h4 (h5 _ hw1) hw2 h7 i1 i2 i3 h6 hn hN hby hcells hslots hdg (fun q cA H1 hK hP hD hS => ?_)
  have e1 : cA = cy t := by
    obtain ⟨_, _, _, _, _, a⟩ := (hK.2 (ax_tys cy).length (cA, .object C) (by rw [List.getElem?_append_right (Nat.le_refl _), Nat.sub_self]; rfl)).2
    obtain ⟨_, _, _, _, _, b⟩ := (h7.2 t _ htt).2
    exact Option.some.inj (a.symm.trans b)
  subst e1
  exact kk q H1 ⟨hP, hD, hS⟩
/-- a field of the object in front -/
theorem cz_put {C : String} {T : u_T} {N ci n sl a : Nat} {ty0 : Nat → FieldType} {fs : List Value} {v : Value} (hC : cz_C p s m args c A dC dI cy k) (hI : cz_I s A dC dI ((a, .inr (ci, fs)) :: ws) H locs) (hc : vwCl[ci]? = some (C, T, N)) (hcl : ax_cls ci (C, T, N) ty0) (hnm : meth.name = "<init>") (hin : (n, ci, sl) ∈ k.1.2.2.1) (hsl : sl < N) (hdecl : (T sl).1 = k.1.2.1) (hn : narrow (ty0 sl) v = v) (hfit : fits (ty0 sl) v = true) (hl : sl < fs.length) (hdg : decode k.2.2.1 pc = .ok (.putfield n, 3))
    (kk : ∀ (H1 : Heap) (locs1 : List Loc), cz_I s A dC dI ((a, .inr (ci, fs.set sl v)) :: ws) H1 locs1 → W p l e R s m args below meth c H1 locs1 cells slots Q (F0 m (pc + 3) ls rest)) : W p l e R s m args below meth c H locs cells slots Q (F0 m pc ls (v :: .ref a :: rest)) := by
  obtain ⟨h1, h2, -, h4, h5, h6, h7, h8⟩ := hC
  obtain ⟨i1, i2, i3⟩ := hI
  obtain ⟨c1, c2, c3, c4, c5⟩ := hcl
  have hw := ax_T1 k.1 h8 _ hin
  unfold ax_fw ax_TN at hw
  dsimp only at hw
  rw [hc] at hw
  dsimp only at hw c1 c2 c3 c4 c5
  by_cases hfin : (T sl).2.2.2 = true
  · exact va_putF (D := (dC, dI)) (cl := vwCl) (ref := (T sl).1) h1 h2 h5 c1 ty0 c3 c4 h4 h7 i1 i2 i3 0 rfl hc sl hsl (h5 _ hw) (fun _ h9 => h9) hfin hnm hdecl (c3 sl hsl) hn hfit hl hdg (fun H1 locs1 p1 p2 p3 => kk H1 locs1 ⟨p1, p2, p3⟩)
  · exact va_put (D := (dC, dI)) (cl := vwCl) (ref := (T sl).1) h1 h2 h5 c1 ty0 c3 c4 h4 h7 i1 i2 i3 0 rfl hc sl hsl (h5 _ hw) (fun _ h9 => h9) (Bool.eq_false_iff.mpr hfin) (c3 sl hsl) hn hfit hl hdg (fun H1 locs1 p1 p2 p3 => kk H1 locs1 ⟨p1, p2, p3⟩)
theorem cz_obj {idx a : Nat} (hC : cz_C p s m args c A dC dI cy k) (hsz : ls.size = k.2.2.2.1) (hw : Cond.methodLink k.1.2.1 idx objectInit ∈ ax_tb ∧ Cond.instanceMethod objectInit ∈ ax_tb ∧ Cond.code objectInit ⟨#[0xb1]⟩ 1 none ∈ ax_tb) (hR : 1 ≤ R.frames ∧ 100 ≤ R.locals) (hdg : decode k.2.2.1 pc = .ok (.invokespecial idx, 3))
    (kk : W p l e R s m args below meth c H locs cells slots Q (F0 m (pc + 3) ls [])) : W p l e R s m args below meth c H locs cells slots Q (F0 m pc ls [.ref a]) := by
  obtain ⟨h1, h2, h3, h4, h5, h6, h7, h8⟩ := hC
  have hr := lv_room (m := m) (pc := pc) (ls := ls) (rest := [.ref a]) (st := []) (by decide)
  refine W.objInit h1 h2 h4 (h5 _ hw.1) (h5 _ hw.2.1) (h5 _ hw.2.2) rfl (by rw [h3]; exact hsz) rfl hdg hR.1 (by omega) ?_
  exact kk
end
/-- a constructor's contract: the object alone, with its fields as 'new' leaves them; behind it the cells w -/
def cz_Pc (dC : Nat → ClassId) (dI : Nat → Nat → Nat) (cy : Nat → ClassId) (ci : Nat) (fs : List Value) (G : State → Prop) (h0 sz : Nat) : Array Value → State → Prop := va_Pc [.ref h0] (fun U => U.heap.size = sz ∧ va_P (dC, dI) vwCl [(h0, .inr (ci, fs))] U.heap ∧ va_K (dC, dI) vwCl (ax_tys cy) U ∧ va_D (fun _ => True) [(h0, .inr (ci, fs))] ∧ G U)
def cz_rm (d mc ms : Nat) : Room := { frames := d, cells := mc, slots := ms, locals := 100 * d }
def cz_Met (l : Launch) (k : AM) (ci : Nat) (fs : List Value) (w : (Nat → ClassId) → Nat → (Nat → Nat) → va_W) (mc ms d : Nat) (G : State → Prop) : Prop :=
  ∀ (dC : Nat → ClassId) (dI : Nat → Nat → Nat) (cy : Nat → ClassId) (h0 sz : Nat), Met l k.2.1 (ax_ws k) (cz_rm d mc ms) (cz_Pc dC dI cy ci fs G h0 sz) (va_Qv (fun _ : Nat → Nat => True) (fun u t => va_P (dC, dI) vwCl (w cy h0 u) t.heap ∧ va_D (va_A [(h0, .inr (ci, fs))] sz) (w cy h0 u)) (va_A [(h0, .inr (ci, fs))] sz)) mc ms (va_A [(h0, .inr (ci, fs))] sz)
def cz_B (l : Launch) (k : AM) (ci : Nat) (fs : List Value) (w : (Nat → ClassId) → Nat → (Nat → Nat) → va_W) (mc ms d : Nat) (G : State → Prop) : Prop :=
  ∀ (p : Program) (e : Env) (R : Room) (s : State) (m : MethodId) (args : Array Value) (below : List Frame) (meth : Method) (c : Code) (Q : State → Prop) (A : Nat → Prop) (dC : Nat → ClassId) (dI : Nat → Nat → Nat) (cy : Nat → ClassId) (h0 : Nat) (ls : Array Slot),
    cz_C p s m args c A dC dI cy k → meth.name = "<init>" → G s → (d ≤ R.frames ∧ 100 * d ≤ R.locals ∧ mc ≤ R.cells ∧ ms ≤ R.slots) → lv_has ls k.2.2.2.1 [(0, .ref h0)] → cz_I s A dC dI [(h0, .inr (ci, fs))] s.heap [] →
    (∀ (u : Nat → Nat) (H : Heap) (locs : List Loc) (ls : Array Slot) (pc : Nat), decode k.2.2.1 pc = .ok (.return_, 1) → cz_I s A dC dI (w cy h0 u) H locs → W p l e R s m args below meth c H locs mc ms Q (F0 m pc ls [])) →
    W p l e R s m args below meth c s.heap [] 0 0 Q (F0 m 0 ls [])
theorem cz_met {l : Launch} {k : AM} {ci : Nat} {fs : List Value} {w : (Nat → ClassId) → Nat → (Nat → Nat) → va_W} {mc ms d : Nat} {G : State → Prop} (hok : ax_ok k) (hret : k.2.2.2.2.1 = none) (hmax : 1 ≤ k.2.2.2.1) (hn : k.2.1.name = "<init>") (hB : cz_B l k ci fs w mc ms d G) : cz_Met l k ci fs w mc ms d G := by
  intro dC dI cy h0 sz
  refine ax_ofW (cc := k.2.2.1) (maxL := k.2.2.2.1) (ret := k.2.2.2.2.1) (ax_plain hok) rfl ?_
  intro p e s m args below meth c s₁ B hml hv
  obtain ⟨rfl, hsz, hP, hK, hD0, hG⟩ := hv
  have hts := atoms_spec (ws := ax_ws k) B.pre
  have hown : s.vm.findClass k.1.2.1 = some m.cls := by rw [← hok.2.1]; exact findClass_of_methodNamed B.named
  have hin : meth.name = "<init>" := (name_of_methodNamed B.named B.method).1.trans hn
  have hlocks := B.notSynchronized
  subst hsz
  have hl := lv_entry ([.ref h0]) (n := k.2.2.2.1) hmax
  rw [lg_entry_eq]
  refine hB p e _ s m _ below meth c _ (va_A [(h0, .inr (ci, fs))] s.heap.size) dC dI cy h0 _ ⟨B.exec, B.bytes, hml, hown, fun w hw => hts w (List.mem_cons_of_mem _ hw), fun q h => Or.inr h, hK, hok.1⟩ hin hG ⟨Nat.le_refl _, Nat.le_refl _, Nat.le_refl _, Nat.le_refl _⟩ hl ⟨hP, hD0.self, va_S.rf⟩ ?_
  intro u H locs ls pc hd hI
  exact W.vret B.exec B.bytes (B.returns.trans hret) (fun t ht hW => ⟨⟨u, rfl, trivial, by rw [ht]; exact hI.1, hI.2.1⟩, hI.2.2.F ht⟩) hI.2.2.2.2 hd
section
variable {p : Program} {l : Launch} {e : Env} {R : Room} {s : State} {m : MethodId} {args : Array Value} {below : List Frame} {meth : Method} {c : Code} {H : Heap} {locs : List Loc} {cells slots : Nat} {Q : State → Prop} {pc : Nat} {ls : Array Slot} {rest : List Value} {A : Nat → Prop} {dC : Nat → ClassId} {dI : Nat → Nat → Nat} {cy : Nat → ClassId} {k : AM} {ws : va_W}
/-- the words of making an object of class C by entry i1 -/
def cz_L (K : AK) (i1 : Nat) (C : String) (N : Nat) (k' : AM) : Prop := Cond.classLink K.2.1 i1 C ∈ ax_tb ∧ Cond.instantiable C N ∈ ax_tb ∧ Cond.initialized C ∈ ax_tb ∧ Cond.instanceMethod k'.2.1 ∈ ax_tb ∧ k'.2.1.name = "<init>" ∧ (k'.2.1.cls ≠ "java/lang/invoke/MethodHandle" ∧ k'.2.1.cls ≠ "java/lang/invoke/VarHandle" ∧ (parseMethodDescriptor k'.2.1.desc).map (fun d => d.parameters.length) = some 0) ∧ k'.2.2.2.2.1 = none ∧ k'.2.2.2.1 ≤ 10
theorem cz_make {k' : AM} {ci mc ms d N i1 i2 : Nat} {fs : List Value} {w : (Nat → ClassId) → Nat → (Nat → Nat) → va_W} {G : State → Prop} {C : String} {T : u_T} {ty0 : Nat → FieldType} (hM : cz_Met l k' ci fs w mc ms d G) (hok : ax_ok k') (hc : vwCl[ci]? = some (C, T, N)) (hcl : ax_cls ci (C, T, N) ty0) (hfs : ∀ j, j < N → defaultValue (ty0 j) = vp_V fs j) (hL : cz_L k.1 i1 C N k') (hlk : (Cond.methodLink k.1.2.1 i2 k'.2.1).before args s = true ∨ ∃ host : String, va_Nw (.methodLinkNest k.1.2.1 i2 k'.2.1 host) s) (hG1 : FrameBlind (fun (_ : Array Value) (U : State) => G U)) (hG2 : ∀ U : State, s.WarmedH U.vm → G U)
    (hC : cz_C p s m args c A dC dI cy k) (hI : cz_I s A dC dI ws H locs) (hsz : ls.size = k.2.2.2.1) (hR : d + 1 ≤ R.frames ∧ 100 * (d + 1) ≤ R.locals) (hcc : cells + 1 + mc ≤ R.cells) (hss : slots + N + ms ≤ R.slots) (hd0 : decode k.2.2.1 pc = .ok (.new i1, 3)) (hd1 : decode k.2.2.1 (pc + 3) = .ok (.dup, 1)) (hd2 : decode k.2.2.1 (pc + 4) = .ok (.invokespecial i2, 3)) (hst : (rest.map fun v => v.category).sum ≤ 7)
    (kk : ∀ (q : Nat) (u : Nat → Nat) (H1 : Heap) (locs1 : List Loc), cz_I s A dC dI (ws ++ w cy q u) H1 locs1 → W p l e R s m args below meth c H1 locs1 (cells + 1 + mc) (slots + N + ms) Q (F0 m (pc + 7) ls (.ref q :: rest))) : W p l e R s m args below meth c H locs cells slots Q (F0 m pc ls rest) := by
  obtain ⟨h1, h2, h3, h4, h5, h6, h7, h8⟩ := hC
  obtain ⟨i1', i2', i3'⟩ := hI
  obtain ⟨c1, c2, c3, c4, c5⟩ := hcl
  obtain ⟨w1, w2, w3, w5, w6, w7, w8, w9⟩ := hL
  dsimp only at c1 c2 c3 c4 c5
  refine va_new (D := (dC, dI)) (cl := vwCl) (ci := ci) (fs := fs) h1 h2 h5 c1 ty0 c3 h4 (h5 _ w1) (h5 _ w2) (h5 _ w3) h7 i1' i2' i3' h6 hc hfs (by omega) (by omega) hd0 (fun q H1 hP hD hS => ?_)
  refine lv_dup h1 h2 hd1 rfl ?_
  have hgw : ∀ (i : Nat) (x : Nat × va_E), ws[i]? = some x → x.1 < H1.size ∧ ¬ va_A [(q, .inr (ci, fs))] H1.size x.1 := by
    intro i x hx
    have hlt : i < ws.length := (List.getElem?_eq_some_iff.mp hx).1
    have hx2 : (ws ++ [(q, (.inr (ci, fs) : va_E))])[i]? = some x := by rw [List.getElem?_append_left hlt]; exact hx
    have hlt2 := (hP i x hx2).lt
    refine ⟨hlt2, fun z => ?_⟩
    rcases z with ⟨j, ee, hj⟩ | z
    · have hj0 : j < 1 := (List.getElem?_eq_some_iff.mp hj).1
      have hj1 : j = 0 := by omega
      subst hj1
      cases hj
      have := hD.1 i ws.length x (x.1, .inr (ci, fs)) hx2 (by rw [List.getElem?_append_right (Nat.le_refl _), Nat.sub_self]; rfl) rfl
      omega
    · omega
  have hPq : va_P (dC, dI) vwCl [(q, .inr (ci, fs))] H1 := fun j x hx => hP (ws.length + j) x (by rw [List.getElem?_append_right (Nat.le_add_right _ _), Nat.add_sub_cancel_left]; exact hx)
  have hDq : va_D A [(q, .inr (ci, fs))] := ⟨fun i j x y hx hy _ => by
    have a1 : i < 1 := (List.getElem?_eq_some_iff.mp hx).1
    have a2 : j < 1 := (List.getElem?_eq_some_iff.mp hy).1
    omega, fun j x hx => hD.2 (ws.length + j) x (by rw [List.getElem?_append_right (Nat.le_add_right _ _), Nat.add_sub_cancel_left]; exact hx)⟩
  have hFc : ∀ x, va_A [(q, .inr (ci, fs))] H1.size x → A x := fun x hx => by
    rcases hx with ⟨j, ee, hj⟩ | hx
    · exact hDq.2 j _ hj
    · exact h6 x (Nat.le_trans hS.1 hx)
  have hrm : (cz_rm d mc ms).frames + 1 ≤ R.frames ∧ 8 + (k'.2.2.2.1 + 11) + (cz_rm d mc ms).locals ≤ R.locals := ⟨hR.1, by show 8 + (k'.2.2.2.1 + 11) + 100 * d ≤ R.locals; omega⟩
  have hpr : PreS s H1 (cz_Pc dC dI cy ci fs G q H1.size) [.ref q] := ⟨fun a U g mk z => ⟨z.1, z.2.1, z.2.2.1, va_K.moved (u := U) (U := U.calling g mk a) (Vm.Alike.refl U.vm) z.2.2.2.1, z.2.2.2.2.1, hG1 a U g mk z.2.2.2.2.2⟩, fun U hU hW => ⟨rfl, by rw [hU], by rw [hU]; exact hPq, va_K.moved hW.alike h7, hDq.weaken (fun _ _ _ _ => trivial), hG2 U hW⟩⟩
  have hroom : 2 * (F0 m (pc + 3 + 1) ls (.ref q :: .ref q :: rest)).monitorRoom + (((.ref q :: rest : List Value)).map fun v => v.category).sum ≤ 8 := lv_room (by rw [List.map_cons, List.sum_cons]; show 1 + _ ≤ 8; omega)
  have hrun : va_Run p l e R s m args below meth c H1 locs (cells + 1) (slots + N) mc ms (F0 m (pc + 3 + 1) ls (.ref q :: .ref q :: rest)) (.ref q :: rest) (va_Qv (fun _ : Nat → Nat => True) (fun u t => va_P (dC, dI) vwCl (w cy q u) t.heap ∧ va_D (va_A [(q, .inr (ci, fs))] H1.size) (w cy q u)) (va_A [(q, .inr (ci, fs))] H1.size) (Value.ref q :: ([] : List Value)).toArray) (va_A [(q, .inr (ci, fs))] H1.size) := by
    rcases hlk with h9 | ⟨host, h9⟩
    · have hcb := callB_of (R := R) (rm := cz_rm d mc ms) (mc := mc) (ms := ms) (bytes := k'.2.2.1) (maxL := k'.2.2.2.1) (ret := k'.2.2.2.2.1) (n := 0) h5 (ax_goodk hok) rfl rfl rfl (h5 _ hok.2.2.2.2.1) h9 w7 hrm
      rw [w8] at hcb
      exact va_runI (As := []) (rest := .ref q :: rest) ⟨h1, h2, h3, h4, h5⟩ (hM dC dI cy q H1.size) ⟨hcb, w6, h5 _ w5⟩ hpr rfl rfl hsz rfl hroom hd2 ⟨by omega, by omega⟩
    · have hcb := va_cnB (R := R) (rm := cz_rm d mc ms) (mc := mc) (ms := ms) (bytes := k'.2.2.1) (maxL := k'.2.2.2.1) (ret := k'.2.2.2.2.1) (n := 0) h5 (ax_goodk hok) rfl rfl rfl h9 (h5 _ hok.2.2.2.2.1) w7 hrm
      rw [w8] at hcb
      exact va_runIN (As := []) (rest := .ref q :: rest) ⟨h1, h2, h3, h4, h5⟩ (hM dC dI cy q H1.size) ⟨hcb, w6, h5 _ w5⟩ hpr rfl rfl hsz rfl hroom hd2 ⟨by omega, by omega⟩
  refine va_callv hrun hS (fun x _ h => hFc x h) hFc (fun u t H2 locs2 ht hvm hw hB hz1 hk1 hS2 => ?_)
  obtain ⟨hP1, hD1⟩ := hB
  rw [ht] at hP1
  refine kk q u H2 locs2 ⟨va_P.app (fun i x hx => ?_) hP1, va_D.app ⟨fun i j x y hx hy hxy => ?_, fun i x hx => ?_⟩ (hD1.weaken (fun _ x _ h => hFc x.1 h)) (fun i j x y hx hy hxy => ?_), hS2⟩
  · obtain ⟨g1, g2⟩ := hgw i x hx
    exact (i1' i x hx |> fun _ => hP i x (by rw [List.getElem?_append_left (List.getElem?_eq_some_iff.mp hx).1]; exact hx)).kept (hk1 x.1 g1 g2)
  · exact i2'.1 i j x y hx hy hxy
  · exact i2'.2 i x hx
  · exact (hgw i x hx).2 (by rw [hxy]; exact hD1.2 j y hy)
end
section
variable {p : Program} {l : Launch} {e : Env} {R : Room} {s : State} {m : MethodId} {args : Array Value} {below : List Frame} {meth : Method} {c : Code} {H : Heap} {locs : List Loc} {cells slots : Nat} {Q : State → Prop} {pc : Nat} {ls : Array Slot} {rest : List Value} {A : Nat → Prop} {dC : Nat → ClassId} {dI : Nat → Nat → Nat} {cy : Nat → ClassId} {k : AM} {ws : va_W}
theorem cz_get {C : String} {T : u_T} {N ci n sl a : Nat} {ty0 : Nat → FieldType} {fs : List Value} {v : Value} (hC : cz_C p s m args c A dC dI cy k) (hI : cz_I s A dC dI ((a, .inr (ci, fs)) :: ws) H locs) (hc : vwCl[ci]? = some (C, T, N)) (hcl : ax_cls ci (C, T, N) ty0) (hin : (n, ci, sl) ∈ k.1.2.2.1) (hsl : sl < N) (hv : fs[sl]? = some v) (hdg : decode k.2.2.1 pc = .ok (.getfield n, 3))
    (kk : W p l e R s m args below meth c H locs cells slots Q (F0 m (pc + 3) ls (v :: rest))) : W p l e R s m args below meth c H locs cells slots Q (F0 m pc ls (.ref a :: rest)) := by
  obtain ⟨h1, h2, -, h4, h5, h6, h7, h8⟩ := hC
  have hw := ax_T1 k.1 h8 _ hin
  unfold ax_fw ax_TN at hw
  dsimp only at hw
  rw [hc] at hw
  dsimp only at hw
  exact va_get (D := (dC, dI)) (cl := vwCl) (ref := (T sl).1) h1 h2 h5 hcl.1 h4 h7 hI.1 0 rfl hc sl hsl (h5 _ hw) (fun _ h9 => h9) hv hdg kk
theorem cz_cell {q a : Nat} {e0 e1 : va_E} (hI : cz_I s A dC dI ws H locs) (hp : ws[q]? = some (a, e0)) (he : ∀ H : Heap, va_at (dC, dI) vwCl (a, e0) H → va_at (dC, dI) vwCl (a, e1) H) : cz_I s A dC dI (ws.set q (a, e1)) H locs := ⟨hI.1.set hI.2.1 hp (he _ (hI.1 q _ hp)) (fun _ _ => rfl), hI.2.1.set hp, hI.2.2⟩
theorem cz_ast {q0 t qk ci n v a : Nat} {r : vw_C} {vs : List Value} {f : Nat → Option Nat} {i : Int32} (hC : cz_C p s m args c A dC dI cy k) (hI : cz_I s A dC dI ws H locs) (ha : ws[q0]? = some (a, .inl (cy t, n, .inr (.inr (.inr (.inr f)))))) (ht : (ax_tys cy)[t]? = some (cy t, .object r.1)) (hv : ws[qk]? = some (v, .inr (ci, vs))) (hc : vwCl[ci]? = some r) (hin : vp_in i n) (hdg : decode k.2.2.1 pc = .ok (.aastore, 1))
    (kk : ∀ (H1 : Heap) (locs1 : List Loc), cz_I s A dC dI (ws.set q0 (a, .inl (cy t, n, .inr (.inr (.inr (.inr (va_up f i.toNatClampNeg (some v)))))))) H1 locs1 → W p l e R s m args below meth c H1 locs1 cells slots Q (F0 m (pc + 1) ls rest)) : W p l e R s m args below meth c H locs cells slots Q (F0 m pc ls (.ref v :: .int i :: .ref a :: rest)) :=
  va_astq (D := (dC, dI)) (cl := vwCl) hC.1 hC.2.1 hC.2.2.2.2.2.2.1 hI.1 hI.2.1 hI.2.2 q0 t qk ci ha ht hv hc hin hdg (fun H1 locs1 p1 p2 p3 => kk H1 locs1 ⟨p1, p2, p3⟩)
end

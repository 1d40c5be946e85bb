/-! THE LAW: from its entry to its end (by program: wip/whole/mkda.py; the rows of the skeleton as they were given) -/
theorem dz_L_0 : decode ma_L_law.2.2.1 0 = .ok (.new 8, 3) := by decide +kernel
theorem dz_L_3 : decode ma_L_law.2.2.1 3 = .ok (.dup, 1) := by decide +kernel
theorem dz_L_4 : decode ma_L_law.2.2.1 4 = .ok (.invokespecial 15, 3) := by decide +kernel
theorem dz_L_7 : decode ma_L_law.2.2.1 7 = .ok (.astore_n 1, 1) := by decide +kernel
theorem dz_L_8 : decode ma_L_law.2.2.1 8 = .ok (.new 16, 3) := by decide +kernel
theorem dz_L_11 : decode ma_L_law.2.2.1 11 = .ok (.dup, 1) := by decide +kernel
theorem dz_L_12 : decode ma_L_law.2.2.1 12 = .ok (.invokespecial 18, 3) := by decide +kernel
theorem dz_L_15 : decode ma_L_law.2.2.1 15 = .ok (.astore_n 2, 1) := by decide +kernel
theorem dz_L_16 : decode ma_L_law.2.2.1 16 = .ok (.iconst 1, 1) := by decide +kernel
theorem dz_L_17 : decode ma_L_law.2.2.1 17 = .ok (.newarray .long, 2) := by decide +kernel
theorem dz_L_19 : decode ma_L_law.2.2.1 19 = .ok (.astore_n 3, 1) := by decide +kernel
theorem dz_L_20 : decode ma_L_law.2.2.1 20 = .ok (.iconst 0, 1) := by decide +kernel
theorem dz_L_21 : decode ma_L_law.2.2.1 21 = .ok (.istore 4, 2) := by decide +kernel
theorem dz_L_1552 : decode ma_L_law.2.2.1 1552 = .ok (.ireturn, 1) := by decide +kernel
set_option maxRecDepth 20000 in
theorem mk_L_8 : cz_L ma_L_law.1 8 RX11 20 ma_X11_init := ⟨ax_memi (ws := [Cond.classLink RL 8 RX11]) [128] rfl (by decide +kernel) _ List.mem_cons_self, ax_memi (ws := [Cond.instantiable RX11 20]) [129] rfl (by decide +kernel) _ List.mem_cons_self, ai_X11, ax_memi (ws := [Cond.instanceMethod yX11_init]) [131] rfl (by decide +kernel) _ List.mem_cons_self, rfl, ⟨by decide +kernel, by decide +kernel, by decide +kernel⟩, rfl, by decide⟩
set_option maxRecDepth 20000 in
theorem mk_L_16 : cz_L ma_L_law.1 16 RX12 50 ma_X12_init := ⟨ax_memi (ws := [Cond.classLink RL 16 RX12]) [1376] rfl (by decide +kernel) _ List.mem_cons_self, ax_memi (ws := [Cond.instantiable RX12 50]) [1377] rfl (by decide +kernel) _ List.mem_cons_self, ai_X12, ax_memi (ws := [Cond.instanceMethod yX12_init]) [1379] rfl (by decide +kernel) _ List.mem_cons_self, rfl, ⟨by decide +kernel, by decide +kernel, by decide +kernel⟩, rfl, by decide⟩
set_option maxRecDepth 20000 in
theorem nest_in : ∀ q ∈ cz_nest, Cond.methodLinkNest RX11 q.1 q.2 RX11 ∈ lw_tbl := by decide +kernel
theorem g11_of {args : Array Value} {s : State} (hts : ∀ w ∈ lw_tbl, w.before args s = true) : g_X11 s := ⟨va_AO.of (cs_w hts 157 (w := Cond.arrayOver (.object RX5)) (by decide +kernel)), va_AO.of (cs_w hts 159 (w := Cond.arrayOver (.object RX0)) (by decide +kernel)), fun q hq => va_Nw.of rfl (hts _ (nest_in q hq))⟩
theorem g11_blind : FrameBlind (fun (_ : Array Value) (U : State) => g_X11 U) := fun a U g mk h => ⟨va_AO.moved (u := U) (U := U.calling g mk a) (Vm.Alike.refl U.vm) h.1, va_AO.moved (u := U) (U := U.calling g mk a) (Vm.Alike.refl U.vm) h.2.1, fun q hq => va_Nw.same rfl (show U.vm = (U.calling g mk a).vm from rfl) (h.2.2 q hq)⟩
theorem g11_warm {s : State} (h : g_X11 s) : ∀ U : State, s.WarmedH U.vm → g_X11 U := fun _ hW => ⟨va_AO.moved hW.alike h.1, va_AO.moved hW.alike h.2.1, fun q hq => va_Nw.warmM hW (h.2.2 q hq)⟩
theorem g12_blind {x y : Nat} : FrameBlind (fun (_ : Array Value) (U : State) => g_X12 x y U) := fun a U g mk h => ⟨vk_R.same (u := U) (U := U.calling g mk a) rfl h.1, vk_R.same (u := U) (U := U.calling g mk a) rfl h.2⟩
theorem g12_warm {x y : Nat} {s : State} (h : g_X12 x y s) : ∀ U : State, s.WarmedH U.vm → g_X12 x y U := fun _ hW => ⟨vk_R.warm hW h.1, vk_R.warm hW h.2⟩
theorem lw_notr {l : Launch} (h : l.flags = flags0) : l.stackTraces = false := by
  unfold Launch.stackTraces
  rw [h]
  decide +kernel
/-! THE CLAIM OUT OF ONE WALK OF THE LAW'S BODY. Your part is whole_start (and what it stands on); all else here is the same for every law, but numbers. -/
def R_law : String := "NamedCallersLaw"
def lw_P (b : Addr) (xs : List Int32) (args : Array Value) (s : State) : Prop := args = #[.ref b] ∧ s.IntsAt b xs ∧ xs.length ≤ 3072 ∧ (Jvm.Cond.and given_1 narrow_1).before args s = true
def lw_Q (_ : Array Value) (s : State) (o : Outcome) (t : State) : Prop := o = .returned (some (.int 1)) ∧ Framed s o t [] 601024 7293034
def lw_Z (below : List Frame) (a : Array Value) (s : State) : State → Prop := fun t => ∃ o, t.status = .running ∧ Ended t below o ∧ lw_Q a s o t
/-- the law's own end, with 1 on the stack, nothing written that was there before, its room as the claim has it -/
theorem lw_ret {p : Program} {l : Launch} {e : Env} {s : State} {m : MethodId} {below : List Frame} {meth : Method} {c : Code} {b : Nat} (hx : p.tables.exec = Jvm.exec) (hb : c.code = code) (hr : meth.sig.returnType = ret) (hlocks : meth.locks = false) {pc : Nat} {H : Heap} {ls : Array Slot} (hdg : decode code pc = .ok (.ireturn, 1)) : W p l e room_1 s m #[Value.ref b] below meth c H [] 601024 7293034 (lw_Z below #[Value.ref b] s) (F0 m pc ls [.int 1]) := by
  intro T hT X
  obtain ⟨fs, hret, hrun, hended, hW, hframe⟩ := X.leave (v := some (.int 1)) (hlocks := hlocks) (fun h => by rw [hr] at h; cases h)
  have hmeth' : T.vm.method? m = some meth := X.method'
  refine ⟨T.setFrames fs, ?_, .returned (some (.int 1)), hrun, hended, rfl, ⟨_, rfl⟩, hW, hframe⟩
  jvm_step X.here [X.here.top, hx, hb, hdg, hmeth', hr, ret, narrow_b1]
  (try refine ⟨rfl, ?_⟩); (try refine ⟨rfl, ?_⟩)
  first | (intro acts; rw [hret _ acts rfl rfl rfl]) | rw [hret _ _ rfl rfl rfl]
  exact Steps.refl _
/-- what holds at the law's entry: the machine, the code, the tables' words (any of lw_tbl by 'hts w (by decide +kernel)'), the script of L ints xs at the cell b, what the Statement gives of the start (any of its parts by flat_of_before) -/
def lw_At (p : Program) (s : State) (m : MethodId) (meth : Method) (c : Code) (b L : Nat) (xs : Nat → Int32) : Prop :=
  p.tables.exec = Jvm.exec ∧ c.code = code ∧ meth.sig.returnType = ret ∧ c.maxLocals = 7 ∧ s.vm.findClass R_law = some m.cls ∧ (∀ w ∈ lw_tbl, w.before #[Value.ref b] s = true) ∧ va_X b L xs s s.heap ∧ b < s.heap.size ∧ meth.locks = false ∧ (Jvm.Cond.and given_1 narrow_1).before #[Value.ref b] s = true
set_option maxHeartbeats 4000000 in
set_option maxRecDepth 20000 in
theorem whole_start {p : Program} {e : Env} {s : State} {m : MethodId} {below : List Frame} {meth : Method} {c : Code} (l : Launch) (hflags : l.flags = flags0) {b L : Nat} {xs : Nat → Int32} (hL : L ≤ 3072) (C0 : lw_At p s m meth c b L xs) : W p l e room_1 s m #[Value.ref b] below meth c s.heap [] 0 0 (lw_Z below #[Value.ref b] s) (entryFrame m ([Value.ref b] : List Value).toArray 7) := by
  obtain ⟨hx, hb, hr, hml, hown, hts, hX, hbl, hlocks, hgv⟩ := id C0
  obtain ⟨A, hAe⟩ : ∃ A : Nat → Prop, A = fun q => s.heap.size ≤ q := ⟨_, rfl⟩
  have hA : ∀ q : Nat, s.heap.size ≤ q → A q := fun q h => by rw [hAe]; exact h
  have hAb : ∀ q : Nat, A q → s.heap.size ≤ q := fun q h => by rw [hAe] at h; exact h
  have hA0 : ∀ q : Nat, q < s.heap.size → ¬ A q := fun q h z => absurd (hAb q z) (Nat.not_le.mpr h)
  have htb : ∀ w ∈ ax_tb, w.before #[Value.ref b] s = true := fun w hw => hts w (List.mem_filter.mp hw).1
  obtain ⟨dC, dI, cy, hK⟩ := cs_K hts
  obtain ⟨a64, a65, a66, ov, hov, hg, hCt⟩ := cs_Ct hts hgv hA0 hX hbl
  have hz : xZ A s s.heap := cs_Z hts hgv hA0
  have hC : cz_C p s m #[Value.ref b] c A dC dI cy ma_L_law := ⟨hx, hb, hml, hown, htb, hA, hK, ok_L_law.1⟩
  have hl := lv_entry ([.ref b]) (n := 7) (Nat.le_of_ble_eq_true rfl)
  rw [lg_entry_eq]
  generalize (lg_sl ([.ref b]) ++ List.replicate (7 - (lg_sl ([.ref b])).length) Slot.unset).toArray = ls at hl ⊢
  have hl : lv_has ls 7 [(0, .ref b)] := hl
  have hI : cz_I s A dC dI [] s.heap [] := ⟨fun k q h => by simp at h, ⟨fun i j p q h => by simp at h, fun k q h => by simp at h⟩, va_S.rf⟩
  refine cz_make (k := ma_L_law) cm_X11 ok_X11_init rfl kl_X11 hf_X11 mk_L_8 (Or.inl (cs_w hts 130 (by decide +kernel))) g11_blind (g11_warm (g11_of hts)) hC hI hl.1 ⟨Nat.le_of_ble_eq_true rfl, Nat.le_of_ble_eq_true rfl⟩ (Nat.le_of_ble_eq_true rfl) (Nat.le_of_ble_eq_true rfl) dz_L_0 dz_L_3 dz_L_4 (Nat.le_of_ble_eq_true rfl) (fun q11 u H locs hI => ?_)
  have hI : cz_I s A dC dI (w_X11 cy q11 u) H locs := hI
  refine lv_astore_n (lv' := [(1, .ref q11), (0, .ref b)]) hx hb dz_L_7 rfl hl (by decide) rfl (fun ls hl => ?_)
  refine cz_make (k := ma_L_law) cm_X12 ok_X12_init rfl kl_X12 hf_X12 mk_L_16 (Or.inl (cs_w hts 1378 (by decide +kernel))) g12_blind (g12_warm hg) hC hI hl.1 ⟨Nat.le_of_ble_eq_true rfl, Nat.le_of_ble_eq_true rfl⟩ (Nat.le_of_ble_eq_true rfl) (Nat.le_of_ble_eq_true rfl) dz_L_8 dz_L_11 dz_L_12 (Nat.le_of_ble_eq_true rfl) (fun q12 v H locs hI => ?_)
  refine lv_astore_n (lv' := [(2, .ref q12), (1, .ref q11), (0, .ref b)]) hx hb dz_L_15 rfl hl (by decide) rfl (fun ls hl => ?_)
  refine lv_iconst (v := 1) hx hb dz_L_16 (by decide) ?_
  refine cz_newl (N' := 1) hC hI dz_L_17 aw_long (by decide) (by decide) (by decide) (Nat.le_of_ble_eq_true rfl) (Nat.le_of_ble_eq_true rfl) (fun q63 H hI => ?_)
  refine W.widen (k := 94) (n := 30561) (Nat.le_of_ble_eq_true rfl) (Nat.le_of_ble_eq_true rfl) ?_
  refine lv_astore_n (lv' := [(3, .ref q63), (2, .ref q12), (1, .ref q11), (0, .ref b)]) hx hb dz_L_19 rfl hl (by decide) rfl (fun ls hl => ?_)
  refine lv_iconst (v := 0) hx hb dz_L_20 (by decide) ?_
  refine lv_istore (lv' := [(4, .int 0), (3, .ref q63), (2, .ref q12), (1, .ref q11), (0, .ref b)]) hx hb dz_L_21 hl (by decide) rfl (fun ls hl => ?_)
  have hw0 := cs_w0 (q11 := q11) (q12 := q12) (q63 := q63) (b := b) (L := L) (u := u) (v := v) (a64 := a64) (a65 := a65) (a66 := a66) (ov := ov) (cy := cy) (xs := xs)
  rw [hw0] at hI
  refine lw_loop (l := l) (lw_notr hflags) hL 512 0 (cs_S L xs) cs_jI rfl (by omega) (by omega) p e room_1 s m #[Value.ref b] below meth c 94 30561 (lw_Z below #[Value.ref b] s) A (cs_ad q11 q12 q63 b u v a64 a65 a66) ov dC dI cy L xs ⟨hx, hb, hml, hown, htb, ⟨ok_L_law.1, trivial⟩, ⟨Nat.le_of_ble_eq_true rfl, Nat.le_of_ble_eq_true rfl⟩, hA, hK, hCt _ rfl rfl rfl rfl, hov⟩ hz (Nat.le_of_ble_eq_true rfl) (Nat.le_of_ble_eq_true rfl) (fun Z a H locs ls hi => ?_) H locs ls ⟨⟨cs_vL, ax_vs_nil, cs_vS⟩, ⟨cs_P hI.1, cs_D hI.2.1, hI.2.2⟩, ⟨lv_sub hl [4, 3, 2, 1, 0] rfl, Nat.le_refl 7⟩, cs_Sc⟩
  refine va_forget (fun q hq => hAb _ (hi.2.1.2.2.2.2 q hq)) ?_
  refine W.widen (k := 601024) (n := 7293034) (Nat.le_of_ble_eq_true rfl) (Nat.le_of_ble_eq_true rfl) ?_
  exact lw_ret hx hb hr hlocks dz_L_1552
-- ===== YOUR PART ENDS =====
set_option maxHeartbeats 4000000 in
theorem lw_walk (l : Launch) (hflags : l.flags = flags0) (b : Addr) (xs : List Int32) : MetFree l x (headSpec (Jvm.Cond.code x code maxLocals ret :: tables_1) room_1) (lw_P b xs) (fun _ _ _ _ _ => True) lw_Q := by
  refine MetFree.of_bodyS (code := code) (maxLocals := maxLocals) (ret := ret) (by decide) ?_ ?_
  · intro args s m h hn
    obtain ⟨meth, c, h1, h2, h3, h4, h5, h6, -, -⟩ := Cond.code_spec hn (atoms_spec (ws := Jvm.Cond.code x code maxLocals ret :: tables_1) h _ List.mem_cons_self)
    exact ⟨meth, c, h1, h2, h3, h4, h5, h6⟩
  · intro p e s m args below meth c s₁ B hml0 hP _
    obtain ⟨rfl, hx, hbd, hgv⟩ := hP
    obtain ⟨scr, harrAt, hlist, hof, hsmall⟩ := hx
    obtain ⟨hcb, hkn, -, -⟩ := State.arrayAt?_spec harrAt
    have hown : s.vm.findClass R_law = some m.cls := findClass_of_methodNamed B.named
    have hts0 : ∀ c ∈ (Jvm.Cond.code x code maxLocals ret :: tables_1), c.before #[Value.ref b] s = true := atoms_spec (ws := Jvm.Cond.code x code maxLocals ret :: tables_1) B.pre
    have hts : ∀ w ∈ lw_tbl, w.before #[Value.ref b] s = true := k2_hts_sels lw_privs (fun w hw => hts0 w (List.mem_cons_of_mem _ hw)) lw_privs_ok
    have hml : c.maxLocals = 7 := B.maxLocals_eq (hts0 _ List.mem_cons_self)
    have X₀ : Stand p l e room_1 s m #[Value.ref b] below meth c s₁ [] 0 0 := Stand.of_body B
    have hh0 : s₁.heap = s.heap := by rw [B.state]; rfl
    have hsz : scr.slots.size = xs.length := by rw [← Array.length_toList, hlist, List.length_map]
    have hval : ∀ j : Nat, j < xs.length → scr.slots[j]? = some (.int (xs.getD j 0)) := fun j hj => by
      rw [← Array.getElem?_toList, hlist]
      simp [hj]
    have hbl : b < s.heap.size := (Array.getElem?_eq_some_iff.mp hcb).1
    have hX : va_X b xs.length (fun j => xs.getD j 0) s s.heap := ⟨scr, hcb, hof, hkn, hsz, hval⟩
    have K : W p l e room_1 s m #[Value.ref b] below meth c s₁.heap [] 0 0 (lw_Z below #[Value.ref b] s) (entryFrame m ([Value.ref b] : List Value).toArray 7) := by
      rw [hh0]
      exact whole_start l hflags hbd ⟨B.exec, B.bytes, B.returns, hml, hown, hts, hX, hbl, B.notSynchronized, hgv⟩
    obtain ⟨t, a1, o, b1, b2, b3⟩ := K s₁ rfl X₀
    exact ⟨t, o, a1, b1, b2, b3⟩
theorem lw_pre_spec {args : Array Value} {s : State} (h : (Jvm.Cond.and given_1 narrow_1).before args s = true) (hr : rest_1_c.before args s = true) : ∃ (b : Addr) (xs : List Int32), lw_P b xs args s := by
  have hs := flat_of_before _ h
  have hq := flat_of_before _ hr
  have hc : (Cond.count 1).before args s = true := hs _ (by decide +kernel)
  have harr : (Cond.arrayOf (.arg 0) .int).before args s = true := hs _ (by decide +kernel)
  have hle : (Cond.le (.length (.arg 0)) (.int 3072)).before args s = true := hs _ (by decide +kernel)
  have hlen : (Cond.isInt (.length (.arg 0))).before args s = true := hq _ (by decide +kernel)
  have hall : (Cond.all (.arg 0) (.isInt (.elem (.arg 0) (.index 0)))).before args s = true := hq _ (by decide +kernel)
  obtain ⟨b, xs, hb, hx⟩ := State.ints_of_pre rfl harr hlen hall
  have hsm : xs.length < 2 ^ 31 := hx.choose_spec.2.2.2
  have hev : (Term.length (.arg 0)).eval args s none [] s = some (.int xs.length.toInt32) := hx.length_eval hb
  have hv := Cond.le_ints hev (show (Term.int 3072).eval args s none [] s = some (.int 3072) from rfl)
  have hd : xs.length.toInt32 ≤ 3072 := by
    simpa [Cond.before, Cond.holds, hv] using hle
  have hN : xs.length ≤ 3072 := (Int32.ofNat_le_ofNat hsm (by decide)).mp (show Int32.ofNat xs.length ≤ Int32.ofNat 3072 from hd)
  exact ⟨b, xs, Cond.one_arg hc (show args[0]? = some (.ref b) from hb), hx, hN, h⟩
theorem lw_comes (l : Launch) (hflags : l.flags = flags0) : Comes l x (Jvm.Cond.code x code maxLocals ret :: tables_1) room_1 (fun tb e args s => Calls_1 tb e args s ∧ rest_1 tb e args s ∧ Pre_1 tb e args s)
    (fun _ _ args s o t => lw_Q args s o t) := by
  intro p e ha hc hk s m args below hf hfit hheap happ hpre
  obtain ⟨b, xs, hP⟩ := lw_pre_spec hpre.2.2 hpre.2.1
  obtain ⟨k, o, h1, h2, h3, hQ⟩ := lw_walk l hflags b xs p e ha hc hk s m args below hf ((Spec.applies_iff_loose hf).mp happ).1 hP trivial
  exact ⟨k, o, h1, h2, h3, hQ⟩
theorem lw_frame {s t : State} {o : Outcome} {args : Array Value} (h : Framed s o t [] 601024 7293034) :
    Framed s o t (fieldLocs frame_1_writes args s ++ arrayLocs frame_1_arrays args s ++ staticLocs frame_1_statics s) 601024 7293034 := h
theorem lw_limb (L : Cond) (hL : ∀ (args : Array Value) (s t : State), L.after args s (.returned (some (.int 1))) t = true) :
    ArmFor flags0 classFile x code maxLocals ret World_1 tables_1 room_1 Calls_1 rest_1 Pre_1
      (fun tb e a s o t => postC L tb e a s o t ∧ Framed s o t (fieldLocs frame_1_writes a s ++ arrayLocs frame_1_arrays a s ++ staticLocs frame_1_statics s) 601024 7293034) := by
  intro l hflags _ _ p e ha hc hk s m args below hf hfit hheap happ hpre
  obtain ⟨k, o, h1, h2, h3, rfl, hF⟩ := lw_comes l hflags p e ha hc hk s m args below hf hfit hheap happ hpre
  exact ⟨k, _, h1, h2, h3, hL args s _, lw_frame hF⟩
theorem i_vc : Claimed_1_1 ∧ Claimed_1_2 := ⟨lw_limb limb_1_1 (fun args s t => by simp [limb_1_1, Cond.after, Cond.holds, Cond.value]), lw_limb limb_1_2 (fun args s t => Cond.after_iff.mpr (by
  first | (rw [show limb_1_2 = Cond.eq .result (.int 1) from rfl, Cond.eq_ints (x := 1) (y := 1) rfl rfl]; simp; done) | (simp [limb_1_2, Cond.value, Term.eval]; done)))⟩

/-! CALLS: a method's run, its contract on the machine, a call of it -/
def ax_l0 : List AV → AL
  | [] => []
  | v :: r => if ax_c2 (some v) = true then some v :: none :: ax_l0 r else some v :: ax_l0 r
def ax_lo (as : List AV) (n : Nat) : AL := ax_l0 as ++ List.replicate (n - (ax_l0 as).length) none
theorem ax_cat2 {ad : Nat → Nat → Nat} {ov : Value} (hov : ov = .null ∨ ∃ t, ov = .ref t) {v : AV} (hv : ax_vv v) : (ax_cv ad ov v).category = 2 ↔ ax_c2 (some v) = true := by
  constructor
  · exact fun h => ax_c2_cat hov h hv.2
  · intro h
    rcases v with x | o
    · cases x <;> first | rfl | cases h
    · cases h
theorem ax_l0_at {ad : Nat → Nat → Nat} {ov : Value} (hov : ov = .null ∨ ∃ t, ov = .ref t) : ∀ (as : List AV), ax_vs as → ∀ (i j : Nat) (v : AV), (ax_l0 as)[j]? = some (some v) → (i + j, ax_cv ad ov v) ∈ lv_args i (as.map (ax_cv ad ov)) := by
  intro as
  induction as with
  | nil =>
    intro _ i j v h
    simp [ax_l0] at h
  | cons a r ih =>
    intro hv i j v h
    have hc := ax_cat2 (ad := ad) hov (ax_vs_h hv)
    unfold ax_l0 at h
    rw [List.map_cons]
    unfold lv_args
    by_cases h2 : ax_c2 (some a) = true
    · rw [if_pos h2] at h
      rw [if_pos (hc.mpr h2)]
      match j, h with
      | 0, h =>
        cases h
        exact List.mem_cons_self
      | 1, h => cases h
      | j + 2, h =>
        have := ih (ax_vs_t hv) (i + 2) j v h
        rw [show i + (j + 2) = i + 2 + j by omega]
        exact List.mem_cons_of_mem _ this
    · rw [if_neg h2] at h
      rw [if_neg (fun q => h2 (hc.mp q))]
      match j, h with
      | 0, h =>
        cases h
        exact List.mem_cons_self
      | j + 1, h =>
        have := ih (ax_vs_t hv) (i + 1) j v h
        rw [show i + (j + 1) = i + 1 + j by omega]
        exact List.mem_cons_of_mem _ this
theorem ax_l0_len {ad : Nat → Nat → Nat} {ov : Value} (hov : ov = .null ∨ ∃ t, ov = .ref t) : ∀ (as : List AV), ax_vs as → (lg_sl (as.map (ax_cv ad ov))).length = (ax_l0 as).length := by
  intro as
  induction as with
  | nil => intro _; rfl
  | cons a r ih =>
    intro hv
    have hc := ax_cat2 (ad := ad) hov (ax_vs_h hv)
    have h := ih (ax_vs_t hv)
    unfold ax_l0
    rw [List.map_cons]
    unfold lg_sl at h ⊢
    rw [List.flatMap_cons, List.length_append, h]
    by_cases h2 : ax_c2 (some a) = true
    · rw [if_pos h2, if_pos (hc.mpr h2)]
      simp
      omega
    · rw [if_neg h2, if_neg (fun q => h2 (hc.mp q))]
      simp
      omega
theorem ax_lo_at {as : List AV} {n j : Nat} {v : AV} (h : (ax_lo as n)[j]? = some (some v)) : (ax_l0 as)[j]? = some (some v) := by
  unfold ax_lo at h
  by_cases hj : j < (ax_l0 as).length
  · rwa [List.getElem?_append_left hj] at h
  · rw [List.getElem?_append_right (by omega)] at h
    have := List.eq_of_mem_replicate (List.mem_of_getElem? h)
    cases this
theorem ax_l0_mem : ∀ (as : List AV) (v : AV), some v ∈ ax_l0 as → v ∈ as := by
  intro as
  induction as with
  | nil =>
    intro v h
    cases h
  | cons a r ih =>
    intro v h
    unfold ax_l0 at h
    split at h
    · rcases List.mem_cons.mp h with e | h
      · cases e
        exact List.mem_cons_self
      · rcases List.mem_cons.mp h with e | h
        · cases e
        · exact List.mem_cons_of_mem _ (ih v h)
    · rcases List.mem_cons.mp h with e | h
      · cases e
        exact List.mem_cons_self
      · exact List.mem_cons_of_mem _ (ih v h)
theorem ax_vL_lo {as : List AV} {n : Nat} (h : ax_vs as) : ax_vL (ax_lo as n) := by
  intro v hv
  obtain ⟨j, hj⟩ := List.mem_iff_getElem?.mp hv
  exact h v (ax_l0_mem as v (List.mem_of_getElem? (ax_lo_at hj)))
theorem ax_lo_has {ad : Nat → Nat → Nat} {ov : Value} (hov : ov = .null ∨ ∃ t, ov = .ref t) {as : List AV} {n : Nat} {ls : Array Slot} (hv : ax_vs as) (h : lv_has ls n (lv_args 0 (as.map (ax_cv ad ov)))) : lv_has ls n (ax_la ad ov (ax_lo as n)) := by
  refine ⟨h.1, h.2.1, fun q hq => h.2.2 q ?_⟩
  obtain ⟨j, w⟩ := q
  obtain ⟨v, hv1, rfl⟩ := ax_la_mem.mp hq
  have := ax_l0_at (ad := ad) hov as hv 0 j v (ax_lo_at hv1)
  rwa [Nat.zero_add] at this
theorem ax_lo_len {as : List AV} {n : Nat} (h : (ax_l0 as).length ≤ n) : (ax_lo as n).length ≤ n := by
  unfold ax_lo
  simp
  omega
/-- where a method ends: what it returns -/
def ax_rt (k : AM) (pc : Nat) (r : Option AV) : Prop :=
  (r = none ∧ k.2.2.2.2.1 = none ∧ decode k.2.2.1 pc = .ok (.return_, 1)) ∨ (∃ x, r = some (.inl (.long x)) ∧ k.2.2.2.2.1 = some .long ∧ decode k.2.2.1 pc = .ok (.lreturn, 1)) ∨ ∃ x ty, r = some (.inl (.int x)) ∧ k.2.2.2.2.1 = some ty ∧ narrow ty (.int x) = .int x ∧ decode k.2.2.1 pc = .ok (.ireturn, 1)
/-- the method k, from its entry with these values and this state, returns r and this state, within d frames more -/
def ax_M (l : Launch) (d : Nat) (k : AM) (as : List AV) (S : AS) (r : Option AV) (S' : AS) : Prop := ∃ pc L', ax_R l d k (0, ax_lo as k.2.2.2.1, [], S) (pc, L', r.toList, S') ∧ ax_rt k pc r
theorem ax_ofW {l : Launch} {y : MethodName} {ws ws' : List Cond} {rm : Room} {Pc : Array Value → State → Prop} {Qc : Array Value → State → Outcome → State → Prop} {mc ms : Nat} {free : Addr → Prop} {cc : ByteArray} {maxL : Nat} {ret : Option FieldType}
    (hy : plainFor y = true) (hw : ws = Cond.code y cc maxL ret :: ws')
    (body : ∀ p e s m args below meth c s₁, BodyLoose p l y (headSpec ws rm) cc maxL ret e s m args below meth c s₁ → c.maxLocals = maxL → Pc args s → W p l e (headSpec ws rm).room s m args below meth c s.heap [] 0 0 (MQ below Qc args s mc ms free) (entryFrame m args maxL)) : Met l y ws rm Pc Qc mc ms free := by
  refine MetFree.of_bodySF (code := cc) (maxLocals := maxL) (ret := ret) hy ?_ ?_
  · intro args s m h hn
    obtain ⟨meth, c, h1, h2, h3, h4, h5, h6, -, -⟩ := Cond.code_spec hn (atoms_spec (ws := ws) h _ (by rw [hw]; exact List.mem_cons_self))
    exact ⟨meth, c, h1, h2, h3, h4, h5, h6⟩
  · intro p e s m args below meth c s₁ B hml hP _
    have hh0 : s₁.heap = s.heap := by rw [B.state]; rfl
    obtain ⟨t, a1, o, b1, b2, b3⟩ := body p e s m args below meth c s₁ B hml hP s₁ hh0 (Stand.of_body B)
    exact ⟨t, o, a1, b1, b2, ⟨b3.1, b3.2⟩⟩
theorem ax_plain {k : AM} (h : ax_ok k) : plainFor k.2.1 = true := by
  rcases ax_T3 k.1 h.1 with q | q
  · exact plainFor_of_name (by rw [h.2.1]; exact q)
  · exact h.2.2.1 q
def ax_rm (d : Nat) : Room := { frames := d, cells := 0, slots := 0, locals := 100 * d }
def ax_B (ad : Nat → Nat → Nat) (ov : Value) (dC : Nat → ClassId) (dI : Nat → Nat → Nat) (cy : Nat → ClassId) (Ln : Nat) (xs : Nat → Int32) (A : Nat → Prop) (u : AS) (t : State) : Prop := va_P (dC, dI) vwCl (ax_gw ad ov cy u) t.heap ∧ va_D A (ax_gw ad ov cy u) ∧ ax_vS u ∧ ax_Sc Ln xs u
def ax_Pc (ad : Nat → Nat → Nat) (ov : Value) (dC : Nat → ClassId) (dI : Nat → Nat → Nat) (cy : Nat → ClassId) (Ln : Nat) (xs : Nat → Int32) (as : List AV) (S : AS) (sz : Nat) : Array Value → State → Prop :=
  va_Pc (as.map (ax_cv ad ov)) (fun U => U.heap.size = sz ∧ va_P (dC, dI) vwCl (ax_gw ad ov cy S) U.heap ∧ va_K (dC, dI) vwCl (ax_tys cy) U ∧ va_D (fun _ => True) (ax_gw ad ov cy S) ∧ ax_Ct ad ov Ln xs (va_A (ax_gw ad ov cy S) sz) U U.heap)
theorem ax_body {l : Launch} {d : Nat} {k : AM} {as : List AV} {S S1 : AS} {r : Option AV} {ad : Nat → Nat → Nat} {ov : Value} {dC : Nat → ClassId} {dI : Nat → Nat → Nat} {cy : Nat → ClassId} {Ln : Nat} {xs : Nat → Int32} {sz pcR : Nat} {L' : AL} (hov : ov = .null ∨ ∃ t, ov = .ref t) (hok : ax_ok k) (hva : ax_vs as) (hvS : ax_vS S) (hsc : ax_Sc Ln xs S) (hn : (ax_l0 as).length ≤ k.2.2.2.1) (hR : ax_R l d k (0, ax_lo as k.2.2.2.1, [], S) (pcR, L', r.toList, S1)) (Qc : Array Value → State → Outcome → State → Prop)
    (hret : ∀ (p : Program) (e : Env) (s : State) (m : MethodId) (args : Array Value) (below : List Frame) (meth : Method) (c : Code) (H : Heap) (locs : List Loc) (ls : Array Slot), s.heap.size = sz → p.tables.exec = Jvm.exec → c.code = k.2.2.1 → meth.sig.returnType = k.2.2.2.2.1 → meth.locks = false → ax_In s (va_A (ax_gw ad ov cy S) sz) ad ov dC dI cy Ln xs k.2.2.2.1 (pcR, L', r.toList, S1) H locs ls → W p l e (headSpec (ax_ws k) (ax_rm d)).room s m args below meth c H locs 0 0 (MQ below Qc args s 0 0 (va_A (ax_gw ad ov cy S) sz)) (F0 m pcR ls (r.toList.map (ax_cv ad ov)))) :
    Met l k.2.1 (ax_ws k) (ax_rm d) (ax_Pc ad ov dC dI cy Ln xs as S sz) Qc 0 0 (va_A (ax_gw ad ov cy S) sz) := by
  refine ax_ofW (cc := k.2.2.1) (maxL := k.2.2.2.1) (ret := k.2.2.2.2.1) (ax_plain hok) rfl ?_
  intro p e s m args below meth c s₁ B hml hv
  obtain ⟨rfl, hsz, hP, hK, hD0, hCt⟩ := hv
  have hts := atoms_spec (ws := ax_ws k) B.pre
  have hown : s.vm.findClass k.1.2.1 = some m.cls := by rw [← hok.2.1]; exact findClass_of_methodNamed B.named
  have hret' := fun H locs ls => hret p e s m (as.map (ax_cv ad ov)).toArray below meth c H locs ls hsz B.exec B.bytes B.returns B.notSynchronized
  subst hsz
  have hl := lv_entry (as.map (ax_cv ad ov)) (n := k.2.2.2.1) (by rw [ax_l0_len hov as hva]; exact hn)
  rw [lg_entry_eq]
  exact hR p e _ s m _ below meth c 0 0 _ (va_A (ax_gw ad ov cy S) s.heap.size) ad ov dC dI cy Ln xs ⟨B.exec, B.bytes, hml, hown, fun w h => hts w (List.mem_cons_of_mem _ h), ⟨hok.1, trivial⟩, ⟨Nat.le_refl d, Nat.le_refl (100 * d)⟩, fun q h => Or.inr h, hK, hCt, hov⟩ (Nat.zero_le _) (Nat.zero_le _) hret' s.heap [] _ ⟨⟨ax_vL_lo hva, ax_vs_nil, hvS⟩, ⟨hP, hD0.self, va_S.rf⟩, ⟨ax_lo_has hov hva hl, ax_lo_len hn⟩, hsc⟩
theorem ax_meti {l : Launch} {d : Nat} {k : AM} {as : List AV} {S S1 : AS} {ad : Nat → Nat → Nat} {ov : Value} {dC : Nat → ClassId} {dI : Nat → Nat → Nat} {cy : Nat → ClassId} {Ln : Nat} {xs : Nat → Int32} {sz : Nat} (hov : ov = .null ∨ ∃ t, ov = .ref t) (hok : ax_ok k) (hva : ax_vs as) (hvS : ax_vS S) (hsc : ax_Sc Ln xs S) (hn : (ax_l0 as).length ≤ k.2.2.2.1) {x : Int32} (hM : ax_M l d k as S (some (.inl (.int x))) S1) : Met l k.2.1 (ax_ws k) (ax_rm d) (ax_Pc ad ov dC dI cy Ln xs as S sz) (va_Qi (fun r u => r = x ∧ u = S1) (ax_B ad ov dC dI cy Ln xs (va_A (ax_gw ad ov cy S) sz)) (va_A (ax_gw ad ov cy S) sz)) 0 0 (va_A (ax_gw ad ov cy S) sz) := by
  obtain ⟨pcR, L', hR, hrt⟩ := hM
  refine ax_body hov hok hva hvS hsc hn hR _ (fun p e s m args below meth c H locs ls hsz hx hb hr hlk hi => ?_)
  obtain ⟨⟨v1, v2, v3⟩, ⟨w1, w2, w3⟩, l1, sc⟩ := hi
  rcases hrt with ⟨z, -⟩ | ⟨y, z, -⟩ | ⟨y, ty, z, h2, h3, h4⟩
  · cases z
  · cases z
  · cases z
    exact W.zret hx hb (hr.trans h2) h3 (fun t ht hW => ⟨⟨x, S1, rfl, ⟨rfl, rfl⟩, by rw [ht]; exact w1, w2, v3, sc⟩, w3.F ht⟩) w3.2.2 h4 hlk
theorem ax_metl {l : Launch} {d : Nat} {k : AM} {as : List AV} {S S1 : AS} {ad : Nat → Nat → Nat} {ov : Value} {dC : Nat → ClassId} {dI : Nat → Nat → Nat} {cy : Nat → ClassId} {Ln : Nat} {xs : Nat → Int32} {sz : Nat} (hov : ov = .null ∨ ∃ t, ov = .ref t) (hok : ax_ok k) (hva : ax_vs as) (hvS : ax_vS S) (hsc : ax_Sc Ln xs S) (hn : (ax_l0 as).length ≤ k.2.2.2.1) {x : Int64} (hM : ax_M l d k as S (some (.inl (.long x))) S1) : Met l k.2.1 (ax_ws k) (ax_rm d) (ax_Pc ad ov dC dI cy Ln xs as S sz) (va_Ql (fun r u => r = x ∧ u = S1) (ax_B ad ov dC dI cy Ln xs (va_A (ax_gw ad ov cy S) sz)) (va_A (ax_gw ad ov cy S) sz)) 0 0 (va_A (ax_gw ad ov cy S) sz) := by
  obtain ⟨pcR, L', hR, hrt⟩ := hM
  refine ax_body hov hok hva hvS hsc hn hR _ (fun p e s m args below meth c H locs ls hsz hx hb hr hlk hi => ?_)
  obtain ⟨⟨v1, v2, v3⟩, ⟨w1, w2, w3⟩, l1, sc⟩ := hi
  rcases hrt with ⟨z, -⟩ | ⟨y, z, h2, h4⟩ | ⟨y, ty, z, h2, h3, h4⟩
  · cases z
  · cases z
    exact W.lret hx hb (hr.trans h2) (fun t ht hW => ⟨⟨x, S1, rfl, ⟨rfl, rfl⟩, by rw [ht]; exact w1, w2, v3, sc⟩, w3.F ht⟩) w3.2.2 h4 hlk
  · cases z
theorem ax_metv {l : Launch} {d : Nat} {k : AM} {as : List AV} {S S1 : AS} {ad : Nat → Nat → Nat} {ov : Value} {dC : Nat → ClassId} {dI : Nat → Nat → Nat} {cy : Nat → ClassId} {Ln : Nat} {xs : Nat → Int32} {sz : Nat} (hov : ov = .null ∨ ∃ t, ov = .ref t) (hok : ax_ok k) (hva : ax_vs as) (hvS : ax_vS S) (hsc : ax_Sc Ln xs S) (hn : (ax_l0 as).length ≤ k.2.2.2.1) (hM : ax_M l d k as S none S1) : Met l k.2.1 (ax_ws k) (ax_rm d) (ax_Pc ad ov dC dI cy Ln xs as S sz) (va_Qv (fun u => u = S1) (ax_B ad ov dC dI cy Ln xs (va_A (ax_gw ad ov cy S) sz)) (va_A (ax_gw ad ov cy S) sz)) 0 0 (va_A (ax_gw ad ov cy S) sz) := by
  obtain ⟨pcR, L', hR, hrt⟩ := hM
  refine ax_body hov hok hva hvS hsc hn hR _ (fun p e s m args below meth c H locs ls hsz hx hb hr hlk hi => ?_)
  obtain ⟨⟨v1, v2, v3⟩, ⟨w1, w2, w3⟩, l1, sc⟩ := hi
  rcases hrt with ⟨z, h2, h4⟩ | ⟨y, z, -⟩ | ⟨y, ty, z, h2, h3, h4⟩
  · exact W.vret hx hb (hr.trans h2) (fun t ht hW => ⟨⟨S1, rfl, rfl, by rw [ht]; exact w1, w2, v3, sc⟩, w3.F ht⟩) w3.2.2 h4 hlk
  · cases z
  · cases z
/-- what nobody writes, seen by a callee -/
theorem ax_Ct.move {ad : Nat → Nat → Nat} {ov : Value} {Ln : Nat} {xs : Nat → Int32} {A B : Nat → Prop} {s U : State} {H : Heap} (h : ax_Ct ad ov Ln xs A s s.heap) (hW : s.WarmedH U.vm) (hq : ∀ q : Nat, q < s.heap.size → ¬ A q → H[q]? = s.heap[q]?) (hAB : ∀ q, B q → A q) : ax_Ct ad ov Ln xs B U H := by
  obtain ⟨h1, h2, h3, h4, h5⟩ := h
  refine ⟨vk_S.moved hW.alike ((h1.kept hq).narrow hAB), fun t ht => va_T.moved hW.alike (((h2 t ht).kept hq).narrow hAB), fun K hK q hm => ?_, fun K hK q hm => ?_, va_T.moved hW.alike ((h5.kept hq).narrow hAB)⟩
  · obtain ⟨C, n, d, a1, a2⟩ := h3 K hK q hm
    exact ⟨C, n, d, a1, va_Z.moved hW.alike ((a2.kept hq).narrow hAB)⟩
  · rcases h4 K hK q hm with a | a | ⟨n, tx, a1, a2⟩
    · exact Or.inl a
    · exact Or.inr (Or.inl a)
    · exact Or.inr (Or.inr ⟨n, tx, a1, vk_R.warm hW a2⟩)
theorem ax_Ct.same {ad : Nat → Nat → Nat} {ov : Value} {Ln : Nat} {xs : Nat → Int32} {A : Nat → Prop} {U V : State} {H : Heap} (h : ax_Ct ad ov Ln xs A U H) (hv : V.vm = U.vm) : ax_Ct ad ov Ln xs A V H := by
  have ha : U.vm.Alike V.vm := by rw [hv]; exact Vm.Alike.refl U.vm
  obtain ⟨h1, h2, h3, h4, h5⟩ := h
  refine ⟨vk_S.moved ha h1, fun t ht => va_T.moved ha (h2 t ht), fun K hK q hm => ?_, fun K hK q hm => ?_, va_T.moved ha h5⟩
  · obtain ⟨C, n, d, a1, a2⟩ := h3 K hK q hm
    exact ⟨C, n, d, a1, va_Z.moved ha a2⟩
  · rcases h4 K hK q hm with a | a | ⟨n, tx, a1, a2⟩
    · exact Or.inl a
    · exact Or.inr (Or.inl a)
    · exact Or.inr (Or.inr ⟨n, tx, a1, vk_R.same hv a2⟩)
theorem ax_blind {ad : Nat → Nat → Nat} {ov : Value} {dC : Nat → ClassId} {dI : Nat → Nat → Nat} {cy : Nat → ClassId} {Ln : Nat} {xs : Nat → Int32} {as : List AV} {S : AS} {sz : Nat} : FrameBlind (ax_Pc ad ov dC dI cy Ln xs as S sz) := by
  intro a U g mk q
  obtain ⟨q0, q1, qP, qK, qD, qC⟩ := q
  exact ⟨q0, q1, qP, va_K.moved (u := U) (U := U.calling g mk a) (Vm.Alike.refl U.vm) qK, qD, qC.same rfl⟩
theorem ax_good : GoodIn ax_tb ax_tb := fun w hw => ⟨hw, good_of_word (List.mem_filter.mp hw).2⟩
theorem ax_goodk {k : AM} (h : ax_ok k) : GoodIn ax_tb (ax_ws k) := fun w hw => by
  rcases List.mem_cons.mp hw with rfl | q
  · exact ax_good _ h.2.2.2.1
  · exact ax_good _ q
/-- a call of a method of ours out of class K by its entry idx, with n parameters -/
def ax_lS (K : AK) (idx : Nat) (k : AM) : Prop := ax_ok k ∧ Cond.methodLink K.2.1 idx k.2.1 ∈ ax_tb ∧ Cond.static k.2.1 ∈ ax_tb ∧ (k.2.1.cls ≠ "java/lang/invoke/MethodHandle" ∧ k.2.1.cls ≠ "java/lang/invoke/VarHandle" ∧ (parseMethodDescriptor k.2.1.desc).map (fun d => d.parameters.length) = some k.2.2.2.2.2.1)
def ax_lV (K : AK) (idx : Nat) (k : AM) : Prop := ax_ok k ∧ Cond.methodLink K.2.1 idx k.2.1 ∈ ax_tb ∧ Cond.instanceMethod k.2.1 ∈ ax_tb ∧ Cond.selects k.2.1.cls k.2.1 k.2.1 ∈ ax_tb ∧ (k.2.1.cls ≠ "java/lang/invoke/MethodHandle" ∧ k.2.1.cls ≠ "java/lang/invoke/VarHandle" ∧ (parseMethodDescriptor k.2.1.desc).map (fun d => d.parameters.length) = some k.2.2.2.2.2.1)
theorem ax_T6 : ∀ K ∈ ax_KL, K.1 < 13 → (vwCl[K.1]?).map (fun r => r.1) = some K.2.1 := by decide +kernel
theorem ax_T7 : ∀ K ∈ ax_KL, K.1 = 14 → K.2.1 = "java/lang/String" := by decide +kernel
theorem ax_cSi {l : Launch} {d : Nat} {k k' : AM} {pc idx : Nat} {L : AL} {S S1 : AS} {c2 : AC} {x : Int32} (as rest : List AV) {st : List AV} (hl : ax_lS k.1 idx k') (hd : decode k.2.2.1 pc = .ok (.invokestatic idx, 3)) (hst : st = as.reverse ++ rest) (hnp : as.length = k'.2.2.2.2.2.1) (hn : (ax_l0 as).length ≤ k'.2.2.2.1) (hc : ax_cats rest ≤ 8) (hM : ax_M l d k' as S (some (.inl (.int x))) S1) (hr : ax_R l (d + 1) k (pc + 3, L, .inl (.int x) :: rest, S1) c2) : ax_R l (d + 1) k (pc, L, st, S) c2 := by
  subst hst
  intro p e R s m args below meth c cells slots Q A ad ov dC dI cy Ln xs hx hcc hss hk H locs ls hi
  have hr' := hr p e R s m args below meth c cells slots Q A ad ov dC dI cy Ln xs hx hcc hss hk
  obtain ⟨⟨v1, v2, v3⟩, ⟨w1, w2, w3⟩, ⟨l1, l2⟩, sc⟩ := hi
  have v9 : ax_vs rest := fun v hv => v2 v (List.mem_append_right _ hv)
  have v8 : ax_vs as := fun v hv => v2 v (List.mem_append_left _ (List.mem_reverse.mpr hv))
  have hmoved : ∀ q, va_A (ax_gw ad ov cy S) H.size q → A q := fun q hq => by
    rcases hq with ⟨j, z, hj⟩ | hq
    · exact w2.2 j _ hj
    · exact hx.2.2.2.2.2.2.2.1 q (Nat.le_trans w3.1 hq)
  have hpre : ∀ U : State, U.heap = H → s.WarmedH U.vm → ax_Pc ad ov dC dI cy Ln xs as S H.size (as.map (ax_cv ad ov)).toArray U := fun U hU hW => ⟨rfl, by rw [hU], by rw [hU]; exact w1, va_K.moved hW.alike hx.2.2.2.2.2.2.2.2.1, w2.weaken (fun _ _ _ _ => trivial), by rw [hU]; exact ax_Ct.move hx.2.2.2.2.2.2.2.2.2.1 hW w3.2.1 hmoved⟩
  have hcat := Nat.le_trans (ax_cats_le (ad := ad) hx.2.2.2.2.2.2.2.2.2.2 v9) hc
  have hfr := hx.2.2.2.2.2.2.1
  have hmx := hl.1.2.2.2.2.2
  have hroom : (ax_rm d).frames + 1 ≤ R.frames ∧ 8 + (k'.2.2.2.1 + 11) + (ax_rm d).locals ≤ R.locals := ⟨hfr.1, by show 8 + (k'.2.2.2.1 + 11) + 100 * d ≤ R.locals; omega⟩
  have hts := hx.2.2.2.2.1
  have hcb := callB_of (R := R) (n := k'.2.2.2.2.2.1) hts (ax_goodk hl.1) rfl rfl rfl (hts _ hl.1.2.2.2.2.1) (hts _ hl.2.1) hl.2.2.2 hroom
  have hmp : (as.reverse ++ rest).map (ax_cv ad ov) = (as.map (ax_cv ad ov)).reverse ++ rest.map (ax_cv ad ov) := by rw [List.map_append, List.map_reverse]
  show W p l e R s m args below meth c H locs cells slots Q (F0 m pc ls ((as.reverse ++ rest).map (ax_cv ad ov)))
  rw [hmp]
  refine va_calli (va_runS (As := as.map (ax_cv ad ov)) (rest := rest.map (ax_cv ad ov)) ⟨hx.1, hx.2.1, hx.2.2.1, hx.2.2.2.1, hts⟩ (ax_meti (sz := H.size) hx.2.2.2.2.2.2.2.2.2.2 hl.1 v8 v3 sc hn hM) ⟨hcb, hts _ hl.2.2.1⟩ ⟨ax_blind, hpre⟩ rfl (by rw [List.length_map]; exact hnp) l1.1 rfl (lv_room hcat) hd ⟨by omega, by omega⟩) w3 (fun q _ h => hmoved q h) hmoved (fun r u t H1 locs1 ht hvm hw hB hz1 hk1 hS1 => ?_)
  obtain ⟨rfl, rfl⟩ := hw
  obtain ⟨b1, b2, b3, b4⟩ := hB
  rw [ht] at b1
  exact hr' H1 locs1 ls ⟨⟨v1, ax_vs_c (ax_vv_i _) v9, b3⟩, ⟨b1, b2.weaken (fun _ _ _ h => hmoved _ h), hS1⟩, ⟨l1, l2⟩, b4⟩
theorem ax_cVi {l : Launch} {d : Nat} {k k' : AM} {pc idx ka i : Nat} {L : AL} {S S1 : AS} {c2 : AC} {x : Int32} (as rest : List AV) {st : List AV} (hl : ax_lV k.1 idx k') (hd : decode k.2.2.1 pc = .ok (.invokevirtual idx, 3)) (hst : st = as.reverse ++ .inr (ka, i) :: rest) (hka : ((ax_kd ka).1 = 0 ∧ (ax_kd ka).2.1 = k'.1.1 ∧ k'.1.1 < 13) ∨ ((ax_kd ka).1 = 3 ∧ k'.1.1 = 14)) (hnp : as.length = k'.2.2.2.2.2.1) (hn : (ax_l0 (.inr (ka, i) :: as)).length ≤ k'.2.2.2.1) (hc : ax_cats rest ≤ 8) (hM : ax_M l d k' (.inr (ka, i) :: as) S (some (.inl (.int x))) S1) (hr : ax_R l (d + 1) k (pc + 3, L, .inl (.int x) :: rest, S1) c2) : ax_R l (d + 1) k (pc, L, st, S) c2 := by
  subst hst
  intro p e R s m args below meth c cells slots Q A ad ov dC dI cy Ln xs hx hcc hss hk H locs ls hi
  have hr' := hr p e R s m args below meth c cells slots Q A ad ov dC dI cy Ln xs hx hcc hss hk
  obtain ⟨⟨v1, v2, v3⟩, ⟨w1, w2, w3⟩, ⟨l1, l2⟩, sc⟩ := hi
  have v9 : ax_vs rest := fun v hv => v2 v (List.mem_append_right _ (List.mem_cons_of_mem _ hv))
  have v7 : ax_vv (.inr (ka, i)) := v2 _ (List.mem_append_right _ List.mem_cons_self)
  have v8 : ax_vs (.inr (ka, i) :: as) := ax_vs_c v7 (fun v hv => v2 v (List.mem_append_left _ (List.mem_reverse.mpr hv)))
  have hmoved : ∀ q, va_A (ax_gw ad ov cy S) H.size q → A q := fun q hq => by
    rcases hq with ⟨j, z, hj⟩ | hq
    · exact w2.2 j _ hj
    · exact hx.2.2.2.2.2.2.2.1 q (Nat.le_trans w3.1 hq)
  have hpre : ∀ U : State, U.heap = H → s.WarmedH U.vm → ax_Pc ad ov dC dI cy Ln xs (.inr (ka, i) :: as) S H.size ((.inr (ka, i) :: as).map (ax_cv ad ov)).toArray U := fun U hU hW => ⟨rfl, by rw [hU], by rw [hU]; exact w1, va_K.moved hW.alike hx.2.2.2.2.2.2.2.2.1, w2.weaken (fun _ _ _ _ => trivial), by rw [hU]; exact ax_Ct.move hx.2.2.2.2.2.2.2.2.2.1 hW w3.2.1 hmoved⟩
  have hcat := Nat.le_trans (ax_cats_le (ad := ad) hx.2.2.2.2.2.2.2.2.2.2 v9) hc
  have hfr := hx.2.2.2.2.2.2.1
  have hmx := hl.1.2.2.2.2.2
  have hroom : (ax_rm d).frames + 1 ≤ R.frames ∧ 8 + (k'.2.2.2.1 + 11) + (ax_rm d).locals ≤ R.locals := ⟨hfr.1, by show 8 + (k'.2.2.2.1 + 11) + 100 * d ≤ R.locals; omega⟩
  have hts := hx.2.2.2.2.1
  have hcb := callB_of (R := R) (n := k'.2.2.2.2.2.1) hts (ax_goodk hl.1) rfl rfl rfl (hts _ hl.1.2.2.2.2.1) (hts _ hl.2.1) hl.2.2.2.2 hroom
  have hrf : ax_cv ad ov (.inr (ka, i)) = .ref (ad ka i) := ax_cv_k (by omega)
  have hrecv : ∃ cell : Cell, H[ad ka i]? = some cell ∧ cell.vm.isStatics = false ∧ s.vm.findClass k'.2.1.cls = some cell.cls := by
    rcases hka with ⟨a1, a2, a3⟩ | ⟨a1, a2⟩
    · obtain ⟨q, -, hq⟩ := ax_gw_at (ad := ad) (ov := ov) (cy := cy) S (show (ax_kd ka).1 ≤ 1 by omega) (v7.1 ka i rfl)
      have he : ax_ce ad ov cy S ka i = .inr ((ax_kd ka).2.1, (List.range (ax_nf (ax_kd ka).2.1)).map (fun j => ax_cv ad ov (ax_fv S ka i (ax_kd ka).2.1 j))) := if_pos a1
      rw [he, a2] at hq
      obtain ⟨r9, h91, h92⟩ := Option.map_eq_some_iff.mp (ax_T6 k'.1 hl.1.1 a3)
      rw [hl.1.2.1, ← h92]
      exact va_recv hx.2.2.2.2.2.2.2.2.1 w1 h91 hq
    · have e64 := ax_kd3 a1
      subst e64
      rw [hl.1.2.1, ax_T7 k'.1 hl.1.1 a2]
      exact vk_recv hx.2.2.2.2.2.2.2.2.2.1.1 (v7.1 64 i rfl) w3
  have hmp : (as.reverse ++ .inr (ka, i) :: rest).map (ax_cv ad ov) = (as.map (ax_cv ad ov)).reverse ++ .ref (ad ka i) :: rest.map (ax_cv ad ov) := by rw [List.map_append, List.map_reverse, List.map_cons, hrf]
  show W p l e R s m args below meth c H locs cells slots Q (F0 m pc ls ((as.reverse ++ .inr (ka, i) :: rest).map (ax_cv ad ov)))
  rw [hmp]
  have hpre' : ∀ U : State, U.heap = H → s.WarmedH U.vm → ax_Pc ad ov dC dI cy Ln xs (.inr (ka, i) :: as) S H.size (Value.ref (ad ka i) :: as.map (ax_cv ad ov)).toArray U := fun U hU hW => by
    have := hpre U hU hW
    rw [List.map_cons, hrf] at this
    exact this
  refine va_calli (va_runV (As := as.map (ax_cv ad ov)) (rest := rest.map (ax_cv ad ov)) (C := k'.2.1.cls) ⟨hx.1, hx.2.1, hx.2.2.1, hx.2.2.2.1, hts⟩ (ax_meti (sz := H.size) hx.2.2.2.2.2.2.2.2.2.2 hl.1 v8 v3 sc hn hM) ⟨hcb, hts _ hl.2.2.1, hts _ hl.2.2.2.1⟩ ⟨ax_blind, hrecv, hpre'⟩ rfl (by rw [List.length_map]; exact hnp) l1.1 rfl (lv_room hcat) hd ⟨by omega, by omega⟩) w3 (fun q _ h => hmoved q h) hmoved (fun r u t H1 locs1 ht hvm hw hB hz1 hk1 hS1 => ?_)
  obtain ⟨rfl, rfl⟩ := hw
  obtain ⟨b1, b2, b3, b4⟩ := hB
  rw [ht] at b1
  exact hr' H1 locs1 ls ⟨⟨v1, ax_vs_c (ax_vv_i _) v9, b3⟩, ⟨b1, b2.weaken (fun _ _ _ h => hmoved _ h), hS1⟩, ⟨l1, l2⟩, b4⟩
theorem ax_cSl {l : Launch} {d : Nat} {k k' : AM} {pc idx : Nat} {L : AL} {S S1 : AS} {c2 : AC} {x : Int64} (as rest : List AV) {st : List AV} (hl : ax_lS k.1 idx k') (hd : decode k.2.2.1 pc = .ok (.invokestatic idx, 3)) (hst : st = as.reverse ++ rest) (hnp : as.length = k'.2.2.2.2.2.1) (hn : (ax_l0 as).length ≤ k'.2.2.2.1) (hc : ax_cats rest ≤ 8) (hM : ax_M l d k' as S (some (.inl (.long x))) S1) (hr : ax_R l (d + 1) k (pc + 3, L, .inl (.long x) :: rest, S1) c2) : ax_R l (d + 1) k (pc, L, st, S) c2 := by
  subst hst
  intro p e R s m args below meth c cells slots Q A ad ov dC dI cy Ln xs hx hcc hss hk H locs ls hi
  have hr' := hr p e R s m args below meth c cells slots Q A ad ov dC dI cy Ln xs hx hcc hss hk
  obtain ⟨⟨v1, v2, v3⟩, ⟨w1, w2, w3⟩, ⟨l1, l2⟩, sc⟩ := hi
  have v9 : ax_vs rest := fun v hv => v2 v (List.mem_append_right _ hv)
  have v8 : ax_vs as := fun v hv => v2 v (List.mem_append_left _ (List.mem_reverse.mpr hv))
  have hmoved : ∀ q, va_A (ax_gw ad ov cy S) H.size q → A q := fun q hq => by
    rcases hq with ⟨j, z, hj⟩ | hq
    · exact w2.2 j _ hj
    · exact hx.2.2.2.2.2.2.2.1 q (Nat.le_trans w3.1 hq)
  have hpre : ∀ U : State, U.heap = H → s.WarmedH U.vm → ax_Pc ad ov dC dI cy Ln xs as S H.size (as.map (ax_cv ad ov)).toArray U := fun U hU hW => ⟨rfl, by rw [hU], by rw [hU]; exact w1, va_K.moved hW.alike hx.2.2.2.2.2.2.2.2.1, w2.weaken (fun _ _ _ _ => trivial), by rw [hU]; exact ax_Ct.move hx.2.2.2.2.2.2.2.2.2.1 hW w3.2.1 hmoved⟩
  have hcat := Nat.le_trans (ax_cats_le (ad := ad) hx.2.2.2.2.2.2.2.2.2.2 v9) hc
  have hfr := hx.2.2.2.2.2.2.1
  have hmx := hl.1.2.2.2.2.2
  have hroom : (ax_rm d).frames + 1 ≤ R.frames ∧ 8 + (k'.2.2.2.1 + 11) + (ax_rm d).locals ≤ R.locals := ⟨hfr.1, by show 8 + (k'.2.2.2.1 + 11) + 100 * d ≤ R.locals; omega⟩
  have hts := hx.2.2.2.2.1
  have hcb := callB_of (R := R) (n := k'.2.2.2.2.2.1) hts (ax_goodk hl.1) rfl rfl rfl (hts _ hl.1.2.2.2.2.1) (hts _ hl.2.1) hl.2.2.2 hroom
  have hmp : (as.reverse ++ rest).map (ax_cv ad ov) = (as.map (ax_cv ad ov)).reverse ++ rest.map (ax_cv ad ov) := by rw [List.map_append, List.map_reverse]
  show W p l e R s m args below meth c H locs cells slots Q (F0 m pc ls ((as.reverse ++ rest).map (ax_cv ad ov)))
  rw [hmp]
  refine va_calll (va_runS (As := as.map (ax_cv ad ov)) (rest := rest.map (ax_cv ad ov)) ⟨hx.1, hx.2.1, hx.2.2.1, hx.2.2.2.1, hts⟩ (ax_metl (sz := H.size) hx.2.2.2.2.2.2.2.2.2.2 hl.1 v8 v3 sc hn hM) ⟨hcb, hts _ hl.2.2.1⟩ ⟨ax_blind, hpre⟩ rfl (by rw [List.length_map]; exact hnp) l1.1 rfl (lv_room hcat) hd ⟨by omega, by omega⟩) w3 (fun q _ h => hmoved q h) hmoved (fun r u t H1 locs1 ht hvm hw hB hz1 hk1 hS1 => ?_)
  obtain ⟨rfl, rfl⟩ := hw
  obtain ⟨b1, b2, b3, b4⟩ := hB
  rw [ht] at b1
  exact hr' H1 locs1 ls ⟨⟨v1, ax_vs_c (ax_vv_j _) v9, b3⟩, ⟨b1, b2.weaken (fun _ _ _ h => hmoved _ h), hS1⟩, ⟨l1, l2⟩, b4⟩
theorem ax_cVl {l : Launch} {d : Nat} {k k' : AM} {pc idx ka i : Nat} {L : AL} {S S1 : AS} {c2 : AC} {x : Int64} (as rest : List AV) {st : List AV} (hl : ax_lV k.1 idx k') (hd : decode k.2.2.1 pc = .ok (.invokevirtual idx, 3)) (hst : st = as.reverse ++ .inr (ka, i) :: rest) (hka : ((ax_kd ka).1 = 0 ∧ (ax_kd ka).2.1 = k'.1.1 ∧ k'.1.1 < 13) ∨ ((ax_kd ka).1 = 3 ∧ k'.1.1 = 14)) (hnp : as.length = k'.2.2.2.2.2.1) (hn : (ax_l0 (.inr (ka, i) :: as)).length ≤ k'.2.2.2.1) (hc : ax_cats rest ≤ 8) (hM : ax_M l d k' (.inr (ka, i) :: as) S (some (.inl (.long x))) S1) (hr : ax_R l (d + 1) k (pc + 3, L, .inl (.long x) :: rest, S1) c2) : ax_R l (d + 1) k (pc, L, st, S) c2 := by
  subst hst
  intro p e R s m args below meth c cells slots Q A ad ov dC dI cy Ln xs hx hcc hss hk H locs ls hi
  have hr' := hr p e R s m args below meth c cells slots Q A ad ov dC dI cy Ln xs hx hcc hss hk
  obtain ⟨⟨v1, v2, v3⟩, ⟨w1, w2, w3⟩, ⟨l1, l2⟩, sc⟩ := hi
  have v9 : ax_vs rest := fun v hv => v2 v (List.mem_append_right _ (List.mem_cons_of_mem _ hv))
  have v7 : ax_vv (.inr (ka, i)) := v2 _ (List.mem_append_right _ List.mem_cons_self)
  have v8 : ax_vs (.inr (ka, i) :: as) := ax_vs_c v7 (fun v hv => v2 v (List.mem_append_left _ (List.mem_reverse.mpr hv)))
  have hmoved : ∀ q, va_A (ax_gw ad ov cy S) H.size q → A q := fun q hq => by
    rcases hq with ⟨j, z, hj⟩ | hq
    · exact w2.2 j _ hj
    · exact hx.2.2.2.2.2.2.2.1 q (Nat.le_trans w3.1 hq)
  have hpre : ∀ U : State, U.heap = H → s.WarmedH U.vm → ax_Pc ad ov dC dI cy Ln xs (.inr (ka, i) :: as) S H.size ((.inr (ka, i) :: as).map (ax_cv ad ov)).toArray U := fun U hU hW => ⟨rfl, by rw [hU], by rw [hU]; exact w1, va_K.moved hW.alike hx.2.2.2.2.2.2.2.2.1, w2.weaken (fun _ _ _ _ => trivial), by rw [hU]; exact ax_Ct.move hx.2.2.2.2.2.2.2.2.2.1 hW w3.2.1 hmoved⟩
  have hcat := Nat.le_trans (ax_cats_le (ad := ad) hx.2.2.2.2.2.2.2.2.2.2 v9) hc
  have hfr := hx.2.2.2.2.2.2.1
  have hmx := hl.1.2.2.2.2.2
  have hroom : (ax_rm d).frames + 1 ≤ R.frames ∧ 8 + (k'.2.2.2.1 + 11) + (ax_rm d).locals ≤ R.locals := ⟨hfr.1, by show 8 + (k'.2.2.2.1 + 11) + 100 * d ≤ R.locals; omega⟩
  have hts := hx.2.2.2.2.1
  have hcb := callB_of (R := R) (n := k'.2.2.2.2.2.1) hts (ax_goodk hl.1) rfl rfl rfl (hts _ hl.1.2.2.2.2.1) (hts _ hl.2.1) hl.2.2.2.2 hroom
  have hrf : ax_cv ad ov (.inr (ka, i)) = .ref (ad ka i) := ax_cv_k (by omega)
  have hrecv : ∃ cell : Cell, H[ad ka i]? = some cell ∧ cell.vm.isStatics = false ∧ s.vm.findClass k'.2.1.cls = some cell.cls := by
    rcases hka with ⟨a1, a2, a3⟩ | ⟨a1, a2⟩
    · obtain ⟨q, -, hq⟩ := ax_gw_at (ad := ad) (ov := ov) (cy := cy) S (show (ax_kd ka).1 ≤ 1 by omega) (v7.1 ka i rfl)
      have he : ax_ce ad ov cy S ka i = .inr ((ax_kd ka).2.1, (List.range (ax_nf (ax_kd ka).2.1)).map (fun j => ax_cv ad ov (ax_fv S ka i (ax_kd ka).2.1 j))) := if_pos a1
      rw [he, a2] at hq
      obtain ⟨r9, h91, h92⟩ := Option.map_eq_some_iff.mp (ax_T6 k'.1 hl.1.1 a3)
      rw [hl.1.2.1, ← h92]
      exact va_recv hx.2.2.2.2.2.2.2.2.1 w1 h91 hq
    · have e64 := ax_kd3 a1
      subst e64
      rw [hl.1.2.1, ax_T7 k'.1 hl.1.1 a2]
      exact vk_recv hx.2.2.2.2.2.2.2.2.2.1.1 (v7.1 64 i rfl) w3
  have hmp : (as.reverse ++ .inr (ka, i) :: rest).map (ax_cv ad ov) = (as.map (ax_cv ad ov)).reverse ++ .ref (ad ka i) :: rest.map (ax_cv ad ov) := by rw [List.map_append, List.map_reverse, List.map_cons, hrf]
  show W p l e R s m args below meth c H locs cells slots Q (F0 m pc ls ((as.reverse ++ .inr (ka, i) :: rest).map (ax_cv ad ov)))
  rw [hmp]
  have hpre' : ∀ U : State, U.heap = H → s.WarmedH U.vm → ax_Pc ad ov dC dI cy Ln xs (.inr (ka, i) :: as) S H.size (Value.ref (ad ka i) :: as.map (ax_cv ad ov)).toArray U := fun U hU hW => by
    have := hpre U hU hW
    rw [List.map_cons, hrf] at this
    exact this
  refine va_calll (va_runV (As := as.map (ax_cv ad ov)) (rest := rest.map (ax_cv ad ov)) (C := k'.2.1.cls) ⟨hx.1, hx.2.1, hx.2.2.1, hx.2.2.2.1, hts⟩ (ax_metl (sz := H.size) hx.2.2.2.2.2.2.2.2.2.2 hl.1 v8 v3 sc hn hM) ⟨hcb, hts _ hl.2.2.1, hts _ hl.2.2.2.1⟩ ⟨ax_blind, hrecv, hpre'⟩ rfl (by rw [List.length_map]; exact hnp) l1.1 rfl (lv_room hcat) hd ⟨by omega, by omega⟩) w3 (fun q _ h => hmoved q h) hmoved (fun r u t H1 locs1 ht hvm hw hB hz1 hk1 hS1 => ?_)
  obtain ⟨rfl, rfl⟩ := hw
  obtain ⟨b1, b2, b3, b4⟩ := hB
  rw [ht] at b1
  exact hr' H1 locs1 ls ⟨⟨v1, ax_vs_c (ax_vv_j _) v9, b3⟩, ⟨b1, b2.weaken (fun _ _ _ h => hmoved _ h), hS1⟩, ⟨l1, l2⟩, b4⟩
theorem ax_cSv {l : Launch} {d : Nat} {k k' : AM} {pc idx : Nat} {L : AL} {S S1 : AS} {c2 : AC} (as rest : List AV) {st : List AV} (hl : ax_lS k.1 idx k') (hd : decode k.2.2.1 pc = .ok (.invokestatic idx, 3)) (hst : st = as.reverse ++ rest) (hnp : as.length = k'.2.2.2.2.2.1) (hn : (ax_l0 as).length ≤ k'.2.2.2.1) (hc : ax_cats rest ≤ 8) (hM : ax_M l d k' as S none S1) (hr : ax_R l (d + 1) k (pc + 3, L, rest, S1) c2) : ax_R l (d + 1) k (pc, L, st, S) c2 := by
  subst hst
  intro p e R s m args below meth c cells slots Q A ad ov dC dI cy Ln xs hx hcc hss hk H locs ls hi
  have hr' := hr p e R s m args below meth c cells slots Q A ad ov dC dI cy Ln xs hx hcc hss hk
  obtain ⟨⟨v1, v2, v3⟩, ⟨w1, w2, w3⟩, ⟨l1, l2⟩, sc⟩ := hi
  have v9 : ax_vs rest := fun v hv => v2 v (List.mem_append_right _ hv)
  have v8 : ax_vs as := fun v hv => v2 v (List.mem_append_left _ (List.mem_reverse.mpr hv))
  have hmoved : ∀ q, va_A (ax_gw ad ov cy S) H.size q → A q := fun q hq => by
    rcases hq with ⟨j, z, hj⟩ | hq
    · exact w2.2 j _ hj
    · exact hx.2.2.2.2.2.2.2.1 q (Nat.le_trans w3.1 hq)
  have hpre : ∀ U : State, U.heap = H → s.WarmedH U.vm → ax_Pc ad ov dC dI cy Ln xs as S H.size (as.map (ax_cv ad ov)).toArray U := fun U hU hW => ⟨rfl, by rw [hU], by rw [hU]; exact w1, va_K.moved hW.alike hx.2.2.2.2.2.2.2.2.1, w2.weaken (fun _ _ _ _ => trivial), by rw [hU]; exact ax_Ct.move hx.2.2.2.2.2.2.2.2.2.1 hW w3.2.1 hmoved⟩
  have hcat := Nat.le_trans (ax_cats_le (ad := ad) hx.2.2.2.2.2.2.2.2.2.2 v9) hc
  have hfr := hx.2.2.2.2.2.2.1
  have hmx := hl.1.2.2.2.2.2
  have hroom : (ax_rm d).frames + 1 ≤ R.frames ∧ 8 + (k'.2.2.2.1 + 11) + (ax_rm d).locals ≤ R.locals := ⟨hfr.1, by show 8 + (k'.2.2.2.1 + 11) + 100 * d ≤ R.locals; omega⟩
  have hts := hx.2.2.2.2.1
  have hcb := callB_of (R := R) (n := k'.2.2.2.2.2.1) hts (ax_goodk hl.1) rfl rfl rfl (hts _ hl.1.2.2.2.2.1) (hts _ hl.2.1) hl.2.2.2 hroom
  have hmp : (as.reverse ++ rest).map (ax_cv ad ov) = (as.map (ax_cv ad ov)).reverse ++ rest.map (ax_cv ad ov) := by rw [List.map_append, List.map_reverse]
  show W p l e R s m args below meth c H locs cells slots Q (F0 m pc ls ((as.reverse ++ rest).map (ax_cv ad ov)))
  rw [hmp]
  refine va_callv (va_runS (As := as.map (ax_cv ad ov)) (rest := rest.map (ax_cv ad ov)) ⟨hx.1, hx.2.1, hx.2.2.1, hx.2.2.2.1, hts⟩ (ax_metv (sz := H.size) hx.2.2.2.2.2.2.2.2.2.2 hl.1 v8 v3 sc hn hM) ⟨hcb, hts _ hl.2.2.1⟩ ⟨ax_blind, hpre⟩ rfl (by rw [List.length_map]; exact hnp) l1.1 rfl (lv_room hcat) hd ⟨by omega, by omega⟩) w3 (fun q _ h => hmoved q h) hmoved (fun u t H1 locs1 ht hvm hw hB hz1 hk1 hS1 => ?_)
  subst hw
  obtain ⟨b1, b2, b3, b4⟩ := hB
  rw [ht] at b1
  exact hr' H1 locs1 ls ⟨⟨v1, v9, b3⟩, ⟨b1, b2.weaken (fun _ _ _ h => hmoved _ h), hS1⟩, ⟨l1, l2⟩, b4⟩
theorem ax_cVv {l : Launch} {d : Nat} {k k' : AM} {pc idx ka i : Nat} {L : AL} {S S1 : AS} {c2 : AC} (as rest : List AV) {st : List AV} (hl : ax_lV k.1 idx k') (hd : decode k.2.2.1 pc = .ok (.invokevirtual idx, 3)) (hst : st = as.reverse ++ .inr (ka, i) :: rest) (hka : ((ax_kd ka).1 = 0 ∧ (ax_kd ka).2.1 = k'.1.1 ∧ k'.1.1 < 13) ∨ ((ax_kd ka).1 = 3 ∧ k'.1.1 = 14)) (hnp : as.length = k'.2.2.2.2.2.1) (hn : (ax_l0 (.inr (ka, i) :: as)).length ≤ k'.2.2.2.1) (hc : ax_cats rest ≤ 8) (hM : ax_M l d k' (.inr (ka, i) :: as) S none S1) (hr : ax_R l (d + 1) k (pc + 3, L, rest, S1) c2) : ax_R l (d + 1) k (pc, L, st, S) c2 := by
  subst hst
  intro p e R s m args below meth c cells slots Q A ad ov dC dI cy Ln xs hx hcc hss hk H locs ls hi
  have hr' := hr p e R s m args below meth c cells slots Q A ad ov dC dI cy Ln xs hx hcc hss hk
  obtain ⟨⟨v1, v2, v3⟩, ⟨w1, w2, w3⟩, ⟨l1, l2⟩, sc⟩ := hi
  have v9 : ax_vs rest := fun v hv => v2 v (List.mem_append_right _ (List.mem_cons_of_mem _ hv))
  have v7 : ax_vv (.inr (ka, i)) := v2 _ (List.mem_append_right _ List.mem_cons_self)
  have v8 : ax_vs (.inr (ka, i) :: as) := ax_vs_c v7 (fun v hv => v2 v (List.mem_append_left _ (List.mem_reverse.mpr hv)))
  have hmoved : ∀ q, va_A (ax_gw ad ov cy S) H.size q → A q := fun q hq => by
    rcases hq with ⟨j, z, hj⟩ | hq
    · exact w2.2 j _ hj
    · exact hx.2.2.2.2.2.2.2.1 q (Nat.le_trans w3.1 hq)
  have hpre : ∀ U : State, U.heap = H → s.WarmedH U.vm → ax_Pc ad ov dC dI cy Ln xs (.inr (ka, i) :: as) S H.size ((.inr (ka, i) :: as).map (ax_cv ad ov)).toArray U := fun U hU hW => ⟨rfl, by rw [hU], by rw [hU]; exact w1, va_K.moved hW.alike hx.2.2.2.2.2.2.2.2.1, w2.weaken (fun _ _ _ _ => trivial), by rw [hU]; exact ax_Ct.move hx.2.2.2.2.2.2.2.2.2.1 hW w3.2.1 hmoved⟩
  have hcat := Nat.le_trans (ax_cats_le (ad := ad) hx.2.2.2.2.2.2.2.2.2.2 v9) hc
  have hfr := hx.2.2.2.2.2.2.1
  have hmx := hl.1.2.2.2.2.2
  have hroom : (ax_rm d).frames + 1 ≤ R.frames ∧ 8 + (k'.2.2.2.1 + 11) + (ax_rm d).locals ≤ R.locals := ⟨hfr.1, by show 8 + (k'.2.2.2.1 + 11) + 100 * d ≤ R.locals; omega⟩
  have hts := hx.2.2.2.2.1
  have hcb := callB_of (R := R) (n := k'.2.2.2.2.2.1) hts (ax_goodk hl.1) rfl rfl rfl (hts _ hl.1.2.2.2.2.1) (hts _ hl.2.1) hl.2.2.2.2 hroom
  have hrf : ax_cv ad ov (.inr (ka, i)) = .ref (ad ka i) := ax_cv_k (by omega)
  have hrecv : ∃ cell : Cell, H[ad ka i]? = some cell ∧ cell.vm.isStatics = false ∧ s.vm.findClass k'.2.1.cls = some cell.cls := by
    rcases hka with ⟨a1, a2, a3⟩ | ⟨a1, a2⟩
    · obtain ⟨q, -, hq⟩ := ax_gw_at (ad := ad) (ov := ov) (cy := cy) S (show (ax_kd ka).1 ≤ 1 by omega) (v7.1 ka i rfl)
      have he : ax_ce ad ov cy S ka i = .inr ((ax_kd ka).2.1, (List.range (ax_nf (ax_kd ka).2.1)).map (fun j => ax_cv ad ov (ax_fv S ka i (ax_kd ka).2.1 j))) := if_pos a1
      rw [he, a2] at hq
      obtain ⟨r9, h91, h92⟩ := Option.map_eq_some_iff.mp (ax_T6 k'.1 hl.1.1 a3)
      rw [hl.1.2.1, ← h92]
      exact va_recv hx.2.2.2.2.2.2.2.2.1 w1 h91 hq
    · have e64 := ax_kd3 a1
      subst e64
      rw [hl.1.2.1, ax_T7 k'.1 hl.1.1 a2]
      exact vk_recv hx.2.2.2.2.2.2.2.2.2.1.1 (v7.1 64 i rfl) w3
  have hmp : (as.reverse ++ .inr (ka, i) :: rest).map (ax_cv ad ov) = (as.map (ax_cv ad ov)).reverse ++ .ref (ad ka i) :: rest.map (ax_cv ad ov) := by rw [List.map_append, List.map_reverse, List.map_cons, hrf]
  show W p l e R s m args below meth c H locs cells slots Q (F0 m pc ls ((as.reverse ++ .inr (ka, i) :: rest).map (ax_cv ad ov)))
  rw [hmp]
  have hpre' : ∀ U : State, U.heap = H → s.WarmedH U.vm → ax_Pc ad ov dC dI cy Ln xs (.inr (ka, i) :: as) S H.size (Value.ref (ad ka i) :: as.map (ax_cv ad ov)).toArray U := fun U hU hW => by
    have := hpre U hU hW
    rw [List.map_cons, hrf] at this
    exact this
  refine va_callv (va_runV (As := as.map (ax_cv ad ov)) (rest := rest.map (ax_cv ad ov)) (C := k'.2.1.cls) ⟨hx.1, hx.2.1, hx.2.2.1, hx.2.2.2.1, hts⟩ (ax_metv (sz := H.size) hx.2.2.2.2.2.2.2.2.2.2 hl.1 v8 v3 sc hn hM) ⟨hcb, hts _ hl.2.2.1, hts _ hl.2.2.2.1⟩ ⟨ax_blind, hrecv, hpre'⟩ rfl (by rw [List.length_map]; exact hnp) l1.1 rfl (lv_room hcat) hd ⟨by omega, by omega⟩) w3 (fun q _ h => hmoved q h) hmoved (fun u t H1 locs1 ht hvm hw hB hz1 hk1 hS1 => ?_)
  subst hw
  obtain ⟨b1, b2, b3, b4⟩ := hB
  rw [ht] at b1
  exact hr' H1 locs1 ls ⟨⟨v1, v9, b3⟩, ⟨b1, b2.weaken (fun _ _ _ h => hmoved _ h), hS1⟩, ⟨l1, l2⟩, b4⟩

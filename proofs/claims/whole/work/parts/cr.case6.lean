/-! CASE 6 in the law's frame: a turn that may make a cell -/
def R6 (l : Launch) (d : Nat) (k : AM) (c1 c2 : AC) : Prop :=
  ∀ (p : Program) (e : Env) (R : Room) (s : State) (m : MethodId) (args : Array Value) (below : List Frame) (meth : Method) (c : Code) (cells slots : Nat) (Q : State → Prop) (A : Nat → Prop) (ad : Nat → Nat → Nat) (ov : Value) (dC : Nat → ClassId) (dI : Nat → Nat → Nat) (cy : Nat → ClassId) (Ln : Nat) (xs : Nat → Int32),
    ax_Cx p l R s m args meth c A ad ov dC dI cy Ln xs k d → xZ A s s.heap → cells + 1 ≤ R.cells → slots + 6 ≤ R.slots →
    (∀ H locs ls, ax_In s A ad ov dC dI cy Ln xs k.2.2.2.1 c2 H locs ls → W p l e R s m args below meth c H locs (cells + 1) (slots + 6) Q (F0 m c2.1 ls (c2.2.2.1.map (ax_cv ad ov)))) →
    ∀ H locs ls, ax_In s A ad ov dC dI cy Ln xs k.2.2.2.1 c1 H locs ls → W p l e R s m args below meth c H locs cells slots Q (F0 m c1.1 ls (c1.2.2.1.map (ax_cv ad ov)))
theorem R6.of {l : Launch} {d : Nat} {k : AM} {c1 c2 : AC} (h : ax_R l d k c1 c2) : R6 l d k c1 c2 := fun p e R s m args below meth c cells slots Q A ad ov dC dI cy Ln xs hx _ hc hs hk H locs ls hi => W.widen (k := cells + 1) (n := slots + 6) (Nat.le_succ _) (Nat.le_add_right _ _) (h p e R s m args below meth c (cells + 1) (slots + 6) Q A ad ov dC dI cy Ln xs hx hc hs hk H locs ls hi)
theorem R6.pre {l : Launch} {d : Nat} {k : AM} {c1 c2 c3 : AC} (h1 : ax_R l d k c1 c2) (h2 : R6 l d k c2 c3) : R6 l d k c1 c3 := fun p e R s m args below meth c cells slots Q A ad ov dC dI cy Ln xs hx hz hc hs hk => h1 p e R s m args below meth c cells slots Q A ad ov dC dI cy Ln xs hx (Nat.le_of_succ_le hc) (Nat.le_trans (Nat.le_add_right _ _) hs) (h2 p e R s m args below meth c cells slots Q A ad ov dC dI cy Ln xs hx hz hc hs hk)
theorem R6.suf {l : Launch} {d : Nat} {k : AM} {c1 c2 c3 : AC} (h1 : R6 l d k c1 c2) (h2 : ax_R l d k c2 c3) : R6 l d k c1 c3 := fun p e R s m args below meth c cells slots Q A ad ov dC dI cy Ln xs hx hz hc hs hk => h1 p e R s m args below meth c cells slots Q A ad ov dC dI cy Ln xs hx hz hc hs (h2 p e R s m args below meth c (cells + 1) (slots + 6) Q A ad ov dC dI cy Ln xs hx hc hs hk)
theorem c6_good : GoodIn ax_tb (va_wsS RL 46 yL_caller (cw_L :: ax_tb)) := fun w hw => by
  refine ax_good w ?_
  rcases List.mem_append.mp hw with q | q
  · rcases List.mem_cons.mp q with rfl | q
    · exact cw_ml
    · rcases List.mem_cons.mp q with rfl | q
      · exact cw_st
      · rcases List.mem_cons.mp q with rfl | q
        · exact cw_ini
        · cases q
  · rcases List.mem_cons.mp q with rfl | q
    · exact cw_in
    · exact q
theorem c6_call {l : Launch} {a b v : Int32} {L : AL} {S S1 : AS} (hl : l.stackTraces = false) (h : xO a b S v S1) : R6 l 142 ma_L_law (448, L, [.inr (63, 0), .inl (.int b), .inl (.int a), .inr (11, 0)], S) (451, L, [.inl (.int v)], S1) := by
  intro p e R s m args below meth c cells slots Q A ad ov dC dI cy Ln xs hx hz hcc hss hk H locs ls hi
  obtain ⟨⟨v1, v2, v3⟩, ⟨w1, w2, w3⟩, ⟨l1, l2⟩, sc⟩ := hi
  have hov := hx.2.2.2.2.2.2.2.2.2.2
  have hts := hx.2.2.2.2.1
  have hfr := hx.2.2.2.2.2.2.1
  have hmoved : ∀ q, va_A (ax_gw ad ov cy S) H.size q → A q := fun q hq => by
    rcases hq with ⟨j, z, hj⟩ | hq
    · exact w2.2 j _ hj
    · exact hx.2.2.2.2.2.2.2.1 q (Nat.le_trans w3.1 hq)
  have hrf : ax_cv ad ov (.inr (11, 0)) = .ref (ad 11 0) := ax_cv_k (by decide)
  have hrg : ax_cv ad ov (.inr (63, 0)) = .ref (ad 63 0) := ax_cv_k (by decide)
  have hmp : ([.inr (11, 0), .inl (.int a), .inl (.int b), .inr (63, 0)] : List AV).map (ax_cv ad ov) = [Value.ref (ad 11 0), Value.int a, Value.int b, Value.ref (ad 63 0)] := by
    show [ax_cv ad ov (.inr (11, 0)), Value.int a, Value.int b, ax_cv ad ov (.inr (63, 0))] = _
    rw [hrf, hrg]
  have hpre : ∀ U : State, U.heap = H → s.WarmedH U.vm → x_Pc ad ov dC dI cy Ln xs [.inr (11, 0), .inl (.int a), .inl (.int b), .inr (63, 0)] S H.size [Value.ref (ad 11 0), Value.int a, Value.int b, Value.ref (ad 63 0)].toArray U := fun U hU hW => ⟨⟨by rw [hmp], by rw [hU], by rw [hU]; exact w1, va_K.moved hW.alike hx.2.2.2.2.2.2.2.2.1, w2.weaken (fun _ _ _ _ => trivial), by rw [hU]; exact ax_Ct.move hx.2.2.2.2.2.2.2.2.2.1 hW w3.2.1 hmoved⟩, by rw [hU]; exact hz.move hW w3.2.1 hmoved⟩
  show W p l e R s m args below meth c H locs cells slots Q (F0 m 448 ls [ax_cv ad ov (.inr (63, 0)), Value.int b, Value.int a, ax_cv ad ov (.inr (11, 0))])
  rw [hrf, hrg]
  refine va_calli (vx_runSW (hh := [(0, 10, 13, 13)]) (bytes := cL_caller) (maxL := 5) (ret := some .int) (As := [Value.ref (ad 11 0), Value.int a, Value.int b, Value.ref (ad 63 0)]) (rest := []) ⟨hx.1, hx.2.1, hx.2.2.1, hx.2.2.2.1, hts⟩ (lc_met (sz := H.size) hl hov v3 sc h) (vx_cwSW (own := RL) (index := 46) 4 hts c6_good rfl rfl rfl ⟨by decide, by decide, by decide +kernel⟩ ⟨by show 7 + 1 ≤ R.frames; omega, by show 8 + (5 + 11) + 700 ≤ R.locals; omega⟩) ⟨x_blind, hpre⟩ rfl rfl l1.1 rfl (Nat.le_of_ble_eq_true rfl) (show decode ma_L_law.2.2.1 448 = .ok (.invokestatic 46, 3) by decide +kernel) ⟨hcc, hss⟩) w3 (fun q _ h => hmoved q h) hmoved (fun r u t H1 locs1 ht hvm hw hB hz1 hk1 hS1 => ?_)
  obtain ⟨rfl, rfl⟩ := hw
  obtain ⟨b1, b2, b3, b4⟩ := hB
  rw [ht] at b1
  exact hk H1 locs1 ls ⟨⟨v1, ax_vs_c (ax_vv_i _) ax_vs_nil, b3⟩, ⟨b1, b2.weaken (fun _ _ _ h => hmoved _ h), hS1⟩, ⟨l1, l2⟩, b4⟩
abbrev L5 (a4 v : Int32) : AL := [some (.inr (67, 0)), some (.inr (11, 0)), some (.inr (12, 0)), some (.inr (63, 0)), some (.inl (.int a4)), some (.inl (.int v)), none]
abbrev L6 (a4 v w : Int32) : AL := [some (.inr (67, 0)), some (.inr (11, 0)), some (.inr (12, 0)), some (.inr (63, 0)), some (.inl (.int a4)), some (.inl (.int v)), some (.inl (.int w))]
section
variable {l : Launch} {a4 v w : Int32} {S S1 T : AS}
/-- up to the call -/
theorem c6_a (g : gin a4 S) : ax_R l 142 ma_L_law (434, LL a4, [], S) (448, LL a4, [.inr (63, 0), .inl (.int (ax_rd S 67 0 (a4 + (2 : Int32)).toNatClampNeg)), .inl (.int (ax_rd S 67 0 (a4 + (1 : Int32)).toNatClampNeg)), .inr (11, 0)], S) := by
  refine ax_go [.aload_n 1, .aload_n 0, .iload 4, .iconst 1, .iadd] (pc' := 440) (L' := LL a4) (st' := [.inl (.int (a4 + (1 : Int32))), .inr (67, 0), .inr (11, 0)]) (S' := S) ok_L_law.1 (by decide +kernel) rfl rfl ?_
  refine ax_Ralc (n := (ax_fx S 67 0 0)) ok_L_law.1 (by decide +kernel) (by decide) rfl g.1 ?_
  refine ax_go [.aload_n 0, .iload 4, .iconst 2, .iadd] (pc' := 446) (L' := LL a4) (st' := [.inl (.int (a4 + (2 : Int32))), .inr (67, 0), .inl (.int (ax_rd S 67 0 (a4 + (1 : Int32)).toNatClampNeg)), .inr (11, 0)]) (S' := S) ok_L_law.1 (by decide +kernel) rfl rfl ?_
  refine ax_Ralc (n := (ax_fx S 67 0 0)) ok_L_law.1 (by decide +kernel) (by decide) rfl g.2.1 ?_
  exact ax_go [.aload_n 3] (pc' := 448) (L' := LL a4) (st' := [.inr (63, 0), .inl (.int (ax_rd S 67 0 (a4 + (2 : Int32)).toNatClampNeg)), .inl (.int (ax_rd S 67 0 (a4 + (1 : Int32)).toNatClampNeg)), .inr (11, 0)]) (S' := S) ok_L_law.1 (by decide +kernel) rfl rfl ax_R.rf
/-- behind it, up to the tests -/
theorem c6_b (g : gin a4 S1) (e : f_X12_caller (ax_rd S1 67 0 (a4 + (1 : Int32)).toNatClampNeg) (ax_rd S1 67 0 (a4 + (2 : Int32)).toNatClampNeg) S1 = some (w, T)) (ht : ax_fi T 12 0 0 = v) : ax_R l 142 ma_L_law (451, LL a4, [.inl (.int v)], S1) (482, L6 a4 v w, [], T) := by
  refine ax_go [.istore 5, .aload_n 2, .aload_n 0, .iload 4, .iconst 1, .iadd] (pc' := 459) (L' := L5 a4 v) (st' := [.inl (.int (a4 + (1 : Int32))), .inr (67, 0), .inr (12, 0)]) (S' := S1) ok_L_law.1 (by decide +kernel) rfl rfl ?_
  refine ax_Ralc (n := (ax_fx S1 67 0 0)) ok_L_law.1 (by decide +kernel) (by decide) rfl g.1 ?_
  refine ax_go [.aload_n 0, .iload 4, .iconst 2, .iadd] (pc' := 465) (L' := L5 a4 v) (st' := [.inl (.int (a4 + (2 : Int32))), .inr (67, 0), .inl (.int (ax_rd S1 67 0 (a4 + (1 : Int32)).toNatClampNeg)), .inr (12, 0)]) (S' := S1) ok_L_law.1 (by decide +kernel) rfl rfl ?_
  refine ax_Ralc (n := (ax_fx S1 67 0 0)) ok_L_law.1 (by decide +kernel) (by decide) rfl g.2.1 ?_
  refine ax_cVi (d := 141) (ka := 12) (i := 0) [.inl (.int (ax_rd S1 67 0 (a4 + (1 : Int32)).toNatClampNeg)), .inl (.int (ax_rd S1 67 0 (a4 + (2 : Int32)).toNatClampNeg))] [] lk_L_51 (by decide +kernel) rfl (by decide) rfl (Nat.le_of_ble_eq_true rfl) (Nat.le_of_ble_eq_true rfl) ((t_X12_caller e).up (by decide)) ?_
  refine ax_go [.istore 6, .aload_n 2] (pc' := 472) (L' := L6 a4 v w) (st' := [.inr (12, 0)]) (S' := T) ok_L_law.1 (by decide +kernel) rfl rfl ?_
  refine ax_cVi (d := 141) (ka := 12) (i := 0) [] [] lk_L_52 (by decide +kernel) rfl (by decide) rfl (Nat.le_of_ble_eq_true rfl) (Nat.le_of_ble_eq_true rfl) ((t_X12_thrown (show f_X12_thrown T = some v by rw [← ht]; rfl)).up (by decide)) ?_
  refine ax_go [.iload 5] (pc' := 477) (L' := L6 a4 v w) (st' := [.inl (.int v), .inl (.int v)]) (S' := T) ok_L_law.1 (by decide +kernel) rfl rfl ?_
  exact ax_ic_eq (off := 5) (tgt := 482) (by decide +kernel) (by decide) (fun _ => ax_R.rf) (fun c => absurd rfl c)
theorem c6_c : ax_R l 142 ma_L_law (499, L6 a4 v w, [], T) (23, LL (a4 + (6 : Int32)), [], T) := by
  refine ax_goto (off := 1046) (tgt := 1545) (by decide +kernel) (by decide) ?_
  refine ax_Rdrop [true, true, true, true, true, false, false] (L' := LL a4) rfl ?_
  exact tb_case99 rfl
theorem c6_l : ax_R l 142 ma_L_law (489, L6 a4 v w, [.inl (.int 0), .inr (63, 0)], T) (490, L6 a4 v w, [.inl (.long (ax_al T 63 0 (0 : Int32).toNatClampNeg))], T) := ax_Rall (n := 1) ok_L_law.1 (by decide +kernel) (by decide) rfl (by decide)
theorem c6_d (h : v ≠ 0 ∨ ax_al T 63 0 (0 : Int32).toNatClampNeg = w.toInt64) : ax_R l 142 ma_L_law (482, L6 a4 v w, [], T) (23, LL (a4 + (6 : Int32)), [], T) := by
  refine ax_go [.iload 5] (pc' := 484) (L' := L6 a4 v w) (st' := [.inl (.int v)]) (S' := T) ok_L_law.1 (by decide +kernel) rfl rfl ?_
  refine ax_if_ne (off := 15) (tgt := 499) (by decide +kernel) (by decide) (fun _ => c6_c) (fun q => ?_)
  have hw := h.resolve_left (fun z => z q)
  refine ax_go [.aload_n 3, .iconst 0] (pc' := 489) (L' := L6 a4 v w) (st' := [.inl (.int 0), .inr (63, 0)]) (S' := T) ok_L_law.1 (by decide +kernel) rfl rfl ?_
  refine c6_l.tr ?_
  refine ax_go [.iload 6, .i2l, .lcmp] (pc' := 494) (L' := L6 a4 v w) (st' := [.inl (.int (lg_cmp (ax_al T 63 0 (0 : Int32).toNatClampNeg) w.toInt64))]) (S' := T) ok_L_law.1 (by decide +kernel) rfl rfl ?_
  refine ax_if_eq (off := 5) (tgt := 499) (by decide +kernel) (by decide) (fun _ => c6_c) (fun q => absurd ?_ q)
  rw [hw]
  show (if w.toInt64 < w.toInt64 then (1 : Int32) else if w.toInt64 = w.toInt64 then 0 else -1) = 0
  rw [if_neg Int64.lt_irrefl, if_pos rfl]
end

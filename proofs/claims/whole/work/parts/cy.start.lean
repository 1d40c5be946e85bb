/-! THE START: what the law's entry gives (by program: wip/whole/mkcy.py) -/
abbrev cs_F : List Cond := flatC (Jvm.Cond.and given_1 narrow_1)
theorem cs_w {args : Array Value} {s : State} (hts : ∀ w ∈ lw_tbl, w.before args s = true) (i : Nat) {w : Cond} (h : lw_tbl[i]? = some w) : w.before args s = true := hts w (List.mem_of_getElem? h)
def cs_tm (i : Nat) : Term := match i with
  | 0 => .string "NamedCallers$House" 89
  | 1 => .string "NamedCallers$House" 104
  | 2 => .string "NamedCallers$House" 115
  | 3 => .string "NamedCallers$Law" 83
  | 4 => .string "NamedCallers$Afternoon" 45
  | _ => .string "NamedCallersModel" 26
def cs_sn (t : Nat) : String := match t with
  | 0 => "RULE_PLAIN"
  | 1 => "RULE_LEAST"
  | 2 => "RULE_MOST"
  | 3 => "LODGER_PLAIN"
  | 4 => "LODGER_LEAST"
  | 5 => "LODGER_MOST"
  | 6 => "CALLER_PLAIN"
  | 7 => "CALLER_LEAST"
  | _ => "CALLER_MOST"
def cs_st (t : Nat) : Term := .static "NamedCallers$House" (cs_sn t) "[I"
set_option maxRecDepth 20000 in
theorem cs_hex : ∀ i, i < 6 → Cond.exactly (cs_tm i) "java/lang/String" ∈ cs_F := by decide +kernel
set_option maxRecDepth 20000 in
theorem cs_hco : ∀ i, i < 6 → Cond.eq (.field (cs_tm i) "java/lang/String" "coder" "B") (.int 0) ∈ cs_F := by decide +kernel
set_option maxRecDepth 20000 in
theorem cs_har : ∀ i, i < 6 → Cond.arrayOf (.field (cs_tm i) "java/lang/String" "value" "[B") .byte ∈ cs_F := by decide +kernel
set_option maxRecDepth 20000 in
theorem cs_hle : ∀ i, i < 6 → Cond.eq (.length (.field (cs_tm i) "java/lang/String" "value" "[B")) (.int (Int32.ofNat ((ax_LN.getD 65 []).getD i 0))) ∈ cs_F := by decide +kernel
set_option maxRecDepth 20000 in
theorem cs_hel : ∀ i, i < 6 → ∀ j, j < (ax_LN.getD 65 []).getD i 0 → Cond.eq (.elem (.field (cs_tm i) "java/lang/String" "value" "[B") (.int (Int32.ofNat j))) (.int (((ax_CT.getD 65 []).getD i []).getD j 0)) ∈ cs_F := by decide +kernel
set_option maxRecDepth 20000 in
theorem cs_hne : ∀ i, i < 6 → ∀ j, j < 6 → i ≠ j → Cond.not (Cond.eq (cs_tm i) (cs_tm j)) ∈ cs_F ∨ Cond.not (Cond.eq (cs_tm j) (cs_tm i)) ∈ cs_F := by decide +kernel
theorem cs_hN : ∀ i, i < 6 → (ax_LN.getD 65 []).getD i 0 < 2 ^ 31 := by decide +kernel
set_option maxRecDepth 20000 in
theorem cs_rar : ∀ t, t < 9 → Cond.arrayOf (cs_st t) .int ∈ cs_F := by decide +kernel
set_option maxRecDepth 20000 in
theorem cs_rle : ∀ t, t < 9 → Cond.eq (.length (cs_st t)) (.int (Int32.ofNat ((ax_LN.getD 66 []).getD t 0))) ∈ cs_F := by decide +kernel
set_option maxRecDepth 20000 in
theorem cs_rel : ∀ t, t < 9 → ∀ j, j < (ax_LN.getD 66 []).getD t 0 → Cond.eq (.elem (cs_st t) (.int (Int32.ofNat j))) (.int (((ax_CT.getD 66 []).getD t []).getD j 0)) ∈ cs_F := by decide +kernel
theorem cs_rN : ∀ t, t < 9 → (ax_LN.getD 66 []).getD t 0 < 2 ^ 31 := by decide +kernel
set_option maxRecDepth 20000 in
theorem cs_rly : ∀ t, t < 9 → Cond.laysStatic "NamedCallers$House" (cs_sn t) "[I" ∈ lw_tbl := by decide +kernel
section
variable {args : Array Value} {s : State} {A : Nat → Prop}
theorem cs_str (h : (Jvm.Cond.and given_1 narrow_1).before args s = true) (hA : ∀ a : Nat, a < s.heap.size → ¬ A a) : ∃ adK adV : Nat → Nat, vk_S (ax_cn 64) (ax_LN.getD 65 []) (ax_CT.getD 65 []) adK adV A s s.heap ∧ ∀ i : Nat, i < 6 → (cs_tm i).eval args s none [] s = some (.ref (adK i)) := by
  have hf := flat_of_before _ h
  exact vk_Sof (N := 6) (tm := cs_tm) cs_hN (fun i hi => hf _ (cs_hex i hi)) (fun i hi => hf _ (cs_hco i hi)) (fun i hi => hf _ (cs_har i hi)) (fun i hi => hf _ (cs_hle i hi)) (fun i hi j hj => hf _ (cs_hel i hi j hj)) (fun i j hi hj hij => (cs_hne i hi j hj hij).imp (fun z => hf _ z) (fun z => hf _ z)) hA
theorem cs_rows (h : (Jvm.Cond.and given_1 narrow_1).before args s = true) (hA : ∀ a : Nat, a < s.heap.size → ¬ A a) : ∃ a66 : Nat → Nat, ∀ t : Nat, t < 9 → (cs_st t).eval args s none [] s = some (.ref (a66 t)) ∧ va_T .int (a66 t) ((ax_LN.getD 66 []).getD t 0) (fun j => .int (((ax_CT.getD 66 []).getD t []).getD j 0)) A s s.heap := by
  have hf := flat_of_before _ h
  have h0 : ∀ t : Nat, ∃ q : Nat, t < 9 → (cs_st t).eval args s none [] s = some (.ref q) ∧ va_T .int q ((ax_LN.getD 66 []).getD t 0) (fun j => .int (((ax_CT.getD 66 []).getD t []).getD j 0)) A s s.heap := by
    intro t
    by_cases ht : t < 9
    · obtain ⟨q, h1, h2⟩ := va_Tof (tm := cs_st t) (f := fun j => .int (((ax_CT.getD 66 []).getD t []).getD j 0)) (A := A) (cs_rN t ht) (hf _ (cs_rar t ht)) (va_eqt (hf _ (cs_rle t ht))) (fun j hj => va_eqt (hf _ (cs_rel t ht j hj))) hA
      exact ⟨q, fun _ => ⟨h1, h2⟩⟩
    · exact ⟨0, fun z => absurd z ht⟩
  obtain ⟨f, hf2⟩ := Classical.axiomOfChoice h0
  exact ⟨f, hf2⟩
theorem cs_kn (hts : ∀ w ∈ lw_tbl, w.before args s = true) : ∀ (c : Nat) (q : vw_C), vwCl[c]? = some q → ∃ (cC : ClassId) (iS : Nat → Nat), u_Kn s q.1 q.2.1 q.2.2 cC iS := by
  have htb : ∀ w ∈ ax_tb, w.before args s = true := fun w hw => hts w (List.mem_filter.mp hw).1
  intro c q h
  match c, h with
  | 0, h => cases h; exact u_known htb al_X0 (cs_w hts 380 (w := Cond.instantiable RX0 3) (by decide +kernel))
  | 1, h => cases h; exact u_known htb al_X1 (cs_w hts 320 (w := Cond.instantiable RX1 3) (by decide +kernel))
  | 2, h => cases h; exact u_known htb al_X2 (cs_w hts 193 (w := Cond.instantiable RX2 1) (by decide +kernel))
  | 3, h => cases h; exact u_known htb al_X3 (cs_w hts 203 (w := Cond.instantiable RX3 4) (by decide +kernel))
  | 4, h => cases h; exact u_known htb al_X4 (cs_w hts 338 (w := Cond.instantiable RX4 6) (by decide +kernel))
  | 5, h => cases h; exact u_known htb al_X5 (cs_w hts 362 (w := Cond.instantiable RX5 4) (by decide +kernel))
  | 6, h => cases h; exact u_known htb al_X6 (cs_w hts 161 (w := Cond.instantiable RX6 3) (by decide +kernel))
  | 7, h => cases h; exact u_known htb al_X7 (cs_w hts 177 (w := Cond.instantiable RX7 3) (by decide +kernel))
  | 8, h => cases h; exact u_known htb al_X8 (cs_w hts 223 (w := Cond.instantiable RX8 10) (by decide +kernel))
  | 9, h => cases h; exact u_known htb al_X9 (cs_w hts 260 (w := Cond.instantiable RX9 10) (by decide +kernel))
  | 10, h => cases h; exact u_known htb al_X10 (cs_w hts 137 (w := Cond.instantiable RX10 4) (by decide +kernel))
  | 11, h => cases h; exact u_known htb al_X11 (cs_w hts 129 (w := Cond.instantiable RX11 20) (by decide +kernel))
  | 12, h => cases h; exact u_known htb al_X12 (cs_w hts 1377 (w := Cond.instantiable RX12 50) (by decide +kernel))
  | c + 13, h => exact absurd h (by simp [vwCl])
theorem cs_ar {ty : FieldType} (h : (Cond.arrayClass ty).before args s = true) : ∃ cA : ClassId, ArrOfT s cA ty ∧ s.vm.findClass ("[" ++ ty.toString) = some cA := by
  obtain ⟨c, k, comp, h1, h2, h3⟩ := Cond.arrayClass_spec h
  exact ⟨c, fun n z => ⟨fun k h => (by cases h), k, h2, comp, h3⟩, h1⟩
theorem cs_ao {C : String} (h : (Cond.arrayOver (.object C)).before args s = true) : ∃ cA : ClassId, ArrOfT s cA (.object C) ∧ va_RA s cA (.object C) := by
  obtain ⟨comp, c, k, h1, h2, h3, h4, h5⟩ := Cond.arrayOver_spec h
  exact ⟨c, fun n z => ⟨fun k h => (by cases h), k, h3, comp, h4⟩, k, comp, h3, h4, h1, h5⟩
theorem cs_K (hts : ∀ w ∈ lw_tbl, w.before args s = true) : ∃ (dC : Nat → ClassId) (dI : Nat → Nat → Nat) (cy : Nat → ClassId), va_K (dC, dI) vwCl (ax_tys cy) s := by
  have h0 : ∀ c : Nat, ∃ z : ClassId × (Nat → Nat), ∀ q : vw_C, vwCl[c]? = some q → u_Kn s q.1 q.2.1 q.2.2 z.1 z.2 := by
    intro c
    cases hq : vwCl[c]? with
    | none => exact ⟨(0, fun _ => 0), fun q h => by cases h⟩
    | some q =>
      obtain ⟨a, b, h⟩ := cs_kn hts c q hq
      exact ⟨(a, b), fun q2 h2 => by cases h2; exact h⟩
  obtain ⟨f, hf⟩ := Classical.axiomOfChoice h0
  obtain ⟨c0, a0, b0⟩ := cs_ar (cs_w hts 155 (w := Cond.arrayClass .int) (by decide +kernel))
  obtain ⟨c1, a1, b1⟩ := cs_ar (cs_w hts 221 (w := Cond.arrayClass .boolean) (by decide +kernel))
  obtain ⟨c2, a2, b2⟩ := cs_ar (cs_w hts 750 (w := Cond.arrayClass .byte) (by decide +kernel))
  obtain ⟨c3, a3, b3⟩ := cs_ar (cs_w hts 336 (w := Cond.arrayClass .long) (by decide +kernel))
  obtain ⟨c4, a4, b4⟩ := cs_ao (cs_w hts 159 (w := Cond.arrayOver (.object RX0)) (by decide +kernel))
  obtain ⟨c5, a5, b5⟩ := cs_ao (cs_w hts 157 (w := Cond.arrayOver (.object RX5)) (by decide +kernel))
  refine ⟨fun c => (f c).1, fun c => (f c).2, fun t => match t with | 0 => c0 | 1 => c1 | 2 => c2 | 3 => c3 | 4 => c4 | _ => c5, fun c q h => hf c q h, fun k q h => ?_⟩
  match k, h with
  | 0, h => cases h; exact ⟨a0, b0⟩
  | 1, h => cases h; exact ⟨a1, b1⟩
  | 2, h => cases h; exact ⟨a2, b2⟩
  | 3, h => cases h; exact ⟨a3, b3⟩
  | 4, h => cases h; exact ⟨a4, b4⟩
  | 5, h => cases h; exact ⟨a5, b5⟩
  | k + 6, h => exact absurd h (by simp [ax_tys])
theorem cs_Z (hts : ∀ w ∈ lw_tbl, w.before args s = true) (h : (Jvm.Cond.and given_1 narrow_1).before args s = true) (hA : ∀ a : Nat, a < s.heap.size → ¬ A a) : xZ A s s.heap := by
  have hf := flat_of_before _ h
  refine ⟨vx_Zqof (cs_w hts 1341 (w := Cond.laysStatic Bundle.tN "UNASSIGNED_STACK" Bundle.steD) (by decide +kernel)) (cs_w hts 123 (w := Cond.initialized Bundle.tN) (by decide +kernel)) (hf _ (by decide +kernel)) hA, vx_Zqof (cs_w hts 1343 (w := Cond.laysStatic Bundle.tN "SUPPRESSED_SENTINEL" Bundle.listD) (by decide +kernel)) (cs_w hts 123 (w := Cond.initialized Bundle.tN) (by decide +kernel)) (hf _ (by decide +kernel)) hA, ?_⟩
  exact ⟨va_Nw.of rfl (cs_w hts 1317 (w := Cond.declares (Bundle.init0 "java/lang/RuntimeException")) (by decide +kernel)), va_Nw.of rfl (cs_w hts 1319 (w := Cond.declares (Bundle.init0 "java/lang/Exception")) (by decide +kernel)), va_Nw.of rfl (cs_w hts 1321 (w := Cond.declares (Bundle.init0 Bundle.tN)) (by decide +kernel)), va_Nw.of rfl (cs_w hts 1316 (w := Cond.castable xE xE) (by decide +kernel))⟩
end

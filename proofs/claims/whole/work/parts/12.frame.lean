/-! WHAT AN UPDATE DOES TO THE WORLD -/
theorem ax_ce_congr {ad : Nat → Nat → Nat} {ov : Value} {cy : Nat → ClassId} {S S' : AS} {a b : Nat} (h1 : ax_fi S' a b = ax_fi S a b) (h2 : ax_fl S' a b = ax_fl S a b) (h3 : ax_fx S' a b = ax_fx S a b) (h4 : ax_fo S' a b = ax_fo S a b) (h5 : ax_ai S' a b = ax_ai S a b) (h6 : ax_al S' a b = ax_al S a b) : ax_ce ad ov cy S' a b = ax_ce ad ov cy S a b := by
  have hv : ∀ c j, ax_fv S' a b c j = ax_fv S a b c j := by
    intro c j
    unfold ax_fv
    rw [h1, h2, h3, h4]
  have hl : ax_ln S' a b = ax_ln S a b := by
    unfold ax_ln
    rw [h3]
  unfold ax_ce
  simp only [hv, hl, h5, h6]
theorem ax_u3_o {α : Type} {f : Nat → Nat → Nat → α} {k i j a b : Nat} {v : α} (h : ¬ (a = k ∧ b = i)) : ax_u3 f k i j v a b = f a b := by
  funext c
  unfold ax_u3
  rw [if_neg (fun q => h ⟨q.1, q.2.1⟩)]
theorem ax_u3_s {α : Type} {f : Nat → Nat → Nat → α} {k i j : Nat} {v : α} : ax_u3 f k i j v k i j = v := if_pos ⟨rfl, rfl, rfl⟩
theorem ax_u3_n {α : Type} {f : Nat → Nat → Nat → α} {k i j c : Nat} {v : α} (h : c ≠ j) : ax_u3 f k i j v k i c = f k i c := if_neg (fun q => h q.2.2)
theorem ax_ce_put {ad : Nat → Nat → Nat} {ov : Value} {cy : Nat → ClassId} {S S' : AS} {k i sl : Nat} {v : AV} (h0 : (ax_kd k).1 = 0) (hv : ax_fv S' k i (ax_kd k).2.1 sl = v) (ho : ∀ j, j ≠ sl → ax_fv S' k i (ax_kd k).2.1 j = ax_fv S k i (ax_kd k).2.1 j) : ax_ce ad ov cy S' k i = .inr ((ax_kd k).2.1, ((List.range (ax_nf (ax_kd k).2.1)).map (fun j => ax_cv ad ov (ax_fv S k i (ax_kd k).2.1 j))).set sl (ax_cv ad ov v)) := by
  unfold ax_ce
  rw [if_pos h0]
  congr 2
  refine List.ext_getElem? fun j => ?_
  by_cases hj : sl = j
  · subst hj
    by_cases hn : sl < ax_nf (ax_kd k).2.1
    · rw [List.getElem?_set_self (by simpa using hn), List.getElem?_map, List.getElem?_range hn]
      simp [hv]
    · rw [List.getElem?_eq_none (by simp; omega), List.getElem?_eq_none (by simp; omega)]
  · rw [List.getElem?_set_ne hj, List.getElem?_map, List.getElem?_map]
    cases hr : (List.range (ax_nf (ax_kd k).2.1))[j]? with
    | none => rfl
    | some z =>
      have hlt : j < ax_nf (ax_kd k).2.1 := by
        have := (List.getElem?_eq_some_iff.mp hr).1
        simpa using this
      rw [List.getElem?_range hlt] at hr
      cases hr
      simp [ho j (fun e => hj e.symm)]
theorem ax_fv_at {ad : Nat → Nat → Nat} {ov : Value} {S : AS} {k i c sl : Nat} (h : sl < ax_nf c) : ((List.range (ax_nf c)).map (fun j => ax_cv ad ov (ax_fv S k i c j)))[sl]? = some (ax_cv ad ov (ax_fv S k i c sl)) := by
  rw [List.getElem?_map, List.getElem?_range h]
  rfl
/-! THE CONTEXT of a frame: what holds wherever a method of ours runs -/
def ax_tb : List Cond := lw_tbl.filter goodWord
def ax_ws (k : AM) : List Cond := .code k.2.1 k.2.2.1 k.2.2.2.1 k.2.2.2.2.1 :: ax_tb
def ax_tys (cy : Nat → ClassId) : List (ClassId × FieldType) := [(cy 0, .int), (cy 1, .boolean), (cy 2, .byte), (cy 3, .long), (cy 4, .object RX0), (cy 5, .object RX5)]
def ax_KL : List AK := [ka_X0, ka_X1, ka_X2, ka_X3, ka_X4, ka_X5, ka_X6, ka_X7, ka_X8, ka_X9, ka_X10, ka_X11, ka_X12, ka_L, ka_J0, ka_J1, ka_J9, ka_J6, ka_J3]
/-- what nobody writes: the texts, the static rows, the statics, the constants -/
def ax_Ct (ad : Nat → Nat → Nat) (ov : Value) (Ln : Nat) (xs : Nat → Int32) (A : Nat → Prop) (s : State) (H : Heap) : Prop :=
  vk_S (ax_cn 64) (ax_LN.getD 65 []) (ax_CT.getD 65 []) (ad 64) (ad 65) A s H ∧
  (∀ t, t < ax_cn 66 → va_T .int (ad 66 t) ((ax_LN.getD 66 []).getD t 0) (fun j => .int (((ax_CT.getD 66 []).getD t []).getD j 0)) A s H) ∧
  (∀ K ∈ ax_KL, ∀ q ∈ K.2.2.2.2, ∃ C n d, Cond.fieldLink K.2.1 q.1 C n d ∈ ax_tb ∧ va_Z C n d (ax_cv ad ov q.2) A s H) ∧
  (∀ K ∈ ax_KL, ∀ q ∈ K.2.2.2.1, (∃ x, q.2 = .inl (.int x) ∧ Cond.constant K.2.1 q.1 x ∈ ax_tb) ∨ (∃ x, q.2 = .inl (.long x) ∧ Cond.constantLong K.2.1 q.1 x ∈ ax_tb) ∨ ∃ n tx, q.2 = .inr (64, n) ∧ vk_R K.2.1 q.1 tx (ad 64 n) s) ∧
  va_T .int (ad 67 0) Ln (fun j => .int (xs j)) A s H
def ax_Sc (Ln : Nat) (xs : Nat → Int32) (S : AS) : Prop := ax_fx S 67 0 0 = Ln ∧ ax_ai S 67 0 = xs
/-- the method's own: its words are in the table -/
def ax_ok (k : AM) : Prop := k.1 ∈ ax_KL ∧ k.2.1.cls = k.1.2.1 ∧ (k.1.1 = 16 → plainFor k.2.1 = true) ∧ Cond.code k.2.1 k.2.2.1 k.2.2.2.1 k.2.2.2.2.1 ∈ ax_tb ∧ Cond.initialized k.2.1.cls ∈ ax_tb ∧ k.2.2.2.1 ≤ 60
def ax_Cx (p : Program) (l : Launch) (R : Room) (s : State) (m : MethodId) (args : Array Value) (meth : Method) (c : Code) (A : Nat → Prop) (ad : Nat → Nat → Nat) (ov : Value) (dC : Nat → ClassId) (dI : Nat → Nat → Nat) (cy : Nat → ClassId) (Ln : Nat) (xs : Nat → Int32) (k : AM) (d : Nat) : Prop :=
  p.tables.exec = Jvm.exec ∧ c.code = k.2.2.1 ∧ c.maxLocals = k.2.2.2.1 ∧ s.vm.findClass k.1.2.1 = some m.cls ∧ (∀ w ∈ ax_tb, w.before args s = true) ∧ (k.1 ∈ ax_KL ∧ True) ∧ (d ≤ R.frames ∧ 100 * d ≤ R.locals) ∧
  (∀ q, s.heap.size ≤ q → A q) ∧ va_K (dC, dI) vwCl (ax_tys cy) s ∧ ax_Ct ad ov Ln xs A s s.heap ∧ (ov = .null ∨ ∃ t, ov = .ref t)
def ax_In (s : State) (A : Nat → Prop) (ad : Nat → Nat → Nat) (ov : Value) (dC : Nat → ClassId) (dI : Nat → Nat → Nat) (cy : Nat → ClassId) (Ln : Nat) (xs : Nat → Int32) (n : Nat) (cf : AC) (H : Heap) (locs : List Loc) (ls : Array Slot) : Prop :=
  (ax_vL cf.2.1 ∧ ax_vs cf.2.2.1 ∧ ax_vS cf.2.2.2) ∧ (va_P (dC, dI) vwCl (ax_gw ad ov cy cf.2.2.2) H ∧ va_D A (ax_gw ad ov cy cf.2.2.2) ∧ va_S A s.heap H locs) ∧ (lv_has ls n (ax_la ad ov cf.2.1) ∧ cf.2.1.length ≤ n) ∧ ax_Sc Ln xs cf.2.2.2
/-- in every context, from c2 on gives from c1 on -/
def ax_R (l : Launch) (d : Nat) (k : AM) (c1 c2 : AC) : Prop :=
  ∀ (p : Program) (e : Env) (R : Room) (s : State) (m : MethodId) (args : Array Value) (below : List Frame) (meth : Method) (c : Code) (cells slots : Nat) (Q : State → Prop) (A : Nat → Prop) (ad : Nat → Nat → Nat) (ov : Value) (dC : Nat → ClassId) (dI : Nat → Nat → Nat) (cy : Nat → ClassId) (Ln : Nat) (xs : Nat → Int32),
    ax_Cx p l R s m args meth c A ad ov dC dI cy Ln xs k d → cells ≤ R.cells → slots ≤ R.slots →
    (∀ H locs ls, ax_In s A ad ov dC dI cy Ln xs k.2.2.2.1 c2 H locs ls → W p l e R s m args below meth c H locs cells slots Q (F0 m c2.1 ls (c2.2.2.1.map (ax_cv ad ov)))) →
    ∀ H locs ls, ax_In s A ad ov dC dI cy Ln xs k.2.2.2.1 c1 H locs ls → W p l e R s m args below meth c H locs cells slots Q (F0 m c1.1 ls (c1.2.2.1.map (ax_cv ad ov)))
theorem ax_R.rf {l : Launch} {d : Nat} {k : AM} {c : AC} : ax_R l d k c c := fun _ _ _ _ _ _ _ _ _ _ _ _ _ _ _ _ _ _ _ _ _ _ _ h => h
theorem ax_R.tr {l : Launch} {d : Nat} {k : AM} {c1 c2 c3 : AC} (h1 : ax_R l d k c1 c2) (h2 : ax_R l d k c2 c3) : ax_R l d k c1 c3 :=
  fun p e R s m args below meth c cells slots Q A ad ov dC dI cy Ln xs hx hc hs h => h1 p e R s m args below meth c cells slots Q A ad ov dC dI cy Ln xs hx hc hs (h2 p e R s m args below meth c cells slots Q A ad ov dC dI cy Ln xs hx hc hs h)
theorem ax_hts {k : AM} {args : Array Value} {s : State} (h : ∀ w ∈ ax_tb, w.before args s = true) {w : Cond} (hw : w ∈ ax_tb) : w.before args s = true := h w hw

/-! RULES: from a place in a method to its end -/
def ax_T (l : Launch) (d : Nat) (k : AM) (c : AC) (r : Option AV) (S' : AS) : Prop := ∃ pc L', ax_R l d k c (pc, L', r.toList, S') ∧ ax_rt k pc r
theorem ax_T.of {l : Launch} {d : Nat} {k : AM} {c c' : AC} {r : Option AV} {S' : AS} (h1 : ax_R l d k c c') (h : ax_T l d k c' r S') : ax_T l d k c r S' := by
  obtain ⟨pc, L', h2, h3⟩ := h
  exact ⟨pc, L', h1.tr h2, h3⟩
theorem ax_R.up {l : Launch} {d d' : Nat} {k : AM} {c c' : AC} (h : ax_R l d k c c') (hd : d ≤ d') : ax_R l d' k c c' :=
  fun p e R s m args below meth cd cells slots Q A ad ov dC dI cy Ln xs hx hc hs => h p e R s m args below meth cd cells slots Q A ad ov dC dI cy Ln xs ⟨hx.1, hx.2.1, hx.2.2.1, hx.2.2.2.1, hx.2.2.2.2.1, hx.2.2.2.2.2.1, ⟨Nat.le_trans hd hx.2.2.2.2.2.2.1.1, Nat.le_trans (Nat.mul_le_mul_left 100 hd) hx.2.2.2.2.2.2.1.2⟩, hx.2.2.2.2.2.2.2⟩ hc hs
theorem ax_M.up {l : Launch} {d d' : Nat} {k : AM} {as : List AV} {S S' : AS} {r : Option AV} (h : ax_M l d k as S r S') (hd : d ≤ d') : ax_M l d' k as S r S' := by
  obtain ⟨pc, L', h1, h2⟩ := h
  exact ⟨pc, L', h1.up hd, h2⟩
/-- fewer locals -/
def ax_msk : List Bool → AL → AL
  | true :: bs, v :: L => v :: ax_msk bs L
  | false :: bs, _ :: L => none :: ax_msk bs L
  | _, L => L
theorem ax_msk_at : ∀ (bs : List Bool) (L : AL) (j : Nat) (v : AV), (ax_msk bs L)[j]? = some (some v) → L[j]? = some (some v) := by
  intro bs
  induction bs with
  | nil =>
    intro L j v h
    cases L <;> exact h
  | cons b bs ih =>
    intro L j v h
    cases L with
    | nil => cases b <;> exact h
    | cons w L =>
      cases b with
      | true =>
        cases j with
        | zero => exact h
        | succ j => exact ih L j v h
      | false =>
        cases j with
        | zero => cases h
        | succ j => exact ih L j v h
theorem ax_msk_len : ∀ (bs : List Bool) (L : AL), (ax_msk bs L).length = L.length := by
  intro bs
  induction bs with
  | nil => intro L; cases L <;> rfl
  | cons b bs ih =>
    intro L
    cases L with
    | nil => cases b <;> rfl
    | cons w L => cases b <;> exact congrArg (· + 1) (ih L)
theorem ax_drop {l : Launch} {d : Nat} {k : AM} {pc : Nat} {L : AL} {st : List AV} {S : AS} (bs : List Bool) : ax_R l d k (pc, L, st, S) (pc, ax_msk bs L, st, S) := by
  intro p e R s m args below meth c cells slots Q A ad ov dC dI cy Ln xs hx hc hs hk H locs ls hi
  obtain ⟨⟨v1, v2, v3⟩, w, ⟨l1, l2⟩, sc⟩ := hi
  refine hk H locs ls ⟨⟨fun v hv => ?_, v2, v3⟩, w, ⟨⟨l1.1, l1.2.1, fun q hq => ?_⟩, by rw [ax_msk_len]; exact l2⟩, sc⟩
  · obtain ⟨j, hj⟩ := List.mem_iff_getElem?.mp hv
    exact v1 v (List.mem_of_getElem? (ax_msk_at bs L j v hj))
  · obtain ⟨j, w⟩ := q
    obtain ⟨v, h1, h2⟩ := ax_la_mem.mp hq
    exact l1.2.2 (j, w) (ax_la_mem.mpr ⟨v, ax_msk_at bs L j v h1, h2⟩)
/-! the words of the functions -/
def ax_let {α β : Type} (x : α) (f : α → β) : β := f x
theorem ax_let_e {α β : Type} {x : α} {f : α → Option β} {r : β} (h : ax_let x f = some r) : ∃ y, x = y ∧ f y = some r := ⟨x, rfl, h⟩
def ax_gd {β : Type} (b : Bool) (x : Option β) : Option β := if b = true then x else none
theorem ax_gd_e {β : Type} {b : Bool} {x : Option β} {r : β} (h : ax_gd b x = some r) : b = true ∧ x = some r := by
  unfold ax_gd at h
  split at h
  · next hb => exact ⟨hb, h⟩
  · cases h
theorem ax_bd_e {α β : Type} {x : Option α} {f : α → Option β} {r : β} (h : x.bind f = some r) : ∃ y, x = some y ∧ f y = some r := Option.bind_eq_some_iff.mp h
def ax_bo (x : Int32) : Bool := decide (x = 0) || decide (x = 1)
def ax_nz (x : Int32) : Bool := !decide (x = 0)
def ax_nzl (x : Int64) : Bool := !decide (x = 0)
section AXT
variable {l : Launch} {d : Nat} {k : AM} {pc : Nat} {L L' : AL} {st st' : List AV} {S S' Z : AS} {r : Option AV}
theorem ax_Tgo (is : List Instr) {pc' : Nat} (hok : k.1 ∈ ax_KL) (hb : ax_bk k.2.2.1 pc is = true) (h : ax_many k.1 is L st S = some (L', st', S')) (hp : ax_pcs pc is = pc') (hr : ax_T l d k (pc', L', st', S') r Z) : ax_T l d k (pc, L, st, S) r Z := ax_T.of (ax_go is hok hb h hp ax_R.rf) hr
theorem ax_Tdrop (bs : List Bool) (h : ax_msk bs L = L') (hr : ax_T l d k (pc, L', st, S) r Z) : ax_T l d k (pc, L, st, S) r Z := by
  subst h
  exact ax_T.of (ax_drop bs) hr
theorem ax_Tgoto {off : Int} {tgt : Nat} (hd : decode k.2.2.1 pc = .ok (.goto off, 3)) (ht : (pc : Int) + off = (tgt : Int)) (hr : ax_T l d k (tgt, L, st, S) r Z) : ax_T l d k (pc, L, st, S) r Z := ax_T.of (ax_goto hd ht ax_R.rf) hr
theorem ax_Tic_eq {off : Int} {tgt : Nat} {x y : Int32} (hd : decode k.2.2.1 pc = .ok (.if_icmp .eq off, 3)) (ht : (pc : Int) + off = (tgt : Int)) (h1 : x = y → ax_T l d k (tgt, L, st, S) r Z) (h2 : ¬ x = y → ax_T l d k (pc + 3, L, st, S) r Z) : ax_T l d k (pc, L, .inl (.int y) :: .inl (.int x) :: st, S) r Z := by
  by_cases q : x = y
  · obtain ⟨a, b, e1, e2⟩ := h1 q
    exact ⟨a, b, ax_ic_eq hd ht (fun _ => e1) (fun n => absurd q n), e2⟩
  · obtain ⟨a, b, e1, e2⟩ := h2 q
    exact ⟨a, b, ax_ic_eq hd ht (fun n => absurd n q) (fun _ => e1), e2⟩
theorem ax_Tic_ne {off : Int} {tgt : Nat} {x y : Int32} (hd : decode k.2.2.1 pc = .ok (.if_icmp .ne off, 3)) (ht : (pc : Int) + off = (tgt : Int)) (h1 : ¬ x = y → ax_T l d k (tgt, L, st, S) r Z) (h2 : x = y → ax_T l d k (pc + 3, L, st, S) r Z) : ax_T l d k (pc, L, .inl (.int y) :: .inl (.int x) :: st, S) r Z := by
  by_cases q : ¬ x = y
  · obtain ⟨a, b, e1, e2⟩ := h1 q
    exact ⟨a, b, ax_ic_ne hd ht (fun _ => e1) (fun n => absurd n q), e2⟩
  · obtain ⟨a, b, e1, e2⟩ := h2 (Decidable.not_not.mp q)
    exact ⟨a, b, ax_ic_ne hd ht (fun n => absurd n q) (fun _ => e1), e2⟩
theorem ax_Tic_lt {off : Int} {tgt : Nat} {x y : Int32} (hd : decode k.2.2.1 pc = .ok (.if_icmp .lt off, 3)) (ht : (pc : Int) + off = (tgt : Int)) (h1 : x < y → ax_T l d k (tgt, L, st, S) r Z) (h2 : ¬ x < y → ax_T l d k (pc + 3, L, st, S) r Z) : ax_T l d k (pc, L, .inl (.int y) :: .inl (.int x) :: st, S) r Z := by
  by_cases q : x < y
  · obtain ⟨a, b, e1, e2⟩ := h1 q
    exact ⟨a, b, ax_ic_lt hd ht (fun _ => e1) (fun n => absurd q n), e2⟩
  · obtain ⟨a, b, e1, e2⟩ := h2 q
    exact ⟨a, b, ax_ic_lt hd ht (fun n => absurd n q) (fun _ => e1), e2⟩
theorem ax_Tic_ge {off : Int} {tgt : Nat} {x y : Int32} (hd : decode k.2.2.1 pc = .ok (.if_icmp .ge off, 3)) (ht : (pc : Int) + off = (tgt : Int)) (h1 : y ≤ x → ax_T l d k (tgt, L, st, S) r Z) (h2 : ¬ y ≤ x → ax_T l d k (pc + 3, L, st, S) r Z) : ax_T l d k (pc, L, .inl (.int y) :: .inl (.int x) :: st, S) r Z := by
  by_cases q : y ≤ x
  · obtain ⟨a, b, e1, e2⟩ := h1 q
    exact ⟨a, b, ax_ic_ge hd ht (fun _ => e1) (fun n => absurd q n), e2⟩
  · obtain ⟨a, b, e1, e2⟩ := h2 q
    exact ⟨a, b, ax_ic_ge hd ht (fun n => absurd n q) (fun _ => e1), e2⟩
theorem ax_Tic_gt {off : Int} {tgt : Nat} {x y : Int32} (hd : decode k.2.2.1 pc = .ok (.if_icmp .gt off, 3)) (ht : (pc : Int) + off = (tgt : Int)) (h1 : y < x → ax_T l d k (tgt, L, st, S) r Z) (h2 : ¬ y < x → ax_T l d k (pc + 3, L, st, S) r Z) : ax_T l d k (pc, L, .inl (.int y) :: .inl (.int x) :: st, S) r Z := by
  by_cases q : y < x
  · obtain ⟨a, b, e1, e2⟩ := h1 q
    exact ⟨a, b, ax_ic_gt hd ht (fun _ => e1) (fun n => absurd q n), e2⟩
  · obtain ⟨a, b, e1, e2⟩ := h2 q
    exact ⟨a, b, ax_ic_gt hd ht (fun n => absurd n q) (fun _ => e1), e2⟩
theorem ax_Tic_le {off : Int} {tgt : Nat} {x y : Int32} (hd : decode k.2.2.1 pc = .ok (.if_icmp .le off, 3)) (ht : (pc : Int) + off = (tgt : Int)) (h1 : x ≤ y → ax_T l d k (tgt, L, st, S) r Z) (h2 : ¬ x ≤ y → ax_T l d k (pc + 3, L, st, S) r Z) : ax_T l d k (pc, L, .inl (.int y) :: .inl (.int x) :: st, S) r Z := by
  by_cases q : x ≤ y
  · obtain ⟨a, b, e1, e2⟩ := h1 q
    exact ⟨a, b, ax_ic_le hd ht (fun _ => e1) (fun n => absurd q n), e2⟩
  · obtain ⟨a, b, e1, e2⟩ := h2 q
    exact ⟨a, b, ax_ic_le hd ht (fun n => absurd n q) (fun _ => e1), e2⟩
theorem ax_Tif_eq {off : Int} {tgt : Nat} {x : Int32} (hd : decode k.2.2.1 pc = .ok (.ifCond .eq off, 3)) (ht : (pc : Int) + off = (tgt : Int)) (h1 : x = 0 → ax_T l d k (tgt, L, st, S) r Z) (h2 : ¬ x = 0 → ax_T l d k (pc + 3, L, st, S) r Z) : ax_T l d k (pc, L, .inl (.int x) :: st, S) r Z := by
  by_cases q : x = 0
  · obtain ⟨a, b, e1, e2⟩ := h1 q
    exact ⟨a, b, ax_if_eq hd ht (fun _ => e1) (fun n => absurd q n), e2⟩
  · obtain ⟨a, b, e1, e2⟩ := h2 q
    exact ⟨a, b, ax_if_eq hd ht (fun n => absurd n q) (fun _ => e1), e2⟩
theorem ax_Tif_ne {off : Int} {tgt : Nat} {x : Int32} (hd : decode k.2.2.1 pc = .ok (.ifCond .ne off, 3)) (ht : (pc : Int) + off = (tgt : Int)) (h1 : ¬ x = 0 → ax_T l d k (tgt, L, st, S) r Z) (h2 : x = 0 → ax_T l d k (pc + 3, L, st, S) r Z) : ax_T l d k (pc, L, .inl (.int x) :: st, S) r Z := by
  by_cases q : ¬ x = 0
  · obtain ⟨a, b, e1, e2⟩ := h1 q
    exact ⟨a, b, ax_if_ne hd ht (fun _ => e1) (fun n => absurd n q), e2⟩
  · obtain ⟨a, b, e1, e2⟩ := h2 (Decidable.not_not.mp q)
    exact ⟨a, b, ax_if_ne hd ht (fun n => absurd n q) (fun _ => e1), e2⟩
theorem ax_Tif_lt {off : Int} {tgt : Nat} {x : Int32} (hd : decode k.2.2.1 pc = .ok (.ifCond .lt off, 3)) (ht : (pc : Int) + off = (tgt : Int)) (h1 : x < 0 → ax_T l d k (tgt, L, st, S) r Z) (h2 : ¬ x < 0 → ax_T l d k (pc + 3, L, st, S) r Z) : ax_T l d k (pc, L, .inl (.int x) :: st, S) r Z := by
  by_cases q : x < 0
  · obtain ⟨a, b, e1, e2⟩ := h1 q
    exact ⟨a, b, ax_if_lt hd ht (fun _ => e1) (fun n => absurd q n), e2⟩
  · obtain ⟨a, b, e1, e2⟩ := h2 q
    exact ⟨a, b, ax_if_lt hd ht (fun n => absurd n q) (fun _ => e1), e2⟩
theorem ax_Tif_ge {off : Int} {tgt : Nat} {x : Int32} (hd : decode k.2.2.1 pc = .ok (.ifCond .ge off, 3)) (ht : (pc : Int) + off = (tgt : Int)) (h1 : 0 ≤ x → ax_T l d k (tgt, L, st, S) r Z) (h2 : ¬ 0 ≤ x → ax_T l d k (pc + 3, L, st, S) r Z) : ax_T l d k (pc, L, .inl (.int x) :: st, S) r Z := by
  by_cases q : 0 ≤ x
  · obtain ⟨a, b, e1, e2⟩ := h1 q
    exact ⟨a, b, ax_if_ge hd ht (fun _ => e1) (fun n => absurd q n), e2⟩
  · obtain ⟨a, b, e1, e2⟩ := h2 q
    exact ⟨a, b, ax_if_ge hd ht (fun n => absurd n q) (fun _ => e1), e2⟩
theorem ax_Tif_gt {off : Int} {tgt : Nat} {x : Int32} (hd : decode k.2.2.1 pc = .ok (.ifCond .gt off, 3)) (ht : (pc : Int) + off = (tgt : Int)) (h1 : 0 < x → ax_T l d k (tgt, L, st, S) r Z) (h2 : ¬ 0 < x → ax_T l d k (pc + 3, L, st, S) r Z) : ax_T l d k (pc, L, .inl (.int x) :: st, S) r Z := by
  by_cases q : 0 < x
  · obtain ⟨a, b, e1, e2⟩ := h1 q
    exact ⟨a, b, ax_if_gt hd ht (fun _ => e1) (fun n => absurd q n), e2⟩
  · obtain ⟨a, b, e1, e2⟩ := h2 q
    exact ⟨a, b, ax_if_gt hd ht (fun n => absurd n q) (fun _ => e1), e2⟩
theorem ax_Tif_le {off : Int} {tgt : Nat} {x : Int32} (hd : decode k.2.2.1 pc = .ok (.ifCond .le off, 3)) (ht : (pc : Int) + off = (tgt : Int)) (h1 : x ≤ 0 → ax_T l d k (tgt, L, st, S) r Z) (h2 : ¬ x ≤ 0 → ax_T l d k (pc + 3, L, st, S) r Z) : ax_T l d k (pc, L, .inl (.int x) :: st, S) r Z := by
  by_cases q : x ≤ 0
  · obtain ⟨a, b, e1, e2⟩ := h1 q
    exact ⟨a, b, ax_if_le hd ht (fun _ => e1) (fun n => absurd q n), e2⟩
  · obtain ⟨a, b, e1, e2⟩ := h2 q
    exact ⟨a, b, ax_if_le hd ht (fun n => absurd n q) (fun _ => e1), e2⟩
theorem ax_TtIn {dflt lo hi off : Int} {offs : Array Int} {len tgt : Nat} {x : Int32} (hd : decode k.2.2.1 pc = .ok (.tableswitch dflt lo hi offs, len)) (h1 : ¬ x.toInt < lo) (h2 : ¬ hi < x.toInt) (ho : offs[(x.toInt - lo).toNat]? = some off) (ht : (pc : Int) + off = (tgt : Int)) (hr : ax_T l d k (tgt, L, st, S) r Z) : ax_T l d k (pc, L, .inl (.int x) :: st, S) r Z := ax_T.of (ax_tIn hd h1 h2 ho ht ax_R.rf) hr
theorem ax_TtOut {dflt lo hi : Int} {offs : Array Int} {len tgt : Nat} {x : Int32} (hd : decode k.2.2.1 pc = .ok (.tableswitch dflt lo hi offs, len)) (h : x.toInt < lo ∨ hi < x.toInt) (ht : (pc : Int) + dflt = (tgt : Int)) (hr : ax_T l d k (tgt, L, st, S) r Z) : ax_T l d k (pc, L, .inl (.int x) :: st, S) r Z := ax_T.of (ax_tOut hd h ht ax_R.rf) hr
theorem ax_Tlsw {dflt off : Int} {ps : Array (Int × Int)} {len tgt : Nat} {x : Int32} (hd : decode k.2.2.1 pc = .ok (.lookupswitch dflt ps, len)) (hp : (ps.toList.zip (ps.toList.drop 1)).all (fun (a, next) => a.1 < next.1) = true) (ho : Op.lookupswitch.offset ps.toList dflt x.toInt = off) (ht : (pc : Int) + off = (tgt : Int)) (hr : ax_T l d k (tgt, L, st, S) r Z) : ax_T l d k (pc, L, .inl (.int x) :: st, S) r Z := ax_T.of (ax_lsw hd hp ho ht ax_R.rf) hr
theorem ax_TnnR {off : Int} {tgt ka i : Nat} (hd : decode k.2.2.1 pc = .ok (.ifnonnull off, 3)) (hka : ¬ (ax_kd ka).1 = 9) (ht : (pc : Int) + off = (tgt : Int)) (hr : ax_T l d k (tgt, L, st, S) r Z) : ax_T l d k (pc, L, .inr (ka, i) :: st, S) r Z := ax_T.of (ax_nnR hd hka ht ax_R.rf) hr
theorem ax_TnnN {off : Int} (hd : decode k.2.2.1 pc = .ok (.ifnonnull off, 3)) (hr : ax_T l d k (pc + 3, L, st, S) r Z) : ax_T l d k (pc, L, .inl .null :: st, S) r Z := ax_T.of (ax_nnN hd ax_R.rf) hr
theorem ax_TnuR {off : Int} {ka i : Nat} (hd : decode k.2.2.1 pc = .ok (.ifnull off, 3)) (hka : ¬ (ax_kd ka).1 = 9) (hr : ax_T l d k (pc + 3, L, st, S) r Z) : ax_T l d k (pc, L, .inr (ka, i) :: st, S) r Z := ax_T.of (ax_nuR hd hka ax_R.rf) hr
theorem ax_TnuN {off : Int} {tgt : Nat} (hd : decode k.2.2.1 pc = .ok (.ifnull off, 3)) (ht : (pc : Int) + off = (tgt : Int)) (hr : ax_T l d k (tgt, L, st, S) r Z) : ax_T l d k (pc, L, .inl .null :: st, S) r Z := ax_T.of (ax_nuN hd ht ax_R.rf) hr
/-! rows, by a guard -/
theorem ax_Tali {ka i n : Nat} {j : Int32} (hok : k.1 ∈ ax_KL) (hd : decode k.2.2.1 pc = .ok (.iaload, 1)) (h1 : (ax_kd ka).1 = 1 ∧ (ax_kd ka).2.1 = 0) (hn : ax_ln S ka i = n) (g : ax_in j n = true) (hr : ax_T l d k (pc + 1, L, .inl (.int (ax_ai S ka i j.toNatClampNeg)) :: st, S) r Z) : ax_T l d k (pc, L, .inl (.int j) :: .inr (ka, i) :: st, S) r Z := by
  subst hn
  rw [← ax_rd_1 h1.1] at hr
  exact ax_T.of (ax_step (i := .iaload) hok hd (if_pos ⟨Or.inl h1.1, h1.2, g⟩)) hr
theorem ax_Talc {ka i n : Nat} {j : Int32} (hok : k.1 ∈ ax_KL) (hd : decode k.2.2.1 pc = .ok (.iaload, 1)) (h1 : (ax_kd ka).1 = 2 ∧ (ax_kd ka).2.1 = 0) (hn : ax_ln S ka i = n) (g : ax_in j n = true) (hr : ax_T l d k (pc + 1, L, .inl (.int (ax_rd S ka i j.toNatClampNeg)) :: st, S) r Z) : ax_T l d k (pc, L, .inl (.int j) :: .inr (ka, i) :: st, S) r Z := by
  subst hn
  exact ax_T.of (ax_step (i := .iaload) hok hd (if_pos ⟨Or.inr h1.1, h1.2, g⟩)) hr
theorem ax_Talb {ka i n : Nat} {j : Int32} (hok : k.1 ∈ ax_KL) (hd : decode k.2.2.1 pc = .ok (.baload, 1)) (h1 : (ax_kd ka).1 = 1 ∧ ((ax_kd ka).2.1 = 1 ∨ (ax_kd ka).2.1 = 2)) (hn : ax_ln S ka i = n) (g : ax_in j n = true) (hr : ax_T l d k (pc + 1, L, .inl (.int (ax_ai S ka i j.toNatClampNeg)) :: st, S) r Z) : ax_T l d k (pc, L, .inl (.int j) :: .inr (ka, i) :: st, S) r Z := by
  subst hn
  rw [← ax_rd_1 h1.1] at hr
  exact ax_T.of (ax_step (i := .baload) hok hd (if_pos ⟨Or.inl h1.1, h1.2, g⟩)) hr
theorem ax_Tabc {ka i n : Nat} {j : Int32} (hok : k.1 ∈ ax_KL) (hd : decode k.2.2.1 pc = .ok (.baload, 1)) (h1 : (ax_kd ka).1 = 2 ∧ ((ax_kd ka).2.1 = 1 ∨ (ax_kd ka).2.1 = 2)) (hn : ax_ln S ka i = n) (g : ax_in j n = true) (hr : ax_T l d k (pc + 1, L, .inl (.int (ax_rd S ka i j.toNatClampNeg)) :: st, S) r Z) : ax_T l d k (pc, L, .inl (.int j) :: .inr (ka, i) :: st, S) r Z := by
  subst hn
  exact ax_T.of (ax_step (i := .baload) hok hd (if_pos ⟨Or.inr h1.1, h1.2, g⟩)) hr
theorem ax_Tall {ka i n : Nat} {j : Int32} (hok : k.1 ∈ ax_KL) (hd : decode k.2.2.1 pc = .ok (.laload, 1)) (h1 : (ax_kd ka).1 = 1 ∧ (ax_kd ka).2.1 = 3) (hn : ax_ln S ka i = n) (g : ax_in j n = true) (hr : ax_T l d k (pc + 1, L, .inl (.long (ax_al S ka i j.toNatClampNeg)) :: st, S) r Z) : ax_T l d k (pc, L, .inl (.int j) :: .inr (ka, i) :: st, S) r Z := by
  subst hn
  exact ax_T.of (ax_step (i := .laload) hok hd (if_pos ⟨h1.1, h1.2, g⟩)) hr
theorem ax_Tala4 {ka i n : Nat} {j : Int32} (hok : k.1 ∈ ax_KL) (hd : decode k.2.2.1 pc = .ok (.aaload, 1)) (h1 : (ax_kd ka).1 = 1 ∧ (ax_kd ka).2.1 = 4) (hn : ax_ln S ka i = n) (g : ax_in j n = true) (hr : ax_T l d k (pc + 1, L, .inr (0, j.toNatClampNeg) :: st, S) r Z) : ax_T l d k (pc, L, .inl (.int j) :: .inr (ka, i) :: st, S) r Z := by
  subst hn
  exact ax_T.of (ax_step (i := .aaload) hok hd (if_pos ⟨h1.1, h1.2, g⟩)) hr
theorem ax_Tala5 {ka i n : Nat} {j : Int32} (hok : k.1 ∈ ax_KL) (hd : decode k.2.2.1 pc = .ok (.aaload, 1)) (h1 : (ax_kd ka).1 = 1 ∧ (ax_kd ka).2.1 = 5) (hn : ax_ln S ka i = n) (g : ax_in j n = true) (hr : ax_T l d k (pc + 1, L, .inr (5, j.toNatClampNeg) :: st, S) r Z) : ax_T l d k (pc, L, .inl (.int j) :: .inr (ka, i) :: st, S) r Z := by
  subst hn
  exact ax_T.of (ax_step (i := .aaload) hok hd ((if_neg (fun q => absurd (h1.2.symm.trans q.2.1) (by decide))).trans (if_pos ⟨h1.1, h1.2, g⟩))) hr
theorem ax_Tasi {ka i n : Nat} {j x : Int32} (hok : k.1 ∈ ax_KL) (hd : decode k.2.2.1 pc = .ok (.iastore, 1)) (h1 : (ax_kd ka).1 = 1 ∧ (ax_kd ka).2.1 = 0) (hn : ax_ln S ka i = n) (g : ax_in j n = true) (hr : ax_T l d k (pc + 1, L, st, ax_sai S ka i j.toNatClampNeg x) r Z) : ax_T l d k (pc, L, .inl (.int x) :: .inl (.int j) :: .inr (ka, i) :: st, S) r Z := by
  subst hn
  exact ax_T.of (ax_step (i := .iastore) hok hd (if_pos ⟨h1.1, h1.2, g⟩)) hr
theorem ax_Tasb {ka i n : Nat} {j x : Int32} (hok : k.1 ∈ ax_KL) (hd : decode k.2.2.1 pc = .ok (.bastore, 1)) (h1 : (ax_kd ka).1 = 1 ∧ (ax_kd ka).2.1 = 2) (hn : ax_ln S ka i = n) (g : ax_in j n = true) (hr : ax_T l d k (pc + 1, L, st, ax_sai S ka i j.toNatClampNeg (vp_nar .byte x)) r Z) : ax_T l d k (pc, L, .inl (.int x) :: .inl (.int j) :: .inr (ka, i) :: st, S) r Z := by
  subst hn
  exact ax_T.of (ax_step (i := .bastore) hok hd (if_pos ⟨h1.1, h1.2, g⟩)) hr
theorem ax_Tasz {ka i n : Nat} {j x : Int32} (hok : k.1 ∈ ax_KL) (hd : decode k.2.2.1 pc = .ok (.bastore, 1)) (h1 : (ax_kd ka).1 = 1 ∧ (ax_kd ka).2.1 = 1) (hn : ax_ln S ka i = n) (g : ax_in j n = true) (hr : ax_T l d k (pc + 1, L, st, ax_sai S ka i j.toNatClampNeg (vp_nar .boolean x)) r Z) : ax_T l d k (pc, L, .inl (.int x) :: .inl (.int j) :: .inr (ka, i) :: st, S) r Z := by
  subst hn
  exact ax_T.of (ax_step (i := .bastore) hok hd ((if_neg (fun q => absurd (h1.2.symm.trans q.2.1) (by decide))).trans (if_pos ⟨h1.1, h1.2, g⟩))) hr
theorem ax_Tasl {ka i n : Nat} {j : Int32} {x : Int64} (hok : k.1 ∈ ax_KL) (hd : decode k.2.2.1 pc = .ok (.lastore, 1)) (h1 : (ax_kd ka).1 = 1 ∧ (ax_kd ka).2.1 = 3) (hn : ax_ln S ka i = n) (g : ax_in j n = true) (hr : ax_T l d k (pc + 1, L, st, ax_sal S ka i j.toNatClampNeg x) r Z) : ax_T l d k (pc, L, .inl (.long x) :: .inl (.int j) :: .inr (ka, i) :: st, S) r Z := by
  subst hn
  exact ax_T.of (ax_step (i := .lastore) hok hd (if_pos ⟨h1.1, h1.2, g⟩)) hr
theorem ax_nz_e {x : Int32} (g : ax_nz x = true) : ¬ x = 0 := by simpa [ax_nz] using g
theorem ax_nzl_e {x : Int64} (g : ax_nzl x = true) : ¬ x = 0 := by simpa [ax_nzl] using g
theorem ax_Tidiv {x y : Int32} (hok : k.1 ∈ ax_KL) (hd : decode k.2.2.1 pc = .ok (.idiv, 1)) (g : ax_nz y = true) (hr : ax_T l d k (pc + 1, L, .inl (.int (x / y)) :: st, S) r Z) : ax_T l d k (pc, L, .inl (.int y) :: .inl (.int x) :: st, S) r Z := ax_T.of (ax_step (i := .idiv) hok hd (if_neg (ax_nz_e g))) hr
theorem ax_Tirem {x y : Int32} (hok : k.1 ∈ ax_KL) (hd : decode k.2.2.1 pc = .ok (.irem, 1)) (g : ax_nz y = true) (hr : ax_T l d k (pc + 1, L, .inl (.int (x - x / y * y)) :: st, S) r Z) : ax_T l d k (pc, L, .inl (.int y) :: .inl (.int x) :: st, S) r Z := ax_T.of (ax_step (i := .irem) hok hd (if_neg (ax_nz_e g))) hr
theorem ax_Tldiv {x y : Int64} (hok : k.1 ∈ ax_KL) (hd : decode k.2.2.1 pc = .ok (.ldiv, 1)) (g : ax_nzl y = true) (hr : ax_T l d k (pc + 1, L, .inl (.long (x / y)) :: st, S) r Z) : ax_T l d k (pc, L, .inl (.long y) :: .inl (.long x) :: st, S) r Z := ax_T.of (ax_step (i := .ldiv) hok hd (if_neg (ax_nzl_e g))) hr
theorem ax_Tlrem {x y : Int64} (hok : k.1 ∈ ax_KL) (hd : decode k.2.2.1 pc = .ok (.lrem, 1)) (g : ax_nzl y = true) (hr : ax_T l d k (pc + 1, L, .inl (.long (x - x / y * y)) :: st, S) r Z) : ax_T l d k (pc, L, .inl (.long y) :: .inl (.long x) :: st, S) r Z := ax_T.of (ax_step (i := .lrem) hok hd (if_neg (ax_nzl_e g))) hr
/-! a field that may be null -/
theorem ax_TgetN {n ka i sl c q : Nat} (hok : k.1 ∈ ax_KL) (hd : decode k.2.2.1 pc = .ok (.getfield n, 3)) (hf : ax_lf k.1.2.2.1 n = some (c, sl)) (h1 : (ax_kd ka).1 = 0 ∧ (ax_kd ka).2.1 = c ∧ sl < ax_nf c) (hs : ax_fs c sl = (5, q, 0)) (ho : ax_fo S ka i sl = none) (hr : ax_T l d k (pc + 3, L, .inl .null :: st, S) r Z) : ax_T l d k (pc, L, .inr (ka, i) :: st, S) r Z := by
  refine ax_T.of (ax_step (i := .getfield n) hok hd ?_) hr
  show ax_get k.1 n L (.inr (ka, i) :: st) S = _
  unfold ax_get
  rw [hf]
  dsimp only
  rw [if_pos h1]
  simp only [ax_fv, hs, ho]
theorem ax_TgetS {n ka i sl c q x : Nat} (hok : k.1 ∈ ax_KL) (hd : decode k.2.2.1 pc = .ok (.getfield n, 3)) (hf : ax_lf k.1.2.2.1 n = some (c, sl)) (h1 : (ax_kd ka).1 = 0 ∧ (ax_kd ka).2.1 = c ∧ sl < ax_nf c) (hs : ax_fs c sl = (5, q, 0)) (ho : ax_fo S ka i sl = some x) (hr : ax_T l d k (pc + 3, L, .inr (q, x) :: st, S) r Z) : ax_T l d k (pc, L, .inr (ka, i) :: st, S) r Z := by
  refine ax_T.of (ax_step (i := .getfield n) hok hd ?_) hr
  show ax_get k.1 n L (.inr (ka, i) :: st) S = _
  unfold ax_get
  rw [hf]
  dsimp only
  rw [if_pos h1]
  simp only [ax_fv, hs, ho]
theorem ax_Tacopy {idx k0 i0 k1 i1 : Nat} {sp dp n : Int32} {rest : List AV} (hd : decode k.2.2.1 pc = .ok (.invokestatic idx, 3)) (hl : Cond.methodLink k.1.2.1 idx arraycopyName ∈ ax_tb) (h0 : ((ax_kd k0).1 = 1 ∨ (ax_kd k0).1 = 2) ∧ (ax_kd k0).2.1 = 0) (h1 : (ax_kd k1).1 = 1 ∧ (ax_kd k1).2.1 = 0)
    (g : (!decide (sp < 0) && !decide (dp < 0) && !decide (n < 0) && decide (sp.toNatClampNeg + n.toNatClampNeg ≤ ax_ln S k0 i0) && decide (dp.toNatClampNeg + n.toNatClampNeg ≤ ax_ln S k1 i1)) = true) (hc : ax_cats rest ≤ 8)
    (hr : ax_T l (d + 1) k (pc + 3, L, rest, ax_cpy S k1 i1 (ax_rd S k0 i0) sp.toNatClampNeg dp.toNatClampNeg n.toNatClampNeg) r Z) :
    ax_T l (d + 1) k (pc, L, .inl (.int n) :: .inl (.int dp) :: .inr (k1, i1) :: .inl (.int sp) :: .inr (k0, i0) :: rest, S) r Z := by
  simp only [Bool.and_eq_true, Bool.not_eq_true', decide_eq_false_iff_not, decide_eq_true_eq] at g
  exact ax_T.of (ax_acopy hd hl h0 h1 g.1.1.1.1 g.1.1.1.2 g.1.1.2 g.1.2 g.2 hc ax_R.rf) hr
/-! returns -/
theorem ax_Treti {x : Int32} {ty : FieldType} (hd : decode k.2.2.1 pc = .ok (.ireturn, 1)) (ht : k.2.2.2.2.1 = some ty) (hn : narrow ty (.int x) = .int x) : ax_T l d k (pc, L, [.inl (.int x)], S) (some (.inl (.int x))) S := ⟨pc, L, ax_R.rf, Or.inr (Or.inr ⟨x, ty, rfl, ht, hn, hd⟩)⟩
theorem ax_bo_e {x : Int32} (g : ax_bo x = true) : narrow .boolean (.int x) = .int x := by
  have : x = 0 ∨ x = 1 := by simpa [ax_bo] using g
  rcases this with rfl | rfl <;> rfl
theorem ax_Tretz {x : Int32} (hd : decode k.2.2.1 pc = .ok (.ireturn, 1)) (ht : k.2.2.2.2.1 = some .boolean) (g : ax_bo x = true) : ax_T l d k (pc, L, [.inl (.int x)], S) (some (.inl (.int x))) S := ⟨pc, L, ax_R.rf, Or.inr (Or.inr ⟨x, .boolean, rfl, ht, ax_bo_e g, hd⟩)⟩
theorem ax_Tretl {x : Int64} (hd : decode k.2.2.1 pc = .ok (.lreturn, 1)) (ht : k.2.2.2.2.1 = some .long) : ax_T l d k (pc, L, [.inl (.long x)], S) (some (.inl (.long x))) S := ⟨pc, L, ax_R.rf, Or.inr (Or.inl ⟨x, rfl, ht, hd⟩)⟩
theorem ax_Tretv (hd : decode k.2.2.1 pc = .ok (.return_, 1)) (ht : k.2.2.2.2.1 = none) : ax_T l d k (pc, L, [], S) none S := ⟨pc, L, ax_R.rf, Or.inl ⟨rfl, ht, hd⟩⟩
theorem ax_TSi {k' : AM} {idx : Nat} {S1 : AS} {x : Int32} (as rest : List AV) (hl : ax_lS k.1 idx k') (hd : decode k.2.2.1 pc = .ok (.invokestatic idx, 3)) (hst : st = as.reverse ++ rest) (hnp : as.length = k'.2.2.2.2.2.1) (hn : (ax_l0 as).length ≤ k'.2.2.2.1) (hc : ax_cats rest ≤ 8) (hM : ax_M l d k' as S (some (.inl (.int x))) S1) (hr : ax_T l (d + 1) k (pc + 3, L, .inl (.int x) :: rest, S1) r Z) : ax_T l (d + 1) k (pc, L, st, S) r Z := ax_T.of (ax_cSi as rest hl hd hst hnp hn hc hM ax_R.rf) hr
theorem ax_TVi {k' : AM} {idx ka i : Nat} {S1 : AS} {x : Int32} (as rest : List AV) (hl : ax_lV k.1 idx k') (hd : decode k.2.2.1 pc = .ok (.invokevirtual idx, 3)) (hst : st = as.reverse ++ .inr (ka, i) :: rest) (hka : ((ax_kd ka).1 = 0 ∧ (ax_kd ka).2.1 = k'.1.1 ∧ k'.1.1 < 13) ∨ ((ax_kd ka).1 = 3 ∧ k'.1.1 = 14)) (hnp : as.length = k'.2.2.2.2.2.1) (hn : (ax_l0 (.inr (ka, i) :: as)).length ≤ k'.2.2.2.1) (hc : ax_cats rest ≤ 8) (hM : ax_M l d k' (.inr (ka, i) :: as) S (some (.inl (.int x))) S1) (hr : ax_T l (d + 1) k (pc + 3, L, .inl (.int x) :: rest, S1) r Z) : ax_T l (d + 1) k (pc, L, st, S) r Z := ax_T.of (ax_cVi as rest hl hd hst hka hnp hn hc hM ax_R.rf) hr
theorem ax_TSl {k' : AM} {idx : Nat} {S1 : AS} {x : Int64} (as rest : List AV) (hl : ax_lS k.1 idx k') (hd : decode k.2.2.1 pc = .ok (.invokestatic idx, 3)) (hst : st = as.reverse ++ rest) (hnp : as.length = k'.2.2.2.2.2.1) (hn : (ax_l0 as).length ≤ k'.2.2.2.1) (hc : ax_cats rest ≤ 8) (hM : ax_M l d k' as S (some (.inl (.long x))) S1) (hr : ax_T l (d + 1) k (pc + 3, L, .inl (.long x) :: rest, S1) r Z) : ax_T l (d + 1) k (pc, L, st, S) r Z := ax_T.of (ax_cSl as rest hl hd hst hnp hn hc hM ax_R.rf) hr
theorem ax_TVl {k' : AM} {idx ka i : Nat} {S1 : AS} {x : Int64} (as rest : List AV) (hl : ax_lV k.1 idx k') (hd : decode k.2.2.1 pc = .ok (.invokevirtual idx, 3)) (hst : st = as.reverse ++ .inr (ka, i) :: rest) (hka : ((ax_kd ka).1 = 0 ∧ (ax_kd ka).2.1 = k'.1.1 ∧ k'.1.1 < 13) ∨ ((ax_kd ka).1 = 3 ∧ k'.1.1 = 14)) (hnp : as.length = k'.2.2.2.2.2.1) (hn : (ax_l0 (.inr (ka, i) :: as)).length ≤ k'.2.2.2.1) (hc : ax_cats rest ≤ 8) (hM : ax_M l d k' (.inr (ka, i) :: as) S (some (.inl (.long x))) S1) (hr : ax_T l (d + 1) k (pc + 3, L, .inl (.long x) :: rest, S1) r Z) : ax_T l (d + 1) k (pc, L, st, S) r Z := ax_T.of (ax_cVl as rest hl hd hst hka hnp hn hc hM ax_R.rf) hr
theorem ax_TSv {k' : AM} {idx : Nat} {S1 : AS} (as rest : List AV) (hl : ax_lS k.1 idx k') (hd : decode k.2.2.1 pc = .ok (.invokestatic idx, 3)) (hst : st = as.reverse ++ rest) (hnp : as.length = k'.2.2.2.2.2.1) (hn : (ax_l0 as).length ≤ k'.2.2.2.1) (hc : ax_cats rest ≤ 8) (hM : ax_M l d k' as S none S1) (hr : ax_T l (d + 1) k (pc + 3, L, rest, S1) r Z) : ax_T l (d + 1) k (pc, L, st, S) r Z := ax_T.of (ax_cSv as rest hl hd hst hnp hn hc hM ax_R.rf) hr
theorem ax_TVv {k' : AM} {idx ka i : Nat} {S1 : AS} (as rest : List AV) (hl : ax_lV k.1 idx k') (hd : decode k.2.2.1 pc = .ok (.invokevirtual idx, 3)) (hst : st = as.reverse ++ .inr (ka, i) :: rest) (hka : ((ax_kd ka).1 = 0 ∧ (ax_kd ka).2.1 = k'.1.1 ∧ k'.1.1 < 13) ∨ ((ax_kd ka).1 = 3 ∧ k'.1.1 = 14)) (hnp : as.length = k'.2.2.2.2.2.1) (hn : (ax_l0 (.inr (ka, i) :: as)).length ≤ k'.2.2.2.1) (hc : ax_cats rest ≤ 8) (hM : ax_M l d k' (.inr (ka, i) :: as) S none S1) (hr : ax_T l (d + 1) k (pc + 3, L, rest, S1) r Z) : ax_T l (d + 1) k (pc, L, st, S) r Z := ax_T.of (ax_cVv as rest hl hd hst hka hnp hn hc hM ax_R.rf) hr
end AXT

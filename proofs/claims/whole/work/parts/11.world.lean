/-! THE WORLD of the abstract machine, and what holds of it -/
def ax_cv (ad : Nat → Nat → Nat) (ov : Value) (v : AV) : Value := match v with
  | .inl x => x
  | .inr o => if o.1 = 68 then ov else .ref (ad o.1 o.2)
def ax_ce (ad : Nat → Nat → Nat) (ov : Value) (cy : Nat → ClassId) (S : AS) (k i : Nat) : va_E :=
  if (ax_kd k).1 = 0 then .inr ((ax_kd k).2.1, (List.range (ax_nf (ax_kd k).2.1)).map (fun j => ax_cv ad ov (ax_fv S k i (ax_kd k).2.1 j)))
  else if (ax_kd k).2.1 = 3 then .inl (cy 3, ax_ln S k i, .inr (.inl (ax_al S k i)))
  else if (ax_kd k).2.1 = 4 then .inl (cy 4, ax_ln S k i, .inr (.inr (.inr (.inr (fun j => some (ad 0 j))))))
  else if (ax_kd k).2.1 = 5 then .inl (cy 5, ax_ln S k i, .inr (.inr (.inr (.inr (fun j => some (ad 5 j))))))
  else .inl (cy (ax_kd k).2.1, ax_ln S k i, .inl (ax_ai S k i))
def ax_ob : List (Nat × Nat) := (List.range 64).flatMap (fun k => if (ax_kd k).1 ≤ 1 then (List.range (ax_cn k)).map (fun i => (k, i)) else [])
def ax_gw (ad : Nat → Nat → Nat) (ov : Value) (cy : Nat → ClassId) (S : AS) : va_W := ax_ob.map (fun o => (ad o.1 o.2, ax_ce ad ov cy S o.1 o.2))
theorem ax_ob_nd : ax_ob.Nodup := by decide +kernel
theorem ax_kd_small : ∀ k, k < 69 → (ax_kd k).1 ≤ 1 → k < 64 := by decide +kernel
theorem ax_kd_big {k : Nat} (h : 69 ≤ k) : ax_kd k = (9, 0, 0) := by
  have e : ax_KD.length = 69 := rfl
  simp [ax_kd, List.getD_eq_getElem?_getD, List.getElem?_eq_none (by omega : ax_KD.length ≤ k)]
theorem ax_kd_lt {k : Nat} (h : (ax_kd k).1 ≤ 1) : k < 64 := by
  by_cases hk : k < 69
  · exact ax_kd_small k hk h
  · rw [ax_kd_big (by omega)] at h
    exact absurd h (by decide)
theorem ax_ob_mem {k i : Nat} (h : (ax_kd k).1 ≤ 1) (hi : i < ax_cn k) : (k, i) ∈ ax_ob := by
  refine List.mem_flatMap.mpr ⟨k, List.mem_range.mpr (ax_kd_lt h), ?_⟩
  rw [if_pos h]
  exact List.mem_map.mpr ⟨i, List.mem_range.mpr hi, rfl⟩
theorem ax_gw_at {ad : Nat → Nat → Nat} {ov : Value} {cy : Nat → ClassId} (S : AS) {k i : Nat} (h : (ax_kd k).1 ≤ 1) (hi : i < ax_cn k) : ∃ q : Nat, ax_ob[q]? = some (k, i) ∧ (ax_gw ad ov cy S)[q]? = some (ad k i, ax_ce ad ov cy S k i) := by
  obtain ⟨q, hq⟩ := List.mem_iff_getElem?.mp (ax_ob_mem h hi)
  exact ⟨q, hq, by simp [ax_gw, hq]⟩
theorem ax_nd_at {q j : Nat} {o : Nat × Nat} (h1 : ax_ob[q]? = some o) (h2 : ax_ob[j]? = some o) : q = j := by
  obtain ⟨a1, b1⟩ := List.getElem?_eq_some_iff.mp h1
  obtain ⟨a2, b2⟩ := List.getElem?_eq_some_iff.mp h2
  have hp := List.pairwise_iff_getElem.mp ax_ob_nd
  rcases Nat.lt_trichotomy q j with h | h | h
  · exact absurd (b1.trans b2.symm) (hp q j a1 a2 h)
  · exact h
  · exact absurd (b2.trans b1.symm) (hp j q a2 a1 h)
theorem ax_gw_set {ad : Nat → Nat → Nat} {ov : Value} {cy : Nat → ClassId} {S S' : AS} {k i q : Nat} {e : va_E} (hq : ax_ob[q]? = some (k, i)) (he : ax_ce ad ov cy S' k i = e) (ho : ∀ a b : Nat, ¬ (a = k ∧ b = i) → ax_ce ad ov cy S' a b = ax_ce ad ov cy S a b) : (ax_gw ad ov cy S).set q (ad k i, e) = ax_gw ad ov cy S' := by
  refine List.ext_getElem? fun j => ?_
  unfold ax_gw
  by_cases hj : q = j
  · subst hj
    have hl : q < ax_ob.length := (List.getElem?_eq_some_iff.mp hq).1
    rw [List.getElem?_set_self (by simpa using hl), List.getElem?_map, hq]
    simp [he]
  · rw [List.getElem?_set_ne hj, List.getElem?_map, List.getElem?_map]
    cases hb : ax_ob[j]? with
    | none => rfl
    | some o =>
      obtain ⟨a, b⟩ := o
      have : ¬ (a = k ∧ b = i) := by
        rintro ⟨rfl, rfl⟩
        exact hj (ax_nd_at hq hb)
      simp [ho a b this]
/-! validity: every reference is of an object that there is -/
def ax_vv (v : AV) : Prop := (∀ k i, v = .inr (k, i) → i < ax_cn k) ∧ ∀ x : UInt64, v ≠ .inl (.double x)
def ax_vL (L : AL) : Prop := ∀ v, some v ∈ L → ax_vv v
def ax_vs (st : List AV) : Prop := ∀ v ∈ st, ax_vv v
def ax_vS (S : AS) : Prop := ∀ k i sl, (ax_kd k).1 = 0 → i < ax_cn k → sl < ax_nf (ax_kd k).2.1 → ax_vv (ax_fv S k i (ax_kd k).2.1 sl)
theorem ax_vv_i (x : Int32) : ax_vv (.inl (.int x)) := ⟨fun _ _ h => by (cases h), fun _ h => by (cases h)⟩
theorem ax_vv_j (x : Int64) : ax_vv (.inl (.long x)) := ⟨fun _ _ h => by (cases h), fun _ h => by (cases h)⟩
theorem ax_vv_n : ax_vv (.inl .null) := ⟨fun _ _ h => by (cases h), fun _ h => by (cases h)⟩
theorem ax_vv_r {k i : Nat} (h : i < ax_cn k) : ax_vv (.inr (k, i)) := ⟨fun _ _ e => by cases e; exact h, fun _ h => by (cases h)⟩
theorem ax_vs_nil : ax_vs [] := fun _ h => by cases h
theorem ax_vs_c {v : AV} {st : List AV} (h : ax_vv v) (hs : ax_vs st) : ax_vs (v :: st) := fun w hw => by
  rcases List.mem_cons.mp hw with rfl | q
  · exact h
  · exact hs w q
theorem ax_vs_h {v : AV} {st : List AV} (h : ax_vs (v :: st)) : ax_vv v := h v List.mem_cons_self
theorem ax_vs_t {v : AV} {st : List AV} (h : ax_vs (v :: st)) : ax_vs st := fun w hw => h w (List.mem_cons_of_mem _ hw)
/-! the locals -/
def ax_la (ad : Nat → Nat → Nat) (ov : Value) (L : AL) : List (Nat × Value) := L.zipIdx.filterMap (fun q => q.1.map (fun v => (q.2, ax_cv ad ov v)))
theorem ax_la_mem {ad : Nat → Nat → Nat} {ov : Value} {L : AL} {i : Nat} {w : Value} : (i, w) ∈ ax_la ad ov L ↔ ∃ v, L[i]? = some (some v) ∧ ax_cv ad ov v = w := by
  unfold ax_la
  rw [List.mem_filterMap]
  constructor
  · rintro ⟨⟨o, j⟩, hq, he⟩
    obtain ⟨v, rfl, hv⟩ := Option.map_eq_some_iff.mp he
    have := List.mem_zipIdx_iff_getElem?.mp hq
    cases hv
    exact ⟨v, by simpa using this, rfl⟩
  · rintro ⟨v, h1, h2⟩
    exact ⟨(some v, i), List.mem_zipIdx_iff_getElem?.mpr (by simpa using h1), by simp [h2]⟩
theorem ax_la_at {ad : Nat → Nat → Nat} {ov : Value} {L : AL} {ls : Array Slot} {n i : Nat} {v : AV} (h : lv_has ls n (ax_la ad ov L)) (hv : L[i]? = some (some v)) : ls[i]? = some (.val (ax_cv ad ov v)) := h.2.2 (i, ax_cv ad ov v) (ax_la_mem.mpr ⟨v, hv, rfl⟩)
theorem ax_c2_cat {ad : Nat → Nat → Nat} {ov : Value} (hov : ov = .null ∨ ∃ t, ov = .ref t) {v : AV} (hc : (ax_cv ad ov v).category = 2) (hd : ∀ x : UInt64, v ≠ .inl (.double x)) : ax_c2 (some v) = true := by
  rcases v with x | o
  · cases x <;> simp_all [ax_cv, Value.category, ax_c2]
  · exfalso
    unfold ax_cv at hc
    dsimp only at hc
    split at hc
    · rcases hov with rfl | ⟨t, rfl⟩ <;> simp [Value.category] at hc
    · simp [Value.category] at hc
theorem ax_st1_at {L : AL} {i j : Nat} {v w : AV} (h : (ax_st1 L i v)[j]? = some (some w)) : (j = i ∧ w = v) ∨ (j ≠ i ∧ L[j]? = some (some w) ∧ ¬ (j + 1 = i ∧ ax_c2 (some w) = true)) := by
  unfold ax_st1 at h
  rw [List.getElem?_mapIdx] at h
  obtain ⟨o, ho, he⟩ := Option.map_eq_some_iff.mp h
  by_cases hj : j = i
  · rw [if_pos hj] at he
    exact Or.inl ⟨hj, (Option.some.inj he).symm⟩
  · rw [if_neg hj] at he
    split at he
    · cases he
    · next hn =>
      subst he
      exact Or.inr ⟨hj, ho, hn⟩
theorem ax_st2_at {L : AL} {i j : Nat} {v w : AV} (h : (ax_st2 L i v)[j]? = some (some w)) : (j = i ∧ w = v) ∨ (j ≠ i ∧ j ≠ i + 1 ∧ L[j]? = some (some w) ∧ ¬ (j + 1 = i ∧ ax_c2 (some w) = true)) := by
  unfold ax_st2 at h
  rw [List.getElem?_mapIdx] at h
  obtain ⟨o, ho, he⟩ := Option.map_eq_some_iff.mp h
  by_cases hj : j = i
  · rw [if_pos hj] at he
    exact Or.inl ⟨hj, (Option.some.inj he).symm⟩
  · rw [if_neg hj] at he
    by_cases hj2 : j = i + 1
    · rw [if_pos hj2] at he
      cases he
    · rw [if_neg hj2] at he
      split at he
      · cases he
      · next hn =>
        subst he
        exact Or.inr ⟨hj, hj2, ho, hn⟩
theorem ax_vL_st1 {L : AL} {i : Nat} {v : AV} (h : ax_vL L) (hv : ax_vv v) : ax_vL (ax_st1 L i v) := by
  intro w hw
  obtain ⟨j, hj⟩ := List.mem_iff_getElem?.mp hw
  rcases ax_st1_at hj with ⟨-, rfl⟩ | ⟨-, h2, -⟩
  · exact hv
  · exact h w (List.mem_of_getElem? h2)
theorem ax_vL_st2 {L : AL} {i : Nat} {v : AV} (h : ax_vL L) (hv : ax_vv v) : ax_vL (ax_st2 L i v) := by
  intro w hw
  obtain ⟨j, hj⟩ := List.mem_iff_getElem?.mp hw
  rcases ax_st2_at hj with ⟨-, rfl⟩ | ⟨-, -, h2, -⟩
  · exact hv
  · exact h w (List.mem_of_getElem? h2)
theorem ax_la_st1 {ad : Nat → Nat → Nat} {ov : Value} (hov : ov = .null ∨ ∃ t, ov = .ref t) {L : AL} {ls : Array Slot} {n i : Nat} {v : AV} (hL : ax_vL L) (h : lv_has ls n ((i, ax_cv ad ov v) :: (ax_la ad ov L).filter (fun q => !(q.1 == i) && !(q.1 + 1 == i && q.2.category == 2)))) : lv_has ls n (ax_la ad ov (ax_st1 L i v)) := by
  refine ⟨h.1, h.2.1, fun q hq => h.2.2 q ?_⟩
  obtain ⟨j, w⟩ := q
  obtain ⟨u, hu, rfl⟩ := ax_la_mem.mp hq
  rcases ax_st1_at hu with ⟨rfl, rfl⟩ | ⟨hj, h2, h3⟩
  · exact List.mem_cons_self
  · refine List.mem_cons_of_mem _ (List.mem_filter.mpr ⟨ax_la_mem.mpr ⟨u, h2, rfl⟩, ?_⟩)
    have hc : ¬ (j + 1 = i ∧ (ax_cv ad ov u).category = 2) := fun q => h3 ⟨q.1, ax_c2_cat hov q.2 (hL u (List.mem_of_getElem? h2)).2⟩
    have h0 : (j == i) = false := by simpa using hj
    have h1 : (j + 1 == i && (ax_cv ad ov u).category == 2) = false := by
      rw [Bool.eq_false_iff]
      intro q
      simp only [Bool.and_eq_true, beq_iff_eq] at q
      exact hc q
    simp [h0, h1]
theorem ax_la_st2 {ad : Nat → Nat → Nat} {ov : Value} (hov : ov = .null ∨ ∃ t, ov = .ref t) {L : AL} {ls : Array Slot} {n i : Nat} {v : AV} (hL : ax_vL L) (h : lv_has ls n ((i, ax_cv ad ov v) :: (ax_la ad ov L).filter (fun q => !(q.1 == i) && (!(q.1 == i + 1) && !(q.1 + 1 == i && q.2.category == 2))))) : lv_has ls n (ax_la ad ov (ax_st2 L i v)) := by
  refine ⟨h.1, h.2.1, fun q hq => h.2.2 q ?_⟩
  obtain ⟨j, w⟩ := q
  obtain ⟨u, hu, rfl⟩ := ax_la_mem.mp hq
  rcases ax_st2_at hu with ⟨rfl, rfl⟩ | ⟨hj, hj2, h2, h3⟩
  · exact List.mem_cons_self
  · refine List.mem_cons_of_mem _ (List.mem_filter.mpr ⟨ax_la_mem.mpr ⟨u, h2, rfl⟩, ?_⟩)
    have hc : ¬ (j + 1 = i ∧ (ax_cv ad ov u).category = 2) := fun q => h3 ⟨q.1, ax_c2_cat hov q.2 (hL u (List.mem_of_getElem? h2)).2⟩
    have h0 : (j == i) = false := by simpa using hj
    have h9 : (j == i + 1) = false := by simpa using hj2
    have h1 : (j + 1 == i && (ax_cv ad ov u).category == 2) = false := by
      rw [Bool.eq_false_iff]
      intro q
      simp only [Bool.and_eq_true, beq_iff_eq] at q
      exact hc q
    simp [h0, h1, h9]
theorem ax_st1_len {L : AL} {i : Nat} {v : AV} : (ax_st1 L i v).length = L.length := by simp [ax_st1]
theorem ax_st2_len {L : AL} {i : Nat} {v : AV} : (ax_st2 L i v).length = L.length := by simp [ax_st2]

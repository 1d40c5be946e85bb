/-! THE CLASS reads clauses -/
def lc_OkC (S : AS) (n y : Nat) (r : Option AS) (L : Nat) (c : Nat → Int32) : la_OC → Prop
  | .inl f => f ≤ n ∧ ∃ p' l' c', l' ≤ 241 ∧ r = some (lc_st S y p' (Int32.ofNat f) (Int32.ofNat l') c')
  | .inr (C, s) => r = some (lc_st S y (Int32.ofNat s) (Int32.ofInt (-1)) (Int32.ofNat (L + (la_c1 L C).length)) (lc_wr (la_c1 L C) c L)) ∧ L + (la_c1 L C).length ≤ s ∧ s ≤ n
theorem lc_wr_lo : ∀ (cs : List (Int32 × Int32)) (c : Nat → Int32) (l j : Nat) (x : Int32), j < l → lc_wr cs (fun i => if i = j then x else c i) l = (fun i => if i = j then x else lc_wr cs c l i)
  | [], c, l, j, x, h => rfl
  | q :: r, c, l, j, x, h => by
    simp only [lc_wr]
    have e : (fun i => if i = l then lc_en q else if i = j then x else c i) = (fun i => if i = j then x else if i = l then lc_en q else c i) := by
      funext i
      by_cases h1 : i = l
      · have h2 : i ≠ j := by omega
        rw [if_pos h1, if_neg h2, if_pos h1]
      · rw [if_neg h1, if_neg h1]
    rw [e]
    exact lc_wr_lo r (fun i => if i = l then lc_en q else c i) (l + 1) j x (by omega)
/-- the jump that is put in at the end -/
theorem lc_wr_j {a v : List (Int32 × Int32)} {c : Nat → Int32} {L : Nat} {x y : Int32 × Int32} : (fun i => if i = L + a.length then lc_en x else lc_wr v (lc_wr [y] (lc_wr a c L) (L + a.length)) (L + a.length + 1) i) = lc_wr (a ++ (x :: v)) c L := by
  rw [lc_wr_ap]
  show _ = lc_wr v (fun i => if i = L + a.length then lc_en x else lc_wr a c L i) (L + a.length + 1)
  rw [lc_wr_lo _ _ _ _ _ (by omega)]
  funext i
  by_cases h : i = L + a.length
  · rw [if_pos h, if_pos h]
  · rw [if_neg h, if_neg h]
    show lc_wr v (fun i => if i = L + a.length then lc_en y else lc_wr a c L i) (L + a.length + 1) i = _
    rw [lc_wr_lo _ _ _ _ _ (by omega)]
    exact if_neg h
/-- behind the condition -/
def lc_tail (y : Nat) (S15 : AS) : Option AS := (f_X10_demand (63 : Int32) S15).bind (fun (S18 : AS) => ax_let (ax_fi S18 5 y 2) (fun (v21 : Int32) => (f_X5_emit y (12 : Int32) (0 : Int32) S18).bind (fun (S22 : AS) => (g_Law ax_D 3 y (0 : Int32) (0 : Int32) S22).bind (fun (S25 : AS) => (f_X5_emit y (13 : Int32) (0 : Int32) S25).bind (fun (S28 : AS) => (if (Int32.ofNat 241) ≤ v21 then some S28 else ax_gd (ax_in v21 241) (ax_let (ax_sai S28 30 y v21.toNatClampNeg ((12 : Int32) ||| ((ax_fi S28 5 y 2) <<< ((8 : Int32) &&& 31)))) (fun (S33 : AS) => some S33))))))))
theorem lc_clause1 {y : Nat} {S S1 : AS} {r : Int32} (h : f_X10_peek S = some (r, S1)) (hr : r = 33 ∨ r = 40) : (ax_bu (f_X10_peek S) (fun (r10 : Int32) (S7 : AS) => ax_let (fun (x11 : Int32) (S12 : AS) => (if x11 = (0 : Int32) then (g_Law ax_D 0 y (0 : Int32) x11 S12).bind (lc_tail y) else (g_Law ax_D 3 y (0 : Int32) (0 : Int32) S12).bind (fun (S34 : AS) => ax_bu (f_X10_peek S34) (fun (r40 : Int32) (S37 : AS) => (f_X5_relationOf r40 S37).bind (fun (r44 : Int32) => (if r44 = (Int32.ofInt (-1)) then (f_X5_emit y (13 : Int32) (0 : Int32) S37).bind (fun (S65 : AS) => some S65) else (g_Law ax_D 0 y (0 : Int32) x11 S37).bind (lc_tail y))))))) (fun J13 => (if r10 = (33 : Int32) then J13 (0 : Int32) S7 else (if r10 = (40 : Int32) then J13 (0 : Int32) S7 else J13 (1 : Int32) S7))))) = (g_Law ax_D 0 y 0 0 S1).bind (lc_tail y) := by
  rw [h, ax_bu_s]
  rcases hr with hr | hr <;> subst hr <;> simp only [ax_let, if_true, if_false, lc_n43]
theorem lc_clause2 {y : Nat} {S S1 : AS} {r : Int32} (h : f_X10_peek S = some (r, S1)) (h1 : r ≠ 33) (h2 : r ≠ 40) : (ax_bu (f_X10_peek S) (fun (r10 : Int32) (S7 : AS) => ax_let (fun (x11 : Int32) (S12 : AS) => (if x11 = (0 : Int32) then (g_Law ax_D 0 y (0 : Int32) x11 S12).bind (lc_tail y) else (g_Law ax_D 3 y (0 : Int32) (0 : Int32) S12).bind (fun (S34 : AS) => ax_bu (f_X10_peek S34) (fun (r40 : Int32) (S37 : AS) => (f_X5_relationOf r40 S37).bind (fun (r44 : Int32) => (if r44 = (Int32.ofInt (-1)) then (f_X5_emit y (13 : Int32) (0 : Int32) S37).bind (fun (S65 : AS) => some S65) else (g_Law ax_D 0 y (0 : Int32) x11 S37).bind (lc_tail y))))))) (fun J13 => (if r10 = (33 : Int32) then J13 (0 : Int32) S7 else (if r10 = (40 : Int32) then J13 (0 : Int32) S7 else J13 (1 : Int32) S7))))) = (g_Law ax_D 3 y (0 : Int32) (0 : Int32) S1).bind (fun (S34 : AS) => ax_bu (f_X10_peek S34) (fun (r40 : Int32) (S37 : AS) => (f_X5_relationOf r40 S37).bind (fun (r44 : Int32) => (if r44 = (Int32.ofInt (-1)) then (f_X5_emit y (13 : Int32) (0 : Int32) S37).bind (fun (S65 : AS) => some S65) else (g_Law ax_D 0 y (0 : Int32) 1 S37).bind (lc_tail y))))) := by
  rw [h, ax_bu_s]
  simp only [ax_let, if_true, if_false, lc_n10, h1, h2]
theorem lc_DD : ax_D = 63 + 1 := rfl
section
variable {b : Nat → Nat} {n : Nat} {S : AS} {y : Nat} {c : Nat → Int32}
theorem lc_tailD {p φ : Int32} {l : Nat} (hφ : φ ≠ Int32.ofInt (-1)) (hl : l ≤ 241) : ∃ p' l' c', l' ≤ 241 ∧ lc_tail y (lc_st S y p φ (Int32.ofNat l) c) = some (lc_st S y p' φ (Int32.ofNat l') c') := by
  obtain ⟨l1, c1, h1, e1⟩ := lc_emitE (S := S) (y := y) (p := p) (φ := φ) (c := c) (o := 12) (v := 0) hl
  obtain ⟨l2, c2, h2, e2⟩ := lc_emitE (S := S) (y := y) (p := p) (φ := φ) (c := c1) (o := 13) (v := 0) h1
  have ed : g_Law ax_D 3 y 0 0 (lc_st S y p φ (Int32.ofNat l1) c1) = some (lc_st S y p φ (Int32.ofNat l1) c1) := lc_dead3 (m := 61) hφ
  unfold lc_tail
  rw [lc_demD hφ (by decide)]
  simp only [Option.bind_some, ax_let, lc_gl]
  rw [e1]
  simp only [Option.bind_some]
  rw [ed]
  simp only [Option.bind_some]
  rw [e2]
  simp only [Option.bind_some]
  by_cases g : l < 241
  · have h3 : ¬ (Int32.ofNat 241 ≤ Int32.ofNat l) := by rw [la_le (by omega) (by omega)]; omega
    rw [if_neg h3]
    simp only [ax_gd, la_in g (by omega : l < 1000000), la_nc (by omega : l < 1000000), if_true, lc_sc]
    exact ⟨_, l2, _, h2, rfl⟩
  · have h3 : Int32.ofNat 241 ≤ Int32.ofNat l := by rw [la_le (by omega) (by omega)]; omega
    rw [if_pos h3]
    exact ⟨_, l2, _, h2, rfl⟩
/-- begun: the first sum has been read -/
theorem lc_begun (hT : lc_Tp b n S) {e : la_T} {p L : Nat} {o : la_O} (h : la_B b n e p o) (hs : la_sk b n p = p) (hp : p ≤ n) (hL : L + (la_cd e).length ≤ p) : lc_Ok S n y (g_Law ax_D 0 y 0 1 (lc_st S y (Int32.ofNat p) (Int32.ofInt (-1)) (Int32.ofNat (L + (la_cd e).length)) (lc_wr (la_cd e) c L))) L c o := by
  have h240 := hT.1
  have e0 : g_Law 62 2 y 0 1 (lc_st S y (Int32.ofNat p) (Int32.ofInt (-1)) (Int32.ofNat (L + (la_cd e).length)) (lc_wr (la_cd e) c L)) = lc_cmp (g_Law 61) y 0 (lc_st S y (Int32.ofNat p) (Int32.ofInt (-1)) (Int32.ofNat (L + (la_cd e).length)) (lc_wr (la_cd e) c L)) := by
    show b_X5_readUnit (g_Law 61) y 0 1 _ = _
    rw [lc_u5 (lc_peek hT hp), hs]
  have eT : g_Law ax_D 0 y 0 1 (lc_st S y (Int32.ofNat p) (Int32.ofInt (-1)) (Int32.ofNat (L + (la_cd e).length)) (lc_wr (la_cd e) c L)) = ((lc_cmp (g_Law 61) y 0 (lc_st S y (Int32.ofNat p) (Int32.ofInt (-1)) (Int32.ofNat (L + (la_cd e).length)) (lc_wr (la_cd e) c L))).bind (fun S1 => f_X5_readTruth_L10 (g_Law 62) (fun Z => some Z) ax_F y 0 0 S1)).bind (fun S1 => f_X5_readCondition_L10 (g_Law 63) (fun Z => some Z) ax_F y 0 0 S1) := by
    have f1 : ∀ Z, g_Law ax_D 0 y 0 1 Z = b_X5_readCondition (g_Law 63) y 0 1 Z := fun Z => rfl
    have f2 : ∀ Z, g_Law 63 1 y 0 1 Z = b_X5_readTruth (g_Law 62) y 0 1 Z := fun Z => rfl
    rw [f1]
    unfold b_X5_readCondition
    rw [f2]
    unfold b_X5_readTruth
    rw [e0]
  rw [eT]
  have z0 : Int32.ofNat 0 = (0 : Int32) := rfl
  rcases h with ⟨f, rfl, h1⟩ | ⟨e1, s1, f, rfl, h1, h2⟩ | ⟨e1, s1, e2, s2, h1, h2, h3⟩
  · obtain ⟨hf, p', l', c', hl', q⟩ := lc_main hT h1 61 L c (by omega) hp (by omega) hL
    have ndf := lc_nd (by omega : f ≤ 240)
    refine ⟨hf, p', l', c', hl', ?_⟩
    rw [z0] at q
    rw [q]
    simp only [Option.bind_some]
    rw [lc_FF, lc_p0 (by decide) (lc_peekD ndf) (by decide)]
    simp only [Option.bind_some]
    rw [lc_c0 (by decide) (lc_peekD ndf) (by decide)]
  · obtain ⟨q, l1, n1⟩ := lc_main hT h1 61 L c (by omega) hp (by omega) hL
    obtain ⟨hf, p', l', c', hl', r⟩ := lc_main (S := S) (y := y) hT h2 62 ax_F L c 0 (by omega) n1 (by omega) l1 (by omega) (by show _ < 1000000; omega)
    have ndf := lc_nd (by omega : f ≤ 240)
    refine ⟨hf, p', l', c', hl', ?_⟩
    rw [z0] at q
    rw [z0] at r
    rw [q]
    simp only [Option.bind_some]
    rw [r]
    simp only [Option.bind_some]
    rw [lc_FF, lc_c0 (by decide) (lc_peekD ndf) (by decide)]
  · obtain ⟨q, l1, n1⟩ := lc_main hT h1 61 L c (by omega) hp (by omega) hL
    obtain ⟨r, l2, n2⟩ := lc_main (S := S) (y := y) hT h2 62 ax_F L c 0 (by omega) n1 (by omega) l1 (by omega) (by show _ < 1000000; omega)
    have w := lc_main (S := S) (y := y) hT h3 63 ax_F L c 0 (by omega) n2 (by omega) l2 (by omega) (by show _ < 1000000; omega)
    rw [z0] at q
    rw [z0] at r
    rw [q]
    simp only [Option.bind_some]
    rw [r]
    simp only [Option.bind_some]
    rw [z0] at w
    exact w
theorem lc_c1_l {L : Nat} {a v : la_T} : (la_c1 L (some a, v)).length = (la_cd a).length + 1 + (la_cd v).length + 1 := by
  simp only [la_c1, List.length_append, List.length_cons, List.length_nil]; omega
/-- behind the condition, as the relation says -/
theorem lc_V (hT : lc_Tp b n S) {r : Option AS} {L : Nat} {oc : la_O} {o : la_OC} (hr : lc_Ok S n y r L c oc) (h : la_V b n oc o) (hX : ∀ a s, oc = .inr (a, s) → L + (la_cd a).length + 1 ≤ s) : lc_OkC S n y (r.bind (lc_tail y)) L c o := by
  have h240 := hT.1
  rcases h with ⟨f, rfl, rfl⟩ | ⟨a, s, rfl, h1, rfl⟩ | ⟨a, s, f, rfl, h1, h2, rfl⟩ | ⟨a, s, v, t, rfl, h1, h2, rfl⟩
  · obtain ⟨hf, p', l', c', hl', q⟩ := hr
    obtain ⟨p2, l2, c2, hl2, q2⟩ := lc_tailD (S := S) (y := y) (c := c') (p := p') (lc_nd (by omega : f ≤ 240)) hl'
    refine ⟨hf, p2, l2, c2, hl2, ?_⟩
    rw [q]; exact q2
  · obtain ⟨q, l1, n1⟩ := hr
    have s1 := la_sk_n (b := b) n1
    have n63 : lc_sg (la_by b n s) ≠ 63 := lc_ne 63 (lc_by_le hT) h1 (by omega) (by omega)
    have ndf := lc_nd (by omega : la_sk b n s ≤ 240)
    obtain ⟨l2, c2, hl2, e2⟩ := lc_emitE (S := S) (y := y) (p := Int32.ofNat (la_sk b n s)) (φ := Int32.ofNat (la_sk b n s)) (c := lc_wr (la_cd a) c L) (o := 12) (v := 0) (by omega : L + (la_cd a).length ≤ 241)
    obtain ⟨l3, c3, hl3, e3⟩ := lc_emitE (S := S) (y := y) (p := Int32.ofNat (la_sk b n s)) (φ := Int32.ofNat (la_sk b n s)) (c := c2) (o := 13) (v := 0) hl2
    have ed : g_Law ax_D 3 y 0 0 (lc_st S y (Int32.ofNat (la_sk b n s)) (Int32.ofNat (la_sk b n s)) (Int32.ofNat l2) c2) = some (lc_st S y (Int32.ofNat (la_sk b n s)) (Int32.ofNat (la_sk b n s)) (Int32.ofNat l2) c2) := lc_dead3 (m := 61) ndf
    have h3 : ¬ (Int32.ofNat 241 ≤ Int32.ofNat (L + (la_cd a).length)) := by rw [la_le (by omega) (by omega)]; omega
    refine ⟨s1.2, Int32.ofNat (la_sk b n s), l3, (fun i => if i = L + (la_cd a).length then ((12 : Int32) ||| ((Int32.ofNat l3) <<< ((8 : Int32) &&& 31))) else c3 i), hl3, ?_⟩
    rw [q]
    simp only [Option.bind_some]
    unfold lc_tail
    rw [lc_demF (C := 63) hT n1 n63]
    simp only [Option.bind_some, ax_let, lc_gl]
    rw [e2]
    simp only [Option.bind_some]
    rw [ed]
    simp only [Option.bind_some]
    rw [e3]
    simp only [Option.bind_some]
    rw [if_neg h3]
    simp only [ax_gd, la_in (by omega : L + (la_cd a).length < 241) (by omega : L + (la_cd a).length < 1000000), la_nc (by omega : L + (la_cd a).length < 1000000), if_true, lc_sc, lc_gl]
  · obtain ⟨q, l1, n1⟩ := hr
    have s1 := la_sk_n (b := b) n1
    have q1 := la_by_n h1 (by omega)
    obtain ⟨hf, p', l', c', hl', q2⟩ := lc_main (S := S) (y := y) hT h2 ax_D (L + (la_cd a).length + 1) (lc_wr [(12, 0)] (lc_wr (la_cd a) c L) (L + (la_cd a).length)) (by decide) (by omega) (by omega) (by omega)
    have q2' : g_Law ax_D 3 y 0 0 (lc_st S y (Int32.ofNat (la_sk b n s + 1)) (Int32.ofInt (-1)) (Int32.ofNat (L + (la_cd a).length + 1)) (lc_wr [(12, 0)] (lc_wr (la_cd a) c L) (L + (la_cd a).length))) = some (lc_st S y p' (Int32.ofNat f) (Int32.ofNat l') c') := q2
    obtain ⟨l3, c3, hl3, e3⟩ := lc_emitE (S := S) (y := y) (p := p') (φ := Int32.ofNat f) (c := c') (o := 13) (v := 0) hl'
    have h3 : ¬ (Int32.ofNat 241 ≤ Int32.ofNat (L + (la_cd a).length)) := by rw [la_le (by omega) (by omega)]; omega
    refine ⟨hf, p', l3, (fun i => if i = L + (la_cd a).length then ((12 : Int32) ||| ((Int32.ofNat l3) <<< ((8 : Int32) &&& 31))) else c3 i), hl3, ?_⟩
    rw [q]
    simp only [Option.bind_some]
    unfold lc_tail
    rw [lc_dem (C := 63) hT n1 h1 (by omega) rfl]
    simp only [Option.bind_some, ax_let, lc_gl]
    rw [lc_emit (by omega)]
    simp only [Option.bind_some]
    rw [q2']
    simp only [Option.bind_some]
    rw [e3]
    simp only [Option.bind_some]
    rw [if_neg h3]
    simp only [ax_gd, la_in (by omega : L + (la_cd a).length < 241) (by omega : L + (la_cd a).length < 1000000), la_nc (by omega : L + (la_cd a).length < 1000000), if_true, lc_sc, lc_gl]
  · obtain ⟨q, l1, n1⟩ := hr
    have s1 := la_sk_n (b := b) n1
    have q1 := la_by_n h1 (by omega)
    have hXa := hX a s rfl
    obtain ⟨q2, l2, n2⟩ := lc_main (S := S) (y := y) hT h2 ax_D (L + (la_cd a).length + 1) (lc_wr [(12, 0)] (lc_wr (la_cd a) c L) (L + (la_cd a).length)) (by decide) (by omega) (by omega) (by omega)
    obtain ⟨_, lX, _⟩ := lc_main (S := S) (y := y) hT h2 ax_D (la_sk b n s + 1) c (by decide) (by omega) (by omega) (by omega)
    have q2' : g_Law ax_D 3 y 0 0 (lc_st S y (Int32.ofNat (la_sk b n s + 1)) (Int32.ofInt (-1)) (Int32.ofNat (L + (la_cd a).length + 1)) (lc_wr [(12, 0)] (lc_wr (la_cd a) c L) (L + (la_cd a).length))) = some _ := q2
    have h3 : ¬ (Int32.ofNat 241 ≤ Int32.ofNat (L + (la_cd a).length)) := by rw [la_le (by omega) (by omega)]; omega
    refine ⟨?_, by rw [lc_c1_l]; omega, n2⟩
    rw [q]
    simp only [Option.bind_some]
    unfold lc_tail
    rw [lc_dem (C := 63) hT n1 h1 (by omega) rfl]
    simp only [Option.bind_some, ax_let, lc_gl]
    rw [lc_emit (by omega)]
    simp only [Option.bind_some]
    rw [q2']
    simp only [Option.bind_some]
    rw [lc_emit (by omega)]
    simp only [Option.bind_some]
    rw [if_neg h3]
    simp only [ax_gd, la_in (by omega : L + (la_cd a).length < 241) (by omega : L + (la_cd a).length < 1000000), la_nc (by omega : L + (la_cd a).length < 1000000), if_true, lc_sc, lc_gl]
    rw [lc_c1_l, (by omega : L + ((la_cd a).length + 1 + (la_cd v).length + 1) = L + (la_cd a).length + 1 + (la_cd v).length + 1)]
    have e4 := lc_wr_j (a := la_cd a) (v := la_cd v ++ [(13, 0)]) (c := c) (L := L) (x := (12, Int32.ofNat (L + (la_cd a).length + 1 + (la_cd v).length + 1))) (y := (12, 0))
    have e5 : lc_wr (la_cd v ++ [(13, 0)]) (lc_wr [(12, 0)] (lc_wr (la_cd a) c L) (L + (la_cd a).length)) (L + (la_cd a).length + 1) = lc_wr [(13, 0)] (lc_wr (la_cd v) (lc_wr [(12, 0)] (lc_wr (la_cd a) c L) (L + (la_cd a).length)) (L + (la_cd a).length + 1)) (L + (la_cd a).length + 1 + (la_cd v).length) := lc_wr_ap _ _ _ _
    rw [e5] at e4
    show some (lc_st S y _ _ _ (fun i => if i = L + (la_cd a).length then lc_en (12, Int32.ofNat (L + (la_cd a).length + 1 + (la_cd v).length + 1)) else _)) = _
    rw [e4]; rfl
theorem lc_K2 (hT : lc_Tp b n S) {p L : Nat} {o : la_OC} (h : la_K2 b n p o) (hp : p ≤ n) (hL : L + 2 ≤ p) : lc_OkC S n y (ax_bu (f_X10_peek (lc_st S y (Int32.ofNat p) (Int32.ofInt (-1)) (Int32.ofNat L) c)) (fun (r10 : Int32) (S7 : AS) => ax_let (fun (x11 : Int32) (S12 : AS) => (if x11 = (0 : Int32) then (g_Law ax_D 0 y (0 : Int32) x11 S12).bind (lc_tail y) else (g_Law ax_D 3 y (0 : Int32) (0 : Int32) S12).bind (fun (S34 : AS) => ax_bu (f_X10_peek S34) (fun (r40 : Int32) (S37 : AS) => (f_X5_relationOf r40 S37).bind (fun (r44 : Int32) => (if r44 = (Int32.ofInt (-1)) then (f_X5_emit y (13 : Int32) (0 : Int32) S37).bind (fun (S65 : AS) => some S65) else (g_Law ax_D 0 y (0 : Int32) x11 S37).bind (lc_tail y))))))) (fun J13 => (if r10 = (33 : Int32) then J13 (0 : Int32) S7 else (if r10 = (40 : Int32) then J13 (0 : Int32) S7 else J13 (1 : Int32) S7))))) L c o := by
  have h240 := hT.1
  have s1 := la_sk_n (b := b) hp
  have hx := lc_by_le hT (p := p)
  rcases h with ⟨h1, oc, h2, h3⟩ | ⟨h1, h2, f, h3, rfl⟩ | ⟨h1, h2, e, s, h3, h4, rfl⟩ | ⟨h1, h2, e, s, h3, ⟨k, h4⟩, oc, h5, h6⟩
  · have hr : lc_sg (la_by b n p) = 33 ∨ lc_sg (la_by b n p) = 40 := by
      rcases h1 with h1 | h1 <;> rw [h1]
      · exact .inl rfl
      · exact .inr rfl
    rw [lc_clause1 (lc_peek hT hp) hr]
    have q := lc_main (S := S) (y := y) hT h2 ax_D L c (by decide) s1.2 (by omega) (by omega)
    refine lc_V hT q h3 (fun a s e => ?_)
    subst e
    obtain ⟨_, lX, _⟩ := lc_main (S := S) (y := y) hT h2 ax_D (la_sk b n p) c (by decide) s1.2 (by omega) (by omega)
    omega
  · have n33 : lc_sg (la_by b n p) ≠ 33 := lc_ne 33 hx h1 (by omega) (by omega)
    have n40 : lc_sg (la_by b n p) ≠ 40 := lc_ne 40 hx h2 (by omega) (by omega)
    rw [lc_clause2 (lc_peek hT hp) n33 n40]
    obtain ⟨hf, p', l', c', hl', q⟩ := lc_main (S := S) (y := y) hT h3 ax_D L c (by decide) s1.2 (by omega) (by omega)
    have q' : g_Law ax_D 3 y 0 0 (lc_st S y (Int32.ofNat (la_sk b n p)) (Int32.ofInt (-1)) (Int32.ofNat L) c) = some _ := q
    obtain ⟨l3, c3, hl3, e3⟩ := lc_emitE (S := S) (y := y) (p := p') (φ := Int32.ofNat f) (c := c') (o := 13) (v := 0) hl'
    have e4 : f_X5_relationOf 0 (lc_st S y p' (Int32.ofNat f) (Int32.ofNat l') c') = some (Int32.ofInt (-1)) := rfl
    refine ⟨hf, p', l3, c3, hl3, ?_⟩
    rw [q']
    simp only [Option.bind_some]
    rw [lc_peekD (lc_nd (by omega : f ≤ 240)), ax_bu_s, e4]
    simp only [Option.bind_some, if_true]
    rw [e3]; rfl
  · have n33 : lc_sg (la_by b n p) ≠ 33 := lc_ne 33 hx h1 (by omega) (by omega)
    have n40 : lc_sg (la_by b n p) ≠ 40 := lc_ne 40 hx h2 (by omega) (by omega)
    rw [lc_clause2 (lc_peek hT hp) n33 n40]
    obtain ⟨q, l1, n1⟩ := lc_main (S := S) (y := y) hT h3 ax_D L c (by decide) s1.2 (by omega) (by omega)
    obtain ⟨_, lX, _⟩ := lc_main (S := S) (y := y) hT h3 ax_D (la_sk b n p) c (by decide) s1.2 (by omega) (by omega)
    have s2 := la_sk_n (b := b) n1
    have q' : g_Law ax_D 3 y 0 0 (lc_st S y (Int32.ofNat (la_sk b n p)) (Int32.ofInt (-1)) (Int32.ofNat L) c) = some _ := q
    rw [q']
    simp only [Option.bind_some]
    rw [lc_peek hT n1, ax_bu_s, lc_rl_n (lc_by_le hT) h4]
    simp only [Option.bind_some, if_true]
    rw [lc_emit (by omega)]
    have el : (la_c1 L (none, e)).length = (la_cd e).length + 1 := by simp only [la_c1, List.length_append, List.length_cons, List.length_nil]
    refine ⟨?_, by rw [el]; omega, s2.2⟩
    rw [el]
    show _ = some (lc_st S y _ _ _ (lc_wr (la_cd e ++ [(13, 0)]) c L))
    rw [lc_wr_ap]; rfl
  · have n33 : lc_sg (la_by b n p) ≠ 33 := lc_ne 33 hx h1 (by omega) (by omega)
    have n40 : lc_sg (la_by b n p) ≠ 40 := lc_ne 40 hx h2 (by omega) (by omega)
    rw [lc_clause2 (lc_peek hT hp) n33 n40]
    obtain ⟨q, l1, n1⟩ := lc_main (S := S) (y := y) hT h3 ax_D L c (by decide) s1.2 (by omega) (by omega)
    obtain ⟨_, lX, _⟩ := lc_main (S := S) (y := y) hT h3 ax_D (la_sk b n p) c (by decide) s1.2 (by omega) (by omega)
    have s2 := la_sk_n (b := b) n1
    have k1 : k ≠ Int32.ofInt (-1) := by rcases la_rl_k h4 with q | q | q <;> subst q <;> decide
    have q' : g_Law ax_D 3 y 0 0 (lc_st S y (Int32.ofNat (la_sk b n p)) (Int32.ofInt (-1)) (Int32.ofNat L) c) = some _ := q
    rw [q']
    simp only [Option.bind_some]
    rw [lc_peek hT n1, ax_bu_s, lc_rl_s (lc_by_le hT) h4]
    simp only [Option.bind_some]
    rw [if_neg k1]
    have w := lc_begun (y := y) (c := c) (L := L) hT h5 la_sk_s s2.2 (by omega)
    refine lc_V hT w h6 (fun a t e4 => ?_)
    subst e4
    obtain ⟨_, lY, _⟩ := lc_begun (y := y) (c := c) (L := la_sk b n s - (la_cd e).length) hT h5 la_sk_s s2.2 (by omega)
    omega
theorem lc_K (hT : lc_Tp b n S) {p L : Nat} {o : la_OC} (h : la_K b n p o) (hp : p ≤ n) (hL : L ≤ p) : lc_OkC S n y (f_X5_readClause y (lc_st S y (Int32.ofNat p) (Int32.ofInt (-1)) (Int32.ofNat L) c)) L c o := by
  have h240 := hT.1
  have s1 := la_sk_n (b := b) hp
  have hx := lc_by_le hT (p := p)
  have e0 : f_X5_readClause y (lc_st S y (Int32.ofNat p) (Int32.ofInt (-1)) (Int32.ofNat L) c) = (f_X10_demand (121 : Int32) (lc_st S y (Int32.ofNat p) (Int32.ofInt (-1)) (Int32.ofNat L) c)).bind (fun (S1 : AS) => (f_X10_demand (58 : Int32) S1).bind (fun (S4 : AS) => ax_bu (f_X10_peek S4) (fun (r10 : Int32) (S7 : AS) => ax_let (fun (x11 : Int32) (S12 : AS) => (if x11 = (0 : Int32) then (g_Law ax_D 0 y (0 : Int32) x11 S12).bind (lc_tail y) else (g_Law ax_D 3 y (0 : Int32) (0 : Int32) S12).bind (fun (S34 : AS) => ax_bu (f_X10_peek S34) (fun (r40 : Int32) (S37 : AS) => (f_X5_relationOf r40 S37).bind (fun (r44 : Int32) => (if r44 = (Int32.ofInt (-1)) then (f_X5_emit y (13 : Int32) (0 : Int32) S37).bind (fun (S65 : AS) => some S65) else (g_Law ax_D 0 y (0 : Int32) x11 S37).bind (lc_tail y))))))) (fun J13 => (if r10 = (33 : Int32) then J13 (0 : Int32) S7 else (if r10 = (40 : Int32) then J13 (0 : Int32) S7 else J13 (1 : Int32) S7)))))) := rfl
  rw [e0]
  have dead : ∀ (f : Nat), f ≤ n → ∃ p' l' c', l' ≤ 241 ∧ (ax_bu (f_X10_peek (lc_st S y (Int32.ofNat f) (Int32.ofNat f) (Int32.ofNat L) c)) (fun (r10 : Int32) (S7 : AS) => ax_let (fun (x11 : Int32) (S12 : AS) => (if x11 = (0 : Int32) then (g_Law ax_D 0 y (0 : Int32) x11 S12).bind (lc_tail y) else (g_Law ax_D 3 y (0 : Int32) (0 : Int32) S12).bind (fun (S34 : AS) => ax_bu (f_X10_peek S34) (fun (r40 : Int32) (S37 : AS) => (f_X5_relationOf r40 S37).bind (fun (r44 : Int32) => (if r44 = (Int32.ofInt (-1)) then (f_X5_emit y (13 : Int32) (0 : Int32) S37).bind (fun (S65 : AS) => some S65) else (g_Law ax_D 0 y (0 : Int32) x11 S37).bind (lc_tail y))))))) (fun J13 => (if r10 = (33 : Int32) then J13 (0 : Int32) S7 else (if r10 = (40 : Int32) then J13 (0 : Int32) S7 else J13 (1 : Int32) S7))))) = some (lc_st S y p' (Int32.ofNat f) (Int32.ofNat l') c') := by
    intro f hf
    have ndf := lc_nd (by omega : f ≤ 240)
    obtain ⟨l3, c3, hl3, e3⟩ := lc_emitE (S := S) (y := y) (p := Int32.ofNat f) (φ := Int32.ofNat f) (c := c) (o := 13) (v := 0) (by omega : L ≤ 241)
    have e4 : f_X5_relationOf 0 (lc_st S y (Int32.ofNat f) (Int32.ofNat f) (Int32.ofNat L) c) = some (Int32.ofInt (-1)) := rfl
    have ed : g_Law ax_D 3 y 0 0 (lc_st S y (Int32.ofNat f) (Int32.ofNat f) (Int32.ofNat L) c) = some (lc_st S y (Int32.ofNat f) (Int32.ofNat f) (Int32.ofNat L) c) := lc_dead3 (m := 61) ndf
    refine ⟨Int32.ofNat f, l3, c3, hl3, ?_⟩
    rw [lc_clause2 (lc_peekD ndf) (by decide) (by decide), ed]
    simp only [Option.bind_some]
    rw [lc_peekD ndf, ax_bu_s, e4]
    simp only [Option.bind_some, if_true]
    rw [e3]; rfl
  rcases h with ⟨h1, rfl⟩ | ⟨h1, h2, rfl⟩ | ⟨h1, h2, h3⟩
  · have n1 : lc_sg (la_by b n p) ≠ 121 := lc_ne 121 hx h1 (by omega) (by omega)
    have ndf := lc_nd (by omega : la_sk b n p ≤ 240)
    obtain ⟨p', l', c', hl', q⟩ := dead (la_sk b n p) s1.2
    refine ⟨s1.2, p', l', c', hl', ?_⟩
    rw [lc_demF (C := 121) hT hp n1]
    simp only [Option.bind_some]
    rw [lc_demD ndf (by decide)]
    simp only [Option.bind_some]
    exact q
  · have q1 := la_by_n h1 (by omega)
    have s2 := la_sk_n (b := b) (by omega : la_sk b n p + 1 ≤ n)
    have n1 : lc_sg (la_by b n (la_sk b n p + 1)) ≠ 58 := lc_ne 58 (lc_by_le hT) h2 (by omega) (by omega)
    obtain ⟨p', l', c', hl', q⟩ := dead _ s2.2
    refine ⟨s2.2, p', l', c', hl', ?_⟩
    rw [lc_dem (C := 121) hT hp h1 (by omega) rfl]
    simp only [Option.bind_some]
    rw [lc_demF (C := 58) hT (by omega) n1]
    simp only [Option.bind_some]
    exact q
  · have q1 := la_by_n h1 (by omega)
    have q2 := la_by_n h2 (by omega)
    have s2 := la_sk_n (b := b) (by omega : la_sk b n p + 1 ≤ n)
    rw [lc_dem (C := 121) hT hp h1 (by omega) rfl]
    simp only [Option.bind_some]
    rw [lc_dem (C := 58) hT (by omega) h2 (by omega) rfl]
    simp only [Option.bind_some]
    exact lc_K2 hT h3 (by omega) (by omega)
theorem lc_K_pr (hT : lc_Tp b n S) {p s : Nat} {C : la_C} (h : la_K b n p (.inr (C, s))) (hp : p ≤ n) : p + 1 ≤ s ∧ s ≤ n := by
  obtain ⟨_, l1, n1⟩ := lc_K (y := 0) (c := fun _ => 0) (L := p) hT h hp (Nat.le_refl _)
  have : 1 ≤ (la_c1 p C).length := by
    match C with
    | (none, v) => simp only [la_c1, List.length_append, List.length_cons, List.length_nil]; omega
    | (some a, v) => rw [lc_c1_l]; omega
  exact ⟨by omega, n1⟩
theorem lc_L (hT : lc_Tp b n S) : ∀ (m p L N i : Nat) (c : Nat → Int32) (o : Nat ⊕ List la_C), la_L b n m p o → p ≤ n → L ≤ p → i ≤ p → n - p < N →
    (∀ f, o = .inl f → f ≤ n ∧ ∃ p' l' c', l' ≤ 241 ∧ f_X5_readFrom_L13 (fun Z => some ((ax_fi Z 10 0 3), Z)) (N + 1) y 1 (Int32.ofNat i) (lc_st S y (Int32.ofNat p) (Int32.ofInt (-1)) (Int32.ofNat L) c) = some (Int32.ofNat f, lc_st S y p' (Int32.ofNat f) (Int32.ofNat l') c')) ∧
    (∀ cs, o = .inr cs → L + (la_cc L cs).length ≤ n ∧ ∃ p', f_X5_readFrom_L13 (fun Z => some ((ax_fi Z 10 0 3), Z)) (N + 1) y 1 (Int32.ofNat i) (lc_st S y (Int32.ofNat p) (Int32.ofInt (-1)) (Int32.ofNat L) c) = some (Int32.ofInt (-1), lc_st S y p' (Int32.ofInt (-1)) (Int32.ofNat (L + (la_cc L cs).length)) (lc_wr (la_cc L cs) c L)))
  | 0, _, _, _, _, _, _, h, _, _, _, _ => h.elim
  | m + 1, p, L, N, i, c, o, h, hp, hL, hi, hN => by
    have h240 := hT.1
    have i4 : ¬ ((240 : Int32) < Int32.ofNat i) := by
      show ¬ (Int32.ofNat 240 < Int32.ofNat i)
      rw [la_lt (by omega) (by omega)]; omega
    have st : ∀ (Z : AS), f_X5_readFrom_L13 (fun Z => some ((ax_fi Z 10 0 3), Z)) (N + 1) y 1 (Int32.ofNat i) Z = (f_X5_readClause y Z).bind (fun S11 => ax_bu (f_X10_goesOn S11) (fun r17 S14 => f_X5_readFrom_L13 (fun Z => some ((ax_fi Z 10 0 3), Z)) N y r17 (Int32.ofNat (i + 1)) S14)) := fun Z => by
      rw [f_X5_readFrom_L13, if_neg (by decide), if_neg i4, ← la_a1]; rfl
    obtain ⟨N, rfl⟩ : ∃ q, N = q + 1 := ⟨N - 1, by omega⟩
    have fin : ∀ (Z : AS) (j : Int32), f_X5_readFrom_L13 (fun Z => some ((ax_fi Z 10 0 3), Z)) (N + 1) y 0 j Z = some ((ax_fi Z 10 0 3), Z) := fun Z j => by
      rw [f_X5_readFrom_L13, if_pos rfl]
    have goD : ∀ (p' : Int32) (f l' : Nat) (c' : Nat → Int32), f ≤ n → ax_bu (f_X10_goesOn (lc_st S y p' (Int32.ofNat f) (Int32.ofNat l') c')) (fun r17 S14 => f_X5_readFrom_L13 (fun Z => some ((ax_fi Z 10 0 3), Z)) (N + 1) y r17 (Int32.ofNat (i + 1)) S14) = some (Int32.ofNat f, lc_st S y p' (Int32.ofNat f) (Int32.ofNat l') c') := fun p' f l' c' hf => by
      unfold f_X10_goesOn
      rw [lc_peekD (lc_nd (by omega : f ≤ 240)), ax_bu_s, if_pos rfl, ax_bu_s, fin, lc_g3]
    rcases h with ⟨f, h1, rfl⟩ | ⟨C, s, h1, h2, rfl⟩ | ⟨C, s, h1, h2, h3, rfl⟩ | ⟨C, s, f, h1, h2, h3, rfl⟩ | ⟨C, s, cs, h1, h2, h3, rfl⟩
    · refine ⟨fun f' e => ?_, fun _ e => (by cases e)⟩
      cases e
      obtain ⟨hf, p', l', c', hl', q⟩ := lc_K (y := y) (c := c) (L := L) hT h1 hp hL
      refine ⟨hf, p', l', c', hl', ?_⟩
      rw [st, q]
      simp only [Option.bind_some]
      exact goD p' f l' c' hf
    · refine ⟨fun _ e => (by cases e), fun cs e => ?_⟩
      cases e
      obtain ⟨q, l1, n1⟩ := lc_K (y := y) (c := c) (L := L) hT h1 hp hL
      have ec : la_cc L [C] = la_c1 L C := by simp only [la_cc, List.append_nil]
      rw [ec]
      refine ⟨by omega, Int32.ofNat (la_sk b n s), ?_⟩
      rw [st, q]
      simp only [Option.bind_some]
      unfold f_X10_goesOn
      have z6 : lc_sg 256 = (0 : Int32) := rfl
      rw [lc_peek hT n1, ax_bu_s, h2, if_pos z6, ax_bu_s, fin, lc_g3]
    · refine ⟨fun f' e => ?_, fun _ e => (by cases e)⟩
      cases e
      obtain ⟨q, l1, n1⟩ := lc_K (y := y) (c := c) (L := L) hT h1 hp hL
      have s2 := la_sk_n (b := b) n1
      have hx := lc_by_le hT (p := s)
      have n0 : lc_sg (la_by b n s) ≠ 0 := fun e => by
        have : la_by b n s % 256 = 0 := la_inj (q := 0) (by omega) (by omega) e
        have h5 : 1 ≤ la_by b n s := by
          unfold la_by; split
          · rename_i g; exact (hT.2.2.2 _ g).1
          · omega
        omega
      have n59 : lc_sg (la_by b n (la_sk b n s)) ≠ 59 := by rw [lc_by_sk]; exact lc_ne 59 hx h3 (by omega) (by omega)
      refine ⟨s2.2, Int32.ofNat (la_sk b n s), L + (la_c1 L C).length, lc_wr (la_c1 L C) c L, by omega, ?_⟩
      rw [st, q]
      simp only [Option.bind_some]
      unfold f_X10_goesOn
      rw [lc_peek hT n1, ax_bu_s, if_neg n0, lc_demF (C := 59) hT s2.2 n59, la_sk_s]
      simp only [Option.bind_some]
      unfold f_X10_failed
      rw [lc_g3, if_neg (lc_nd (by omega : la_sk b n s ≤ 240))]
      simp only [Option.bind_some]
      rw [if_neg (by decide), ax_bu_s, fin, lc_g3]
    · refine ⟨fun f' e => ?_, fun _ e => (by cases e)⟩
      cases e
      obtain ⟨q, l1, n1⟩ := lc_K (y := y) (c := c) (L := L) hT h1 hp hL
      have pr := lc_K_pr hT h1 hp
      have s2 := la_sk_n (b := b) n1
      have q1 := la_by_n h2 (by omega)
      obtain ⟨w, _⟩ := lc_L hT m (la_sk b n s + 1) (L + (la_c1 L C).length) N (i + 1) (lc_wr (la_c1 L C) c L) _ h3 (by omega) (by omega) (by omega) (by omega)
      obtain ⟨hf, p', l', c', hl', e2⟩ := w f rfl
      refine ⟨hf, p', l', c', hl', ?_⟩
      rw [st, q]
      simp only [Option.bind_some]
      unfold f_X10_goesOn
      rw [lc_peek hT n1, ax_bu_s, h2, if_neg (by decide), lc_dem (C := 59) (q := 59) hT s2.2 (by rw [lc_by_sk]; exact h2) (by omega) rfl, la_sk_s]
      simp only [Option.bind_some]
      unfold f_X10_failed
      rw [lc_g3, if_pos rfl]
      simp only [Option.bind_some, if_true]
      rw [ax_bu_s]
      exact e2
    · refine ⟨fun _ e => (by cases e), fun cs' e => ?_⟩
      cases e
      obtain ⟨q, l1, n1⟩ := lc_K (y := y) (c := c) (L := L) hT h1 hp hL
      have pr := lc_K_pr hT h1 hp
      have s2 := la_sk_n (b := b) n1
      have q1 := la_by_n h2 (by omega)
      obtain ⟨_, w⟩ := lc_L hT m (la_sk b n s + 1) (L + (la_c1 L C).length) N (i + 1) (lc_wr (la_c1 L C) c L) _ h3 (by omega) (by omega) (by omega) (by omega)
      obtain ⟨hn, p', e2⟩ := w cs rfl
      have ec : la_cc L (C :: cs) = la_c1 L C ++ la_cc (L + (la_c1 L C).length) cs := rfl
      rw [ec, List.length_append, lc_wr_ap, (by omega : L + ((la_c1 L C).length + (la_cc (L + (la_c1 L C).length) cs).length) = L + (la_c1 L C).length + (la_cc (L + (la_c1 L C).length) cs).length)]
      refine ⟨hn, p', ?_⟩
      rw [st, q]
      simp only [Option.bind_some]
      unfold f_X10_goesOn
      rw [lc_peek hT n1, ax_bu_s, h2, if_neg (by decide), lc_dem (C := 59) (q := 59) hT s2.2 (by rw [lc_by_sk]; exact h2) (by omega) rfl, la_sk_s]
      simp only [Option.bind_some]
      unfold f_X10_failed
      rw [lc_g3, if_pos rfl]
      simp only [Option.bind_some, if_true]
      rw [ax_bu_s]
      exact e2
end

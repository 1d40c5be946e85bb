/-! THE TEXT OF A LAW, class and reference: the same fault, or the same worth -/
def lc_qb (q : Int32 × Int32) : Bool := decide (lc_en q &&& (255 : Int32) = q.1) && decide (((lc_en q).toUInt32 >>> ((8 : Int32).toUInt32 &&& Int32.toUInt32 31)).toInt32 = q.2)
theorem lc_qn : ∀ a, a < 100 → ∀ b, b < 100 → lc_qb (0, Int32.ofNat (100 * a + b)) = true := by decide +kernel
theorem lc_ql : ∀ a, a < 6 → lc_qb (1, Int32.ofNat a) = true := by decide +kernel
theorem lc_qu : ∀ a, a < 250 → lc_qb (12, Int32.ofNat a) = true := by decide +kernel
theorem lc_qz : ∀ a, a < 14 → lc_qb (Int32.ofNat a, 0) = true := by decide +kernel
def lc_ga (cs : List (Int32 × Int32)) : Prop := ∀ q, q ∈ cs → lc_qb q = true
theorem lc_ga_ap {a b : List (Int32 × Int32)} (ha : lc_ga a) (hb : lc_ga b) : lc_ga (a ++ b) := fun q hq => (List.mem_append.mp hq).elim (ha q) (hb q)
theorem lc_ga_1 {q : Int32 × Int32} (h : lc_qb q = true) : lc_ga [q] := fun x hx => by
  cases List.mem_singleton.mp hx; exact h
theorem lc_ga_c {q : Int32 × Int32} {r : List (Int32 × Int32)} (h : lc_qb q = true) (hr : lc_ga r) : lc_ga (q :: r) := lc_ga_ap (a := [q]) (lc_ga_1 h) hr
theorem lc_ga_n {v : Nat} (h : v < 10000) : lc_ga (la_cd (la_tn (Int32.ofNat v))) := by
  have e := lc_qn (v / 100) (by omega) (v % 100) (by omega)
  rw [(by omega : 100 * (v / 100) + v % 100 = v)] at e
  exact lc_ga_1 e
theorem lc_ga_l {k : Nat} (h : k < 6) : lc_ga (la_cd (la_tl k)) := lc_ga_1 (lc_ql k h)
theorem lc_ga_b {o : Int32} {a b : la_T} (ho : la_bo o) (ha : lc_ga (la_cd a)) (hb : lc_ga (la_cd b)) : lc_ga (la_cd (la_tb o a b)) := by
  refine lc_ga_ap ha (lc_ga_ap hb (lc_ga_1 ?_))
  rcases ho with h | h | h | h | h | h | h | h | h <;> subst h <;> decide +kernel
theorem lc_ga_g {a : la_T} (ha : lc_ga (la_cd a)) : lc_ga (la_cd (la_tg a)) := lc_ga_ap ha (lc_ga_1 (by decide +kernel))
def lc_gO (k : Nat) (a : la_T) : la_O → Prop
  | .inl _ => True
  | .inr (e, _) => (6 ≤ k → lc_ga (la_cd a)) → lc_ga (la_cd e)
theorem lc_gaR {b : Nat → Nat} {n : Nat} {k : Nat} {a : la_T} {d p : Nat} {o : la_O} (h : la_R b n k a d p o) : lc_gO k a o := by
  refine h (fun k a _ _ o => lc_gO k a o) ⟨?c_ltr, ?c_num, ?c_numF, ?c_boxD, ?c_boxF, ?c_boxE, ?c_box, ?c_noA, ?c_termF, ?c_term, ?c_terN, ?c_terF, ?c_ter, ?c_sumF, ?c_sum, ?c_suN, ?c_suF, ?c_su, ?c_cmN, ?c_cmF, ?c_cm, ?c_nestD, ?c_notF, ?c_not, ?c_parF, ?c_parE, ?c_par, ?c_cmpF, ?c_cmp, ?c_partF, ?c_part, ?c_paN, ?c_paF, ?c_pa, ?c_condF, ?c_cond, ?c_coN, ?c_coF, ?c_co⟩
  case c_ltr =>
    intro d p k h
    exact fun _ => lc_ga_l (la_li_k h)
  case c_num =>
    intro d p v r h g0 e
    have n3 := lr_nu_b (b := b) (n := n) 4 (la_sk b n p) 0 0 rfl (by decide)
    rw [g0] at n3
    exact fun _ => lc_ga_n n3
  case c_numF =>
    intro d p v r h g0 e
    trivial
  case c_boxD =>
    intro p h
    trivial
  case c_boxF =>
    intro d p f h hd ih
    trivial
  case c_boxE =>
    intro d p e s h hd ih g0
    trivial
  case c_box =>
    intro d p e s h hd ih g0
    exact fun _ => ih (fun z => absurd z (by omega))
  case c_noA =>
    intro d p h g0 k
    trivial
  case c_termF =>
    intro d p f ih
    trivial
  case c_term =>
    intro d p e s o ih iq
    match o, iq with
    | .inl _, _ => trivial
    | .inr (_, _), iq => exact fun _ => iq (fun _ => ih (fun z => absurd z (by omega)))
  case c_terN =>
    intro d p e h g0
    exact fun z => z (by omega)
  case c_terF =>
    intro d p e f h ih
    trivial
  case c_ter =>
    intro d p e e2 s o h ih iq
    match o, iq with
    | .inl _, _ => trivial
    | .inr (_, _), iq => exact fun z => iq (fun _ => lc_ga_b (by split <;> (unfold la_bo; decide)) (z (by omega)) (ih (fun z => absurd z (by omega))))
  case c_sumF =>
    intro d p f ih
    trivial
  case c_sum =>
    intro d p e s o ih iq
    match o, iq with
    | .inl _, _ => trivial
    | .inr (_, _), iq => exact fun _ => iq (fun _ => ih (fun z => absurd z (by omega)))
  case c_suN =>
    intro d p e h g0
    exact fun z => z (by omega)
  case c_suF =>
    intro d p e f h ih
    trivial
  case c_su =>
    intro d p e e2 s o h ih iq
    match o, iq with
    | .inl _, _ => trivial
    | .inr (_, _), iq => exact fun z => iq (fun _ => lc_ga_b (by split <;> (unfold la_bo; decide)) (z (by omega)) (ih (fun z => absurd z (by omega))))
  case c_cmN =>
    intro d p e h
    trivial
  case c_cmF =>
    intro d p e f k h ih
    trivial
  case c_cm =>
    intro d p e e2 s k h ih
    exact fun z => lc_ga_b (by rcases la_rl_k h with q | q | q <;> subst q <;> (unfold la_bo; decide)) (z (by omega)) (ih (fun z => absurd z (by omega)))
  case c_nestD =>
    intro p h
    trivial
  case c_notF =>
    intro d p f h hd ih
    trivial
  case c_not =>
    intro d p e s h hd ih
    exact fun _ => lc_ga_g (ih (fun z => absurd z (by omega)))
  case c_parF =>
    intro d p f h hd ih
    trivial
  case c_parE =>
    intro d p e s h hd ih g0
    trivial
  case c_par =>
    intro d p e s h hd ih g0
    exact fun _ => ih (fun z => absurd z (by omega))
  case c_cmpF =>
    intro d p f h g0 ih
    trivial
  case c_cmp =>
    intro d p e s o h g0 ih iq
    match o, iq with
    | .inl _, _ => trivial
    | .inr (_, _), iq => exact fun _ => iq (fun _ => ih (fun z => absurd z (by omega)))
  case c_partF =>
    intro d p f ih
    trivial
  case c_part =>
    intro d p e s o ih iq
    match o, iq with
    | .inl _, _ => trivial
    | .inr (_, _), iq => exact fun _ => iq (fun _ => ih (fun z => absurd z (by omega)))
  case c_paN =>
    intro d p e h
    exact fun z => z (by omega)
  case c_paF =>
    intro d p e f h ih
    trivial
  case c_pa =>
    intro d p e e2 s o h ih iq
    match o, iq with
    | .inl _, _ => trivial
    | .inr (_, _), iq => exact fun z => iq (fun _ => lc_ga_b (by unfold la_bo; decide) (z (by omega)) (ih (fun z => absurd z (by omega))))
  case c_condF =>
    intro d p f ih
    trivial
  case c_cond =>
    intro d p e s o ih iq
    match o, iq with
    | .inl _, _ => trivial
    | .inr (_, _), iq => exact fun _ => iq (fun _ => ih (fun z => absurd z (by omega)))
  case c_coN =>
    intro d p e h
    exact fun z => z (by omega)
  case c_coF =>
    intro d p e f h ih
    trivial
  case c_co =>
    intro d p e e2 s o h ih iq
    match o, iq with
    | .inl _, _ => trivial
    | .inr (_, _), iq => exact fun z => iq (fun _ => lc_ga_b (by unfold la_bo; decide) (z (by omega)) (ih (fun z => absurd z (by omega))))
section
variable {b : Nat → Nat} {n : Nat}
theorem lc_ga2 {p s : Nat} {e : la_T} (h : la_R b n 2 la_z 0 p (.inr (e, s))) : lc_ga (la_cd e) := lc_gaR h (fun z => absurd z (by omega))
theorem lc_ga5 {p s : Nat} {e : la_T} (h : la_R b n 5 la_z 0 p (.inr (e, s))) : lc_ga (la_cd e) := lc_gaR h (fun z => absurd z (by omega))
theorem lc_gaB {p s : Nat} {e a : la_T} (ha : lc_ga (la_cd a)) (h : la_B b n a p (.inr (e, s))) : lc_ga (la_cd e) := by
  rcases h with ⟨f, q, _⟩ | ⟨_, _, f, q, _⟩ | ⟨e1, s1, e2, s2, h1, h2, h3⟩
  · cases q
  · cases q
  · exact lc_gaR h3 (fun _ => lc_gaR h2 (fun _ => lc_gaR h1 (fun _ => ha)))
def lc_gk1 : la_C → Prop
  | (none, v) => lc_ga (la_cd v)
  | (some c, v) => lc_ga (la_cd c) ∧ lc_ga (la_cd v)
theorem lc_gaV {oc : la_O} {C : la_C} {s : Nat} (hc : ∀ c t, oc = .inr (c, t) → lc_ga (la_cd c)) (h : la_V b n oc (.inr (C, s))) : lc_gk1 C := by
  rcases h with ⟨_, _, q⟩ | ⟨_, _, _, _, q⟩ | ⟨_, _, _, _, _, _, q⟩ | ⟨c, s, v, t, h1, h2, h3, h4⟩
  · cases q
  · cases q
  · cases q
  · cases h4; exact ⟨hc _ _ h1, lc_ga2 h3⟩
theorem lc_gaK {p s : Nat} {C : la_C} (h : la_K b n p (.inr (C, s))) : lc_gk1 C := by
  rcases h with ⟨_, q⟩ | ⟨_, _, q⟩ | ⟨_, _, h⟩
  · cases q
  · cases q
  · rcases h with ⟨_, oc, h1, h2⟩ | ⟨_, _, _, _, q⟩ | ⟨_, _, e, t, h1, _, h2⟩ | ⟨_, _, e, t, h1, _, oc, h2, h3⟩
    · exact lc_gaV (fun c t q => lc_ga5 (q ▸ h1)) h2
    · cases q
    · cases h2; exact lc_ga2 h1
    · exact lc_gaV (fun c t q => lc_gaB (lc_ga2 h1) (q ▸ h2)) h3
theorem lc_gaL : ∀ (m p : Nat) (cs : List la_C), la_L b n m p (.inr cs) → ∀ C, C ∈ cs → lc_gk1 C
  | 0, _, _, h => h.elim
  | m + 1, p, cs, h => by
    rcases h with ⟨_, _, q⟩ | ⟨C, s, h1, _, q⟩ | ⟨_, _, _, _, _, q⟩ | ⟨_, _, _, _, _, _, q⟩ | ⟨C, s, ds, h1, _, h2, q⟩
    · cases q
    · cases q; intro c hc; cases List.mem_singleton.mp hc; exact lc_gaK h1
    · cases q
    · cases q
    · cases q
      intro c hc
      rcases List.mem_cons.mp hc with rfl | hc
      · exact lc_gaK h1
      · exact lc_gaL m _ ds h2 c hc
end
theorem lc_gac : ∀ (cs : List la_C) (L : Nat), (∀ C, C ∈ cs → lc_gk1 C) → L + (la_cc L cs).length < 250 → lc_ga (la_cc L cs)
  | [], _, _, _ => fun q hq => absurd hq List.not_mem_nil
  | C :: r, L, h, hl => by
    have e : la_cc L (C :: r) = la_c1 L C ++ la_cc (L + (la_c1 L C).length) r := rfl
    rw [e] at hl ⊢
    rw [List.length_append] at hl
    refine lc_ga_ap ?_ (lc_gac r _ (fun c hc => h c (List.mem_cons_of_mem _ hc)) (by omega))
    have g := h C List.mem_cons_self
    match C, g, hl with
    | (none, v), g, hl => exact lc_ga_ap g (lc_ga_1 (by decide +kernel))
    | (some c, v), g, hl =>
      rw [lc_c1_l] at hl
      exact lc_ga_ap g.1 (lc_ga_c (lc_qu _ (by omega)) (lc_ga_ap g.2 (lc_ga_1 (by decide +kernel))))
theorem lc_wr_b : ∀ (cs : List (Int32 × Int32)) (c : Nat → Int32) (l i : Nat), i < l → lc_wr cs c l i = c i
  | [], _, _, _, _ => rfl
  | q :: r, c, l, i, h => by
    show lc_wr r (fun i => if i = l then lc_en q else c i) (l + 1) i = _
    rw [lc_wr_b r _ _ _ (by omega)]
    exact if_neg (by omega)
theorem lc_wr_at : ∀ (cs : List (Int32 × Int32)) (c : Nat → Int32) (l j : Nat) (h : j < cs.length), lc_wr cs c l (l + j) = lc_en (cs[j])
  | [], _, _, _, h => absurd h (Nat.not_lt_zero _)
  | q :: r, c, l, 0, h => by
    show lc_wr r (fun i => if i = l then lc_en q else c i) (l + 1) l = _
    rw [lc_wr_b r _ _ _ (by omega)]
    exact if_pos rfl
  | q :: r, c, l, j + 1, h => by
    show lc_wr r (fun i => if i = l then lc_en q else c i) (l + 1) (l + (j + 1)) = _
    rw [(by omega : l + (j + 1) = l + 1 + j), lc_wr_at r _ (l + 1) j (by simp only [List.length_cons] at h; omega)]
    rfl
/-- the code is there -/
theorem lc_atw {S : AS} {y : Nat} {p φ L : Int32} {c : Nat → Int32} {cs : List (Int32 × Int32)} (h : lc_ga cs) : la_at (lc_st S y p φ L (lc_wr cs c 0)) y 0 cs := fun j hj => by
  have g := h _ (List.getElem_mem hj)
  unfold lc_qb at g
  simp only [Bool.and_eq_true, decide_eq_true_eq] at g
  have e : ax_ai (lc_st S y p φ L (lc_wr cs c 0)) 30 y (0 + j) = lc_en cs[j] := by
    rw [lc_gc]; exact lc_wr_at cs c 0 j hj
  rw [e]
  exact g
section
variable {b : Nat → Nat} {n : Nat} {S : AS} {y : Nat}
theorem lc_start : f_X5_readFrom y S = f_X5_readFrom_L13 (fun Z => some ((ax_fi Z 10 0 3), Z)) ax_F y 1 0 (lc_st S y 0 (Int32.ofInt (-1)) 0 (ax_ai S 30 y)) := by
  have e : ax_sfi (ax_sfi (ax_sfi S 5 y 2 0) 10 0 2 0) 10 0 3 (Int32.ofInt (-1)) = lc_st S y 0 (Int32.ofInt (-1)) 0 (ax_ai S 30 y) := by
    unfold ax_sfi lc_st ax_u3
    refine Prod.ext (funext fun a => funext fun b => funext fun j => ?_) (Prod.ext rfl (Prod.ext rfl (Prod.ext rfl (Prod.ext (funext fun a => funext fun b => funext fun j => ?_) rfl))))
    · dsimp only
      repeat' split
      all_goals first | rfl | (exfalso; omega)
    · dsimp only
      split
      · rename_i h
        obtain ⟨rfl, rfl⟩ := h
        rfl
      · rfl
  unfold f_X5_readFrom f_X10_rewind
  simp only [ax_let, Option.bind_some]
  rw [e]
theorem lc_text (hT : lc_Tp b n S) {o : Nat ⊕ List la_C} (h : la_L b n (n + 1) 0 o) :
    (∀ f, o = .inl f → f ≤ n ∧ ∃ p' l' c', l' ≤ 241 ∧ f_X5_readFrom y S = some (Int32.ofNat f, lc_st S y p' (Int32.ofNat f) (Int32.ofNat l') c')) ∧
    (∀ cs, o = .inr cs → ∃ p' L c, f_X5_readFrom y S = some (Int32.ofInt (-1), lc_st S y p' (Int32.ofInt (-1)) L c) ∧ la_H (lc_st S y p' (Int32.ofInt (-1)) L c) y cs) := by
  have h240 := hT.1
  obtain ⟨w1, w2⟩ := lc_L (y := y) hT (n + 1) 0 0 999999 0 (ax_ai S 30 y) o h (by omega) (by omega) (by omega) (by omega)
  have e0 := lc_start (S := S) (y := y)
  rw [lc_FF, ← lr_z0] at e0
  refine ⟨fun f e => ?_, fun cs e => ?_⟩
  · obtain ⟨hf, p', l', c', hl, q⟩ := w1 f e
    refine ⟨hf, p', l', c', hl, ?_⟩
    rw [e0]; exact q
  · obtain ⟨hn, p', q⟩ := w2 cs e
    subst e
    refine ⟨p', _, _, by rw [e0]; exact q, ?_⟩
    rw [Nat.zero_add] at hn ⊢
    have hg := lc_gac cs 0 (lc_gaL _ _ _ h) (by omega)
    exact ⟨la_okL _ _ _ h, lc_atw hg, lc_gl, by omega⟩
end
/-! the reference -/
def lr_T0 (T : AS) (i A n : Nat) : AS := ax_sfi (ax_sfi (ax_sfi (ax_sfx T 12 0 5 i) 12 0 8 (Int32.ofNat A)) 12 0 9 (Int32.ofNat n)) 12 0 13 121
section
variable {b : Nat → Nat} {n : Nat} {T : AS} {i A : Nat}
theorem lr_start : f_X12_goThrough_44 i (Int32.ofNat A) (Int32.ofNat n) T = (f_X12_clause (lr_st (lr_T0 T i A n) 0 (Int32.ofInt (-1)) 0 0 0)).bind (fun Z => f_X12_goThrough_44_L32 lr_KK ax_F Z) := by
  have e : ax_sfi (ax_sfi (ax_sfi (ax_sfi (ax_sfi (ax_sfi (ax_sfi (ax_sfi (ax_sfx T 12 0 5 i) 12 0 8 (Int32.ofNat A)) 12 0 9 (Int32.ofNat n)) 12 0 10 0) 12 0 11 (Int32.ofInt (-1))) 12 0 13 121) 12 0 12 0) 12 0 17 0) 12 0 14 0 = lr_st (lr_T0 T i A n) 0 (Int32.ofInt (-1)) 0 0 0 := by
    unfold lr_st lr_T0 ax_sfi ax_sfx
    refine Prod.ext (funext fun a => funext fun b => funext fun j => ?_) rfl
    unfold ax_u3
    dsimp only
    by_cases h : a = 12 ∧ b = 0
    · obtain ⟨rfl, rfl⟩ := h
      simp only [true_and]
      repeat' split
      all_goals first | rfl | (exfalso; omega)
    · have h' : ∀ m : Nat, ¬ (a = 12 ∧ b = 0 ∧ j = m) := fun m q => h ⟨q.1, q.2.1⟩
      simp only [h', if_false]
  unfold f_X12_goThrough_44 f_X12_starts_44
  simp only [ax_let, Option.bind_some]
  rw [e]
  rfl
theorem lr_go {ρ : Nat → Int32} (h240 : n ≤ 240) (hn : A + n ≤ ax_ln T 44 i) (hA : A ≤ 1000) (hb : ∀ p, p < n → ax_ai T 44 i (A + p) = lr_by (b p)) (hb1 : ∀ p, p < n → 1 ≤ b p ∧ b p ≤ 255) (hR : lr_Rh T ρ) {o : Nat ⊕ List la_C} (h : la_L b n (n + 1) 0 o) :
    (∀ f, o = .inl f → f ≤ n ∧ ∃ p' d' g' w', f_X12_goThrough_44 i (Int32.ofNat A) (Int32.ofNat n) T = some (lr_st (lr_T0 T i A n) p' (Int32.ofNat f) d' g' w')) ∧
    (∀ cs, o = .inr cs → ∃ p' g', f_X12_goThrough_44 i (Int32.ofNat A) (Int32.ofNat n) T = some (lr_st (lr_T0 T i A n) p' (Int32.ofInt (-1)) 0 g' (la_cv ρ cs))) := by
  have hT : lr_Tp b n (lr_T0 T i A n) i A := by
    refine ⟨h240, ?_, ?_, ?_, hn, hA, hb, hb1⟩
    · simp [lr_T0, ax_fi, ax_sfi, ax_u3]
    · simp [lr_T0, ax_fi, ax_sfi, ax_u3]
    · simp [lr_T0, ax_fx, ax_sfi, ax_sfx, ax_u3]
  have h13 : ax_fi (lr_T0 T i A n) 12 0 13 = 121 := by simp [lr_T0, ax_fi, ax_sfi, ax_u3]
  have hR' : lr_Rh (lr_T0 T i A n) ρ := hR
  obtain ⟨w1, w2⟩ := lr_L hT hR' h13 (n + 1) 0 ax_F 0 0 o h (by omega) (by show _ ≤ 1000000; omega)
  rw [lr_start]
  refine ⟨fun f e => w1 f e, fun cs e => ?_⟩
  obtain ⟨p', q⟩ := w2 cs e
  rw [lr_fd0] at q
  exact ⟨p', _, q⟩
end
/-! worth hangs on the six letters alone -/
def la_dp (e : la_T) : Prop := ∀ ρ σ : Nat → Int32, (∀ k, k < 6 → ρ k = σ k) → la_ev ρ e = la_ev σ e
theorem la_dp_b {o : Int32} {a b : la_T} (ha : la_dp a) (hb : la_dp b) : la_dp (la_tb o a b) := fun ρ σ h => by
  show la_cl (la_jn o (la_ev ρ a).toInt64 (la_ev ρ b).toInt64) = la_cl (la_jn o (la_ev σ a).toInt64 (la_ev σ b).toInt64)
  rw [ha ρ σ h, hb ρ σ h]
theorem la_dp_g {a : la_T} (ha : la_dp a) : la_dp (la_tg a) := fun ρ σ h => by
  show la_cl ((1 : Int32) - la_ev ρ a).toInt64 = la_cl ((1 : Int32) - la_ev σ a).toInt64
  rw [ha ρ σ h]
theorem la_dp_l {k : Nat} (hk : k < 6) : la_dp (la_tl k) := fun ρ σ h => by
  show la_cl (ρ k).toInt64 = la_cl (σ k).toInt64
  rw [h k hk]
def la_dO (k : Nat) (a : la_T) : la_O → Prop
  | .inl _ => True
  | .inr (e, _) => (6 ≤ k → la_dp a) → la_dp e
theorem la_dpR {b : Nat → Nat} {n : Nat} {k : Nat} {a : la_T} {d p : Nat} {o : la_O} (h : la_R b n k a d p o) : la_dO k a o := by
  refine h (fun k a _ _ o => la_dO k a o) ⟨?c_ltr, ?c_num, ?c_numF, ?c_boxD, ?c_boxF, ?c_boxE, ?c_box, ?c_noA, ?c_termF, ?c_term, ?c_terN, ?c_terF, ?c_ter, ?c_sumF, ?c_sum, ?c_suN, ?c_suF, ?c_su, ?c_cmN, ?c_cmF, ?c_cm, ?c_nestD, ?c_notF, ?c_not, ?c_parF, ?c_parE, ?c_par, ?c_cmpF, ?c_cmp, ?c_partF, ?c_part, ?c_paN, ?c_paF, ?c_pa, ?c_condF, ?c_cond, ?c_coN, ?c_coF, ?c_co⟩
  case c_ltr =>
    intro d p k h
    exact fun _ => la_dp_l (la_li_k h)
  case c_num =>
    intro d p v r h g0 e
    exact fun _ _ _ _ => rfl
  case c_numF =>
    intro d p v r h g0 e
    trivial
  case c_boxD =>
    intro p h
    trivial
  case c_boxF =>
    intro d p f h hd ih
    trivial
  case c_boxE =>
    intro d p e s h hd ih g0
    trivial
  case c_box =>
    intro d p e s h hd ih g0
    exact fun _ => ih (fun z => absurd z (by omega))
  case c_noA =>
    intro d p h g0 k
    trivial
  case c_termF =>
    intro d p f ih
    trivial
  case c_term =>
    intro d p e s o ih iq
    match o, iq with
    | .inl _, _ => trivial
    | .inr (_, _), iq => exact fun _ => iq (fun _ => ih (fun z => absurd z (by omega)))
  case c_terN =>
    intro d p e h g0
    exact fun z => z (by omega)
  case c_terF =>
    intro d p e f h ih
    trivial
  case c_ter =>
    intro d p e e2 s o h ih iq
    match o, iq with
    | .inl _, _ => trivial
    | .inr (_, _), iq => exact fun z => iq (fun _ => la_dp_b (z (by omega)) (ih (fun z => absurd z (by omega))))
  case c_sumF =>
    intro d p f ih
    trivial
  case c_sum =>
    intro d p e s o ih iq
    match o, iq with
    | .inl _, _ => trivial
    | .inr (_, _), iq => exact fun _ => iq (fun _ => ih (fun z => absurd z (by omega)))
  case c_suN =>
    intro d p e h g0
    exact fun z => z (by omega)
  case c_suF =>
    intro d p e f h ih
    trivial
  case c_su =>
    intro d p e e2 s o h ih iq
    match o, iq with
    | .inl _, _ => trivial
    | .inr (_, _), iq => exact fun z => iq (fun _ => la_dp_b (z (by omega)) (ih (fun z => absurd z (by omega))))
  case c_cmN =>
    intro d p e h
    trivial
  case c_cmF =>
    intro d p e f k h ih
    trivial
  case c_cm =>
    intro d p e e2 s k h ih
    exact fun z => la_dp_b (z (by omega)) (ih (fun z => absurd z (by omega)))
  case c_nestD =>
    intro p h
    trivial
  case c_notF =>
    intro d p f h hd ih
    trivial
  case c_not =>
    intro d p e s h hd ih
    exact fun _ => la_dp_g (ih (fun z => absurd z (by omega)))
  case c_parF =>
    intro d p f h hd ih
    trivial
  case c_parE =>
    intro d p e s h hd ih g0
    trivial
  case c_par =>
    intro d p e s h hd ih g0
    exact fun _ => ih (fun z => absurd z (by omega))
  case c_cmpF =>
    intro d p f h g0 ih
    trivial
  case c_cmp =>
    intro d p e s o h g0 ih iq
    match o, iq with
    | .inl _, _ => trivial
    | .inr (_, _), iq => exact fun _ => iq (fun _ => ih (fun z => absurd z (by omega)))
  case c_partF =>
    intro d p f ih
    trivial
  case c_part =>
    intro d p e s o ih iq
    match o, iq with
    | .inl _, _ => trivial
    | .inr (_, _), iq => exact fun _ => iq (fun _ => ih (fun z => absurd z (by omega)))
  case c_paN =>
    intro d p e h
    exact fun z => z (by omega)
  case c_paF =>
    intro d p e f h ih
    trivial
  case c_pa =>
    intro d p e e2 s o h ih iq
    match o, iq with
    | .inl _, _ => trivial
    | .inr (_, _), iq => exact fun z => iq (fun _ => la_dp_b (z (by omega)) (ih (fun z => absurd z (by omega))))
  case c_condF =>
    intro d p f ih
    trivial
  case c_cond =>
    intro d p e s o ih iq
    match o, iq with
    | .inl _, _ => trivial
    | .inr (_, _), iq => exact fun _ => iq (fun _ => ih (fun z => absurd z (by omega)))
  case c_coN =>
    intro d p e h
    exact fun z => z (by omega)
  case c_coF =>
    intro d p e f h ih
    trivial
  case c_co =>
    intro d p e e2 s o h ih iq
    match o, iq with
    | .inl _, _ => trivial
    | .inr (_, _), iq => exact fun z => iq (fun _ => la_dp_b (z (by omega)) (ih (fun z => absurd z (by omega))))
section
variable {b : Nat → Nat} {n : Nat}
theorem la_dp2 {p s : Nat} {e : la_T} (h : la_R b n 2 la_z 0 p (.inr (e, s))) : la_dp e := la_dpR h (fun z => absurd z (by omega))
theorem la_dp5 {p s : Nat} {e : la_T} (h : la_R b n 5 la_z 0 p (.inr (e, s))) : la_dp e := la_dpR h (fun z => absurd z (by omega))
theorem la_dpB {p s : Nat} {e a : la_T} (ha : la_dp a) (h : la_B b n a p (.inr (e, s))) : la_dp e := by
  rcases h with ⟨f, q, _⟩ | ⟨_, _, f, q, _⟩ | ⟨e1, s1, e2, s2, h1, h2, h3⟩
  · cases q
  · cases q
  · exact la_dpR h3 (fun _ => la_dpR h2 (fun _ => la_dpR h1 (fun _ => ha)))
def la_dk1 : la_C → Prop
  | (none, v) => la_dp v
  | (some c, v) => la_dp c ∧ la_dp v
theorem la_dpV {oc : la_O} {C : la_C} {s : Nat} (hc : ∀ c t, oc = .inr (c, t) → la_dp c) (h : la_V b n oc (.inr (C, s))) : la_dk1 C := by
  rcases h with ⟨_, _, q⟩ | ⟨_, _, _, _, q⟩ | ⟨_, _, _, _, _, _, q⟩ | ⟨c, s, v, t, h1, h2, h3, h4⟩
  · cases q
  · cases q
  · cases q
  · cases h4; exact ⟨hc _ _ h1, la_dp2 h3⟩
theorem la_dpK {p s : Nat} {C : la_C} (h : la_K b n p (.inr (C, s))) : la_dk1 C := by
  rcases h with ⟨_, q⟩ | ⟨_, _, q⟩ | ⟨_, _, h⟩
  · cases q
  · cases q
  · rcases h with ⟨_, oc, h1, h2⟩ | ⟨_, _, _, _, q⟩ | ⟨_, _, e, t, h1, _, h2⟩ | ⟨_, _, e, t, h1, _, oc, h2, h3⟩
    · exact la_dpV (fun c t q => la_dp5 (q ▸ h1)) h2
    · cases q
    · cases h2; exact la_dp2 h1
    · exact la_dpV (fun c t q => la_dpB (la_dp2 h1) (q ▸ h2)) h3
def la_dc (cs : List la_C) : Prop := ∀ ρ σ : Nat → Int32, (∀ k, k < 6 → ρ k = σ k) → la_cv ρ cs = la_cv σ cs
theorem la_dc_c {C : la_C} {cs : List la_C} (h1 : la_dk1 C) (h2 : la_dc cs) : la_dc (C :: cs) := fun ρ σ h => by
  match C, h1 with
  | (none, v), h1 => exact h1 ρ σ h
  | (some c, v), h1 =>
    show (if la_ev ρ c = 0 then la_cv ρ cs else la_ev ρ v) = (if la_ev σ c = 0 then la_cv σ cs else la_ev σ v)
    rw [h1.1 ρ σ h, h1.2 ρ σ h, h2 ρ σ h]
theorem la_dcL : ∀ (m p : Nat) (cs : List la_C), la_L b n m p (.inr cs) → la_dc cs
  | 0, _, _, h => h.elim
  | m + 1, p, cs, h => by
    rcases h with ⟨_, _, q⟩ | ⟨C, s, h1, _, q⟩ | ⟨_, _, _, _, _, q⟩ | ⟨_, _, _, _, _, _, q⟩ | ⟨C, s, ds, h1, _, h2, q⟩
    · cases q
    · cases q; exact la_dc_c (la_dpK h1) (fun _ _ _ => rfl)
    · cases q
    · cases q
    · cases q; exact la_dc_c (la_dpK h1) (la_dcL m _ ds h2)
end

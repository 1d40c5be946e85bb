/-! SMALL NUMBERS -/
theorem la_ti {p : Nat} (h : p < 1000000) : (Int32.ofNat p).toInt = p := Int32.toInt_ofNat_of_lt (by omega)
theorem la_nc {p : Nat} (h : p < 1000000) : (Int32.ofNat p).toNatClampNeg = p := Int32.toNatClampNeg_ofNat_of_lt (by omega)
theorem la_le {p q : Nat} (h : p < 1000000) (g : q < 1000000) : (Int32.ofNat p ≤ Int32.ofNat q) ↔ p ≤ q := by
  rw [Int32.le_iff_toInt_le, la_ti h, la_ti g]; omega
theorem la_lt {p q : Nat} (h : p < 1000000) (g : q < 1000000) : (Int32.ofNat p < Int32.ofNat q) ↔ p < q := by
  rw [Int32.lt_iff_toInt_lt, la_ti h, la_ti g]; omega
theorem la_ad (p q : Nat) : Int32.ofNat p + Int32.ofNat q = Int32.ofNat (p + q) := (Int32.ofNat_add p q).symm
theorem la_a1 (p : Nat) : Int32.ofNat p + 1 = Int32.ofNat (p + 1) := (Int32.ofNat_add p 1).symm
theorem la_s1 (p : Nat) : Int32.ofNat (p + 1) - 1 = Int32.ofNat p := by
  rw [← la_a1]; exact Int32.add_sub_cancel ..
theorem la_n0 {p : Nat} (h : p < 1000000) : ¬ (Int32.ofNat p < 0) := by
  rw [Int32.lt_iff_toInt_lt, la_ti h]; simp
theorem la_p0 {p : Nat} (h : p + 1 < 1000000) : (0 : Int32) < Int32.ofNat (p + 1) := by
  rw [Int32.lt_iff_toInt_lt, la_ti h]; simp
theorem la_in {p n : Nat} (h : p < n) (g : p < 1000000) : ax_in (Int32.ofNat p) n = true := by
  unfold ax_in; rw [la_nc g, decide_eq_false (la_n0 g), decide_eq_true h]; rfl
/-! TREES of a law: their value, their code -/
abbrev la_T : Type := List (Int32 × Int32) × ((Nat → Int32) → Int32)
def la_cl (x : Int64) : Int32 := if (lg_cmp x (1000000 : Int64)) ≤ (0 : Int32) then (if (0 : Int32) ≤ (lg_cmp x (-1000000 : Int64)) then x.toInt32 else (-1000000 : Int32)) else (1000000 : Int32)
def la_jn (o : Int32) (a b : Int64) : Int64 := if o = 2 then a + b else if o = 3 then a - b else if o = 4 then a * b else if o = 5 then (if lg_cmp b 0 = 0 then 0 else a / b) else if o = 6 then (if lg_cmp a b = 0 then 1 else 0) else if o = 7 then (if (0 : Int32) ≤ lg_cmp a b then 0 else 1) else if o = 8 then (if lg_cmp a b ≤ (0 : Int32) then 0 else 1) else if o = 9 then a &&& b else a ||| b
def la_cd (e : la_T) : List (Int32 × Int32) := e.1
def la_ev (ρ : Nat → Int32) (e : la_T) : Int32 := e.2 ρ
def la_tn (v : Int32) : la_T := ([(0, v)], fun _ => la_cl v.toInt64)
def la_tl (k : Nat) : la_T := ([(1, Int32.ofNat k)], fun ρ => la_cl (ρ k).toInt64)
def la_tb (o : Int32) (a b : la_T) : la_T := (a.1 ++ (b.1 ++ [(o, 0)]), fun ρ => la_cl (la_jn o (a.2 ρ).toInt64 (b.2 ρ).toInt64))
def la_tg (a : la_T) : la_T := (a.1 ++ [(11, 0)], fun ρ => la_cl ((1 : Int32) - a.2 ρ).toInt64)
def la_bo (o : Int32) : Prop := o = 2 ∨ o = 3 ∨ o = 4 ∨ o = 5 ∨ o = 6 ∨ o = 7 ∨ o = 8 ∨ o = 9 ∨ o = 10
theorem la_bin_l {o : Int32} {a b : la_T} : (la_cd (la_tb o a b)).length = (la_cd a).length + (la_cd b).length + 1 := by simp only [la_cd, la_tb, List.length_append, List.length_cons, List.length_nil]; omega
theorem la_neg_l {a : la_T} : (la_cd (la_tg a)).length = (la_cd a).length + 1 := by simp only [la_cd, la_tg, List.length_append, List.length_cons, List.length_nil]
/-- the code of law y from place p on -/
def la_at (S : AS) (y p : Nat) (cs : List (Int32 × Int32)) : Prop := ∀ j (h : j < cs.length), (ax_ai S 30 y (p + j) &&& (255 : Int32)) = cs[j].1 ∧ ((ax_ai S 30 y (p + j)).toUInt32 >>> ((8 : Int32).toUInt32 &&& Int32.toUInt32 31)).toInt32 = cs[j].2
theorem la_at_l {S : AS} {y p : Nat} {a b : List (Int32 × Int32)} (h : la_at S y p (a ++ b)) : la_at S y p a := fun j hj => by
  have := h j (by rw [List.length_append]; omega)
  rwa [List.getElem_append_left hj] at this
theorem la_at_r {S : AS} {y p : Nat} {a b : List (Int32 × Int32)} (h : la_at S y p (a ++ b)) : la_at S y (p + a.length) b := fun j hj => by
  have := h (a.length + j) (by rw [List.length_append]; omega)
  rw [List.getElem_append_right (by omega), ← Nat.add_assoc] at this
  simpa using this
theorem la_at_fr {S Z : AS} {y p : Nat} {a : List (Int32 × Int32)} (hf : ax_fr [(4, 31, 0), (0, 5, 3)] S Z) (h : la_at S y p a) : la_at Z y p a := fun j hj => by
  rw [hf.2.2.2.2.1 30 y (by decide)]; exact h j hj
/-- Z is S with v on top of t things -/
def la_P (S Z : AS) (y t : Nat) (v : Int32) : Prop := (ax_fr [(4, 31, 0), (0, 5, 3)] S Z) ∧ (ax_fi Z 5 y 3 = Int32.ofNat (t + 1)) ∧ (ax_ai Z 31 y t = v) ∧ (∀ j, j < t → ax_ai Z 31 y j = ax_ai S 31 y j)
theorem la_P.fr {S Z : AS} {y t : Nat} {v : Int32} (h : la_P S Z y t v) : ax_fr [(4, 31, 0), (0, 5, 3)] S Z := h.1
theorem la_P.top {S Z : AS} {y t : Nat} {v : Int32} (h : la_P S Z y t v) : ax_fi Z 5 y 3 = Int32.ofNat (t + 1) := h.2.1
theorem la_P.val {S Z : AS} {y t : Nat} {v : Int32} (h : la_P S Z y t v) : ax_ai Z 31 y t = v := h.2.2.1
theorem la_P.low {S Z : AS} {y t : Nat} {v : Int32} (h : la_P S Z y t v) : ∀ j, j < t → ax_ai Z 31 y j = ax_ai S 31 y j := h.2.2.2
theorem la_fi_s {S : AS} {k i j : Nat} {v : Int32} : ax_fi (ax_sfi S k i j v) k i j = v := by
  unfold ax_fi ax_sfi ax_u3; exact if_pos ⟨rfl, rfl, rfl⟩
theorem la_ai_s {S : AS} {k i j : Nat} {v : Int32} : ax_ai (ax_sai S k i j v) k i j = v := by
  unfold ax_ai ax_sai ax_u3; exact if_pos ⟨rfl, rfl, rfl⟩
theorem la_ai_n {S : AS} {k i j m : Nat} {v : Int32} (h : m ≠ j) : ax_ai (ax_sai S k i j v) k i m = ax_ai S k i m := by
  unfold ax_ai ax_sai ax_u3; exact if_neg (fun q => h q.2.2)
theorem la_fi_a {S : AS} {k i j : Nat} {v : Int32} : ax_fi (ax_sai S k i j v) = ax_fi S := rfl
theorem la_ai_f {S : AS} {k i j : Nat} {v : Int32} : ax_ai (ax_sfi S k i j v) = ax_ai S := rfl
theorem la_psh0 {S : AS} {y t : Nat} {v : Int32} (ht : ax_fi S 5 y 3 = Int32.ofNat t) : la_P S (ax_sfi (ax_sai S 31 y t v) 5 y 3 (Int32.ofNat t + 1)) y t v :=
  ⟨(ax_fr_sai (by decide)).tr (ax_fr_sfi (by decide)), by rw [la_fi_s, la_a1], by rw [la_ai_f, la_ai_s], fun j hj => by rw [la_ai_f, la_ai_n (by omega)]⟩
theorem la_push {S : AS} {y t : Nat} {x : Int64} (ht : ax_fi S 5 y 3 = Int32.ofNat t) (h : t < 40) : ∃ Z, f_X5_push y x S = some Z ∧ la_P S Z y t (la_cl x) := by
  refine ⟨ax_sfi (ax_sai S 31 y t (la_cl x)) 5 y 3 (Int32.ofNat t + 1), ?_, la_psh0 ht⟩
  unfold f_X5_push la_cl
  have h1 : ¬ (Int32.ofNat 40 ≤ Int32.ofNat t) := by rw [la_le (by omega) (by omega)]; omega
  rw [ht, if_neg h1]
  simp only [ax_let, ax_gd, la_in h (by omega : t < 1000000), la_nc (by omega : t < 1000000), la_fi_a, ht, if_true]
  split
  · split <;> rfl
  · rfl
theorem la_pop {S : AS} {y t : Nat} (ht : ax_fi S 5 y 3 = Int32.ofNat (t + 1)) (h : t < 40) : f_X5_pop y S = some (ax_ai S 31 y t, ax_sfi S 5 y 3 (Int32.ofNat t)) := by
  unfold f_X5_pop
  rw [ht, if_pos (la_p0 (by omega)), la_s1]
  simp only [ax_let, ax_gd, la_fi_s, la_in h (by omega : t < 1000000), la_nc (by omega : t < 1000000), if_true, la_ai_f]
theorem la_join {o : Int32} {a b : Int64} {S : AS} : f_X5_joined o a b S = some (la_jn o a b) := by
  unfold f_X5_joined la_jn ax_gd ax_nzl
  by_cases h5 : o = 5
  · subst h5
    by_cases hb : lg_cmp b 0 = 0
    · simp [hb]
    · have : ¬ b = 0 := fun q => hb (by subst q; decide)
      simp [hb, this]
  · simp only [h5, if_false]
    repeat (first | rfl | split)
/-- what the loop finds at place p -/
def la_W (S : AS) (y p m : Nat) (x : Int32) (o v : Int32) : Prop := (ax_fi S 5 y 2 = Int32.ofNat m) ∧ (p < m) ∧ (m ≤ 241) ∧ (x ≤ Int32.ofNat p) ∧ ((ax_ai S 30 y p &&& (255 : Int32)) = o) ∧ (((ax_ai S 30 y p).toUInt32 >>> ((8 : Int32).toUInt32 &&& Int32.toUInt32 31)).toInt32 = v)
theorem la_W.hm {S : AS} {y p m : Nat} {x : Int32} {o v : Int32} (h : la_W S y p m x o v) : ax_fi S 5 y 2 = Int32.ofNat m := h.1
theorem la_W.hp {S : AS} {y p m : Nat} {x : Int32} {o v : Int32} (h : la_W S y p m x o v) : p < m := h.2.1
theorem la_W.h2 {S : AS} {y p m : Nat} {x : Int32} {o v : Int32} (h : la_W S y p m x o v) : m ≤ 241 := h.2.2.1
theorem la_W.hx {S : AS} {y p m : Nat} {x : Int32} {o v : Int32} (h : la_W S y p m x o v) : x ≤ Int32.ofNat p := h.2.2.2.1
theorem la_W.o1 {S : AS} {y p m : Nat} {x : Int32} {o v : Int32} (h : la_W S y p m x o v) : (ax_ai S 30 y p &&& (255 : Int32)) = o := h.2.2.2.2.1
theorem la_W.v1 {S : AS} {y p m : Nat} {x : Int32} {o v : Int32} (h : la_W S y p m x o v) : ((ax_ai S 30 y p).toUInt32 >>> ((8 : Int32).toUInt32 &&& Int32.toUInt32 31)).toInt32 = v := h.2.2.2.2.2
theorem la_w_num {S : AS} {y p m n : Nat} {x v : Int32} (w : la_W S y p m x 0 v) : f_X5_worth_32x0_L9 (n + 1) y x (Int32.ofNat p) S = (f_X5_push y v.toInt64 S).bind (fun Z => f_X5_worth_32x0_L9 n y x (Int32.ofNat (p + 1)) Z) := by
  have hp := w.hp; have hm := w.h2
  have h1 : ¬ (Int32.ofNat m ≤ Int32.ofNat p) := by rw [la_le (by omega) (by omega)]; omega
  rw [f_X5_worth_32x0_L9, w.hm, if_neg h1]
  simp only [ax_let, ax_gd, la_in (by omega : p < 241) (by omega : p < 1000000), la_nc (by omega : p < 1000000), if_true, w.o1, w.v1, w.hx, la_a1]
theorem la_w_ltr {S : AS} {y p m n k : Nat} {x : Int32} (w : la_W S y p m x 1 (Int32.ofNat k)) (hk : k < 6) : f_X5_worth_32x0_L9 (n + 1) y x (Int32.ofNat p) S = (f_X5_push y (ax_ai S 32 0 k).toInt64 S).bind (fun Z => f_X5_worth_32x0_L9 n y x (Int32.ofNat (p + 1)) Z) := by
  have hp := w.hp; have hm := w.h2
  have h1 : ¬ (Int32.ofNat m ≤ Int32.ofNat p) := by rw [la_le (by omega) (by omega)]; omega
  have h3 : ¬ (Int32.ofNat 6 ≤ Int32.ofNat k) := by rw [la_le (by omega) (by omega)]; omega
  rw [f_X5_worth_32x0_L9, w.hm, if_neg h1]
  simp only [ax_let, ax_gd, la_in (by omega : p < 241) (by omega : p < 1000000), la_nc (by omega : p < 1000000), if_true, w.o1, w.v1, w.hx, la_a1]
  rw [if_neg (by decide), if_neg h3, la_in hk (by omega), if_pos rfl, la_nc (by omega : k < 1000000)]
theorem la_w_not {S : AS} {y p m n : Nat} {x v : Int32} (w : la_W S y p m x 11 v) : f_X5_worth_32x0_L9 (n + 1) y x (Int32.ofNat p) S = ax_bu (f_X5_pop y S) (fun r Z => (f_X5_push y ((1 : Int32) - r).toInt64 Z).bind (fun Z => f_X5_worth_32x0_L9 n y x (Int32.ofNat (p + 1)) Z)) := by
  have hp := w.hp; have hm := w.h2
  have h1 : ¬ (Int32.ofNat m ≤ Int32.ofNat p) := by rw [la_le (by omega) (by omega)]; omega
  rw [f_X5_worth_32x0_L9, w.hm, if_neg h1]
  simp only [ax_let, ax_gd, la_in (by omega : p < 241) (by omega : p < 1000000), la_nc (by omega : p < 1000000), if_true, w.o1, w.v1, w.hx, la_a1]
  rfl
theorem la_w_unl {S : AS} {y p m n : Nat} {x v : Int32} (w : la_W S y p m x 12 v) : f_X5_worth_32x0_L9 (n + 1) y x (Int32.ofNat p) S = ax_bu (f_X5_pop y S) (fun r Z => if r = 0 then f_X5_worth_32x0_L9 n y v (Int32.ofNat (p + 1)) Z else f_X5_worth_32x0_L9 n y x (Int32.ofNat (p + 1)) Z) := by
  have hp := w.hp; have hm := w.h2
  have h1 : ¬ (Int32.ofNat m ≤ Int32.ofNat p) := by rw [la_le (by omega) (by omega)]; omega
  rw [f_X5_worth_32x0_L9, w.hm, if_neg h1]
  simp only [ax_let, ax_gd, la_in (by omega : p < 241) (by omega : p < 1000000), la_nc (by omega : p < 1000000), if_true, w.o1, w.v1, w.hx, la_a1]
  rfl
theorem la_w_ans {S : AS} {y p m n : Nat} {x v : Int32} (w : la_W S y p m x 13 v) : f_X5_worth_32x0_L9 (n + 1) y x (Int32.ofNat p) S = f_X5_pop y S := by
  have hp := w.hp; have hm := w.h2
  have h1 : ¬ (Int32.ofNat m ≤ Int32.ofNat p) := by rw [la_le (by omega) (by omega)]; omega
  rw [f_X5_worth_32x0_L9, w.hm, if_neg h1]
  simp only [ax_let, ax_gd, la_in (by omega : p < 241) (by omega : p < 1000000), la_nc (by omega : p < 1000000), if_true, w.o1, w.v1, w.hx, la_a1]
  show ax_bu (f_X5_pop y S) (fun r Z => some (r, Z)) = _
  unfold ax_bu
  cases f_X5_pop y S <;> rfl
theorem la_w_skip {S : AS} {y p m n : Nat} {x : Int32} (hm : ax_fi S 5 y 2 = Int32.ofNat m) (hp : p < m) (h2 : m ≤ 241) (hx : ¬ x ≤ Int32.ofNat p) : f_X5_worth_32x0_L9 (n + 1) y x (Int32.ofNat p) S = f_X5_worth_32x0_L9 n y x (Int32.ofNat (p + 1)) S := by
  have h1 : ¬ (Int32.ofNat m ≤ Int32.ofNat p) := by rw [la_le (by omega) (by omega)]; omega
  rw [f_X5_worth_32x0_L9, hm, if_neg h1]
  simp only [ax_let, ax_gd, la_in (by omega : p < 241) (by omega : p < 1000000), if_true, hx, if_false, la_a1]
theorem la_w_bin {S : AS} {y p m n : Nat} {x o v : Int32} (w : la_W S y p m x o v) (ho : o = 2 ∨ o = 3 ∨ o = 4 ∨ o = 5 ∨ o = 6 ∨ o = 7 ∨ o = 8 ∨ o = 9 ∨ o = 10) : f_X5_worth_32x0_L9 (n + 1) y x (Int32.ofNat p) S = ax_bu (f_X5_pop y S) (fun r1 S1 => ax_bu (f_X5_pop y S1) (fun r2 S2 => (f_X5_joined o r2.toInt64 r1.toInt64 S2).bind (fun q => (f_X5_push y q S2).bind (fun Z => f_X5_worth_32x0_L9 n y x (Int32.ofNat (p + 1)) Z)))) := by
  have hp := w.hp; have hm := w.h2
  have h1 : ¬ (Int32.ofNat m ≤ Int32.ofNat p) := by rw [la_le (by omega) (by omega)]; omega
  rw [f_X5_worth_32x0_L9, w.hm, if_neg h1]
  simp only [ax_let, ax_gd, la_in (by omega : p < 241) (by omega : p < 1000000), la_nc (by omega : p < 1000000), if_true, w.o1, w.v1, w.hx, la_a1]
  rcases ho with h | h | h | h | h | h | h | h | h <;> subst h <;> rfl
theorem la_fr_len {S Z : AS} {y m : Nat} (h : ax_fr [(4, 31, 0), (0, 5, 3)] S Z) (g : ax_fi S 5 y 2 = Int32.ofNat m) : ax_fi Z 5 y 2 = Int32.ofNat m := by rw [h.1 5 y 2 (by decide)]; exact g
theorem la_fr_let {S Z : AS} (h : ax_fr [(4, 31, 0), (0, 5, 3)] S Z) : ax_ai Z 32 0 = ax_ai S 32 0 := h.2.2.2.2.1 32 0 (by decide)
/-- the code runs with room for h things, and pushes the value -/
def la_ok (h : Nat) (e : la_T) : Prop := 1 ≤ h ∧ ∀ (y m : Nat) (x : Int32), m ≤ 241 → ∀ (p t : Nat) (S : AS), la_at S y p (la_cd e) → ax_fi S 5 y 2 = Int32.ofNat m → p + (la_cd e).length ≤ m → x ≤ Int32.ofNat p → ax_fi S 5 y 3 = Int32.ofNat t → t + h ≤ 40 → ∃ Z, la_P S Z y t (la_ev (ax_ai S 32 0) e) ∧ ∀ n, f_X5_worth_32x0_L9 (n + (la_cd e).length) y x (Int32.ofNat p) S = f_X5_worth_32x0_L9 n y x (Int32.ofNat (p + (la_cd e).length)) Z
theorem la_ok_m {h k : Nat} {e : la_T} (g : la_ok h e) (hk : h ≤ k) : la_ok k e := ⟨Nat.le_trans g.1 hk, fun y m x hm2 p t S ha hm hl hx ht hh => g.2 y m x hm2 p t S ha hm hl hx ht (by omega)⟩
theorem la_ok_n {v : Int32} : la_ok 1 (la_tn v) := ⟨Nat.le_refl _, by
    intro y m x hm2 p t S ha hm hl hx ht hh
    have hl' : p + 1 ≤ m := hl
    have hh' : t + 1 ≤ 40 := hh
    obtain ⟨Z, h1, h2⟩ := la_push (x := v.toInt64) ht (by omega)
    refine ⟨Z, h2, fun n => ?_⟩
    have a0 := ha 0 (by show 0 < 1; omega)
    have w : la_W S y p m x 0 v := ⟨hm, by omega, hm2, hx, a0.1, a0.2⟩
    show f_X5_worth_32x0_L9 (n + 1) _ _ _ _ = f_X5_worth_32x0_L9 n y x (Int32.ofNat (p + 1)) Z
    rw [la_w_num w, h1]; rfl⟩
theorem la_ok_l {k : Nat} (hk : k < 6) : la_ok 1 (la_tl k) := ⟨Nat.le_refl _, by
    intro y m x hm2 p t S ha hm hl hx ht hh
    have hl' : p + 1 ≤ m := hl
    have hh' : t + 1 ≤ 40 := hh
    obtain ⟨Z, h1, h2⟩ := la_push (x := (ax_ai S 32 0 k).toInt64) ht (by omega)
    refine ⟨Z, h2, fun n => ?_⟩
    have a0 := ha 0 (by show 0 < 1; omega)
    have w : la_W S y p m x 1 (Int32.ofNat k) := ⟨hm, by omega, hm2, hx, a0.1, a0.2⟩
    show f_X5_worth_32x0_L9 (n + 1) _ _ _ _ = f_X5_worth_32x0_L9 n y x (Int32.ofNat (p + 1)) Z
    rw [la_w_ltr w hk, h1]; rfl⟩
theorem la_ok_g {h : Nat} {a : la_T} (ga : la_ok h a) : la_ok h (la_tg a) := ⟨ga.1, by
    intro y m x hm2 p t S ha hm hl hx ht hh
    have hl' : p + ((la_cd a).length + 1) ≤ m := by rw [la_neg_l] at hl; exact hl
    have hh' : t + h ≤ 40 := hh
    have h1a := ga.1
    obtain ⟨Z, z1, z2⟩ := ga.2 y m x hm2 p t S (la_at_l ha) hm (by omega) hx ht hh'
    have pz := la_pop z1.top (by omega)
    obtain ⟨Y, y1, y2⟩ := la_push (S := ax_sfi Z 5 y 3 (Int32.ofNat t)) (y := y) (t := t) (x := ((1 : Int32) - ax_ai Z 31 y t).toInt64) la_fi_s (by omega)
    have fz : ax_fr [(4, 31, 0), (0, 5, 3)] S (ax_sfi Z 5 y 3 (Int32.ofNat t)) := z1.fr.tr (ax_fr_sfi (by decide))
    refine ⟨Y, ⟨fz.tr y2.fr, y2.top, ?_, fun j hj => (y2.low j hj).trans ((congrFun (congrFun (congrFun la_ai_f 31) y) j).trans (z1.low j hj))⟩, fun n => ?_⟩
    · rw [y2.val, z1.val]; rfl
    · have a0 := la_at_fr z1.fr (la_at_r ha) 0 (by show 0 < 1; omega)
      have hx2 : x ≤ Int32.ofNat (p + (la_cd a).length) := Int32.le_trans hx ((la_le (by omega) (by omega)).mpr (by omega))
      have w : la_W Z y (p + (la_cd a).length) m x 11 0 := ⟨la_fr_len z1.fr hm, by omega, hm2, hx2, a0.1, a0.2⟩
      have e1 : (la_cd (la_tg a)).length = (la_cd a).length + 1 := la_neg_l
      rw [e1, (by omega : n + ((la_cd a).length + 1) = (n + 1) + (la_cd a).length), z2, la_w_not w, pz, ax_bu_s, y1, ← Nat.add_assoc]; rfl⟩
theorem la_ok_b {h1 h2 : Nat} {o : Int32} {a b : la_T} (hk : la_bo o) (ga : la_ok h1 a) (gb : la_ok h2 b) : la_ok (max h1 (1 + h2)) (la_tb o a b) := ⟨Nat.le_trans ga.1 (Nat.le_max_left _ _), by
    intro y m x hm2 p t S ha hm hl hx ht hh
    have e1 : (la_cd (la_tb o a b)).length = (la_cd a).length + ((la_cd b).length + 1) := by rw [la_bin_l]; omega
    rw [e1] at hl
    have hh1 : t + h1 ≤ 40 := by have h := Nat.le_max_left h1 (1 + h2); omega
    have hh2 : t + 1 + h2 ≤ 40 := by have h := Nat.le_max_right h1 (1 + h2); omega
    have h1a := ga.1
    have h1b := gb.1
    obtain ⟨Z, z1, z2⟩ := ga.2 y m x hm2 p t S (la_at_l ha) hm (by omega) hx ht hh1
    have hx2 : x ≤ Int32.ofNat (p + (la_cd a).length) := Int32.le_trans hx ((la_le (by omega) (by omega)).mpr (by omega))
    obtain ⟨Y, y1, y2⟩ := gb.2 y m x hm2 (p + (la_cd a).length) (t + 1) Z (la_at_fr z1.fr (la_at_l (la_at_r ha))) (la_fr_len z1.fr hm) (by omega) hx2 z1.top hh2
    have hx3 : x ≤ Int32.ofNat (p + (la_cd a).length + (la_cd b).length) := Int32.le_trans hx2 ((la_le (by omega) (by omega)).mpr (by omega))
    have p1 := la_pop y1.top (by omega)
    have p2 := la_pop (S := ax_sfi Y 5 y 3 (Int32.ofNat (t + 1))) (y := y) (t := t) la_fi_s (by omega)
    obtain ⟨X, x1, x2⟩ := la_push (S := ax_sfi (ax_sfi Y 5 y 3 (Int32.ofNat (t + 1))) 5 y 3 (Int32.ofNat t)) (y := y) (t := t) (x := la_jn o (ax_ai Y 31 y t).toInt64 (ax_ai Y 31 y (t + 1)).toInt64) la_fi_s (by omega)
    have fy : ax_fr [(4, 31, 0), (0, 5, 3)] S (ax_sfi (ax_sfi Y 5 y 3 (Int32.ofNat (t + 1))) 5 y 3 (Int32.ofNat t)) := ((z1.fr.tr y1.fr).tr (ax_fr_sfi (by decide))).tr (ax_fr_sfi (by decide))
    refine ⟨X, ⟨fy.tr x2.fr, x2.top, ?_, fun j hj => (x2.low j hj).trans ((y1.low j (by omega)).trans (z1.low j hj))⟩, fun n => ?_⟩
    · rw [x2.val, y1.low t (by omega), z1.val, y1.val, la_fr_let z1.fr]; rfl
    · have a0 := la_at_fr y1.fr (la_at_fr z1.fr (la_at_r (la_at_r ha))) 0 (by show 0 < 1; omega)
      have w : la_W Y y (p + (la_cd a).length + (la_cd b).length) m x o 0 := ⟨la_fr_len y1.fr (la_fr_len z1.fr hm), by omega, hm2, hx3, a0.1, a0.2⟩
      rw [e1, (by omega : n + ((la_cd a).length + ((la_cd b).length + 1)) = ((n + 1) + (la_cd b).length) + (la_cd a).length), z2, y2, la_w_bin w hk, p1, ax_bu_s, p2, ax_bu_s, la_join]
      show (f_X5_push y _ _).bind _ = _
      rw [la_ai_f, x1, (by omega : p + ((la_cd a).length + ((la_cd b).length + 1)) = p + (la_cd a).length + (la_cd b).length + 1)]; rfl⟩
/-! CLAUSES of a law -/
abbrev la_C : Type := Option la_T × la_T
def la_c1 (p : Nat) : la_C → List (Int32 × Int32)
  | (none, v) => la_cd v ++ [(13, 0)]
  | (some c, v) => la_cd c ++ ((12, Int32.ofNat (p + (la_cd c).length + 1 + (la_cd v).length + 1)) :: (la_cd v ++ [(13, 0)]))
def la_cc : Nat → List la_C → List (Int32 × Int32)
  | _, [] => []
  | p, c :: r => la_c1 p c ++ la_cc (p + (la_c1 p c).length) r
def la_cv (ρ : Nat → Int32) : List la_C → Int32
  | [] => 0
  | (none, v) :: _ => la_ev ρ v
  | (some c, v) :: r => if la_ev ρ c = 0 then la_cv ρ r else la_ev ρ v
def la_k1 : la_C → Prop
  | (none, v) => la_ok 40 v
  | (some c, v) => la_ok 40 c ∧ la_ok 40 v
def la_kk (cs : List la_C) : Prop := ∀ c ∈ cs, la_k1 c
theorem la_skip {S : AS} {y m q : Nat} (hm : ax_fi S 5 y 2 = Int32.ofNat m) (h2 : m ≤ 241) (hq : q ≤ m) : ∀ d p n, p + d = q → f_X5_worth_32x0_L9 (n + d) y (Int32.ofNat q) (Int32.ofNat p) S = f_X5_worth_32x0_L9 n y (Int32.ofNat q) (Int32.ofNat q) S
  | 0, p, n, h => by rw [← h]; rfl
  | d + 1, p, n, h => by
    rw [← Nat.add_assoc, la_w_skip hm (by omega) h2 (by rw [la_le (by omega) (by omega)]; omega)]
    exact la_skip hm h2 hq d (p + 1) n (by omega)
theorem la_cvfr {S Z : AS} (h : ax_fr [(4, 31, 0), (0, 5, 3)] S Z) : la_cv (ax_ai Z 32 0) = la_cv (ax_ai S 32 0) := by rw [la_fr_let h]
theorem la_answer {y m p n : Nat} {x : Int32} {S : AS} {v : la_T} (h2 : m ≤ 241) (hk : la_ok 40 v) (ha : la_at S y p (la_cd v ++ [(13, 0)])) (hm : ax_fi S 5 y 2 = Int32.ofNat m) (hl : p + (la_cd v).length + 1 ≤ m) (hx : x ≤ Int32.ofNat p) (ht : ax_fi S 5 y 3 = Int32.ofNat 0) : ∃ Z, ax_fr [(4, 31, 0), (0, 5, 3)] S Z ∧ f_X5_worth_32x0_L9 (n + 1 + (la_cd v).length) y x (Int32.ofNat p) S = some (la_ev (ax_ai S 32 0) v, Z) := by
  have h1 := hk.1
  obtain ⟨Z, z1, z2⟩ := hk.2 y m x h2 p 0 S (la_at_l ha) hm (by omega) hx ht (by omega)
  have a0 := la_at_fr z1.fr (la_at_r ha) 0 (by show 0 < 1; omega)
  have hx2 : x ≤ Int32.ofNat (p + (la_cd v).length) := Int32.le_trans hx ((la_le (by omega) (by omega)).mpr (by omega))
  have w : la_W Z y (p + (la_cd v).length) m x 13 0 := ⟨la_fr_len z1.fr hm, by omega, h2, hx2, a0.1, a0.2⟩
  refine ⟨ax_sfi Z 5 y 3 (Int32.ofNat 0), z1.fr.tr (ax_fr_sfi (by decide)), ?_⟩
  rw [z2, la_w_ans w, la_pop z1.top (by omega), z1.val]
theorem la_worth {y m : Nat} (h2 : m ≤ 241) : ∀ (cs : List la_C) (p n : Nat) (x : Int32) (S : AS), la_kk cs → la_at S y p (la_cc p cs) → ax_fi S 5 y 2 = Int32.ofNat m → p + (la_cc p cs).length = m → x ≤ Int32.ofNat p → ax_fi S 5 y 3 = Int32.ofNat 0 → m < n + p → ∃ Z, ax_fr [(4, 31, 0), (0, 5, 3)] S Z ∧ f_X5_worth_32x0_L9 n y x (Int32.ofNat p) S = some (la_cv (ax_ai S 32 0) cs, Z)
  | [], p, n, x, S, _, _, hm, hl, _, _, hn => by
    have hl' : p = m := hl
    subst hl'
    obtain ⟨k, rfl⟩ : ∃ k, n = k + 1 := ⟨n - 1, by omega⟩
    refine ⟨S, ax_fr.rf, ?_⟩
    rw [f_X5_worth_32x0_L9, hm, if_pos ((la_le (by omega) (by omega)).mpr (Nat.le_refl _))]; rfl
  | (none, v) :: r, p, n, x, S, hk, ha, hm, hl, hx, ht, hn => by
    have k1 : la_ok 40 v := hk (none, v) List.mem_cons_self
    have e1 : (la_cc p ((none, v) :: r)).length = (la_cd v).length + 1 + (la_cc (p + (la_c1 p (none, v)).length) r).length := by simp only [la_cc, la_c1, List.length_append, List.length_cons, List.length_nil]
    obtain ⟨k, rfl⟩ : ∃ k, n = k + 1 + (la_cd v).length := ⟨n - 1 - (la_cd v).length, by omega⟩
    exact la_answer h2 k1 (la_at_l ha) hm (by omega) hx ht
  | (some c, v) :: r, p, n, x, S, hk, ha, hm, hl, hx, ht, hn => by
    have k1 : la_ok 40 c ∧ la_ok 40 v := hk (some c, v) List.mem_cons_self
    have e0 : (la_c1 p (some c, v)).length = (la_cd c).length + (1 + ((la_cd v).length + 1)) := by simp only [la_c1, List.length_append, List.length_cons, List.length_nil]; omega
    have e1 : (la_cc p ((some c, v) :: r)).length = (la_c1 p (some c, v)).length + (la_cc (p + (la_c1 p (some c, v)).length) r).length := by simp only [la_cc, List.length_append]
    have h1 := k1.1.1
    have a1 : la_at S y p (la_c1 p (some c, v)) := la_at_l ha
    obtain ⟨Z, z1, z2⟩ := k1.1.2 y m x h2 p 0 S (la_at_l a1) hm (by omega) hx ht (by omega)
    have a2 := la_at_fr z1.fr (la_at_r a1)
    have a0 := a2 0 (by simp only [List.length_cons]; omega)
    have hx2 : x ≤ Int32.ofNat (p + (la_cd c).length) := Int32.le_trans hx ((la_le (by omega) (by omega)).mpr (by omega))
    have w : la_W Z y (p + (la_cd c).length) m x 12 (Int32.ofNat (p + (la_cd c).length + 1 + (la_cd v).length + 1)) := ⟨la_fr_len z1.fr hm, by omega, h2, hx2, a0.1, a0.2⟩
    have fz : ax_fr [(4, 31, 0), (0, 5, 3)] S (ax_sfi Z 5 y 3 (Int32.ofNat 0)) := z1.fr.tr (ax_fr_sfi (by decide))
    have hx3 : x ≤ Int32.ofNat (p + (la_cd c).length + 1) := Int32.le_trans hx ((la_le (by omega) (by omega)).mpr (by omega))
    obtain ⟨k, rfl⟩ : ∃ k, n = k + 1 + (la_cd v).length + 1 + (la_cd c).length := ⟨n - (la_cd c).length - 1 - (la_cd v).length - 1, by omega⟩
    rw [z2, la_w_unl w, la_pop z1.top (by omega), ax_bu_s, z1.val]
    by_cases h0 : la_ev (ax_ai S 32 0) c = 0
    · rw [if_pos h0]
      have hlen := la_fr_len fz hm
      obtain ⟨Y, y1, y2⟩ := la_worth h2 r (p + (la_cd c).length + 1 + (la_cd v).length + 1) k (Int32.ofNat (p + (la_cd c).length + 1 + (la_cd v).length + 1)) (ax_sfi Z 5 y 3 (Int32.ofNat 0)) (fun c' h' => hk c' (List.mem_cons_of_mem _ h'))
        (by have := la_at_fr fz (la_at_r ha); rw [e0, (by omega : p + ((la_cd c).length + (1 + ((la_cd v).length + 1))) = p + (la_cd c).length + 1 + (la_cd v).length + 1)] at this; exact this)
        hlen (by rw [e1, e0, (by omega : p + ((la_cd c).length + (1 + ((la_cd v).length + 1))) = p + (la_cd c).length + 1 + (la_cd v).length + 1)] at hl; omega) (Int32.le_refl _) la_fi_s (by omega)
      refine ⟨Y, fz.tr y1, ?_⟩
      rw [(by omega : k + 1 + (la_cd v).length = k + ((la_cd v).length + 1)), la_skip hlen h2 (by omega) ((la_cd v).length + 1) _ _ (by omega), y2, la_cvfr fz]
      simp only [la_cv, if_pos h0]
    · rw [if_neg h0]
      have a3 : la_at S y (p + (la_cd c).length + 1) (la_cd v ++ [(13, 0)]) := fun j hj => by
        have := la_at_r a1 (j + 1) (by simp only [List.length_cons]; omega)
        rw [List.getElem_cons_succ, (by omega : p + (la_cd c).length + (j + 1) = p + (la_cd c).length + 1 + j)] at this
        exact this
      obtain ⟨Y, y1, y2⟩ := la_answer (n := k) h2 k1.2 (la_at_fr fz a3) (la_fr_len fz hm) (by omega) hx3 la_fi_s
      refine ⟨Y, fz.tr y1, ?_⟩
      rw [y2, la_fr_let fz]
      simp only [la_cv, if_neg h0]
/-- law y holds the code of cs -/
def la_H (S : AS) (y : Nat) (cs : List la_C) : Prop := (la_kk cs) ∧ (la_at S y 0 (la_cc 0 cs)) ∧ (ax_fi S 5 y 2 = Int32.ofNat (la_cc 0 cs).length) ∧ ((la_cc 0 cs).length ≤ 241)
theorem la_H.ok {S : AS} {y : Nat} {cs : List la_C} (h : la_H S y cs) : la_kk cs := h.1
theorem la_H.cd {S : AS} {y : Nat} {cs : List la_C} (h : la_H S y cs) : la_at S y 0 (la_cc 0 cs) := h.2.1
theorem la_H.ln {S : AS} {y : Nat} {cs : List la_C} (h : la_H S y cs) : ax_fi S 5 y 2 = Int32.ofNat (la_cc 0 cs).length := h.2.2.1
theorem la_H.le {S : AS} {y : Nat} {cs : List la_C} (h : la_H S y cs) : (la_cc 0 cs).length ≤ 241 := h.2.2.2
theorem la_worthS {S : AS} {y : Nat} {cs : List la_C} (h : la_H S y cs) : ∃ Z, ax_fr [(4, 31, 0), (0, 5, 3)] S Z ∧ f_X5_worth_32x0 y S = some (la_cv (ax_ai S 32 0) cs, Z) := by
  have hf : ax_fr [(4, 31, 0), (0, 5, 3)] S (ax_sfi S 5 y 3 (0 : Int32)) := ax_fr_sfi (by decide)
  have hle := h.le
  obtain ⟨Z, z1, z2⟩ := la_worth h.le cs 0 ax_F 0 (ax_sfi S 5 y 3 (0 : Int32)) h.ok (la_at_fr hf h.cd) (la_fr_len hf h.ln) (Nat.zero_add _) (Int32.le_refl _) la_fi_s (by show _ < 1000000 + 0; omega)
  exact ⟨Z, hf.tr z1, z2.trans (by rw [la_cvfr hf])⟩

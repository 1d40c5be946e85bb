/-! METHODS as functions, by program (wip/whole/ext.py) -/
def ax_F : Nat := 1000000
def ax_on {α β : Type} (o : Option α) (x : β) (f : α → β) : β := match o with
  | none => x
  | some a => f a
def ax_bu {α β γ : Type} (x : Option (α × β)) (f : α → β → Option γ) : Option γ := x.bind (fun q => f q.1 q.2)
theorem ax_bu_e {α β γ : Type} {x : Option (α × β)} {f : α → β → Option γ} {r : γ} (h : ax_bu x f = some r) : ∃ a b, x = some (a, b) ∧ f a b = some r := by
  obtain ⟨⟨a, b⟩, h1, h2⟩ := Option.bind_eq_some_iff.mp h
  exact ⟨a, b, h1, h2⟩
theorem ax_bu_s {α β γ : Type} {a : α} {b : β} {f : α → β → Option γ} : ax_bu (some (a, b)) f = f a b := rfl

def f_X10_size (S : AS) : Option (Int32 × AS) := some ((ax_fi S 10 0 1), S)
set_option maxRecDepth 100000 in
theorem t_X10_size {l : Launch} {S Z : AS} {r : Int32} (h : f_X10_size S = some (r, Z)) : ax_M l 0 ma_X10_size [.inr (10, 0)] S (some (.inl (.int r))) Z := by
  unfold f_X10_size at h
  show ax_T l 0 ma_X10_size (0, [some (.inr (10, 0))], [], S) (some (.inl (.int r))) Z
  refine ax_Tgo [.aload_n 0, .getfield 15] (pc' := 4) (L' := [some (.inr (10, 0))]) (st' := [.inl (.int (ax_fi S 10 0 1))]) (S' := S) ok_X10_size (by decide +kernel) rfl rfl ?_
  cases h
  exact ax_Treti (by decide +kernel) rfl rfl
def f_X10_failed (S : AS) : Option (Int32 × AS) := (if (ax_fi S 10 0 3) = (-1 : Int32) then some ((0 : Int32), S) else some ((1 : Int32), S))
set_option maxRecDepth 100000 in
theorem t_X10_failed {l : Launch} {S Z : AS} {r : Int32} (h : f_X10_failed S = some (r, Z)) : ax_M l 0 ma_X10_failed [.inr (10, 0)] S (some (.inl (.int r))) Z := by
  unfold f_X10_failed at h
  show ax_T l 0 ma_X10_failed (0, [some (.inr (10, 0))], [], S) (some (.inl (.int r))) Z
  refine ax_Tgo [.aload_n 0, .getfield 22, .iconst (-1)] (pc' := 5) (L' := [some (.inr (10, 0))]) (st' := [.inl (.int (-1 : Int32)), .inl (.int (ax_fi S 10 0 3))]) (S' := S) ok_X10_failed (by decide +kernel) rfl rfl ?_
  refine ax_Tic_eq (off := 7) (tgt := 12) (by decide +kernel) (by decide) (fun c1 => ?_) (fun c1 => ?_)
  · rw [if_pos c1] at h
    refine ax_Tgo [.iconst 0] (pc' := 13) (L' := [some (.inr (10, 0))]) (st' := [.inl (.int (0 : Int32))]) (S' := S) ok_X10_failed (by decide +kernel) rfl rfl ?_
    cases h
    exact ax_Treti (by decide +kernel) rfl rfl
  · rw [if_neg c1] at h
    refine ax_Tgo [.iconst 1] (pc' := 9) (L' := [some (.inr (10, 0))]) (st' := [.inl (.int (1 : Int32))]) (S' := S) ok_X10_failed (by decide +kernel) rfl rfl ?_
    refine ax_Tgoto (off := 4) (tgt := 13) (by decide +kernel) (by decide) ?_
    cases h
    exact ax_Treti (by decide +kernel) rfl rfl
def f_X10_cut (a1 : Int32) (S : AS) : Option (Int32 × AS) := (if a1 < (0 : Int32) then some ((0 : Int32), S) else (if a1 ≤ (ax_fi S 10 0 1) then ax_let (ax_sfi S 10 0 1 a1) (fun (S3 : AS) => some ((1 : Int32), S3)) else some ((0 : Int32), S)))
set_option maxRecDepth 100000 in
theorem t_X10_cut {l : Launch} {a1 : Int32} {S Z : AS} {r : Int32} (h : f_X10_cut a1 S = some (r, Z)) : ax_M l 0 ma_X10_cut [.inr (10, 0), .inl (.int a1)] S (some (.inl (.int r))) Z := by
  unfold f_X10_cut at h
  show ax_T l 0 ma_X10_cut (0, [some (.inr (10, 0)), some (.inl (.int a1))], [], S) (some (.inl (.int r))) Z
  refine ax_Tgo [.iload_n 1] (pc' := 1) (L' := [some (.inr (10, 0)), some (.inl (.int a1))]) (st' := [.inl (.int a1)]) (S' := S) ok_X10_cut (by decide +kernel) rfl rfl ?_
  refine ax_Tif_lt (off := 11) (tgt := 12) (by decide +kernel) (by decide) (fun c1 => ?_) (fun c1 => ?_)
  · rw [if_pos c1] at h
    refine ax_Tgo [.iconst 0] (pc' := 13) (L' := [some (.inr (10, 0)), some (.inl (.int a1))]) (st' := [.inl (.int (0 : Int32))]) (S' := S) ok_X10_cut (by decide +kernel) rfl rfl ?_
    cases h
    exact ax_Treti (by decide +kernel) rfl rfl
  · rw [if_neg c1] at h
    refine ax_Tgo [.iload_n 1, .aload_n 0, .getfield 15] (pc' := 9) (L' := [some (.inr (10, 0)), some (.inl (.int a1))]) (st' := [.inl (.int (ax_fi S 10 0 1)), .inl (.int a1)]) (S' := S) ok_X10_cut (by decide +kernel) rfl rfl ?_
    refine ax_Tic_le (off := 5) (tgt := 14) (by decide +kernel) (by decide) (fun c2 => ?_) (fun c2 => ?_)
    · rw [if_pos c2] at h
      refine ax_Tgo [.aload_n 0, .iload_n 1, .putfield 15] (pc' := 19) (L' := [some (.inr (10, 0)), some (.inl (.int a1))]) (st' := []) (S' := (ax_sfi S 10 0 1 a1)) ok_X10_cut (by decide +kernel) rfl rfl ?_
      obtain ⟨S3, eS3, h⟩ := ax_let_e h
      rw [eS3]
      refine ax_Tgo [.iconst 1] (pc' := 20) (L' := [some (.inr (10, 0)), some (.inl (.int a1))]) (st' := [.inl (.int (1 : Int32))]) (S' := S3) ok_X10_cut (by decide +kernel) rfl rfl ?_
      cases h
      exact ax_Treti (by decide +kernel) rfl rfl
    · rw [if_neg c2] at h
      refine ax_Tgo [.iconst 0] (pc' := 13) (L' := [some (.inr (10, 0)), some (.inl (.int a1))]) (st' := [.inl (.int (0 : Int32))]) (S' := S) ok_X10_cut (by decide +kernel) rfl rfl ?_
      cases h
      exact ax_Treti (by decide +kernel) rfl rfl
def f_X10_signsOf_L5 (K33 : Int32 → AS → Option (Int32 × AS)) : Nat → Int32 → Int32 → Int32 → AS → Option (Int32 × AS)
  | 0, _, _, _, _ => none
  | n + 1, x1, x2, x3, S5 => (if x3 < (0 : Int32) then K33 x2 S5 else (if ((x1.toUInt32 >>> (x3.toUInt32 &&& Int32.toUInt32 31)).toInt32 &&& (255 : Int32)) = (0 : Int32) then ax_let (x2 + (0 : Int32)) (fun (v8 : Int32) => ax_let (x3 + (Int32.ofInt (-8))) (fun (v9 : Int32) => f_X10_signsOf_L5 K33 n x1 v8 v9 S5)) else ax_let (x2 + (1 : Int32)) (fun (v10 : Int32) => ax_let (x3 + (Int32.ofInt (-8))) (fun (v11 : Int32) => f_X10_signsOf_L5 K33 n x1 v10 v11 S5))))
def f_X10_signsOf (a0 : Int32) (S : AS) : Option (Int32 × AS) := f_X10_signsOf_L5 (fun (x4 : Int32) (S12 : AS) => some (x4, S12)) ax_F a0 (0 : Int32) (24 : Int32) S
set_option maxRecDepth 100000 in
theorem t_X10_signsOf_L5 {l : Launch} {K33 : Int32 → AS → Option (Int32 × AS)} (hK33 : ∀ (x4 : Int32) (S : AS) r Z, K33 x4 S = some (r, Z) → ax_T l 0 ma_X10_signsOf (33, [none, some (.inl (.int x4)), none], [], S) (some (.inl (.int r))) Z) : ∀ (n : Nat) (x1 : Int32) (x2 : Int32) (x3 : Int32) (S5 : AS) r Z, f_X10_signsOf_L5 K33 n x1 x2 x3 S5 = some (r, Z) → ax_T l 0 ma_X10_signsOf (5, [some (.inl (.int x1)), some (.inl (.int x2)), some (.inl (.int x3))], [], S5) (some (.inl (.int r))) Z := by
  intro n
  induction n with
  | zero =>
    intro x1 x2 x3 S5 r Z h
    cases h
  | succ n ih =>
    intro x1 x2 x3 S5 r Z h
    unfold f_X10_signsOf_L5 at h
    refine ax_Tgo [.iload_n 2] (pc' := 6) (L' := [some (.inl (.int x1)), some (.inl (.int x2)), some (.inl (.int x3))]) (st' := [.inl (.int x3)]) (S' := S5) ok_X10_signsOf (by decide +kernel) rfl rfl ?_
    refine ax_Tif_lt (off := 27) (tgt := 33) (by decide +kernel) (by decide) (fun c6 => ?_) (fun c6 => ?_)
    · rw [if_pos c6] at h
      refine ax_Tdrop [false, true, false] (L' := [none, some (.inl (.int x2)), none]) rfl ?_
      exact hK33 x2 S5 _ _ h
    · rw [if_neg c6] at h
      refine ax_Tgo [.iload_n 1, .iload_n 0, .iload_n 2, .iushr, .sipush 255, .iand] (pc' := 17) (L' := [some (.inl (.int x1)), some (.inl (.int x2)), some (.inl (.int x3))]) (st' := [.inl (.int ((x1.toUInt32 >>> (x3.toUInt32 &&& Int32.toUInt32 31)).toInt32 &&& (255 : Int32))), .inl (.int x2)]) (S' := S5) ok_X10_signsOf (by decide +kernel) rfl rfl ?_
      refine ax_Tif_eq (off := 7) (tgt := 24) (by decide +kernel) (by decide) (fun c7 => ?_) (fun c7 => ?_)
      · rw [if_pos c7] at h
        refine ax_Tgo [.iconst 0, .iadd, .istore_n 1] (pc' := 27) (L' := [some (.inl (.int x1)), some (.inl (.int (x2 + (0 : Int32)))), some (.inl (.int x3))]) (st' := []) (S' := S5) ok_X10_signsOf (by decide +kernel) rfl rfl ?_
        obtain ⟨v8, ev8, h⟩ := ax_let_e h
        rw [ev8]
        refine ax_Tgo [.iinc 2 (-8)] (pc' := 30) (L' := [some (.inl (.int x1)), some (.inl (.int v8)), some (.inl (.int (x3 + (Int32.ofInt (-8)))))]) (st' := []) (S' := S5) ok_X10_signsOf (by decide +kernel) rfl rfl ?_
        obtain ⟨v9, ev9, h⟩ := ax_let_e h
        rw [ev9]
        refine ax_Tgoto (off := (-25)) (tgt := 5) (by decide +kernel) (by decide) ?_
        exact ih x1 v8 v9 S5 _ _ h
      · rw [if_neg c7] at h
        refine ax_Tgo [.iconst 1] (pc' := 21) (L' := [some (.inl (.int x1)), some (.inl (.int x2)), some (.inl (.int x3))]) (st' := [.inl (.int (1 : Int32)), .inl (.int x2)]) (S' := S5) ok_X10_signsOf (by decide +kernel) rfl rfl ?_
        refine ax_Tgoto (off := 4) (tgt := 25) (by decide +kernel) (by decide) ?_
        refine ax_Tgo [.iadd, .istore_n 1] (pc' := 27) (L' := [some (.inl (.int x1)), some (.inl (.int (x2 + (1 : Int32)))), some (.inl (.int x3))]) (st' := []) (S' := S5) ok_X10_signsOf (by decide +kernel) rfl rfl ?_
        obtain ⟨v10, ev10, h⟩ := ax_let_e h
        rw [ev10]
        refine ax_Tgo [.iinc 2 (-8)] (pc' := 30) (L' := [some (.inl (.int x1)), some (.inl (.int v10)), some (.inl (.int (x3 + (Int32.ofInt (-8)))))]) (st' := []) (S' := S5) ok_X10_signsOf (by decide +kernel) rfl rfl ?_
        obtain ⟨v11, ev11, h⟩ := ax_let_e h
        rw [ev11]
        refine ax_Tgoto (off := (-25)) (tgt := 5) (by decide +kernel) (by decide) ?_
        exact ih x1 v10 v11 S5 _ _ h
set_option maxRecDepth 100000 in
theorem t_X10_signsOf {l : Launch} {a0 : Int32} {S Z : AS} {r : Int32} (h : f_X10_signsOf a0 S = some (r, Z)) : ax_M l 0 ma_X10_signsOf [.inl (.int a0)] S (some (.inl (.int r))) Z := by
  unfold f_X10_signsOf at h
  show ax_T l 0 ma_X10_signsOf (0, [some (.inl (.int a0)), none, none], [], S) (some (.inl (.int r))) Z
  refine ax_Tgo [.iconst 0, .istore_n 1, .bipush 24, .istore_n 2] (pc' := 5) (L' := [some (.inl (.int a0)), some (.inl (.int (0 : Int32))), some (.inl (.int (24 : Int32)))]) (st' := []) (S' := S) ok_X10_signsOf (by decide +kernel) rfl rfl ?_
  refine t_X10_signsOf_L5 ?_ _ a0 (0 : Int32) (24 : Int32) S _ _ h
  · intro x4 S12 r Z h
    refine ax_Tgo [.iload_n 1] (pc' := 34) (L' := [none, some (.inl (.int x4)), none]) (st' := [.inl (.int x4)]) (S' := S12) ok_X10_signsOf (by decide +kernel) rfl rfl ?_
    cases h
    exact ax_Treti (by decide +kernel) rfl rfl
def f_X10_put_L3 (K55 : AS → Option (AS)) : Nat → Int32 → Int32 → AS → Option (AS)
  | 0, _, _, _ => none
  | n + 1, x1, x2, S3 => (if x2 < (0 : Int32) then K55 S3 else ax_let ((x1.toUInt32 >>> (x2.toUInt32 &&& Int32.toUInt32 31)).toInt32 &&& (255 : Int32)) (fun (v5 : Int32) => (if v5 = (0 : Int32) then ax_let (x2 + (Int32.ofInt (-8))) (fun (v7 : Int32) => f_X10_put_L3 K55 n x1 v7 S3) else (if (240 : Int32) ≤ (ax_fi S3 10 0 1) then ax_let (x2 + (Int32.ofInt (-8))) (fun (v9 : Int32) => f_X10_put_L3 K55 n x1 v9 S3) else ax_gd (ax_in (ax_fi S3 10 0 1) 240) (ax_let (ax_sai S3 40 0 (ax_fi S3 10 0 1).toNatClampNeg v5) (fun (S11 : AS) => ax_let (ax_sfi S11 10 0 1 ((ax_fi S11 10 0 1) + (1 : Int32))) (fun (S12 : AS) => ax_let (x2 + (Int32.ofInt (-8))) (fun (v13 : Int32) => f_X10_put_L3 K55 n x1 v13 S12))))))))
def f_X10_put (a1 : Int32) (S : AS) : Option (AS) := f_X10_put_L3 (fun (S14 : AS) => some S14) ax_F a1 (24 : Int32) S
set_option maxRecDepth 100000 in
theorem t_X10_put_L3 {l : Launch} {K55 : AS → Option (AS)} (hK55 : ∀ (S : AS) Z, K55 S = some Z → ax_T l 0 ma_X10_put (55, [none, none, none, none], [], S) none Z) : ∀ (n : Nat) (x1 : Int32) (x2 : Int32) (S3 : AS) Z, f_X10_put_L3 K55 n x1 x2 S3 = some Z → ax_T l 0 ma_X10_put (3, [some (.inr (10, 0)), some (.inl (.int x1)), some (.inl (.int x2)), none], [], S3) none Z := by
  intro n
  induction n with
  | zero =>
    intro x1 x2 S3 Z h
    cases h
  | succ n ih =>
    intro x1 x2 S3 Z h
    unfold f_X10_put_L3 at h
    refine ax_Tgo [.iload_n 2] (pc' := 4) (L' := [some (.inr (10, 0)), some (.inl (.int x1)), some (.inl (.int x2)), none]) (st' := [.inl (.int x2)]) (S' := S3) ok_X10_put (by decide +kernel) rfl rfl ?_
    refine ax_Tif_lt (off := 51) (tgt := 55) (by decide +kernel) (by decide) (fun c4 => ?_) (fun c4 => ?_)
    · rw [if_pos c4] at h
      refine ax_Tdrop [false, false, false, true] (L' := [none, none, none, none]) rfl ?_
      exact hK55 S3 _ h
    · rw [if_neg c4] at h
      refine ax_Tgo [.iload_n 1, .iload_n 2, .iushr, .sipush 255, .iand, .istore_n 3] (pc' := 15) (L' := [some (.inr (10, 0)), some (.inl (.int x1)), some (.inl (.int x2)), some (.inl (.int ((x1.toUInt32 >>> (x2.toUInt32 &&& Int32.toUInt32 31)).toInt32 &&& (255 : Int32))))]) (st' := []) (S' := S3) ok_X10_put (by decide +kernel) rfl rfl ?_
      obtain ⟨v5, ev5, h⟩ := ax_let_e h
      rw [ev5]
      refine ax_Tgo [.iload_n 3] (pc' := 16) (L' := [some (.inr (10, 0)), some (.inl (.int x1)), some (.inl (.int x2)), some (.inl (.int v5))]) (st' := [.inl (.int v5)]) (S' := S3) ok_X10_put (by decide +kernel) rfl rfl ?_
      refine ax_Tif_eq (off := 33) (tgt := 49) (by decide +kernel) (by decide) (fun c6 => ?_) (fun c6 => ?_)
      · rw [if_pos c6] at h
        refine ax_Tgo [.iinc 2 (-8)] (pc' := 52) (L' := [some (.inr (10, 0)), some (.inl (.int x1)), some (.inl (.int (x2 + (Int32.ofInt (-8))))), some (.inl (.int v5))]) (st' := []) (S' := S3) ok_X10_put (by decide +kernel) rfl rfl ?_
        obtain ⟨v7, ev7, h⟩ := ax_let_e h
        rw [ev7]
        refine ax_Tgoto (off := (-49)) (tgt := 3) (by decide +kernel) (by decide) ?_
        refine ax_Tdrop [true, true, true, false] (L' := [some (.inr (10, 0)), some (.inl (.int x1)), some (.inl (.int v7)), none]) rfl ?_
        exact ih x1 v7 S3 _ h
      · rw [if_neg c6] at h
        refine ax_Tgo [.aload_n 0, .getfield 15, .sipush 240] (pc' := 26) (L' := [some (.inr (10, 0)), some (.inl (.int x1)), some (.inl (.int x2)), some (.inl (.int v5))]) (st' := [.inl (.int (240 : Int32)), .inl (.int (ax_fi S3 10 0 1))]) (S' := S3) ok_X10_put (by decide +kernel) rfl rfl ?_
        refine ax_Tic_ge (off := 23) (tgt := 49) (by decide +kernel) (by decide) (fun c8 => ?_) (fun c8 => ?_)
        · rw [if_pos c8] at h
          refine ax_Tgo [.iinc 2 (-8)] (pc' := 52) (L' := [some (.inr (10, 0)), some (.inl (.int x1)), some (.inl (.int (x2 + (Int32.ofInt (-8))))), some (.inl (.int v5))]) (st' := []) (S' := S3) ok_X10_put (by decide +kernel) rfl rfl ?_
          obtain ⟨v9, ev9, h⟩ := ax_let_e h
          rw [ev9]
          refine ax_Tgoto (off := (-49)) (tgt := 3) (by decide +kernel) (by decide) ?_
          refine ax_Tdrop [true, true, true, false] (L' := [some (.inr (10, 0)), some (.inl (.int x1)), some (.inl (.int v9)), none]) rfl ?_
          exact ih x1 v9 S3 _ h
        · rw [if_neg c8] at h
          refine ax_Tgo [.aload_n 0, .getfield 11, .aload_n 0, .getfield 15, .iload_n 3] (pc' := 38) (L' := [some (.inr (10, 0)), some (.inl (.int x1)), some (.inl (.int x2)), some (.inl (.int v5))]) (st' := [.inl (.int v5), .inl (.int (ax_fi S3 10 0 1)), .inr (40, 0)]) (S' := S3) ok_X10_put (by decide +kernel) rfl rfl ?_
          obtain ⟨g10, h⟩ := ax_gd_e h
          refine ax_Tasi (n := 240) ok_X10_put (by decide +kernel) (by decide) rfl g10 ?_
          obtain ⟨S11, eS11, h⟩ := ax_let_e h
          rw [eS11]
          refine ax_Tgo [.aload_n 0, .dup, .getfield 15, .iconst 1, .iadd, .putfield 15] (pc' := 49) (L' := [some (.inr (10, 0)), some (.inl (.int x1)), some (.inl (.int x2)), some (.inl (.int v5))]) (st' := []) (S' := (ax_sfi S11 10 0 1 ((ax_fi S11 10 0 1) + (1 : Int32)))) ok_X10_put (by decide +kernel) rfl rfl ?_
          obtain ⟨S12, eS12, h⟩ := ax_let_e h
          rw [eS12]
          refine ax_Tgo [.iinc 2 (-8)] (pc' := 52) (L' := [some (.inr (10, 0)), some (.inl (.int x1)), some (.inl (.int (x2 + (Int32.ofInt (-8))))), some (.inl (.int v5))]) (st' := []) (S' := S12) ok_X10_put (by decide +kernel) rfl rfl ?_
          obtain ⟨v13, ev13, h⟩ := ax_let_e h
          rw [ev13]
          refine ax_Tgoto (off := (-49)) (tgt := 3) (by decide +kernel) (by decide) ?_
          refine ax_Tdrop [true, true, true, false] (L' := [some (.inr (10, 0)), some (.inl (.int x1)), some (.inl (.int v13)), none]) rfl ?_
          exact ih x1 v13 S12 _ h
set_option maxRecDepth 100000 in
theorem t_X10_put {l : Launch} {a1 : Int32} {S Z : AS} (h : f_X10_put a1 S = some Z) : ax_M l 0 ma_X10_put [.inr (10, 0), .inl (.int a1)] S none Z := by
  unfold f_X10_put at h
  show ax_T l 0 ma_X10_put (0, [some (.inr (10, 0)), some (.inl (.int a1)), none, none], [], S) none Z
  refine ax_Tgo [.bipush 24, .istore_n 2] (pc' := 3) (L' := [some (.inr (10, 0)), some (.inl (.int a1)), some (.inl (.int (24 : Int32))), none]) (st' := []) (S' := S) ok_X10_put (by decide +kernel) rfl rfl ?_
  refine t_X10_put_L3 ?_ _ a1 (24 : Int32) S _ h
  · intro S14 Z h
    cases h
    exact ax_Tretv (by decide +kernel) rfl
def f_X10_peek_L10 (K48 : AS → Option (Int32 × AS)) : Nat → AS → Option (Int32 × AS)
  | 0, _ => none
  | n + 1, S2 => (if (ax_fi S2 10 0 1) ≤ (ax_fi S2 10 0 2) then K48 S2 else ax_gd (ax_in (ax_fi S2 10 0 2) 240) ((if (ax_ai S2 40 0 (ax_fi S2 10 0 2).toNatClampNeg) = (32 : Int32) then ax_let (ax_sfi S2 10 0 2 ((ax_fi S2 10 0 2) + (1 : Int32))) (fun (S6 : AS) => f_X10_peek_L10 K48 n S6) else K48 S2)))
def f_X10_peek (S : AS) : Option (Int32 × AS) := (if (ax_fi S 10 0 3) = (-1 : Int32) then f_X10_peek_L10 (fun (S7 : AS) => (if (ax_fi S7 10 0 1) ≤ (ax_fi S7 10 0 2) then some ((0 : Int32), S7) else ax_gd (ax_in (ax_fi S7 10 0 2) 240) (some ((ax_ai S7 40 0 (ax_fi S7 10 0 2).toNatClampNeg), S7)))) ax_F S else some ((0 : Int32), S))
set_option maxRecDepth 100000 in
theorem t_X10_peek_L10 {l : Launch} {K48 : AS → Option (Int32 × AS)} (hK48 : ∀ (S : AS) r Z, K48 S = some (r, Z) → ax_T l 0 ma_X10_peek (48, [some (.inr (10, 0))], [], S) (some (.inl (.int r))) Z) : ∀ (n : Nat) (S2 : AS) r Z, f_X10_peek_L10 K48 n S2 = some (r, Z) → ax_T l 0 ma_X10_peek (10, [some (.inr (10, 0))], [], S2) (some (.inl (.int r))) Z := by
  intro n
  induction n with
  | zero =>
    intro S2 r Z h
    cases h
  | succ n ih =>
    intro S2 r Z h
    unfold f_X10_peek_L10 at h
    refine ax_Tgo [.aload_n 0, .getfield 19, .aload_n 0, .getfield 15] (pc' := 18) (L' := [some (.inr (10, 0))]) (st' := [.inl (.int (ax_fi S2 10 0 1)), .inl (.int (ax_fi S2 10 0 2))]) (S' := S2) ok_X10_peek (by decide +kernel) rfl rfl ?_
    refine ax_Tic_ge (off := 30) (tgt := 48) (by decide +kernel) (by decide) (fun c3 => ?_) (fun c3 => ?_)
    · rw [if_pos c3] at h
      exact hK48 S2 _ _ h
    · rw [if_neg c3] at h
      refine ax_Tgo [.aload_n 0, .getfield 11, .aload_n 0, .getfield 19] (pc' := 29) (L' := [some (.inr (10, 0))]) (st' := [.inl (.int (ax_fi S2 10 0 2)), .inr (40, 0)]) (S' := S2) ok_X10_peek (by decide +kernel) rfl rfl ?_
      obtain ⟨g4, h⟩ := ax_gd_e h
      refine ax_Tali (n := 240) ok_X10_peek (by decide +kernel) (by decide) rfl g4 ?_
      refine ax_Tgo [.bipush 32] (pc' := 32) (L' := [some (.inr (10, 0))]) (st' := [.inl (.int (32 : Int32)), .inl (.int (ax_ai S2 40 0 (ax_fi S2 10 0 2).toNatClampNeg))]) (S' := S2) ok_X10_peek (by decide +kernel) rfl rfl ?_
      refine ax_Tic_ne (off := 16) (tgt := 48) (by decide +kernel) (by decide) (fun c5 => ?_) (fun c5 => ?_)
      · rw [if_neg c5] at h
        exact hK48 S2 _ _ h
      · rw [if_pos c5] at h
        refine ax_Tgo [.aload_n 0, .dup, .getfield 19, .iconst 1, .iadd, .putfield 19] (pc' := 45) (L' := [some (.inr (10, 0))]) (st' := []) (S' := (ax_sfi S2 10 0 2 ((ax_fi S2 10 0 2) + (1 : Int32)))) ok_X10_peek (by decide +kernel) rfl rfl ?_
        obtain ⟨S6, eS6, h⟩ := ax_let_e h
        rw [eS6]
        refine ax_Tgoto (off := (-35)) (tgt := 10) (by decide +kernel) (by decide) ?_
        exact ih S6 _ _ h
set_option maxRecDepth 100000 in
theorem t_X10_peek {l : Launch} {S Z : AS} {r : Int32} (h : f_X10_peek S = some (r, Z)) : ax_M l 0 ma_X10_peek [.inr (10, 0)] S (some (.inl (.int r))) Z := by
  unfold f_X10_peek at h
  show ax_T l 0 ma_X10_peek (0, [some (.inr (10, 0))], [], S) (some (.inl (.int r))) Z
  refine ax_Tgo [.aload_n 0, .getfield 22, .iconst (-1)] (pc' := 5) (L' := [some (.inr (10, 0))]) (st' := [.inl (.int (-1 : Int32)), .inl (.int (ax_fi S 10 0 3))]) (S' := S) ok_X10_peek (by decide +kernel) rfl rfl ?_
  refine ax_Tic_eq (off := 5) (tgt := 10) (by decide +kernel) (by decide) (fun c1 => ?_) (fun c1 => ?_)
  · rw [if_pos c1] at h
    refine t_X10_peek_L10 ?_ _ S _ _ h
    · intro S7 r Z h
      refine ax_Tgo [.aload_n 0, .getfield 19, .aload_n 0, .getfield 15] (pc' := 56) (L' := [some (.inr (10, 0))]) (st' := [.inl (.int (ax_fi S7 10 0 1)), .inl (.int (ax_fi S7 10 0 2))]) (S' := S7) ok_X10_peek (by decide +kernel) rfl rfl ?_
      refine ax_Tic_ge (off := 15) (tgt := 71) (by decide +kernel) (by decide) (fun c8 => ?_) (fun c8 => ?_)
      · rw [if_pos c8] at h
        refine ax_Tgo [.iconst 0] (pc' := 72) (L' := [some (.inr (10, 0))]) (st' := [.inl (.int (0 : Int32))]) (S' := S7) ok_X10_peek (by decide +kernel) rfl rfl ?_
        cases h
        exact ax_Treti (by decide +kernel) rfl rfl
      · rw [if_neg c8] at h
        refine ax_Tgo [.aload_n 0, .getfield 11, .aload_n 0, .getfield 19] (pc' := 67) (L' := [some (.inr (10, 0))]) (st' := [.inl (.int (ax_fi S7 10 0 2)), .inr (40, 0)]) (S' := S7) ok_X10_peek (by decide +kernel) rfl rfl ?_
        obtain ⟨g9, h⟩ := ax_gd_e h
        refine ax_Tali (n := 240) ok_X10_peek (by decide +kernel) (by decide) rfl g9 ?_
        refine ax_Tgoto (off := 4) (tgt := 72) (by decide +kernel) (by decide) ?_
        cases h
        exact ax_Treti (by decide +kernel) rfl rfl
  · rw [if_neg c1] at h
    refine ax_Tgo [.iconst 0] (pc' := 9) (L' := [some (.inr (10, 0))]) (st' := [.inl (.int (0 : Int32))]) (S' := S) ok_X10_peek (by decide +kernel) rfl rfl ?_
    cases h
    exact ax_Treti (by decide +kernel) rfl rfl
def f_X10_pass (S : AS) : Option (AS) := (if (ax_fi S 10 0 1) ≤ (ax_fi S 10 0 2) then some S else ax_let (ax_sfi S 10 0 2 ((ax_fi S 10 0 2) + (1 : Int32))) (fun (S2 : AS) => some S2))
set_option maxRecDepth 100000 in
theorem t_X10_pass {l : Launch} {S Z : AS} (h : f_X10_pass S = some Z) : ax_M l 0 ma_X10_pass [.inr (10, 0)] S none Z := by
  unfold f_X10_pass at h
  show ax_T l 0 ma_X10_pass (0, [some (.inr (10, 0))], [], S) none Z
  refine ax_Tgo [.aload_n 0, .getfield 19, .aload_n 0, .getfield 15] (pc' := 8) (L' := [some (.inr (10, 0))]) (st' := [.inl (.int (ax_fi S 10 0 1)), .inl (.int (ax_fi S 10 0 2))]) (S' := S) ok_X10_pass (by decide +kernel) rfl rfl ?_
  refine ax_Tic_ge (off := 13) (tgt := 21) (by decide +kernel) (by decide) (fun c1 => ?_) (fun c1 => ?_)
  · rw [if_pos c1] at h
    cases h
    exact ax_Tretv (by decide +kernel) rfl
  · rw [if_neg c1] at h
    refine ax_Tgo [.aload_n 0, .dup, .getfield 19, .iconst 1, .iadd, .putfield 19] (pc' := 21) (L' := [some (.inr (10, 0))]) (st' := []) (S' := (ax_sfi S 10 0 2 ((ax_fi S 10 0 2) + (1 : Int32)))) ok_X10_pass (by decide +kernel) rfl rfl ?_
    obtain ⟨S2, eS2, h⟩ := ax_let_e h
    rw [eS2]
    cases h
    exact ax_Tretv (by decide +kernel) rfl
def f_X10_fail (S : AS) : Option (AS) := (if (ax_fi S 10 0 3) = (-1 : Int32) then ax_let (ax_sfi S 10 0 3 (ax_fi S 10 0 2)) (fun (S2 : AS) => some S2) else some S)
set_option maxRecDepth 100000 in
theorem t_X10_fail {l : Launch} {S Z : AS} (h : f_X10_fail S = some Z) : ax_M l 0 ma_X10_fail [.inr (10, 0)] S none Z := by
  unfold f_X10_fail at h
  show ax_T l 0 ma_X10_fail (0, [some (.inr (10, 0))], [], S) none Z
  refine ax_Tgo [.aload_n 0, .getfield 22, .iconst (-1)] (pc' := 5) (L' := [some (.inr (10, 0))]) (st' := [.inl (.int (-1 : Int32)), .inl (.int (ax_fi S 10 0 3))]) (S' := S) ok_X10_fail (by decide +kernel) rfl rfl ?_
  refine ax_Tic_ne (off := 11) (tgt := 16) (by decide +kernel) (by decide) (fun c1 => ?_) (fun c1 => ?_)
  · rw [if_neg c1] at h
    cases h
    exact ax_Tretv (by decide +kernel) rfl
  · rw [if_pos c1] at h
    refine ax_Tgo [.aload_n 0, .aload_n 0, .getfield 19, .putfield 22] (pc' := 16) (L' := [some (.inr (10, 0))]) (st' := []) (S' := (ax_sfi S 10 0 3 (ax_fi S 10 0 2))) ok_X10_fail (by decide +kernel) rfl rfl ?_
    obtain ⟨S2, eS2, h⟩ := ax_let_e h
    rw [eS2]
    cases h
    exact ax_Tretv (by decide +kernel) rfl
def f_X10_demand (a1 : Int32) (S : AS) : Option (AS) := ax_bu (f_X10_peek S) (fun (r4 : Int32) (S1 : AS) => (if r4 = a1 then (f_X10_pass S1).bind (fun (S9 : AS) => some S9) else (f_X10_fail S1).bind (fun (S6 : AS) => some S6)))
set_option maxRecDepth 100000 in
theorem t_X10_demand {l : Launch} {a1 : Int32} {S Z : AS} (h : f_X10_demand a1 S = some Z) : ax_M l 1 ma_X10_demand [.inr (10, 0), .inl (.int a1)] S none Z := by
  unfold f_X10_demand at h
  show ax_T l 1 ma_X10_demand (0, [some (.inr (10, 0)), some (.inl (.int a1))], [], S) none Z
  refine ax_Tgo [.aload_n 0] (pc' := 1) (L' := [some (.inr (10, 0)), some (.inl (.int a1))]) (st' := [.inr (10, 0)]) (S' := S) ok_X10_demand (by decide +kernel) rfl rfl ?_
  obtain ⟨r4, S1, hq2, h⟩ := ax_bu_e h
  refine ax_TVi (d := 0) (ka := 10) (i := 0) [] [] lk_X10_25 (by decide +kernel) rfl (by decide) rfl (Nat.le_of_ble_eq_true rfl) (Nat.le_of_ble_eq_true rfl) ((t_X10_peek hq2).up (by decide)) ?_
  refine ax_Tgo [.iload_n 1] (pc' := 5) (L' := [some (.inr (10, 0)), some (.inl (.int a1))]) (st' := [.inl (.int a1), .inl (.int r4)]) (S' := S1) ok_X10_demand (by decide +kernel) rfl rfl ?_
  refine ax_Tic_ne (off := 10) (tgt := 15) (by decide +kernel) (by decide) (fun c5 => ?_) (fun c5 => ?_)
  · rw [if_neg c5] at h
    refine ax_Tgo [.aload_n 0] (pc' := 16) (L' := [some (.inr (10, 0)), some (.inl (.int a1))]) (st' := [.inr (10, 0)]) (S' := S1) ok_X10_demand (by decide +kernel) rfl rfl ?_
    obtain ⟨S6, hq7, h⟩ := ax_bd_e h
    refine ax_TVv (d := 0) (ka := 10) (i := 0) [] [] lk_X10_32 (by decide +kernel) rfl (by decide) rfl (Nat.le_of_ble_eq_true rfl) (Nat.le_of_ble_eq_true rfl) ((t_X10_fail hq7).up (by decide)) ?_
    cases h
    exact ax_Tretv (by decide +kernel) rfl
  · rw [if_pos c5] at h
    refine ax_Tgo [.aload_n 0] (pc' := 9) (L' := [some (.inr (10, 0)), some (.inl (.int a1))]) (st' := [.inr (10, 0)]) (S' := S1) ok_X10_demand (by decide +kernel) rfl rfl ?_
    obtain ⟨S9, hq10, h⟩ := ax_bd_e h
    refine ax_TVv (d := 0) (ka := 10) (i := 0) [] [] lk_X10_29 (by decide +kernel) rfl (by decide) rfl (Nat.le_of_ble_eq_true rfl) (Nat.le_of_ble_eq_true rfl) ((t_X10_pass hq10).up (by decide)) ?_
    refine ax_Tgoto (off := 7) (tgt := 19) (by decide +kernel) (by decide) ?_
    cases h
    exact ax_Tretv (by decide +kernel) rfl
def f_X10_goesOn (S : AS) : Option (Int32 × AS) := ax_bu (f_X10_peek S) (fun (r4 : Int32) (S1 : AS) => (if r4 = (0 : Int32) then some ((0 : Int32), S1) else (f_X10_demand (59 : Int32) S1).bind (fun (S6 : AS) => ax_bu (f_X10_failed S6) (fun (r12 : Int32) (S9 : AS) => (if r12 = (0 : Int32) then some ((1 : Int32), S9) else some ((0 : Int32), S9))))))
set_option maxRecDepth 100000 in
theorem t_X10_goesOn {l : Launch} {S Z : AS} {r : Int32} (h : f_X10_goesOn S = some (r, Z)) : ax_M l 2 ma_X10_goesOn [.inr (10, 0)] S (some (.inl (.int r))) Z := by
  unfold f_X10_goesOn at h
  show ax_T l 2 ma_X10_goesOn (0, [some (.inr (10, 0)), none], [], S) (some (.inl (.int r))) Z
  refine ax_Tgo [.aload_n 0] (pc' := 1) (L' := [some (.inr (10, 0)), none]) (st' := [.inr (10, 0)]) (S' := S) ok_X10_goesOn (by decide +kernel) rfl rfl ?_
  obtain ⟨r4, S1, hq2, h⟩ := ax_bu_e h
  refine ax_TVi (d := 1) (ka := 10) (i := 0) [] [] lk_X10_25 (by decide +kernel) rfl (by decide) rfl (Nat.le_of_ble_eq_true rfl) (Nat.le_of_ble_eq_true rfl) ((t_X10_peek hq2).up (by decide)) ?_
  refine ax_Tgo [.istore_n 1, .iload_n 1] (pc' := 6) (L' := [some (.inr (10, 0)), some (.inl (.int r4))]) (st' := [.inl (.int r4)]) (S' := S1) ok_X10_goesOn (by decide +kernel) rfl rfl ?_
  refine ax_Tif_ne (off := 5) (tgt := 11) (by decide +kernel) (by decide) (fun c5 => ?_) (fun c5 => ?_)
  · rw [if_neg c5] at h
    refine ax_Tgo [.aload_n 0, .bipush 59] (pc' := 14) (L' := [some (.inr (10, 0)), some (.inl (.int r4))]) (st' := [.inl (.int (59 : Int32)), .inr (10, 0)]) (S' := S1) ok_X10_goesOn (by decide +kernel) rfl rfl ?_
    obtain ⟨S6, hq7, h⟩ := ax_bd_e h
    refine ax_TVv (d := 1) (ka := 10) (i := 0) [.inl (.int (59 : Int32))] [] lk_X10_35 (by decide +kernel) rfl (by decide) rfl (Nat.le_of_ble_eq_true rfl) (Nat.le_of_ble_eq_true rfl) ((t_X10_demand hq7).up (by decide)) ?_
    refine ax_Tgo [.aload_n 0] (pc' := 18) (L' := [some (.inr (10, 0)), some (.inl (.int r4))]) (st' := [.inr (10, 0)]) (S' := S6) ok_X10_goesOn (by decide +kernel) rfl rfl ?_
    obtain ⟨r12, S9, hq10, h⟩ := ax_bu_e h
    refine ax_TVi (d := 1) (ka := 10) (i := 0) [] [] lk_X10_39 (by decide +kernel) rfl (by decide) rfl (Nat.le_of_ble_eq_true rfl) (Nat.le_of_ble_eq_true rfl) ((t_X10_failed hq10).up (by decide)) ?_
    refine ax_Tif_ne (off := 7) (tgt := 28) (by decide +kernel) (by decide) (fun c13 => ?_) (fun c13 => ?_)
    · rw [if_neg c13] at h
      refine ax_Tgo [.iconst 0] (pc' := 29) (L' := [some (.inr (10, 0)), some (.inl (.int r4))]) (st' := [.inl (.int (0 : Int32))]) (S' := S9) ok_X10_goesOn (by decide +kernel) rfl rfl ?_
      cases h
      exact ax_Treti (by decide +kernel) rfl rfl
    · rw [if_pos c13] at h
      refine ax_Tgo [.iconst 1] (pc' := 25) (L' := [some (.inr (10, 0)), some (.inl (.int r4))]) (st' := [.inl (.int (1 : Int32))]) (S' := S9) ok_X10_goesOn (by decide +kernel) rfl rfl ?_
      refine ax_Tgoto (off := 4) (tgt := 29) (by decide +kernel) (by decide) ?_
      cases h
      exact ax_Treti (by decide +kernel) rfl rfl
  · rw [if_pos c5] at h
    refine ax_Tgo [.iconst 0] (pc' := 10) (L' := [some (.inr (10, 0)), some (.inl (.int r4))]) (st' := [.inl (.int (0 : Int32))]) (S' := S1) ok_X10_goesOn (by decide +kernel) rfl rfl ?_
    cases h
    exact ax_Treti (by decide +kernel) rfl rfl
def f_X10_isDigit (a0 : Int32) (S : AS) : Option (Int32 × AS) := (if a0 < (48 : Int32) then some ((0 : Int32), S) else (if (57 : Int32) < a0 then some ((0 : Int32), S) else some ((1 : Int32), S)))
set_option maxRecDepth 100000 in
theorem t_X10_isDigit {l : Launch} {a0 : Int32} {S Z : AS} {r : Int32} (h : f_X10_isDigit a0 S = some (r, Z)) : ax_M l 0 ma_X10_isDigit [.inl (.int a0)] S (some (.inl (.int r))) Z := by
  unfold f_X10_isDigit at h
  show ax_T l 0 ma_X10_isDigit (0, [some (.inl (.int a0))], [], S) (some (.inl (.int r))) Z
  refine ax_Tgo [.iload_n 0, .bipush 48] (pc' := 3) (L' := [some (.inl (.int a0))]) (st' := [.inl (.int (48 : Int32)), .inl (.int a0)]) (S' := S) ok_X10_isDigit (by decide +kernel) rfl rfl ?_
  refine ax_Tic_lt (off := 13) (tgt := 16) (by decide +kernel) (by decide) (fun c1 => ?_) (fun c1 => ?_)
  · rw [if_pos c1] at h
    refine ax_Tgo [.iconst 0] (pc' := 17) (L' := [some (.inl (.int a0))]) (st' := [.inl (.int (0 : Int32))]) (S' := S) ok_X10_isDigit (by decide +kernel) rfl rfl ?_
    cases h
    exact ax_Treti (by decide +kernel) rfl rfl
  · rw [if_neg c1] at h
    refine ax_Tgo [.iload_n 0, .bipush 57] (pc' := 9) (L' := [some (.inl (.int a0))]) (st' := [.inl (.int (57 : Int32)), .inl (.int a0)]) (S' := S) ok_X10_isDigit (by decide +kernel) rfl rfl ?_
    refine ax_Tic_gt (off := 7) (tgt := 16) (by decide +kernel) (by decide) (fun c2 => ?_) (fun c2 => ?_)
    · rw [if_pos c2] at h
      refine ax_Tgo [.iconst 0] (pc' := 17) (L' := [some (.inl (.int a0))]) (st' := [.inl (.int (0 : Int32))]) (S' := S) ok_X10_isDigit (by decide +kernel) rfl rfl ?_
      cases h
      exact ax_Treti (by decide +kernel) rfl rfl
    · rw [if_neg c2] at h
      refine ax_Tgo [.iconst 1] (pc' := 13) (L' := [some (.inl (.int a0))]) (st' := [.inl (.int (1 : Int32))]) (S' := S) ok_X10_isDigit (by decide +kernel) rfl rfl ?_
      refine ax_Tgoto (off := 4) (tgt := 17) (by decide +kernel) (by decide) ?_
      cases h
      exact ax_Treti (by decide +kernel) rfl rfl
def f_X10_here (S : AS) : Option (Int32 × AS) := (if (ax_fi S 10 0 1) ≤ (ax_fi S 10 0 2) then some ((0 : Int32), S) else ax_gd (ax_in (ax_fi S 10 0 2) 240) (some ((ax_ai S 40 0 (ax_fi S 10 0 2).toNatClampNeg), S)))
set_option maxRecDepth 100000 in
theorem t_X10_here {l : Launch} {S Z : AS} {r : Int32} (h : f_X10_here S = some (r, Z)) : ax_M l 0 ma_X10_here [.inr (10, 0)] S (some (.inl (.int r))) Z := by
  unfold f_X10_here at h
  show ax_T l 0 ma_X10_here (0, [some (.inr (10, 0))], [], S) (some (.inl (.int r))) Z
  refine ax_Tgo [.aload_n 0, .getfield 19, .aload_n 0, .getfield 15] (pc' := 8) (L' := [some (.inr (10, 0))]) (st' := [.inl (.int (ax_fi S 10 0 1)), .inl (.int (ax_fi S 10 0 2))]) (S' := S) ok_X10_here (by decide +kernel) rfl rfl ?_
  refine ax_Tic_ge (off := 15) (tgt := 23) (by decide +kernel) (by decide) (fun c1 => ?_) (fun c1 => ?_)
  · rw [if_pos c1] at h
    refine ax_Tgo [.iconst 0] (pc' := 24) (L' := [some (.inr (10, 0))]) (st' := [.inl (.int (0 : Int32))]) (S' := S) ok_X10_here (by decide +kernel) rfl rfl ?_
    cases h
    exact ax_Treti (by decide +kernel) rfl rfl
  · rw [if_neg c1] at h
    refine ax_Tgo [.aload_n 0, .getfield 11, .aload_n 0, .getfield 19] (pc' := 19) (L' := [some (.inr (10, 0))]) (st' := [.inl (.int (ax_fi S 10 0 2)), .inr (40, 0)]) (S' := S) ok_X10_here (by decide +kernel) rfl rfl ?_
    obtain ⟨g2, h⟩ := ax_gd_e h
    refine ax_Tali (n := 240) ok_X10_here (by decide +kernel) (by decide) rfl g2 ?_
    refine ax_Tgoto (off := 4) (tgt := 24) (by decide +kernel) (by decide) ?_
    cases h
    exact ax_Treti (by decide +kernel) rfl rfl
def f_X10_number_L20 (K64 : Int32 → AS → Option (Int32 × AS)) : Nat → Int32 → Int32 → Int32 → AS → Option (Int32 × AS)
  | 0, _, _, _, _ => none
  | n + 1, x10, x11, x12, S14 => (if x10 ≤ x12 then K64 x11 S14 else ax_bu (f_X10_here S14) (fun (r19 : Int32) (S16 : AS) => ax_bu (f_X10_isDigit r19 S16) (fun (r23 : Int32) (S20 : AS) => (if r23 = (0 : Int32) then K64 x11 S20 else ax_bu (f_X10_here S20) (fun (r28 : Int32) (S25 : AS) => ax_let ((x11 * (10 : Int32)) + (r28 - (48 : Int32))) (fun (v29 : Int32) => ax_let (ax_sfi S25 10 0 2 ((ax_fi S25 10 0 2) + (1 : Int32))) (fun (S30 : AS) => ax_let (x12 + (1 : Int32)) (fun (v31 : Int32) => f_X10_number_L20 K64 n x10 v29 v31 S30))))))))
def f_X10_number (a1 : Int32) (S : AS) : Option (Int32 × AS) := ax_bu (f_X10_peek S) (fun (r4 : Int32) (S1 : AS) => ax_bu (f_X10_isDigit r4 S1) (fun (r8 : Int32) (S5 : AS) => (if r8 = (0 : Int32) then (f_X10_fail S5).bind (fun (S45 : AS) => some ((0 : Int32), S45)) else f_X10_number_L20 (fun (x13 : Int32) (S32 : AS) => ax_bu (f_X10_here S32) (fun (r36 : Int32) (S33 : AS) => ax_bu (f_X10_isDigit r36 S33) (fun (r40 : Int32) (S37 : AS) => (if r40 = (0 : Int32) then some (x13, S37) else (f_X10_fail S37).bind (fun (S42 : AS) => some (x13, S42)))))) ax_F a1 (0 : Int32) (0 : Int32) S5)))
set_option maxRecDepth 100000 in
theorem t_X10_number_L20 {l : Launch} {K64 : Int32 → AS → Option (Int32 × AS)} (hK64 : ∀ (x13 : Int32) (S : AS) r Z, K64 x13 S = some (r, Z) → ax_T l 1 ma_X10_number (64, [some (.inr (10, 0)), none, some (.inl (.int x13)), none], [], S) (some (.inl (.int r))) Z) : ∀ (n : Nat) (x10 : Int32) (x11 : Int32) (x12 : Int32) (S14 : AS) r Z, f_X10_number_L20 K64 n x10 x11 x12 S14 = some (r, Z) → ax_T l 1 ma_X10_number (20, [some (.inr (10, 0)), some (.inl (.int x10)), some (.inl (.int x11)), some (.inl (.int x12))], [], S14) (some (.inl (.int r))) Z := by
  intro n
  induction n with
  | zero =>
    intro x10 x11 x12 S14 r Z h
    cases h
  | succ n ih =>
    intro x10 x11 x12 S14 r Z h
    unfold f_X10_number_L20 at h
    refine ax_Tgo [.iload_n 3, .iload_n 1] (pc' := 22) (L' := [some (.inr (10, 0)), some (.inl (.int x10)), some (.inl (.int x11)), some (.inl (.int x12))]) (st' := [.inl (.int x10), .inl (.int x12)]) (S' := S14) ok_X10_number (by decide +kernel) rfl rfl ?_
    refine ax_Tic_ge (off := 42) (tgt := 64) (by decide +kernel) (by decide) (fun c15 => ?_) (fun c15 => ?_)
    · rw [if_pos c15] at h
      refine ax_Tdrop [true, false, true, false] (L' := [some (.inr (10, 0)), none, some (.inl (.int x11)), none]) rfl ?_
      exact hK64 x11 S14 _ _ h
    · rw [if_neg c15] at h
      refine ax_Tgo [.aload_n 0] (pc' := 26) (L' := [some (.inr (10, 0)), some (.inl (.int x10)), some (.inl (.int x11)), some (.inl (.int x12))]) (st' := [.inr (10, 0)]) (S' := S14) ok_X10_number (by decide +kernel) rfl rfl ?_
      obtain ⟨r19, S16, hq17, h⟩ := ax_bu_e h
      refine ax_TVi (d := 0) (ka := 10) (i := 0) [] [] lk_X10_47 (by decide +kernel) rfl (by decide) rfl (Nat.le_of_ble_eq_true rfl) (Nat.le_of_ble_eq_true rfl) ((t_X10_here hq17).up (by decide)) ?_
      obtain ⟨r23, S20, hq21, h⟩ := ax_bu_e h
      refine ax_TSi (d := 0) [.inl (.int r19)] [] lk_X10_43 (by decide +kernel) rfl rfl (Nat.le_of_ble_eq_true rfl) (Nat.le_of_ble_eq_true rfl) ((t_X10_isDigit hq21).up (by decide)) ?_
      refine ax_Tif_eq (off := 32) (tgt := 64) (by decide +kernel) (by decide) (fun c24 => ?_) (fun c24 => ?_)
      · rw [if_pos c24] at h
        refine ax_Tdrop [true, false, true, false] (L' := [some (.inr (10, 0)), none, some (.inl (.int x11)), none]) rfl ?_
        exact hK64 x11 S20 _ _ h
      · rw [if_neg c24] at h
        refine ax_Tgo [.iload_n 2, .bipush 10, .imul, .aload_n 0] (pc' := 40) (L' := [some (.inr (10, 0)), some (.inl (.int x10)), some (.inl (.int x11)), some (.inl (.int x12))]) (st' := [.inr (10, 0), .inl (.int (x11 * (10 : Int32)))]) (S' := S20) ok_X10_number (by decide +kernel) rfl rfl ?_
        obtain ⟨r28, S25, hq26, h⟩ := ax_bu_e h
        refine ax_TVi (d := 0) (ka := 10) (i := 0) [] [.inl (.int (x11 * (10 : Int32)))] lk_X10_47 (by decide +kernel) rfl (by decide) rfl (Nat.le_of_ble_eq_true rfl) (Nat.le_of_ble_eq_true rfl) ((t_X10_here hq26).up (by decide)) ?_
        refine ax_Tgo [.bipush 48, .isub, .iadd, .istore_n 2] (pc' := 48) (L' := [some (.inr (10, 0)), some (.inl (.int x10)), some (.inl (.int ((x11 * (10 : Int32)) + (r28 - (48 : Int32))))), some (.inl (.int x12))]) (st' := []) (S' := S25) ok_X10_number (by decide +kernel) rfl rfl ?_
        obtain ⟨v29, ev29, h⟩ := ax_let_e h
        rw [ev29]
        refine ax_Tgo [.aload_n 0, .dup, .getfield 19, .iconst 1, .iadd, .putfield 19] (pc' := 58) (L' := [some (.inr (10, 0)), some (.inl (.int x10)), some (.inl (.int v29)), some (.inl (.int x12))]) (st' := []) (S' := (ax_sfi S25 10 0 2 ((ax_fi S25 10 0 2) + (1 : Int32)))) ok_X10_number (by decide +kernel) rfl rfl ?_
        obtain ⟨S30, eS30, h⟩ := ax_let_e h
        rw [eS30]
        refine ax_Tgo [.iinc 3 1] (pc' := 61) (L' := [some (.inr (10, 0)), some (.inl (.int x10)), some (.inl (.int v29)), some (.inl (.int (x12 + (1 : Int32))))]) (st' := []) (S' := S30) ok_X10_number (by decide +kernel) rfl rfl ?_
        obtain ⟨v31, ev31, h⟩ := ax_let_e h
        rw [ev31]
        refine ax_Tgoto (off := (-41)) (tgt := 20) (by decide +kernel) (by decide) ?_
        exact ih x10 v29 v31 S30 _ _ h
set_option maxRecDepth 100000 in
theorem t_X10_number {l : Launch} {a1 : Int32} {S Z : AS} {r : Int32} (h : f_X10_number a1 S = some (r, Z)) : ax_M l 1 ma_X10_number [.inr (10, 0), .inl (.int a1)] S (some (.inl (.int r))) Z := by
  unfold f_X10_number at h
  show ax_T l 1 ma_X10_number (0, [some (.inr (10, 0)), some (.inl (.int a1)), none, none], [], S) (some (.inl (.int r))) Z
  refine ax_Tgo [.aload_n 0] (pc' := 1) (L' := [some (.inr (10, 0)), some (.inl (.int a1)), none, none]) (st' := [.inr (10, 0)]) (S' := S) ok_X10_number (by decide +kernel) rfl rfl ?_
  obtain ⟨r4, S1, hq2, h⟩ := ax_bu_e h
  refine ax_TVi (d := 0) (ka := 10) (i := 0) [] [] lk_X10_25 (by decide +kernel) rfl (by decide) rfl (Nat.le_of_ble_eq_true rfl) (Nat.le_of_ble_eq_true rfl) ((t_X10_peek hq2).up (by decide)) ?_
  obtain ⟨r8, S5, hq6, h⟩ := ax_bu_e h
  refine ax_TSi (d := 0) [.inl (.int r4)] [] lk_X10_43 (by decide +kernel) rfl rfl (Nat.le_of_ble_eq_true rfl) (Nat.le_of_ble_eq_true rfl) ((t_X10_isDigit hq6).up (by decide)) ?_
  refine ax_Tif_ne (off := 9) (tgt := 16) (by decide +kernel) (by decide) (fun c9 => ?_) (fun c9 => ?_)
  · rw [if_neg c9] at h
    refine ax_Tgo [.iconst 0, .istore_n 2, .iconst 0, .istore_n 3] (pc' := 20) (L' := [some (.inr (10, 0)), some (.inl (.int a1)), some (.inl (.int (0 : Int32))), some (.inl (.int (0 : Int32)))]) (st' := []) (S' := S5) ok_X10_number (by decide +kernel) rfl rfl ?_
    refine t_X10_number_L20 ?_ _ a1 (0 : Int32) (0 : Int32) S5 _ _ h
    · intro x13 S32 r Z h
      refine ax_Tgo [.aload_n 0] (pc' := 65) (L' := [some (.inr (10, 0)), none, some (.inl (.int x13)), none]) (st' := [.inr (10, 0)]) (S' := S32) ok_X10_number (by decide +kernel) rfl rfl ?_
      obtain ⟨r36, S33, hq34, h⟩ := ax_bu_e h
      refine ax_TVi (d := 0) (ka := 10) (i := 0) [] [] lk_X10_47 (by decide +kernel) rfl (by decide) rfl (Nat.le_of_ble_eq_true rfl) (Nat.le_of_ble_eq_true rfl) ((t_X10_here hq34).up (by decide)) ?_
      obtain ⟨r40, S37, hq38, h⟩ := ax_bu_e h
      refine ax_TSi (d := 0) [.inl (.int r36)] [] lk_X10_43 (by decide +kernel) rfl rfl (Nat.le_of_ble_eq_true rfl) (Nat.le_of_ble_eq_true rfl) ((t_X10_isDigit hq38).up (by decide)) ?_
      refine ax_Tif_eq (off := 7) (tgt := 78) (by decide +kernel) (by decide) (fun c41 => ?_) (fun c41 => ?_)
      · rw [if_pos c41] at h
        refine ax_Tgo [.iload_n 2] (pc' := 79) (L' := [some (.inr (10, 0)), none, some (.inl (.int x13)), none]) (st' := [.inl (.int x13)]) (S' := S37) ok_X10_number (by decide +kernel) rfl rfl ?_
        cases h
        exact ax_Treti (by decide +kernel) rfl rfl
      · rw [if_neg c41] at h
        refine ax_Tgo [.aload_n 0] (pc' := 75) (L' := [some (.inr (10, 0)), none, some (.inl (.int x13)), none]) (st' := [.inr (10, 0)]) (S' := S37) ok_X10_number (by decide +kernel) rfl rfl ?_
        obtain ⟨S42, hq43, h⟩ := ax_bd_e h
        refine ax_TVv (d := 0) (ka := 10) (i := 0) [] [] lk_X10_32 (by decide +kernel) rfl (by decide) rfl (Nat.le_of_ble_eq_true rfl) (Nat.le_of_ble_eq_true rfl) ((t_X10_fail hq43).up (by decide)) ?_
        refine ax_Tgo [.iload_n 2] (pc' := 79) (L' := [some (.inr (10, 0)), none, some (.inl (.int x13)), none]) (st' := [.inl (.int x13)]) (S' := S42) ok_X10_number (by decide +kernel) rfl rfl ?_
        cases h
        exact ax_Treti (by decide +kernel) rfl rfl
  · rw [if_pos c9] at h
    refine ax_Tgo [.aload_n 0] (pc' := 11) (L' := [some (.inr (10, 0)), some (.inl (.int a1)), none, none]) (st' := [.inr (10, 0)]) (S' := S5) ok_X10_number (by decide +kernel) rfl rfl ?_
    obtain ⟨S45, hq46, h⟩ := ax_bd_e h
    refine ax_TVv (d := 0) (ka := 10) (i := 0) [] [] lk_X10_32 (by decide +kernel) rfl (by decide) rfl (Nat.le_of_ble_eq_true rfl) (Nat.le_of_ble_eq_true rfl) ((t_X10_fail hq46).up (by decide)) ?_
    refine ax_Tgo [.iconst 0] (pc' := 15) (L' := [some (.inr (10, 0)), some (.inl (.int a1)), none, none]) (st' := [.inl (.int (0 : Int32))]) (S' := S45) ok_X10_number (by decide +kernel) rfl rfl ?_
    cases h
    exact ax_Treti (by decide +kernel) rfl rfl
def f_X10_digit (S : AS) : Option (Int32 × AS) := ax_bu (f_X10_peek S) (fun (r4 : Int32) (S1 : AS) => ax_bu (f_X10_isDigit r4 S1) (fun (r8 : Int32) (S5 : AS) => (if r8 = (0 : Int32) then (f_X10_fail S5).bind (fun (S13 : AS) => some ((0 : Int32), S13)) else (f_X10_pass S5).bind (fun (S10 : AS) => some ((r4 - (48 : Int32)), S10)))))
set_option maxRecDepth 100000 in
theorem t_X10_digit {l : Launch} {S Z : AS} {r : Int32} (h : f_X10_digit S = some (r, Z)) : ax_M l 1 ma_X10_digit [.inr (10, 0)] S (some (.inl (.int r))) Z := by
  unfold f_X10_digit at h
  show ax_T l 1 ma_X10_digit (0, [some (.inr (10, 0)), none], [], S) (some (.inl (.int r))) Z
  refine ax_Tgo [.aload_n 0] (pc' := 1) (L' := [some (.inr (10, 0)), none]) (st' := [.inr (10, 0)]) (S' := S) ok_X10_digit (by decide +kernel) rfl rfl ?_
  obtain ⟨r4, S1, hq2, h⟩ := ax_bu_e h
  refine ax_TVi (d := 0) (ka := 10) (i := 0) [] [] lk_X10_25 (by decide +kernel) rfl (by decide) rfl (Nat.le_of_ble_eq_true rfl) (Nat.le_of_ble_eq_true rfl) ((t_X10_peek hq2).up (by decide)) ?_
  refine ax_Tgo [.istore_n 1, .iload_n 1] (pc' := 6) (L' := [some (.inr (10, 0)), some (.inl (.int r4))]) (st' := [.inl (.int r4)]) (S' := S1) ok_X10_digit (by decide +kernel) rfl rfl ?_
  obtain ⟨r8, S5, hq6, h⟩ := ax_bu_e h
  refine ax_TSi (d := 0) [.inl (.int r4)] [] lk_X10_43 (by decide +kernel) rfl rfl (Nat.le_of_ble_eq_true rfl) (Nat.le_of_ble_eq_true rfl) ((t_X10_isDigit hq6).up (by decide)) ?_
  refine ax_Tif_ne (off := 9) (tgt := 18) (by decide +kernel) (by decide) (fun c9 => ?_) (fun c9 => ?_)
  · rw [if_neg c9] at h
    refine ax_Tgo [.aload_n 0] (pc' := 19) (L' := [some (.inr (10, 0)), some (.inl (.int r4))]) (st' := [.inr (10, 0)]) (S' := S5) ok_X10_digit (by decide +kernel) rfl rfl ?_
    obtain ⟨S10, hq11, h⟩ := ax_bd_e h
    refine ax_TVv (d := 0) (ka := 10) (i := 0) [] [] lk_X10_29 (by decide +kernel) rfl (by decide) rfl (Nat.le_of_ble_eq_true rfl) (Nat.le_of_ble_eq_true rfl) ((t_X10_pass hq11).up (by decide)) ?_
    refine ax_Tgo [.iload_n 1, .bipush 48, .isub] (pc' := 26) (L' := [some (.inr (10, 0)), some (.inl (.int r4))]) (st' := [.inl (.int (r4 - (48 : Int32)))]) (S' := S10) ok_X10_digit (by decide +kernel) rfl rfl ?_
    cases h
    exact ax_Treti (by decide +kernel) rfl rfl
  · rw [if_pos c9] at h
    refine ax_Tgo [.aload_n 0] (pc' := 13) (L' := [some (.inr (10, 0)), some (.inl (.int r4))]) (st' := [.inr (10, 0)]) (S' := S5) ok_X10_digit (by decide +kernel) rfl rfl ?_
    obtain ⟨S13, hq14, h⟩ := ax_bd_e h
    refine ax_TVv (d := 0) (ka := 10) (i := 0) [] [] lk_X10_32 (by decide +kernel) rfl (by decide) rfl (Nat.le_of_ble_eq_true rfl) (Nat.le_of_ble_eq_true rfl) ((t_X10_fail hq14).up (by decide)) ?_
    refine ax_Tgo [.iconst 0] (pc' := 17) (L' := [some (.inr (10, 0)), some (.inl (.int r4))]) (st' := [.inl (.int (0 : Int32))]) (S' := S13) ok_X10_digit (by decide +kernel) rfl rfl ?_
    cases h
    exact ax_Treti (by decide +kernel) rfl rfl
def f_X10_rewind (S : AS) : Option (AS) := ax_let (ax_sfi S 10 0 2 (0 : Int32)) (fun (S1 : AS) => ax_let (ax_sfi S1 10 0 3 (-1 : Int32)) (fun (S2 : AS) => some S2))
set_option maxRecDepth 100000 in
theorem t_X10_rewind {l : Launch} {S Z : AS} (h : f_X10_rewind S = some Z) : ax_M l 0 ma_X10_rewind [.inr (10, 0)] S none Z := by
  unfold f_X10_rewind at h
  show ax_T l 0 ma_X10_rewind (0, [some (.inr (10, 0))], [], S) none Z
  refine ax_Tgo [.aload_n 0, .iconst 0, .putfield 19] (pc' := 5) (L' := [some (.inr (10, 0))]) (st' := []) (S' := (ax_sfi S 10 0 2 (0 : Int32))) ok_X10_rewind (by decide +kernel) rfl rfl ?_
  obtain ⟨S1, eS1, h⟩ := ax_let_e h
  rw [eS1]
  refine ax_Tgo [.aload_n 0, .iconst (-1), .putfield 22] (pc' := 10) (L' := [some (.inr (10, 0))]) (st' := []) (S' := (ax_sfi S1 10 0 3 (-1 : Int32))) ok_X10_rewind (by decide +kernel) rfl rfl ?_
  obtain ⟨S2, eS2, h⟩ := ax_let_e h
  rw [eS2]
  cases h
  exact ax_Tretv (by decide +kernel) rfl
def f_X10_faultFound (S : AS) : Option (Int32 × AS) := some ((ax_fi S 10 0 3), S)
set_option maxRecDepth 100000 in
theorem t_X10_faultFound {l : Launch} {S Z : AS} {r : Int32} (h : f_X10_faultFound S = some (r, Z)) : ax_M l 0 ma_X10_faultFound [.inr (10, 0)] S (some (.inl (.int r))) Z := by
  unfold f_X10_faultFound at h
  show ax_T l 0 ma_X10_faultFound (0, [some (.inr (10, 0))], [], S) (some (.inl (.int r))) Z
  refine ax_Tgo [.aload_n 0, .getfield 22] (pc' := 4) (L' := [some (.inr (10, 0))]) (st' := [.inl (.int (ax_fi S 10 0 3))]) (S' := S) ok_X10_faultFound (by decide +kernel) rfl rfl ?_
  cases h
  exact ax_Treti (by decide +kernel) rfl rfl
def f_X10_hasRoomFor (a1 : Int32) (S : AS) : Option (Int32 × AS) := (if (240 : Int32) < ((ax_fi S 10 0 1) + a1) then some ((0 : Int32), S) else some ((1 : Int32), S))
set_option maxRecDepth 100000 in
theorem t_X10_hasRoomFor {l : Launch} {a1 : Int32} {S Z : AS} {r : Int32} (h : f_X10_hasRoomFor a1 S = some (r, Z)) : ax_M l 0 ma_X10_hasRoomFor [.inr (10, 0), .inl (.int a1)] S (some (.inl (.int r))) Z := by
  unfold f_X10_hasRoomFor at h
  show ax_T l 0 ma_X10_hasRoomFor (0, [some (.inr (10, 0)), some (.inl (.int a1))], [], S) (some (.inl (.int r))) Z
  refine ax_Tgo [.aload_n 0, .getfield 15, .iload_n 1, .iadd, .sipush 240] (pc' := 9) (L' := [some (.inr (10, 0)), some (.inl (.int a1))]) (st' := [.inl (.int (240 : Int32)), .inl (.int ((ax_fi S 10 0 1) + a1))]) (S' := S) ok_X10_hasRoomFor (by decide +kernel) rfl rfl ?_
  refine ax_Tic_gt (off := 7) (tgt := 16) (by decide +kernel) (by decide) (fun c1 => ?_) (fun c1 => ?_)
  · rw [if_pos c1] at h
    refine ax_Tgo [.iconst 0] (pc' := 17) (L' := [some (.inr (10, 0)), some (.inl (.int a1))]) (st' := [.inl (.int (0 : Int32))]) (S' := S) ok_X10_hasRoomFor (by decide +kernel) rfl rfl ?_
    cases h
    exact ax_Treti (by decide +kernel) rfl rfl
  · rw [if_neg c1] at h
    refine ax_Tgo [.iconst 1] (pc' := 13) (L' := [some (.inr (10, 0)), some (.inl (.int a1))]) (st' := [.inl (.int (1 : Int32))]) (S' := S) ok_X10_hasRoomFor (by decide +kernel) rfl rfl ?_
    refine ax_Tgoto (off := 4) (tgt := 17) (by decide +kernel) (by decide) ?_
    cases h
    exact ax_Treti (by decide +kernel) rfl rfl
def f_X10_failAtLastDigit (S : AS) : Option (AS) := (if (ax_fi S 10 0 3) = (-1 : Int32) then ax_let (ax_sfi S 10 0 3 ((ax_fi S 10 0 2) - (1 : Int32))) (fun (S2 : AS) => some S2) else some S)
set_option maxRecDepth 100000 in
theorem t_X10_failAtLastDigit {l : Launch} {S Z : AS} (h : f_X10_failAtLastDigit S = some Z) : ax_M l 0 ma_X10_failAtLastDigit [.inr (10, 0)] S none Z := by
  unfold f_X10_failAtLastDigit at h
  show ax_T l 0 ma_X10_failAtLastDigit (0, [some (.inr (10, 0))], [], S) none Z
  refine ax_Tgo [.aload_n 0, .getfield 22, .iconst (-1)] (pc' := 5) (L' := [some (.inr (10, 0))]) (st' := [.inl (.int (-1 : Int32)), .inl (.int (ax_fi S 10 0 3))]) (S' := S) ok_X10_failAtLastDigit (by decide +kernel) rfl rfl ?_
  refine ax_Tic_ne (off := 13) (tgt := 18) (by decide +kernel) (by decide) (fun c1 => ?_) (fun c1 => ?_)
  · rw [if_neg c1] at h
    cases h
    exact ax_Tretv (by decide +kernel) rfl
  · rw [if_pos c1] at h
    refine ax_Tgo [.aload_n 0, .aload_n 0, .getfield 19, .iconst 1, .isub, .putfield 22] (pc' := 18) (L' := [some (.inr (10, 0))]) (st' := []) (S' := (ax_sfi S 10 0 3 ((ax_fi S 10 0 2) - (1 : Int32)))) ok_X10_failAtLastDigit (by decide +kernel) rfl rfl ?_
    obtain ⟨S2, eS2, h⟩ := ax_let_e h
    rw [eS2]
    cases h
    exact ax_Tretv (by decide +kernel) rfl

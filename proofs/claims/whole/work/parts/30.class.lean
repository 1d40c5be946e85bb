/-! METHODS as functions, by program (wip/whole/ext.py) -/
def ax_F : Nat := 1000000
def ax_D : Nat := 64
def ax_on {α β : Type} (o : Option α) (x : β) (f : α → β) : β := match o with
  | none => x
  | some a => f a
theorem ax_on_n {α β : Type} {x : Option β} {f : α → Option β} {r : β} (h : ax_on none x f = some r) : x = some r := h
theorem ax_on_s {α β : Type} {a : α} {x : Option β} {f : α → Option β} {r : β} (h : ax_on (some a) x f = some r) : f a = some r := h
def ax_bu {α β γ : Type} (x : Option (α × β)) (f : α → β → Option γ) : Option γ := x.bind (fun q => f q.1 q.2)
theorem ax_bu_e {α β γ : Type} {x : Option (α × β)} {f : α → β → Option γ} {r : γ} (h : ax_bu x f = some r) : ∃ a b, x = some (a, b) ∧ f a b = some r := by
  obtain ⟨⟨a, b⟩, h1, h2⟩ := Option.bind_eq_some_iff.mp h
  exact ⟨a, b, h1, h2⟩
def ax_nc (x : Int32) : Bool := decide ((x.toUInt32 % 65536).toInt32 = x)
theorem ax_nc_e {x : Int32} (g : ax_nc x = true) : narrow .char (.int x) = .int x := by
  have e : (x.toUInt32 % 65536).toInt32 = x := by simpa [ax_nc] using g
  rw [← e]
  exact pk_nc x
theorem ax_bu_s {α β γ : Type} {a : α} {b : β} {f : α → β → Option γ} : ax_bu (some (a, b)) f = f a b := rfl

def f_X4_traitOf (i0 : Nat) (a1 : Int32) (a2 : Int32) (S : AS) : Option (Int32) := ax_let (fun (x1 : Int32)  => (if x1 = (0 : Int32) then some (0 : Int32) else ax_gd (ax_in ((a1 * (7 : Int32)) + a2) 42) (some (ax_ai S 29 i0 ((a1 * (7 : Int32)) + a2).toNatClampNeg)))) (fun J2 => (if a1 < (0 : Int32) then J2 (0 : Int32) else (if (ax_fi S 4 i0 5) ≤ a1 then J2 (0 : Int32) else (if a2 < (0 : Int32) then J2 (0 : Int32) else (if (7 : Int32) ≤ a2 then J2 (0 : Int32) else J2 (1 : Int32))))))
set_option maxRecDepth 100000 in
theorem t_X4_traitOf {l : Launch} {i0 : Nat} {a1 : Int32} {a2 : Int32} {S : AS} {r : Int32} (h : f_X4_traitOf i0 a1 a2 S = some r) : ax_M l 0 ma_X4_traitOf [.inr (4, i0), .inl (.int a1), .inl (.int a2)] S (some (.inl (.int r))) S := by
  unfold f_X4_traitOf at h
  show ax_T l 0 ma_X4_traitOf (0, [some (.inr (4, i0)), some (.inl (.int a1)), some (.inl (.int a2)), none], [], S) (some (.inl (.int r))) S
  refine ax_Tgo [.iload_n 1] (pc' := 1) (L' := [some (.inr (4, i0)), some (.inl (.int a1)), some (.inl (.int a2)), none]) (st' := [.inl (.int a1)]) (S' := S) ok_X4_traitOf.1 (by decide +kernel) rfl rfl ?_
  obtain ⟨J2, eJ2, h⟩ := ax_let_e h
  have hJ2 : ∀ (x1 : Int32)  r, J2 x1  = some r → ax_T l 0 ma_X4_traitOf (27, [some (.inr (4, i0)), some (.inl (.int a1)), some (.inl (.int a2)), none], [.inl (.int x1)], S) (some (.inl (.int r))) S := by
    intro x1  r h
    rw [← eJ2] at h
    try dsimp only at h
    refine ax_Tgo [.istore_n 3, .iload_n 3] (pc' := 29) (L' := [some (.inr (4, i0)), some (.inl (.int a1)), some (.inl (.int a2)), some (.inl (.int x1))]) (st' := [.inl (.int x1)]) (S' := S) ok_X4_traitOf.1 (by decide +kernel) rfl rfl ?_
    refine ax_Tif_eq (off := 17) (tgt := 46) (by decide +kernel) (by decide) (fun c3 => ?_) (fun c3 => ?_)
    · rw [if_pos c3] at h
      refine ax_Tgo [.iconst 0] (pc' := 47) (L' := [some (.inr (4, i0)), some (.inl (.int a1)), some (.inl (.int a2)), some (.inl (.int x1))]) (st' := [.inl (.int (0 : Int32))]) (S' := S) ok_X4_traitOf.1 (by decide +kernel) rfl rfl ?_
      cases h
      exact ax_Treti (by decide +kernel) rfl rfl
    · rw [if_neg c3] at h
      refine ax_Tgo [.aload_n 0, .getfield 18, .iload_n 1, .bipush 7, .imul, .iload_n 2, .iadd] (pc' := 42) (L' := [some (.inr (4, i0)), some (.inl (.int a1)), some (.inl (.int a2)), some (.inl (.int x1))]) (st' := [.inl (.int ((a1 * (7 : Int32)) + a2)), .inr (29, i0)]) (S' := S) ok_X4_traitOf.1 (by decide +kernel) rfl rfl ?_
      obtain ⟨g4, h⟩ := ax_gd_e h
      refine ax_Tali (n := 42) ok_X4_traitOf.1 (by decide +kernel) (by decide) rfl g4 ?_
      refine ax_Tgoto (off := 4) (tgt := 47) (by decide +kernel) (by decide) ?_
      cases h
      exact ax_Treti (by decide +kernel) rfl rfl
  refine ax_Tif_lt (off := 25) (tgt := 26) (by decide +kernel) (by decide) (fun c5 => ?_) (fun c5 => ?_)
  · rw [if_pos c5] at h
    refine ax_Tgo [.iconst 0] (pc' := 27) (L' := [some (.inr (4, i0)), some (.inl (.int a1)), some (.inl (.int a2)), none]) (st' := [.inl (.int (0 : Int32))]) (S' := S) ok_X4_traitOf.1 (by decide +kernel) rfl rfl ?_
    exact hJ2 (0 : Int32) _ h
  · rw [if_neg c5] at h
    refine ax_Tgo [.iload_n 1, .aload_n 0, .getfield 29] (pc' := 9) (L' := [some (.inr (4, i0)), some (.inl (.int a1)), some (.inl (.int a2)), none]) (st' := [.inl (.int (ax_fi S 4 i0 5)), .inl (.int a1)]) (S' := S) ok_X4_traitOf.1 (by decide +kernel) rfl rfl ?_
    refine ax_Tic_ge (off := 17) (tgt := 26) (by decide +kernel) (by decide) (fun c6 => ?_) (fun c6 => ?_)
    · rw [if_pos c6] at h
      refine ax_Tgo [.iconst 0] (pc' := 27) (L' := [some (.inr (4, i0)), some (.inl (.int a1)), some (.inl (.int a2)), none]) (st' := [.inl (.int (0 : Int32))]) (S' := S) ok_X4_traitOf.1 (by decide +kernel) rfl rfl ?_
      exact hJ2 (0 : Int32) _ h
    · rw [if_neg c6] at h
      refine ax_Tgo [.iload_n 2] (pc' := 13) (L' := [some (.inr (4, i0)), some (.inl (.int a1)), some (.inl (.int a2)), none]) (st' := [.inl (.int a2)]) (S' := S) ok_X4_traitOf.1 (by decide +kernel) rfl rfl ?_
      refine ax_Tif_lt (off := 13) (tgt := 26) (by decide +kernel) (by decide) (fun c7 => ?_) (fun c7 => ?_)
      · rw [if_pos c7] at h
        refine ax_Tgo [.iconst 0] (pc' := 27) (L' := [some (.inr (4, i0)), some (.inl (.int a1)), some (.inl (.int a2)), none]) (st' := [.inl (.int (0 : Int32))]) (S' := S) ok_X4_traitOf.1 (by decide +kernel) rfl rfl ?_
        exact hJ2 (0 : Int32) _ h
      · rw [if_neg c7] at h
        refine ax_Tgo [.iload_n 2, .bipush 7] (pc' := 19) (L' := [some (.inr (4, i0)), some (.inl (.int a1)), some (.inl (.int a2)), none]) (st' := [.inl (.int (7 : Int32)), .inl (.int a2)]) (S' := S) ok_X4_traitOf.1 (by decide +kernel) rfl rfl ?_
        refine ax_Tic_ge (off := 7) (tgt := 26) (by decide +kernel) (by decide) (fun c8 => ?_) (fun c8 => ?_)
        · rw [if_pos c8] at h
          refine ax_Tgo [.iconst 0] (pc' := 27) (L' := [some (.inr (4, i0)), some (.inl (.int a1)), some (.inl (.int a2)), none]) (st' := [.inl (.int (0 : Int32))]) (S' := S) ok_X4_traitOf.1 (by decide +kernel) rfl rfl ?_
          exact hJ2 (0 : Int32) _ h
        · rw [if_neg c8] at h
          refine ax_Tgo [.iconst 1] (pc' := 23) (L' := [some (.inr (4, i0)), some (.inl (.int a1)), some (.inl (.int a2)), none]) (st' := [.inl (.int (1 : Int32))]) (S' := S) ok_X4_traitOf.1 (by decide +kernel) rfl rfl ?_
          refine ax_Tgoto (off := 4) (tgt := 27) (by decide +kernel) (by decide) ?_
          exact hJ2 (1 : Int32) _ h
def f_X9_wasAnnounced (i0 : Nat) (a1 : Int32) (S : AS) : Option (Int32) := (if a1 < (0 : Int32) then some (0 : Int32) else (if (6 : Int32) ≤ a1 then some (0 : Int32) else (if (((ax_fi S 9 i0 1) >>> (a1 &&& 31)) &&& (1 : Int32)) = (0 : Int32) then some (0 : Int32) else some (1 : Int32))))
set_option maxRecDepth 100000 in
theorem t_X9_wasAnnounced {l : Launch} {i0 : Nat} {a1 : Int32} {S : AS} {r : Int32} (h : f_X9_wasAnnounced i0 a1 S = some r) : ax_M l 0 ma_X9_wasAnnounced [.inr (9, i0), .inl (.int a1)] S (some (.inl (.int r))) S := by
  unfold f_X9_wasAnnounced at h
  show ax_T l 0 ma_X9_wasAnnounced (0, [some (.inr (9, i0)), some (.inl (.int a1))], [], S) (some (.inl (.int r))) S
  refine ax_Tgo [.iload_n 1] (pc' := 1) (L' := [some (.inr (9, i0)), some (.inl (.int a1))]) (st' := [.inl (.int a1)]) (S' := S) ok_X9_wasAnnounced.1 (by decide +kernel) rfl rfl ?_
  refine ax_Tif_lt (off := 24) (tgt := 25) (by decide +kernel) (by decide) (fun c1 => ?_) (fun c1 => ?_)
  · rw [if_pos c1] at h
    refine ax_Tgo [.iconst 0] (pc' := 26) (L' := [some (.inr (9, i0)), some (.inl (.int a1))]) (st' := [.inl (.int (0 : Int32))]) (S' := S) ok_X9_wasAnnounced.1 (by decide +kernel) rfl rfl ?_
    cases h
    exact ax_Treti (by decide +kernel) rfl rfl
  · rw [if_neg c1] at h
    refine ax_Tgo [.iload_n 1, .bipush 6] (pc' := 7) (L' := [some (.inr (9, i0)), some (.inl (.int a1))]) (st' := [.inl (.int (6 : Int32)), .inl (.int a1)]) (S' := S) ok_X9_wasAnnounced.1 (by decide +kernel) rfl rfl ?_
    refine ax_Tic_ge (off := 18) (tgt := 25) (by decide +kernel) (by decide) (fun c2 => ?_) (fun c2 => ?_)
    · rw [if_pos c2] at h
      refine ax_Tgo [.iconst 0] (pc' := 26) (L' := [some (.inr (9, i0)), some (.inl (.int a1))]) (st' := [.inl (.int (0 : Int32))]) (S' := S) ok_X9_wasAnnounced.1 (by decide +kernel) rfl rfl ?_
      cases h
      exact ax_Treti (by decide +kernel) rfl rfl
    · rw [if_neg c2] at h
      refine ax_Tgo [.aload_n 0, .getfield 15, .iload_n 1, .ishr, .iconst 1, .iand] (pc' := 18) (L' := [some (.inr (9, i0)), some (.inl (.int a1))]) (st' := [.inl (.int (((ax_fi S 9 i0 1) >>> (a1 &&& 31)) &&& (1 : Int32)))]) (S' := S) ok_X9_wasAnnounced.1 (by decide +kernel) rfl rfl ?_
      refine ax_Tif_eq (off := 7) (tgt := 25) (by decide +kernel) (by decide) (fun c3 => ?_) (fun c3 => ?_)
      · rw [if_pos c3] at h
        refine ax_Tgo [.iconst 0] (pc' := 26) (L' := [some (.inr (9, i0)), some (.inl (.int a1))]) (st' := [.inl (.int (0 : Int32))]) (S' := S) ok_X9_wasAnnounced.1 (by decide +kernel) rfl rfl ?_
        cases h
        exact ax_Treti (by decide +kernel) rfl rfl
      · rw [if_neg c3] at h
        refine ax_Tgo [.iconst 1] (pc' := 22) (L' := [some (.inr (9, i0)), some (.inl (.int a1))]) (st' := [.inl (.int (1 : Int32))]) (S' := S) ok_X9_wasAnnounced.1 (by decide +kernel) rfl rfl ?_
        refine ax_Tgoto (off := 4) (tgt := 26) (by decide +kernel) (by decide) ?_
        cases h
        exact ax_Treti (by decide +kernel) rfl rfl
def f_X9_receivedBy (i0 : Nat) (a1 : Int32) (S : AS) : Option (Int32) := (if a1 < (0 : Int32) then some (0 : Int32) else (if (4 : Int32) ≤ a1 then some (0 : Int32) else ax_gd (ax_in a1 4) (some (ax_ai S 38 i0 a1.toNatClampNeg))))
set_option maxRecDepth 100000 in
theorem t_X9_receivedBy {l : Launch} {i0 : Nat} {a1 : Int32} {S : AS} {r : Int32} (h : f_X9_receivedBy i0 a1 S = some r) : ax_M l 0 ma_X9_receivedBy [.inr (9, i0), .inl (.int a1)] S (some (.inl (.int r))) S := by
  unfold f_X9_receivedBy at h
  show ax_T l 0 ma_X9_receivedBy (0, [some (.inr (9, i0)), some (.inl (.int a1))], [], S) (some (.inl (.int r))) S
  refine ax_Tgo [.iload_n 1] (pc' := 1) (L' := [some (.inr (9, i0)), some (.inl (.int a1))]) (st' := [.inl (.int a1)]) (S' := S) ok_X9_receivedBy.1 (by decide +kernel) rfl rfl ?_
  refine ax_Tif_lt (off := 17) (tgt := 18) (by decide +kernel) (by decide) (fun c1 => ?_) (fun c1 => ?_)
  · rw [if_pos c1] at h
    refine ax_Tgo [.iconst 0] (pc' := 19) (L' := [some (.inr (9, i0)), some (.inl (.int a1))]) (st' := [.inl (.int (0 : Int32))]) (S' := S) ok_X9_receivedBy.1 (by decide +kernel) rfl rfl ?_
    cases h
    exact ax_Treti (by decide +kernel) rfl rfl
  · rw [if_neg c1] at h
    refine ax_Tgo [.iload_n 1, .iconst 4] (pc' := 6) (L' := [some (.inr (9, i0)), some (.inl (.int a1))]) (st' := [.inl (.int (4 : Int32)), .inl (.int a1)]) (S' := S) ok_X9_receivedBy.1 (by decide +kernel) rfl rfl ?_
    refine ax_Tic_ge (off := 12) (tgt := 18) (by decide +kernel) (by decide) (fun c2 => ?_) (fun c2 => ?_)
    · rw [if_pos c2] at h
      refine ax_Tgo [.iconst 0] (pc' := 19) (L' := [some (.inr (9, i0)), some (.inl (.int a1))]) (st' := [.inl (.int (0 : Int32))]) (S' := S) ok_X9_receivedBy.1 (by decide +kernel) rfl rfl ?_
      cases h
      exact ax_Treti (by decide +kernel) rfl rfl
    · rw [if_neg c2] at h
      refine ax_Tgo [.aload_n 0, .getfield 36, .iload_n 1] (pc' := 14) (L' := [some (.inr (9, i0)), some (.inl (.int a1))]) (st' := [.inl (.int a1), .inr (38, i0)]) (S' := S) ok_X9_receivedBy.1 (by decide +kernel) rfl rfl ?_
      obtain ⟨g3, h⟩ := ax_gd_e h
      refine ax_Tali (n := 4) ok_X9_receivedBy.1 (by decide +kernel) (by decide) rfl g3 ?_
      refine ax_Tgoto (off := 4) (tgt := 19) (by decide +kernel) (by decide) ?_
      cases h
      exact ax_Treti (by decide +kernel) rfl rfl
def f_X4_lodgerItem (i0 : Nat) (a1 : Int32) (a2 : Int32) (S : AS) : Option (Int32) := (if a1 < (0 : Int32) then some (0 : Int32) else (if (ax_fi S 4 i0 4) ≤ a1 then some (0 : Int32) else ax_gd (ax_in ((a1 * (2 : Int32)) + a2) 8) (some (ax_ai S 28 i0 ((a1 * (2 : Int32)) + a2).toNatClampNeg))))
set_option maxRecDepth 100000 in
theorem t_X4_lodgerItem {l : Launch} {i0 : Nat} {a1 : Int32} {a2 : Int32} {S : AS} {r : Int32} (h : f_X4_lodgerItem i0 a1 a2 S = some r) : ax_M l 0 ma_X4_lodgerItem [.inr (4, i0), .inl (.int a1), .inl (.int a2)] S (some (.inl (.int r))) S := by
  unfold f_X4_lodgerItem at h
  show ax_T l 0 ma_X4_lodgerItem (0, [some (.inr (4, i0)), some (.inl (.int a1)), some (.inl (.int a2))], [], S) (some (.inl (.int r))) S
  refine ax_Tgo [.iload_n 1] (pc' := 1) (L' := [some (.inr (4, i0)), some (.inl (.int a1)), some (.inl (.int a2))]) (st' := [.inl (.int a1)]) (S' := S) ok_X4_lodgerItem.1 (by decide +kernel) rfl rfl ?_
  refine ax_Tif_lt (off := 24) (tgt := 25) (by decide +kernel) (by decide) (fun c1 => ?_) (fun c1 => ?_)
  · rw [if_pos c1] at h
    refine ax_Tgo [.iconst 0] (pc' := 26) (L' := [some (.inr (4, i0)), some (.inl (.int a1)), some (.inl (.int a2))]) (st' := [.inl (.int (0 : Int32))]) (S' := S) ok_X4_lodgerItem.1 (by decide +kernel) rfl rfl ?_
    cases h
    exact ax_Treti (by decide +kernel) rfl rfl
  · rw [if_neg c1] at h
    refine ax_Tgo [.iload_n 1, .aload_n 0, .getfield 25] (pc' := 9) (L' := [some (.inr (4, i0)), some (.inl (.int a1)), some (.inl (.int a2))]) (st' := [.inl (.int (ax_fi S 4 i0 4)), .inl (.int a1)]) (S' := S) ok_X4_lodgerItem.1 (by decide +kernel) rfl rfl ?_
    refine ax_Tic_ge (off := 16) (tgt := 25) (by decide +kernel) (by decide) (fun c2 => ?_) (fun c2 => ?_)
    · rw [if_pos c2] at h
      refine ax_Tgo [.iconst 0] (pc' := 26) (L' := [some (.inr (4, i0)), some (.inl (.int a1)), some (.inl (.int a2))]) (st' := [.inl (.int (0 : Int32))]) (S' := S) ok_X4_lodgerItem.1 (by decide +kernel) rfl rfl ?_
      cases h
      exact ax_Treti (by decide +kernel) rfl rfl
    · rw [if_neg c2] at h
      refine ax_Tgo [.aload_n 0, .getfield 15, .iload_n 1, .iconst 2, .imul, .iload_n 2, .iadd] (pc' := 21) (L' := [some (.inr (4, i0)), some (.inl (.int a1)), some (.inl (.int a2))]) (st' := [.inl (.int ((a1 * (2 : Int32)) + a2)), .inr (28, i0)]) (S' := S) ok_X4_lodgerItem.1 (by decide +kernel) rfl rfl ?_
      obtain ⟨g3, h⟩ := ax_gd_e h
      refine ax_Tali (n := 8) ok_X4_lodgerItem.1 (by decide +kernel) (by decide) rfl g3 ?_
      refine ax_Tgoto (off := 4) (tgt := 26) (by decide +kernel) (by decide) ?_
      cases h
      exact ax_Treti (by decide +kernel) rfl rfl
def f_X4_patienceOf (i0 : Nat) (a1 : Int32) (S : AS) : Option (Int32) := (f_X4_lodgerItem i0 a1 (1 : Int32) S).bind (fun (r4 : Int32) => some r4)
set_option maxRecDepth 100000 in
theorem t_X4_patienceOf {l : Launch} {i0 : Nat} {a1 : Int32} {S : AS} {r : Int32} (h : f_X4_patienceOf i0 a1 S = some r) : ax_M l 1 ma_X4_patienceOf [.inr (4, i0), .inl (.int a1)] S (some (.inl (.int r))) S := by
  unfold f_X4_patienceOf at h
  show ax_T l 1 ma_X4_patienceOf (0, [some (.inr (4, i0)), some (.inl (.int a1))], [], S) (some (.inl (.int r))) S
  refine ax_Tgo [.aload_n 0, .iload_n 1, .iconst 1] (pc' := 3) (L' := [some (.inr (4, i0)), some (.inl (.int a1))]) (st' := [.inl (.int (1 : Int32)), .inl (.int a1), .inr (4, i0)]) (S' := S) ok_X4_patienceOf.1 (by decide +kernel) rfl rfl ?_
  obtain ⟨r4, hq2, h⟩ := ax_bd_e h
  refine ax_TVi (d := 0) (ka := 4) (i := i0) [.inl (.int a1), .inl (.int (1 : Int32))] [] lk_X4_32 (by decide +kernel) rfl (by decide) rfl (Nat.le_of_ble_eq_true rfl) (Nat.le_of_ble_eq_true rfl) ((t_X4_lodgerItem hq2).up (by decide)) ?_
  cases h
  exact ax_Treti (by decide +kernel) rfl rfl
def f_X6_hardsOf (a1 : Int32) (S : AS) : Option (Int32) := ax_on (ax_fo S 6 0 1) (some (0 : Int32)) (fun (o1 : Nat) => (f_X4_traitOf o1 a1 (1 : Int32) S).bind (fun (r6 : Int32) => some r6))
set_option maxRecDepth 100000 in
theorem t_X6_hardsOf {l : Launch} {a1 : Int32} {S : AS} {r : Int32} (h : f_X6_hardsOf a1 S = some r) : ax_M l 1 ma_X6_hardsOf [.inr (6, 0), .inl (.int a1)] S (some (.inl (.int r))) S := by
  unfold f_X6_hardsOf at h
  show ax_T l 1 ma_X6_hardsOf (0, [some (.inr (6, 0)), some (.inl (.int a1))], [], S) (some (.inl (.int r))) S
  refine ax_Tgo [.aload_n 0] (pc' := 1) (L' := [some (.inr (6, 0)), some (.inl (.int a1))]) (st' := [.inr (6, 0)]) (S' := S) ok_X6_hardsOf.1 (by decide +kernel) rfl rfl ?_
  cases ho2 : ax_fo S 6 0 1 with
  | none =>
    rw [ho2] at h
    replace h := ax_on_n h
    refine ax_TgetN (n := 15) (sl := 1) (c := 6) (q := 4) ok_X6_hardsOf.1 (by decide +kernel) rfl (by decide +kernel) rfl ho2 ?_
    refine ax_TnnN (off := 7) (by decide +kernel) ?_
    refine ax_Tgo [.iconst 0] (pc' := 8) (L' := [some (.inr (6, 0)), some (.inl (.int a1))]) (st' := [.inl (.int (0 : Int32))]) (S' := S) ok_X6_hardsOf.1 (by decide +kernel) rfl rfl ?_
    refine ax_Tgoto (off := 12) (tgt := 20) (by decide +kernel) (by decide) ?_
    cases h
    exact ax_Treti (by decide +kernel) rfl rfl
  | some o1 =>
    rw [ho2] at h
    replace h := ax_on_s h
    refine ax_TgetS (n := 15) (sl := 1) (c := 6) (q := 4) ok_X6_hardsOf.1 (by decide +kernel) rfl (by decide +kernel) rfl ho2 ?_
    refine ax_TnnR (off := 7) (tgt := 11) (by decide +kernel) (by decide) (by decide) ?_
    refine ax_Tgo [.aload_n 0] (pc' := 12) (L' := [some (.inr (6, 0)), some (.inl (.int a1))]) (st' := [.inr (6, 0)]) (S' := S) ok_X6_hardsOf.1 (by decide +kernel) rfl rfl ?_
    refine ax_TgetS (n := 15) (sl := 1) (c := 6) (q := 4) ok_X6_hardsOf.1 (by decide +kernel) rfl (by decide +kernel) rfl ho2 ?_
    refine ax_Tgo [.iload_n 1, .iconst 1] (pc' := 17) (L' := [some (.inr (6, 0)), some (.inl (.int a1))]) (st' := [.inl (.int (1 : Int32)), .inl (.int a1), .inr (4, o1)]) (S' := S) ok_X6_hardsOf.1 (by decide +kernel) rfl rfl ?_
    obtain ⟨r6, hq4, h⟩ := ax_bd_e h
    refine ax_TVi (d := 0) (ka := 4) (i := o1) [.inl (.int a1), .inl (.int (1 : Int32))] [] lk_X6_46 (by decide +kernel) rfl (by decide) rfl (Nat.le_of_ble_eq_true rfl) (Nat.le_of_ble_eq_true rfl) ((t_X4_traitOf hq4).up (by decide)) ?_
    cases h
    exact ax_Treti (by decide +kernel) rfl rfl
def f_X9_titlesOf (i0 : Nat) (a1 : Int32) (S : AS) : Option (Int32) := (if a1 < (0 : Int32) then some (0 : Int32) else (if (6 : Int32) ≤ a1 then some (0 : Int32) else ax_gd (ax_in a1 6) (some (ax_ai S 39 i0 a1.toNatClampNeg))))
set_option maxRecDepth 100000 in
theorem t_X9_titlesOf {l : Launch} {i0 : Nat} {a1 : Int32} {S : AS} {r : Int32} (h : f_X9_titlesOf i0 a1 S = some r) : ax_M l 0 ma_X9_titlesOf [.inr (9, i0), .inl (.int a1)] S (some (.inl (.int r))) S := by
  unfold f_X9_titlesOf at h
  show ax_T l 0 ma_X9_titlesOf (0, [some (.inr (9, i0)), some (.inl (.int a1))], [], S) (some (.inl (.int r))) S
  refine ax_Tgo [.iload_n 1] (pc' := 1) (L' := [some (.inr (9, i0)), some (.inl (.int a1))]) (st' := [.inl (.int a1)]) (S' := S) ok_X9_titlesOf.1 (by decide +kernel) rfl rfl ?_
  refine ax_Tif_lt (off := 18) (tgt := 19) (by decide +kernel) (by decide) (fun c1 => ?_) (fun c1 => ?_)
  · rw [if_pos c1] at h
    refine ax_Tgo [.iconst 0] (pc' := 20) (L' := [some (.inr (9, i0)), some (.inl (.int a1))]) (st' := [.inl (.int (0 : Int32))]) (S' := S) ok_X9_titlesOf.1 (by decide +kernel) rfl rfl ?_
    cases h
    exact ax_Treti (by decide +kernel) rfl rfl
  · rw [if_neg c1] at h
    refine ax_Tgo [.iload_n 1, .bipush 6] (pc' := 7) (L' := [some (.inr (9, i0)), some (.inl (.int a1))]) (st' := [.inl (.int (6 : Int32)), .inl (.int a1)]) (S' := S) ok_X9_titlesOf.1 (by decide +kernel) rfl rfl ?_
    refine ax_Tic_ge (off := 12) (tgt := 19) (by decide +kernel) (by decide) (fun c2 => ?_) (fun c2 => ?_)
    · rw [if_pos c2] at h
      refine ax_Tgo [.iconst 0] (pc' := 20) (L' := [some (.inr (9, i0)), some (.inl (.int a1))]) (st' := [.inl (.int (0 : Int32))]) (S' := S) ok_X9_titlesOf.1 (by decide +kernel) rfl rfl ?_
      cases h
      exact ax_Treti (by decide +kernel) rfl rfl
    · rw [if_neg c2] at h
      refine ax_Tgo [.aload_n 0, .getfield 40, .iload_n 1] (pc' := 15) (L' := [some (.inr (9, i0)), some (.inl (.int a1))]) (st' := [.inl (.int a1), .inr (39, i0)]) (S' := S) ok_X9_titlesOf.1 (by decide +kernel) rfl rfl ?_
      obtain ⟨g3, h⟩ := ax_gd_e h
      refine ax_Tali (n := 6) ok_X9_titlesOf.1 (by decide +kernel) (by decide) rfl g3 ?_
      refine ax_Tgoto (off := 4) (tgt := 20) (by decide +kernel) (by decide) ?_
      cases h
      exact ax_Treti (by decide +kernel) rfl rfl
def f_X4_hardBeats (i0 : Nat) (S : AS) : Option (Int32) := ax_gd (ax_in (1 : Int32) 3) (some (ax_ai S 27 i0 (1 : Int32).toNatClampNeg))
set_option maxRecDepth 100000 in
theorem t_X4_hardBeats {l : Launch} {i0 : Nat} {S : AS} {r : Int32} (h : f_X4_hardBeats i0 S = some r) : ax_M l 0 ma_X4_hardBeats [.inr (4, i0)] S (some (.inl (.int r))) S := by
  unfold f_X4_hardBeats at h
  show ax_T l 0 ma_X4_hardBeats (0, [some (.inr (4, i0))], [], S) (some (.inl (.int r))) S
  refine ax_Tgo [.aload_n 0, .getfield 11, .iconst 1] (pc' := 5) (L' := [some (.inr (4, i0))]) (st' := [.inl (.int (1 : Int32)), .inr (27, i0)]) (S' := S) ok_X4_hardBeats.1 (by decide +kernel) rfl rfl ?_
  obtain ⟨g1, h⟩ := ax_gd_e h
  refine ax_Tali (n := 3) ok_X4_hardBeats.1 (by decide +kernel) (by decide) rfl g1 ?_
  cases h
  exact ax_Treti (by decide +kernel) rfl rfl
def f_J9_min_7cf53 (a0 : Int32) (a1 : Int32) (S : AS) : Option (Int32) := (if a1 < a0 then some a1 else some a0)
set_option maxRecDepth 100000 in
theorem t_J9_min_7cf53 {l : Launch} {a0 : Int32} {a1 : Int32} {S : AS} {r : Int32} (h : f_J9_min_7cf53 a0 a1 S = some r) : ax_M l 0 ma_J9_min_7cf53 [.inl (.int a0), .inl (.int a1)] S (some (.inl (.int r))) S := by
  unfold f_J9_min_7cf53 at h
  show ax_T l 0 ma_J9_min_7cf53 (0, [some (.inl (.int a0)), some (.inl (.int a1))], [], S) (some (.inl (.int r))) S
  refine ax_Tgo [.iload_n 0, .iload_n 1] (pc' := 2) (L' := [some (.inl (.int a0)), some (.inl (.int a1))]) (st' := [.inl (.int a1), .inl (.int a0)]) (S' := S) ok_J9_min_7cf53.1 (by decide +kernel) rfl rfl ?_
  refine ax_Tic_gt (off := 7) (tgt := 9) (by decide +kernel) (by decide) (fun c1 => ?_) (fun c1 => ?_)
  · rw [if_pos c1] at h
    refine ax_Tgo [.iload_n 1] (pc' := 10) (L' := [some (.inl (.int a0)), some (.inl (.int a1))]) (st' := [.inl (.int a1)]) (S' := S) ok_J9_min_7cf53.1 (by decide +kernel) rfl rfl ?_
    cases h
    exact ax_Treti (by decide +kernel) rfl rfl
  · rw [if_neg c1] at h
    refine ax_Tgo [.iload_n 0] (pc' := 6) (L' := [some (.inl (.int a0)), some (.inl (.int a1))]) (st' := [.inl (.int a0)]) (S' := S) ok_J9_min_7cf53.1 (by decide +kernel) rfl rfl ?_
    refine ax_Tgoto (off := 4) (tgt := 10) (by decide +kernel) (by decide) ?_
    cases h
    exact ax_Treti (by decide +kernel) rfl rfl
def f_J9_max_7cf53 (a0 : Int32) (a1 : Int32) (S : AS) : Option (Int32) := (if a0 < a1 then some a1 else some a0)
set_option maxRecDepth 100000 in
theorem t_J9_max_7cf53 {l : Launch} {a0 : Int32} {a1 : Int32} {S : AS} {r : Int32} (h : f_J9_max_7cf53 a0 a1 S = some r) : ax_M l 0 ma_J9_max_7cf53 [.inl (.int a0), .inl (.int a1)] S (some (.inl (.int r))) S := by
  unfold f_J9_max_7cf53 at h
  show ax_T l 0 ma_J9_max_7cf53 (0, [some (.inl (.int a0)), some (.inl (.int a1))], [], S) (some (.inl (.int r))) S
  refine ax_Tgo [.iload_n 0, .iload_n 1] (pc' := 2) (L' := [some (.inl (.int a0)), some (.inl (.int a1))]) (st' := [.inl (.int a1), .inl (.int a0)]) (S' := S) ok_J9_max_7cf53.1 (by decide +kernel) rfl rfl ?_
  refine ax_Tic_lt (off := 7) (tgt := 9) (by decide +kernel) (by decide) (fun c1 => ?_) (fun c1 => ?_)
  · rw [if_pos c1] at h
    refine ax_Tgo [.iload_n 1] (pc' := 10) (L' := [some (.inl (.int a0)), some (.inl (.int a1))]) (st' := [.inl (.int a1)]) (S' := S) ok_J9_max_7cf53.1 (by decide +kernel) rfl rfl ?_
    cases h
    exact ax_Treti (by decide +kernel) rfl rfl
  · rw [if_neg c1] at h
    refine ax_Tgo [.iload_n 0] (pc' := 6) (L' := [some (.inl (.int a0)), some (.inl (.int a1))]) (st' := [.inl (.int a0)]) (S' := S) ok_J9_max_7cf53.1 (by decide +kernel) rfl rfl ?_
    refine ax_Tgoto (off := 4) (tgt := 10) (by decide +kernel) (by decide) ?_
    cases h
    exact ax_Treti (by decide +kernel) rfl rfl
def f_X5_push (i0 : Nat) (a1 : Int64) (S : AS) : Option (AS) := (if (Int32.ofNat 40) ≤ (ax_fi S 5 i0 3) then some S else (if (lg_cmp a1 (1000000 : Int64)) ≤ (0 : Int32) then (if (0 : Int32) ≤ (lg_cmp a1 (-1000000 : Int64)) then ax_gd (ax_in (ax_fi S 5 i0 3) 40) (ax_let (ax_sai S 31 i0 (ax_fi S 5 i0 3).toNatClampNeg a1.toInt32) (fun (S5 : AS) => ax_let (ax_sfi S5 5 i0 3 ((ax_fi S5 5 i0 3) + (1 : Int32))) (fun (S6 : AS) => some S6))) else ax_gd (ax_in (ax_fi S 5 i0 3) 40) (ax_let (ax_sai S 31 i0 (ax_fi S 5 i0 3).toNatClampNeg (-1000000 : Int32)) (fun (S8 : AS) => ax_let (ax_sfi S8 5 i0 3 ((ax_fi S8 5 i0 3) + (1 : Int32))) (fun (S9 : AS) => some S9)))) else ax_gd (ax_in (ax_fi S 5 i0 3) 40) (ax_let (ax_sai S 31 i0 (ax_fi S 5 i0 3).toNatClampNeg (1000000 : Int32)) (fun (S11 : AS) => ax_let (ax_sfi S11 5 i0 3 ((ax_fi S11 5 i0 3) + (1 : Int32))) (fun (S12 : AS) => some S12)))))
set_option maxRecDepth 100000 in
theorem t_X5_push {l : Launch} {i0 : Nat} {a1 : Int64} {S Z : AS} (h : f_X5_push i0 a1 S = some Z) : ax_M l 0 ma_X5_push [.inr (5, i0), .inl (.long a1)] S none Z := by
  unfold f_X5_push at h
  show ax_T l 0 ma_X5_push (0, [some (.inr (5, i0)), some (.inl (.long a1)), none], [], S) none Z
  refine ax_Tgo [.aload_n 0, .getfield 24, .aload_n 0, .getfield 17, .arraylength] (pc' := 9) (L' := [some (.inr (5, i0)), some (.inl (.long a1)), none]) (st' := [.inl (.int (Int32.ofNat 40)), .inl (.int (ax_fi S 5 i0 3))]) (S' := S) ok_X5_push.1 (by decide +kernel) rfl rfl ?_
  refine ax_Tic_ge (off := 50) (tgt := 59) (by decide +kernel) (by decide) (fun c1 => ?_) (fun c1 => ?_)
  · rw [if_pos c1] at h
    cases h
    exact ax_Tretv (by decide +kernel) rfl
  · rw [if_neg c1] at h
    refine ax_Tgo [.aload_n 0, .getfield 17, .aload_n 0, .getfield 24, .lload_n 1, .ldc2_w 108, .lcmp] (pc' := 25) (L' := [some (.inr (5, i0)), some (.inl (.long a1)), none]) (st' := [.inl (.int (lg_cmp a1 (1000000 : Int64))), .inl (.int (ax_fi S 5 i0 3)), .inr (31, i0)]) (S' := S) ok_X5_push.1 (by decide +kernel) rfl rfl ?_
    refine ax_Tif_le (off := 8) (tgt := 33) (by decide +kernel) (by decide) (fun c2 => ?_) (fun c2 => ?_)
    · rw [if_pos c2] at h
      refine ax_Tgo [.lload_n 1, .ldc2_w 111, .lcmp] (pc' := 38) (L' := [some (.inr (5, i0)), some (.inl (.long a1)), none]) (st' := [.inl (.int (lg_cmp a1 (-1000000 : Int64))), .inl (.int (ax_fi S 5 i0 3)), .inr (31, i0)]) (S' := S) ok_X5_push.1 (by decide +kernel) rfl rfl ?_
      refine ax_Tif_ge (off := 8) (tgt := 46) (by decide +kernel) (by decide) (fun c3 => ?_) (fun c3 => ?_)
      · rw [if_pos c3] at h
        refine ax_Tgo [.lload_n 1, .l2i] (pc' := 48) (L' := [some (.inr (5, i0)), some (.inl (.long a1)), none]) (st' := [.inl (.int a1.toInt32), .inl (.int (ax_fi S 5 i0 3)), .inr (31, i0)]) (S' := S) ok_X5_push.1 (by decide +kernel) rfl rfl ?_
        obtain ⟨g4, h⟩ := ax_gd_e h
        refine ax_Tasi (n := 40) ok_X5_push.1 (by decide +kernel) (by decide) rfl g4 ?_
        obtain ⟨S5, eS5, h⟩ := ax_let_e h
        rw [eS5]
        refine ax_Tgo [.aload_n 0, .dup, .getfield 24, .iconst 1, .iadd, .putfield 24] (pc' := 59) (L' := [some (.inr (5, i0)), some (.inl (.long a1)), none]) (st' := []) (S' := (ax_sfi S5 5 i0 3 ((ax_fi S5 5 i0 3) + (1 : Int32)))) ok_X5_push.1 (by decide +kernel) rfl rfl ?_
        obtain ⟨S6, eS6, h⟩ := ax_let_e h
        rw [eS6]
        cases h
        exact ax_Tretv (by decide +kernel) rfl
      · rw [if_neg c3] at h
        refine ax_Tgo [.ldc 113] (pc' := 43) (L' := [some (.inr (5, i0)), some (.inl (.long a1)), none]) (st' := [.inl (.int (-1000000 : Int32)), .inl (.int (ax_fi S 5 i0 3)), .inr (31, i0)]) (S' := S) ok_X5_push.1 (by decide +kernel) rfl rfl ?_
        refine ax_Tgoto (off := 5) (tgt := 48) (by decide +kernel) (by decide) ?_
        obtain ⟨g7, h⟩ := ax_gd_e h
        refine ax_Tasi (n := 40) ok_X5_push.1 (by decide +kernel) (by decide) rfl g7 ?_
        obtain ⟨S8, eS8, h⟩ := ax_let_e h
        rw [eS8]
        refine ax_Tgo [.aload_n 0, .dup, .getfield 24, .iconst 1, .iadd, .putfield 24] (pc' := 59) (L' := [some (.inr (5, i0)), some (.inl (.long a1)), none]) (st' := []) (S' := (ax_sfi S8 5 i0 3 ((ax_fi S8 5 i0 3) + (1 : Int32)))) ok_X5_push.1 (by decide +kernel) rfl rfl ?_
        obtain ⟨S9, eS9, h⟩ := ax_let_e h
        rw [eS9]
        cases h
        exact ax_Tretv (by decide +kernel) rfl
    · rw [if_neg c2] at h
      refine ax_Tgo [.ldc 110] (pc' := 30) (L' := [some (.inr (5, i0)), some (.inl (.long a1)), none]) (st' := [.inl (.int (1000000 : Int32)), .inl (.int (ax_fi S 5 i0 3)), .inr (31, i0)]) (S' := S) ok_X5_push.1 (by decide +kernel) rfl rfl ?_
      refine ax_Tgoto (off := 18) (tgt := 48) (by decide +kernel) (by decide) ?_
      obtain ⟨g10, h⟩ := ax_gd_e h
      refine ax_Tasi (n := 40) ok_X5_push.1 (by decide +kernel) (by decide) rfl g10 ?_
      obtain ⟨S11, eS11, h⟩ := ax_let_e h
      rw [eS11]
      refine ax_Tgo [.aload_n 0, .dup, .getfield 24, .iconst 1, .iadd, .putfield 24] (pc' := 59) (L' := [some (.inr (5, i0)), some (.inl (.long a1)), none]) (st' := []) (S' := (ax_sfi S11 5 i0 3 ((ax_fi S11 5 i0 3) + (1 : Int32)))) ok_X5_push.1 (by decide +kernel) rfl rfl ?_
      obtain ⟨S12, eS12, h⟩ := ax_let_e h
      rw [eS12]
      cases h
      exact ax_Tretv (by decide +kernel) rfl
def f_X5_pop (i0 : Nat) (S : AS) : Option (Int32 × AS) := (if (0 : Int32) < (ax_fi S 5 i0 3) then ax_let (ax_sfi S 5 i0 3 ((ax_fi S 5 i0 3) - (1 : Int32))) (fun (S2 : AS) => ax_gd (ax_in (ax_fi S2 5 i0 3) 40) (some ((ax_ai S2 31 i0 (ax_fi S2 5 i0 3).toNatClampNeg), S2))) else some ((0 : Int32), S))
set_option maxRecDepth 100000 in
theorem t_X5_pop {l : Launch} {i0 : Nat} {S Z : AS} {r : Int32} (h : f_X5_pop i0 S = some (r, Z)) : ax_M l 0 ma_X5_pop [.inr (5, i0)] S (some (.inl (.int r))) Z := by
  unfold f_X5_pop at h
  show ax_T l 0 ma_X5_pop (0, [some (.inr (5, i0))], [], S) (some (.inl (.int r))) Z
  refine ax_Tgo [.aload_n 0, .getfield 24] (pc' := 4) (L' := [some (.inr (5, i0))]) (st' := [.inl (.int (ax_fi S 5 i0 3))]) (S' := S) ok_X5_pop.1 (by decide +kernel) rfl rfl ?_
  refine ax_Tif_gt (off := 5) (tgt := 9) (by decide +kernel) (by decide) (fun c1 => ?_) (fun c1 => ?_)
  · rw [if_pos c1] at h
    refine ax_Tgo [.aload_n 0, .dup, .getfield 24, .iconst 1, .isub, .putfield 24] (pc' := 19) (L' := [some (.inr (5, i0))]) (st' := []) (S' := (ax_sfi S 5 i0 3 ((ax_fi S 5 i0 3) - (1 : Int32)))) ok_X5_pop.1 (by decide +kernel) rfl rfl ?_
    obtain ⟨S2, eS2, h⟩ := ax_let_e h
    rw [eS2]
    refine ax_Tgo [.aload_n 0, .getfield 17, .aload_n 0, .getfield 24] (pc' := 27) (L' := [some (.inr (5, i0))]) (st' := [.inl (.int (ax_fi S2 5 i0 3)), .inr (31, i0)]) (S' := S2) ok_X5_pop.1 (by decide +kernel) rfl rfl ?_
    obtain ⟨g3, h⟩ := ax_gd_e h
    refine ax_Tali (n := 40) ok_X5_pop.1 (by decide +kernel) (by decide) rfl g3 ?_
    cases h
    exact ax_Treti (by decide +kernel) rfl rfl
  · rw [if_neg c1] at h
    refine ax_Tgo [.iconst 0] (pc' := 8) (L' := [some (.inr (5, i0))]) (st' := [.inl (.int (0 : Int32))]) (S' := S) ok_X5_pop.1 (by decide +kernel) rfl rfl ?_
    cases h
    exact ax_Treti (by decide +kernel) rfl rfl
def f_X5_joined (a0 : Int32) (a1 : Int64) (a2 : Int64) (S : AS) : Option (Int64) := (if a0 = (2 : Int32) then some (a1 + a2) else if a0 = (3 : Int32) then some (a1 - a2) else if a0 = (4 : Int32) then some (a1 * a2) else if a0 = (5 : Int32) then (if (lg_cmp a2 (0 : Int64)) = (0 : Int32) then some (0 : Int64) else ax_gd (ax_nzl a2) (some (a1 / a2))) else if a0 = (6 : Int32) then (if (lg_cmp a1 a2) = (0 : Int32) then some (1 : Int64) else some (0 : Int64)) else if a0 = (7 : Int32) then (if (0 : Int32) ≤ (lg_cmp a1 a2) then some (0 : Int64) else some (1 : Int64)) else if a0 = (8 : Int32) then (if (lg_cmp a1 a2) ≤ (0 : Int32) then some (0 : Int64) else some (1 : Int64)) else if a0 = (9 : Int32) then some (a1 &&& a2) else some (a1 ||| a2))
set_option maxRecDepth 100000 in
theorem t_X5_joined {l : Launch} {a0 : Int32} {a1 : Int64} {a2 : Int64} {S : AS} {r : Int64} (h : f_X5_joined a0 a1 a2 S = some r) : ax_M l 0 ma_X5_joined [.inl (.int a0), .inl (.long a1), .inl (.long a2)] S (some (.inl (.long r))) S := by
  unfold f_X5_joined at h
  show ax_T l 0 ma_X5_joined (0, [some (.inl (.int a0)), some (.inl (.long a1)), none, some (.inl (.long a2)), none], [], S) (some (.inl (.long r))) S
  refine ax_Tgo [.iload_n 0] (pc' := 1) (L' := [some (.inl (.int a0)), some (.inl (.long a1)), none, some (.inl (.long a2)), none]) (st' := [.inl (.int a0)]) (S' := S) ok_X5_joined.1 (by decide +kernel) rfl rfl ?_
  by_cases c1 : a0 = (2 : Int32)
  · rw [if_pos c1] at h
    refine ax_TtIn (dflt := 113) (lo := 2) (hi := 9) (offs := #[47, 51, 55, 59, 73, 85, 97, 109]) (len := 47) (off := 47) (tgt := 48) (by decide +kernel) (by rw [c1]; decide) (by rw [c1]; decide) (by rw [c1]; rfl) (by decide) ?_
    refine ax_Tgo [.lload_n 1, .lload_n 3, .ladd] (pc' := 51) (L' := [some (.inl (.int a0)), some (.inl (.long a1)), none, some (.inl (.long a2)), none]) (st' := [.inl (.long (a1 + a2))]) (S' := S) ok_X5_joined.1 (by decide +kernel) rfl rfl ?_
    cases h
    exact ax_Tretl (by decide +kernel) rfl
  · rw [if_neg c1] at h
    by_cases c2 : a0 = (3 : Int32)
    · rw [if_pos c2] at h
      refine ax_TtIn (dflt := 113) (lo := 2) (hi := 9) (offs := #[47, 51, 55, 59, 73, 85, 97, 109]) (len := 47) (off := 51) (tgt := 52) (by decide +kernel) (by rw [c2]; decide) (by rw [c2]; decide) (by rw [c2]; rfl) (by decide) ?_
      refine ax_Tgo [.lload_n 1, .lload_n 3, .lsub] (pc' := 55) (L' := [some (.inl (.int a0)), some (.inl (.long a1)), none, some (.inl (.long a2)), none]) (st' := [.inl (.long (a1 - a2))]) (S' := S) ok_X5_joined.1 (by decide +kernel) rfl rfl ?_
      cases h
      exact ax_Tretl (by decide +kernel) rfl
    · rw [if_neg c2] at h
      by_cases c3 : a0 = (4 : Int32)
      · rw [if_pos c3] at h
        refine ax_TtIn (dflt := 113) (lo := 2) (hi := 9) (offs := #[47, 51, 55, 59, 73, 85, 97, 109]) (len := 47) (off := 55) (tgt := 56) (by decide +kernel) (by rw [c3]; decide) (by rw [c3]; decide) (by rw [c3]; rfl) (by decide) ?_
        refine ax_Tgo [.lload_n 1, .lload_n 3, .lmul] (pc' := 59) (L' := [some (.inl (.int a0)), some (.inl (.long a1)), none, some (.inl (.long a2)), none]) (st' := [.inl (.long (a1 * a2))]) (S' := S) ok_X5_joined.1 (by decide +kernel) rfl rfl ?_
        cases h
        exact ax_Tretl (by decide +kernel) rfl
      · rw [if_neg c3] at h
        by_cases c4 : a0 = (5 : Int32)
        · rw [if_pos c4] at h
          refine ax_TtIn (dflt := 113) (lo := 2) (hi := 9) (offs := #[47, 51, 55, 59, 73, 85, 97, 109]) (len := 47) (off := 59) (tgt := 60) (by decide +kernel) (by rw [c4]; decide) (by rw [c4]; decide) (by rw [c4]; rfl) (by decide) ?_
          refine ax_Tgo [.lload_n 3, .lconst 0, .lcmp] (pc' := 63) (L' := [some (.inl (.int a0)), some (.inl (.long a1)), none, some (.inl (.long a2)), none]) (st' := [.inl (.int (lg_cmp a2 (0 : Int64)))]) (S' := S) ok_X5_joined.1 (by decide +kernel) rfl rfl ?_
          refine ax_Tif_ne (off := 7) (tgt := 70) (by decide +kernel) (by decide) (fun c5 => ?_) (fun c5 => ?_)
          · rw [if_neg c5] at h
            refine ax_Tgo [.lload_n 1, .lload_n 3] (pc' := 72) (L' := [some (.inl (.int a0)), some (.inl (.long a1)), none, some (.inl (.long a2)), none]) (st' := [.inl (.long a2), .inl (.long a1)]) (S' := S) ok_X5_joined.1 (by decide +kernel) rfl rfl ?_
            obtain ⟨g6, h⟩ := ax_gd_e h
            refine ax_Tldiv ok_X5_joined.1 (by decide +kernel) g6 ?_
            cases h
            exact ax_Tretl (by decide +kernel) rfl
          · rw [if_pos c5] at h
            refine ax_Tgo [.lconst 0] (pc' := 67) (L' := [some (.inl (.int a0)), some (.inl (.long a1)), none, some (.inl (.long a2)), none]) (st' := [.inl (.long (0 : Int64))]) (S' := S) ok_X5_joined.1 (by decide +kernel) rfl rfl ?_
            refine ax_Tgoto (off := 6) (tgt := 73) (by decide +kernel) (by decide) ?_
            cases h
            exact ax_Tretl (by decide +kernel) rfl
        · rw [if_neg c4] at h
          by_cases c7 : a0 = (6 : Int32)
          · rw [if_pos c7] at h
            refine ax_TtIn (dflt := 113) (lo := 2) (hi := 9) (offs := #[47, 51, 55, 59, 73, 85, 97, 109]) (len := 47) (off := 73) (tgt := 74) (by decide +kernel) (by rw [c7]; decide) (by rw [c7]; decide) (by rw [c7]; rfl) (by decide) ?_
            refine ax_Tgo [.lload_n 1, .lload_n 3, .lcmp] (pc' := 77) (L' := [some (.inl (.int a0)), some (.inl (.long a1)), none, some (.inl (.long a2)), none]) (st' := [.inl (.int (lg_cmp a1 a2))]) (S' := S) ok_X5_joined.1 (by decide +kernel) rfl rfl ?_
            refine ax_Tif_ne (off := 7) (tgt := 84) (by decide +kernel) (by decide) (fun c8 => ?_) (fun c8 => ?_)
            · rw [if_neg c8] at h
              refine ax_Tgo [.lconst 0] (pc' := 85) (L' := [some (.inl (.int a0)), some (.inl (.long a1)), none, some (.inl (.long a2)), none]) (st' := [.inl (.long (0 : Int64))]) (S' := S) ok_X5_joined.1 (by decide +kernel) rfl rfl ?_
              cases h
              exact ax_Tretl (by decide +kernel) rfl
            · rw [if_pos c8] at h
              refine ax_Tgo [.lconst 1] (pc' := 81) (L' := [some (.inl (.int a0)), some (.inl (.long a1)), none, some (.inl (.long a2)), none]) (st' := [.inl (.long (1 : Int64))]) (S' := S) ok_X5_joined.1 (by decide +kernel) rfl rfl ?_
              refine ax_Tgoto (off := 4) (tgt := 85) (by decide +kernel) (by decide) ?_
              cases h
              exact ax_Tretl (by decide +kernel) rfl
          · rw [if_neg c7] at h
            by_cases c9 : a0 = (7 : Int32)
            · rw [if_pos c9] at h
              refine ax_TtIn (dflt := 113) (lo := 2) (hi := 9) (offs := #[47, 51, 55, 59, 73, 85, 97, 109]) (len := 47) (off := 85) (tgt := 86) (by decide +kernel) (by rw [c9]; decide) (by rw [c9]; decide) (by rw [c9]; rfl) (by decide) ?_
              refine ax_Tgo [.lload_n 1, .lload_n 3, .lcmp] (pc' := 89) (L' := [some (.inl (.int a0)), some (.inl (.long a1)), none, some (.inl (.long a2)), none]) (st' := [.inl (.int (lg_cmp a1 a2))]) (S' := S) ok_X5_joined.1 (by decide +kernel) rfl rfl ?_
              refine ax_Tif_ge (off := 7) (tgt := 96) (by decide +kernel) (by decide) (fun c10 => ?_) (fun c10 => ?_)
              · rw [if_pos c10] at h
                refine ax_Tgo [.lconst 0] (pc' := 97) (L' := [some (.inl (.int a0)), some (.inl (.long a1)), none, some (.inl (.long a2)), none]) (st' := [.inl (.long (0 : Int64))]) (S' := S) ok_X5_joined.1 (by decide +kernel) rfl rfl ?_
                cases h
                exact ax_Tretl (by decide +kernel) rfl
              · rw [if_neg c10] at h
                refine ax_Tgo [.lconst 1] (pc' := 93) (L' := [some (.inl (.int a0)), some (.inl (.long a1)), none, some (.inl (.long a2)), none]) (st' := [.inl (.long (1 : Int64))]) (S' := S) ok_X5_joined.1 (by decide +kernel) rfl rfl ?_
                refine ax_Tgoto (off := 4) (tgt := 97) (by decide +kernel) (by decide) ?_
                cases h
                exact ax_Tretl (by decide +kernel) rfl
            · rw [if_neg c9] at h
              by_cases c11 : a0 = (8 : Int32)
              · rw [if_pos c11] at h
                refine ax_TtIn (dflt := 113) (lo := 2) (hi := 9) (offs := #[47, 51, 55, 59, 73, 85, 97, 109]) (len := 47) (off := 97) (tgt := 98) (by decide +kernel) (by rw [c11]; decide) (by rw [c11]; decide) (by rw [c11]; rfl) (by decide) ?_
                refine ax_Tgo [.lload_n 1, .lload_n 3, .lcmp] (pc' := 101) (L' := [some (.inl (.int a0)), some (.inl (.long a1)), none, some (.inl (.long a2)), none]) (st' := [.inl (.int (lg_cmp a1 a2))]) (S' := S) ok_X5_joined.1 (by decide +kernel) rfl rfl ?_
                refine ax_Tif_le (off := 7) (tgt := 108) (by decide +kernel) (by decide) (fun c12 => ?_) (fun c12 => ?_)
                · rw [if_pos c12] at h
                  refine ax_Tgo [.lconst 0] (pc' := 109) (L' := [some (.inl (.int a0)), some (.inl (.long a1)), none, some (.inl (.long a2)), none]) (st' := [.inl (.long (0 : Int64))]) (S' := S) ok_X5_joined.1 (by decide +kernel) rfl rfl ?_
                  cases h
                  exact ax_Tretl (by decide +kernel) rfl
                · rw [if_neg c12] at h
                  refine ax_Tgo [.lconst 1] (pc' := 105) (L' := [some (.inl (.int a0)), some (.inl (.long a1)), none, some (.inl (.long a2)), none]) (st' := [.inl (.long (1 : Int64))]) (S' := S) ok_X5_joined.1 (by decide +kernel) rfl rfl ?_
                  refine ax_Tgoto (off := 4) (tgt := 109) (by decide +kernel) (by decide) ?_
                  cases h
                  exact ax_Tretl (by decide +kernel) rfl
              · rw [if_neg c11] at h
                by_cases c13 : a0 = (9 : Int32)
                · rw [if_pos c13] at h
                  refine ax_TtIn (dflt := 113) (lo := 2) (hi := 9) (offs := #[47, 51, 55, 59, 73, 85, 97, 109]) (len := 47) (off := 109) (tgt := 110) (by decide +kernel) (by rw [c13]; decide) (by rw [c13]; decide) (by rw [c13]; rfl) (by decide) ?_
                  refine ax_Tgo [.lload_n 1, .lload_n 3, .land] (pc' := 113) (L' := [some (.inl (.int a0)), some (.inl (.long a1)), none, some (.inl (.long a2)), none]) (st' := [.inl (.long (a1 &&& a2))]) (S' := S) ok_X5_joined.1 (by decide +kernel) rfl rfl ?_
                  cases h
                  exact ax_Tretl (by decide +kernel) rfl
                · rw [if_neg c13] at h
                  refine ax_TtOut (dflt := 113) (lo := 2) (hi := 9) (offs := #[47, 51, 55, 59, 73, 85, 97, 109]) (len := 47) (tgt := 114) (by decide +kernel) (by have zc1 := lv_neT (a := 2) c1 rfl; have zc2 := lv_neT (a := 3) c2 rfl; have zc3 := lv_neT (a := 4) c3 rfl; have zc4 := lv_neT (a := 5) c4 rfl; have zc7 := lv_neT (a := 6) c7 rfl; have zc9 := lv_neT (a := 7) c9 rfl; have zc11 := lv_neT (a := 8) c11 rfl; have zc13 := lv_neT (a := 9) c13 rfl; omega) (by decide) ?_
                  refine ax_Tgo [.lload_n 1, .lload_n 3, .lor] (pc' := 117) (L' := [some (.inl (.int a0)), some (.inl (.long a1)), none, some (.inl (.long a2)), none]) (st' := [.inl (.long (a1 ||| a2))]) (S' := S) ok_X5_joined.1 (by decide +kernel) rfl rfl ?_
                  cases h
                  exact ax_Tretl (by decide +kernel) rfl
def f_X5_worth_32x0_L9 : Nat → Nat → Int32 → Int32 → AS → Option (Int32 × AS)
  | 0, _, _, _, _ => none
  | n + 1, y2, x3, x4, S5 => (if (ax_fi S5 5 y2 2) ≤ x4 then some ((0 : Int32), S5) else ax_gd (ax_in x4 241) (ax_let ((ax_ai S5 30 y2 x4.toNatClampNeg) &&& (255 : Int32)) (fun (v8 : Int32) => ax_gd (ax_in x4 241) (ax_let ((ax_ai S5 30 y2 x4.toNatClampNeg).toUInt32 >>> ((8 : Int32).toUInt32 &&& Int32.toUInt32 31)).toInt32 (fun (v10 : Int32) => (if x3 ≤ x4 then (if v8 = (0 : Int32) then (f_X5_push y2 (v10.toInt64) S5).bind (fun (S13 : AS) => ax_let (x4 + (1 : Int32)) (fun (v16 : Int32) => f_X5_worth_32x0_L9 n y2 x3 v16 S13)) else if v8 = (1 : Int32) then (if (Int32.ofNat 6) ≤ v10 then (f_X5_push y2 (0 : Int64) S5).bind (fun (S19 : AS) => ax_let (x4 + (1 : Int32)) (fun (v22 : Int32) => f_X5_worth_32x0_L9 n y2 x3 v22 S19)) else ax_gd (ax_in v10 6) ((f_X5_push y2 (ax_ai S5 32 0 v10.toNatClampNeg).toInt64 S5).bind (fun (S24 : AS) => ax_let (x4 + (1 : Int32)) (fun (v27 : Int32) => f_X5_worth_32x0_L9 n y2 x3 v27 S24)))) else if v8 = (2 : Int32) then ax_bu (f_X5_pop y2 S5) (fun (r32 : Int32) (S29 : AS) => ax_bu (f_X5_pop y2 S29) (fun (r36 : Int32) (S33 : AS) => (f_X5_joined v8 (r36.toInt64) (r32.toInt64) S33).bind (fun (r40 : Int64) => (f_X5_push y2 r40 S33).bind (fun (S41 : AS) => ax_let (x4 + (1 : Int32)) (fun (v44 : Int32) => f_X5_worth_32x0_L9 n y2 x3 v44 S41))))) else if v8 = (3 : Int32) then ax_bu (f_X5_pop y2 S5) (fun (r49 : Int32) (S46 : AS) => ax_bu (f_X5_pop y2 S46) (fun (r53 : Int32) (S50 : AS) => (f_X5_joined v8 (r53.toInt64) (r49.toInt64) S50).bind (fun (r57 : Int64) => (f_X5_push y2 r57 S50).bind (fun (S58 : AS) => ax_let (x4 + (1 : Int32)) (fun (v61 : Int32) => f_X5_worth_32x0_L9 n y2 x3 v61 S58))))) else if v8 = (4 : Int32) then ax_bu (f_X5_pop y2 S5) (fun (r66 : Int32) (S63 : AS) => ax_bu (f_X5_pop y2 S63) (fun (r70 : Int32) (S67 : AS) => (f_X5_joined v8 (r70.toInt64) (r66.toInt64) S67).bind (fun (r74 : Int64) => (f_X5_push y2 r74 S67).bind (fun (S75 : AS) => ax_let (x4 + (1 : Int32)) (fun (v78 : Int32) => f_X5_worth_32x0_L9 n y2 x3 v78 S75))))) else if v8 = (5 : Int32) then ax_bu (f_X5_pop y2 S5) (fun (r83 : Int32) (S80 : AS) => ax_bu (f_X5_pop y2 S80) (fun (r87 : Int32) (S84 : AS) => (f_X5_joined v8 (r87.toInt64) (r83.toInt64) S84).bind (fun (r91 : Int64) => (f_X5_push y2 r91 S84).bind (fun (S92 : AS) => ax_let (x4 + (1 : Int32)) (fun (v95 : Int32) => f_X5_worth_32x0_L9 n y2 x3 v95 S92))))) else if v8 = (6 : Int32) then ax_bu (f_X5_pop y2 S5) (fun (r100 : Int32) (S97 : AS) => ax_bu (f_X5_pop y2 S97) (fun (r104 : Int32) (S101 : AS) => (f_X5_joined v8 (r104.toInt64) (r100.toInt64) S101).bind (fun (r108 : Int64) => (f_X5_push y2 r108 S101).bind (fun (S109 : AS) => ax_let (x4 + (1 : Int32)) (fun (v112 : Int32) => f_X5_worth_32x0_L9 n y2 x3 v112 S109))))) else if v8 = (7 : Int32) then ax_bu (f_X5_pop y2 S5) (fun (r117 : Int32) (S114 : AS) => ax_bu (f_X5_pop y2 S114) (fun (r121 : Int32) (S118 : AS) => (f_X5_joined v8 (r121.toInt64) (r117.toInt64) S118).bind (fun (r125 : Int64) => (f_X5_push y2 r125 S118).bind (fun (S126 : AS) => ax_let (x4 + (1 : Int32)) (fun (v129 : Int32) => f_X5_worth_32x0_L9 n y2 x3 v129 S126))))) else if v8 = (8 : Int32) then ax_bu (f_X5_pop y2 S5) (fun (r134 : Int32) (S131 : AS) => ax_bu (f_X5_pop y2 S131) (fun (r138 : Int32) (S135 : AS) => (f_X5_joined v8 (r138.toInt64) (r134.toInt64) S135).bind (fun (r142 : Int64) => (f_X5_push y2 r142 S135).bind (fun (S143 : AS) => ax_let (x4 + (1 : Int32)) (fun (v146 : Int32) => f_X5_worth_32x0_L9 n y2 x3 v146 S143))))) else if v8 = (9 : Int32) then ax_bu (f_X5_pop y2 S5) (fun (r151 : Int32) (S148 : AS) => ax_bu (f_X5_pop y2 S148) (fun (r155 : Int32) (S152 : AS) => (f_X5_joined v8 (r155.toInt64) (r151.toInt64) S152).bind (fun (r159 : Int64) => (f_X5_push y2 r159 S152).bind (fun (S160 : AS) => ax_let (x4 + (1 : Int32)) (fun (v163 : Int32) => f_X5_worth_32x0_L9 n y2 x3 v163 S160))))) else if v8 = (10 : Int32) then ax_bu (f_X5_pop y2 S5) (fun (r168 : Int32) (S165 : AS) => ax_bu (f_X5_pop y2 S165) (fun (r172 : Int32) (S169 : AS) => (f_X5_joined v8 (r172.toInt64) (r168.toInt64) S169).bind (fun (r176 : Int64) => (f_X5_push y2 r176 S169).bind (fun (S177 : AS) => ax_let (x4 + (1 : Int32)) (fun (v180 : Int32) => f_X5_worth_32x0_L9 n y2 x3 v180 S177))))) else if v8 = (11 : Int32) then ax_bu (f_X5_pop y2 S5) (fun (r185 : Int32) (S182 : AS) => (f_X5_push y2 ((1 : Int32) - r185).toInt64 S182).bind (fun (S186 : AS) => ax_let (x4 + (1 : Int32)) (fun (v189 : Int32) => f_X5_worth_32x0_L9 n y2 x3 v189 S186))) else if v8 = (12 : Int32) then ax_bu (f_X5_pop y2 S5) (fun (r194 : Int32) (S191 : AS) => (if r194 = (0 : Int32) then ax_let (x4 + (1 : Int32)) (fun (v197 : Int32) => f_X5_worth_32x0_L9 n y2 v10 v197 S191) else ax_let (x4 + (1 : Int32)) (fun (v196 : Int32) => f_X5_worth_32x0_L9 n y2 x3 v196 S191))) else if v8 = (13 : Int32) then ax_bu (f_X5_pop y2 S5) (fun (r202 : Int32) (S199 : AS) => some (r202, S199)) else ax_bu (f_X5_pop y2 S5) (fun (r206 : Int32) (S203 : AS) => ax_bu (f_X5_pop y2 S203) (fun (r210 : Int32) (S207 : AS) => (f_X5_joined v8 (r210.toInt64) (r206.toInt64) S207).bind (fun (r214 : Int64) => (f_X5_push y2 r214 S207).bind (fun (S215 : AS) => ax_let (x4 + (1 : Int32)) (fun (v218 : Int32) => f_X5_worth_32x0_L9 n y2 x3 v218 S215)))))) else ax_let (x4 + (1 : Int32)) (fun (v219 : Int32) => f_X5_worth_32x0_L9 n y2 x3 v219 S5)))))))
def f_X5_worth_32x0 (i0 : Nat) (S : AS) : Option (Int32 × AS) := ax_let (ax_sfi S 5 i0 3 (0 : Int32)) (fun (S1 : AS) => f_X5_worth_32x0_L9 ax_F i0 (0 : Int32) (0 : Int32) S1)
set_option maxRecDepth 100000 in
theorem t_X5_worth_32x0_L9 {l : Launch} : ∀ (n : Nat) (y2 : Nat) (x3 : Int32) (x4 : Int32) (S5 : AS) r Z, f_X5_worth_32x0_L9 n y2 x3 x4 S5 = some (r, Z) → ax_T l 1 ma_X5_worth (9, [some (.inr (5, y2)), some (.inr (32, 0)), some (.inl (.int x3)), some (.inl (.int x4)), none, none, none, none], [], S5) (some (.inl (.int r))) Z := by
  intro n
  induction n with
  | zero =>
    intro y2 x3 x4 S5 r Z h
    cases h
  | succ n ih =>
    intro y2 x3 x4 S5 r Z h
    unfold f_X5_worth_32x0_L9 at h
    refine ax_Tgo [.iload_n 3, .aload_n 0, .getfield 20] (pc' := 14) (L' := [some (.inr (5, y2)), some (.inr (32, 0)), some (.inl (.int x3)), some (.inl (.int x4)), none, none, none, none]) (st' := [.inl (.int (ax_fi S5 5 y2 2)), .inl (.int x4)]) (S' := S5) ok_X5_worth.1 (by decide +kernel) rfl rfl ?_
    refine ax_Tic_ge (off := 208) (tgt := 222) (by decide +kernel) (by decide) (fun c6 => ?_) (fun c6 => ?_)
    · rw [if_pos c6] at h
      refine ax_Tgo [.iconst 0] (pc' := 223) (L' := [some (.inr (5, y2)), some (.inr (32, 0)), some (.inl (.int x3)), some (.inl (.int x4)), none, none, none, none]) (st' := [.inl (.int (0 : Int32))]) (S' := S5) ok_X5_worth.1 (by decide +kernel) rfl rfl ?_
      cases h
      exact ax_Treti (by decide +kernel) rfl rfl
    · rw [if_neg c6] at h
      refine ax_Tgo [.aload_n 0, .getfield 11, .iload_n 3] (pc' := 22) (L' := [some (.inr (5, y2)), some (.inr (32, 0)), some (.inl (.int x3)), some (.inl (.int x4)), none, none, none, none]) (st' := [.inl (.int x4), .inr (30, y2)]) (S' := S5) ok_X5_worth.1 (by decide +kernel) rfl rfl ?_
      obtain ⟨g7, h⟩ := ax_gd_e h
      refine ax_Tali (n := 241) ok_X5_worth.1 (by decide +kernel) (by decide) rfl g7 ?_
      refine ax_Tgo [.sipush 255, .iand, .istore 4] (pc' := 29) (L' := [some (.inr (5, y2)), some (.inr (32, 0)), some (.inl (.int x3)), some (.inl (.int x4)), some (.inl (.int ((ax_ai S5 30 y2 x4.toNatClampNeg) &&& (255 : Int32)))), none, none, none]) (st' := []) (S' := S5) ok_X5_worth.1 (by decide +kernel) rfl rfl ?_
      obtain ⟨v8, ev8, h⟩ := ax_let_e h
      rw [ev8]
      refine ax_Tgo [.aload_n 0, .getfield 11, .iload_n 3] (pc' := 34) (L' := [some (.inr (5, y2)), some (.inr (32, 0)), some (.inl (.int x3)), some (.inl (.int x4)), some (.inl (.int v8)), none, none, none]) (st' := [.inl (.int x4), .inr (30, y2)]) (S' := S5) ok_X5_worth.1 (by decide +kernel) rfl rfl ?_
      obtain ⟨g9, h⟩ := ax_gd_e h
      refine ax_Tali (n := 241) ok_X5_worth.1 (by decide +kernel) (by decide) rfl g9 ?_
      refine ax_Tgo [.bipush 8, .iushr, .istore 5] (pc' := 40) (L' := [some (.inr (5, y2)), some (.inr (32, 0)), some (.inl (.int x3)), some (.inl (.int x4)), some (.inl (.int v8)), some (.inl (.int ((ax_ai S5 30 y2 x4.toNatClampNeg).toUInt32 >>> ((8 : Int32).toUInt32 &&& Int32.toUInt32 31)).toInt32)), none, none]) (st' := []) (S' := S5) ok_X5_worth.1 (by decide +kernel) rfl rfl ?_
      obtain ⟨v10, ev10, h⟩ := ax_let_e h
      rw [ev10]
      refine ax_Tgo [.iload_n 3, .iload_n 2] (pc' := 42) (L' := [some (.inr (5, y2)), some (.inr (32, 0)), some (.inl (.int x3)), some (.inl (.int x4)), some (.inl (.int v8)), some (.inl (.int v10)), none, none]) (st' := [.inl (.int x3), .inl (.int x4)]) (S' := S5) ok_X5_worth.1 (by decide +kernel) rfl rfl ?_
      refine ax_Tic_ge (off := 6) (tgt := 48) (by decide +kernel) (by decide) (fun c11 => ?_) (fun c11 => ?_)
      · rw [if_pos c11] at h
        refine ax_Tgo [.iload 4] (pc' := 50) (L' := [some (.inr (5, y2)), some (.inr (32, 0)), some (.inl (.int x3)), some (.inl (.int x4)), some (.inl (.int v8)), some (.inl (.int v10)), none, none]) (st' := [.inl (.int v8)]) (S' := S5) ok_X5_worth.1 (by decide +kernel) rfl rfl ?_
        by_cases c12 : v8 = (0 : Int32)
        · rw [if_pos c12] at h
          refine ax_TtIn (dflt := 139) (lo := 0) (hi := 13) (offs := #[92, 102, 139, 139, 139, 139, 139, 139, 139, 139, 139, 125, 75, 70]) (len := 70) (off := 92) (tgt := 142) (by decide +kernel) (by rw [c12]; decide) (by rw [c12]; decide) (by rw [c12]; rfl) (by decide) ?_
          refine ax_Tgo [.aload_n 0, .iload 5, .i2l] (pc' := 146) (L' := [some (.inr (5, y2)), some (.inr (32, 0)), some (.inl (.int x3)), some (.inl (.int x4)), some (.inl (.int v8)), some (.inl (.int v10)), none, none]) (st' := [.inl (.long v10.toInt64), .inr (5, y2)]) (S' := S5) ok_X5_worth.1 (by decide +kernel) rfl rfl ?_
          obtain ⟨S13, hq14, h⟩ := ax_bd_e h
          refine ax_TVv (d := 0) (ka := 5) (i := y2) [.inl (.long v10.toInt64)] [] lk_X5_100 (by decide +kernel) rfl (by decide) rfl (Nat.le_of_ble_eq_true rfl) (Nat.le_of_ble_eq_true rfl) ((t_X5_push hq14).up (by decide)) ?_
          refine ax_Tgoto (off := 67) (tgt := 216) (by decide +kernel) (by decide) ?_
          refine ax_Tgo [.iinc 3 1] (pc' := 219) (L' := [some (.inr (5, y2)), some (.inr (32, 0)), some (.inl (.int x3)), some (.inl (.int (x4 + (1 : Int32)))), some (.inl (.int v8)), some (.inl (.int v10)), none, none]) (st' := []) (S' := S13) ok_X5_worth.1 (by decide +kernel) rfl rfl ?_
          obtain ⟨v16, ev16, h⟩ := ax_let_e h
          rw [ev16]
          refine ax_Tgoto (off := (-210)) (tgt := 9) (by decide +kernel) (by decide) ?_
          refine ax_Tdrop [true, true, true, true, false, false, true, true] (L' := [some (.inr (5, y2)), some (.inr (32, 0)), some (.inl (.int x3)), some (.inl (.int v16)), none, none, none, none]) rfl ?_
          exact ih y2 x3 v16 S13 _ _ h
        · rw [if_neg c12] at h
          by_cases c17 : v8 = (1 : Int32)
          · rw [if_pos c17] at h
            refine ax_TtIn (dflt := 139) (lo := 0) (hi := 13) (offs := #[92, 102, 139, 139, 139, 139, 139, 139, 139, 139, 139, 125, 75, 70]) (len := 70) (off := 102) (tgt := 152) (by decide +kernel) (by rw [c17]; decide) (by rw [c17]; decide) (by rw [c17]; rfl) (by decide) ?_
            refine ax_Tgo [.aload_n 0, .iload 5, .aload_n 1, .arraylength] (pc' := 157) (L' := [some (.inr (5, y2)), some (.inr (32, 0)), some (.inl (.int x3)), some (.inl (.int x4)), some (.inl (.int v8)), some (.inl (.int v10)), none, none]) (st' := [.inl (.int (Int32.ofNat 6)), .inl (.int v10), .inr (5, y2)]) (S' := S5) ok_X5_worth.1 (by decide +kernel) rfl rfl ?_
            refine ax_Tic_ge (off := 11) (tgt := 168) (by decide +kernel) (by decide) (fun c18 => ?_) (fun c18 => ?_)
            · rw [if_pos c18] at h
              refine ax_Tgo [.lconst 0] (pc' := 169) (L' := [some (.inr (5, y2)), some (.inr (32, 0)), some (.inl (.int x3)), some (.inl (.int x4)), some (.inl (.int v8)), some (.inl (.int v10)), none, none]) (st' := [.inl (.long (0 : Int64)), .inr (5, y2)]) (S' := S5) ok_X5_worth.1 (by decide +kernel) rfl rfl ?_
              obtain ⟨S19, hq20, h⟩ := ax_bd_e h
              refine ax_TVv (d := 0) (ka := 5) (i := y2) [.inl (.long (0 : Int64))] [] lk_X5_100 (by decide +kernel) rfl (by decide) rfl (Nat.le_of_ble_eq_true rfl) (Nat.le_of_ble_eq_true rfl) ((t_X5_push hq20).up (by decide)) ?_
              refine ax_Tgoto (off := 44) (tgt := 216) (by decide +kernel) (by decide) ?_
              refine ax_Tgo [.iinc 3 1] (pc' := 219) (L' := [some (.inr (5, y2)), some (.inr (32, 0)), some (.inl (.int x3)), some (.inl (.int (x4 + (1 : Int32)))), some (.inl (.int v8)), some (.inl (.int v10)), none, none]) (st' := []) (S' := S19) ok_X5_worth.1 (by decide +kernel) rfl rfl ?_
              obtain ⟨v22, ev22, h⟩ := ax_let_e h
              rw [ev22]
              refine ax_Tgoto (off := (-210)) (tgt := 9) (by decide +kernel) (by decide) ?_
              refine ax_Tdrop [true, true, true, true, false, false, true, true] (L' := [some (.inr (5, y2)), some (.inr (32, 0)), some (.inl (.int x3)), some (.inl (.int v22)), none, none, none, none]) rfl ?_
              exact ih y2 x3 v22 S19 _ _ h
            · rw [if_neg c18] at h
              refine ax_Tgo [.aload_n 1, .iload 5] (pc' := 163) (L' := [some (.inr (5, y2)), some (.inr (32, 0)), some (.inl (.int x3)), some (.inl (.int x4)), some (.inl (.int v8)), some (.inl (.int v10)), none, none]) (st' := [.inl (.int v10), .inr (32, 0), .inr (5, y2)]) (S' := S5) ok_X5_worth.1 (by decide +kernel) rfl rfl ?_
              obtain ⟨g23, h⟩ := ax_gd_e h
              refine ax_Tali (n := 6) ok_X5_worth.1 (by decide +kernel) (by decide) rfl g23 ?_
              refine ax_Tgo [.i2l] (pc' := 165) (L' := [some (.inr (5, y2)), some (.inr (32, 0)), some (.inl (.int x3)), some (.inl (.int x4)), some (.inl (.int v8)), some (.inl (.int v10)), none, none]) (st' := [.inl (.long (ax_ai S5 32 0 v10.toNatClampNeg).toInt64), .inr (5, y2)]) (S' := S5) ok_X5_worth.1 (by decide +kernel) rfl rfl ?_
              refine ax_Tgoto (off := 4) (tgt := 169) (by decide +kernel) (by decide) ?_
              obtain ⟨S24, hq25, h⟩ := ax_bd_e h
              refine ax_TVv (d := 0) (ka := 5) (i := y2) [.inl (.long (ax_ai S5 32 0 v10.toNatClampNeg).toInt64)] [] lk_X5_100 (by decide +kernel) rfl (by decide) rfl (Nat.le_of_ble_eq_true rfl) (Nat.le_of_ble_eq_true rfl) ((t_X5_push hq25).up (by decide)) ?_
              refine ax_Tgoto (off := 44) (tgt := 216) (by decide +kernel) (by decide) ?_
              refine ax_Tgo [.iinc 3 1] (pc' := 219) (L' := [some (.inr (5, y2)), some (.inr (32, 0)), some (.inl (.int x3)), some (.inl (.int (x4 + (1 : Int32)))), some (.inl (.int v8)), some (.inl (.int v10)), none, none]) (st' := []) (S' := S24) ok_X5_worth.1 (by decide +kernel) rfl rfl ?_
              obtain ⟨v27, ev27, h⟩ := ax_let_e h
              rw [ev27]
              refine ax_Tgoto (off := (-210)) (tgt := 9) (by decide +kernel) (by decide) ?_
              refine ax_Tdrop [true, true, true, true, false, false, true, true] (L' := [some (.inr (5, y2)), some (.inr (32, 0)), some (.inl (.int x3)), some (.inl (.int v27)), none, none, none, none]) rfl ?_
              exact ih y2 x3 v27 S24 _ _ h
          · rw [if_neg c17] at h
            by_cases c28 : v8 = (2 : Int32)
            · rw [if_pos c28] at h
              refine ax_TtIn (dflt := 139) (lo := 0) (hi := 13) (offs := #[92, 102, 139, 139, 139, 139, 139, 139, 139, 139, 139, 125, 75, 70]) (len := 70) (off := 139) (tgt := 189) (by decide +kernel) (by rw [c28]; decide) (by rw [c28]; decide) (by rw [c28]; rfl) (by decide) ?_
              refine ax_Tgo [.aload_n 0] (pc' := 190) (L' := [some (.inr (5, y2)), some (.inr (32, 0)), some (.inl (.int x3)), some (.inl (.int x4)), some (.inl (.int v8)), some (.inl (.int v10)), none, none]) (st' := [.inr (5, y2)]) (S' := S5) ok_X5_worth.1 (by decide +kernel) rfl rfl ?_
              obtain ⟨r32, S29, hq30, h⟩ := ax_bu_e h
              refine ax_TVi (d := 0) (ka := 5) (i := y2) [] [] lk_X5_97 (by decide +kernel) rfl (by decide) rfl (Nat.le_of_ble_eq_true rfl) (Nat.le_of_ble_eq_true rfl) ((t_X5_pop hq30).up (by decide)) ?_
              refine ax_Tgo [.istore 6, .aload_n 0] (pc' := 196) (L' := [some (.inr (5, y2)), some (.inr (32, 0)), some (.inl (.int x3)), some (.inl (.int x4)), some (.inl (.int v8)), some (.inl (.int v10)), some (.inl (.int r32)), none]) (st' := [.inr (5, y2)]) (S' := S29) ok_X5_worth.1 (by decide +kernel) rfl rfl ?_
              obtain ⟨r36, S33, hq34, h⟩ := ax_bu_e h
              refine ax_TVi (d := 0) (ka := 5) (i := y2) [] [] lk_X5_97 (by decide +kernel) rfl (by decide) rfl (Nat.le_of_ble_eq_true rfl) (Nat.le_of_ble_eq_true rfl) ((t_X5_pop hq34).up (by decide)) ?_
              refine ax_Tgo [.istore 7, .aload_n 0, .iload 4, .iload 7, .i2l, .iload 6, .i2l] (pc' := 210) (L' := [some (.inr (5, y2)), some (.inr (32, 0)), some (.inl (.int x3)), some (.inl (.int x4)), some (.inl (.int v8)), some (.inl (.int v10)), some (.inl (.int r32)), some (.inl (.int r36))]) (st' := [.inl (.long r32.toInt64), .inl (.long r36.toInt64), .inl (.int v8), .inr (5, y2)]) (S' := S33) ok_X5_worth.1 (by decide +kernel) rfl rfl ?_
              obtain ⟨r40, hq38, h⟩ := ax_bd_e h
              refine ax_TSl (d := 0) [.inl (.int v8), .inl (.long r36.toInt64), .inl (.long r32.toInt64)] [.inr (5, y2)] lk_X5_104 (by decide +kernel) rfl rfl (Nat.le_of_ble_eq_true rfl) (Nat.le_of_ble_eq_true rfl) ((t_X5_joined hq38).up (by decide)) ?_
              obtain ⟨S41, hq42, h⟩ := ax_bd_e h
              refine ax_TVv (d := 0) (ka := 5) (i := y2) [.inl (.long r40)] [] lk_X5_100 (by decide +kernel) rfl (by decide) rfl (Nat.le_of_ble_eq_true rfl) (Nat.le_of_ble_eq_true rfl) ((t_X5_push hq42).up (by decide)) ?_
              refine ax_Tgo [.iinc 3 1] (pc' := 219) (L' := [some (.inr (5, y2)), some (.inr (32, 0)), some (.inl (.int x3)), some (.inl (.int (x4 + (1 : Int32)))), some (.inl (.int v8)), some (.inl (.int v10)), some (.inl (.int r32)), some (.inl (.int r36))]) (st' := []) (S' := S41) ok_X5_worth.1 (by decide +kernel) rfl rfl ?_
              obtain ⟨v44, ev44, h⟩ := ax_let_e h
              rw [ev44]
              refine ax_Tgoto (off := (-210)) (tgt := 9) (by decide +kernel) (by decide) ?_
              refine ax_Tdrop [true, true, true, true, false, false, false, false] (L' := [some (.inr (5, y2)), some (.inr (32, 0)), some (.inl (.int x3)), some (.inl (.int v44)), none, none, none, none]) rfl ?_
              exact ih y2 x3 v44 S41 _ _ h
            · rw [if_neg c28] at h
              by_cases c45 : v8 = (3 : Int32)
              · rw [if_pos c45] at h
                refine ax_TtIn (dflt := 139) (lo := 0) (hi := 13) (offs := #[92, 102, 139, 139, 139, 139, 139, 139, 139, 139, 139, 125, 75, 70]) (len := 70) (off := 139) (tgt := 189) (by decide +kernel) (by rw [c45]; decide) (by rw [c45]; decide) (by rw [c45]; rfl) (by decide) ?_
                refine ax_Tgo [.aload_n 0] (pc' := 190) (L' := [some (.inr (5, y2)), some (.inr (32, 0)), some (.inl (.int x3)), some (.inl (.int x4)), some (.inl (.int v8)), some (.inl (.int v10)), none, none]) (st' := [.inr (5, y2)]) (S' := S5) ok_X5_worth.1 (by decide +kernel) rfl rfl ?_
                obtain ⟨r49, S46, hq47, h⟩ := ax_bu_e h
                refine ax_TVi (d := 0) (ka := 5) (i := y2) [] [] lk_X5_97 (by decide +kernel) rfl (by decide) rfl (Nat.le_of_ble_eq_true rfl) (Nat.le_of_ble_eq_true rfl) ((t_X5_pop hq47).up (by decide)) ?_
                refine ax_Tgo [.istore 6, .aload_n 0] (pc' := 196) (L' := [some (.inr (5, y2)), some (.inr (32, 0)), some (.inl (.int x3)), some (.inl (.int x4)), some (.inl (.int v8)), some (.inl (.int v10)), some (.inl (.int r49)), none]) (st' := [.inr (5, y2)]) (S' := S46) ok_X5_worth.1 (by decide +kernel) rfl rfl ?_
                obtain ⟨r53, S50, hq51, h⟩ := ax_bu_e h
                refine ax_TVi (d := 0) (ka := 5) (i := y2) [] [] lk_X5_97 (by decide +kernel) rfl (by decide) rfl (Nat.le_of_ble_eq_true rfl) (Nat.le_of_ble_eq_true rfl) ((t_X5_pop hq51).up (by decide)) ?_
                refine ax_Tgo [.istore 7, .aload_n 0, .iload 4, .iload 7, .i2l, .iload 6, .i2l] (pc' := 210) (L' := [some (.inr (5, y2)), some (.inr (32, 0)), some (.inl (.int x3)), some (.inl (.int x4)), some (.inl (.int v8)), some (.inl (.int v10)), some (.inl (.int r49)), some (.inl (.int r53))]) (st' := [.inl (.long r49.toInt64), .inl (.long r53.toInt64), .inl (.int v8), .inr (5, y2)]) (S' := S50) ok_X5_worth.1 (by decide +kernel) rfl rfl ?_
                obtain ⟨r57, hq55, h⟩ := ax_bd_e h
                refine ax_TSl (d := 0) [.inl (.int v8), .inl (.long r53.toInt64), .inl (.long r49.toInt64)] [.inr (5, y2)] lk_X5_104 (by decide +kernel) rfl rfl (Nat.le_of_ble_eq_true rfl) (Nat.le_of_ble_eq_true rfl) ((t_X5_joined hq55).up (by decide)) ?_
                obtain ⟨S58, hq59, h⟩ := ax_bd_e h
                refine ax_TVv (d := 0) (ka := 5) (i := y2) [.inl (.long r57)] [] lk_X5_100 (by decide +kernel) rfl (by decide) rfl (Nat.le_of_ble_eq_true rfl) (Nat.le_of_ble_eq_true rfl) ((t_X5_push hq59).up (by decide)) ?_
                refine ax_Tgo [.iinc 3 1] (pc' := 219) (L' := [some (.inr (5, y2)), some (.inr (32, 0)), some (.inl (.int x3)), some (.inl (.int (x4 + (1 : Int32)))), some (.inl (.int v8)), some (.inl (.int v10)), some (.inl (.int r49)), some (.inl (.int r53))]) (st' := []) (S' := S58) ok_X5_worth.1 (by decide +kernel) rfl rfl ?_
                obtain ⟨v61, ev61, h⟩ := ax_let_e h
                rw [ev61]
                refine ax_Tgoto (off := (-210)) (tgt := 9) (by decide +kernel) (by decide) ?_
                refine ax_Tdrop [true, true, true, true, false, false, false, false] (L' := [some (.inr (5, y2)), some (.inr (32, 0)), some (.inl (.int x3)), some (.inl (.int v61)), none, none, none, none]) rfl ?_
                exact ih y2 x3 v61 S58 _ _ h
              · rw [if_neg c45] at h
                by_cases c62 : v8 = (4 : Int32)
                · rw [if_pos c62] at h
                  refine ax_TtIn (dflt := 139) (lo := 0) (hi := 13) (offs := #[92, 102, 139, 139, 139, 139, 139, 139, 139, 139, 139, 125, 75, 70]) (len := 70) (off := 139) (tgt := 189) (by decide +kernel) (by rw [c62]; decide) (by rw [c62]; decide) (by rw [c62]; rfl) (by decide) ?_
                  refine ax_Tgo [.aload_n 0] (pc' := 190) (L' := [some (.inr (5, y2)), some (.inr (32, 0)), some (.inl (.int x3)), some (.inl (.int x4)), some (.inl (.int v8)), some (.inl (.int v10)), none, none]) (st' := [.inr (5, y2)]) (S' := S5) ok_X5_worth.1 (by decide +kernel) rfl rfl ?_
                  obtain ⟨r66, S63, hq64, h⟩ := ax_bu_e h
                  refine ax_TVi (d := 0) (ka := 5) (i := y2) [] [] lk_X5_97 (by decide +kernel) rfl (by decide) rfl (Nat.le_of_ble_eq_true rfl) (Nat.le_of_ble_eq_true rfl) ((t_X5_pop hq64).up (by decide)) ?_
                  refine ax_Tgo [.istore 6, .aload_n 0] (pc' := 196) (L' := [some (.inr (5, y2)), some (.inr (32, 0)), some (.inl (.int x3)), some (.inl (.int x4)), some (.inl (.int v8)), some (.inl (.int v10)), some (.inl (.int r66)), none]) (st' := [.inr (5, y2)]) (S' := S63) ok_X5_worth.1 (by decide +kernel) rfl rfl ?_
                  obtain ⟨r70, S67, hq68, h⟩ := ax_bu_e h
                  refine ax_TVi (d := 0) (ka := 5) (i := y2) [] [] lk_X5_97 (by decide +kernel) rfl (by decide) rfl (Nat.le_of_ble_eq_true rfl) (Nat.le_of_ble_eq_true rfl) ((t_X5_pop hq68).up (by decide)) ?_
                  refine ax_Tgo [.istore 7, .aload_n 0, .iload 4, .iload 7, .i2l, .iload 6, .i2l] (pc' := 210) (L' := [some (.inr (5, y2)), some (.inr (32, 0)), some (.inl (.int x3)), some (.inl (.int x4)), some (.inl (.int v8)), some (.inl (.int v10)), some (.inl (.int r66)), some (.inl (.int r70))]) (st' := [.inl (.long r66.toInt64), .inl (.long r70.toInt64), .inl (.int v8), .inr (5, y2)]) (S' := S67) ok_X5_worth.1 (by decide +kernel) rfl rfl ?_
                  obtain ⟨r74, hq72, h⟩ := ax_bd_e h
                  refine ax_TSl (d := 0) [.inl (.int v8), .inl (.long r70.toInt64), .inl (.long r66.toInt64)] [.inr (5, y2)] lk_X5_104 (by decide +kernel) rfl rfl (Nat.le_of_ble_eq_true rfl) (Nat.le_of_ble_eq_true rfl) ((t_X5_joined hq72).up (by decide)) ?_
                  obtain ⟨S75, hq76, h⟩ := ax_bd_e h
                  refine ax_TVv (d := 0) (ka := 5) (i := y2) [.inl (.long r74)] [] lk_X5_100 (by decide +kernel) rfl (by decide) rfl (Nat.le_of_ble_eq_true rfl) (Nat.le_of_ble_eq_true rfl) ((t_X5_push hq76).up (by decide)) ?_
                  refine ax_Tgo [.iinc 3 1] (pc' := 219) (L' := [some (.inr (5, y2)), some (.inr (32, 0)), some (.inl (.int x3)), some (.inl (.int (x4 + (1 : Int32)))), some (.inl (.int v8)), some (.inl (.int v10)), some (.inl (.int r66)), some (.inl (.int r70))]) (st' := []) (S' := S75) ok_X5_worth.1 (by decide +kernel) rfl rfl ?_
                  obtain ⟨v78, ev78, h⟩ := ax_let_e h
                  rw [ev78]
                  refine ax_Tgoto (off := (-210)) (tgt := 9) (by decide +kernel) (by decide) ?_
                  refine ax_Tdrop [true, true, true, true, false, false, false, false] (L' := [some (.inr (5, y2)), some (.inr (32, 0)), some (.inl (.int x3)), some (.inl (.int v78)), none, none, none, none]) rfl ?_
                  exact ih y2 x3 v78 S75 _ _ h
                · rw [if_neg c62] at h
                  by_cases c79 : v8 = (5 : Int32)
                  · rw [if_pos c79] at h
                    refine ax_TtIn (dflt := 139) (lo := 0) (hi := 13) (offs := #[92, 102, 139, 139, 139, 139, 139, 139, 139, 139, 139, 125, 75, 70]) (len := 70) (off := 139) (tgt := 189) (by decide +kernel) (by rw [c79]; decide) (by rw [c79]; decide) (by rw [c79]; rfl) (by decide) ?_
                    refine ax_Tgo [.aload_n 0] (pc' := 190) (L' := [some (.inr (5, y2)), some (.inr (32, 0)), some (.inl (.int x3)), some (.inl (.int x4)), some (.inl (.int v8)), some (.inl (.int v10)), none, none]) (st' := [.inr (5, y2)]) (S' := S5) ok_X5_worth.1 (by decide +kernel) rfl rfl ?_
                    obtain ⟨r83, S80, hq81, h⟩ := ax_bu_e h
                    refine ax_TVi (d := 0) (ka := 5) (i := y2) [] [] lk_X5_97 (by decide +kernel) rfl (by decide) rfl (Nat.le_of_ble_eq_true rfl) (Nat.le_of_ble_eq_true rfl) ((t_X5_pop hq81).up (by decide)) ?_
                    refine ax_Tgo [.istore 6, .aload_n 0] (pc' := 196) (L' := [some (.inr (5, y2)), some (.inr (32, 0)), some (.inl (.int x3)), some (.inl (.int x4)), some (.inl (.int v8)), some (.inl (.int v10)), some (.inl (.int r83)), none]) (st' := [.inr (5, y2)]) (S' := S80) ok_X5_worth.1 (by decide +kernel) rfl rfl ?_
                    obtain ⟨r87, S84, hq85, h⟩ := ax_bu_e h
                    refine ax_TVi (d := 0) (ka := 5) (i := y2) [] [] lk_X5_97 (by decide +kernel) rfl (by decide) rfl (Nat.le_of_ble_eq_true rfl) (Nat.le_of_ble_eq_true rfl) ((t_X5_pop hq85).up (by decide)) ?_
                    refine ax_Tgo [.istore 7, .aload_n 0, .iload 4, .iload 7, .i2l, .iload 6, .i2l] (pc' := 210) (L' := [some (.inr (5, y2)), some (.inr (32, 0)), some (.inl (.int x3)), some (.inl (.int x4)), some (.inl (.int v8)), some (.inl (.int v10)), some (.inl (.int r83)), some (.inl (.int r87))]) (st' := [.inl (.long r83.toInt64), .inl (.long r87.toInt64), .inl (.int v8), .inr (5, y2)]) (S' := S84) ok_X5_worth.1 (by decide +kernel) rfl rfl ?_
                    obtain ⟨r91, hq89, h⟩ := ax_bd_e h
                    refine ax_TSl (d := 0) [.inl (.int v8), .inl (.long r87.toInt64), .inl (.long r83.toInt64)] [.inr (5, y2)] lk_X5_104 (by decide +kernel) rfl rfl (Nat.le_of_ble_eq_true rfl) (Nat.le_of_ble_eq_true rfl) ((t_X5_joined hq89).up (by decide)) ?_
                    obtain ⟨S92, hq93, h⟩ := ax_bd_e h
                    refine ax_TVv (d := 0) (ka := 5) (i := y2) [.inl (.long r91)] [] lk_X5_100 (by decide +kernel) rfl (by decide) rfl (Nat.le_of_ble_eq_true rfl) (Nat.le_of_ble_eq_true rfl) ((t_X5_push hq93).up (by decide)) ?_
                    refine ax_Tgo [.iinc 3 1] (pc' := 219) (L' := [some (.inr (5, y2)), some (.inr (32, 0)), some (.inl (.int x3)), some (.inl (.int (x4 + (1 : Int32)))), some (.inl (.int v8)), some (.inl (.int v10)), some (.inl (.int r83)), some (.inl (.int r87))]) (st' := []) (S' := S92) ok_X5_worth.1 (by decide +kernel) rfl rfl ?_
                    obtain ⟨v95, ev95, h⟩ := ax_let_e h
                    rw [ev95]
                    refine ax_Tgoto (off := (-210)) (tgt := 9) (by decide +kernel) (by decide) ?_
                    refine ax_Tdrop [true, true, true, true, false, false, false, false] (L' := [some (.inr (5, y2)), some (.inr (32, 0)), some (.inl (.int x3)), some (.inl (.int v95)), none, none, none, none]) rfl ?_
                    exact ih y2 x3 v95 S92 _ _ h
                  · rw [if_neg c79] at h
                    by_cases c96 : v8 = (6 : Int32)
                    · rw [if_pos c96] at h
                      refine ax_TtIn (dflt := 139) (lo := 0) (hi := 13) (offs := #[92, 102, 139, 139, 139, 139, 139, 139, 139, 139, 139, 125, 75, 70]) (len := 70) (off := 139) (tgt := 189) (by decide +kernel) (by rw [c96]; decide) (by rw [c96]; decide) (by rw [c96]; rfl) (by decide) ?_
                      refine ax_Tgo [.aload_n 0] (pc' := 190) (L' := [some (.inr (5, y2)), some (.inr (32, 0)), some (.inl (.int x3)), some (.inl (.int x4)), some (.inl (.int v8)), some (.inl (.int v10)), none, none]) (st' := [.inr (5, y2)]) (S' := S5) ok_X5_worth.1 (by decide +kernel) rfl rfl ?_
                      obtain ⟨r100, S97, hq98, h⟩ := ax_bu_e h
                      refine ax_TVi (d := 0) (ka := 5) (i := y2) [] [] lk_X5_97 (by decide +kernel) rfl (by decide) rfl (Nat.le_of_ble_eq_true rfl) (Nat.le_of_ble_eq_true rfl) ((t_X5_pop hq98).up (by decide)) ?_
                      refine ax_Tgo [.istore 6, .aload_n 0] (pc' := 196) (L' := [some (.inr (5, y2)), some (.inr (32, 0)), some (.inl (.int x3)), some (.inl (.int x4)), some (.inl (.int v8)), some (.inl (.int v10)), some (.inl (.int r100)), none]) (st' := [.inr (5, y2)]) (S' := S97) ok_X5_worth.1 (by decide +kernel) rfl rfl ?_
                      obtain ⟨r104, S101, hq102, h⟩ := ax_bu_e h
                      refine ax_TVi (d := 0) (ka := 5) (i := y2) [] [] lk_X5_97 (by decide +kernel) rfl (by decide) rfl (Nat.le_of_ble_eq_true rfl) (Nat.le_of_ble_eq_true rfl) ((t_X5_pop hq102).up (by decide)) ?_
                      refine ax_Tgo [.istore 7, .aload_n 0, .iload 4, .iload 7, .i2l, .iload 6, .i2l] (pc' := 210) (L' := [some (.inr (5, y2)), some (.inr (32, 0)), some (.inl (.int x3)), some (.inl (.int x4)), some (.inl (.int v8)), some (.inl (.int v10)), some (.inl (.int r100)), some (.inl (.int r104))]) (st' := [.inl (.long r100.toInt64), .inl (.long r104.toInt64), .inl (.int v8), .inr (5, y2)]) (S' := S101) ok_X5_worth.1 (by decide +kernel) rfl rfl ?_
                      obtain ⟨r108, hq106, h⟩ := ax_bd_e h
                      refine ax_TSl (d := 0) [.inl (.int v8), .inl (.long r104.toInt64), .inl (.long r100.toInt64)] [.inr (5, y2)] lk_X5_104 (by decide +kernel) rfl rfl (Nat.le_of_ble_eq_true rfl) (Nat.le_of_ble_eq_true rfl) ((t_X5_joined hq106).up (by decide)) ?_
                      obtain ⟨S109, hq110, h⟩ := ax_bd_e h
                      refine ax_TVv (d := 0) (ka := 5) (i := y2) [.inl (.long r108)] [] lk_X5_100 (by decide +kernel) rfl (by decide) rfl (Nat.le_of_ble_eq_true rfl) (Nat.le_of_ble_eq_true rfl) ((t_X5_push hq110).up (by decide)) ?_
                      refine ax_Tgo [.iinc 3 1] (pc' := 219) (L' := [some (.inr (5, y2)), some (.inr (32, 0)), some (.inl (.int x3)), some (.inl (.int (x4 + (1 : Int32)))), some (.inl (.int v8)), some (.inl (.int v10)), some (.inl (.int r100)), some (.inl (.int r104))]) (st' := []) (S' := S109) ok_X5_worth.1 (by decide +kernel) rfl rfl ?_
                      obtain ⟨v112, ev112, h⟩ := ax_let_e h
                      rw [ev112]
                      refine ax_Tgoto (off := (-210)) (tgt := 9) (by decide +kernel) (by decide) ?_
                      refine ax_Tdrop [true, true, true, true, false, false, false, false] (L' := [some (.inr (5, y2)), some (.inr (32, 0)), some (.inl (.int x3)), some (.inl (.int v112)), none, none, none, none]) rfl ?_
                      exact ih y2 x3 v112 S109 _ _ h
                    · rw [if_neg c96] at h
                      by_cases c113 : v8 = (7 : Int32)
                      · rw [if_pos c113] at h
                        refine ax_TtIn (dflt := 139) (lo := 0) (hi := 13) (offs := #[92, 102, 139, 139, 139, 139, 139, 139, 139, 139, 139, 125, 75, 70]) (len := 70) (off := 139) (tgt := 189) (by decide +kernel) (by rw [c113]; decide) (by rw [c113]; decide) (by rw [c113]; rfl) (by decide) ?_
                        refine ax_Tgo [.aload_n 0] (pc' := 190) (L' := [some (.inr (5, y2)), some (.inr (32, 0)), some (.inl (.int x3)), some (.inl (.int x4)), some (.inl (.int v8)), some (.inl (.int v10)), none, none]) (st' := [.inr (5, y2)]) (S' := S5) ok_X5_worth.1 (by decide +kernel) rfl rfl ?_
                        obtain ⟨r117, S114, hq115, h⟩ := ax_bu_e h
                        refine ax_TVi (d := 0) (ka := 5) (i := y2) [] [] lk_X5_97 (by decide +kernel) rfl (by decide) rfl (Nat.le_of_ble_eq_true rfl) (Nat.le_of_ble_eq_true rfl) ((t_X5_pop hq115).up (by decide)) ?_
                        refine ax_Tgo [.istore 6, .aload_n 0] (pc' := 196) (L' := [some (.inr (5, y2)), some (.inr (32, 0)), some (.inl (.int x3)), some (.inl (.int x4)), some (.inl (.int v8)), some (.inl (.int v10)), some (.inl (.int r117)), none]) (st' := [.inr (5, y2)]) (S' := S114) ok_X5_worth.1 (by decide +kernel) rfl rfl ?_
                        obtain ⟨r121, S118, hq119, h⟩ := ax_bu_e h
                        refine ax_TVi (d := 0) (ka := 5) (i := y2) [] [] lk_X5_97 (by decide +kernel) rfl (by decide) rfl (Nat.le_of_ble_eq_true rfl) (Nat.le_of_ble_eq_true rfl) ((t_X5_pop hq119).up (by decide)) ?_
                        refine ax_Tgo [.istore 7, .aload_n 0, .iload 4, .iload 7, .i2l, .iload 6, .i2l] (pc' := 210) (L' := [some (.inr (5, y2)), some (.inr (32, 0)), some (.inl (.int x3)), some (.inl (.int x4)), some (.inl (.int v8)), some (.inl (.int v10)), some (.inl (.int r117)), some (.inl (.int r121))]) (st' := [.inl (.long r117.toInt64), .inl (.long r121.toInt64), .inl (.int v8), .inr (5, y2)]) (S' := S118) ok_X5_worth.1 (by decide +kernel) rfl rfl ?_
                        obtain ⟨r125, hq123, h⟩ := ax_bd_e h
                        refine ax_TSl (d := 0) [.inl (.int v8), .inl (.long r121.toInt64), .inl (.long r117.toInt64)] [.inr (5, y2)] lk_X5_104 (by decide +kernel) rfl rfl (Nat.le_of_ble_eq_true rfl) (Nat.le_of_ble_eq_true rfl) ((t_X5_joined hq123).up (by decide)) ?_
                        obtain ⟨S126, hq127, h⟩ := ax_bd_e h
                        refine ax_TVv (d := 0) (ka := 5) (i := y2) [.inl (.long r125)] [] lk_X5_100 (by decide +kernel) rfl (by decide) rfl (Nat.le_of_ble_eq_true rfl) (Nat.le_of_ble_eq_true rfl) ((t_X5_push hq127).up (by decide)) ?_
                        refine ax_Tgo [.iinc 3 1] (pc' := 219) (L' := [some (.inr (5, y2)), some (.inr (32, 0)), some (.inl (.int x3)), some (.inl (.int (x4 + (1 : Int32)))), some (.inl (.int v8)), some (.inl (.int v10)), some (.inl (.int r117)), some (.inl (.int r121))]) (st' := []) (S' := S126) ok_X5_worth.1 (by decide +kernel) rfl rfl ?_
                        obtain ⟨v129, ev129, h⟩ := ax_let_e h
                        rw [ev129]
                        refine ax_Tgoto (off := (-210)) (tgt := 9) (by decide +kernel) (by decide) ?_
                        refine ax_Tdrop [true, true, true, true, false, false, false, false] (L' := [some (.inr (5, y2)), some (.inr (32, 0)), some (.inl (.int x3)), some (.inl (.int v129)), none, none, none, none]) rfl ?_
                        exact ih y2 x3 v129 S126 _ _ h
                      · rw [if_neg c113] at h
                        by_cases c130 : v8 = (8 : Int32)
                        · rw [if_pos c130] at h
                          refine ax_TtIn (dflt := 139) (lo := 0) (hi := 13) (offs := #[92, 102, 139, 139, 139, 139, 139, 139, 139, 139, 139, 125, 75, 70]) (len := 70) (off := 139) (tgt := 189) (by decide +kernel) (by rw [c130]; decide) (by rw [c130]; decide) (by rw [c130]; rfl) (by decide) ?_
                          refine ax_Tgo [.aload_n 0] (pc' := 190) (L' := [some (.inr (5, y2)), some (.inr (32, 0)), some (.inl (.int x3)), some (.inl (.int x4)), some (.inl (.int v8)), some (.inl (.int v10)), none, none]) (st' := [.inr (5, y2)]) (S' := S5) ok_X5_worth.1 (by decide +kernel) rfl rfl ?_
                          obtain ⟨r134, S131, hq132, h⟩ := ax_bu_e h
                          refine ax_TVi (d := 0) (ka := 5) (i := y2) [] [] lk_X5_97 (by decide +kernel) rfl (by decide) rfl (Nat.le_of_ble_eq_true rfl) (Nat.le_of_ble_eq_true rfl) ((t_X5_pop hq132).up (by decide)) ?_
                          refine ax_Tgo [.istore 6, .aload_n 0] (pc' := 196) (L' := [some (.inr (5, y2)), some (.inr (32, 0)), some (.inl (.int x3)), some (.inl (.int x4)), some (.inl (.int v8)), some (.inl (.int v10)), some (.inl (.int r134)), none]) (st' := [.inr (5, y2)]) (S' := S131) ok_X5_worth.1 (by decide +kernel) rfl rfl ?_
                          obtain ⟨r138, S135, hq136, h⟩ := ax_bu_e h
                          refine ax_TVi (d := 0) (ka := 5) (i := y2) [] [] lk_X5_97 (by decide +kernel) rfl (by decide) rfl (Nat.le_of_ble_eq_true rfl) (Nat.le_of_ble_eq_true rfl) ((t_X5_pop hq136).up (by decide)) ?_
                          refine ax_Tgo [.istore 7, .aload_n 0, .iload 4, .iload 7, .i2l, .iload 6, .i2l] (pc' := 210) (L' := [some (.inr (5, y2)), some (.inr (32, 0)), some (.inl (.int x3)), some (.inl (.int x4)), some (.inl (.int v8)), some (.inl (.int v10)), some (.inl (.int r134)), some (.inl (.int r138))]) (st' := [.inl (.long r134.toInt64), .inl (.long r138.toInt64), .inl (.int v8), .inr (5, y2)]) (S' := S135) ok_X5_worth.1 (by decide +kernel) rfl rfl ?_
                          obtain ⟨r142, hq140, h⟩ := ax_bd_e h
                          refine ax_TSl (d := 0) [.inl (.int v8), .inl (.long r138.toInt64), .inl (.long r134.toInt64)] [.inr (5, y2)] lk_X5_104 (by decide +kernel) rfl rfl (Nat.le_of_ble_eq_true rfl) (Nat.le_of_ble_eq_true rfl) ((t_X5_joined hq140).up (by decide)) ?_
                          obtain ⟨S143, hq144, h⟩ := ax_bd_e h
                          refine ax_TVv (d := 0) (ka := 5) (i := y2) [.inl (.long r142)] [] lk_X5_100 (by decide +kernel) rfl (by decide) rfl (Nat.le_of_ble_eq_true rfl) (Nat.le_of_ble_eq_true rfl) ((t_X5_push hq144).up (by decide)) ?_
                          refine ax_Tgo [.iinc 3 1] (pc' := 219) (L' := [some (.inr (5, y2)), some (.inr (32, 0)), some (.inl (.int x3)), some (.inl (.int (x4 + (1 : Int32)))), some (.inl (.int v8)), some (.inl (.int v10)), some (.inl (.int r134)), some (.inl (.int r138))]) (st' := []) (S' := S143) ok_X5_worth.1 (by decide +kernel) rfl rfl ?_
                          obtain ⟨v146, ev146, h⟩ := ax_let_e h
                          rw [ev146]
                          refine ax_Tgoto (off := (-210)) (tgt := 9) (by decide +kernel) (by decide) ?_
                          refine ax_Tdrop [true, true, true, true, false, false, false, false] (L' := [some (.inr (5, y2)), some (.inr (32, 0)), some (.inl (.int x3)), some (.inl (.int v146)), none, none, none, none]) rfl ?_
                          exact ih y2 x3 v146 S143 _ _ h
                        · rw [if_neg c130] at h
                          by_cases c147 : v8 = (9 : Int32)
                          · rw [if_pos c147] at h
                            refine ax_TtIn (dflt := 139) (lo := 0) (hi := 13) (offs := #[92, 102, 139, 139, 139, 139, 139, 139, 139, 139, 139, 125, 75, 70]) (len := 70) (off := 139) (tgt := 189) (by decide +kernel) (by rw [c147]; decide) (by rw [c147]; decide) (by rw [c147]; rfl) (by decide) ?_
                            refine ax_Tgo [.aload_n 0] (pc' := 190) (L' := [some (.inr (5, y2)), some (.inr (32, 0)), some (.inl (.int x3)), some (.inl (.int x4)), some (.inl (.int v8)), some (.inl (.int v10)), none, none]) (st' := [.inr (5, y2)]) (S' := S5) ok_X5_worth.1 (by decide +kernel) rfl rfl ?_
                            obtain ⟨r151, S148, hq149, h⟩ := ax_bu_e h
                            refine ax_TVi (d := 0) (ka := 5) (i := y2) [] [] lk_X5_97 (by decide +kernel) rfl (by decide) rfl (Nat.le_of_ble_eq_true rfl) (Nat.le_of_ble_eq_true rfl) ((t_X5_pop hq149).up (by decide)) ?_
                            refine ax_Tgo [.istore 6, .aload_n 0] (pc' := 196) (L' := [some (.inr (5, y2)), some (.inr (32, 0)), some (.inl (.int x3)), some (.inl (.int x4)), some (.inl (.int v8)), some (.inl (.int v10)), some (.inl (.int r151)), none]) (st' := [.inr (5, y2)]) (S' := S148) ok_X5_worth.1 (by decide +kernel) rfl rfl ?_
                            obtain ⟨r155, S152, hq153, h⟩ := ax_bu_e h
                            refine ax_TVi (d := 0) (ka := 5) (i := y2) [] [] lk_X5_97 (by decide +kernel) rfl (by decide) rfl (Nat.le_of_ble_eq_true rfl) (Nat.le_of_ble_eq_true rfl) ((t_X5_pop hq153).up (by decide)) ?_
                            refine ax_Tgo [.istore 7, .aload_n 0, .iload 4, .iload 7, .i2l, .iload 6, .i2l] (pc' := 210) (L' := [some (.inr (5, y2)), some (.inr (32, 0)), some (.inl (.int x3)), some (.inl (.int x4)), some (.inl (.int v8)), some (.inl (.int v10)), some (.inl (.int r151)), some (.inl (.int r155))]) (st' := [.inl (.long r151.toInt64), .inl (.long r155.toInt64), .inl (.int v8), .inr (5, y2)]) (S' := S152) ok_X5_worth.1 (by decide +kernel) rfl rfl ?_
                            obtain ⟨r159, hq157, h⟩ := ax_bd_e h
                            refine ax_TSl (d := 0) [.inl (.int v8), .inl (.long r155.toInt64), .inl (.long r151.toInt64)] [.inr (5, y2)] lk_X5_104 (by decide +kernel) rfl rfl (Nat.le_of_ble_eq_true rfl) (Nat.le_of_ble_eq_true rfl) ((t_X5_joined hq157).up (by decide)) ?_
                            obtain ⟨S160, hq161, h⟩ := ax_bd_e h
                            refine ax_TVv (d := 0) (ka := 5) (i := y2) [.inl (.long r159)] [] lk_X5_100 (by decide +kernel) rfl (by decide) rfl (Nat.le_of_ble_eq_true rfl) (Nat.le_of_ble_eq_true rfl) ((t_X5_push hq161).up (by decide)) ?_
                            refine ax_Tgo [.iinc 3 1] (pc' := 219) (L' := [some (.inr (5, y2)), some (.inr (32, 0)), some (.inl (.int x3)), some (.inl (.int (x4 + (1 : Int32)))), some (.inl (.int v8)), some (.inl (.int v10)), some (.inl (.int r151)), some (.inl (.int r155))]) (st' := []) (S' := S160) ok_X5_worth.1 (by decide +kernel) rfl rfl ?_
                            obtain ⟨v163, ev163, h⟩ := ax_let_e h
                            rw [ev163]
                            refine ax_Tgoto (off := (-210)) (tgt := 9) (by decide +kernel) (by decide) ?_
                            refine ax_Tdrop [true, true, true, true, false, false, false, false] (L' := [some (.inr (5, y2)), some (.inr (32, 0)), some (.inl (.int x3)), some (.inl (.int v163)), none, none, none, none]) rfl ?_
                            exact ih y2 x3 v163 S160 _ _ h
                          · rw [if_neg c147] at h
                            by_cases c164 : v8 = (10 : Int32)
                            · rw [if_pos c164] at h
                              refine ax_TtIn (dflt := 139) (lo := 0) (hi := 13) (offs := #[92, 102, 139, 139, 139, 139, 139, 139, 139, 139, 139, 125, 75, 70]) (len := 70) (off := 139) (tgt := 189) (by decide +kernel) (by rw [c164]; decide) (by rw [c164]; decide) (by rw [c164]; rfl) (by decide) ?_
                              refine ax_Tgo [.aload_n 0] (pc' := 190) (L' := [some (.inr (5, y2)), some (.inr (32, 0)), some (.inl (.int x3)), some (.inl (.int x4)), some (.inl (.int v8)), some (.inl (.int v10)), none, none]) (st' := [.inr (5, y2)]) (S' := S5) ok_X5_worth.1 (by decide +kernel) rfl rfl ?_
                              obtain ⟨r168, S165, hq166, h⟩ := ax_bu_e h
                              refine ax_TVi (d := 0) (ka := 5) (i := y2) [] [] lk_X5_97 (by decide +kernel) rfl (by decide) rfl (Nat.le_of_ble_eq_true rfl) (Nat.le_of_ble_eq_true rfl) ((t_X5_pop hq166).up (by decide)) ?_
                              refine ax_Tgo [.istore 6, .aload_n 0] (pc' := 196) (L' := [some (.inr (5, y2)), some (.inr (32, 0)), some (.inl (.int x3)), some (.inl (.int x4)), some (.inl (.int v8)), some (.inl (.int v10)), some (.inl (.int r168)), none]) (st' := [.inr (5, y2)]) (S' := S165) ok_X5_worth.1 (by decide +kernel) rfl rfl ?_
                              obtain ⟨r172, S169, hq170, h⟩ := ax_bu_e h
                              refine ax_TVi (d := 0) (ka := 5) (i := y2) [] [] lk_X5_97 (by decide +kernel) rfl (by decide) rfl (Nat.le_of_ble_eq_true rfl) (Nat.le_of_ble_eq_true rfl) ((t_X5_pop hq170).up (by decide)) ?_
                              refine ax_Tgo [.istore 7, .aload_n 0, .iload 4, .iload 7, .i2l, .iload 6, .i2l] (pc' := 210) (L' := [some (.inr (5, y2)), some (.inr (32, 0)), some (.inl (.int x3)), some (.inl (.int x4)), some (.inl (.int v8)), some (.inl (.int v10)), some (.inl (.int r168)), some (.inl (.int r172))]) (st' := [.inl (.long r168.toInt64), .inl (.long r172.toInt64), .inl (.int v8), .inr (5, y2)]) (S' := S169) ok_X5_worth.1 (by decide +kernel) rfl rfl ?_
                              obtain ⟨r176, hq174, h⟩ := ax_bd_e h
                              refine ax_TSl (d := 0) [.inl (.int v8), .inl (.long r172.toInt64), .inl (.long r168.toInt64)] [.inr (5, y2)] lk_X5_104 (by decide +kernel) rfl rfl (Nat.le_of_ble_eq_true rfl) (Nat.le_of_ble_eq_true rfl) ((t_X5_joined hq174).up (by decide)) ?_
                              obtain ⟨S177, hq178, h⟩ := ax_bd_e h
                              refine ax_TVv (d := 0) (ka := 5) (i := y2) [.inl (.long r176)] [] lk_X5_100 (by decide +kernel) rfl (by decide) rfl (Nat.le_of_ble_eq_true rfl) (Nat.le_of_ble_eq_true rfl) ((t_X5_push hq178).up (by decide)) ?_
                              refine ax_Tgo [.iinc 3 1] (pc' := 219) (L' := [some (.inr (5, y2)), some (.inr (32, 0)), some (.inl (.int x3)), some (.inl (.int (x4 + (1 : Int32)))), some (.inl (.int v8)), some (.inl (.int v10)), some (.inl (.int r168)), some (.inl (.int r172))]) (st' := []) (S' := S177) ok_X5_worth.1 (by decide +kernel) rfl rfl ?_
                              obtain ⟨v180, ev180, h⟩ := ax_let_e h
                              rw [ev180]
                              refine ax_Tgoto (off := (-210)) (tgt := 9) (by decide +kernel) (by decide) ?_
                              refine ax_Tdrop [true, true, true, true, false, false, false, false] (L' := [some (.inr (5, y2)), some (.inr (32, 0)), some (.inl (.int x3)), some (.inl (.int v180)), none, none, none, none]) rfl ?_
                              exact ih y2 x3 v180 S177 _ _ h
                            · rw [if_neg c164] at h
                              by_cases c181 : v8 = (11 : Int32)
                              · rw [if_pos c181] at h
                                refine ax_TtIn (dflt := 139) (lo := 0) (hi := 13) (offs := #[92, 102, 139, 139, 139, 139, 139, 139, 139, 139, 139, 125, 75, 70]) (len := 70) (off := 125) (tgt := 175) (by decide +kernel) (by rw [c181]; decide) (by rw [c181]; decide) (by rw [c181]; rfl) (by decide) ?_
                                refine ax_Tgo [.aload_n 0, .iconst 1, .aload_n 0] (pc' := 178) (L' := [some (.inr (5, y2)), some (.inr (32, 0)), some (.inl (.int x3)), some (.inl (.int x4)), some (.inl (.int v8)), some (.inl (.int v10)), none, none]) (st' := [.inr (5, y2), .inl (.int (1 : Int32)), .inr (5, y2)]) (S' := S5) ok_X5_worth.1 (by decide +kernel) rfl rfl ?_
                                obtain ⟨r185, S182, hq183, h⟩ := ax_bu_e h
                                refine ax_TVi (d := 0) (ka := 5) (i := y2) [] [.inl (.int (1 : Int32)), .inr (5, y2)] lk_X5_97 (by decide +kernel) rfl (by decide) rfl (Nat.le_of_ble_eq_true rfl) (Nat.le_of_ble_eq_true rfl) ((t_X5_pop hq183).up (by decide)) ?_
                                refine ax_Tgo [.isub, .i2l] (pc' := 183) (L' := [some (.inr (5, y2)), some (.inr (32, 0)), some (.inl (.int x3)), some (.inl (.int x4)), some (.inl (.int v8)), some (.inl (.int v10)), none, none]) (st' := [.inl (.long ((1 : Int32) - r185).toInt64), .inr (5, y2)]) (S' := S182) ok_X5_worth.1 (by decide +kernel) rfl rfl ?_
                                obtain ⟨S186, hq187, h⟩ := ax_bd_e h
                                refine ax_TVv (d := 0) (ka := 5) (i := y2) [.inl (.long ((1 : Int32) - r185).toInt64)] [] lk_X5_100 (by decide +kernel) rfl (by decide) rfl (Nat.le_of_ble_eq_true rfl) (Nat.le_of_ble_eq_true rfl) ((t_X5_push hq187).up (by decide)) ?_
                                refine ax_Tgoto (off := 30) (tgt := 216) (by decide +kernel) (by decide) ?_
                                refine ax_Tgo [.iinc 3 1] (pc' := 219) (L' := [some (.inr (5, y2)), some (.inr (32, 0)), some (.inl (.int x3)), some (.inl (.int (x4 + (1 : Int32)))), some (.inl (.int v8)), some (.inl (.int v10)), none, none]) (st' := []) (S' := S186) ok_X5_worth.1 (by decide +kernel) rfl rfl ?_
                                obtain ⟨v189, ev189, h⟩ := ax_let_e h
                                rw [ev189]
                                refine ax_Tgoto (off := (-210)) (tgt := 9) (by decide +kernel) (by decide) ?_
                                refine ax_Tdrop [true, true, true, true, false, false, true, true] (L' := [some (.inr (5, y2)), some (.inr (32, 0)), some (.inl (.int x3)), some (.inl (.int v189)), none, none, none, none]) rfl ?_
                                exact ih y2 x3 v189 S186 _ _ h
                              · rw [if_neg c181] at h
                                by_cases c190 : v8 = (12 : Int32)
                                · rw [if_pos c190] at h
                                  refine ax_TtIn (dflt := 139) (lo := 0) (hi := 13) (offs := #[92, 102, 139, 139, 139, 139, 139, 139, 139, 139, 139, 125, 75, 70]) (len := 70) (off := 75) (tgt := 125) (by decide +kernel) (by rw [c190]; decide) (by rw [c190]; decide) (by rw [c190]; rfl) (by decide) ?_
                                  refine ax_Tgo [.aload_n 0] (pc' := 126) (L' := [some (.inr (5, y2)), some (.inr (32, 0)), some (.inl (.int x3)), some (.inl (.int x4)), some (.inl (.int v8)), some (.inl (.int v10)), none, none]) (st' := [.inr (5, y2)]) (S' := S5) ok_X5_worth.1 (by decide +kernel) rfl rfl ?_
                                  obtain ⟨r194, S191, hq192, h⟩ := ax_bu_e h
                                  refine ax_TVi (d := 0) (ka := 5) (i := y2) [] [] lk_X5_97 (by decide +kernel) rfl (by decide) rfl (Nat.le_of_ble_eq_true rfl) (Nat.le_of_ble_eq_true rfl) ((t_X5_pop hq192).up (by decide)) ?_
                                  refine ax_Tif_ne (off := 8) (tgt := 137) (by decide +kernel) (by decide) (fun c195 => ?_) (fun c195 => ?_)
                                  · rw [if_neg c195] at h
                                    refine ax_Tgo [.iload_n 2, .istore_n 2] (pc' := 139) (L' := [some (.inr (5, y2)), some (.inr (32, 0)), some (.inl (.int x3)), some (.inl (.int x4)), some (.inl (.int v8)), some (.inl (.int v10)), none, none]) (st' := []) (S' := S191) ok_X5_worth.1 (by decide +kernel) rfl rfl ?_
                                    refine ax_Tgoto (off := 77) (tgt := 216) (by decide +kernel) (by decide) ?_
                                    refine ax_Tgo [.iinc 3 1] (pc' := 219) (L' := [some (.inr (5, y2)), some (.inr (32, 0)), some (.inl (.int x3)), some (.inl (.int (x4 + (1 : Int32)))), some (.inl (.int v8)), some (.inl (.int v10)), none, none]) (st' := []) (S' := S191) ok_X5_worth.1 (by decide +kernel) rfl rfl ?_
                                    obtain ⟨v196, ev196, h⟩ := ax_let_e h
                                    rw [ev196]
                                    refine ax_Tgoto (off := (-210)) (tgt := 9) (by decide +kernel) (by decide) ?_
                                    refine ax_Tdrop [true, true, true, true, false, false, true, true] (L' := [some (.inr (5, y2)), some (.inr (32, 0)), some (.inl (.int x3)), some (.inl (.int v196)), none, none, none, none]) rfl ?_
                                    exact ih y2 x3 v196 S191 _ _ h
                                  · rw [if_pos c195] at h
                                    refine ax_Tgo [.iload 5] (pc' := 134) (L' := [some (.inr (5, y2)), some (.inr (32, 0)), some (.inl (.int x3)), some (.inl (.int x4)), some (.inl (.int v8)), some (.inl (.int v10)), none, none]) (st' := [.inl (.int v10)]) (S' := S191) ok_X5_worth.1 (by decide +kernel) rfl rfl ?_
                                    refine ax_Tgoto (off := 4) (tgt := 138) (by decide +kernel) (by decide) ?_
                                    refine ax_Tgo [.istore_n 2] (pc' := 139) (L' := [some (.inr (5, y2)), some (.inr (32, 0)), some (.inl (.int v10)), some (.inl (.int x4)), some (.inl (.int v8)), some (.inl (.int v10)), none, none]) (st' := []) (S' := S191) ok_X5_worth.1 (by decide +kernel) rfl rfl ?_
                                    refine ax_Tgoto (off := 77) (tgt := 216) (by decide +kernel) (by decide) ?_
                                    refine ax_Tgo [.iinc 3 1] (pc' := 219) (L' := [some (.inr (5, y2)), some (.inr (32, 0)), some (.inl (.int v10)), some (.inl (.int (x4 + (1 : Int32)))), some (.inl (.int v8)), some (.inl (.int v10)), none, none]) (st' := []) (S' := S191) ok_X5_worth.1 (by decide +kernel) rfl rfl ?_
                                    obtain ⟨v197, ev197, h⟩ := ax_let_e h
                                    rw [ev197]
                                    refine ax_Tgoto (off := (-210)) (tgt := 9) (by decide +kernel) (by decide) ?_
                                    refine ax_Tdrop [true, true, true, true, false, false, true, true] (L' := [some (.inr (5, y2)), some (.inr (32, 0)), some (.inl (.int v10)), some (.inl (.int v197)), none, none, none, none]) rfl ?_
                                    exact ih y2 v10 v197 S191 _ _ h
                                · rw [if_neg c190] at h
                                  by_cases c198 : v8 = (13 : Int32)
                                  · rw [if_pos c198] at h
                                    refine ax_TtIn (dflt := 139) (lo := 0) (hi := 13) (offs := #[92, 102, 139, 139, 139, 139, 139, 139, 139, 139, 139, 125, 75, 70]) (len := 70) (off := 70) (tgt := 120) (by decide +kernel) (by rw [c198]; decide) (by rw [c198]; decide) (by rw [c198]; rfl) (by decide) ?_
                                    refine ax_Tgo [.aload_n 0] (pc' := 121) (L' := [some (.inr (5, y2)), some (.inr (32, 0)), some (.inl (.int x3)), some (.inl (.int x4)), some (.inl (.int v8)), some (.inl (.int v10)), none, none]) (st' := [.inr (5, y2)]) (S' := S5) ok_X5_worth.1 (by decide +kernel) rfl rfl ?_
                                    obtain ⟨r202, S199, hq200, h⟩ := ax_bu_e h
                                    refine ax_TVi (d := 0) (ka := 5) (i := y2) [] [] lk_X5_97 (by decide +kernel) rfl (by decide) rfl (Nat.le_of_ble_eq_true rfl) (Nat.le_of_ble_eq_true rfl) ((t_X5_pop hq200).up (by decide)) ?_
                                    cases h
                                    exact ax_Treti (by decide +kernel) rfl rfl
                                  · rw [if_neg c198] at h
                                    refine ax_TtOut (dflt := 139) (lo := 0) (hi := 13) (offs := #[92, 102, 139, 139, 139, 139, 139, 139, 139, 139, 139, 125, 75, 70]) (len := 70) (tgt := 189) (by decide +kernel) (by have zc12 := lv_neT (a := 0) c12 rfl; have zc17 := lv_neT (a := 1) c17 rfl; have zc28 := lv_neT (a := 2) c28 rfl; have zc45 := lv_neT (a := 3) c45 rfl; have zc62 := lv_neT (a := 4) c62 rfl; have zc79 := lv_neT (a := 5) c79 rfl; have zc96 := lv_neT (a := 6) c96 rfl; have zc113 := lv_neT (a := 7) c113 rfl; have zc130 := lv_neT (a := 8) c130 rfl; have zc147 := lv_neT (a := 9) c147 rfl; have zc164 := lv_neT (a := 10) c164 rfl; have zc181 := lv_neT (a := 11) c181 rfl; have zc190 := lv_neT (a := 12) c190 rfl; have zc198 := lv_neT (a := 13) c198 rfl; omega) (by decide) ?_
                                    refine ax_Tgo [.aload_n 0] (pc' := 190) (L' := [some (.inr (5, y2)), some (.inr (32, 0)), some (.inl (.int x3)), some (.inl (.int x4)), some (.inl (.int v8)), some (.inl (.int v10)), none, none]) (st' := [.inr (5, y2)]) (S' := S5) ok_X5_worth.1 (by decide +kernel) rfl rfl ?_
                                    obtain ⟨r206, S203, hq204, h⟩ := ax_bu_e h
                                    refine ax_TVi (d := 0) (ka := 5) (i := y2) [] [] lk_X5_97 (by decide +kernel) rfl (by decide) rfl (Nat.le_of_ble_eq_true rfl) (Nat.le_of_ble_eq_true rfl) ((t_X5_pop hq204).up (by decide)) ?_
                                    refine ax_Tgo [.istore 6, .aload_n 0] (pc' := 196) (L' := [some (.inr (5, y2)), some (.inr (32, 0)), some (.inl (.int x3)), some (.inl (.int x4)), some (.inl (.int v8)), some (.inl (.int v10)), some (.inl (.int r206)), none]) (st' := [.inr (5, y2)]) (S' := S203) ok_X5_worth.1 (by decide +kernel) rfl rfl ?_
                                    obtain ⟨r210, S207, hq208, h⟩ := ax_bu_e h
                                    refine ax_TVi (d := 0) (ka := 5) (i := y2) [] [] lk_X5_97 (by decide +kernel) rfl (by decide) rfl (Nat.le_of_ble_eq_true rfl) (Nat.le_of_ble_eq_true rfl) ((t_X5_pop hq208).up (by decide)) ?_
                                    refine ax_Tgo [.istore 7, .aload_n 0, .iload 4, .iload 7, .i2l, .iload 6, .i2l] (pc' := 210) (L' := [some (.inr (5, y2)), some (.inr (32, 0)), some (.inl (.int x3)), some (.inl (.int x4)), some (.inl (.int v8)), some (.inl (.int v10)), some (.inl (.int r206)), some (.inl (.int r210))]) (st' := [.inl (.long r206.toInt64), .inl (.long r210.toInt64), .inl (.int v8), .inr (5, y2)]) (S' := S207) ok_X5_worth.1 (by decide +kernel) rfl rfl ?_
                                    obtain ⟨r214, hq212, h⟩ := ax_bd_e h
                                    refine ax_TSl (d := 0) [.inl (.int v8), .inl (.long r210.toInt64), .inl (.long r206.toInt64)] [.inr (5, y2)] lk_X5_104 (by decide +kernel) rfl rfl (Nat.le_of_ble_eq_true rfl) (Nat.le_of_ble_eq_true rfl) ((t_X5_joined hq212).up (by decide)) ?_
                                    obtain ⟨S215, hq216, h⟩ := ax_bd_e h
                                    refine ax_TVv (d := 0) (ka := 5) (i := y2) [.inl (.long r214)] [] lk_X5_100 (by decide +kernel) rfl (by decide) rfl (Nat.le_of_ble_eq_true rfl) (Nat.le_of_ble_eq_true rfl) ((t_X5_push hq216).up (by decide)) ?_
                                    refine ax_Tgo [.iinc 3 1] (pc' := 219) (L' := [some (.inr (5, y2)), some (.inr (32, 0)), some (.inl (.int x3)), some (.inl (.int (x4 + (1 : Int32)))), some (.inl (.int v8)), some (.inl (.int v10)), some (.inl (.int r206)), some (.inl (.int r210))]) (st' := []) (S' := S215) ok_X5_worth.1 (by decide +kernel) rfl rfl ?_
                                    obtain ⟨v218, ev218, h⟩ := ax_let_e h
                                    rw [ev218]
                                    refine ax_Tgoto (off := (-210)) (tgt := 9) (by decide +kernel) (by decide) ?_
                                    refine ax_Tdrop [true, true, true, true, false, false, false, false] (L' := [some (.inr (5, y2)), some (.inr (32, 0)), some (.inl (.int x3)), some (.inl (.int v218)), none, none, none, none]) rfl ?_
                                    exact ih y2 x3 v218 S215 _ _ h
      · rw [if_neg c11] at h
        refine ax_Tgoto (off := 171) (tgt := 216) (by decide +kernel) (by decide) ?_
        refine ax_Tgo [.iinc 3 1] (pc' := 219) (L' := [some (.inr (5, y2)), some (.inr (32, 0)), some (.inl (.int x3)), some (.inl (.int (x4 + (1 : Int32)))), some (.inl (.int v8)), some (.inl (.int v10)), none, none]) (st' := []) (S' := S5) ok_X5_worth.1 (by decide +kernel) rfl rfl ?_
        obtain ⟨v219, ev219, h⟩ := ax_let_e h
        rw [ev219]
        refine ax_Tgoto (off := (-210)) (tgt := 9) (by decide +kernel) (by decide) ?_
        refine ax_Tdrop [true, true, true, true, false, false, true, true] (L' := [some (.inr (5, y2)), some (.inr (32, 0)), some (.inl (.int x3)), some (.inl (.int v219)), none, none, none, none]) rfl ?_
        exact ih y2 x3 v219 S5 _ _ h
set_option maxRecDepth 100000 in
theorem t_X5_worth_32x0 {l : Launch} {i0 : Nat} {S Z : AS} {r : Int32} (h : f_X5_worth_32x0 i0 S = some (r, Z)) : ax_M l 1 ma_X5_worth [.inr (5, i0), .inr (32, 0)] S (some (.inl (.int r))) Z := by
  unfold f_X5_worth_32x0 at h
  show ax_T l 1 ma_X5_worth (0, [some (.inr (5, i0)), some (.inr (32, 0)), none, none, none, none, none, none], [], S) (some (.inl (.int r))) Z
  refine ax_Tgo [.aload_n 0, .iconst 0, .putfield 24] (pc' := 5) (L' := [some (.inr (5, i0)), some (.inr (32, 0)), none, none, none, none, none, none]) (st' := []) (S' := (ax_sfi S 5 i0 3 (0 : Int32))) ok_X5_worth.1 (by decide +kernel) rfl rfl ?_
  obtain ⟨S1, eS1, h⟩ := ax_let_e h
  rw [eS1]
  refine ax_Tgo [.iconst 0, .istore_n 2, .iconst 0, .istore_n 3] (pc' := 9) (L' := [some (.inr (5, i0)), some (.inr (32, 0)), some (.inl (.int (0 : Int32))), some (.inl (.int (0 : Int32))), none, none, none, none]) (st' := []) (S' := S1) ok_X5_worth.1 (by decide +kernel) rfl rfl ?_
  refine t_X5_worth_32x0_L9 _ i0 (0 : Int32) (0 : Int32) S1 _ _ h
def f_X6_beats (a1 : Int32) (a2 : Int32) (a3 : Int32) (a4 : Int32) (a5 : Int32) (a6 : Int32) (S : AS) : Option (Int32 × AS) := ax_on (ax_fo S 6 0 1) (some ((1 : Int32), S)) (fun (o1 : Nat) => (f_X4_traitOf o1 a1 (0 : Int32) S).bind (fun (r6 : Int32) => ax_on (ax_fo S 6 0 2) ((f_X4_hardBeats o1 S).bind (fun (r12 : Int32) => ax_let ((r6 + (a2 * r12)) + ((2 : Int32) * a3)) (fun (v13 : Int32) => ax_let (fun (x14 : Int32) (S15 : AS) => ax_let (x14 + (a4 / (2 : Int32))) (fun (v18 : Int32) => (f_J9_min_7cf53 (60 : Int32) v18 S15).bind (fun (r22 : Int32) => (f_J9_max_7cf53 (1 : Int32) r22 S15).bind (fun (r26 : Int32) => some (r26, S15))))) (fun J16 => (if a5 = (1 : Int32) then J16 (v13 / (2 : Int32)) S else J16 v13 S))))) (fun (o7 : Nat) => ax_gd (ax_in (0 : Int32) 6) (ax_let (ax_sai S 32 0 (0 : Int32).toNatClampNeg r6) (fun (S30 : AS) => ax_gd (ax_in (1 : Int32) 6) (ax_let (ax_sai S30 32 0 (1 : Int32).toNatClampNeg a2) (fun (S32 : AS) => ax_gd (ax_in (2 : Int32) 6) (ax_let (ax_sai S32 32 0 (2 : Int32).toNatClampNeg a3) (fun (S34 : AS) => ax_gd (ax_in (3 : Int32) 6) (ax_let (ax_sai S34 32 0 (3 : Int32).toNatClampNeg a4) (fun (S36 : AS) => ax_gd (ax_in (4 : Int32) 6) (ax_let (ax_sai S36 32 0 (4 : Int32).toNatClampNeg a5) (fun (S38 : AS) => ax_gd (ax_in (5 : Int32) 6) (ax_let (ax_sai S38 32 0 (5 : Int32).toNatClampNeg a6) (fun (S40 : AS) => ax_on (ax_fo S40 6 0 2) (none) (fun (o41 : Nat) => ax_bu (f_X5_worth_32x0 o41 S40) (fun (r46 : Int32) (S43 : AS) => (f_J9_min_7cf53 (60 : Int32) r46 S43).bind (fun (r50 : Int32) => (f_J9_max_7cf53 (1 : Int32) r50 S43).bind (fun (r54 : Int32) => some (r54, S43))))))))))))))))))))
set_option maxRecDepth 100000 in
theorem t_X6_beats {l : Launch} {a1 : Int32} {a2 : Int32} {a3 : Int32} {a4 : Int32} {a5 : Int32} {a6 : Int32} {S Z : AS} {r : Int32} (h : f_X6_beats a1 a2 a3 a4 a5 a6 S = some (r, Z)) : ax_M l 2 ma_X6_beats [.inr (6, 0), .inl (.int a1), .inl (.int a2), .inl (.int a3), .inl (.int a4), .inl (.int a5), .inl (.int a6)] S (some (.inl (.int r))) Z := by
  unfold f_X6_beats at h
  show ax_T l 2 ma_X6_beats (0, [some (.inr (6, 0)), some (.inl (.int a1)), some (.inl (.int a2)), some (.inl (.int a3)), some (.inl (.int a4)), some (.inl (.int a5)), some (.inl (.int a6)), none, none, none], [], S) (some (.inl (.int r))) Z
  refine ax_Tgo [.aload_n 0] (pc' := 1) (L' := [some (.inr (6, 0)), some (.inl (.int a1)), some (.inl (.int a2)), some (.inl (.int a3)), some (.inl (.int a4)), some (.inl (.int a5)), some (.inl (.int a6)), none, none, none]) (st' := [.inr (6, 0)]) (S' := S) ok_X6_beats.1 (by decide +kernel) rfl rfl ?_
  cases ho2 : ax_fo S 6 0 1 with
  | none =>
    rw [ho2] at h
    replace h := ax_on_n h
    refine ax_TgetN (n := 15) (sl := 1) (c := 6) (q := 4) ok_X6_beats.1 (by decide +kernel) rfl (by decide +kernel) rfl ho2 ?_
    refine ax_TnnN (off := 5) (by decide +kernel) ?_
    refine ax_Tgo [.iconst 1] (pc' := 8) (L' := [some (.inr (6, 0)), some (.inl (.int a1)), some (.inl (.int a2)), some (.inl (.int a3)), some (.inl (.int a4)), some (.inl (.int a5)), some (.inl (.int a6)), none, none, none]) (st' := [.inl (.int (1 : Int32))]) (S' := S) ok_X6_beats.1 (by decide +kernel) rfl rfl ?_
    cases h
    exact ax_Treti (by decide +kernel) rfl rfl
  | some o1 =>
    rw [ho2] at h
    replace h := ax_on_s h
    refine ax_TgetS (n := 15) (sl := 1) (c := 6) (q := 4) ok_X6_beats.1 (by decide +kernel) rfl (by decide +kernel) rfl ho2 ?_
    refine ax_TnnR (off := 5) (tgt := 9) (by decide +kernel) (by decide) (by decide) ?_
    refine ax_Tgo [.aload_n 0] (pc' := 10) (L' := [some (.inr (6, 0)), some (.inl (.int a1)), some (.inl (.int a2)), some (.inl (.int a3)), some (.inl (.int a4)), some (.inl (.int a5)), some (.inl (.int a6)), none, none, none]) (st' := [.inr (6, 0)]) (S' := S) ok_X6_beats.1 (by decide +kernel) rfl rfl ?_
    refine ax_TgetS (n := 15) (sl := 1) (c := 6) (q := 4) ok_X6_beats.1 (by decide +kernel) rfl (by decide +kernel) rfl ho2 ?_
    refine ax_Tgo [.iload_n 1, .iconst 0] (pc' := 15) (L' := [some (.inr (6, 0)), some (.inl (.int a1)), some (.inl (.int a2)), some (.inl (.int a3)), some (.inl (.int a4)), some (.inl (.int a5)), some (.inl (.int a6)), none, none, none]) (st' := [.inl (.int (0 : Int32)), .inl (.int a1), .inr (4, o1)]) (S' := S) ok_X6_beats.1 (by decide +kernel) rfl rfl ?_
    obtain ⟨r6, hq4, h⟩ := ax_bd_e h
    refine ax_TVi (d := 1) (ka := 4) (i := o1) [.inl (.int a1), .inl (.int (0 : Int32))] [] lk_X6_46 (by decide +kernel) rfl (by decide) rfl (Nat.le_of_ble_eq_true rfl) (Nat.le_of_ble_eq_true rfl) ((t_X4_traitOf hq4).up (by decide)) ?_
    refine ax_Tgo [.istore 7, .aload_n 0] (pc' := 21) (L' := [some (.inr (6, 0)), some (.inl (.int a1)), some (.inl (.int a2)), some (.inl (.int a3)), some (.inl (.int a4)), some (.inl (.int a5)), some (.inl (.int a6)), some (.inl (.int r6)), none, none]) (st' := [.inr (6, 0)]) (S' := S) ok_X6_beats.1 (by decide +kernel) rfl rfl ?_
    cases ho8 : ax_fo S 6 0 2 with
    | none =>
      rw [ho8] at h
      replace h := ax_on_n h
      refine ax_TgetN (n := 19) (sl := 2) (c := 6) (q := 5) ok_X6_beats.1 (by decide +kernel) rfl (by decide +kernel) rfl ho8 ?_
      refine ax_TnnN (off := 46) (by decide +kernel) ?_
      refine ax_Tgo [.iload 7, .iload_n 2, .aload_n 0] (pc' := 31) (L' := [some (.inr (6, 0)), some (.inl (.int a1)), some (.inl (.int a2)), some (.inl (.int a3)), some (.inl (.int a4)), some (.inl (.int a5)), some (.inl (.int a6)), some (.inl (.int r6)), none, none]) (st' := [.inr (6, 0), .inl (.int a2), .inl (.int r6)]) (S' := S) ok_X6_beats.1 (by decide +kernel) rfl rfl ?_
      refine ax_TgetS (n := 15) (sl := 1) (c := 6) (q := 4) ok_X6_beats.1 (by decide +kernel) rfl (by decide +kernel) rfl ho2 ?_
      obtain ⟨r12, hq10, h⟩ := ax_bd_e h
      refine ax_TVi (d := 1) (ka := 4) (i := o1) [] [.inl (.int a2), .inl (.int r6)] lk_X6_52 (by decide +kernel) rfl (by decide) rfl (Nat.le_of_ble_eq_true rfl) (Nat.le_of_ble_eq_true rfl) ((t_X4_hardBeats hq10).up (by decide)) ?_
      refine ax_Tgo [.imul, .iadd, .iconst 2, .iload_n 3, .imul, .iadd, .istore 9] (pc' := 45) (L' := [some (.inr (6, 0)), some (.inl (.int a1)), some (.inl (.int a2)), some (.inl (.int a3)), some (.inl (.int a4)), some (.inl (.int a5)), some (.inl (.int a6)), some (.inl (.int r6)), none, some (.inl (.int ((r6 + (a2 * r12)) + ((2 : Int32) * a3))))]) (st' := []) (S' := S) ok_X6_beats.1 (by decide +kernel) rfl rfl ?_
      obtain ⟨v13, ev13, h⟩ := ax_let_e h
      rw [ev13]
      refine ax_Tgo [.iload 5, .iconst 1] (pc' := 48) (L' := [some (.inr (6, 0)), some (.inl (.int a1)), some (.inl (.int a2)), some (.inl (.int a3)), some (.inl (.int a4)), some (.inl (.int a5)), some (.inl (.int a6)), some (.inl (.int r6)), none, some (.inl (.int v13))]) (st' := [.inl (.int (1 : Int32)), .inl (.int a5)]) (S' := S) ok_X6_beats.1 (by decide +kernel) rfl rfl ?_
      obtain ⟨J16, eJ16, h⟩ := ax_let_e h
      have hJ16 : ∀ (x14 : Int32) (S15 : AS) r Z, J16 x14 S15 = some (r, Z) → ax_T l 2 ma_X6_beats (60, [none, none, none, none, some (.inl (.int a4)), none, none, none, none, none], [.inl (.int x14)], S15) (some (.inl (.int r))) Z := by
        intro x14 S15 r Z h
        rw [← eJ16] at h
        try dsimp only at h
        refine ax_Tgo [.iload 4, .iconst 2] (pc' := 63) (L' := [none, none, none, none, some (.inl (.int a4)), none, none, none, none, none]) (st' := [.inl (.int (2 : Int32)), .inl (.int a4), .inl (.int x14)]) (S' := S15) ok_X6_beats.1 (by decide +kernel) rfl rfl ?_
        refine ax_Tidiv ok_X6_beats.1 (by decide +kernel) (by decide) ?_
        refine ax_Tgo [.iadd, .istore 8] (pc' := 67) (L' := [none, none, none, none, some (.inl (.int a4)), none, none, none, some (.inl (.int (x14 + (a4 / (2 : Int32))))), none]) (st' := []) (S' := S15) ok_X6_beats.1 (by decide +kernel) rfl rfl ?_
        obtain ⟨v18, ev18, h⟩ := ax_let_e h
        rw [ev18]
        refine ax_Tgoto (off := 62) (tgt := 129) (by decide +kernel) (by decide) ?_
        refine ax_Tgo [.iconst 1, .bipush 60, .iload 8] (pc' := 134) (L' := [none, none, none, none, some (.inl (.int a4)), none, none, none, some (.inl (.int v18)), none]) (st' := [.inl (.int v18), .inl (.int (60 : Int32)), .inl (.int (1 : Int32))]) (S' := S15) ok_X6_beats.1 (by decide +kernel) rfl rfl ?_
        obtain ⟨r22, hq20, h⟩ := ax_bd_e h
        refine ax_TSi (d := 1) [.inl (.int (60 : Int32)), .inl (.int v18)] [.inl (.int (1 : Int32))] lk_X6_62 (by decide +kernel) rfl rfl (Nat.le_of_ble_eq_true rfl) (Nat.le_of_ble_eq_true rfl) ((t_J9_min_7cf53 hq20).up (by decide)) ?_
        obtain ⟨r26, hq24, h⟩ := ax_bd_e h
        refine ax_TSi (d := 1) [.inl (.int (1 : Int32)), .inl (.int r22)] [] lk_X6_67 (by decide +kernel) rfl rfl (Nat.le_of_ble_eq_true rfl) (Nat.le_of_ble_eq_true rfl) ((t_J9_max_7cf53 hq24).up (by decide)) ?_
        cases h
        exact ax_Treti (by decide +kernel) rfl rfl
      refine ax_Tic_ne (off := 10) (tgt := 58) (by decide +kernel) (by decide) (fun c27 => ?_) (fun c27 => ?_)
      · rw [if_neg c27] at h
        refine ax_Tgo [.iload 9] (pc' := 60) (L' := [some (.inr (6, 0)), some (.inl (.int a1)), some (.inl (.int a2)), some (.inl (.int a3)), some (.inl (.int a4)), some (.inl (.int a5)), some (.inl (.int a6)), some (.inl (.int r6)), none, some (.inl (.int v13))]) (st' := [.inl (.int v13)]) (S' := S) ok_X6_beats.1 (by decide +kernel) rfl rfl ?_
        refine ax_Tdrop [false, false, false, false, true, false, false, false, true, false] (L' := [none, none, none, none, some (.inl (.int a4)), none, none, none, none, none]) rfl ?_
        exact hJ16 v13 S _ _ h
      · rw [if_pos c27] at h
        refine ax_Tgo [.iload 9, .iconst 2] (pc' := 54) (L' := [some (.inr (6, 0)), some (.inl (.int a1)), some (.inl (.int a2)), some (.inl (.int a3)), some (.inl (.int a4)), some (.inl (.int a5)), some (.inl (.int a6)), some (.inl (.int r6)), none, some (.inl (.int v13))]) (st' := [.inl (.int (2 : Int32)), .inl (.int v13)]) (S' := S) ok_X6_beats.1 (by decide +kernel) rfl rfl ?_
        refine ax_Tidiv ok_X6_beats.1 (by decide +kernel) (by decide) ?_
        refine ax_Tgoto (off := 5) (tgt := 60) (by decide +kernel) (by decide) ?_
        refine ax_Tdrop [false, false, false, false, true, false, false, false, true, false] (L' := [none, none, none, none, some (.inl (.int a4)), none, none, none, none, none]) rfl ?_
        exact hJ16 (v13 / (2 : Int32)) S _ _ h
    | some o7 =>
      rw [ho8] at h
      replace h := ax_on_s h
      refine ax_TgetS (n := 19) (sl := 2) (c := 6) (q := 5) ok_X6_beats.1 (by decide +kernel) rfl (by decide +kernel) rfl ho8 ?_
      refine ax_TnnR (off := 46) (tgt := 70) (by decide +kernel) (by decide) (by decide) ?_
      refine ax_Tgo [.aload_n 0, .getfield 9, .iconst 0, .iload 7] (pc' := 77) (L' := [some (.inr (6, 0)), some (.inl (.int a1)), some (.inl (.int a2)), some (.inl (.int a3)), some (.inl (.int a4)), some (.inl (.int a5)), some (.inl (.int a6)), some (.inl (.int r6)), none, none]) (st' := [.inl (.int r6), .inl (.int (0 : Int32)), .inr (32, 0)]) (S' := S) ok_X6_beats.1 (by decide +kernel) rfl rfl ?_
      obtain ⟨g29, h⟩ := ax_gd_e h
      refine ax_Tasi (n := 6) ok_X6_beats.1 (by decide +kernel) (by decide) rfl g29 ?_
      obtain ⟨S30, eS30, h⟩ := ax_let_e h
      rw [eS30]
      refine ax_Tgo [.aload_n 0, .getfield 9, .iconst 1, .iload_n 2] (pc' := 84) (L' := [some (.inr (6, 0)), some (.inl (.int a1)), some (.inl (.int a2)), some (.inl (.int a3)), some (.inl (.int a4)), some (.inl (.int a5)), some (.inl (.int a6)), some (.inl (.int r6)), none, none]) (st' := [.inl (.int a2), .inl (.int (1 : Int32)), .inr (32, 0)]) (S' := S30) ok_X6_beats.1 (by decide +kernel) rfl rfl ?_
      obtain ⟨g31, h⟩ := ax_gd_e h
      refine ax_Tasi (n := 6) ok_X6_beats.1 (by decide +kernel) (by decide) rfl g31 ?_
      obtain ⟨S32, eS32, h⟩ := ax_let_e h
      rw [eS32]
      refine ax_Tgo [.aload_n 0, .getfield 9, .iconst 2, .iload_n 3] (pc' := 91) (L' := [some (.inr (6, 0)), some (.inl (.int a1)), some (.inl (.int a2)), some (.inl (.int a3)), some (.inl (.int a4)), some (.inl (.int a5)), some (.inl (.int a6)), some (.inl (.int r6)), none, none]) (st' := [.inl (.int a3), .inl (.int (2 : Int32)), .inr (32, 0)]) (S' := S32) ok_X6_beats.1 (by decide +kernel) rfl rfl ?_
      obtain ⟨g33, h⟩ := ax_gd_e h
      refine ax_Tasi (n := 6) ok_X6_beats.1 (by decide +kernel) (by decide) rfl g33 ?_
      obtain ⟨S34, eS34, h⟩ := ax_let_e h
      rw [eS34]
      refine ax_Tgo [.aload_n 0, .getfield 9, .iconst 3, .iload 4] (pc' := 99) (L' := [some (.inr (6, 0)), some (.inl (.int a1)), some (.inl (.int a2)), some (.inl (.int a3)), some (.inl (.int a4)), some (.inl (.int a5)), some (.inl (.int a6)), some (.inl (.int r6)), none, none]) (st' := [.inl (.int a4), .inl (.int (3 : Int32)), .inr (32, 0)]) (S' := S34) ok_X6_beats.1 (by decide +kernel) rfl rfl ?_
      obtain ⟨g35, h⟩ := ax_gd_e h
      refine ax_Tasi (n := 6) ok_X6_beats.1 (by decide +kernel) (by decide) rfl g35 ?_
      obtain ⟨S36, eS36, h⟩ := ax_let_e h
      rw [eS36]
      refine ax_Tgo [.aload_n 0, .getfield 9, .iconst 4, .iload 5] (pc' := 107) (L' := [some (.inr (6, 0)), some (.inl (.int a1)), some (.inl (.int a2)), some (.inl (.int a3)), some (.inl (.int a4)), some (.inl (.int a5)), some (.inl (.int a6)), some (.inl (.int r6)), none, none]) (st' := [.inl (.int a5), .inl (.int (4 : Int32)), .inr (32, 0)]) (S' := S36) ok_X6_beats.1 (by decide +kernel) rfl rfl ?_
      obtain ⟨g37, h⟩ := ax_gd_e h
      refine ax_Tasi (n := 6) ok_X6_beats.1 (by decide +kernel) (by decide) rfl g37 ?_
      obtain ⟨S38, eS38, h⟩ := ax_let_e h
      rw [eS38]
      refine ax_Tgo [.aload_n 0, .getfield 9, .iconst 5, .iload 6] (pc' := 115) (L' := [some (.inr (6, 0)), some (.inl (.int a1)), some (.inl (.int a2)), some (.inl (.int a3)), some (.inl (.int a4)), some (.inl (.int a5)), some (.inl (.int a6)), some (.inl (.int r6)), none, none]) (st' := [.inl (.int a6), .inl (.int (5 : Int32)), .inr (32, 0)]) (S' := S38) ok_X6_beats.1 (by decide +kernel) rfl rfl ?_
      obtain ⟨g39, h⟩ := ax_gd_e h
      refine ax_Tasi (n := 6) ok_X6_beats.1 (by decide +kernel) (by decide) rfl g39 ?_
      obtain ⟨S40, eS40, h⟩ := ax_let_e h
      rw [eS40]
      refine ax_Tgo [.aload_n 0] (pc' := 117) (L' := [some (.inr (6, 0)), some (.inl (.int a1)), some (.inl (.int a2)), some (.inl (.int a3)), some (.inl (.int a4)), some (.inl (.int a5)), some (.inl (.int a6)), some (.inl (.int r6)), none, none]) (st' := [.inr (6, 0)]) (S' := S40) ok_X6_beats.1 (by decide +kernel) rfl rfl ?_
      cases ho42 : ax_fo S40 6 0 2 with
      | none =>
        rw [ho42] at h
        replace h := ax_on_n h
        refine ax_TgetN (n := 19) (sl := 2) (c := 6) (q := 5) ok_X6_beats.1 (by decide +kernel) rfl (by decide +kernel) rfl ho42 ?_
        cases h
      | some o41 =>
        rw [ho42] at h
        replace h := ax_on_s h
        refine ax_TgetS (n := 19) (sl := 2) (c := 6) (q := 5) ok_X6_beats.1 (by decide +kernel) rfl (by decide +kernel) rfl ho42 ?_
        refine ax_Tgo [.aload_n 0, .getfield 9] (pc' := 124) (L' := [some (.inr (6, 0)), some (.inl (.int a1)), some (.inl (.int a2)), some (.inl (.int a3)), some (.inl (.int a4)), some (.inl (.int a5)), some (.inl (.int a6)), some (.inl (.int r6)), none, none]) (st' := [.inr (32, 0), .inr (5, o41)]) (S' := S40) ok_X6_beats.1 (by decide +kernel) rfl rfl ?_
        obtain ⟨r46, S43, hq44, h⟩ := ax_bu_e h
        refine ax_TVi (d := 1) (ka := 5) (i := o41) [.inr (32, 0)] [] lk_X6_56 (by decide +kernel) rfl (by decide) rfl (Nat.le_of_ble_eq_true rfl) (Nat.le_of_ble_eq_true rfl) ((t_X5_worth_32x0 hq44).up (by decide)) ?_
        refine ax_Tgo [.istore 8, .iconst 1, .bipush 60, .iload 8] (pc' := 134) (L' := [some (.inr (6, 0)), some (.inl (.int a1)), some (.inl (.int a2)), some (.inl (.int a3)), some (.inl (.int a4)), some (.inl (.int a5)), some (.inl (.int a6)), some (.inl (.int r6)), some (.inl (.int r46)), none]) (st' := [.inl (.int r46), .inl (.int (60 : Int32)), .inl (.int (1 : Int32))]) (S' := S43) ok_X6_beats.1 (by decide +kernel) rfl rfl ?_
        obtain ⟨r50, hq48, h⟩ := ax_bd_e h
        refine ax_TSi (d := 1) [.inl (.int (60 : Int32)), .inl (.int r46)] [.inl (.int (1 : Int32))] lk_X6_62 (by decide +kernel) rfl rfl (Nat.le_of_ble_eq_true rfl) (Nat.le_of_ble_eq_true rfl) ((t_J9_min_7cf53 hq48).up (by decide)) ?_
        obtain ⟨r54, hq52, h⟩ := ax_bd_e h
        refine ax_TSi (d := 1) [.inl (.int (1 : Int32)), .inl (.int r50)] [] lk_X6_67 (by decide +kernel) rfl rfl (Nat.le_of_ble_eq_true rfl) (Nat.le_of_ble_eq_true rfl) ((t_J9_max_7cf53 hq52).up (by decide)) ?_
        cases h
        exact ax_Treti (by decide +kernel) rfl rfl
def f_X6_beatsNow (i1 : Nat) (a2 : Int32) (S : AS) : Option (Int32 × AS) := (f_X6_hardsOf a2 S).bind (fun (r4 : Int32) => (f_X9_titlesOf i1 a2 S).bind (fun (r8 : Int32) => ax_bu (f_X6_beats a2 r4 r8 (ax_fi S 9 i1 3) (ax_fi S 9 i1 4) (ax_fi S 9 i1 7) S) (fun (r12 : Int32) (S9 : AS) => some (r12, S9))))
set_option maxRecDepth 100000 in
theorem t_X6_beatsNow {l : Launch} {i1 : Nat} {a2 : Int32} {S Z : AS} {r : Int32} (h : f_X6_beatsNow i1 a2 S = some (r, Z)) : ax_M l 3 ma_X6_beatsNow [.inr (6, 0), .inr (9, i1), .inl (.int a2)] S (some (.inl (.int r))) Z := by
  unfold f_X6_beatsNow at h
  show ax_T l 3 ma_X6_beatsNow (0, [some (.inr (6, 0)), some (.inr (9, i1)), some (.inl (.int a2))], [], S) (some (.inl (.int r))) Z
  refine ax_Tgo [.aload_n 0, .iload_n 2, .aload_n 0, .iload_n 2] (pc' := 4) (L' := [some (.inr (6, 0)), some (.inr (9, i1)), some (.inl (.int a2))]) (st' := [.inl (.int a2), .inr (6, 0), .inl (.int a2), .inr (6, 0)]) (S' := S) ok_X6_beatsNow.1 (by decide +kernel) rfl rfl ?_
  obtain ⟨r4, hq2, h⟩ := ax_bd_e h
  refine ax_TVi (d := 2) (ka := 6) (i := 0) [.inl (.int a2)] [.inl (.int a2), .inr (6, 0)] lk_X6_23 (by decide +kernel) rfl (by decide) rfl (Nat.le_of_ble_eq_true rfl) (Nat.le_of_ble_eq_true rfl) ((t_X6_hardsOf hq2).up (by decide)) ?_
  refine ax_Tgo [.aload_n 1, .iload_n 2] (pc' := 9) (L' := [some (.inr (6, 0)), some (.inr (9, i1)), some (.inl (.int a2))]) (st' := [.inl (.int a2), .inr (9, i1), .inl (.int r4), .inl (.int a2), .inr (6, 0)]) (S' := S) ok_X6_beatsNow.1 (by decide +kernel) rfl rfl ?_
  obtain ⟨r8, hq6, h⟩ := ax_bd_e h
  refine ax_TVi (d := 2) (ka := 9) (i := i1) [.inl (.int a2)] [.inl (.int r4), .inl (.int a2), .inr (6, 0)] lk_X6_27 (by decide +kernel) rfl (by decide) rfl (Nat.le_of_ble_eq_true rfl) (Nat.le_of_ble_eq_true rfl) ((t_X9_titlesOf hq6).up (by decide)) ?_
  refine ax_Tgo [.aload_n 1, .getfield 32, .aload_n 1, .getfield 36, .aload_n 1, .getfield 39] (pc' := 24) (L' := [some (.inr (6, 0)), some (.inr (9, i1)), some (.inl (.int a2))]) (st' := [.inl (.int (ax_fi S 9 i1 7)), .inl (.int (ax_fi S 9 i1 4)), .inl (.int (ax_fi S 9 i1 3)), .inl (.int r8), .inl (.int r4), .inl (.int a2), .inr (6, 0)]) (S' := S) ok_X6_beatsNow.1 (by decide +kernel) rfl rfl ?_
  obtain ⟨r12, S9, hq10, h⟩ := ax_bu_e h
  refine ax_TVi (d := 2) (ka := 6) (i := 0) [.inl (.int a2), .inl (.int r4), .inl (.int r8), .inl (.int (ax_fi S 9 i1 3)), .inl (.int (ax_fi S 9 i1 4)), .inl (.int (ax_fi S 9 i1 7))] [] lk_X6_42 (by decide +kernel) rfl (by decide) rfl (Nat.le_of_ble_eq_true rfl) (Nat.le_of_ble_eq_true rfl) ((t_X6_beats hq10).up (by decide)) ?_
  cases h
  exact ax_Treti (by decide +kernel) rfl rfl
def f_X4_beats (i0 : Nat) (S : AS) : Option (Int32) := ax_gd (ax_in (0 : Int32) 3) (some (ax_ai S 27 i0 (0 : Int32).toNatClampNeg))
set_option maxRecDepth 100000 in
theorem t_X4_beats {l : Launch} {i0 : Nat} {S : AS} {r : Int32} (h : f_X4_beats i0 S = some r) : ax_M l 0 ma_X4_beats [.inr (4, i0)] S (some (.inl (.int r))) S := by
  unfold f_X4_beats at h
  show ax_T l 0 ma_X4_beats (0, [some (.inr (4, i0))], [], S) (some (.inl (.int r))) S
  refine ax_Tgo [.aload_n 0, .getfield 11, .iconst 0] (pc' := 5) (L' := [some (.inr (4, i0))]) (st' := [.inl (.int (0 : Int32)), .inr (27, i0)]) (S' := S) ok_X4_beats.1 (by decide +kernel) rfl rfl ?_
  obtain ⟨g1, h⟩ := ax_gd_e h
  refine ax_Tali (n := 3) ok_X4_beats.1 (by decide +kernel) (by decide) rfl g1 ?_
  cases h
  exact ax_Treti (by decide +kernel) rfl rfl
def f_X6_beatsLeft (i1 : Nat) (S : AS) : Option (Int32) := ax_on (ax_fo S 6 0 1) (some (0 : Int32)) (fun (o1 : Nat) => (f_X4_beats o1 S).bind (fun (r6 : Int32) => some (r6 - (ax_fi S 9 i1 0))))
set_option maxRecDepth 100000 in
theorem t_X6_beatsLeft {l : Launch} {i1 : Nat} {S : AS} {r : Int32} (h : f_X6_beatsLeft i1 S = some r) : ax_M l 1 ma_X6_beatsLeft [.inr (6, 0), .inr (9, i1)] S (some (.inl (.int r))) S := by
  unfold f_X6_beatsLeft at h
  show ax_T l 1 ma_X6_beatsLeft (0, [some (.inr (6, 0)), some (.inr (9, i1))], [], S) (some (.inl (.int r))) S
  refine ax_Tgo [.aload_n 0] (pc' := 1) (L' := [some (.inr (6, 0)), some (.inr (9, i1))]) (st' := [.inr (6, 0)]) (S' := S) ok_X6_beatsLeft.1 (by decide +kernel) rfl rfl ?_
  cases ho2 : ax_fo S 6 0 1 with
  | none =>
    rw [ho2] at h
    replace h := ax_on_n h
    refine ax_TgetN (n := 15) (sl := 1) (c := 6) (q := 4) ok_X6_beatsLeft.1 (by decide +kernel) rfl (by decide +kernel) rfl ho2 ?_
    refine ax_TnnN (off := 7) (by decide +kernel) ?_
    refine ax_Tgo [.iconst 0] (pc' := 8) (L' := [some (.inr (6, 0)), some (.inr (9, i1))]) (st' := [.inl (.int (0 : Int32))]) (S' := S) ok_X6_beatsLeft.1 (by decide +kernel) rfl rfl ?_
    refine ax_Tgoto (off := 15) (tgt := 23) (by decide +kernel) (by decide) ?_
    cases h
    exact ax_Treti (by decide +kernel) rfl rfl
  | some o1 =>
    rw [ho2] at h
    replace h := ax_on_s h
    refine ax_TgetS (n := 15) (sl := 1) (c := 6) (q := 4) ok_X6_beatsLeft.1 (by decide +kernel) rfl (by decide +kernel) rfl ho2 ?_
    refine ax_TnnR (off := 7) (tgt := 11) (by decide +kernel) (by decide) (by decide) ?_
    refine ax_Tgo [.aload_n 0] (pc' := 12) (L' := [some (.inr (6, 0)), some (.inr (9, i1))]) (st' := [.inr (6, 0)]) (S' := S) ok_X6_beatsLeft.1 (by decide +kernel) rfl rfl ?_
    refine ax_TgetS (n := 15) (sl := 1) (c := 6) (q := 4) ok_X6_beatsLeft.1 (by decide +kernel) rfl (by decide +kernel) rfl ho2 ?_
    obtain ⟨r6, hq4, h⟩ := ax_bd_e h
    refine ax_TVi (d := 0) (ka := 4) (i := o1) [] [] lk_X6_70 (by decide +kernel) rfl (by decide) rfl (Nat.le_of_ble_eq_true rfl) (Nat.le_of_ble_eq_true rfl) ((t_X4_beats hq4).up (by decide)) ?_
    refine ax_Tgo [.aload_n 1, .getfield 72, .isub] (pc' := 23) (L' := [some (.inr (6, 0)), some (.inr (9, i1))]) (st' := [.inl (.int (r6 - (ax_fi S 9 i1 0)))]) (S' := S) ok_X6_beatsLeft.1 (by decide +kernel) rfl rfl ?_
    cases h
    exact ax_Treti (by decide +kernel) rfl rfl
def f_X6_mayAnnounce (i1 : Nat) (a2 : Int32) (S : AS) : Option (Int32 × AS) := ax_on (ax_fo S 6 0 1) (none) (fun (o1 : Nat) => (f_X4_traitOf o1 a2 (5 : Int32) S).bind (fun (r6 : Int32) => (f_X9_wasAnnounced i1 a2 S).bind (fun (r10 : Int32) => (if r10 = (0 : Int32) then (f_X9_receivedBy i1 r6 S).bind (fun (r15 : Int32) => (f_X4_patienceOf o1 r6 S).bind (fun (r19 : Int32) => (if r19 ≤ r15 then some ((0 : Int32), S) else ax_bu (f_X6_beatsNow i1 a2 S) (fun (r24 : Int32) (S21 : AS) => (f_X6_beatsLeft i1 S21).bind (fun (r28 : Int32) => (if r28 < r24 then some ((0 : Int32), S21) else some ((1 : Int32), S21))))))) else some ((0 : Int32), S)))))
set_option maxRecDepth 100000 in
theorem t_X6_mayAnnounce {l : Launch} {i1 : Nat} {a2 : Int32} {S Z : AS} {r : Int32} (h : f_X6_mayAnnounce i1 a2 S = some (r, Z)) : ax_M l 4 ma_X6_mayAnnounce [.inr (6, 0), .inr (9, i1), .inl (.int a2)] S (some (.inl (.int r))) Z := by
  unfold f_X6_mayAnnounce at h
  show ax_T l 4 ma_X6_mayAnnounce (0, [some (.inr (6, 0)), some (.inr (9, i1)), some (.inl (.int a2)), none], [], S) (some (.inl (.int r))) Z
  refine ax_Tgo [.aload_n 0] (pc' := 1) (L' := [some (.inr (6, 0)), some (.inr (9, i1)), some (.inl (.int a2)), none]) (st' := [.inr (6, 0)]) (S' := S) ok_X6_mayAnnounce.1 (by decide +kernel) rfl rfl ?_
  cases ho2 : ax_fo S 6 0 1 with
  | none =>
    rw [ho2] at h
    replace h := ax_on_n h
    refine ax_TgetN (n := 15) (sl := 1) (c := 6) (q := 4) ok_X6_mayAnnounce.1 (by decide +kernel) rfl (by decide +kernel) rfl ho2 ?_
    cases h
  | some o1 =>
    rw [ho2] at h
    replace h := ax_on_s h
    refine ax_TgetS (n := 15) (sl := 1) (c := 6) (q := 4) ok_X6_mayAnnounce.1 (by decide +kernel) rfl (by decide +kernel) rfl ho2 ?_
    refine ax_Tgo [.iload_n 2, .iconst 5] (pc' := 6) (L' := [some (.inr (6, 0)), some (.inr (9, i1)), some (.inl (.int a2)), none]) (st' := [.inl (.int (5 : Int32)), .inl (.int a2), .inr (4, o1)]) (S' := S) ok_X6_mayAnnounce.1 (by decide +kernel) rfl rfl ?_
    obtain ⟨r6, hq4, h⟩ := ax_bd_e h
    refine ax_TVi (d := 3) (ka := 4) (i := o1) [.inl (.int a2), .inl (.int (5 : Int32))] [] lk_X6_46 (by decide +kernel) rfl (by decide) rfl (Nat.le_of_ble_eq_true rfl) (Nat.le_of_ble_eq_true rfl) ((t_X4_traitOf hq4).up (by decide)) ?_
    refine ax_Tgo [.istore_n 3, .aload_n 1, .iload_n 2] (pc' := 12) (L' := [some (.inr (6, 0)), some (.inr (9, i1)), some (.inl (.int a2)), some (.inl (.int r6))]) (st' := [.inl (.int a2), .inr (9, i1)]) (S' := S) ok_X6_mayAnnounce.1 (by decide +kernel) rfl rfl ?_
    obtain ⟨r10, hq8, h⟩ := ax_bd_e h
    refine ax_TVi (d := 3) (ka := 9) (i := i1) [.inl (.int a2)] [] lk_X6_89 (by decide +kernel) rfl (by decide) rfl (Nat.le_of_ble_eq_true rfl) (Nat.le_of_ble_eq_true rfl) ((t_X9_wasAnnounced hq8).up (by decide)) ?_
    refine ax_Tif_ne (off := 37) (tgt := 52) (by decide +kernel) (by decide) (fun c11 => ?_) (fun c11 => ?_)
    · rw [if_neg c11] at h
      refine ax_Tgo [.iconst 0] (pc' := 53) (L' := [some (.inr (6, 0)), some (.inr (9, i1)), some (.inl (.int a2)), some (.inl (.int r6))]) (st' := [.inl (.int (0 : Int32))]) (S' := S) ok_X6_mayAnnounce.1 (by decide +kernel) rfl rfl ?_
      cases h
      exact ax_Treti (by decide +kernel) rfl rfl
    · rw [if_pos c11] at h
      refine ax_Tgo [.aload_n 1, .iload_n 3] (pc' := 20) (L' := [some (.inr (6, 0)), some (.inr (9, i1)), some (.inl (.int a2)), some (.inl (.int r6))]) (st' := [.inl (.int r6), .inr (9, i1)]) (S' := S) ok_X6_mayAnnounce.1 (by decide +kernel) rfl rfl ?_
      obtain ⟨r15, hq13, h⟩ := ax_bd_e h
      refine ax_TVi (d := 3) (ka := 9) (i := i1) [.inl (.int r6)] [] lk_X6_93 (by decide +kernel) rfl (by decide) rfl (Nat.le_of_ble_eq_true rfl) (Nat.le_of_ble_eq_true rfl) ((t_X9_receivedBy hq13).up (by decide)) ?_
      refine ax_Tgo [.aload_n 0] (pc' := 24) (L' := [some (.inr (6, 0)), some (.inr (9, i1)), some (.inl (.int a2)), some (.inl (.int r6))]) (st' := [.inr (6, 0), .inl (.int r15)]) (S' := S) ok_X6_mayAnnounce.1 (by decide +kernel) rfl rfl ?_
      refine ax_TgetS (n := 15) (sl := 1) (c := 6) (q := 4) ok_X6_mayAnnounce.1 (by decide +kernel) rfl (by decide +kernel) rfl ho2 ?_
      refine ax_Tgo [.iload_n 3] (pc' := 28) (L' := [some (.inr (6, 0)), some (.inr (9, i1)), some (.inl (.int a2)), some (.inl (.int r6))]) (st' := [.inl (.int r6), .inr (4, o1), .inl (.int r15)]) (S' := S) ok_X6_mayAnnounce.1 (by decide +kernel) rfl rfl ?_
      obtain ⟨r19, hq17, h⟩ := ax_bd_e h
      refine ax_TVi (d := 3) (ka := 4) (i := o1) [.inl (.int r6)] [.inl (.int r15)] lk_X6_96 (by decide +kernel) rfl (by decide) rfl (Nat.le_of_ble_eq_true rfl) (Nat.le_of_ble_eq_true rfl) ((t_X4_patienceOf hq17).up (by decide)) ?_
      refine ax_Tic_ge (off := 21) (tgt := 52) (by decide +kernel) (by decide) (fun c20 => ?_) (fun c20 => ?_)
      · rw [if_pos c20] at h
        refine ax_Tgo [.iconst 0] (pc' := 53) (L' := [some (.inr (6, 0)), some (.inr (9, i1)), some (.inl (.int a2)), some (.inl (.int r6))]) (st' := [.inl (.int (0 : Int32))]) (S' := S) ok_X6_mayAnnounce.1 (by decide +kernel) rfl rfl ?_
        cases h
        exact ax_Treti (by decide +kernel) rfl rfl
      · rw [if_neg c20] at h
        refine ax_Tgo [.aload_n 0, .aload_n 1, .iload_n 2] (pc' := 37) (L' := [some (.inr (6, 0)), some (.inr (9, i1)), some (.inl (.int a2)), some (.inl (.int r6))]) (st' := [.inl (.int a2), .inr (9, i1), .inr (6, 0)]) (S' := S) ok_X6_mayAnnounce.1 (by decide +kernel) rfl rfl ?_
        obtain ⟨r24, S21, hq22, h⟩ := ax_bu_e h
        refine ax_TVi (d := 3) (ka := 6) (i := 0) [.inr (9, i1), .inl (.int a2)] [] lk_X6_99 (by decide +kernel) rfl (by decide) rfl (Nat.le_of_ble_eq_true rfl) (Nat.le_of_ble_eq_true rfl) ((t_X6_beatsNow hq22).up (by decide)) ?_
        refine ax_Tgo [.aload_n 0, .aload_n 1] (pc' := 42) (L' := [some (.inr (6, 0)), some (.inr (9, i1)), some (.inl (.int a2)), some (.inl (.int r6))]) (st' := [.inr (9, i1), .inr (6, 0), .inl (.int r24)]) (S' := S21) ok_X6_mayAnnounce.1 (by decide +kernel) rfl rfl ?_
        obtain ⟨r28, hq26, h⟩ := ax_bd_e h
        refine ax_TVi (d := 3) (ka := 6) (i := 0) [.inr (9, i1)] [.inl (.int r24)] lk_X6_85 (by decide +kernel) rfl (by decide) rfl (Nat.le_of_ble_eq_true rfl) (Nat.le_of_ble_eq_true rfl) ((t_X6_beatsLeft hq26).up (by decide)) ?_
        refine ax_Tic_gt (off := 7) (tgt := 52) (by decide +kernel) (by decide) (fun c29 => ?_) (fun c29 => ?_)
        · rw [if_pos c29] at h
          refine ax_Tgo [.iconst 0] (pc' := 53) (L' := [some (.inr (6, 0)), some (.inr (9, i1)), some (.inl (.int a2)), some (.inl (.int r6))]) (st' := [.inl (.int (0 : Int32))]) (S' := S21) ok_X6_mayAnnounce.1 (by decide +kernel) rfl rfl ?_
          cases h
          exact ax_Treti (by decide +kernel) rfl rfl
        · rw [if_neg c29] at h
          refine ax_Tgo [.iconst 1] (pc' := 49) (L' := [some (.inr (6, 0)), some (.inr (9, i1)), some (.inl (.int a2)), some (.inl (.int r6))]) (st' := [.inl (.int (1 : Int32))]) (S' := S21) ok_X6_mayAnnounce.1 (by decide +kernel) rfl rfl ?_
          refine ax_Tgoto (off := 4) (tgt := 53) (by decide +kernel) (by decide) ?_
          cases h
          exact ax_Treti (by decide +kernel) rfl rfl
def f_X4_callers (i0 : Nat) (S : AS) : Option (Int32) := some (ax_fi S 4 i0 5)
set_option maxRecDepth 100000 in
theorem t_X4_callers {l : Launch} {i0 : Nat} {S : AS} {r : Int32} (h : f_X4_callers i0 S = some r) : ax_M l 0 ma_X4_callers [.inr (4, i0)] S (some (.inl (.int r))) S := by
  unfold f_X4_callers at h
  show ax_T l 0 ma_X4_callers (0, [some (.inr (4, i0))], [], S) (some (.inl (.int r))) S
  refine ax_Tgo [.aload_n 0, .getfield 29] (pc' := 4) (L' := [some (.inr (4, i0))]) (st' := [.inl (.int (ax_fi S 4 i0 5))]) (S' := S) ok_X4_callers.1 (by decide +kernel) rfl rfl ?_
  cases h
  exact ax_Treti (by decide +kernel) rfl rfl
def f_X6_may (i1 : Nat) (a2 : Int32) (a3 : Int32) (S : AS) : Option (Int32 × AS) := ax_on (ax_fo S 6 0 1) (some ((0 : Int32), S)) (fun (o1 : Nat) => ax_let (fun (x3 : Int32) (S4 : AS) => (if a2 = (0 : Int32) then (if x3 = (0 : Int32) then some ((0 : Int32), S4) else ax_bu (f_X6_mayAnnounce i1 a3 S4) (fun (r11 : Int32) (S8 : AS) => (if r11 = (0 : Int32) then some ((0 : Int32), S8) else some ((1 : Int32), S8)))) else if a2 = (1 : Int32) then (if x3 = (0 : Int32) then some ((0 : Int32), S4) else (f_X9_titlesOf i1 a3 S4).bind (fun (r18 : Int32) => (if (3 : Int32) ≤ r18 then some ((0 : Int32), S4) else (if (ax_fi S4 9 i1 6) < (2 : Int32) then some ((0 : Int32), S4) else some ((1 : Int32), S4))))) else if a2 = (2 : Int32) then some ((1 : Int32), S4) else if a2 = (3 : Int32) then (if a3 < (1 : Int32) then some ((0 : Int32), S4) else (if (20 : Int32) < a3 then some ((0 : Int32), S4) else (f_X6_beatsLeft i1 S4).bind (fun (r28 : Int32) => (if r28 < a3 then some ((0 : Int32), S4) else some ((1 : Int32), S4))))) else if a2 = (4 : Int32) then (if (999 : Int32) ≤ (ax_fi S4 9 i1 7) then some ((0 : Int32), S4) else some ((1 : Int32), S4)) else if a2 = (5 : Int32) then (if x3 = (0 : Int32) then some ((0 : Int32), S4) else (f_X9_titlesOf i1 a3 S4).bind (fun (r37 : Int32) => (if r37 ≤ (0 : Int32) then some ((0 : Int32), S4) else some ((1 : Int32), S4)))) else if a2 = (6 : Int32) then (if (ax_fi S4 9 i1 3) ≤ (0 : Int32) then some ((0 : Int32), S4) else (f_X6_beatsLeft i1 S4).bind (fun (r44 : Int32) => (if r44 < (3 : Int32) then some ((0 : Int32), S4) else some ((1 : Int32), S4)))) else some ((0 : Int32), S4))) (fun J5 => (if a3 < (0 : Int32) then J5 (0 : Int32) S else (if (ax_fi S 4 o1 5) ≤ a3 then J5 (0 : Int32) S else J5 (1 : Int32) S))))
set_option maxRecDepth 100000 in
theorem t_X6_may {l : Launch} {i1 : Nat} {a2 : Int32} {a3 : Int32} {S Z : AS} {r : Int32} (h : f_X6_may i1 a2 a3 S = some (r, Z)) : ax_M l 5 ma_X6_may [.inr (6, 0), .inr (9, i1), .inl (.int a2), .inl (.int a3)] S (some (.inl (.int r))) Z := by
  unfold f_X6_may at h
  show ax_T l 5 ma_X6_may (0, [some (.inr (6, 0)), some (.inr (9, i1)), some (.inl (.int a2)), some (.inl (.int a3)), none], [], S) (some (.inl (.int r))) Z
  refine ax_Tgo [.aload_n 0] (pc' := 1) (L' := [some (.inr (6, 0)), some (.inr (9, i1)), some (.inl (.int a2)), some (.inl (.int a3)), none]) (st' := [.inr (6, 0)]) (S' := S) ok_X6_may.1 (by decide +kernel) rfl rfl ?_
  cases ho2 : ax_fo S 6 0 1 with
  | none =>
    rw [ho2] at h
    replace h := ax_on_n h
    refine ax_TgetN (n := 15) (sl := 1) (c := 6) (q := 4) ok_X6_may.1 (by decide +kernel) rfl (by decide +kernel) rfl ho2 ?_
    refine ax_TnnN (off := 5) (by decide +kernel) ?_
    refine ax_Tgo [.iconst 0] (pc' := 8) (L' := [some (.inr (6, 0)), some (.inr (9, i1)), some (.inl (.int a2)), some (.inl (.int a3)), none]) (st' := [.inl (.int (0 : Int32))]) (S' := S) ok_X6_may.1 (by decide +kernel) rfl rfl ?_
    cases h
    exact ax_Treti (by decide +kernel) rfl rfl
  | some o1 =>
    rw [ho2] at h
    replace h := ax_on_s h
    refine ax_TgetS (n := 15) (sl := 1) (c := 6) (q := 4) ok_X6_may.1 (by decide +kernel) rfl (by decide +kernel) rfl ho2 ?_
    refine ax_TnnR (off := 5) (tgt := 9) (by decide +kernel) (by decide) (by decide) ?_
    refine ax_Tgo [.iload_n 3] (pc' := 10) (L' := [some (.inr (6, 0)), some (.inr (9, i1)), some (.inl (.int a2)), some (.inl (.int a3)), none]) (st' := [.inl (.int a3)]) (S' := S) ok_X6_may.1 (by decide +kernel) rfl rfl ?_
    obtain ⟨J5, eJ5, h⟩ := ax_let_e h
    have hJ5 : ∀ (x3 : Int32) (S4 : AS) r Z, J5 x3 S4 = some (r, Z) → ax_T l 5 ma_X6_may (29, [some (.inr (6, 0)), some (.inr (9, i1)), some (.inl (.int a2)), some (.inl (.int a3)), none], [.inl (.int x3)], S4) (some (.inl (.int r))) Z := by
      intro x3 S4 r Z h
      rw [← eJ5] at h
      try dsimp only at h
      refine ax_Tgo [.istore 4, .iload_n 2] (pc' := 32) (L' := [some (.inr (6, 0)), some (.inr (9, i1)), some (.inl (.int a2)), some (.inl (.int a3)), some (.inl (.int x3))]) (st' := [.inl (.int a2)]) (S' := S4) ok_X6_may.1 (by decide +kernel) rfl rfl ?_
      by_cases c6 : a2 = (0 : Int32)
      · rw [if_pos c6] at h
        refine ax_TtIn (dflt := 177) (lo := 0) (hi := 6) (offs := #[44, 64, 111, 135, 161, 92, 113]) (len := 44) (off := 44) (tgt := 76) (by decide +kernel) (by rw [c6]; decide) (by rw [c6]; decide) (by rw [c6]; rfl) (by decide) ?_
        refine ax_Tgo [.iload 4] (pc' := 78) (L' := [some (.inr (6, 0)), some (.inr (9, i1)), some (.inl (.int a2)), some (.inl (.int a3)), some (.inl (.int x3))]) (st' := [.inl (.int x3)]) (S' := S4) ok_X6_may.1 (by decide +kernel) rfl rfl ?_
        refine ax_Tif_eq (off := 16) (tgt := 94) (by decide +kernel) (by decide) (fun c7 => ?_) (fun c7 => ?_)
        · rw [if_pos c7] at h
          refine ax_Tgo [.iconst 0] (pc' := 95) (L' := [some (.inr (6, 0)), some (.inr (9, i1)), some (.inl (.int a2)), some (.inl (.int a3)), some (.inl (.int x3))]) (st' := [.inl (.int (0 : Int32))]) (S' := S4) ok_X6_may.1 (by decide +kernel) rfl rfl ?_
          cases h
          exact ax_Treti (by decide +kernel) rfl rfl
        · rw [if_neg c7] at h
          refine ax_Tgo [.aload_n 0, .aload_n 1, .iload_n 3] (pc' := 84) (L' := [some (.inr (6, 0)), some (.inr (9, i1)), some (.inl (.int a2)), some (.inl (.int a3)), some (.inl (.int x3))]) (st' := [.inl (.int a3), .inr (9, i1), .inr (6, 0)]) (S' := S4) ok_X6_may.1 (by decide +kernel) rfl rfl ?_
          obtain ⟨r11, S8, hq9, h⟩ := ax_bu_e h
          refine ax_TVi (d := 4) (ka := 6) (i := 0) [.inr (9, i1), .inl (.int a3)] [] lk_X6_78 (by decide +kernel) rfl (by decide) rfl (Nat.le_of_ble_eq_true rfl) (Nat.le_of_ble_eq_true rfl) ((t_X6_mayAnnounce hq9).up (by decide)) ?_
          refine ax_Tif_eq (off := 7) (tgt := 94) (by decide +kernel) (by decide) (fun c12 => ?_) (fun c12 => ?_)
          · rw [if_pos c12] at h
            refine ax_Tgo [.iconst 0] (pc' := 95) (L' := [some (.inr (6, 0)), some (.inr (9, i1)), some (.inl (.int a2)), some (.inl (.int a3)), some (.inl (.int x3))]) (st' := [.inl (.int (0 : Int32))]) (S' := S8) ok_X6_may.1 (by decide +kernel) rfl rfl ?_
            cases h
            exact ax_Treti (by decide +kernel) rfl rfl
          · rw [if_neg c12] at h
            refine ax_Tgo [.iconst 1] (pc' := 91) (L' := [some (.inr (6, 0)), some (.inr (9, i1)), some (.inl (.int a2)), some (.inl (.int a3)), some (.inl (.int x3))]) (st' := [.inl (.int (1 : Int32))]) (S' := S8) ok_X6_may.1 (by decide +kernel) rfl rfl ?_
            refine ax_Tgoto (off := 4) (tgt := 95) (by decide +kernel) (by decide) ?_
            cases h
            exact ax_Treti (by decide +kernel) rfl rfl
      · rw [if_neg c6] at h
        by_cases c13 : a2 = (1 : Int32)
        · rw [if_pos c13] at h
          refine ax_TtIn (dflt := 177) (lo := 0) (hi := 6) (offs := #[44, 64, 111, 135, 161, 92, 113]) (len := 44) (off := 64) (tgt := 96) (by decide +kernel) (by rw [c13]; decide) (by rw [c13]; decide) (by rw [c13]; rfl) (by decide) ?_
          refine ax_Tgo [.iload 4] (pc' := 98) (L' := [some (.inr (6, 0)), some (.inr (9, i1)), some (.inl (.int a2)), some (.inl (.int a3)), some (.inl (.int x3))]) (st' := [.inl (.int x3)]) (S' := S4) ok_X6_may.1 (by decide +kernel) rfl rfl ?_
          refine ax_Tif_eq (off := 24) (tgt := 122) (by decide +kernel) (by decide) (fun c14 => ?_) (fun c14 => ?_)
          · rw [if_pos c14] at h
            refine ax_Tgo [.iconst 0] (pc' := 123) (L' := [some (.inr (6, 0)), some (.inr (9, i1)), some (.inl (.int a2)), some (.inl (.int a3)), some (.inl (.int x3))]) (st' := [.inl (.int (0 : Int32))]) (S' := S4) ok_X6_may.1 (by decide +kernel) rfl rfl ?_
            cases h
            exact ax_Treti (by decide +kernel) rfl rfl
          · rw [if_neg c14] at h
            refine ax_Tgo [.aload_n 1, .iload_n 3] (pc' := 103) (L' := [some (.inr (6, 0)), some (.inr (9, i1)), some (.inl (.int a2)), some (.inl (.int a3)), some (.inl (.int x3))]) (st' := [.inl (.int a3), .inr (9, i1)]) (S' := S4) ok_X6_may.1 (by decide +kernel) rfl rfl ?_
            obtain ⟨r18, hq16, h⟩ := ax_bd_e h
            refine ax_TVi (d := 4) (ka := 9) (i := i1) [.inl (.int a3)] [] lk_X6_27 (by decide +kernel) rfl (by decide) rfl (Nat.le_of_ble_eq_true rfl) (Nat.le_of_ble_eq_true rfl) ((t_X9_titlesOf hq16).up (by decide)) ?_
            refine ax_Tgo [.iconst 3] (pc' := 107) (L' := [some (.inr (6, 0)), some (.inr (9, i1)), some (.inl (.int a2)), some (.inl (.int a3)), some (.inl (.int x3))]) (st' := [.inl (.int (3 : Int32)), .inl (.int r18)]) (S' := S4) ok_X6_may.1 (by decide +kernel) rfl rfl ?_
            refine ax_Tic_ge (off := 15) (tgt := 122) (by decide +kernel) (by decide) (fun c19 => ?_) (fun c19 => ?_)
            · rw [if_pos c19] at h
              refine ax_Tgo [.iconst 0] (pc' := 123) (L' := [some (.inr (6, 0)), some (.inr (9, i1)), some (.inl (.int a2)), some (.inl (.int a3)), some (.inl (.int x3))]) (st' := [.inl (.int (0 : Int32))]) (S' := S4) ok_X6_may.1 (by decide +kernel) rfl rfl ?_
              cases h
              exact ax_Treti (by decide +kernel) rfl rfl
            · rw [if_neg c19] at h
              refine ax_Tgo [.aload_n 1, .getfield 82, .iconst 2] (pc' := 115) (L' := [some (.inr (6, 0)), some (.inr (9, i1)), some (.inl (.int a2)), some (.inl (.int a3)), some (.inl (.int x3))]) (st' := [.inl (.int (2 : Int32)), .inl (.int (ax_fi S4 9 i1 6))]) (S' := S4) ok_X6_may.1 (by decide +kernel) rfl rfl ?_
              refine ax_Tic_lt (off := 7) (tgt := 122) (by decide +kernel) (by decide) (fun c20 => ?_) (fun c20 => ?_)
              · rw [if_pos c20] at h
                refine ax_Tgo [.iconst 0] (pc' := 123) (L' := [some (.inr (6, 0)), some (.inr (9, i1)), some (.inl (.int a2)), some (.inl (.int a3)), some (.inl (.int x3))]) (st' := [.inl (.int (0 : Int32))]) (S' := S4) ok_X6_may.1 (by decide +kernel) rfl rfl ?_
                cases h
                exact ax_Treti (by decide +kernel) rfl rfl
              · rw [if_neg c20] at h
                refine ax_Tgo [.iconst 1] (pc' := 119) (L' := [some (.inr (6, 0)), some (.inr (9, i1)), some (.inl (.int a2)), some (.inl (.int a3)), some (.inl (.int x3))]) (st' := [.inl (.int (1 : Int32))]) (S' := S4) ok_X6_may.1 (by decide +kernel) rfl rfl ?_
                refine ax_Tgoto (off := 4) (tgt := 123) (by decide +kernel) (by decide) ?_
                cases h
                exact ax_Treti (by decide +kernel) rfl rfl
        · rw [if_neg c13] at h
          by_cases c21 : a2 = (2 : Int32)
          · rw [if_pos c21] at h
            refine ax_TtIn (dflt := 177) (lo := 0) (hi := 6) (offs := #[44, 64, 111, 135, 161, 92, 113]) (len := 44) (off := 111) (tgt := 143) (by decide +kernel) (by rw [c21]; decide) (by rw [c21]; decide) (by rw [c21]; rfl) (by decide) ?_
            refine ax_Tgo [.iconst 1] (pc' := 144) (L' := [some (.inr (6, 0)), some (.inr (9, i1)), some (.inl (.int a2)), some (.inl (.int a3)), some (.inl (.int x3))]) (st' := [.inl (.int (1 : Int32))]) (S' := S4) ok_X6_may.1 (by decide +kernel) rfl rfl ?_
            cases h
            exact ax_Treti (by decide +kernel) rfl rfl
          · rw [if_neg c21] at h
            by_cases c22 : a2 = (3 : Int32)
            · rw [if_pos c22] at h
              refine ax_TtIn (dflt := 177) (lo := 0) (hi := 6) (offs := #[44, 64, 111, 135, 161, 92, 113]) (len := 44) (off := 135) (tgt := 167) (by decide +kernel) (by rw [c22]; decide) (by rw [c22]; decide) (by rw [c22]; rfl) (by decide) ?_
              refine ax_Tgo [.iload_n 3, .iconst 1] (pc' := 169) (L' := [some (.inr (6, 0)), some (.inr (9, i1)), some (.inl (.int a2)), some (.inl (.int a3)), some (.inl (.int x3))]) (st' := [.inl (.int (1 : Int32)), .inl (.int a3)]) (S' := S4) ok_X6_may.1 (by decide +kernel) rfl rfl ?_
              refine ax_Tic_lt (off := 22) (tgt := 191) (by decide +kernel) (by decide) (fun c23 => ?_) (fun c23 => ?_)
              · rw [if_pos c23] at h
                refine ax_Tgo [.iconst 0] (pc' := 192) (L' := [some (.inr (6, 0)), some (.inr (9, i1)), some (.inl (.int a2)), some (.inl (.int a3)), some (.inl (.int x3))]) (st' := [.inl (.int (0 : Int32))]) (S' := S4) ok_X6_may.1 (by decide +kernel) rfl rfl ?_
                cases h
                exact ax_Treti (by decide +kernel) rfl rfl
              · rw [if_neg c23] at h
                refine ax_Tgo [.iload_n 3, .bipush 20] (pc' := 175) (L' := [some (.inr (6, 0)), some (.inr (9, i1)), some (.inl (.int a2)), some (.inl (.int a3)), some (.inl (.int x3))]) (st' := [.inl (.int (20 : Int32)), .inl (.int a3)]) (S' := S4) ok_X6_may.1 (by decide +kernel) rfl rfl ?_
                refine ax_Tic_gt (off := 16) (tgt := 191) (by decide +kernel) (by decide) (fun c24 => ?_) (fun c24 => ?_)
                · rw [if_pos c24] at h
                  refine ax_Tgo [.iconst 0] (pc' := 192) (L' := [some (.inr (6, 0)), some (.inr (9, i1)), some (.inl (.int a2)), some (.inl (.int a3)), some (.inl (.int x3))]) (st' := [.inl (.int (0 : Int32))]) (S' := S4) ok_X6_may.1 (by decide +kernel) rfl rfl ?_
                  cases h
                  exact ax_Treti (by decide +kernel) rfl rfl
                · rw [if_neg c24] at h
                  refine ax_Tgo [.iload_n 3, .aload_n 0, .aload_n 1] (pc' := 181) (L' := [some (.inr (6, 0)), some (.inr (9, i1)), some (.inl (.int a2)), some (.inl (.int a3)), some (.inl (.int x3))]) (st' := [.inr (9, i1), .inr (6, 0), .inl (.int a3)]) (S' := S4) ok_X6_may.1 (by decide +kernel) rfl rfl ?_
                  obtain ⟨r28, hq26, h⟩ := ax_bd_e h
                  refine ax_TVi (d := 4) (ka := 6) (i := 0) [.inr (9, i1)] [.inl (.int a3)] lk_X6_85 (by decide +kernel) rfl (by decide) rfl (Nat.le_of_ble_eq_true rfl) (Nat.le_of_ble_eq_true rfl) ((t_X6_beatsLeft hq26).up (by decide)) ?_
                  refine ax_Tic_gt (off := 7) (tgt := 191) (by decide +kernel) (by decide) (fun c29 => ?_) (fun c29 => ?_)
                  · rw [if_pos c29] at h
                    refine ax_Tgo [.iconst 0] (pc' := 192) (L' := [some (.inr (6, 0)), some (.inr (9, i1)), some (.inl (.int a2)), some (.inl (.int a3)), some (.inl (.int x3))]) (st' := [.inl (.int (0 : Int32))]) (S' := S4) ok_X6_may.1 (by decide +kernel) rfl rfl ?_
                    cases h
                    exact ax_Treti (by decide +kernel) rfl rfl
                  · rw [if_neg c29] at h
                    refine ax_Tgo [.iconst 1] (pc' := 188) (L' := [some (.inr (6, 0)), some (.inr (9, i1)), some (.inl (.int a2)), some (.inl (.int a3)), some (.inl (.int x3))]) (st' := [.inl (.int (1 : Int32))]) (S' := S4) ok_X6_may.1 (by decide +kernel) rfl rfl ?_
                    refine ax_Tgoto (off := 4) (tgt := 192) (by decide +kernel) (by decide) ?_
                    cases h
                    exact ax_Treti (by decide +kernel) rfl rfl
            · rw [if_neg c22] at h
              by_cases c30 : a2 = (4 : Int32)
              · rw [if_pos c30] at h
                refine ax_TtIn (dflt := 177) (lo := 0) (hi := 6) (offs := #[44, 64, 111, 135, 161, 92, 113]) (len := 44) (off := 161) (tgt := 193) (by decide +kernel) (by rw [c30]; decide) (by rw [c30]; decide) (by rw [c30]; rfl) (by decide) ?_
                refine ax_Tgo [.aload_n 1, .getfield 39, .sipush 999] (pc' := 200) (L' := [some (.inr (6, 0)), some (.inr (9, i1)), some (.inl (.int a2)), some (.inl (.int a3)), some (.inl (.int x3))]) (st' := [.inl (.int (999 : Int32)), .inl (.int (ax_fi S4 9 i1 7))]) (S' := S4) ok_X6_may.1 (by decide +kernel) rfl rfl ?_
                refine ax_Tic_ge (off := 7) (tgt := 207) (by decide +kernel) (by decide) (fun c31 => ?_) (fun c31 => ?_)
                · rw [if_pos c31] at h
                  refine ax_Tgo [.iconst 0] (pc' := 208) (L' := [some (.inr (6, 0)), some (.inr (9, i1)), some (.inl (.int a2)), some (.inl (.int a3)), some (.inl (.int x3))]) (st' := [.inl (.int (0 : Int32))]) (S' := S4) ok_X6_may.1 (by decide +kernel) rfl rfl ?_
                  cases h
                  exact ax_Treti (by decide +kernel) rfl rfl
                · rw [if_neg c31] at h
                  refine ax_Tgo [.iconst 1] (pc' := 204) (L' := [some (.inr (6, 0)), some (.inr (9, i1)), some (.inl (.int a2)), some (.inl (.int a3)), some (.inl (.int x3))]) (st' := [.inl (.int (1 : Int32))]) (S' := S4) ok_X6_may.1 (by decide +kernel) rfl rfl ?_
                  refine ax_Tgoto (off := 4) (tgt := 208) (by decide +kernel) (by decide) ?_
                  cases h
                  exact ax_Treti (by decide +kernel) rfl rfl
              · rw [if_neg c30] at h
                by_cases c32 : a2 = (5 : Int32)
                · rw [if_pos c32] at h
                  refine ax_TtIn (dflt := 177) (lo := 0) (hi := 6) (offs := #[44, 64, 111, 135, 161, 92, 113]) (len := 44) (off := 92) (tgt := 124) (by decide +kernel) (by rw [c32]; decide) (by rw [c32]; decide) (by rw [c32]; rfl) (by decide) ?_
                  refine ax_Tgo [.iload 4] (pc' := 126) (L' := [some (.inr (6, 0)), some (.inr (9, i1)), some (.inl (.int a2)), some (.inl (.int a3)), some (.inl (.int x3))]) (st' := [.inl (.int x3)]) (S' := S4) ok_X6_may.1 (by decide +kernel) rfl rfl ?_
                  refine ax_Tif_eq (off := 15) (tgt := 141) (by decide +kernel) (by decide) (fun c33 => ?_) (fun c33 => ?_)
                  · rw [if_pos c33] at h
                    refine ax_Tgo [.iconst 0] (pc' := 142) (L' := [some (.inr (6, 0)), some (.inr (9, i1)), some (.inl (.int a2)), some (.inl (.int a3)), some (.inl (.int x3))]) (st' := [.inl (.int (0 : Int32))]) (S' := S4) ok_X6_may.1 (by decide +kernel) rfl rfl ?_
                    cases h
                    exact ax_Treti (by decide +kernel) rfl rfl
                  · rw [if_neg c33] at h
                    refine ax_Tgo [.aload_n 1, .iload_n 3] (pc' := 131) (L' := [some (.inr (6, 0)), some (.inr (9, i1)), some (.inl (.int a2)), some (.inl (.int a3)), some (.inl (.int x3))]) (st' := [.inl (.int a3), .inr (9, i1)]) (S' := S4) ok_X6_may.1 (by decide +kernel) rfl rfl ?_
                    obtain ⟨r37, hq35, h⟩ := ax_bd_e h
                    refine ax_TVi (d := 4) (ka := 9) (i := i1) [.inl (.int a3)] [] lk_X6_27 (by decide +kernel) rfl (by decide) rfl (Nat.le_of_ble_eq_true rfl) (Nat.le_of_ble_eq_true rfl) ((t_X9_titlesOf hq35).up (by decide)) ?_
                    refine ax_Tif_le (off := 7) (tgt := 141) (by decide +kernel) (by decide) (fun c38 => ?_) (fun c38 => ?_)
                    · rw [if_pos c38] at h
                      refine ax_Tgo [.iconst 0] (pc' := 142) (L' := [some (.inr (6, 0)), some (.inr (9, i1)), some (.inl (.int a2)), some (.inl (.int a3)), some (.inl (.int x3))]) (st' := [.inl (.int (0 : Int32))]) (S' := S4) ok_X6_may.1 (by decide +kernel) rfl rfl ?_
                      cases h
                      exact ax_Treti (by decide +kernel) rfl rfl
                    · rw [if_neg c38] at h
                      refine ax_Tgo [.iconst 1] (pc' := 138) (L' := [some (.inr (6, 0)), some (.inr (9, i1)), some (.inl (.int a2)), some (.inl (.int a3)), some (.inl (.int x3))]) (st' := [.inl (.int (1 : Int32))]) (S' := S4) ok_X6_may.1 (by decide +kernel) rfl rfl ?_
                      refine ax_Tgoto (off := 4) (tgt := 142) (by decide +kernel) (by decide) ?_
                      cases h
                      exact ax_Treti (by decide +kernel) rfl rfl
                · rw [if_neg c32] at h
                  by_cases c39 : a2 = (6 : Int32)
                  · rw [if_pos c39] at h
                    refine ax_TtIn (dflt := 177) (lo := 0) (hi := 6) (offs := #[44, 64, 111, 135, 161, 92, 113]) (len := 44) (off := 113) (tgt := 145) (by decide +kernel) (by rw [c39]; decide) (by rw [c39]; decide) (by rw [c39]; rfl) (by decide) ?_
                    refine ax_Tgo [.aload_n 1, .getfield 32] (pc' := 149) (L' := [some (.inr (6, 0)), some (.inr (9, i1)), some (.inl (.int a2)), some (.inl (.int a3)), some (.inl (.int x3))]) (st' := [.inl (.int (ax_fi S4 9 i1 3))]) (S' := S4) ok_X6_may.1 (by decide +kernel) rfl rfl ?_
                    refine ax_Tif_le (off := 16) (tgt := 165) (by decide +kernel) (by decide) (fun c40 => ?_) (fun c40 => ?_)
                    · rw [if_pos c40] at h
                      refine ax_Tgo [.iconst 0] (pc' := 166) (L' := [some (.inr (6, 0)), some (.inr (9, i1)), some (.inl (.int a2)), some (.inl (.int a3)), some (.inl (.int x3))]) (st' := [.inl (.int (0 : Int32))]) (S' := S4) ok_X6_may.1 (by decide +kernel) rfl rfl ?_
                      cases h
                      exact ax_Treti (by decide +kernel) rfl rfl
                    · rw [if_neg c40] at h
                      refine ax_Tgo [.iconst 3, .aload_n 0, .aload_n 1] (pc' := 155) (L' := [some (.inr (6, 0)), some (.inr (9, i1)), some (.inl (.int a2)), some (.inl (.int a3)), some (.inl (.int x3))]) (st' := [.inr (9, i1), .inr (6, 0), .inl (.int (3 : Int32))]) (S' := S4) ok_X6_may.1 (by decide +kernel) rfl rfl ?_
                      obtain ⟨r44, hq42, h⟩ := ax_bd_e h
                      refine ax_TVi (d := 4) (ka := 6) (i := 0) [.inr (9, i1)] [.inl (.int (3 : Int32))] lk_X6_85 (by decide +kernel) rfl (by decide) rfl (Nat.le_of_ble_eq_true rfl) (Nat.le_of_ble_eq_true rfl) ((t_X6_beatsLeft hq42).up (by decide)) ?_
                      refine ax_Tic_gt (off := 7) (tgt := 165) (by decide +kernel) (by decide) (fun c45 => ?_) (fun c45 => ?_)
                      · rw [if_pos c45] at h
                        refine ax_Tgo [.iconst 0] (pc' := 166) (L' := [some (.inr (6, 0)), some (.inr (9, i1)), some (.inl (.int a2)), some (.inl (.int a3)), some (.inl (.int x3))]) (st' := [.inl (.int (0 : Int32))]) (S' := S4) ok_X6_may.1 (by decide +kernel) rfl rfl ?_
                        cases h
                        exact ax_Treti (by decide +kernel) rfl rfl
                      · rw [if_neg c45] at h
                        refine ax_Tgo [.iconst 1] (pc' := 162) (L' := [some (.inr (6, 0)), some (.inr (9, i1)), some (.inl (.int a2)), some (.inl (.int a3)), some (.inl (.int x3))]) (st' := [.inl (.int (1 : Int32))]) (S' := S4) ok_X6_may.1 (by decide +kernel) rfl rfl ?_
                        refine ax_Tgoto (off := 4) (tgt := 166) (by decide +kernel) (by decide) ?_
                        cases h
                        exact ax_Treti (by decide +kernel) rfl rfl
                  · rw [if_neg c39] at h
                    refine ax_TtOut (dflt := 177) (lo := 0) (hi := 6) (offs := #[44, 64, 111, 135, 161, 92, 113]) (len := 44) (tgt := 209) (by decide +kernel) (by have zc6 := lv_neT (a := 0) c6 rfl; have zc13 := lv_neT (a := 1) c13 rfl; have zc21 := lv_neT (a := 2) c21 rfl; have zc22 := lv_neT (a := 3) c22 rfl; have zc30 := lv_neT (a := 4) c30 rfl; have zc32 := lv_neT (a := 5) c32 rfl; have zc39 := lv_neT (a := 6) c39 rfl; omega) (by decide) ?_
                    refine ax_Tgo [.iconst 0] (pc' := 210) (L' := [some (.inr (6, 0)), some (.inr (9, i1)), some (.inl (.int a2)), some (.inl (.int a3)), some (.inl (.int x3))]) (st' := [.inl (.int (0 : Int32))]) (S' := S4) ok_X6_may.1 (by decide +kernel) rfl rfl ?_
                    cases h
                    exact ax_Treti (by decide +kernel) rfl rfl
    refine ax_Tif_lt (off := 18) (tgt := 28) (by decide +kernel) (by decide) (fun c46 => ?_) (fun c46 => ?_)
    · rw [if_pos c46] at h
      refine ax_Tgo [.iconst 0] (pc' := 29) (L' := [some (.inr (6, 0)), some (.inr (9, i1)), some (.inl (.int a2)), some (.inl (.int a3)), none]) (st' := [.inl (.int (0 : Int32))]) (S' := S) ok_X6_may.1 (by decide +kernel) rfl rfl ?_
      exact hJ5 (0 : Int32) S _ _ h
    · rw [if_neg c46] at h
      refine ax_Tgo [.iload_n 3, .aload_n 0] (pc' := 15) (L' := [some (.inr (6, 0)), some (.inr (9, i1)), some (.inl (.int a2)), some (.inl (.int a3)), none]) (st' := [.inr (6, 0), .inl (.int a3)]) (S' := S) ok_X6_may.1 (by decide +kernel) rfl rfl ?_
      refine ax_TgetS (n := 15) (sl := 1) (c := 6) (q := 4) ok_X6_may.1 (by decide +kernel) rfl (by decide +kernel) rfl ho2 ?_
      refine ax_TVi (d := 4) (ka := 4) (i := o1) [] [.inl (.int a3)] lk_X6_75 (by decide +kernel) rfl (by decide) rfl (Nat.le_of_ble_eq_true rfl) (Nat.le_of_ble_eq_true rfl) ((t_X4_callers rfl).up (by decide)) ?_
      refine ax_Tic_ge (off := 7) (tgt := 28) (by decide +kernel) (by decide) (fun c50 => ?_) (fun c50 => ?_)
      · rw [if_pos c50] at h
        refine ax_Tgo [.iconst 0] (pc' := 29) (L' := [some (.inr (6, 0)), some (.inr (9, i1)), some (.inl (.int a2)), some (.inl (.int a3)), none]) (st' := [.inl (.int (0 : Int32))]) (S' := S) ok_X6_may.1 (by decide +kernel) rfl rfl ?_
        exact hJ5 (0 : Int32) S _ _ h
      · rw [if_neg c50] at h
        refine ax_Tgo [.iconst 1] (pc' := 25) (L' := [some (.inr (6, 0)), some (.inr (9, i1)), some (.inl (.int a2)), some (.inl (.int a3)), none]) (st' := [.inl (.int (1 : Int32))]) (S' := S) ok_X6_may.1 (by decide +kernel) rfl rfl ?_
        refine ax_Tgoto (off := 4) (tgt := 29) (by decide +kernel) (by decide) ?_
        exact hJ5 (1 : Int32) S _ _ h
def f_X9_saveTo_33x0 (i0 : Nat) (a2 : Int32) (S : AS) : Option (AS) := (if a2 < (0 : Int32) then some S else (if (a2 + (18 : Int32)) ≤ (Int32.ofNat 720) then ax_gd (ax_in a2 720) (ax_let (ax_sai S 33 0 a2.toNatClampNeg (ax_fi S 9 i0 0)) (fun (S4 : AS) => ax_gd (ax_in (a2 + (1 : Int32)) 720) (ax_let (ax_sai S4 33 0 (a2 + (1 : Int32)).toNatClampNeg (ax_fi S4 9 i0 1)) (fun (S6 : AS) => ax_gd (ax_in (a2 + (2 : Int32)) 720) (ax_let (ax_sai S6 33 0 (a2 + (2 : Int32)).toNatClampNeg (ax_fi S6 9 i0 2)) (fun (S8 : AS) => ax_gd (ax_in (a2 + (3 : Int32)) 720) (ax_let (ax_sai S8 33 0 (a2 + (3 : Int32)).toNatClampNeg (ax_fi S8 9 i0 3)) (fun (S10 : AS) => ax_gd (ax_in (a2 + (4 : Int32)) 720) (ax_let (ax_sai S10 33 0 (a2 + (4 : Int32)).toNatClampNeg (ax_fi S10 9 i0 4)) (fun (S12 : AS) => ax_gd (ax_in (a2 + (5 : Int32)) 720) (ax_let (ax_sai S12 33 0 (a2 + (5 : Int32)).toNatClampNeg (ax_fi S12 9 i0 5)) (fun (S14 : AS) => ax_gd (ax_in (a2 + (6 : Int32)) 720) (ax_let (ax_sai S14 33 0 (a2 + (6 : Int32)).toNatClampNeg (ax_fi S14 9 i0 6)) (fun (S16 : AS) => ax_gd (ax_in (a2 + (7 : Int32)) 720) (ax_let (ax_sai S16 33 0 (a2 + (7 : Int32)).toNatClampNeg (ax_fi S16 9 i0 7)) (fun (S18 : AS) => ax_gd (!decide ((0 : Int32) < 0) && !decide ((a2 + (8 : Int32)) < 0) && !decide ((4 : Int32) < 0) && decide ((0 : Int32).toNatClampNeg + (4 : Int32).toNatClampNeg ≤ ax_ln S18 38 i0) && decide ((a2 + (8 : Int32)).toNatClampNeg + (4 : Int32).toNatClampNeg ≤ ax_ln S18 33 0)) (ax_let (ax_cpy S18 33 0 (ax_rd S18 38 i0) (0 : Int32).toNatClampNeg (a2 + (8 : Int32)).toNatClampNeg (4 : Int32).toNatClampNeg) (fun (S20 : AS) => ax_gd (!decide ((0 : Int32) < 0) && !decide ((a2 + (12 : Int32)) < 0) && !decide ((6 : Int32) < 0) && decide ((0 : Int32).toNatClampNeg + (6 : Int32).toNatClampNeg ≤ ax_ln S20 39 i0) && decide ((a2 + (12 : Int32)).toNatClampNeg + (6 : Int32).toNatClampNeg ≤ ax_ln S20 33 0)) (ax_let (ax_cpy S20 33 0 (ax_rd S20 39 i0) (0 : Int32).toNatClampNeg (a2 + (12 : Int32)).toNatClampNeg (6 : Int32).toNatClampNeg) (fun (S22 : AS) => some S22)))))))))))))))))))) else some S))
set_option maxRecDepth 100000 in
theorem t_X9_saveTo_33x0 {l : Launch} {i0 : Nat} {a2 : Int32} {S Z : AS} (h : f_X9_saveTo_33x0 i0 a2 S = some Z) : ax_M l 1 ma_X9_saveTo [.inr (9, i0), .inr (33, 0), .inl (.int a2)] S none Z := by
  unfold f_X9_saveTo_33x0 at h
  show ax_T l 1 ma_X9_saveTo (0, [some (.inr (9, i0)), some (.inr (33, 0)), some (.inl (.int a2))], [], S) none Z
  refine ax_Tgo [.iload_n 2] (pc' := 1) (L' := [some (.inr (9, i0)), some (.inr (33, 0)), some (.inl (.int a2))]) (st' := [.inl (.int a2)]) (S' := S) ok_X9_saveTo.1 (by decide +kernel) rfl rfl ?_
  refine ax_Tif_lt (off := 12) (tgt := 13) (by decide +kernel) (by decide) (fun c1 => ?_) (fun c1 => ?_)
  · rw [if_pos c1] at h
    cases h
    exact ax_Tretv (by decide +kernel) rfl
  · rw [if_neg c1] at h
    refine ax_Tgo [.iload_n 2, .bipush 18, .iadd, .aload_n 1, .arraylength] (pc' := 10) (L' := [some (.inr (9, i0)), some (.inr (33, 0)), some (.inl (.int a2))]) (st' := [.inl (.int (Int32.ofNat 720)), .inl (.int (a2 + (18 : Int32)))]) (S' := S) ok_X9_saveTo.1 (by decide +kernel) rfl rfl ?_
    refine ax_Tic_le (off := 4) (tgt := 14) (by decide +kernel) (by decide) (fun c2 => ?_) (fun c2 => ?_)
    · rw [if_pos c2] at h
      refine ax_Tgo [.aload_n 1, .iload_n 2, .aload_n 0, .getfield 11] (pc' := 20) (L' := [some (.inr (9, i0)), some (.inr (33, 0)), some (.inl (.int a2))]) (st' := [.inl (.int (ax_fi S 9 i0 0)), .inl (.int a2), .inr (33, 0)]) (S' := S) ok_X9_saveTo.1 (by decide +kernel) rfl rfl ?_
      obtain ⟨g3, h⟩ := ax_gd_e h
      refine ax_Tasi (n := 720) ok_X9_saveTo.1 (by decide +kernel) (by decide) rfl g3 ?_
      obtain ⟨S4, eS4, h⟩ := ax_let_e h
      rw [eS4]
      refine ax_Tgo [.aload_n 1, .iload_n 2, .iconst 1, .iadd, .aload_n 0, .getfield 15] (pc' := 29) (L' := [some (.inr (9, i0)), some (.inr (33, 0)), some (.inl (.int a2))]) (st' := [.inl (.int (ax_fi S4 9 i0 1)), .inl (.int (a2 + (1 : Int32))), .inr (33, 0)]) (S' := S4) ok_X9_saveTo.1 (by decide +kernel) rfl rfl ?_
      obtain ⟨g5, h⟩ := ax_gd_e h
      refine ax_Tasi (n := 720) ok_X9_saveTo.1 (by decide +kernel) (by decide) rfl g5 ?_
      obtain ⟨S6, eS6, h⟩ := ax_let_e h
      rw [eS6]
      refine ax_Tgo [.aload_n 1, .iload_n 2, .iconst 2, .iadd, .aload_n 0, .getfield 18] (pc' := 38) (L' := [some (.inr (9, i0)), some (.inr (33, 0)), some (.inl (.int a2))]) (st' := [.inl (.int (ax_fi S6 9 i0 2)), .inl (.int (a2 + (2 : Int32))), .inr (33, 0)]) (S' := S6) ok_X9_saveTo.1 (by decide +kernel) rfl rfl ?_
      obtain ⟨g7, h⟩ := ax_gd_e h
      refine ax_Tasi (n := 720) ok_X9_saveTo.1 (by decide +kernel) (by decide) rfl g7 ?_
      obtain ⟨S8, eS8, h⟩ := ax_let_e h
      rw [eS8]
      refine ax_Tgo [.aload_n 1, .iload_n 2, .iconst 3, .iadd, .aload_n 0, .getfield 21] (pc' := 47) (L' := [some (.inr (9, i0)), some (.inr (33, 0)), some (.inl (.int a2))]) (st' := [.inl (.int (ax_fi S8 9 i0 3)), .inl (.int (a2 + (3 : Int32))), .inr (33, 0)]) (S' := S8) ok_X9_saveTo.1 (by decide +kernel) rfl rfl ?_
      obtain ⟨g9, h⟩ := ax_gd_e h
      refine ax_Tasi (n := 720) ok_X9_saveTo.1 (by decide +kernel) (by decide) rfl g9 ?_
      obtain ⟨S10, eS10, h⟩ := ax_let_e h
      rw [eS10]
      refine ax_Tgo [.aload_n 1, .iload_n 2, .iconst 4, .iadd, .aload_n 0, .getfield 24] (pc' := 56) (L' := [some (.inr (9, i0)), some (.inr (33, 0)), some (.inl (.int a2))]) (st' := [.inl (.int (ax_fi S10 9 i0 4)), .inl (.int (a2 + (4 : Int32))), .inr (33, 0)]) (S' := S10) ok_X9_saveTo.1 (by decide +kernel) rfl rfl ?_
      obtain ⟨g11, h⟩ := ax_gd_e h
      refine ax_Tasi (n := 720) ok_X9_saveTo.1 (by decide +kernel) (by decide) rfl g11 ?_
      obtain ⟨S12, eS12, h⟩ := ax_let_e h
      rw [eS12]
      refine ax_Tgo [.aload_n 1, .iload_n 2, .iconst 5, .iadd, .aload_n 0, .getfield 27] (pc' := 65) (L' := [some (.inr (9, i0)), some (.inr (33, 0)), some (.inl (.int a2))]) (st' := [.inl (.int (ax_fi S12 9 i0 5)), .inl (.int (a2 + (5 : Int32))), .inr (33, 0)]) (S' := S12) ok_X9_saveTo.1 (by decide +kernel) rfl rfl ?_
      obtain ⟨g13, h⟩ := ax_gd_e h
      refine ax_Tasi (n := 720) ok_X9_saveTo.1 (by decide +kernel) (by decide) rfl g13 ?_
      obtain ⟨S14, eS14, h⟩ := ax_let_e h
      rw [eS14]
      refine ax_Tgo [.aload_n 1, .iload_n 2, .bipush 6, .iadd, .aload_n 0, .getfield 30] (pc' := 75) (L' := [some (.inr (9, i0)), some (.inr (33, 0)), some (.inl (.int a2))]) (st' := [.inl (.int (ax_fi S14 9 i0 6)), .inl (.int (a2 + (6 : Int32))), .inr (33, 0)]) (S' := S14) ok_X9_saveTo.1 (by decide +kernel) rfl rfl ?_
      obtain ⟨g15, h⟩ := ax_gd_e h
      refine ax_Tasi (n := 720) ok_X9_saveTo.1 (by decide +kernel) (by decide) rfl g15 ?_
      obtain ⟨S16, eS16, h⟩ := ax_let_e h
      rw [eS16]
      refine ax_Tgo [.aload_n 1, .iload_n 2, .bipush 7, .iadd, .aload_n 0, .getfield 33] (pc' := 85) (L' := [some (.inr (9, i0)), some (.inr (33, 0)), some (.inl (.int a2))]) (st' := [.inl (.int (ax_fi S16 9 i0 7)), .inl (.int (a2 + (7 : Int32))), .inr (33, 0)]) (S' := S16) ok_X9_saveTo.1 (by decide +kernel) rfl rfl ?_
      obtain ⟨g17, h⟩ := ax_gd_e h
      refine ax_Tasi (n := 720) ok_X9_saveTo.1 (by decide +kernel) (by decide) rfl g17 ?_
      obtain ⟨S18, eS18, h⟩ := ax_let_e h
      rw [eS18]
      refine ax_Tgo [.aload_n 0, .getfield 36, .iconst 0, .aload_n 1, .iload_n 2, .bipush 8, .iadd, .iconst 4] (pc' := 97) (L' := [some (.inr (9, i0)), some (.inr (33, 0)), some (.inl (.int a2))]) (st' := [.inl (.int (4 : Int32)), .inl (.int (a2 + (8 : Int32))), .inr (33, 0), .inl (.int (0 : Int32)), .inr (38, i0)]) (S' := S18) ok_X9_saveTo.1 (by decide +kernel) rfl rfl ?_
      obtain ⟨g19, h⟩ := ax_gd_e h
      refine ax_Tacopy (d := 0) (by decide +kernel) lkc_X9_55 (by decide) (by decide) g19 (Nat.le_of_ble_eq_true rfl) ?_
      obtain ⟨S20, eS20, h⟩ := ax_let_e h
      rw [eS20]
      refine ax_Tgo [.aload_n 0, .getfield 40, .iconst 0, .aload_n 1, .iload_n 2, .bipush 12, .iadd, .bipush 6] (pc' := 112) (L' := [some (.inr (9, i0)), some (.inr (33, 0)), some (.inl (.int a2))]) (st' := [.inl (.int (6 : Int32)), .inl (.int (a2 + (12 : Int32))), .inr (33, 0), .inl (.int (0 : Int32)), .inr (39, i0)]) (S' := S20) ok_X9_saveTo.1 (by decide +kernel) rfl rfl ?_
      obtain ⟨g21, h⟩ := ax_gd_e h
      refine ax_Tacopy (d := 0) (by decide +kernel) lkc_X9_55 (by decide) (by decide) g21 (Nat.le_of_ble_eq_true rfl) ?_
      obtain ⟨S22, eS22, h⟩ := ax_let_e h
      rw [eS22]
      cases h
      exact ax_Tretv (by decide +kernel) rfl
    · rw [if_neg c2] at h
      cases h
      exact ax_Tretv (by decide +kernel) rfl
def f_X7_remember (i1 : Nat) (S : AS) : Option (AS) := (f_X9_saveTo_33x0 i1 ((ax_fi S 7 0 1) * (18 : Int32)) S).bind (fun (S1 : AS) => ax_let (fun (x4 : Int32) (S5 : AS) => ax_let (ax_sfi S5 7 0 1 x4) (fun (S7 : AS) => (f_J9_min_7cf53 (40 : Int32) ((ax_fi S7 7 0 2) + (1 : Int32)) S7).bind (fun (r11 : Int32) => ax_let (ax_sfi S7 7 0 2 r11) (fun (S12 : AS) => some S12)))) (fun J6 => (if (40 : Int32) ≤ ((ax_fi S1 7 0 1) + (1 : Int32)) then J6 (0 : Int32) S1 else J6 ((ax_fi S1 7 0 1) + (1 : Int32)) S1)))
set_option maxRecDepth 100000 in
theorem t_X7_remember {l : Launch} {i1 : Nat} {S Z : AS} (h : f_X7_remember i1 S = some Z) : ax_M l 2 ma_X7_remember [.inr (7, 0), .inr (9, i1)] S none Z := by
  unfold f_X7_remember at h
  show ax_T l 2 ma_X7_remember (0, [some (.inr (7, 0)), some (.inr (9, i1))], [], S) none Z
  refine ax_Tgo [.aload_n 1, .aload_n 0, .getfield 11, .aload_n 0, .getfield 15, .bipush 18, .imul] (pc' := 12) (L' := [some (.inr (7, 0)), some (.inr (9, i1))]) (st' := [.inl (.int ((ax_fi S 7 0 1) * (18 : Int32))), .inr (33, 0), .inr (9, i1)]) (S' := S) ok_X7_remember.1 (by decide +kernel) rfl rfl ?_
  obtain ⟨S1, hq2, h⟩ := ax_bd_e h
  refine ax_TVv (d := 1) (ka := 9) (i := i1) [.inr (33, 0), .inl (.int ((ax_fi S 7 0 1) * (18 : Int32)))] [] lk_X7_22 (by decide +kernel) rfl (by decide) rfl (Nat.le_of_ble_eq_true rfl) (Nat.le_of_ble_eq_true rfl) ((t_X9_saveTo_33x0 hq2).up (by decide)) ?_
  refine ax_Tgo [.aload_n 0, .aload_n 0, .getfield 15, .iconst 1, .iadd, .bipush 40] (pc' := 24) (L' := [some (.inr (7, 0)), some (.inr (9, i1))]) (st' := [.inl (.int (40 : Int32)), .inl (.int ((ax_fi S1 7 0 1) + (1 : Int32))), .inr (7, 0)]) (S' := S1) ok_X7_remember.1 (by decide +kernel) rfl rfl ?_
  obtain ⟨J6, eJ6, h⟩ := ax_let_e h
  have hJ6 : ∀ (x4 : Int32) (S5 : AS) Z, J6 x4 S5 = some Z → ax_T l 2 ma_X7_remember (37, [some (.inr (7, 0)), none], [.inl (.int x4), .inr (7, 0)], S5) none Z := by
    intro x4 S5 Z h
    rw [← eJ6] at h
    try dsimp only at h
    refine ax_Tgo [.putfield 15] (pc' := 40) (L' := [some (.inr (7, 0)), none]) (st' := []) (S' := (ax_sfi S5 7 0 1 x4)) ok_X7_remember.1 (by decide +kernel) rfl rfl ?_
    obtain ⟨S7, eS7, h⟩ := ax_let_e h
    rw [eS7]
    refine ax_Tgo [.aload_n 0, .bipush 40, .aload_n 0, .getfield 19, .iconst 1, .iadd] (pc' := 49) (L' := [some (.inr (7, 0)), none]) (st' := [.inl (.int ((ax_fi S7 7 0 2) + (1 : Int32))), .inl (.int (40 : Int32)), .inr (7, 0)]) (S' := S7) ok_X7_remember.1 (by decide +kernel) rfl rfl ?_
    obtain ⟨r11, hq9, h⟩ := ax_bd_e h
    refine ax_TSi (d := 1) [.inl (.int (40 : Int32)), .inl (.int ((ax_fi S7 7 0 2) + (1 : Int32)))] [.inr (7, 0)] lk_X7_26 (by decide +kernel) rfl rfl (Nat.le_of_ble_eq_true rfl) (Nat.le_of_ble_eq_true rfl) ((t_J9_min_7cf53 hq9).up (by decide)) ?_
    refine ax_Tgo [.putfield 19] (pc' := 55) (L' := [some (.inr (7, 0)), none]) (st' := []) (S' := (ax_sfi S7 7 0 2 r11)) ok_X7_remember.1 (by decide +kernel) rfl rfl ?_
    obtain ⟨S12, eS12, h⟩ := ax_let_e h
    rw [eS12]
    cases h
    exact ax_Tretv (by decide +kernel) rfl
  refine ax_Tic_ge (off := 12) (tgt := 36) (by decide +kernel) (by decide) (fun c13 => ?_) (fun c13 => ?_)
  · rw [if_pos c13] at h
    refine ax_Tgo [.iconst 0] (pc' := 37) (L' := [some (.inr (7, 0)), some (.inr (9, i1))]) (st' := [.inl (.int (0 : Int32)), .inr (7, 0)]) (S' := S1) ok_X7_remember.1 (by decide +kernel) rfl rfl ?_
    refine ax_Tdrop [true, false] (L' := [some (.inr (7, 0)), none]) rfl ?_
    exact hJ6 (0 : Int32) S1 _ h
  · rw [if_neg c13] at h
    refine ax_Tgo [.aload_n 0, .getfield 15, .iconst 1, .iadd] (pc' := 33) (L' := [some (.inr (7, 0)), some (.inr (9, i1))]) (st' := [.inl (.int ((ax_fi S1 7 0 1) + (1 : Int32))), .inr (7, 0)]) (S' := S1) ok_X7_remember.1 (by decide +kernel) rfl rfl ?_
    refine ax_Tgoto (off := 4) (tgt := 37) (by decide +kernel) (by decide) ?_
    refine ax_Tdrop [true, false] (L' := [some (.inr (7, 0)), none]) rfl ?_
    exact hJ6 ((ax_fi S1 7 0 1) + (1 : Int32)) S1 _ h
def f_X9_receive (i0 : Nat) (a1 : Int32) (S : AS) : Option (AS) := (if a1 < (0 : Int32) then some S else (if (4 : Int32) ≤ a1 then some S else ax_gd (ax_in a1 4) (ax_gd (ax_in a1 4) (ax_let (ax_sai S 38 i0 a1.toNatClampNeg ((ax_ai S 38 i0 a1.toNatClampNeg) + (1 : Int32))) (fun (S5 : AS) => some S5)))))
set_option maxRecDepth 100000 in
theorem t_X9_receive {l : Launch} {i0 : Nat} {a1 : Int32} {S Z : AS} (h : f_X9_receive i0 a1 S = some Z) : ax_M l 0 ma_X9_receive [.inr (9, i0), .inl (.int a1)] S none Z := by
  unfold f_X9_receive at h
  show ax_T l 0 ma_X9_receive (0, [some (.inr (9, i0)), some (.inl (.int a1))], [], S) none Z
  refine ax_Tgo [.iload_n 1] (pc' := 1) (L' := [some (.inr (9, i0)), some (.inl (.int a1))]) (st' := [.inl (.int a1)]) (S' := S) ok_X9_receive.1 (by decide +kernel) rfl rfl ?_
  refine ax_Tif_lt (off := 18) (tgt := 19) (by decide +kernel) (by decide) (fun c1 => ?_) (fun c1 => ?_)
  · rw [if_pos c1] at h
    cases h
    exact ax_Tretv (by decide +kernel) rfl
  · rw [if_neg c1] at h
    refine ax_Tgo [.iload_n 1, .iconst 4] (pc' := 6) (L' := [some (.inr (9, i0)), some (.inl (.int a1))]) (st' := [.inl (.int (4 : Int32)), .inl (.int a1)]) (S' := S) ok_X9_receive.1 (by decide +kernel) rfl rfl ?_
    refine ax_Tic_ge (off := 13) (tgt := 19) (by decide +kernel) (by decide) (fun c2 => ?_) (fun c2 => ?_)
    · rw [if_pos c2] at h
      cases h
      exact ax_Tretv (by decide +kernel) rfl
    · rw [if_neg c2] at h
      refine ax_Tgo [.aload_n 0, .getfield 36, .iload_n 1, .dup2] (pc' := 15) (L' := [some (.inr (9, i0)), some (.inl (.int a1))]) (st' := [.inl (.int a1), .inr (38, i0), .inl (.int a1), .inr (38, i0)]) (S' := S) ok_X9_receive.1 (by decide +kernel) rfl rfl ?_
      obtain ⟨g3, h⟩ := ax_gd_e h
      refine ax_Tali (n := 4) ok_X9_receive.1 (by decide +kernel) (by decide) rfl g3 ?_
      refine ax_Tgo [.iconst 1, .iadd] (pc' := 18) (L' := [some (.inr (9, i0)), some (.inl (.int a1))]) (st' := [.inl (.int ((ax_ai S 38 i0 a1.toNatClampNeg) + (1 : Int32))), .inl (.int a1), .inr (38, i0)]) (S' := S) ok_X9_receive.1 (by decide +kernel) rfl rfl ?_
      obtain ⟨g4, h⟩ := ax_gd_e h
      refine ax_Tasi (n := 4) ok_X9_receive.1 (by decide +kernel) (by decide) rfl g4 ?_
      obtain ⟨S5, eS5, h⟩ := ax_let_e h
      rw [eS5]
      cases h
      exact ax_Tretv (by decide +kernel) rfl
def f_X6_doneBy (a1 : Int32) (a2 : Int32) (S : AS) : Option (Int32) := ax_on (ax_fo S 6 0 1) (some (0 : Int32)) (fun (o1 : Nat) => (f_X4_traitOf o1 a1 (3 : Int32) S).bind (fun (r6 : Int32) => (if a2 < r6 then some (0 : Int32) else some (1 : Int32))))
set_option maxRecDepth 100000 in
theorem t_X6_doneBy {l : Launch} {a1 : Int32} {a2 : Int32} {S : AS} {r : Int32} (h : f_X6_doneBy a1 a2 S = some r) : ax_M l 1 ma_X6_doneBy [.inr (6, 0), .inl (.int a1), .inl (.int a2)] S (some (.inl (.int r))) S := by
  unfold f_X6_doneBy at h
  show ax_T l 1 ma_X6_doneBy (0, [some (.inr (6, 0)), some (.inl (.int a1)), some (.inl (.int a2))], [], S) (some (.inl (.int r))) S
  refine ax_Tgo [.aload_n 0] (pc' := 1) (L' := [some (.inr (6, 0)), some (.inl (.int a1)), some (.inl (.int a2))]) (st' := [.inr (6, 0)]) (S' := S) ok_X6_doneBy.1 (by decide +kernel) rfl rfl ?_
  cases ho2 : ax_fo S 6 0 1 with
  | none =>
    rw [ho2] at h
    replace h := ax_on_n h
    refine ax_TgetN (n := 15) (sl := 1) (c := 6) (q := 4) ok_X6_doneBy.1 (by decide +kernel) rfl (by decide +kernel) rfl ho2 ?_
    refine ax_TnuN (off := 20) (tgt := 24) (by decide +kernel) (by decide) ?_
    refine ax_Tgo [.iconst 0] (pc' := 25) (L' := [some (.inr (6, 0)), some (.inl (.int a1)), some (.inl (.int a2))]) (st' := [.inl (.int (0 : Int32))]) (S' := S) ok_X6_doneBy.1 (by decide +kernel) rfl rfl ?_
    cases h
    exact ax_Treti (by decide +kernel) rfl rfl
  | some o1 =>
    rw [ho2] at h
    replace h := ax_on_s h
    refine ax_TgetS (n := 15) (sl := 1) (c := 6) (q := 4) ok_X6_doneBy.1 (by decide +kernel) rfl (by decide +kernel) rfl ho2 ?_
    refine ax_TnuR (off := 20) (by decide +kernel) (by decide) ?_
    refine ax_Tgo [.iload_n 2, .aload_n 0] (pc' := 9) (L' := [some (.inr (6, 0)), some (.inl (.int a1)), some (.inl (.int a2))]) (st' := [.inr (6, 0), .inl (.int a2)]) (S' := S) ok_X6_doneBy.1 (by decide +kernel) rfl rfl ?_
    refine ax_TgetS (n := 15) (sl := 1) (c := 6) (q := 4) ok_X6_doneBy.1 (by decide +kernel) rfl (by decide +kernel) rfl ho2 ?_
    refine ax_Tgo [.iload_n 1, .iconst 3] (pc' := 14) (L' := [some (.inr (6, 0)), some (.inl (.int a1)), some (.inl (.int a2))]) (st' := [.inl (.int (3 : Int32)), .inl (.int a1), .inr (4, o1), .inl (.int a2)]) (S' := S) ok_X6_doneBy.1 (by decide +kernel) rfl rfl ?_
    obtain ⟨r6, hq4, h⟩ := ax_bd_e h
    refine ax_TVi (d := 0) (ka := 4) (i := o1) [.inl (.int a1), .inl (.int (3 : Int32))] [.inl (.int a2)] lk_X6_46 (by decide +kernel) rfl (by decide) rfl (Nat.le_of_ble_eq_true rfl) (Nat.le_of_ble_eq_true rfl) ((t_X4_traitOf hq4).up (by decide)) ?_
    refine ax_Tic_lt (off := 7) (tgt := 24) (by decide +kernel) (by decide) (fun c7 => ?_) (fun c7 => ?_)
    · rw [if_pos c7] at h
      refine ax_Tgo [.iconst 0] (pc' := 25) (L' := [some (.inr (6, 0)), some (.inl (.int a1)), some (.inl (.int a2))]) (st' := [.inl (.int (0 : Int32))]) (S' := S) ok_X6_doneBy.1 (by decide +kernel) rfl rfl ?_
      cases h
      exact ax_Treti (by decide +kernel) rfl rfl
    · rw [if_neg c7] at h
      refine ax_Tgo [.iconst 1] (pc' := 21) (L' := [some (.inr (6, 0)), some (.inl (.int a1)), some (.inl (.int a2))]) (st' := [.inl (.int (1 : Int32))]) (S' := S) ok_X6_doneBy.1 (by decide +kernel) rfl rfl ?_
      refine ax_Tgoto (off := 4) (tgt := 25) (by decide +kernel) (by decide) ?_
      cases h
      exact ax_Treti (by decide +kernel) rfl rfl
def f_X4_wantsOf (i0 : Nat) (a1 : Int32) (S : AS) : Option (Int32) := (f_X4_lodgerItem i0 a1 (0 : Int32) S).bind (fun (r4 : Int32) => some r4)
set_option maxRecDepth 100000 in
theorem t_X4_wantsOf {l : Launch} {i0 : Nat} {a1 : Int32} {S : AS} {r : Int32} (h : f_X4_wantsOf i0 a1 S = some r) : ax_M l 1 ma_X4_wantsOf [.inr (4, i0), .inl (.int a1)] S (some (.inl (.int r))) S := by
  unfold f_X4_wantsOf at h
  show ax_T l 1 ma_X4_wantsOf (0, [some (.inr (4, i0)), some (.inl (.int a1))], [], S) (some (.inl (.int r))) S
  refine ax_Tgo [.aload_n 0, .iload_n 1, .iconst 0] (pc' := 3) (L' := [some (.inr (4, i0)), some (.inl (.int a1))]) (st' := [.inl (.int (0 : Int32)), .inl (.int a1), .inr (4, i0)]) (S' := S) ok_X4_wantsOf.1 (by decide +kernel) rfl rfl ?_
  obtain ⟨r4, hq2, h⟩ := ax_bd_e h
  refine ax_TVi (d := 0) (ka := 4) (i := i0) [.inl (.int a1), .inl (.int (0 : Int32))] [] lk_X4_32 (by decide +kernel) rfl (by decide) rfl (Nat.le_of_ble_eq_true rfl) (Nat.le_of_ble_eq_true rfl) ((t_X4_lodgerItem hq2).up (by decide)) ?_
  cases h
  exact ax_Treti (by decide +kernel) rfl rfl
def f_X6_gainOf (a1 : Int32) (S : AS) : Option (Int32) := ax_on (ax_fo S 6 0 1) (some (0 : Int32)) (fun (o1 : Nat) => (f_X4_traitOf o1 a1 (4 : Int32) S).bind (fun (r6 : Int32) => (f_X4_traitOf o1 a1 (5 : Int32) S).bind (fun (r10 : Int32) => (f_X4_wantsOf o1 r10 S).bind (fun (r14 : Int32) => some (r6 + r14)))))
set_option maxRecDepth 100000 in
theorem t_X6_gainOf {l : Launch} {a1 : Int32} {S : AS} {r : Int32} (h : f_X6_gainOf a1 S = some r) : ax_M l 2 ma_X6_gainOf [.inr (6, 0), .inl (.int a1)] S (some (.inl (.int r))) S := by
  unfold f_X6_gainOf at h
  show ax_T l 2 ma_X6_gainOf (0, [some (.inr (6, 0)), some (.inl (.int a1))], [], S) (some (.inl (.int r))) S
  refine ax_Tgo [.aload_n 0] (pc' := 1) (L' := [some (.inr (6, 0)), some (.inl (.int a1))]) (st' := [.inr (6, 0)]) (S' := S) ok_X6_gainOf.1 (by decide +kernel) rfl rfl ?_
  cases ho2 : ax_fo S 6 0 1 with
  | none =>
    rw [ho2] at h
    replace h := ax_on_n h
    refine ax_TgetN (n := 15) (sl := 1) (c := 6) (q := 4) ok_X6_gainOf.1 (by decide +kernel) rfl (by decide +kernel) rfl ho2 ?_
    refine ax_TnnN (off := 5) (by decide +kernel) ?_
    refine ax_Tgo [.iconst 0] (pc' := 8) (L' := [some (.inr (6, 0)), some (.inl (.int a1))]) (st' := [.inl (.int (0 : Int32))]) (S' := S) ok_X6_gainOf.1 (by decide +kernel) rfl rfl ?_
    cases h
    exact ax_Treti (by decide +kernel) rfl rfl
  | some o1 =>
    rw [ho2] at h
    replace h := ax_on_s h
    refine ax_TgetS (n := 15) (sl := 1) (c := 6) (q := 4) ok_X6_gainOf.1 (by decide +kernel) rfl (by decide +kernel) rfl ho2 ?_
    refine ax_TnnR (off := 5) (tgt := 9) (by decide +kernel) (by decide) (by decide) ?_
    refine ax_Tgo [.aload_n 0] (pc' := 10) (L' := [some (.inr (6, 0)), some (.inl (.int a1))]) (st' := [.inr (6, 0)]) (S' := S) ok_X6_gainOf.1 (by decide +kernel) rfl rfl ?_
    refine ax_TgetS (n := 15) (sl := 1) (c := 6) (q := 4) ok_X6_gainOf.1 (by decide +kernel) rfl (by decide +kernel) rfl ho2 ?_
    refine ax_Tgo [.iload_n 1, .iconst 4] (pc' := 15) (L' := [some (.inr (6, 0)), some (.inl (.int a1))]) (st' := [.inl (.int (4 : Int32)), .inl (.int a1), .inr (4, o1)]) (S' := S) ok_X6_gainOf.1 (by decide +kernel) rfl rfl ?_
    obtain ⟨r6, hq4, h⟩ := ax_bd_e h
    refine ax_TVi (d := 1) (ka := 4) (i := o1) [.inl (.int a1), .inl (.int (4 : Int32))] [] lk_X6_46 (by decide +kernel) rfl (by decide) rfl (Nat.le_of_ble_eq_true rfl) (Nat.le_of_ble_eq_true rfl) ((t_X4_traitOf hq4).up (by decide)) ?_
    refine ax_Tgo [.aload_n 0] (pc' := 19) (L' := [some (.inr (6, 0)), some (.inl (.int a1))]) (st' := [.inr (6, 0), .inl (.int r6)]) (S' := S) ok_X6_gainOf.1 (by decide +kernel) rfl rfl ?_
    refine ax_TgetS (n := 15) (sl := 1) (c := 6) (q := 4) ok_X6_gainOf.1 (by decide +kernel) rfl (by decide +kernel) rfl ho2 ?_
    refine ax_Tgo [.aload_n 0] (pc' := 23) (L' := [some (.inr (6, 0)), some (.inl (.int a1))]) (st' := [.inr (6, 0), .inr (4, o1), .inl (.int r6)]) (S' := S) ok_X6_gainOf.1 (by decide +kernel) rfl rfl ?_
    refine ax_TgetS (n := 15) (sl := 1) (c := 6) (q := 4) ok_X6_gainOf.1 (by decide +kernel) rfl (by decide +kernel) rfl ho2 ?_
    refine ax_Tgo [.iload_n 1, .iconst 5] (pc' := 28) (L' := [some (.inr (6, 0)), some (.inl (.int a1))]) (st' := [.inl (.int (5 : Int32)), .inl (.int a1), .inr (4, o1), .inr (4, o1), .inl (.int r6)]) (S' := S) ok_X6_gainOf.1 (by decide +kernel) rfl rfl ?_
    obtain ⟨r10, hq8, h⟩ := ax_bd_e h
    refine ax_TVi (d := 1) (ka := 4) (i := o1) [.inl (.int a1), .inl (.int (5 : Int32))] [.inr (4, o1), .inl (.int r6)] lk_X6_46 (by decide +kernel) rfl (by decide) rfl (Nat.le_of_ble_eq_true rfl) (Nat.le_of_ble_eq_true rfl) ((t_X4_traitOf hq8).up (by decide)) ?_
    obtain ⟨r14, hq12, h⟩ := ax_bd_e h
    refine ax_TVi (d := 1) (ka := 4) (i := o1) [.inl (.int r10)] [.inl (.int r6)] lk_X6_134 (by decide +kernel) rfl (by decide) rfl (Nat.le_of_ble_eq_true rfl) (Nat.le_of_ble_eq_true rfl) ((t_X4_wantsOf hq12).up (by decide)) ?_
    refine ax_Tgo [.iadd] (pc' := 35) (L' := [some (.inr (6, 0)), some (.inl (.int a1))]) (st' := [.inl (.int (r6 + r14))]) (S' := S) ok_X6_gainOf.1 (by decide +kernel) rfl rfl ?_
    cases h
    exact ax_Treti (by decide +kernel) rfl rfl
def f_X6_putOnMat (i1 : Nat) (a2 : Int32) (S : AS) : Option (AS) := ax_on (ax_fo S 6 0 1) (some S) (fun (o1 : Nat) => ax_bu (f_X6_beatsNow i1 a2 S) (fun (r6 : Int32) (S3 : AS) => ax_on (ax_fo S3 6 0 1) (none) (fun (o7 : Nat) => (f_X4_traitOf o7 a2 (5 : Int32) S3).bind (fun (r12 : Int32) => ax_let (ax_sfi S3 9 i1 0 ((ax_fi S3 9 i1 0) + r6)) (fun (S13 : AS) => ax_let (ax_sfi S13 9 i1 1 ((ax_fi S13 9 i1 1) ||| ((1 : Int32) <<< (a2 &&& 31)))) (fun (S14 : AS) => (f_X9_receive i1 r12 S14).bind (fun (S15 : AS) => ax_let (ax_sfi S15 9 i1 3 ((ax_fi S15 9 i1 3) + (1 : Int32))) (fun (S18 : AS) => (f_X6_doneBy a2 r6 S18).bind (fun (r22 : Int32) => (if r22 = (0 : Int32) then some S18 else ax_let (ax_sfi S18 9 i1 2 ((ax_fi S18 9 i1 2) + (1 : Int32))) (fun (S24 : AS) => (f_X6_gainOf a2 S24).bind (fun (r28 : Int32) => (f_J9_min_7cf53 (9999 : Int32) ((ax_fi S24 9 i1 5) + r28) S24).bind (fun (r32 : Int32) => ax_let (ax_sfi S24 9 i1 5 r32) (fun (S33 : AS) => some S33))))))))))))))
set_option maxRecDepth 100000 in
theorem t_X6_putOnMat {l : Launch} {i1 : Nat} {a2 : Int32} {S Z : AS} (h : f_X6_putOnMat i1 a2 S = some Z) : ax_M l 4 ma_X6_putOnMat [.inr (6, 0), .inr (9, i1), .inl (.int a2)] S none Z := by
  unfold f_X6_putOnMat at h
  show ax_T l 4 ma_X6_putOnMat (0, [some (.inr (6, 0)), some (.inr (9, i1)), some (.inl (.int a2)), none, none], [], S) none Z
  refine ax_Tgo [.aload_n 0] (pc' := 1) (L' := [some (.inr (6, 0)), some (.inr (9, i1)), some (.inl (.int a2)), none, none]) (st' := [.inr (6, 0)]) (S' := S) ok_X6_putOnMat.1 (by decide +kernel) rfl rfl ?_
  cases ho2 : ax_fo S 6 0 1 with
  | none =>
    rw [ho2] at h
    replace h := ax_on_n h
    refine ax_TgetN (n := 15) (sl := 1) (c := 6) (q := 4) ok_X6_putOnMat.1 (by decide +kernel) rfl (by decide +kernel) rfl ho2 ?_
    refine ax_TnnN (off := 4) (by decide +kernel) ?_
    cases h
    exact ax_Tretv (by decide +kernel) rfl
  | some o1 =>
    rw [ho2] at h
    replace h := ax_on_s h
    refine ax_TgetS (n := 15) (sl := 1) (c := 6) (q := 4) ok_X6_putOnMat.1 (by decide +kernel) rfl (by decide +kernel) rfl ho2 ?_
    refine ax_TnnR (off := 4) (tgt := 8) (by decide +kernel) (by decide) (by decide) ?_
    refine ax_Tgo [.aload_n 0, .aload_n 1, .iload_n 2] (pc' := 11) (L' := [some (.inr (6, 0)), some (.inr (9, i1)), some (.inl (.int a2)), none, none]) (st' := [.inl (.int a2), .inr (9, i1), .inr (6, 0)]) (S' := S) ok_X6_putOnMat.1 (by decide +kernel) rfl rfl ?_
    obtain ⟨r6, S3, hq4, h⟩ := ax_bu_e h
    refine ax_TVi (d := 3) (ka := 6) (i := 0) [.inr (9, i1), .inl (.int a2)] [] lk_X6_99 (by decide +kernel) rfl (by decide) rfl (Nat.le_of_ble_eq_true rfl) (Nat.le_of_ble_eq_true rfl) ((t_X6_beatsNow hq4).up (by decide)) ?_
    refine ax_Tgo [.istore_n 3, .aload_n 0] (pc' := 16) (L' := [some (.inr (6, 0)), some (.inr (9, i1)), some (.inl (.int a2)), some (.inl (.int r6)), none]) (st' := [.inr (6, 0)]) (S' := S3) ok_X6_putOnMat.1 (by decide +kernel) rfl rfl ?_
    cases ho8 : ax_fo S3 6 0 1 with
    | none =>
      rw [ho8] at h
      replace h := ax_on_n h
      refine ax_TgetN (n := 15) (sl := 1) (c := 6) (q := 4) ok_X6_putOnMat.1 (by decide +kernel) rfl (by decide +kernel) rfl ho8 ?_
      cases h
    | some o7 =>
      rw [ho8] at h
      replace h := ax_on_s h
      refine ax_TgetS (n := 15) (sl := 1) (c := 6) (q := 4) ok_X6_putOnMat.1 (by decide +kernel) rfl (by decide +kernel) rfl ho8 ?_
      refine ax_Tgo [.iload_n 2, .iconst 5] (pc' := 21) (L' := [some (.inr (6, 0)), some (.inr (9, i1)), some (.inl (.int a2)), some (.inl (.int r6)), none]) (st' := [.inl (.int (5 : Int32)), .inl (.int a2), .inr (4, o7)]) (S' := S3) ok_X6_putOnMat.1 (by decide +kernel) rfl rfl ?_
      obtain ⟨r12, hq10, h⟩ := ax_bd_e h
      refine ax_TVi (d := 3) (ka := 4) (i := o7) [.inl (.int a2), .inl (.int (5 : Int32))] [] lk_X6_46 (by decide +kernel) rfl (by decide) rfl (Nat.le_of_ble_eq_true rfl) (Nat.le_of_ble_eq_true rfl) ((t_X4_traitOf hq10).up (by decide)) ?_
      refine ax_Tgo [.istore 4, .aload_n 1, .dup, .getfield 72, .iload_n 3, .iadd, .putfield 72] (pc' := 36) (L' := [some (.inr (6, 0)), some (.inr (9, i1)), some (.inl (.int a2)), some (.inl (.int r6)), some (.inl (.int r12))]) (st' := []) (S' := (ax_sfi S3 9 i1 0 ((ax_fi S3 9 i1 0) + r6))) ok_X6_putOnMat.1 (by decide +kernel) rfl rfl ?_
      obtain ⟨S13, eS13, h⟩ := ax_let_e h
      rw [eS13]
      refine ax_Tgo [.aload_n 1, .dup, .getfield 117, .iconst 1, .iload_n 2, .ishl, .ior, .putfield 117] (pc' := 48) (L' := [some (.inr (6, 0)), some (.inr (9, i1)), some (.inl (.int a2)), some (.inl (.int r6)), some (.inl (.int r12))]) (st' := []) (S' := (ax_sfi S13 9 i1 1 ((ax_fi S13 9 i1 1) ||| ((1 : Int32) <<< (a2 &&& 31))))) ok_X6_putOnMat.1 (by decide +kernel) rfl rfl ?_
      obtain ⟨S14, eS14, h⟩ := ax_let_e h
      rw [eS14]
      refine ax_Tgo [.aload_n 1, .iload 4] (pc' := 51) (L' := [some (.inr (6, 0)), some (.inr (9, i1)), some (.inl (.int a2)), some (.inl (.int r6)), some (.inl (.int r12))]) (st' := [.inl (.int r12), .inr (9, i1)]) (S' := S14) ok_X6_putOnMat.1 (by decide +kernel) rfl rfl ?_
      obtain ⟨S15, hq16, h⟩ := ax_bd_e h
      refine ax_TVv (d := 3) (ka := 9) (i := i1) [.inl (.int r12)] [] lk_X6_120 (by decide +kernel) rfl (by decide) rfl (Nat.le_of_ble_eq_true rfl) (Nat.le_of_ble_eq_true rfl) ((t_X9_receive hq16).up (by decide)) ?_
      refine ax_Tgo [.aload_n 1, .dup, .getfield 32, .iconst 1, .iadd, .putfield 32] (pc' := 64) (L' := [some (.inr (6, 0)), some (.inr (9, i1)), some (.inl (.int a2)), some (.inl (.int r6)), some (.inl (.int r12))]) (st' := []) (S' := (ax_sfi S15 9 i1 3 ((ax_fi S15 9 i1 3) + (1 : Int32)))) ok_X6_putOnMat.1 (by decide +kernel) rfl rfl ?_
      obtain ⟨S18, eS18, h⟩ := ax_let_e h
      rw [eS18]
      refine ax_Tgo [.aload_n 0, .iload_n 2, .iload_n 3] (pc' := 67) (L' := [some (.inr (6, 0)), some (.inr (9, i1)), some (.inl (.int a2)), some (.inl (.int r6)), some (.inl (.int r12))]) (st' := [.inl (.int r6), .inl (.int a2), .inr (6, 0)]) (S' := S18) ok_X6_putOnMat.1 (by decide +kernel) rfl rfl ?_
      obtain ⟨r22, hq20, h⟩ := ax_bd_e h
      refine ax_TVi (d := 3) (ka := 6) (i := 0) [.inl (.int a2), .inl (.int r6)] [] lk_X6_124 (by decide +kernel) rfl (by decide) rfl (Nat.le_of_ble_eq_true rfl) (Nat.le_of_ble_eq_true rfl) ((t_X6_doneBy hq20).up (by decide)) ?_
      refine ax_Tif_eq (off := 33) (tgt := 103) (by decide +kernel) (by decide) (fun c23 => ?_) (fun c23 => ?_)
      · rw [if_pos c23] at h
        cases h
        exact ax_Tretv (by decide +kernel) rfl
      · rw [if_neg c23] at h
        refine ax_Tgo [.aload_n 1, .dup, .getfield 111, .iconst 1, .iadd, .putfield 111] (pc' := 83) (L' := [some (.inr (6, 0)), some (.inr (9, i1)), some (.inl (.int a2)), some (.inl (.int r6)), some (.inl (.int r12))]) (st' := []) (S' := (ax_sfi S18 9 i1 2 ((ax_fi S18 9 i1 2) + (1 : Int32)))) ok_X6_putOnMat.1 (by decide +kernel) rfl rfl ?_
        obtain ⟨S24, eS24, h⟩ := ax_let_e h
        rw [eS24]
        refine ax_Tgo [.aload_n 1, .sipush 9999, .aload_n 1, .getfield 128, .aload_n 0, .iload_n 2] (pc' := 93) (L' := [some (.inr (6, 0)), some (.inr (9, i1)), some (.inl (.int a2)), some (.inl (.int r6)), some (.inl (.int r12))]) (st' := [.inl (.int a2), .inr (6, 0), .inl (.int (ax_fi S24 9 i1 5)), .inl (.int (9999 : Int32)), .inr (9, i1)]) (S' := S24) ok_X6_putOnMat.1 (by decide +kernel) rfl rfl ?_
        obtain ⟨r28, hq26, h⟩ := ax_bd_e h
        refine ax_TVi (d := 3) (ka := 6) (i := 0) [.inl (.int a2)] [.inl (.int (ax_fi S24 9 i1 5)), .inl (.int (9999 : Int32)), .inr (9, i1)] lk_X6_131 (by decide +kernel) rfl (by decide) rfl (Nat.le_of_ble_eq_true rfl) (Nat.le_of_ble_eq_true rfl) ((t_X6_gainOf hq26).up (by decide)) ?_
        refine ax_Tgo [.iadd] (pc' := 97) (L' := [some (.inr (6, 0)), some (.inr (9, i1)), some (.inl (.int a2)), some (.inl (.int r6)), some (.inl (.int r12))]) (st' := [.inl (.int ((ax_fi S24 9 i1 5) + r28)), .inl (.int (9999 : Int32)), .inr (9, i1)]) (S' := S24) ok_X6_putOnMat.1 (by decide +kernel) rfl rfl ?_
        obtain ⟨r32, hq30, h⟩ := ax_bd_e h
        refine ax_TSi (d := 3) [.inl (.int (9999 : Int32)), .inl (.int ((ax_fi S24 9 i1 5) + r28))] [.inr (9, i1)] lk_X6_62 (by decide +kernel) rfl rfl (Nat.le_of_ble_eq_true rfl) (Nat.le_of_ble_eq_true rfl) ((t_J9_min_7cf53 hq30).up (by decide)) ?_
        refine ax_Tgo [.putfield 128] (pc' := 103) (L' := [some (.inr (6, 0)), some (.inr (9, i1)), some (.inl (.int a2)), some (.inl (.int r6)), some (.inl (.int r12))]) (st' := []) (S' := (ax_sfi S24 9 i1 5 r32)) ok_X6_putOnMat.1 (by decide +kernel) rfl rfl ?_
        obtain ⟨S33, eS33, h⟩ := ax_let_e h
        rw [eS33]
        cases h
        exact ax_Tretv (by decide +kernel) rfl
def f_X9_setTitles (i0 : Nat) (a1 : Int32) (a2 : Int32) (S : AS) : Option (AS) := (if a1 < (0 : Int32) then some S else (if (6 : Int32) ≤ a1 then some S else ax_gd (ax_in a1 6) (ax_let (ax_sai S 39 i0 a1.toNatClampNeg a2) (fun (S4 : AS) => some S4))))
set_option maxRecDepth 100000 in
theorem t_X9_setTitles {l : Launch} {i0 : Nat} {a1 : Int32} {a2 : Int32} {S Z : AS} (h : f_X9_setTitles i0 a1 a2 S = some Z) : ax_M l 0 ma_X9_setTitles [.inr (9, i0), .inl (.int a1), .inl (.int a2)] S none Z := by
  unfold f_X9_setTitles at h
  show ax_T l 0 ma_X9_setTitles (0, [some (.inr (9, i0)), some (.inl (.int a1)), some (.inl (.int a2))], [], S) none Z
  refine ax_Tgo [.iload_n 1] (pc' := 1) (L' := [some (.inr (9, i0)), some (.inl (.int a1)), some (.inl (.int a2))]) (st' := [.inl (.int a1)]) (S' := S) ok_X9_setTitles.1 (by decide +kernel) rfl rfl ?_
  refine ax_Tif_lt (off := 16) (tgt := 17) (by decide +kernel) (by decide) (fun c1 => ?_) (fun c1 => ?_)
  · rw [if_pos c1] at h
    cases h
    exact ax_Tretv (by decide +kernel) rfl
  · rw [if_neg c1] at h
    refine ax_Tgo [.iload_n 1, .bipush 6] (pc' := 7) (L' := [some (.inr (9, i0)), some (.inl (.int a1)), some (.inl (.int a2))]) (st' := [.inl (.int (6 : Int32)), .inl (.int a1)]) (S' := S) ok_X9_setTitles.1 (by decide +kernel) rfl rfl ?_
    refine ax_Tic_ge (off := 10) (tgt := 17) (by decide +kernel) (by decide) (fun c2 => ?_) (fun c2 => ?_)
    · rw [if_pos c2] at h
      cases h
      exact ax_Tretv (by decide +kernel) rfl
    · rw [if_neg c2] at h
      refine ax_Tgo [.aload_n 0, .getfield 40, .iload_n 1, .iload_n 2] (pc' := 16) (L' := [some (.inr (9, i0)), some (.inl (.int a1)), some (.inl (.int a2))]) (st' := [.inl (.int a2), .inl (.int a1), .inr (39, i0)]) (S' := S) ok_X9_setTitles.1 (by decide +kernel) rfl rfl ?_
      obtain ⟨g3, h⟩ := ax_gd_e h
      refine ax_Tasi (n := 6) ok_X9_setTitles.1 (by decide +kernel) (by decide) rfl g3 ?_
      obtain ⟨S4, eS4, h⟩ := ax_let_e h
      rw [eS4]
      cases h
      exact ax_Tretv (by decide +kernel) rfl
def f_X9_startDay_L22 (K40 : AS → Option (AS)) : Nat → Nat → Int32 → AS → Option (AS)
  | 0, _, _, _ => none
  | n + 1, y5, x6, S7 => (if (4 : Int32) ≤ x6 then K40 S7 else ax_gd (ax_in x6 4) (ax_let (ax_sai S7 38 y5 x6.toNatClampNeg (0 : Int32)) (fun (S10 : AS) => ax_let (x6 + (1 : Int32)) (fun (v11 : Int32) => f_X9_startDay_L22 K40 n y5 v11 S10))))
def f_X9_startDay (i0 : Nat) (S : AS) : Option (AS) := ax_let (ax_sfi S 9 i0 0 (0 : Int32)) (fun (S1 : AS) => ax_let (ax_sfi S1 9 i0 1 (0 : Int32)) (fun (S2 : AS) => ax_let (ax_sfi S2 9 i0 2 (0 : Int32)) (fun (S3 : AS) => ax_let (ax_sfi S3 9 i0 3 (0 : Int32)) (fun (S4 : AS) => f_X9_startDay_L22 (fun (S12 : AS) => some S12) ax_F i0 (0 : Int32) S4))))
set_option maxRecDepth 100000 in
theorem t_X9_startDay_L22 {l : Launch} {K40 : AS → Option (AS)} (hK40 : ∀ (S : AS) Z, K40 S = some Z → ax_T l 0 ma_X9_startDay (40, [none, none], [], S) none Z) : ∀ (n : Nat) (y5 : Nat) (x6 : Int32) (S7 : AS) Z, f_X9_startDay_L22 K40 n y5 x6 S7 = some Z → ax_T l 0 ma_X9_startDay (22, [some (.inr (9, y5)), some (.inl (.int x6))], [], S7) none Z := by
  intro n
  induction n with
  | zero =>
    intro y5 x6 S7 Z h
    cases h
  | succ n ih =>
    intro y5 x6 S7 Z h
    unfold f_X9_startDay_L22 at h
    refine ax_Tgo [.iload_n 1, .iconst 4] (pc' := 24) (L' := [some (.inr (9, y5)), some (.inl (.int x6))]) (st' := [.inl (.int (4 : Int32)), .inl (.int x6)]) (S' := S7) ok_X9_startDay.1 (by decide +kernel) rfl rfl ?_
    refine ax_Tic_ge (off := 16) (tgt := 40) (by decide +kernel) (by decide) (fun c8 => ?_) (fun c8 => ?_)
    · rw [if_pos c8] at h
      refine ax_Tdrop [false, false] (L' := [none, none]) rfl ?_
      exact hK40 S7 _ h
    · rw [if_neg c8] at h
      refine ax_Tgo [.aload_n 0, .getfield 36, .iload_n 1, .iconst 0] (pc' := 33) (L' := [some (.inr (9, y5)), some (.inl (.int x6))]) (st' := [.inl (.int (0 : Int32)), .inl (.int x6), .inr (38, y5)]) (S' := S7) ok_X9_startDay.1 (by decide +kernel) rfl rfl ?_
      obtain ⟨g9, h⟩ := ax_gd_e h
      refine ax_Tasi (n := 4) ok_X9_startDay.1 (by decide +kernel) (by decide) rfl g9 ?_
      obtain ⟨S10, eS10, h⟩ := ax_let_e h
      rw [eS10]
      refine ax_Tgo [.iinc 1 1] (pc' := 37) (L' := [some (.inr (9, y5)), some (.inl (.int (x6 + (1 : Int32))))]) (st' := []) (S' := S10) ok_X9_startDay.1 (by decide +kernel) rfl rfl ?_
      obtain ⟨v11, ev11, h⟩ := ax_let_e h
      rw [ev11]
      refine ax_Tgoto (off := (-15)) (tgt := 22) (by decide +kernel) (by decide) ?_
      exact ih y5 v11 S10 _ h
set_option maxRecDepth 100000 in
theorem t_X9_startDay {l : Launch} {i0 : Nat} {S Z : AS} (h : f_X9_startDay i0 S = some Z) : ax_M l 0 ma_X9_startDay [.inr (9, i0)] S none Z := by
  unfold f_X9_startDay at h
  show ax_T l 0 ma_X9_startDay (0, [some (.inr (9, i0)), none], [], S) none Z
  refine ax_Tgo [.aload_n 0, .iconst 0, .putfield 11] (pc' := 5) (L' := [some (.inr (9, i0)), none]) (st' := []) (S' := (ax_sfi S 9 i0 0 (0 : Int32))) ok_X9_startDay.1 (by decide +kernel) rfl rfl ?_
  obtain ⟨S1, eS1, h⟩ := ax_let_e h
  rw [eS1]
  refine ax_Tgo [.aload_n 0, .iconst 0, .putfield 15] (pc' := 10) (L' := [some (.inr (9, i0)), none]) (st' := []) (S' := (ax_sfi S1 9 i0 1 (0 : Int32))) ok_X9_startDay.1 (by decide +kernel) rfl rfl ?_
  obtain ⟨S2, eS2, h⟩ := ax_let_e h
  rw [eS2]
  refine ax_Tgo [.aload_n 0, .iconst 0, .putfield 18] (pc' := 15) (L' := [some (.inr (9, i0)), none]) (st' := []) (S' := (ax_sfi S2 9 i0 2 (0 : Int32))) ok_X9_startDay.1 (by decide +kernel) rfl rfl ?_
  obtain ⟨S3, eS3, h⟩ := ax_let_e h
  rw [eS3]
  refine ax_Tgo [.aload_n 0, .iconst 0, .putfield 21] (pc' := 20) (L' := [some (.inr (9, i0)), none]) (st' := []) (S' := (ax_sfi S3 9 i0 3 (0 : Int32))) ok_X9_startDay.1 (by decide +kernel) rfl rfl ?_
  obtain ⟨S4, eS4, h⟩ := ax_let_e h
  rw [eS4]
  refine ax_Tgo [.iconst 0, .istore_n 1] (pc' := 22) (L' := [some (.inr (9, i0)), some (.inl (.int (0 : Int32)))]) (st' := []) (S' := S4) ok_X9_startDay.1 (by decide +kernel) rfl rfl ?_
  refine t_X9_startDay_L22 ?_ _ i0 (0 : Int32) S4 _ h
  · intro S12 Z h
    cases h
    exact ax_Tretv (by decide +kernel) rfl
def f_X6_carryOut (i1 : Nat) (a2 : Int32) (a3 : Int32) (S : AS) : Option (AS) := (if a2 = (0 : Int32) then (f_X6_putOnMat i1 a3 S).bind (fun (S2 : AS) => some S2) else if a2 = (1 : Int32) then ax_let (ax_sfi S 9 i1 6 ((ax_fi S 9 i1 6) - (2 : Int32))) (fun (S6 : AS) => (f_X9_titlesOf i1 a3 S6).bind (fun (r10 : Int32) => (f_X9_setTitles i1 a3 (r10 + (1 : Int32)) S6).bind (fun (S11 : AS) => some S11))) else if a2 = (2 : Int32) then ax_let (ax_sfi S 9 i1 4 ((1 : Int32) - (ax_fi S 9 i1 4))) (fun (S15 : AS) => some S15) else if a2 = (3 : Int32) then ax_let (ax_sfi S 9 i1 0 ((ax_fi S 9 i1 0) + a3)) (fun (S17 : AS) => some S17) else if a2 = (4 : Int32) then (f_J9_min_7cf53 (999 : Int32) ((ax_fi S 9 i1 6) + (ax_fi S 9 i1 2)) S).bind (fun (r22 : Int32) => ax_let (ax_sfi S 9 i1 6 r22) (fun (S23 : AS) => ax_let (ax_sfi S23 9 i1 7 ((ax_fi S23 9 i1 7) + (1 : Int32))) (fun (S24 : AS) => (f_X9_startDay i1 S24).bind (fun (S25 : AS) => some S25)))) else if a2 = (5 : Int32) then (f_X9_titlesOf i1 a3 S).bind (fun (r32 : Int32) => (f_X9_setTitles i1 a3 (r32 - (1 : Int32)) S).bind (fun (S33 : AS) => some S33)) else if a2 = (6 : Int32) then ax_let (ax_sfi S 9 i1 0 ((ax_fi S 9 i1 0) + (3 : Int32))) (fun (S37 : AS) => (f_J9_max_7cf53 (0 : Int32) ((ax_fi S37 9 i1 3) - (2 : Int32)) S37).bind (fun (r41 : Int32) => ax_let (ax_sfi S37 9 i1 3 r41) (fun (S42 : AS) => some S42))) else some S)
set_option maxRecDepth 100000 in
theorem t_X6_carryOut {l : Launch} {i1 : Nat} {a2 : Int32} {a3 : Int32} {S Z : AS} (h : f_X6_carryOut i1 a2 a3 S = some Z) : ax_M l 5 ma_X6_carryOut [.inr (6, 0), .inr (9, i1), .inl (.int a2), .inl (.int a3)] S none Z := by
  unfold f_X6_carryOut at h
  show ax_T l 5 ma_X6_carryOut (0, [some (.inr (6, 0)), some (.inr (9, i1)), some (.inl (.int a2)), some (.inl (.int a3))], [], S) none Z
  refine ax_Tgo [.iload_n 2] (pc' := 1) (L' := [some (.inr (6, 0)), some (.inr (9, i1)), some (.inl (.int a2)), some (.inl (.int a3))]) (st' := [.inl (.int a2)]) (S' := S) ok_X6_carryOut.1 (by decide +kernel) rfl rfl ?_
  by_cases c1 : a2 = (0 : Int32)
  · rw [if_pos c1] at h
    refine ax_TtIn (dflt := 181) (lo := 0) (hi := 6) (offs := #[43, 52, 92, 132, 145, 77, 105]) (len := 43) (off := 43) (tgt := 44) (by decide +kernel) (by rw [c1]; decide) (by rw [c1]; decide) (by rw [c1]; rfl) (by decide) ?_
    refine ax_Tgo [.aload_n 0, .aload_n 1, .iload_n 3] (pc' := 47) (L' := [some (.inr (6, 0)), some (.inr (9, i1)), some (.inl (.int a2)), some (.inl (.int a3))]) (st' := [.inl (.int a3), .inr (9, i1), .inr (6, 0)]) (S' := S) ok_X6_carryOut.1 (by decide +kernel) rfl rfl ?_
    obtain ⟨S2, hq3, h⟩ := ax_bd_e h
    refine ax_TVv (d := 4) (ka := 6) (i := 0) [.inr (9, i1), .inl (.int a3)] [] lk_X6_103 (by decide +kernel) rfl (by decide) rfl (Nat.le_of_ble_eq_true rfl) (Nat.le_of_ble_eq_true rfl) ((t_X6_putOnMat hq3).up (by decide)) ?_
    refine ax_Tgoto (off := 132) (tgt := 182) (by decide +kernel) (by decide) ?_
    cases h
    exact ax_Tretv (by decide +kernel) rfl
  · rw [if_neg c1] at h
    by_cases c5 : a2 = (1 : Int32)
    · rw [if_pos c5] at h
      refine ax_TtIn (dflt := 181) (lo := 0) (hi := 6) (offs := #[43, 52, 92, 132, 145, 77, 105]) (len := 43) (off := 52) (tgt := 53) (by decide +kernel) (by rw [c5]; decide) (by rw [c5]; decide) (by rw [c5]; rfl) (by decide) ?_
      refine ax_Tgo [.aload_n 1, .dup, .getfield 82, .iconst 2, .isub, .putfield 82] (pc' := 63) (L' := [some (.inr (6, 0)), some (.inr (9, i1)), some (.inl (.int a2)), some (.inl (.int a3))]) (st' := []) (S' := (ax_sfi S 9 i1 6 ((ax_fi S 9 i1 6) - (2 : Int32)))) ok_X6_carryOut.1 (by decide +kernel) rfl rfl ?_
      obtain ⟨S6, eS6, h⟩ := ax_let_e h
      rw [eS6]
      refine ax_Tgo [.aload_n 1, .iload_n 3, .aload_n 1, .iload_n 3] (pc' := 67) (L' := [some (.inr (6, 0)), some (.inr (9, i1)), some (.inl (.int a2)), some (.inl (.int a3))]) (st' := [.inl (.int a3), .inr (9, i1), .inl (.int a3), .inr (9, i1)]) (S' := S6) ok_X6_carryOut.1 (by decide +kernel) rfl rfl ?_
      obtain ⟨r10, hq8, h⟩ := ax_bd_e h
      refine ax_TVi (d := 4) (ka := 9) (i := i1) [.inl (.int a3)] [.inl (.int a3), .inr (9, i1)] lk_X6_27 (by decide +kernel) rfl (by decide) rfl (Nat.le_of_ble_eq_true rfl) (Nat.le_of_ble_eq_true rfl) ((t_X9_titlesOf hq8).up (by decide)) ?_
      refine ax_Tgo [.iconst 1, .iadd] (pc' := 72) (L' := [some (.inr (6, 0)), some (.inr (9, i1)), some (.inl (.int a2)), some (.inl (.int a3))]) (st' := [.inl (.int (r10 + (1 : Int32))), .inl (.int a3), .inr (9, i1)]) (S' := S6) ok_X6_carryOut.1 (by decide +kernel) rfl rfl ?_
      obtain ⟨S11, hq12, h⟩ := ax_bd_e h
      refine ax_TVv (d := 4) (ka := 9) (i := i1) [.inl (.int a3), .inl (.int (r10 + (1 : Int32)))] [] lk_X6_107 (by decide +kernel) rfl (by decide) rfl (Nat.le_of_ble_eq_true rfl) (Nat.le_of_ble_eq_true rfl) ((t_X9_setTitles hq12).up (by decide)) ?_
      refine ax_Tgoto (off := 107) (tgt := 182) (by decide +kernel) (by decide) ?_
      cases h
      exact ax_Tretv (by decide +kernel) rfl
    · rw [if_neg c5] at h
      by_cases c14 : a2 = (2 : Int32)
      · rw [if_pos c14] at h
        refine ax_TtIn (dflt := 181) (lo := 0) (hi := 6) (offs := #[43, 52, 92, 132, 145, 77, 105]) (len := 43) (off := 92) (tgt := 93) (by decide +kernel) (by rw [c14]; decide) (by rw [c14]; decide) (by rw [c14]; rfl) (by decide) ?_
        refine ax_Tgo [.aload_n 1, .iconst 1, .aload_n 1, .getfield 36, .isub, .putfield 36] (pc' := 103) (L' := [some (.inr (6, 0)), some (.inr (9, i1)), some (.inl (.int a2)), some (.inl (.int a3))]) (st' := []) (S' := (ax_sfi S 9 i1 4 ((1 : Int32) - (ax_fi S 9 i1 4)))) ok_X6_carryOut.1 (by decide +kernel) rfl rfl ?_
        obtain ⟨S15, eS15, h⟩ := ax_let_e h
        rw [eS15]
        refine ax_Tgoto (off := 79) (tgt := 182) (by decide +kernel) (by decide) ?_
        cases h
        exact ax_Tretv (by decide +kernel) rfl
      · rw [if_neg c14] at h
        by_cases c16 : a2 = (3 : Int32)
        · rw [if_pos c16] at h
          refine ax_TtIn (dflt := 181) (lo := 0) (hi := 6) (offs := #[43, 52, 92, 132, 145, 77, 105]) (len := 43) (off := 132) (tgt := 133) (by decide +kernel) (by rw [c16]; decide) (by rw [c16]; decide) (by rw [c16]; rfl) (by decide) ?_
          refine ax_Tgo [.aload_n 1, .dup, .getfield 72, .iload_n 3, .iadd, .putfield 72] (pc' := 143) (L' := [some (.inr (6, 0)), some (.inr (9, i1)), some (.inl (.int a2)), some (.inl (.int a3))]) (st' := []) (S' := (ax_sfi S 9 i1 0 ((ax_fi S 9 i1 0) + a3))) ok_X6_carryOut.1 (by decide +kernel) rfl rfl ?_
          obtain ⟨S17, eS17, h⟩ := ax_let_e h
          rw [eS17]
          refine ax_Tgoto (off := 39) (tgt := 182) (by decide +kernel) (by decide) ?_
          cases h
          exact ax_Tretv (by decide +kernel) rfl
        · rw [if_neg c16] at h
          by_cases c18 : a2 = (4 : Int32)
          · rw [if_pos c18] at h
            refine ax_TtIn (dflt := 181) (lo := 0) (hi := 6) (offs := #[43, 52, 92, 132, 145, 77, 105]) (len := 43) (off := 145) (tgt := 146) (by decide +kernel) (by rw [c18]; decide) (by rw [c18]; decide) (by rw [c18]; rfl) (by decide) ?_
            refine ax_Tgo [.aload_n 1, .sipush 999, .aload_n 1, .getfield 82, .aload_n 1, .getfield 111, .iadd] (pc' := 159) (L' := [some (.inr (6, 0)), some (.inr (9, i1)), some (.inl (.int a2)), some (.inl (.int a3))]) (st' := [.inl (.int ((ax_fi S 9 i1 6) + (ax_fi S 9 i1 2))), .inl (.int (999 : Int32)), .inr (9, i1)]) (S' := S) ok_X6_carryOut.1 (by decide +kernel) rfl rfl ?_
            obtain ⟨r22, hq20, h⟩ := ax_bd_e h
            refine ax_TSi (d := 4) [.inl (.int (999 : Int32)), .inl (.int ((ax_fi S 9 i1 6) + (ax_fi S 9 i1 2)))] [.inr (9, i1)] lk_X6_62 (by decide +kernel) rfl rfl (Nat.le_of_ble_eq_true rfl) (Nat.le_of_ble_eq_true rfl) ((t_J9_min_7cf53 hq20).up (by decide)) ?_
            refine ax_Tgo [.putfield 82] (pc' := 165) (L' := [some (.inr (6, 0)), some (.inr (9, i1)), some (.inl (.int a2)), some (.inl (.int a3))]) (st' := []) (S' := (ax_sfi S 9 i1 6 r22)) ok_X6_carryOut.1 (by decide +kernel) rfl rfl ?_
            obtain ⟨S23, eS23, h⟩ := ax_let_e h
            rw [eS23]
            refine ax_Tgo [.aload_n 1, .dup, .getfield 39, .iconst 1, .iadd, .putfield 39] (pc' := 175) (L' := [some (.inr (6, 0)), some (.inr (9, i1)), some (.inl (.int a2)), some (.inl (.int a3))]) (st' := []) (S' := (ax_sfi S23 9 i1 7 ((ax_fi S23 9 i1 7) + (1 : Int32)))) ok_X6_carryOut.1 (by decide +kernel) rfl rfl ?_
            obtain ⟨S24, eS24, h⟩ := ax_let_e h
            rw [eS24]
            refine ax_Tgo [.aload_n 1] (pc' := 176) (L' := [some (.inr (6, 0)), some (.inr (9, i1)), some (.inl (.int a2)), some (.inl (.int a3))]) (st' := [.inr (9, i1)]) (S' := S24) ok_X6_carryOut.1 (by decide +kernel) rfl rfl ?_
            obtain ⟨S25, hq26, h⟩ := ax_bd_e h
            refine ax_TVv (d := 4) (ka := 9) (i := i1) [] [] lk_X6_114 (by decide +kernel) rfl (by decide) rfl (Nat.le_of_ble_eq_true rfl) (Nat.le_of_ble_eq_true rfl) ((t_X9_startDay hq26).up (by decide)) ?_
            refine ax_Tgoto (off := 3) (tgt := 182) (by decide +kernel) (by decide) ?_
            cases h
            exact ax_Tretv (by decide +kernel) rfl
          · rw [if_neg c18] at h
            by_cases c28 : a2 = (5 : Int32)
            · rw [if_pos c28] at h
              refine ax_TtIn (dflt := 181) (lo := 0) (hi := 6) (offs := #[43, 52, 92, 132, 145, 77, 105]) (len := 43) (off := 77) (tgt := 78) (by decide +kernel) (by rw [c28]; decide) (by rw [c28]; decide) (by rw [c28]; rfl) (by decide) ?_
              refine ax_Tgo [.aload_n 1, .iload_n 3, .aload_n 1, .iload_n 3] (pc' := 82) (L' := [some (.inr (6, 0)), some (.inr (9, i1)), some (.inl (.int a2)), some (.inl (.int a3))]) (st' := [.inl (.int a3), .inr (9, i1), .inl (.int a3), .inr (9, i1)]) (S' := S) ok_X6_carryOut.1 (by decide +kernel) rfl rfl ?_
              obtain ⟨r32, hq30, h⟩ := ax_bd_e h
              refine ax_TVi (d := 4) (ka := 9) (i := i1) [.inl (.int a3)] [.inl (.int a3), .inr (9, i1)] lk_X6_27 (by decide +kernel) rfl (by decide) rfl (Nat.le_of_ble_eq_true rfl) (Nat.le_of_ble_eq_true rfl) ((t_X9_titlesOf hq30).up (by decide)) ?_
              refine ax_Tgo [.iconst 1, .isub] (pc' := 87) (L' := [some (.inr (6, 0)), some (.inr (9, i1)), some (.inl (.int a2)), some (.inl (.int a3))]) (st' := [.inl (.int (r32 - (1 : Int32))), .inl (.int a3), .inr (9, i1)]) (S' := S) ok_X6_carryOut.1 (by decide +kernel) rfl rfl ?_
              obtain ⟨S33, hq34, h⟩ := ax_bd_e h
              refine ax_TVv (d := 4) (ka := 9) (i := i1) [.inl (.int a3), .inl (.int (r32 - (1 : Int32)))] [] lk_X6_107 (by decide +kernel) rfl (by decide) rfl (Nat.le_of_ble_eq_true rfl) (Nat.le_of_ble_eq_true rfl) ((t_X9_setTitles hq34).up (by decide)) ?_
              refine ax_Tgoto (off := 92) (tgt := 182) (by decide +kernel) (by decide) ?_
              cases h
              exact ax_Tretv (by decide +kernel) rfl
            · rw [if_neg c28] at h
              by_cases c36 : a2 = (6 : Int32)
              · rw [if_pos c36] at h
                refine ax_TtIn (dflt := 181) (lo := 0) (hi := 6) (offs := #[43, 52, 92, 132, 145, 77, 105]) (len := 43) (off := 105) (tgt := 106) (by decide +kernel) (by rw [c36]; decide) (by rw [c36]; decide) (by rw [c36]; rfl) (by decide) ?_
                refine ax_Tgo [.aload_n 1, .dup, .getfield 72, .iconst 3, .iadd, .putfield 72] (pc' := 116) (L' := [some (.inr (6, 0)), some (.inr (9, i1)), some (.inl (.int a2)), some (.inl (.int a3))]) (st' := []) (S' := (ax_sfi S 9 i1 0 ((ax_fi S 9 i1 0) + (3 : Int32)))) ok_X6_carryOut.1 (by decide +kernel) rfl rfl ?_
                obtain ⟨S37, eS37, h⟩ := ax_let_e h
                rw [eS37]
                refine ax_Tgo [.aload_n 1, .iconst 0, .aload_n 1, .getfield 32, .iconst 2, .isub] (pc' := 124) (L' := [some (.inr (6, 0)), some (.inr (9, i1)), some (.inl (.int a2)), some (.inl (.int a3))]) (st' := [.inl (.int ((ax_fi S37 9 i1 3) - (2 : Int32))), .inl (.int (0 : Int32)), .inr (9, i1)]) (S' := S37) ok_X6_carryOut.1 (by decide +kernel) rfl rfl ?_
                obtain ⟨r41, hq39, h⟩ := ax_bd_e h
                refine ax_TSi (d := 4) [.inl (.int (0 : Int32)), .inl (.int ((ax_fi S37 9 i1 3) - (2 : Int32)))] [.inr (9, i1)] lk_X6_67 (by decide +kernel) rfl rfl (Nat.le_of_ble_eq_true rfl) (Nat.le_of_ble_eq_true rfl) ((t_J9_max_7cf53 hq39).up (by decide)) ?_
                refine ax_Tgo [.putfield 32] (pc' := 130) (L' := [some (.inr (6, 0)), some (.inr (9, i1)), some (.inl (.int a2)), some (.inl (.int a3))]) (st' := []) (S' := (ax_sfi S37 9 i1 3 r41)) ok_X6_carryOut.1 (by decide +kernel) rfl rfl ?_
                obtain ⟨S42, eS42, h⟩ := ax_let_e h
                rw [eS42]
                refine ax_Tgoto (off := 52) (tgt := 182) (by decide +kernel) (by decide) ?_
                cases h
                exact ax_Tretv (by decide +kernel) rfl
              · rw [if_neg c36] at h
                refine ax_TtOut (dflt := 181) (lo := 0) (hi := 6) (offs := #[43, 52, 92, 132, 145, 77, 105]) (len := 43) (tgt := 182) (by decide +kernel) (by have zc1 := lv_neT (a := 0) c1 rfl; have zc5 := lv_neT (a := 1) c5 rfl; have zc14 := lv_neT (a := 2) c14 rfl; have zc16 := lv_neT (a := 3) c16 rfl; have zc18 := lv_neT (a := 4) c18 rfl; have zc28 := lv_neT (a := 5) c28 rfl; have zc36 := lv_neT (a := 6) c36 rfl; omega) (by decide) ?_
                cases h
                exact ax_Tretv (by decide +kernel) rfl
def f_J9_floorMod_7cf53 (a0 : Int32) (a1 : Int32) (S : AS) : Option (Int32) := ax_gd (ax_nz a1) (ax_let (a0 - a0 / a1 * a1) (fun (v2 : Int32) => (if (0 : Int32) ≤ (a0 ^^^ a1) then some v2 else (if v2 = (0 : Int32) then some v2 else some (v2 + a1)))))
set_option maxRecDepth 100000 in
theorem t_J9_floorMod_7cf53 {l : Launch} {a0 : Int32} {a1 : Int32} {S : AS} {r : Int32} (h : f_J9_floorMod_7cf53 a0 a1 S = some r) : ax_M l 0 ma_J9_floorMod_7cf53 [.inl (.int a0), .inl (.int a1)] S (some (.inl (.int r))) S := by
  unfold f_J9_floorMod_7cf53 at h
  show ax_T l 0 ma_J9_floorMod_7cf53 (0, [some (.inl (.int a0)), some (.inl (.int a1)), none], [], S) (some (.inl (.int r))) S
  refine ax_Tgo [.iload_n 0, .iload_n 1] (pc' := 2) (L' := [some (.inl (.int a0)), some (.inl (.int a1)), none]) (st' := [.inl (.int a1), .inl (.int a0)]) (S' := S) ok_J9_floorMod_7cf53.1 (by decide +kernel) rfl rfl ?_
  obtain ⟨g1, h⟩ := ax_gd_e h
  refine ax_Tirem ok_J9_floorMod_7cf53.1 (by decide +kernel) g1 ?_
  refine ax_Tgo [.istore_n 2] (pc' := 4) (L' := [some (.inl (.int a0)), some (.inl (.int a1)), some (.inl (.int (a0 - a0 / a1 * a1)))]) (st' := []) (S' := S) ok_J9_floorMod_7cf53.1 (by decide +kernel) rfl rfl ?_
  obtain ⟨v2, ev2, h⟩ := ax_let_e h
  rw [ev2]
  refine ax_Tgo [.iload_n 0, .iload_n 1, .ixor] (pc' := 7) (L' := [some (.inl (.int a0)), some (.inl (.int a1)), some (.inl (.int v2))]) (st' := [.inl (.int (a0 ^^^ a1))]) (S' := S) ok_J9_floorMod_7cf53.1 (by decide +kernel) rfl rfl ?_
  refine ax_Tif_ge (off := 11) (tgt := 18) (by decide +kernel) (by decide) (fun c3 => ?_) (fun c3 => ?_)
  · rw [if_pos c3] at h
    refine ax_Tgo [.iload_n 2] (pc' := 19) (L' := [some (.inl (.int a0)), some (.inl (.int a1)), some (.inl (.int v2))]) (st' := [.inl (.int v2)]) (S' := S) ok_J9_floorMod_7cf53.1 (by decide +kernel) rfl rfl ?_
    cases h
    exact ax_Treti (by decide +kernel) rfl rfl
  · rw [if_neg c3] at h
    refine ax_Tgo [.iload_n 2] (pc' := 11) (L' := [some (.inl (.int a0)), some (.inl (.int a1)), some (.inl (.int v2))]) (st' := [.inl (.int v2)]) (S' := S) ok_J9_floorMod_7cf53.1 (by decide +kernel) rfl rfl ?_
    refine ax_Tif_eq (off := 7) (tgt := 18) (by decide +kernel) (by decide) (fun c4 => ?_) (fun c4 => ?_)
    · rw [if_pos c4] at h
      refine ax_Tgo [.iload_n 2] (pc' := 19) (L' := [some (.inl (.int a0)), some (.inl (.int a1)), some (.inl (.int v2))]) (st' := [.inl (.int v2)]) (S' := S) ok_J9_floorMod_7cf53.1 (by decide +kernel) rfl rfl ?_
      cases h
      exact ax_Treti (by decide +kernel) rfl rfl
    · rw [if_neg c4] at h
      refine ax_Tgo [.iload_n 2, .iload_n 1, .iadd] (pc' := 17) (L' := [some (.inl (.int a0)), some (.inl (.int a1)), some (.inl (.int v2))]) (st' := [.inl (.int (v2 + a1))]) (S' := S) ok_J9_floorMod_7cf53.1 (by decide +kernel) rfl rfl ?_
      cases h
      exact ax_Treti (by decide +kernel) rfl rfl
def f_X2_write (i0 : Nat) (i1 : Nat) (S : AS) : Option (AS) := (f_J9_floorMod_7cf53 (ax_fi S 9 i1 7) (100 : Int32) S).bind (fun (r4 : Int32) => ax_let (r4 * (3 : Int32)) (fun (v5 : Int32) => ax_gd (ax_in v5 300) (ax_let (ax_sai S 23 i0 v5.toNatClampNeg (ax_fi S 9 i1 2)) (fun (S7 : AS) => ax_gd (ax_in (v5 + (1 : Int32)) 300) (ax_let (ax_sai S7 23 i0 (v5 + (1 : Int32)).toNatClampNeg (ax_fi S7 9 i1 1)) (fun (S9 : AS) => ax_gd (ax_in (v5 + (2 : Int32)) 300) (ax_let (ax_sai S9 23 i0 (v5 + (2 : Int32)).toNatClampNeg (ax_fi S9 9 i1 0)) (fun (S11 : AS) => some S11))))))))
set_option maxRecDepth 100000 in
theorem t_X2_write {l : Launch} {i0 : Nat} {i1 : Nat} {S Z : AS} (h : f_X2_write i0 i1 S = some Z) : ax_M l 1 ma_X2_write [.inr (2, i0), .inr (9, i1)] S none Z := by
  unfold f_X2_write at h
  show ax_T l 1 ma_X2_write (0, [some (.inr (2, i0)), some (.inr (9, i1)), none], [], S) none Z
  refine ax_Tgo [.aload_n 1, .getfield 23, .bipush 100] (pc' := 6) (L' := [some (.inr (2, i0)), some (.inr (9, i1)), none]) (st' := [.inl (.int (100 : Int32)), .inl (.int (ax_fi S 9 i1 7))]) (S' := S) ok_X2_write.1 (by decide +kernel) rfl rfl ?_
  obtain ⟨r4, hq2, h⟩ := ax_bd_e h
  refine ax_TSi (d := 0) [.inl (.int (ax_fi S 9 i1 7)), .inl (.int (100 : Int32))] [] lk_X2_29 (by decide +kernel) rfl rfl (Nat.le_of_ble_eq_true rfl) (Nat.le_of_ble_eq_true rfl) ((t_J9_floorMod_7cf53 hq2).up (by decide)) ?_
  refine ax_Tgo [.iconst 3, .imul, .istore_n 2] (pc' := 12) (L' := [some (.inr (2, i0)), some (.inr (9, i1)), some (.inl (.int (r4 * (3 : Int32))))]) (st' := []) (S' := S) ok_X2_write.1 (by decide +kernel) rfl rfl ?_
  obtain ⟨v5, ev5, h⟩ := ax_let_e h
  rw [ev5]
  refine ax_Tgo [.aload_n 0, .getfield 13, .iload_n 2, .aload_n 1, .getfield 32] (pc' := 21) (L' := [some (.inr (2, i0)), some (.inr (9, i1)), some (.inl (.int v5))]) (st' := [.inl (.int (ax_fi S 9 i1 2)), .inl (.int v5), .inr (23, i0)]) (S' := S) ok_X2_write.1 (by decide +kernel) rfl rfl ?_
  obtain ⟨g6, h⟩ := ax_gd_e h
  refine ax_Tasi (n := 300) ok_X2_write.1 (by decide +kernel) (by decide) rfl g6 ?_
  obtain ⟨S7, eS7, h⟩ := ax_let_e h
  rw [eS7]
  refine ax_Tgo [.aload_n 0, .getfield 13, .iload_n 2, .iconst 1, .iadd, .aload_n 1, .getfield 35] (pc' := 33) (L' := [some (.inr (2, i0)), some (.inr (9, i1)), some (.inl (.int v5))]) (st' := [.inl (.int (ax_fi S7 9 i1 1)), .inl (.int (v5 + (1 : Int32))), .inr (23, i0)]) (S' := S7) ok_X2_write.1 (by decide +kernel) rfl rfl ?_
  obtain ⟨g8, h⟩ := ax_gd_e h
  refine ax_Tasi (n := 300) ok_X2_write.1 (by decide +kernel) (by decide) rfl g8 ?_
  obtain ⟨S9, eS9, h⟩ := ax_let_e h
  rw [eS9]
  refine ax_Tgo [.aload_n 0, .getfield 13, .iload_n 2, .iconst 2, .iadd, .aload_n 1, .getfield 38] (pc' := 45) (L' := [some (.inr (2, i0)), some (.inr (9, i1)), some (.inl (.int v5))]) (st' := [.inl (.int (ax_fi S9 9 i1 0)), .inl (.int (v5 + (2 : Int32))), .inr (23, i0)]) (S' := S9) ok_X2_write.1 (by decide +kernel) rfl rfl ?_
  obtain ⟨g10, h⟩ := ax_gd_e h
  refine ax_Tasi (n := 300) ok_X2_write.1 (by decide +kernel) (by decide) rfl g10 ?_
  obtain ⟨S11, eS11, h⟩ := ax_let_e h
  rw [eS11]
  cases h
  exact ax_Tretv (by decide +kernel) rfl
def f_X11_act (a1 : Int32) (a2 : Int32) (S : AS) : Option (Int32 × AS) := ax_bu (f_X6_may 0 a1 a2 S) (fun (r4 : Int32) (S1 : AS) => (if r4 = (0 : Int32) then some ((0 : Int32), S1) else (f_X7_remember 0 S1).bind (fun (S6 : AS) => ax_let (fun (S9 : AS) => (f_X6_carryOut 0 a1 a2 S9).bind (fun (S11 : AS) => some ((1 : Int32), S11))) (fun J10 => (if a1 = (4 : Int32) then (f_X2_write 0 0 S6).bind (fun (S15 : AS) => J10 S15) else J10 S6)))))
set_option maxRecDepth 100000 in
theorem t_X11_act {l : Launch} {a1 : Int32} {a2 : Int32} {S Z : AS} {r : Int32} (h : f_X11_act a1 a2 S = some (r, Z)) : ax_M l 6 ma_X11_act [.inr (11, 0), .inl (.int a1), .inl (.int a2)] S (some (.inl (.int r))) Z := by
  unfold f_X11_act at h
  show ax_T l 6 ma_X11_act (0, [some (.inr (11, 0)), some (.inl (.int a1)), some (.inl (.int a2))], [], S) (some (.inl (.int r))) Z
  refine ax_Tgo [.aload_n 0, .getfield 31, .aload_n 0, .getfield 69, .iload_n 1, .iload_n 2] (pc' := 10) (L' := [some (.inr (11, 0)), some (.inl (.int a1)), some (.inl (.int a2))]) (st' := [.inl (.int a2), .inl (.int a1), .inr (9, 0), .inr (6, 0)]) (S' := S) ok_X11_act.1 (by decide +kernel) rfl rfl ?_
  obtain ⟨r4, S1, hq2, h⟩ := ax_bu_e h
  refine ax_TVi (d := 5) (ka := 6) (i := 0) [.inr (9, 0), .inl (.int a1), .inl (.int a2)] [] lk_X11_237 (by decide +kernel) rfl (by decide) rfl (Nat.le_of_ble_eq_true rfl) (Nat.le_of_ble_eq_true rfl) ((t_X6_may hq2).up (by decide)) ?_
  refine ax_Tif_ne (off := 5) (tgt := 18) (by decide +kernel) (by decide) (fun c5 => ?_) (fun c5 => ?_)
  · rw [if_neg c5] at h
    refine ax_Tgo [.aload_n 0, .getfield 38, .aload_n 0, .getfield 69] (pc' := 26) (L' := [some (.inr (11, 0)), some (.inl (.int a1)), some (.inl (.int a2))]) (st' := [.inr (9, 0), .inr (7, 0)]) (S' := S1) ok_X11_act.1 (by decide +kernel) rfl rfl ?_
    obtain ⟨S6, hq7, h⟩ := ax_bd_e h
    refine ax_TVv (d := 5) (ka := 7) (i := 0) [.inr (9, 0)] [] lk_X11_241 (by decide +kernel) rfl (by decide) rfl (Nat.le_of_ble_eq_true rfl) (Nat.le_of_ble_eq_true rfl) ((t_X7_remember hq7).up (by decide)) ?_
    refine ax_Tgo [.iload_n 1, .iconst 4] (pc' := 31) (L' := [some (.inr (11, 0)), some (.inl (.int a1)), some (.inl (.int a2))]) (st' := [.inl (.int (4 : Int32)), .inl (.int a1)]) (S' := S6) ok_X11_act.1 (by decide +kernel) rfl rfl ?_
    obtain ⟨J10, eJ10, h⟩ := ax_let_e h
    have hJ10 : ∀ (S9 : AS) r Z, J10 S9 = some (r, Z) → ax_T l 6 ma_X11_act (45, [some (.inr (11, 0)), some (.inl (.int a1)), some (.inl (.int a2))], [], S9) (some (.inl (.int r))) Z := by
      intro S9 r Z h
      rw [← eJ10] at h
      try dsimp only at h
      refine ax_Tgo [.aload_n 0, .getfield 31, .aload_n 0, .getfield 69, .iload_n 1, .iload_n 2] (pc' := 55) (L' := [some (.inr (11, 0)), some (.inl (.int a1)), some (.inl (.int a2))]) (st' := [.inl (.int a2), .inl (.int a1), .inr (9, 0), .inr (6, 0)]) (S' := S9) ok_X11_act.1 (by decide +kernel) rfl rfl ?_
      obtain ⟨S11, hq12, h⟩ := ax_bd_e h
      refine ax_TVv (d := 5) (ka := 6) (i := 0) [.inr (9, 0), .inl (.int a1), .inl (.int a2)] [] lk_X11_248 (by decide +kernel) rfl (by decide) rfl (Nat.le_of_ble_eq_true rfl) (Nat.le_of_ble_eq_true rfl) ((t_X6_carryOut hq12).up (by decide)) ?_
      refine ax_Tgo [.iconst 1] (pc' := 59) (L' := [some (.inr (11, 0)), some (.inl (.int a1)), some (.inl (.int a2))]) (st' := [.inl (.int (1 : Int32))]) (S' := S11) ok_X11_act.1 (by decide +kernel) rfl rfl ?_
      cases h
      exact ax_Treti (by decide +kernel) rfl rfl
    refine ax_Tic_ne (off := 14) (tgt := 45) (by decide +kernel) (by decide) (fun c14 => ?_) (fun c14 => ?_)
    · rw [if_neg c14] at h
      exact hJ10 S6 _ _ h
    · rw [if_pos c14] at h
      refine ax_Tgo [.aload_n 0, .getfield 45, .aload_n 0, .getfield 69] (pc' := 42) (L' := [some (.inr (11, 0)), some (.inl (.int a1)), some (.inl (.int a2))]) (st' := [.inr (9, 0), .inr (2, 0)]) (S' := S6) ok_X11_act.1 (by decide +kernel) rfl rfl ?_
      obtain ⟨S15, hq16, h⟩ := ax_bd_e h
      refine ax_TVv (d := 5) (ka := 2) (i := 0) [.inr (9, 0)] [] lk_X11_245 (by decide +kernel) rfl (by decide) rfl (Nat.le_of_ble_eq_true rfl) (Nat.le_of_ble_eq_true rfl) ((t_X2_write hq16).up (by decide)) ?_
      exact hJ10 S15 _ _ h
  · rw [if_pos c5] at h
    refine ax_Tgo [.iconst 0] (pc' := 17) (L' := [some (.inr (11, 0)), some (.inl (.int a1)), some (.inl (.int a2))]) (st' := [.inl (.int (0 : Int32))]) (S' := S1) ok_X11_act.1 (by decide +kernel) rfl rfl ?_
    cases h
    exact ax_Treti (by decide +kernel) rfl rfl
def f_X11_noHouse (S : AS) : Option (Int32) := (if (ax_fi S 4 (ax_fx S 11 0 14) 5) = (0 : Int32) then some (1 : Int32) else some (0 : Int32))
set_option maxRecDepth 100000 in
theorem t_X11_noHouse {l : Launch} {S : AS} {r : Int32} (h : f_X11_noHouse S = some r) : ax_M l 1 ma_X11_noHouse [.inr (11, 0)] S (some (.inl (.int r))) S := by
  unfold f_X11_noHouse at h
  show ax_T l 1 ma_X11_noHouse (0, [some (.inr (11, 0))], [], S) (some (.inl (.int r))) S
  refine ax_Tgo [.aload_n 0, .getfield 93] (pc' := 4) (L' := [some (.inr (11, 0))]) (st' := [.inr (4, (ax_fx S 11 0 14))]) (S' := S) ok_X11_noHouse.1 (by decide +kernel) rfl rfl ?_
  refine ax_TVi (d := 0) (ka := 4) (i := (ax_fx S 11 0 14)) [] [] lk_X11_147 (by decide +kernel) rfl (by decide) rfl (Nat.le_of_ble_eq_true rfl) (Nat.le_of_ble_eq_true rfl) ((t_X4_callers rfl).up (by decide)) ?_
  refine ax_Tif_ne (off := 7) (tgt := 14) (by decide +kernel) (by decide) (fun c4 => ?_) (fun c4 => ?_)
  · rw [if_neg c4] at h
    refine ax_Tgo [.iconst 0] (pc' := 15) (L' := [some (.inr (11, 0))]) (st' := [.inl (.int (0 : Int32))]) (S' := S) ok_X11_noHouse.1 (by decide +kernel) rfl rfl ?_
    cases h
    exact ax_Treti (by decide +kernel) rfl rfl
  · rw [if_pos c4] at h
    refine ax_Tgo [.iconst 1] (pc' := 11) (L' := [some (.inr (11, 0))]) (st' := [.inl (.int (1 : Int32))]) (S' := S) ok_X11_noHouse.1 (by decide +kernel) rfl rfl ?_
    refine ax_Tgoto (off := 4) (tgt := 15) (by decide +kernel) (by decide) ?_
    cases h
    exact ax_Treti (by decide +kernel) rfl rfl
def f_X11_rank (a1 : Int32) (a2 : Int32) (S : AS) : Option (Int32 × AS) := (if a1 = (1 : Int32) then ax_bu (f_X6_beatsNow 0 a2 S) (fun (r5 : Int32) (S2 : AS) => some (r5, S2)) else if a1 = (2 : Int32) then ax_bu (f_X6_beatsNow 0 a2 S) (fun (r10 : Int32) (S7 : AS) => some ((-r10), S7)) else if a1 = (3 : Int32) then (f_X4_traitOf (ax_fx S 11 0 14) a2 (4 : Int32) S).bind (fun (r15 : Int32) => some (r15, S)) else if a1 = (4 : Int32) then (f_X4_traitOf (ax_fx S 11 0 14) a2 (3 : Int32) S).bind (fun (r20 : Int32) => some (r20, S)) else (f_X9_titlesOf 0 a2 S).bind (fun (r24 : Int32) => some (r24, S)))
set_option maxRecDepth 100000 in
theorem t_X11_rank {l : Launch} {a1 : Int32} {a2 : Int32} {S Z : AS} {r : Int32} (h : f_X11_rank a1 a2 S = some (r, Z)) : ax_M l 4 ma_X11_rank [.inr (11, 0), .inl (.int a1), .inl (.int a2)] S (some (.inl (.int r))) Z := by
  unfold f_X11_rank at h
  show ax_T l 4 ma_X11_rank (0, [some (.inr (11, 0)), some (.inl (.int a1)), some (.inl (.int a2))], [], S) (some (.inl (.int r))) Z
  refine ax_Tgo [.iload_n 1] (pc' := 1) (L' := [some (.inr (11, 0)), some (.inl (.int a1)), some (.inl (.int a2))]) (st' := [.inl (.int a1)]) (S' := S) ok_X11_rank.1 (by decide +kernel) rfl rfl ?_
  by_cases c1 : a1 = (1 : Int32)
  · rw [if_pos c1] at h
    refine ax_TtIn (dflt := 78) (lo := 1) (hi := 4) (offs := #[31, 44, 58, 68]) (len := 31) (off := 31) (tgt := 32) (by decide +kernel) (by rw [c1]; decide) (by rw [c1]; decide) (by rw [c1]; rfl) (by decide) ?_
    refine ax_Tgo [.aload_n 0, .getfield 31, .aload_n 0, .getfield 69, .iload_n 2] (pc' := 41) (L' := [some (.inr (11, 0)), some (.inl (.int a1)), some (.inl (.int a2))]) (st' := [.inl (.int a2), .inr (9, 0), .inr (6, 0)]) (S' := S) ok_X11_rank.1 (by decide +kernel) rfl rfl ?_
    obtain ⟨r5, S2, hq3, h⟩ := ax_bu_e h
    refine ax_TVi (d := 3) (ka := 6) (i := 0) [.inr (9, 0), .inl (.int a2)] [] lk_X11_284 (by decide +kernel) rfl (by decide) rfl (Nat.le_of_ble_eq_true rfl) (Nat.le_of_ble_eq_true rfl) ((t_X6_beatsNow hq3).up (by decide)) ?_
    cases h
    exact ax_Treti (by decide +kernel) rfl rfl
  · rw [if_neg c1] at h
    by_cases c6 : a1 = (2 : Int32)
    · rw [if_pos c6] at h
      refine ax_TtIn (dflt := 78) (lo := 1) (hi := 4) (offs := #[31, 44, 58, 68]) (len := 31) (off := 44) (tgt := 45) (by decide +kernel) (by rw [c6]; decide) (by rw [c6]; decide) (by rw [c6]; rfl) (by decide) ?_
      refine ax_Tgo [.aload_n 0, .getfield 31, .aload_n 0, .getfield 69, .iload_n 2] (pc' := 54) (L' := [some (.inr (11, 0)), some (.inl (.int a1)), some (.inl (.int a2))]) (st' := [.inl (.int a2), .inr (9, 0), .inr (6, 0)]) (S' := S) ok_X11_rank.1 (by decide +kernel) rfl rfl ?_
      obtain ⟨r10, S7, hq8, h⟩ := ax_bu_e h
      refine ax_TVi (d := 3) (ka := 6) (i := 0) [.inr (9, 0), .inl (.int a2)] [] lk_X11_284 (by decide +kernel) rfl (by decide) rfl (Nat.le_of_ble_eq_true rfl) (Nat.le_of_ble_eq_true rfl) ((t_X6_beatsNow hq8).up (by decide)) ?_
      refine ax_Tgo [.ineg] (pc' := 58) (L' := [some (.inr (11, 0)), some (.inl (.int a1)), some (.inl (.int a2))]) (st' := [.inl (.int (-r10))]) (S' := S7) ok_X11_rank.1 (by decide +kernel) rfl rfl ?_
      cases h
      exact ax_Treti (by decide +kernel) rfl rfl
    · rw [if_neg c6] at h
      by_cases c11 : a1 = (3 : Int32)
      · rw [if_pos c11] at h
        refine ax_TtIn (dflt := 78) (lo := 1) (hi := 4) (offs := #[31, 44, 58, 68]) (len := 31) (off := 58) (tgt := 59) (by decide +kernel) (by rw [c11]; decide) (by rw [c11]; decide) (by rw [c11]; rfl) (by decide) ?_
        refine ax_Tgo [.aload_n 0, .getfield 93, .iload_n 2, .iconst 4] (pc' := 65) (L' := [some (.inr (11, 0)), some (.inl (.int a1)), some (.inl (.int a2))]) (st' := [.inl (.int (4 : Int32)), .inl (.int a2), .inr (4, (ax_fx S 11 0 14))]) (S' := S) ok_X11_rank.1 (by decide +kernel) rfl rfl ?_
        obtain ⟨r15, hq13, h⟩ := ax_bd_e h
        refine ax_TVi (d := 3) (ka := 4) (i := (ax_fx S 11 0 14)) [.inl (.int a2), .inl (.int (4 : Int32))] [] lk_X11_195 (by decide +kernel) rfl (by decide) rfl (Nat.le_of_ble_eq_true rfl) (Nat.le_of_ble_eq_true rfl) ((t_X4_traitOf hq13).up (by decide)) ?_
        cases h
        exact ax_Treti (by decide +kernel) rfl rfl
      · rw [if_neg c11] at h
        by_cases c16 : a1 = (4 : Int32)
        · rw [if_pos c16] at h
          refine ax_TtIn (dflt := 78) (lo := 1) (hi := 4) (offs := #[31, 44, 58, 68]) (len := 31) (off := 68) (tgt := 69) (by decide +kernel) (by rw [c16]; decide) (by rw [c16]; decide) (by rw [c16]; rfl) (by decide) ?_
          refine ax_Tgo [.aload_n 0, .getfield 93, .iload_n 2, .iconst 3] (pc' := 75) (L' := [some (.inr (11, 0)), some (.inl (.int a1)), some (.inl (.int a2))]) (st' := [.inl (.int (3 : Int32)), .inl (.int a2), .inr (4, (ax_fx S 11 0 14))]) (S' := S) ok_X11_rank.1 (by decide +kernel) rfl rfl ?_
          obtain ⟨r20, hq18, h⟩ := ax_bd_e h
          refine ax_TVi (d := 3) (ka := 4) (i := (ax_fx S 11 0 14)) [.inl (.int a2), .inl (.int (3 : Int32))] [] lk_X11_195 (by decide +kernel) rfl (by decide) rfl (Nat.le_of_ble_eq_true rfl) (Nat.le_of_ble_eq_true rfl) ((t_X4_traitOf hq18).up (by decide)) ?_
          cases h
          exact ax_Treti (by decide +kernel) rfl rfl
        · rw [if_neg c16] at h
          refine ax_TtOut (dflt := 78) (lo := 1) (hi := 4) (offs := #[31, 44, 58, 68]) (len := 31) (tgt := 79) (by decide +kernel) (by have zc1 := lv_neT (a := 1) c1 rfl; have zc6 := lv_neT (a := 2) c6 rfl; have zc11 := lv_neT (a := 3) c11 rfl; have zc16 := lv_neT (a := 4) c16 rfl; omega) (by decide) ?_
          refine ax_Tgo [.aload_n 0, .getfield 69, .iload_n 2] (pc' := 84) (L' := [some (.inr (11, 0)), some (.inl (.int a1)), some (.inl (.int a2))]) (st' := [.inl (.int a2), .inr (9, 0)]) (S' := S) ok_X11_rank.1 (by decide +kernel) rfl rfl ?_
          obtain ⟨r24, hq22, h⟩ := ax_bd_e h
          refine ax_TVi (d := 3) (ka := 9) (i := 0) [.inl (.int a2)] [] lk_X11_189 (by decide +kernel) rfl (by decide) rfl (Nat.le_of_ble_eq_true rfl) (Nat.le_of_ble_eq_true rfl) ((t_X9_titlesOf hq22).up (by decide)) ?_
          cases h
          exact ax_Treti (by decide +kernel) rfl rfl
def f_X11_foremost_L4 (K38 : Int32 → AS → Option (Int32 × AS)) : Nat → Int32 → Int32 → Int32 → AS → Option (Int32 × AS)
  | 0, _, _, _, _ => none
  | n + 1, x1, x2, x3, S5 => (if (ax_fi S5 4 (ax_fx S5 11 0 14) 5) ≤ x3 then K38 x2 S5 else ax_bu (f_X11_rank x1 x3 S5) (fun (r13 : Int32) (S10 : AS) => ax_bu (f_X11_rank x1 x2 S10) (fun (r17 : Int32) (S14 : AS) => (if r13 ≤ r17 then ax_let (x3 + (1 : Int32)) (fun (v19 : Int32) => f_X11_foremost_L4 K38 n x1 x2 v19 S14) else ax_let (x3 + (1 : Int32)) (fun (v20 : Int32) => f_X11_foremost_L4 K38 n x1 x3 v20 S14)))))
def f_X11_foremost (a1 : Int32) (S : AS) : Option (Int32 × AS) := f_X11_foremost_L4 (fun (x4 : Int32) (S21 : AS) => some (x4, S21)) ax_F a1 (0 : Int32) (1 : Int32) S
set_option maxRecDepth 100000 in
theorem t_X11_foremost_L4 {l : Launch} {K38 : Int32 → AS → Option (Int32 × AS)} (hK38 : ∀ (x4 : Int32) (S : AS) r Z, K38 x4 S = some (r, Z) → ax_T l 5 ma_X11_foremost (38, [none, none, some (.inl (.int x4)), none], [], S) (some (.inl (.int r))) Z) : ∀ (n : Nat) (x1 : Int32) (x2 : Int32) (x3 : Int32) (S5 : AS) r Z, f_X11_foremost_L4 K38 n x1 x2 x3 S5 = some (r, Z) → ax_T l 5 ma_X11_foremost (4, [some (.inr (11, 0)), some (.inl (.int x1)), some (.inl (.int x2)), some (.inl (.int x3))], [], S5) (some (.inl (.int r))) Z := by
  intro n
  induction n with
  | zero =>
    intro x1 x2 x3 S5 r Z h
    cases h
  | succ n ih =>
    intro x1 x2 x3 S5 r Z h
    unfold f_X11_foremost_L4 at h
    refine ax_Tgo [.iload_n 3, .aload_n 0, .getfield 93] (pc' := 9) (L' := [some (.inr (11, 0)), some (.inl (.int x1)), some (.inl (.int x2)), some (.inl (.int x3))]) (st' := [.inr (4, (ax_fx S5 11 0 14)), .inl (.int x3)]) (S' := S5) ok_X11_foremost.1 (by decide +kernel) rfl rfl ?_
    refine ax_TVi (d := 4) (ka := 4) (i := (ax_fx S5 11 0 14)) [] [.inl (.int x3)] lk_X11_147 (by decide +kernel) rfl (by decide) rfl (Nat.le_of_ble_eq_true rfl) (Nat.le_of_ble_eq_true rfl) ((t_X4_callers rfl).up (by decide)) ?_
    refine ax_Tic_ge (off := 26) (tgt := 38) (by decide +kernel) (by decide) (fun c9 => ?_) (fun c9 => ?_)
    · rw [if_pos c9] at h
      refine ax_Tdrop [false, false, true, false] (L' := [none, none, some (.inl (.int x2)), none]) rfl ?_
      exact hK38 x2 S5 _ _ h
    · rw [if_neg c9] at h
      refine ax_Tgo [.aload_n 0, .iload_n 1, .iload_n 3] (pc' := 18) (L' := [some (.inr (11, 0)), some (.inl (.int x1)), some (.inl (.int x2)), some (.inl (.int x3))]) (st' := [.inl (.int x3), .inl (.int x1), .inr (11, 0)]) (S' := S5) ok_X11_foremost.1 (by decide +kernel) rfl rfl ?_
      obtain ⟨r13, S10, hq11, h⟩ := ax_bu_e h
      refine ax_TVi (d := 4) (ka := 11) (i := 0) [.inl (.int x1), .inl (.int x3)] [] lk_X11_394 (by decide +kernel) rfl (by decide) rfl (Nat.le_of_ble_eq_true rfl) (Nat.le_of_ble_eq_true rfl) ((t_X11_rank hq11).up (by decide)) ?_
      refine ax_Tgo [.aload_n 0, .iload_n 1, .iload_n 2] (pc' := 24) (L' := [some (.inr (11, 0)), some (.inl (.int x1)), some (.inl (.int x2)), some (.inl (.int x3))]) (st' := [.inl (.int x2), .inl (.int x1), .inr (11, 0), .inl (.int r13)]) (S' := S10) ok_X11_foremost.1 (by decide +kernel) rfl rfl ?_
      obtain ⟨r17, S14, hq15, h⟩ := ax_bu_e h
      refine ax_TVi (d := 4) (ka := 11) (i := 0) [.inl (.int x1), .inl (.int x2)] [.inl (.int r13)] lk_X11_394 (by decide +kernel) rfl (by decide) rfl (Nat.le_of_ble_eq_true rfl) (Nat.le_of_ble_eq_true rfl) ((t_X11_rank hq15).up (by decide)) ?_
      refine ax_Tic_le (off := 5) (tgt := 32) (by decide +kernel) (by decide) (fun c18 => ?_) (fun c18 => ?_)
      · rw [if_pos c18] at h
        refine ax_Tgo [.iinc 3 1] (pc' := 35) (L' := [some (.inr (11, 0)), some (.inl (.int x1)), some (.inl (.int x2)), some (.inl (.int (x3 + (1 : Int32))))]) (st' := []) (S' := S14) ok_X11_foremost.1 (by decide +kernel) rfl rfl ?_
        obtain ⟨v19, ev19, h⟩ := ax_let_e h
        rw [ev19]
        refine ax_Tgoto (off := (-31)) (tgt := 4) (by decide +kernel) (by decide) ?_
        exact ih x1 x2 v19 S14 _ _ h
      · rw [if_neg c18] at h
        refine ax_Tgo [.iload_n 3, .istore_n 2, .iinc 3 1] (pc' := 35) (L' := [some (.inr (11, 0)), some (.inl (.int x1)), some (.inl (.int x3)), some (.inl (.int (x3 + (1 : Int32))))]) (st' := []) (S' := S14) ok_X11_foremost.1 (by decide +kernel) rfl rfl ?_
        obtain ⟨v20, ev20, h⟩ := ax_let_e h
        rw [ev20]
        refine ax_Tgoto (off := (-31)) (tgt := 4) (by decide +kernel) (by decide) ?_
        exact ih x1 x3 v20 S14 _ _ h
set_option maxRecDepth 100000 in
theorem t_X11_foremost {l : Launch} {a1 : Int32} {S Z : AS} {r : Int32} (h : f_X11_foremost a1 S = some (r, Z)) : ax_M l 5 ma_X11_foremost [.inr (11, 0), .inl (.int a1)] S (some (.inl (.int r))) Z := by
  unfold f_X11_foremost at h
  show ax_T l 5 ma_X11_foremost (0, [some (.inr (11, 0)), some (.inl (.int a1)), none, none], [], S) (some (.inl (.int r))) Z
  refine ax_Tgo [.iconst 0, .istore_n 2, .iconst 1, .istore_n 3] (pc' := 4) (L' := [some (.inr (11, 0)), some (.inl (.int a1)), some (.inl (.int (0 : Int32))), some (.inl (.int (1 : Int32)))]) (st' := []) (S' := S) ok_X11_foremost.1 (by decide +kernel) rfl rfl ?_
  refine t_X11_foremost_L4 ?_ _ a1 (0 : Int32) (1 : Int32) S _ _ h
  · intro x4 S21 r Z h
    refine ax_Tgo [.iload_n 2] (pc' := 39) (L' := [none, none, some (.inl (.int x4)), none]) (st' := [.inl (.int x4)]) (S' := S21) ok_X11_foremost.1 (by decide +kernel) rfl rfl ?_
    cases h
    exact ax_Treti (by decide +kernel) rfl rfl
def f_X4_lodgers (i0 : Nat) (S : AS) : Option (Int32) := some (ax_fi S 4 i0 4)
set_option maxRecDepth 100000 in
theorem t_X4_lodgers {l : Launch} {i0 : Nat} {S : AS} {r : Int32} (h : f_X4_lodgers i0 S = some r) : ax_M l 0 ma_X4_lodgers [.inr (4, i0)] S (some (.inl (.int r))) S := by
  unfold f_X4_lodgers at h
  show ax_T l 0 ma_X4_lodgers (0, [some (.inr (4, i0))], [], S) (some (.inl (.int r))) S
  refine ax_Tgo [.aload_n 0, .getfield 25] (pc' := 4) (L' := [some (.inr (4, i0))]) (st' := [.inl (.int (ax_fi S 4 i0 4))]) (S' := S) ok_X4_lodgers.1 (by decide +kernel) rfl rfl ?_
  cases h
  exact ax_Treti (by decide +kernel) rfl rfl
def f_X11_keenest_L4 (S : AS) (K42 : Int32 → Option (Int32)) : Nat → Int32 → Int32 → Option (Int32)
  | 0, _, _ => none
  | n + 1, x1, x2 => (if (ax_fi S 4 (ax_fx S 11 0 14) 4) ≤ x2 then K42 x1 else (f_X4_wantsOf (ax_fx S 11 0 14) x2 S).bind (fun (r11 : Int32) => (f_X4_wantsOf (ax_fx S 11 0 14) x1 S).bind (fun (r15 : Int32) => (if r11 ≤ r15 then ax_let (x2 + (1 : Int32)) (fun (v17 : Int32) => f_X11_keenest_L4 S K42 n x1 v17) else ax_let (x2 + (1 : Int32)) (fun (v18 : Int32) => f_X11_keenest_L4 S K42 n x2 v18)))))
def f_X11_keenest (S : AS) : Option (Int32) := f_X11_keenest_L4 S (fun (x3 : Int32)  => some x3) ax_F (0 : Int32) (1 : Int32)
set_option maxRecDepth 100000 in
theorem t_X11_keenest_L4 {l : Launch} {S : AS} {K42 : Int32 → Option (Int32)} (hK42 : ∀ (x3 : Int32) r, K42 x3  = some r → ax_T l 2 ma_X11_keenest (42, [none, some (.inl (.int x3)), none], [], S) (some (.inl (.int r))) S) : ∀ (n : Nat) (x1 : Int32) (x2 : Int32) r, f_X11_keenest_L4 S K42 n x1 x2  = some r → ax_T l 2 ma_X11_keenest (4, [some (.inr (11, 0)), some (.inl (.int x1)), some (.inl (.int x2))], [], S) (some (.inl (.int r))) S := by
  intro n
  induction n with
  | zero =>
    intro x1 x2  r h
    cases h
  | succ n ih =>
    intro x1 x2  r h
    unfold f_X11_keenest_L4 at h
    refine ax_Tgo [.iload_n 2, .aload_n 0, .getfield 93] (pc' := 9) (L' := [some (.inr (11, 0)), some (.inl (.int x1)), some (.inl (.int x2))]) (st' := [.inr (4, (ax_fx S 11 0 14)), .inl (.int x2)]) (S' := S) ok_X11_keenest.1 (by decide +kernel) rfl rfl ?_
    refine ax_TVi (d := 1) (ka := 4) (i := (ax_fx S 11 0 14)) [] [.inl (.int x2)] lk_X11_397 (by decide +kernel) rfl (by decide) rfl (Nat.le_of_ble_eq_true rfl) (Nat.le_of_ble_eq_true rfl) ((t_X4_lodgers rfl).up (by decide)) ?_
    refine ax_Tic_ge (off := 30) (tgt := 42) (by decide +kernel) (by decide) (fun c7 => ?_) (fun c7 => ?_)
    · rw [if_pos c7] at h
      refine ax_Tdrop [false, true, false] (L' := [none, some (.inl (.int x1)), none]) rfl ?_
      exact hK42 x1 _ h
    · rw [if_neg c7] at h
      refine ax_Tgo [.aload_n 0, .getfield 93, .iload_n 2] (pc' := 20) (L' := [some (.inr (11, 0)), some (.inl (.int x1)), some (.inl (.int x2))]) (st' := [.inl (.int x2), .inr (4, (ax_fx S 11 0 14))]) (S' := S) ok_X11_keenest.1 (by decide +kernel) rfl rfl ?_
      obtain ⟨r11, hq9, h⟩ := ax_bd_e h
      refine ax_TVi (d := 1) (ka := 4) (i := (ax_fx S 11 0 14)) [.inl (.int x2)] [] lk_X11_174 (by decide +kernel) rfl (by decide) rfl (Nat.le_of_ble_eq_true rfl) (Nat.le_of_ble_eq_true rfl) ((t_X4_wantsOf hq9).up (by decide)) ?_
      refine ax_Tgo [.aload_n 0, .getfield 93, .iload_n 1] (pc' := 28) (L' := [some (.inr (11, 0)), some (.inl (.int x1)), some (.inl (.int x2))]) (st' := [.inl (.int x1), .inr (4, (ax_fx S 11 0 14)), .inl (.int r11)]) (S' := S) ok_X11_keenest.1 (by decide +kernel) rfl rfl ?_
      obtain ⟨r15, hq13, h⟩ := ax_bd_e h
      refine ax_TVi (d := 1) (ka := 4) (i := (ax_fx S 11 0 14)) [.inl (.int x1)] [.inl (.int r11)] lk_X11_174 (by decide +kernel) rfl (by decide) rfl (Nat.le_of_ble_eq_true rfl) (Nat.le_of_ble_eq_true rfl) ((t_X4_wantsOf hq13).up (by decide)) ?_
      refine ax_Tic_le (off := 5) (tgt := 36) (by decide +kernel) (by decide) (fun c16 => ?_) (fun c16 => ?_)
      · rw [if_pos c16] at h
        refine ax_Tgo [.iinc 2 1] (pc' := 39) (L' := [some (.inr (11, 0)), some (.inl (.int x1)), some (.inl (.int (x2 + (1 : Int32))))]) (st' := []) (S' := S) ok_X11_keenest.1 (by decide +kernel) rfl rfl ?_
        obtain ⟨v17, ev17, h⟩ := ax_let_e h
        rw [ev17]
        refine ax_Tgoto (off := (-35)) (tgt := 4) (by decide +kernel) (by decide) ?_
        exact ih x1 v17 _ h
      · rw [if_neg c16] at h
        refine ax_Tgo [.iload_n 2, .istore_n 1, .iinc 2 1] (pc' := 39) (L' := [some (.inr (11, 0)), some (.inl (.int x2)), some (.inl (.int (x2 + (1 : Int32))))]) (st' := []) (S' := S) ok_X11_keenest.1 (by decide +kernel) rfl rfl ?_
        obtain ⟨v18, ev18, h⟩ := ax_let_e h
        rw [ev18]
        refine ax_Tgoto (off := (-35)) (tgt := 4) (by decide +kernel) (by decide) ?_
        exact ih x2 v18 _ h
set_option maxRecDepth 100000 in
theorem t_X11_keenest {l : Launch} {S : AS} {r : Int32} (h : f_X11_keenest S = some r) : ax_M l 2 ma_X11_keenest [.inr (11, 0)] S (some (.inl (.int r))) S := by
  unfold f_X11_keenest at h
  show ax_T l 2 ma_X11_keenest (0, [some (.inr (11, 0)), none, none], [], S) (some (.inl (.int r))) S
  refine ax_Tgo [.iconst 0, .istore_n 1, .iconst 1, .istore_n 2] (pc' := 4) (L' := [some (.inr (11, 0)), some (.inl (.int (0 : Int32))), some (.inl (.int (1 : Int32)))]) (st' := []) (S' := S) ok_X11_keenest.1 (by decide +kernel) rfl rfl ?_
  refine t_X11_keenest_L4 ?_ _ (0 : Int32) (1 : Int32) _ h
  · intro x3  r h
    refine ax_Tgo [.iload_n 1] (pc' := 43) (L' := [none, some (.inl (.int x3)), none]) (st' := [.inl (.int x3)]) (S' := S) ok_X11_keenest.1 (by decide +kernel) rfl rfl ?_
    cases h
    exact ax_Treti (by decide +kernel) rfl rfl
def f_X11_dueCallers_L4 (K43 : Int32 → AS → Option (Int32 × AS)) : Nat → Int32 → Int32 → AS → Option (Int32 × AS)
  | 0, _, _, _ => none
  | n + 1, x1, x2, S4 => (if (ax_fi S4 4 (ax_fx S4 11 0 14) 5) ≤ x2 then K43 x1 S4 else ax_bu (f_X6_may 0 (0 : Int32) x2 S4) (fun (r12 : Int32) (S9 : AS) => (if r12 = (0 : Int32) then ax_let (x2 + (1 : Int32)) (fun (v14 : Int32) => f_X11_dueCallers_L4 K43 n x1 v14 S9) else ax_let (x1 ||| ((1 : Int32) <<< (x2 &&& 31))) (fun (v15 : Int32) => ax_let (x2 + (1 : Int32)) (fun (v16 : Int32) => f_X11_dueCallers_L4 K43 n v15 v16 S9)))))
def f_X11_dueCallers (S : AS) : Option (Int32 × AS) := f_X11_dueCallers_L4 (fun (x3 : Int32) (S17 : AS) => some (x3, S17)) ax_F (0 : Int32) (0 : Int32) S
set_option maxRecDepth 100000 in
theorem t_X11_dueCallers_L4 {l : Launch} {K43 : Int32 → AS → Option (Int32 × AS)} (hK43 : ∀ (x3 : Int32) (S : AS) r Z, K43 x3 S = some (r, Z) → ax_T l 6 ma_X11_dueCallers (43, [none, some (.inl (.int x3)), none], [], S) (some (.inl (.int r))) Z) : ∀ (n : Nat) (x1 : Int32) (x2 : Int32) (S4 : AS) r Z, f_X11_dueCallers_L4 K43 n x1 x2 S4 = some (r, Z) → ax_T l 6 ma_X11_dueCallers (4, [some (.inr (11, 0)), some (.inl (.int x1)), some (.inl (.int x2))], [], S4) (some (.inl (.int r))) Z := by
  intro n
  induction n with
  | zero =>
    intro x1 x2 S4 r Z h
    cases h
  | succ n ih =>
    intro x1 x2 S4 r Z h
    unfold f_X11_dueCallers_L4 at h
    refine ax_Tgo [.iload_n 2, .aload_n 0, .getfield 93] (pc' := 9) (L' := [some (.inr (11, 0)), some (.inl (.int x1)), some (.inl (.int x2))]) (st' := [.inr (4, (ax_fx S4 11 0 14)), .inl (.int x2)]) (S' := S4) ok_X11_dueCallers.1 (by decide +kernel) rfl rfl ?_
    refine ax_TVi (d := 5) (ka := 4) (i := (ax_fx S4 11 0 14)) [] [.inl (.int x2)] lk_X11_147 (by decide +kernel) rfl (by decide) rfl (Nat.le_of_ble_eq_true rfl) (Nat.le_of_ble_eq_true rfl) ((t_X4_callers rfl).up (by decide)) ?_
    refine ax_Tic_ge (off := 31) (tgt := 43) (by decide +kernel) (by decide) (fun c8 => ?_) (fun c8 => ?_)
    · rw [if_pos c8] at h
      refine ax_Tdrop [false, true, false] (L' := [none, some (.inl (.int x1)), none]) rfl ?_
      exact hK43 x1 S4 _ _ h
    · rw [if_neg c8] at h
      refine ax_Tgo [.aload_n 0, .getfield 31, .aload_n 0, .getfield 69, .iconst 0, .iload_n 2] (pc' := 25) (L' := [some (.inr (11, 0)), some (.inl (.int x1)), some (.inl (.int x2))]) (st' := [.inl (.int x2), .inl (.int (0 : Int32)), .inr (9, 0), .inr (6, 0)]) (S' := S4) ok_X11_dueCallers.1 (by decide +kernel) rfl rfl ?_
      obtain ⟨r12, S9, hq10, h⟩ := ax_bu_e h
      refine ax_TVi (d := 5) (ka := 6) (i := 0) [.inr (9, 0), .inl (.int (0 : Int32)), .inl (.int x2)] [] lk_X11_237 (by decide +kernel) rfl (by decide) rfl (Nat.le_of_ble_eq_true rfl) (Nat.le_of_ble_eq_true rfl) ((t_X6_may hq10).up (by decide)) ?_
      refine ax_Tif_eq (off := 9) (tgt := 37) (by decide +kernel) (by decide) (fun c13 => ?_) (fun c13 => ?_)
      · rw [if_pos c13] at h
        refine ax_Tgo [.iinc 2 1] (pc' := 40) (L' := [some (.inr (11, 0)), some (.inl (.int x1)), some (.inl (.int (x2 + (1 : Int32))))]) (st' := []) (S' := S9) ok_X11_dueCallers.1 (by decide +kernel) rfl rfl ?_
        obtain ⟨v14, ev14, h⟩ := ax_let_e h
        rw [ev14]
        refine ax_Tgoto (off := (-36)) (tgt := 4) (by decide +kernel) (by decide) ?_
        exact ih x1 v14 S9 _ _ h
      · rw [if_neg c13] at h
        refine ax_Tgo [.iload_n 1, .iconst 1, .iload_n 2, .ishl, .ior, .istore_n 1] (pc' := 37) (L' := [some (.inr (11, 0)), some (.inl (.int (x1 ||| ((1 : Int32) <<< (x2 &&& 31))))), some (.inl (.int x2))]) (st' := []) (S' := S9) ok_X11_dueCallers.1 (by decide +kernel) rfl rfl ?_
        obtain ⟨v15, ev15, h⟩ := ax_let_e h
        rw [ev15]
        refine ax_Tgo [.iinc 2 1] (pc' := 40) (L' := [some (.inr (11, 0)), some (.inl (.int v15)), some (.inl (.int (x2 + (1 : Int32))))]) (st' := []) (S' := S9) ok_X11_dueCallers.1 (by decide +kernel) rfl rfl ?_
        obtain ⟨v16, ev16, h⟩ := ax_let_e h
        rw [ev16]
        refine ax_Tgoto (off := (-36)) (tgt := 4) (by decide +kernel) (by decide) ?_
        exact ih v15 v16 S9 _ _ h
set_option maxRecDepth 100000 in
theorem t_X11_dueCallers {l : Launch} {S Z : AS} {r : Int32} (h : f_X11_dueCallers S = some (r, Z)) : ax_M l 6 ma_X11_dueCallers [.inr (11, 0)] S (some (.inl (.int r))) Z := by
  unfold f_X11_dueCallers at h
  show ax_T l 6 ma_X11_dueCallers (0, [some (.inr (11, 0)), none, none], [], S) (some (.inl (.int r))) Z
  refine ax_Tgo [.iconst 0, .istore_n 1, .iconst 0, .istore_n 2] (pc' := 4) (L' := [some (.inr (11, 0)), some (.inl (.int (0 : Int32))), some (.inl (.int (0 : Int32)))]) (st' := []) (S' := S) ok_X11_dueCallers.1 (by decide +kernel) rfl rfl ?_
  refine t_X11_dueCallers_L4 ?_ _ (0 : Int32) (0 : Int32) S _ _ h
  · intro x3 S17 r Z h
    refine ax_Tgo [.iload_n 1] (pc' := 44) (L' := [none, some (.inl (.int x3)), none]) (st' := [.inl (.int x3)]) (S' := S17) ok_X11_dueCallers.1 (by decide +kernel) rfl rfl ?_
    cases h
    exact ax_Treti (by decide +kernel) rfl rfl
def f_X11_readyCallers_L4 (K50 : Int32 → AS → Option (Int32 × AS)) : Nat → Int32 → Int32 → AS → Option (Int32 × AS)
  | 0, _, _, _ => none
  | n + 1, x1, x2, S4 => (if (ax_fi S4 4 (ax_fx S4 11 0 14) 5) ≤ x2 then K50 x1 S4 else ax_bu (f_X6_beatsNow 0 x2 S4) (fun (r12 : Int32) (S9 : AS) => (f_X6_doneBy x2 r12 S9).bind (fun (r16 : Int32) => (if r16 = (0 : Int32) then ax_let (x2 + (1 : Int32)) (fun (v18 : Int32) => f_X11_readyCallers_L4 K50 n x1 v18 S9) else ax_let (x1 ||| ((1 : Int32) <<< (x2 &&& 31))) (fun (v19 : Int32) => ax_let (x2 + (1 : Int32)) (fun (v20 : Int32) => f_X11_readyCallers_L4 K50 n v19 v20 S9))))))
def f_X11_readyCallers (S : AS) : Option (Int32 × AS) := f_X11_readyCallers_L4 (fun (x3 : Int32) (S21 : AS) => some (x3, S21)) ax_F (0 : Int32) (0 : Int32) S
set_option maxRecDepth 100000 in
theorem t_X11_readyCallers_L4 {l : Launch} {K50 : Int32 → AS → Option (Int32 × AS)} (hK50 : ∀ (x3 : Int32) (S : AS) r Z, K50 x3 S = some (r, Z) → ax_T l 4 ma_X11_readyCallers (50, [none, some (.inl (.int x3)), none], [], S) (some (.inl (.int r))) Z) : ∀ (n : Nat) (x1 : Int32) (x2 : Int32) (S4 : AS) r Z, f_X11_readyCallers_L4 K50 n x1 x2 S4 = some (r, Z) → ax_T l 4 ma_X11_readyCallers (4, [some (.inr (11, 0)), some (.inl (.int x1)), some (.inl (.int x2))], [], S4) (some (.inl (.int r))) Z := by
  intro n
  induction n with
  | zero =>
    intro x1 x2 S4 r Z h
    cases h
  | succ n ih =>
    intro x1 x2 S4 r Z h
    unfold f_X11_readyCallers_L4 at h
    refine ax_Tgo [.iload_n 2, .aload_n 0, .getfield 93] (pc' := 9) (L' := [some (.inr (11, 0)), some (.inl (.int x1)), some (.inl (.int x2))]) (st' := [.inr (4, (ax_fx S4 11 0 14)), .inl (.int x2)]) (S' := S4) ok_X11_readyCallers.1 (by decide +kernel) rfl rfl ?_
    refine ax_TVi (d := 3) (ka := 4) (i := (ax_fx S4 11 0 14)) [] [.inl (.int x2)] lk_X11_147 (by decide +kernel) rfl (by decide) rfl (Nat.le_of_ble_eq_true rfl) (Nat.le_of_ble_eq_true rfl) ((t_X4_callers rfl).up (by decide)) ?_
    refine ax_Tic_ge (off := 38) (tgt := 50) (by decide +kernel) (by decide) (fun c8 => ?_) (fun c8 => ?_)
    · rw [if_pos c8] at h
      refine ax_Tdrop [false, true, false] (L' := [none, some (.inl (.int x1)), none]) rfl ?_
      exact hK50 x1 S4 _ _ h
    · rw [if_neg c8] at h
      refine ax_Tgo [.aload_n 0, .getfield 31, .iload_n 2, .aload_n 0, .getfield 31, .aload_n 0, .getfield 69, .iload_n 2] (pc' := 29) (L' := [some (.inr (11, 0)), some (.inl (.int x1)), some (.inl (.int x2))]) (st' := [.inl (.int x2), .inr (9, 0), .inr (6, 0), .inl (.int x2), .inr (6, 0)]) (S' := S4) ok_X11_readyCallers.1 (by decide +kernel) rfl rfl ?_
      obtain ⟨r12, S9, hq10, h⟩ := ax_bu_e h
      refine ax_TVi (d := 3) (ka := 6) (i := 0) [.inr (9, 0), .inl (.int x2)] [.inl (.int x2), .inr (6, 0)] lk_X11_284 (by decide +kernel) rfl (by decide) rfl (Nat.le_of_ble_eq_true rfl) (Nat.le_of_ble_eq_true rfl) ((t_X6_beatsNow hq10).up (by decide)) ?_
      obtain ⟨r16, hq14, h⟩ := ax_bd_e h
      refine ax_TVi (d := 3) (ka := 6) (i := 0) [.inl (.int x2), .inl (.int r12)] [] lk_X11_288 (by decide +kernel) rfl (by decide) rfl (Nat.le_of_ble_eq_true rfl) (Nat.le_of_ble_eq_true rfl) ((t_X6_doneBy hq14).up (by decide)) ?_
      refine ax_Tif_eq (off := 9) (tgt := 44) (by decide +kernel) (by decide) (fun c17 => ?_) (fun c17 => ?_)
      · rw [if_pos c17] at h
        refine ax_Tgo [.iinc 2 1] (pc' := 47) (L' := [some (.inr (11, 0)), some (.inl (.int x1)), some (.inl (.int (x2 + (1 : Int32))))]) (st' := []) (S' := S9) ok_X11_readyCallers.1 (by decide +kernel) rfl rfl ?_
        obtain ⟨v18, ev18, h⟩ := ax_let_e h
        rw [ev18]
        refine ax_Tgoto (off := (-43)) (tgt := 4) (by decide +kernel) (by decide) ?_
        exact ih x1 v18 S9 _ _ h
      · rw [if_neg c17] at h
        refine ax_Tgo [.iload_n 1, .iconst 1, .iload_n 2, .ishl, .ior, .istore_n 1] (pc' := 44) (L' := [some (.inr (11, 0)), some (.inl (.int (x1 ||| ((1 : Int32) <<< (x2 &&& 31))))), some (.inl (.int x2))]) (st' := []) (S' := S9) ok_X11_readyCallers.1 (by decide +kernel) rfl rfl ?_
        obtain ⟨v19, ev19, h⟩ := ax_let_e h
        rw [ev19]
        refine ax_Tgo [.iinc 2 1] (pc' := 47) (L' := [some (.inr (11, 0)), some (.inl (.int v19)), some (.inl (.int (x2 + (1 : Int32))))]) (st' := []) (S' := S9) ok_X11_readyCallers.1 (by decide +kernel) rfl rfl ?_
        obtain ⟨v20, ev20, h⟩ := ax_let_e h
        rw [ev20]
        refine ax_Tgoto (off := (-43)) (tgt := 4) (by decide +kernel) (by decide) ?_
        exact ih v19 v20 S9 _ _ h
set_option maxRecDepth 100000 in
theorem t_X11_readyCallers {l : Launch} {S Z : AS} {r : Int32} (h : f_X11_readyCallers S = some (r, Z)) : ax_M l 4 ma_X11_readyCallers [.inr (11, 0)] S (some (.inl (.int r))) Z := by
  unfold f_X11_readyCallers at h
  show ax_T l 4 ma_X11_readyCallers (0, [some (.inr (11, 0)), none, none], [], S) (some (.inl (.int r))) Z
  refine ax_Tgo [.iconst 0, .istore_n 1, .iconst 0, .istore_n 2] (pc' := 4) (L' := [some (.inr (11, 0)), some (.inl (.int (0 : Int32))), some (.inl (.int (0 : Int32)))]) (st' := []) (S' := S) ok_X11_readyCallers.1 (by decide +kernel) rfl rfl ?_
  refine t_X11_readyCallers_L4 ?_ _ (0 : Int32) (0 : Int32) S _ _ h
  · intro x3 S21 r Z h
    refine ax_Tgo [.iload_n 1] (pc' := 51) (L' := [none, some (.inl (.int x3)), none]) (st' := [.inl (.int x3)]) (S' := S21) ok_X11_readyCallers.1 (by decide +kernel) rfl rfl ?_
    cases h
    exact ax_Treti (by decide +kernel) rfl rfl
def f_X6_beatsTired (i1 : Nat) (a2 : Int32) (a3 : Int32) (a4 : Int32) (S : AS) : Option (Int32 × AS) := (f_X6_hardsOf a2 S).bind (fun (r4 : Int32) => ax_bu (f_X6_beats a2 r4 a3 a4 (ax_fi S 9 i1 4) (ax_fi S 9 i1 7) S) (fun (r8 : Int32) (S5 : AS) => some (r8, S5)))
set_option maxRecDepth 100000 in
theorem t_X6_beatsTired {l : Launch} {i1 : Nat} {a2 : Int32} {a3 : Int32} {a4 : Int32} {S Z : AS} {r : Int32} (h : f_X6_beatsTired i1 a2 a3 a4 S = some (r, Z)) : ax_M l 3 ma_X6_beatsTired [.inr (6, 0), .inr (9, i1), .inl (.int a2), .inl (.int a3), .inl (.int a4)] S (some (.inl (.int r))) Z := by
  unfold f_X6_beatsTired at h
  show ax_T l 3 ma_X6_beatsTired (0, [some (.inr (6, 0)), some (.inr (9, i1)), some (.inl (.int a2)), some (.inl (.int a3)), some (.inl (.int a4))], [], S) (some (.inl (.int r))) Z
  refine ax_Tgo [.aload_n 0, .iload_n 2, .aload_n 0, .iload_n 2] (pc' := 4) (L' := [some (.inr (6, 0)), some (.inr (9, i1)), some (.inl (.int a2)), some (.inl (.int a3)), some (.inl (.int a4))]) (st' := [.inl (.int a2), .inr (6, 0), .inl (.int a2), .inr (6, 0)]) (S' := S) ok_X6_beatsTired.1 (by decide +kernel) rfl rfl ?_
  obtain ⟨r4, hq2, h⟩ := ax_bd_e h
  refine ax_TVi (d := 2) (ka := 6) (i := 0) [.inl (.int a2)] [.inl (.int a2), .inr (6, 0)] lk_X6_23 (by decide +kernel) rfl (by decide) rfl (Nat.le_of_ble_eq_true rfl) (Nat.le_of_ble_eq_true rfl) ((t_X6_hardsOf hq2).up (by decide)) ?_
  refine ax_Tgo [.iload_n 3, .iload 4, .aload_n 1, .getfield 36, .aload_n 1, .getfield 39] (pc' := 18) (L' := [some (.inr (6, 0)), some (.inr (9, i1)), some (.inl (.int a2)), some (.inl (.int a3)), some (.inl (.int a4))]) (st' := [.inl (.int (ax_fi S 9 i1 7)), .inl (.int (ax_fi S 9 i1 4)), .inl (.int a4), .inl (.int a3), .inl (.int r4), .inl (.int a2), .inr (6, 0)]) (S' := S) ok_X6_beatsTired.1 (by decide +kernel) rfl rfl ?_
  obtain ⟨r8, S5, hq6, h⟩ := ax_bu_e h
  refine ax_TVi (d := 2) (ka := 6) (i := 0) [.inl (.int a2), .inl (.int r4), .inl (.int a3), .inl (.int a4), .inl (.int (ax_fi S 9 i1 4)), .inl (.int (ax_fi S 9 i1 7))] [] lk_X6_42 (by decide +kernel) rfl (by decide) rfl (Nat.le_of_ble_eq_true rfl) (Nat.le_of_ble_eq_true rfl) ((t_X6_beats hq6).up (by decide)) ?_
  cases h
  exact ax_Treti (by decide +kernel) rfl rfl
def f_X11_beatsOfAll_L4 (K53 : Int32 → AS → Option (Int32 × AS)) : Nat → Int32 → Int32 → AS → Option (Int32 × AS)
  | 0, _, _, _ => none
  | n + 1, x1, x2, S4 => (if (ax_fi S4 4 (ax_fx S4 11 0 14) 5) ≤ x2 then K53 x1 S4 else (f_X9_titlesOf 0 x2 S4).bind (fun (r12 : Int32) => ax_bu (f_X6_beatsTired 0 x2 r12 ((ax_fi S4 9 0 3) + x2) S4) (fun (r16 : Int32) (S13 : AS) => ax_let (x1 + r16) (fun (v17 : Int32) => ax_let (x2 + (1 : Int32)) (fun (v18 : Int32) => f_X11_beatsOfAll_L4 K53 n v17 v18 S13)))))
def f_X11_beatsOfAll (S : AS) : Option (Int32 × AS) := f_X11_beatsOfAll_L4 (fun (x3 : Int32) (S19 : AS) => some (x3, S19)) ax_F (0 : Int32) (0 : Int32) S
set_option maxRecDepth 100000 in
theorem t_X11_beatsOfAll_L4 {l : Launch} {K53 : Int32 → AS → Option (Int32 × AS)} (hK53 : ∀ (x3 : Int32) (S : AS) r Z, K53 x3 S = some (r, Z) → ax_T l 4 ma_X11_beatsOfAll (53, [none, some (.inl (.int x3)), none], [], S) (some (.inl (.int r))) Z) : ∀ (n : Nat) (x1 : Int32) (x2 : Int32) (S4 : AS) r Z, f_X11_beatsOfAll_L4 K53 n x1 x2 S4 = some (r, Z) → ax_T l 4 ma_X11_beatsOfAll (4, [some (.inr (11, 0)), some (.inl (.int x1)), some (.inl (.int x2))], [], S4) (some (.inl (.int r))) Z := by
  intro n
  induction n with
  | zero =>
    intro x1 x2 S4 r Z h
    cases h
  | succ n ih =>
    intro x1 x2 S4 r Z h
    unfold f_X11_beatsOfAll_L4 at h
    refine ax_Tgo [.iload_n 2, .aload_n 0, .getfield 93] (pc' := 9) (L' := [some (.inr (11, 0)), some (.inl (.int x1)), some (.inl (.int x2))]) (st' := [.inr (4, (ax_fx S4 11 0 14)), .inl (.int x2)]) (S' := S4) ok_X11_beatsOfAll.1 (by decide +kernel) rfl rfl ?_
    refine ax_TVi (d := 3) (ka := 4) (i := (ax_fx S4 11 0 14)) [] [.inl (.int x2)] lk_X11_147 (by decide +kernel) rfl (by decide) rfl (Nat.le_of_ble_eq_true rfl) (Nat.le_of_ble_eq_true rfl) ((t_X4_callers rfl).up (by decide)) ?_
    refine ax_Tic_ge (off := 41) (tgt := 53) (by decide +kernel) (by decide) (fun c8 => ?_) (fun c8 => ?_)
    · rw [if_pos c8] at h
      refine ax_Tdrop [false, true, false] (L' := [none, some (.inl (.int x1)), none]) rfl ?_
      exact hK53 x1 S4 _ _ h
    · rw [if_neg c8] at h
      refine ax_Tgo [.iload_n 1, .aload_n 0, .getfield 31, .aload_n 0, .getfield 69, .iload_n 2, .aload_n 0, .getfield 69, .iload_n 2] (pc' := 30) (L' := [some (.inr (11, 0)), some (.inl (.int x1)), some (.inl (.int x2))]) (st' := [.inl (.int x2), .inr (9, 0), .inl (.int x2), .inr (9, 0), .inr (6, 0), .inl (.int x1)]) (S' := S4) ok_X11_beatsOfAll.1 (by decide +kernel) rfl rfl ?_
      obtain ⟨r12, hq10, h⟩ := ax_bd_e h
      refine ax_TVi (d := 3) (ka := 9) (i := 0) [.inl (.int x2)] [.inl (.int x2), .inr (9, 0), .inr (6, 0), .inl (.int x1)] lk_X11_189 (by decide +kernel) rfl (by decide) rfl (Nat.le_of_ble_eq_true rfl) (Nat.le_of_ble_eq_true rfl) ((t_X9_titlesOf hq10).up (by decide)) ?_
      refine ax_Tgo [.aload_n 0, .getfield 69, .getfield 216, .iload_n 2, .iadd] (pc' := 42) (L' := [some (.inr (11, 0)), some (.inl (.int x1)), some (.inl (.int x2))]) (st' := [.inl (.int ((ax_fi S4 9 0 3) + x2)), .inl (.int r12), .inl (.int x2), .inr (9, 0), .inr (6, 0), .inl (.int x1)]) (S' := S4) ok_X11_beatsOfAll.1 (by decide +kernel) rfl rfl ?_
      obtain ⟨r16, S13, hq14, h⟩ := ax_bu_e h
      refine ax_TVi (d := 3) (ka := 6) (i := 0) [.inr (9, 0), .inl (.int x2), .inl (.int r12), .inl (.int ((ax_fi S4 9 0 3) + x2))] [.inl (.int x1)] lk_X11_361 (by decide +kernel) rfl (by decide) rfl (Nat.le_of_ble_eq_true rfl) (Nat.le_of_ble_eq_true rfl) ((t_X6_beatsTired hq14).up (by decide)) ?_
      refine ax_Tgo [.iadd, .istore_n 1] (pc' := 47) (L' := [some (.inr (11, 0)), some (.inl (.int (x1 + r16))), some (.inl (.int x2))]) (st' := []) (S' := S13) ok_X11_beatsOfAll.1 (by decide +kernel) rfl rfl ?_
      obtain ⟨v17, ev17, h⟩ := ax_let_e h
      rw [ev17]
      refine ax_Tgo [.iinc 2 1] (pc' := 50) (L' := [some (.inr (11, 0)), some (.inl (.int v17)), some (.inl (.int (x2 + (1 : Int32))))]) (st' := []) (S' := S13) ok_X11_beatsOfAll.1 (by decide +kernel) rfl rfl ?_
      obtain ⟨v18, ev18, h⟩ := ax_let_e h
      rw [ev18]
      refine ax_Tgoto (off := (-46)) (tgt := 4) (by decide +kernel) (by decide) ?_
      exact ih v17 v18 S13 _ _ h
set_option maxRecDepth 100000 in
theorem t_X11_beatsOfAll {l : Launch} {S Z : AS} {r : Int32} (h : f_X11_beatsOfAll S = some (r, Z)) : ax_M l 4 ma_X11_beatsOfAll [.inr (11, 0)] S (some (.inl (.int r))) Z := by
  unfold f_X11_beatsOfAll at h
  show ax_T l 4 ma_X11_beatsOfAll (0, [some (.inr (11, 0)), none, none], [], S) (some (.inl (.int r))) Z
  refine ax_Tgo [.iconst 0, .istore_n 1, .iconst 0, .istore_n 2] (pc' := 4) (L' := [some (.inr (11, 0)), some (.inl (.int (0 : Int32))), some (.inl (.int (0 : Int32)))]) (st' := []) (S' := S) ok_X11_beatsOfAll.1 (by decide +kernel) rfl rfl ?_
  refine t_X11_beatsOfAll_L4 ?_ _ (0 : Int32) (0 : Int32) S _ _ h
  · intro x3 S19 r Z h
    refine ax_Tgo [.iload_n 1] (pc' := 54) (L' := [none, some (.inl (.int x3)), none]) (st' := [.inl (.int x3)]) (S' := S19) ok_X11_beatsOfAll.1 (by decide +kernel) rfl rfl ?_
    cases h
    exact ax_Treti (by decide +kernel) rfl rfl

/-! STEPS: stack, locals, arithmetic -/
theorem ax_Rp {l : Launch} {d : Nat} {k : AM} {pc pc' : Nat} {L : AL} {S : AS} {st st' : List AV} (hv : ax_vL L → ax_vs st → ax_vs st')
    (hw : ∀ (p : Program) (e : Env) (R : Room) (s : State) (m : MethodId) (args : Array Value) (below : List Frame) (meth : Method) (c : Code) (cells slots : Nat) (Q : State → Prop) (ad : Nat → Nat → Nat) (ov : Value) (H : Heap) (locs : List Loc) (ls : Array Slot),
      p.tables.exec = Jvm.exec → c.code = k.2.2.1 → lv_has ls k.2.2.2.1 (ax_la ad ov L) → (ov = .null ∨ ∃ t, ov = .ref t) → W p l e R s m args below meth c H locs cells slots Q (F0 m pc' ls (st'.map (ax_cv ad ov))) → W p l e R s m args below meth c H locs cells slots Q (F0 m pc ls (st.map (ax_cv ad ov)))) :
    ax_R l d k (pc, L, st, S) (pc', L, st', S) := by
  intro p e R s m args below meth c cells slots Q A ad ov dC dI cy Ln xs hx _ _ h H locs ls hi
  obtain ⟨⟨v1, v2, v3⟩, w, ⟨l1, l2⟩, sc⟩ := hi
  exact hw p e R s m args below meth c cells slots Q ad ov H locs ls hx.1 hx.2.1 l1 hx.2.2.2.2.2.2.2.2.2.2 (h H locs ls ⟨⟨v1, hv v1 v2, v3⟩, w, ⟨l1, l2⟩, sc⟩)
theorem ax_i2_v {f : Int32 → Int32 → Int32} {L L' : AL} {st st' : List AV} {S S' : AS} (h : ax_i2 f L st S = some (L', st', S')) : ∃ x y r, st = .inl (.int y) :: .inl (.int x) :: r ∧ L' = L ∧ st' = .inl (.int (f x y)) :: r ∧ S' = S := by
  unfold ax_i2 at h
  split at h
  · cases h
    exact ⟨_, _, _, rfl, rfl, rfl, rfl⟩
  · cases h
theorem ax_i1_v {f : Int32 → Int32} {L L' : AL} {st st' : List AV} {S S' : AS} (h : ax_i1 f L st S = some (L', st', S')) : ∃ x r, st = .inl (.int x) :: r ∧ L' = L ∧ st' = .inl (.int (f x)) :: r ∧ S' = S := by
  unfold ax_i1 at h
  split at h
  · cases h
    exact ⟨_, _, rfl, rfl, rfl, rfl⟩
  · cases h
theorem ax_l2_v {f : Int64 → Int64 → Int64} {L L' : AL} {st st' : List AV} {S S' : AS} (h : ax_l2 f L st S = some (L', st', S')) : ∃ x y r, st = .inl (.long y) :: .inl (.long x) :: r ∧ L' = L ∧ st' = .inl (.long (f x y)) :: r ∧ S' = S := by
  unfold ax_l2 at h
  split at h
  · cases h
    exact ⟨_, _, _, rfl, rfl, rfl, rfl⟩
  · cases h
theorem ax_ls_v {f : Int64 → Int32 → Int64} {L L' : AL} {st st' : List AV} {S S' : AS} (h : ax_ls f L st S = some (L', st', S')) : ∃ x y r, st = .inl (.int y) :: .inl (.long x) :: r ∧ L' = L ∧ st' = .inl (.long (f x y)) :: r ∧ S' = S := by
  unfold ax_ls at h
  split at h
  · cases h
    exact ⟨_, _, _, rfl, rfl, rfl, rfl⟩
  · cases h
theorem ax_div_v {f : Int32 → Int32 → Int32} {L L' : AL} {st st' : List AV} {S S' : AS} (h : ax_div f L st S = some (L', st', S')) : ∃ x y r, ¬ y = 0 ∧ st = .inl (.int y) :: .inl (.int x) :: r ∧ L' = L ∧ st' = .inl (.int (f x y)) :: r ∧ S' = S := by
  unfold ax_div at h
  split at h
  · split at h
    · cases h
    · next hn =>
      cases h
      exact ⟨_, _, _, hn, rfl, rfl, rfl, rfl⟩
  · cases h
theorem ax_ldv_v {f : Int64 → Int64 → Int64} {L L' : AL} {st st' : List AV} {S S' : AS} (h : ax_ldv f L st S = some (L', st', S')) : ∃ x y r, ¬ y = 0 ∧ st = .inl (.long y) :: .inl (.long x) :: r ∧ L' = L ∧ st' = .inl (.long (f x y)) :: r ∧ S' = S := by
  unfold ax_ldv at h
  split at h
  · split at h
    · cases h
    · next hn =>
      cases h
      exact ⟨_, _, _, hn, rfl, rfl, rfl, rfl⟩
  · cases h
theorem ax_s_iadd {l : Launch} {d : Nat} {k : AM} {pc : Nat} {L L' : AL} {st st' : List AV} {S S' : AS} (hd : decode k.2.2.1 pc = .ok (.iadd, 1)) (h : ax_i2 (fun x y => x + y) L st S = some (L', st', S')) : ax_R l d k (pc, L, st, S) (pc + 1, L', st', S') := by
  obtain ⟨x, y, r, rfl, rfl, rfl, rfl⟩ := ax_i2_v h
  exact ax_Rp (fun _ h => ax_vs_c (ax_vv_i _) (ax_vs_t (ax_vs_t h))) (fun p e R s m args below meth c cells slots Q ad ov H locs ls hx hb hl hov kk => lv_iadd hx hb hd kk)
theorem ax_s_isub {l : Launch} {d : Nat} {k : AM} {pc : Nat} {L L' : AL} {st st' : List AV} {S S' : AS} (hd : decode k.2.2.1 pc = .ok (.isub, 1)) (h : ax_i2 (fun x y => x - y) L st S = some (L', st', S')) : ax_R l d k (pc, L, st, S) (pc + 1, L', st', S') := by
  obtain ⟨x, y, r, rfl, rfl, rfl, rfl⟩ := ax_i2_v h
  exact ax_Rp (fun _ h => ax_vs_c (ax_vv_i _) (ax_vs_t (ax_vs_t h))) (fun p e R s m args below meth c cells slots Q ad ov H locs ls hx hb hl hov kk => lv_isub hx hb hd kk)
theorem ax_s_imul {l : Launch} {d : Nat} {k : AM} {pc : Nat} {L L' : AL} {st st' : List AV} {S S' : AS} (hd : decode k.2.2.1 pc = .ok (.imul, 1)) (h : ax_i2 (fun x y => x * y) L st S = some (L', st', S')) : ax_R l d k (pc, L, st, S) (pc + 1, L', st', S') := by
  obtain ⟨x, y, r, rfl, rfl, rfl, rfl⟩ := ax_i2_v h
  exact ax_Rp (fun _ h => ax_vs_c (ax_vv_i _) (ax_vs_t (ax_vs_t h))) (fun p e R s m args below meth c cells slots Q ad ov H locs ls hx hb hl hov kk => lv_imul hx hb hd kk)
theorem ax_s_iand {l : Launch} {d : Nat} {k : AM} {pc : Nat} {L L' : AL} {st st' : List AV} {S S' : AS} (hd : decode k.2.2.1 pc = .ok (.iand, 1)) (h : ax_i2 (fun x y => x &&& y) L st S = some (L', st', S')) : ax_R l d k (pc, L, st, S) (pc + 1, L', st', S') := by
  obtain ⟨x, y, r, rfl, rfl, rfl, rfl⟩ := ax_i2_v h
  exact ax_Rp (fun _ h => ax_vs_c (ax_vv_i _) (ax_vs_t (ax_vs_t h))) (fun p e R s m args below meth c cells slots Q ad ov H locs ls hx hb hl hov kk => lv_iand hx hb hd kk)
theorem ax_s_ior {l : Launch} {d : Nat} {k : AM} {pc : Nat} {L L' : AL} {st st' : List AV} {S S' : AS} (hd : decode k.2.2.1 pc = .ok (.ior, 1)) (h : ax_i2 (fun x y => x ||| y) L st S = some (L', st', S')) : ax_R l d k (pc, L, st, S) (pc + 1, L', st', S') := by
  obtain ⟨x, y, r, rfl, rfl, rfl, rfl⟩ := ax_i2_v h
  exact ax_Rp (fun _ h => ax_vs_c (ax_vv_i _) (ax_vs_t (ax_vs_t h))) (fun p e R s m args below meth c cells slots Q ad ov H locs ls hx hb hl hov kk => lv_ior hx hb hd kk)
theorem ax_s_ixor {l : Launch} {d : Nat} {k : AM} {pc : Nat} {L L' : AL} {st st' : List AV} {S S' : AS} (hd : decode k.2.2.1 pc = .ok (.ixor, 1)) (h : ax_i2 (fun x y => x ^^^ y) L st S = some (L', st', S')) : ax_R l d k (pc, L, st, S) (pc + 1, L', st', S') := by
  obtain ⟨x, y, r, rfl, rfl, rfl, rfl⟩ := ax_i2_v h
  exact ax_Rp (fun _ h => ax_vs_c (ax_vv_i _) (ax_vs_t (ax_vs_t h))) (fun p e R s m args below meth c cells slots Q ad ov H locs ls hx hb hl hov kk => lv_ixor hx hb hd kk)
theorem ax_s_ishl {l : Launch} {d : Nat} {k : AM} {pc : Nat} {L L' : AL} {st st' : List AV} {S S' : AS} (hd : decode k.2.2.1 pc = .ok (.ishl, 1)) (h : ax_i2 (fun x y => x <<< (y &&& 31)) L st S = some (L', st', S')) : ax_R l d k (pc, L, st, S) (pc + 1, L', st', S') := by
  obtain ⟨x, y, r, rfl, rfl, rfl, rfl⟩ := ax_i2_v h
  exact ax_Rp (fun _ h => ax_vs_c (ax_vv_i _) (ax_vs_t (ax_vs_t h))) (fun p e R s m args below meth c cells slots Q ad ov H locs ls hx hb hl hov kk => lv_ishl hx hb hd kk)
theorem ax_s_ishr {l : Launch} {d : Nat} {k : AM} {pc : Nat} {L L' : AL} {st st' : List AV} {S S' : AS} (hd : decode k.2.2.1 pc = .ok (.ishr, 1)) (h : ax_i2 (fun x y => x >>> (y &&& 31)) L st S = some (L', st', S')) : ax_R l d k (pc, L, st, S) (pc + 1, L', st', S') := by
  obtain ⟨x, y, r, rfl, rfl, rfl, rfl⟩ := ax_i2_v h
  exact ax_Rp (fun _ h => ax_vs_c (ax_vv_i _) (ax_vs_t (ax_vs_t h))) (fun p e R s m args below meth c cells slots Q ad ov H locs ls hx hb hl hov kk => lv_ishr hx hb hd kk)
theorem ax_s_iushr {l : Launch} {d : Nat} {k : AM} {pc : Nat} {L L' : AL} {st st' : List AV} {S S' : AS} (hd : decode k.2.2.1 pc = .ok (.iushr, 1)) (h : ax_i2 (fun x y => (x.toUInt32 >>> (y.toUInt32 &&& Int32.toUInt32 31)).toInt32) L st S = some (L', st', S')) : ax_R l d k (pc, L, st, S) (pc + 1, L', st', S') := by
  obtain ⟨x, y, r, rfl, rfl, rfl, rfl⟩ := ax_i2_v h
  exact ax_Rp (fun _ h => ax_vs_c (ax_vv_i _) (ax_vs_t (ax_vs_t h))) (fun p e R s m args below meth c cells slots Q ad ov H locs ls hx hb hl hov kk => lv_iushr hx hb hd rfl kk)
theorem ax_s_idiv {l : Launch} {d : Nat} {k : AM} {pc : Nat} {L L' : AL} {st st' : List AV} {S S' : AS} (hd : decode k.2.2.1 pc = .ok (.idiv, 1)) (h : ax_div (fun x y => x / y) L st S = some (L', st', S')) : ax_R l d k (pc, L, st, S) (pc + 1, L', st', S') := by
  obtain ⟨x, y, r, hn, rfl, rfl, rfl, rfl⟩ := ax_div_v h
  exact ax_Rp (fun _ h => ax_vs_c (ax_vv_i _) (ax_vs_t (ax_vs_t h))) (fun p e R s m args below meth c cells slots Q ad ov H locs ls hx hb hl hov kk => lv_idiv hx hb hd hn kk)
theorem ax_s_irem {l : Launch} {d : Nat} {k : AM} {pc : Nat} {L L' : AL} {st st' : List AV} {S S' : AS} (hd : decode k.2.2.1 pc = .ok (.irem, 1)) (h : ax_div (fun x y => x - x / y * y) L st S = some (L', st', S')) : ax_R l d k (pc, L, st, S) (pc + 1, L', st', S') := by
  obtain ⟨x, y, r, hn, rfl, rfl, rfl, rfl⟩ := ax_div_v h
  exact ax_Rp (fun _ h => ax_vs_c (ax_vv_i _) (ax_vs_t (ax_vs_t h))) (fun p e R s m args below meth c cells slots Q ad ov H locs ls hx hb hl hov kk => lv_irem hx hb hd hn kk)
theorem ax_s_ldiv {l : Launch} {d : Nat} {k : AM} {pc : Nat} {L L' : AL} {st st' : List AV} {S S' : AS} (hd : decode k.2.2.1 pc = .ok (.ldiv, 1)) (h : ax_ldv (fun x y => x / y) L st S = some (L', st', S')) : ax_R l d k (pc, L, st, S) (pc + 1, L', st', S') := by
  obtain ⟨x, y, r, hn, rfl, rfl, rfl, rfl⟩ := ax_ldv_v h
  exact ax_Rp (fun _ h => ax_vs_c (ax_vv_j _) (ax_vs_t (ax_vs_t h))) (fun p e R s m args below meth c cells slots Q ad ov H locs ls hx hb hl hov kk => lv_ldiv hx hb hd hn kk)
theorem ax_s_lrem {l : Launch} {d : Nat} {k : AM} {pc : Nat} {L L' : AL} {st st' : List AV} {S S' : AS} (hd : decode k.2.2.1 pc = .ok (.lrem, 1)) (h : ax_ldv (fun x y => x - x / y * y) L st S = some (L', st', S')) : ax_R l d k (pc, L, st, S) (pc + 1, L', st', S') := by
  obtain ⟨x, y, r, hn, rfl, rfl, rfl, rfl⟩ := ax_ldv_v h
  exact ax_Rp (fun _ h => ax_vs_c (ax_vv_j _) (ax_vs_t (ax_vs_t h))) (fun p e R s m args below meth c cells slots Q ad ov H locs ls hx hb hl hov kk => lv_lrem hx hb hd hn kk)
theorem ax_s_ineg {l : Launch} {d : Nat} {k : AM} {pc : Nat} {L L' : AL} {st st' : List AV} {S S' : AS} (hd : decode k.2.2.1 pc = .ok (.ineg, 1)) (h : ax_i1 (fun x => -x) L st S = some (L', st', S')) : ax_R l d k (pc, L, st, S) (pc + 1, L', st', S') := by
  obtain ⟨x, r, rfl, rfl, rfl, rfl⟩ := ax_i1_v h
  exact ax_Rp (fun _ h => ax_vs_c (ax_vv_i _) (ax_vs_t h)) (fun p e R s m args below meth c cells slots Q ad ov H locs ls hx hb hl hov kk => lv_ineg hx hb hd kk)
theorem ax_s_i2b {l : Launch} {d : Nat} {k : AM} {pc : Nat} {L L' : AL} {st st' : List AV} {S S' : AS} (hd : decode k.2.2.1 pc = .ok (.i2b, 1)) (h : ax_i1 (fun x => x.toInt8.toInt32) L st S = some (L', st', S')) : ax_R l d k (pc, L, st, S) (pc + 1, L', st', S') := by
  obtain ⟨x, r, rfl, rfl, rfl, rfl⟩ := ax_i1_v h
  exact ax_Rp (fun _ h => ax_vs_c (ax_vv_i _) (ax_vs_t h)) (fun p e R s m args below meth c cells slots Q ad ov H locs ls hx hb hl hov kk => lv_i2b hx hb hd rfl kk)
theorem ax_s_i2c {l : Launch} {d : Nat} {k : AM} {pc : Nat} {L L' : AL} {st st' : List AV} {S S' : AS} (hd : decode k.2.2.1 pc = .ok (.i2c, 1)) (h : ax_i1 (fun x => (x.toUInt32 % 65536).toInt32) L st S = some (L', st', S')) : ax_R l d k (pc, L, st, S) (pc + 1, L', st', S') := by
  obtain ⟨x, r, rfl, rfl, rfl, rfl⟩ := ax_i1_v h
  exact ax_Rp (fun _ h => ax_vs_c (ax_vv_i _) (ax_vs_t h)) (fun p e R s m args below meth c cells slots Q ad ov H locs ls hx hb hl hov kk => lv_i2c hx hb hd rfl kk)
theorem ax_s_ladd {l : Launch} {d : Nat} {k : AM} {pc : Nat} {L L' : AL} {st st' : List AV} {S S' : AS} (hd : decode k.2.2.1 pc = .ok (.ladd, 1)) (h : ax_l2 (fun x y => x + y) L st S = some (L', st', S')) : ax_R l d k (pc, L, st, S) (pc + 1, L', st', S') := by
  obtain ⟨x, y, r, rfl, rfl, rfl, rfl⟩ := ax_l2_v h
  exact ax_Rp (fun _ h => ax_vs_c (ax_vv_j _) (ax_vs_t (ax_vs_t h))) (fun p e R s m args below meth c cells slots Q ad ov H locs ls hx hb hl hov kk => lv_ladd hx hb hd kk)
theorem ax_s_lsub {l : Launch} {d : Nat} {k : AM} {pc : Nat} {L L' : AL} {st st' : List AV} {S S' : AS} (hd : decode k.2.2.1 pc = .ok (.lsub, 1)) (h : ax_l2 (fun x y => x - y) L st S = some (L', st', S')) : ax_R l d k (pc, L, st, S) (pc + 1, L', st', S') := by
  obtain ⟨x, y, r, rfl, rfl, rfl, rfl⟩ := ax_l2_v h
  exact ax_Rp (fun _ h => ax_vs_c (ax_vv_j _) (ax_vs_t (ax_vs_t h))) (fun p e R s m args below meth c cells slots Q ad ov H locs ls hx hb hl hov kk => lv_lsub hx hb hd kk)
theorem ax_s_lmul {l : Launch} {d : Nat} {k : AM} {pc : Nat} {L L' : AL} {st st' : List AV} {S S' : AS} (hd : decode k.2.2.1 pc = .ok (.lmul, 1)) (h : ax_l2 (fun x y => x * y) L st S = some (L', st', S')) : ax_R l d k (pc, L, st, S) (pc + 1, L', st', S') := by
  obtain ⟨x, y, r, rfl, rfl, rfl, rfl⟩ := ax_l2_v h
  exact ax_Rp (fun _ h => ax_vs_c (ax_vv_j _) (ax_vs_t (ax_vs_t h))) (fun p e R s m args below meth c cells slots Q ad ov H locs ls hx hb hl hov kk => lv_lmul hx hb hd kk)
theorem ax_s_land {l : Launch} {d : Nat} {k : AM} {pc : Nat} {L L' : AL} {st st' : List AV} {S S' : AS} (hd : decode k.2.2.1 pc = .ok (.land, 1)) (h : ax_l2 (fun x y => x &&& y) L st S = some (L', st', S')) : ax_R l d k (pc, L, st, S) (pc + 1, L', st', S') := by
  obtain ⟨x, y, r, rfl, rfl, rfl, rfl⟩ := ax_l2_v h
  exact ax_Rp (fun _ h => ax_vs_c (ax_vv_j _) (ax_vs_t (ax_vs_t h))) (fun p e R s m args below meth c cells slots Q ad ov H locs ls hx hb hl hov kk => lv_land hx hb hd kk)
theorem ax_s_lor {l : Launch} {d : Nat} {k : AM} {pc : Nat} {L L' : AL} {st st' : List AV} {S S' : AS} (hd : decode k.2.2.1 pc = .ok (.lor, 1)) (h : ax_l2 (fun x y => x ||| y) L st S = some (L', st', S')) : ax_R l d k (pc, L, st, S) (pc + 1, L', st', S') := by
  obtain ⟨x, y, r, rfl, rfl, rfl, rfl⟩ := ax_l2_v h
  exact ax_Rp (fun _ h => ax_vs_c (ax_vv_j _) (ax_vs_t (ax_vs_t h))) (fun p e R s m args below meth c cells slots Q ad ov H locs ls hx hb hl hov kk => lv_lor hx hb hd kk)
theorem ax_s_lshl {l : Launch} {d : Nat} {k : AM} {pc : Nat} {L L' : AL} {st st' : List AV} {S S' : AS} (hd : decode k.2.2.1 pc = .ok (.lshl, 1)) (h : ax_ls (fun x y => x <<< (y.toInt64 &&& 63)) L st S = some (L', st', S')) : ax_R l d k (pc, L, st, S) (pc + 1, L', st', S') := by
  obtain ⟨x, y, r, rfl, rfl, rfl, rfl⟩ := ax_ls_v h
  exact ax_Rp (fun _ h => ax_vs_c (ax_vv_j _) (ax_vs_t (ax_vs_t h))) (fun p e R s m args below meth c cells slots Q ad ov H locs ls hx hb hl hov kk => lv_lshl hx hb hd rfl kk)
theorem ax_s_lushr {l : Launch} {d : Nat} {k : AM} {pc : Nat} {L L' : AL} {st st' : List AV} {S S' : AS} (hd : decode k.2.2.1 pc = .ok (.lushr, 1)) (h : ax_ls (fun x y => (x.toUInt64 >>> (y.toInt64.toUInt64 &&& Int64.toUInt64 63)).toInt64) L st S = some (L', st', S')) : ax_R l d k (pc, L, st, S) (pc + 1, L', st', S') := by
  obtain ⟨x, y, r, rfl, rfl, rfl, rfl⟩ := ax_ls_v h
  exact ax_Rp (fun _ h => ax_vs_c (ax_vv_j _) (ax_vs_t (ax_vs_t h))) (fun p e R s m args below meth c cells slots Q ad ov H locs ls hx hb hl hov kk => lv_lushr hx hb hd rfl kk)
theorem ax_s_i2l {l : Launch} {d : Nat} {k : AM} {pc : Nat} {L L' : AL} {st st' : List AV} {S S' : AS} (hd : decode k.2.2.1 pc = .ok (.i2l, 1)) (h : ax_i2l L st S = some (L', st', S')) : ax_R l d k (pc, L, st, S) (pc + 1, L', st', S') := by
  unfold ax_i2l at h
  split at h
  · cases h
    exact ax_Rp (fun _ h => ax_vs_c (ax_vv_j _) (ax_vs_t h)) (fun p e R s m args below meth c cells slots Q ad ov H locs ls hx hb hl hov kk => lv_i2l hx hb hd rfl kk)
  · cases h
theorem ax_s_l2i {l : Launch} {d : Nat} {k : AM} {pc : Nat} {L L' : AL} {st st' : List AV} {S S' : AS} (hd : decode k.2.2.1 pc = .ok (.l2i, 1)) (h : ax_l2i L st S = some (L', st', S')) : ax_R l d k (pc, L, st, S) (pc + 1, L', st', S') := by
  unfold ax_l2i at h
  split at h
  · cases h
    exact ax_Rp (fun _ h => ax_vs_c (ax_vv_i _) (ax_vs_t h)) (fun p e R s m args below meth c cells slots Q ad ov H locs ls hx hb hl hov kk => lv_l2i hx hb hd rfl kk)
  · cases h
theorem ax_s_lcmp {l : Launch} {d : Nat} {k : AM} {pc : Nat} {L L' : AL} {st st' : List AV} {S S' : AS} (hd : decode k.2.2.1 pc = .ok (.lcmp, 1)) (h : ax_cmp L st S = some (L', st', S')) : ax_R l d k (pc, L, st, S) (pc + 1, L', st', S') := by
  unfold ax_cmp at h
  split at h
  · cases h
    exact ax_Rp (fun _ h => ax_vs_c (ax_vv_i _) (ax_vs_t (ax_vs_t h))) (fun p e R s m args below meth c cells slots Q ad ov H locs ls hx hb hl hov kk => W.lcmp hx hb hd kk)
  · cases h
theorem ax_s_iconst {l : Launch} {d : Nat} {k : AM} {pc : Nat} {L L' : AL} {st st' : List AV} {S S' : AS} {n : Int} (hd : decode k.2.2.1 pc = .ok (.iconst n, 1)) (h : ax_psh (.inl (.int (Int32.ofInt n))) L st S = some (L', st', S')) : ax_R l d k (pc, L, st, S) (pc + 1, L', st', S') := by
  cases h
  exact ax_Rp (fun _ h => ax_vs_c (ax_vv_i _) h) (fun p e R s m args below meth c cells slots Q ad ov H locs ls hx hb hl hov kk => lv_iconst hx hb hd rfl kk)
theorem ax_s_bipush {l : Launch} {d : Nat} {k : AM} {pc : Nat} {L L' : AL} {st st' : List AV} {S S' : AS} {n : Int} (hd : decode k.2.2.1 pc = .ok (.bipush n, 2)) (h : ax_psh (.inl (.int (Int8.ofInt n).toInt32)) L st S = some (L', st', S')) : ax_R l d k (pc, L, st, S) (pc + 2, L', st', S') := by
  cases h
  exact ax_Rp (fun _ h => ax_vs_c (ax_vv_i _) h) (fun p e R s m args below meth c cells slots Q ad ov H locs ls hx hb hl hov kk => lv_bipush hx hb hd rfl kk)
theorem ax_s_sipush {l : Launch} {d : Nat} {k : AM} {pc : Nat} {L L' : AL} {st st' : List AV} {S S' : AS} {n : Int} (hd : decode k.2.2.1 pc = .ok (.sipush n, 3)) (h : ax_psh (.inl (.int (Int16.ofInt n).toInt32)) L st S = some (L', st', S')) : ax_R l d k (pc, L, st, S) (pc + 3, L', st', S') := by
  cases h
  exact ax_Rp (fun _ h => ax_vs_c (ax_vv_i _) h) (fun p e R s m args below meth c cells slots Q ad ov H locs ls hx hb hl hov kk => lv_sipush hx hb hd rfl kk)
theorem ax_s_lconst {l : Launch} {d : Nat} {k : AM} {pc : Nat} {L L' : AL} {st st' : List AV} {S S' : AS} {n : Fin 2} (hd : decode k.2.2.1 pc = .ok (.lconst n, 1)) (h : ax_psh (.inl (.long (Int64.ofNat n.val))) L st S = some (L', st', S')) : ax_R l d k (pc, L, st, S) (pc + 1, L', st', S') := by
  cases h
  exact ax_Rp (fun _ h => ax_vs_c (ax_vv_j _) h) (fun p e R s m args below meth c cells slots Q ad ov H locs ls hx hb hl hov kk => lv_lconst hx hb hd rfl kk)
theorem ax_s_null {l : Launch} {d : Nat} {k : AM} {pc : Nat} {L L' : AL} {st st' : List AV} {S S' : AS} (hd : decode k.2.2.1 pc = .ok (.aconst_null, 1)) (h : ax_psh (.inl .null) L st S = some (L', st', S')) : ax_R l d k (pc, L, st, S) (pc + 1, L', st', S') := by
  cases h
  exact ax_Rp (fun _ h => ax_vs_c ax_vv_n h) (fun p e R s m args below meth c cells slots Q ad ov H locs ls hx hb hl hov kk => lv_null hx hb hd kk)
theorem ax_getD {L : AL} {n : Nat} {v : AV} (h : L.getD n none = some v) : L[n]? = some (some v) := by
  rw [List.getD_eq_getElem?_getD] at h
  cases hn : L[n]? with
  | none =>
    rw [hn] at h
    cases h
  | some o =>
    rw [hn] at h
    exact congrArg some h
theorem ax_vL_at {L : AL} {n : Nat} {v : AV} (hv : ax_vL L) (h : L[n]? = some (some v)) : ax_vv v := hv v (List.mem_of_getElem? h)
theorem ax_cv_r {ad : Nat → Nat → Nat} {ov : Value} (hov : ov = .null ∨ ∃ t, ov = .ref t) (o : Nat × Nat) : ax_cv ad ov (.inr o) = .null ∨ ∃ t, ax_cv ad ov (.inr o) = .ref t := by
  unfold ax_cv
  dsimp only
  split
  · exact hov
  · exact Or.inr ⟨_, rfl⟩
theorem ax_s_iload_n {l : Launch} {d : Nat} {k : AM} {pc : Nat} {L L' : AL} {st st' : List AV} {S S' : AS} {n : Fin 4} (hd : decode k.2.2.1 pc = .ok (.iload_n n, 1)) (h : ax_ldi n.val L st S = some (L', st', S')) : ax_R l d k (pc, L, st, S) (pc + 1, L', st', S') := by
  unfold ax_ldi at h
  split at h
  · next x hq =>
    cases h
    exact ax_Rp (fun _ h => ax_vs_c (ax_vv_i _) h) (fun p e R s m args below meth c cells slots Q ad ov H locs ls hx hb hl hov kk => lv_iload_n hx hb hd rfl (ax_la_at hl (ax_getD hq)) kk)
  · cases h
theorem ax_s_iload {l : Launch} {d : Nat} {k : AM} {pc : Nat} {L L' : AL} {st st' : List AV} {S S' : AS} {n : Nat} (hd : decode k.2.2.1 pc = .ok (.iload n, 2)) (h : ax_ldi n L st S = some (L', st', S')) : ax_R l d k (pc, L, st, S) (pc + 2, L', st', S') := by
  unfold ax_ldi at h
  split at h
  · next x hq =>
    cases h
    exact ax_Rp (fun _ h => ax_vs_c (ax_vv_i _) h) (fun p e R s m args below meth c cells slots Q ad ov H locs ls hx hb hl hov kk => lv_iload hx hb hd (ax_la_at hl (ax_getD hq)) kk)
  · cases h
theorem ax_s_lload_n {l : Launch} {d : Nat} {k : AM} {pc : Nat} {L L' : AL} {st st' : List AV} {S S' : AS} {n : Fin 4} (hd : decode k.2.2.1 pc = .ok (.lload_n n, 1)) (h : ax_ldl n.val L st S = some (L', st', S')) : ax_R l d k (pc, L, st, S) (pc + 1, L', st', S') := by
  unfold ax_ldl at h
  split at h
  · next x hq =>
    cases h
    exact ax_Rp (fun _ h => ax_vs_c (ax_vv_j _) h) (fun p e R s m args below meth c cells slots Q ad ov H locs ls hx hb hl hov kk => lv_lload_n hx hb hd rfl (ax_la_at hl (ax_getD hq)) kk)
  · cases h
theorem ax_s_lload {l : Launch} {d : Nat} {k : AM} {pc : Nat} {L L' : AL} {st st' : List AV} {S S' : AS} {n : Nat} (hd : decode k.2.2.1 pc = .ok (.lload n, 2)) (h : ax_ldl n L st S = some (L', st', S')) : ax_R l d k (pc, L, st, S) (pc + 2, L', st', S') := by
  unfold ax_ldl at h
  split at h
  · next x hq =>
    cases h
    exact ax_Rp (fun _ h => ax_vs_c (ax_vv_j _) h) (fun p e R s m args below meth c cells slots Q ad ov H locs ls hx hb hl hov kk => lv_lload hx hb hd (ax_la_at hl (ax_getD hq)) kk)
  · cases h
theorem ax_s_aload_n {l : Launch} {d : Nat} {k : AM} {pc : Nat} {L L' : AL} {st st' : List AV} {S S' : AS} {n : Fin 4} (hd : decode k.2.2.1 pc = .ok (.aload_n n, 1)) (h : ax_lda n.val L st S = some (L', st', S')) : ax_R l d k (pc, L, st, S) (pc + 1, L', st', S') := by
  unfold ax_lda at h
  split at h
  · next x hq =>
    cases h
    refine ax_Rp (fun hL h => ax_vs_c (ax_vL_at hL (ax_getD hq)) h) (fun p e R s m args below meth c cells slots Q ad ov H locs ls hx hb hl hov kk => ?_)
    rw [List.map_cons] at kk
    rcases ax_cv_r (ad := ad) hov x with ez | ⟨t, ez⟩
    · rw [ez] at kk
      exact lv_aload_nN hx hb hd rfl (by rw [← ez]; exact ax_la_at hl (ax_getD hq)) kk
    · rw [ez] at kk
      exact lv_aload_n hx hb hd rfl (by rw [← ez]; exact ax_la_at hl (ax_getD hq)) kk
  · next hq =>
    cases h
    exact ax_Rp (fun _ h => ax_vs_c ax_vv_n h) (fun p e R s m args below meth c cells slots Q ad ov H locs ls hx hb hl hov kk => lv_aload_nN hx hb hd rfl (ax_la_at hl (ax_getD hq)) kk)
  · cases h
theorem ax_s_aload {l : Launch} {d : Nat} {k : AM} {pc : Nat} {L L' : AL} {st st' : List AV} {S S' : AS} {n : Nat} (hd : decode k.2.2.1 pc = .ok (.aload n, 2)) (h : ax_lda n L st S = some (L', st', S')) : ax_R l d k (pc, L, st, S) (pc + 2, L', st', S') := by
  unfold ax_lda at h
  split at h
  · next x hq =>
    cases h
    refine ax_Rp (fun hL h => ax_vs_c (ax_vL_at hL (ax_getD hq)) h) (fun p e R s m args below meth c cells slots Q ad ov H locs ls hx hb hl hov kk => ?_)
    rw [List.map_cons] at kk
    rcases ax_cv_r (ad := ad) hov x with ez | ⟨t, ez⟩
    · rw [ez] at kk
      exact lv_aloadN hx hb hd (by rw [← ez]; exact ax_la_at hl (ax_getD hq)) kk
    · rw [ez] at kk
      exact lv_aload hx hb hd (by rw [← ez]; exact ax_la_at hl (ax_getD hq)) kk
  · next hq =>
    cases h
    exact ax_Rp (fun _ h => ax_vs_c ax_vv_n h) (fun p e R s m args below meth c cells slots Q ad ov H locs ls hx hb hl hov kk => lv_aloadN hx hb hd (ax_la_at hl (ax_getD hq)) kk)
  · cases h
theorem ax_cat_r {ad : Nat → Nat → Nat} {ov : Value} (hov : ov = .null ∨ ∃ t, ov = .ref t) (o : Nat × Nat) : (ax_cv ad ov (.inr o)).category = 1 := by
  rcases ax_cv_r (ad := ad) hov o with e | ⟨t, e⟩ <;> rw [e] <;> rfl
theorem ax_s_dup {l : Launch} {d : Nat} {k : AM} {pc : Nat} {L L' : AL} {st st' : List AV} {S S' : AS} (hd : decode k.2.2.1 pc = .ok (.dup, 1)) (h : ax_dup L st S = some (L', st', S')) : ax_R l d k (pc, L, st, S) (pc + 1, L', st', S') := by
  unfold ax_dup at h
  split at h
  · cases h
    exact ax_Rp (fun _ h => ax_vs_c (ax_vs_h h) h) (fun p e R s m args below meth c cells slots Q ad ov H locs ls hx hb hl hov kk => lv_dup hx hb hd rfl kk)
  · cases h
    exact ax_Rp (fun _ h => ax_vs_c (ax_vs_h h) h) (fun p e R s m args below meth c cells slots Q ad ov H locs ls hx hb hl hov kk => lv_dup hx hb hd (ax_cat_r hov _) kk)
  · cases h
theorem ax_s_pop {l : Launch} {d : Nat} {k : AM} {pc : Nat} {L L' : AL} {st st' : List AV} {S S' : AS} (hd : decode k.2.2.1 pc = .ok (.pop, 1)) (h : ax_pop L st S = some (L', st', S')) : ax_R l d k (pc, L, st, S) (pc + 1, L', st', S') := by
  unfold ax_pop at h
  split at h
  · cases h
    exact ax_Rp (fun _ h => ax_vs_t h) (fun p e R s m args below meth c cells slots Q ad ov H locs ls hx hb hl hov kk => lv_pop hx hb hd rfl kk)
  · cases h
    exact ax_Rp (fun _ h => ax_vs_t h) (fun p e R s m args below meth c cells slots Q ad ov H locs ls hx hb hl hov kk => lv_pop hx hb hd (ax_cat_r hov _) kk)
  · cases h
theorem ax_s_dup2 {l : Launch} {d : Nat} {k : AM} {pc : Nat} {L L' : AL} {st st' : List AV} {S S' : AS} (hd : decode k.2.2.1 pc = .ok (.dup2, 1)) (h : ax_dup2 L st S = some (L', st', S')) : ax_R l d k (pc, L, st, S) (pc + 1, L', st', S') := by
  unfold ax_dup2 at h
  split at h
  · cases h
    exact ax_Rp (fun _ h => ax_vs_c (ax_vs_h h) h) (fun p e R s m args below meth c cells slots Q ad ov H locs ls hx hb hl hov kk => lv_dup2_2 hx hb hd rfl kk)
  · cases h
    exact ax_Rp (fun _ h => ax_vs_c (ax_vs_h h) (ax_vs_c (ax_vs_h (ax_vs_t h)) h)) (fun p e R s m args below meth c cells slots Q ad ov H locs ls hx hb hl hov kk => lv_dup2_11 hx hb hd rfl rfl kk)
  · cases h
    exact ax_Rp (fun _ h => ax_vs_c (ax_vs_h h) (ax_vs_c (ax_vs_h (ax_vs_t h)) h)) (fun p e R s m args below meth c cells slots Q ad ov H locs ls hx hb hl hov kk => lv_dup2_11 hx hb hd rfl (ax_cat_r hov _) kk)
  · cases h
theorem ax_Rl {l : Launch} {d : Nat} {k : AM} {pc pc' : Nat} {L L' : AL} {S : AS} {st st' : List AV} (hv : ax_vL L → ax_vs st → ax_vL L' ∧ ax_vs st') (hle : L'.length = L.length)
    (hw : ∀ (p : Program) (e : Env) (R : Room) (s : State) (m : MethodId) (args : Array Value) (below : List Frame) (meth : Method) (c : Code) (cells slots : Nat) (Q : State → Prop) (ad : Nat → Nat → Nat) (ov : Value) (H : Heap) (locs : List Loc) (ls : Array Slot),
      p.tables.exec = Jvm.exec → c.code = k.2.2.1 → ax_vL L → L.length ≤ k.2.2.2.1 → lv_has ls k.2.2.2.1 (ax_la ad ov L) → (ov = .null ∨ ∃ t, ov = .ref t) → (∀ ls, lv_has ls k.2.2.2.1 (ax_la ad ov L') → W p l e R s m args below meth c H locs cells slots Q (F0 m pc' ls (st'.map (ax_cv ad ov)))) → W p l e R s m args below meth c H locs cells slots Q (F0 m pc ls (st.map (ax_cv ad ov)))) :
    ax_R l d k (pc, L, st, S) (pc', L', st', S) := by
  intro p e R s m args below meth c cells slots Q A ad ov dC dI cy Ln xs hx _ _ h H locs ls hi
  obtain ⟨⟨v1, v2, v3⟩, w, ⟨l1, l2⟩, sc⟩ := hi
  exact hw p e R s m args below meth c cells slots Q ad ov H locs ls hx.1 hx.2.1 v1 l2 l1 hx.2.2.2.2.2.2.2.2.2.2 (fun ls hls => h H locs ls ⟨⟨(hv v1 v2).1, (hv v1 v2).2, v3⟩, w, ⟨hls, by rw [hle]; exact l2⟩, sc⟩)
theorem ax_s_istore_n {l : Launch} {d : Nat} {k : AM} {pc : Nat} {L L' : AL} {st st' : List AV} {S S' : AS} {n : Fin 4} (hd : decode k.2.2.1 pc = .ok (.istore_n n, 1)) (h : ax_sti n.val L st S = some (L', st', S')) : ax_R l d k (pc, L, st, S) (pc + 1, L', st', S') := by
  unfold ax_sti at h
  split at h
  · split at h
    · next hlt =>
      cases h
      exact ax_Rl (fun hL h => ⟨ax_vL_st1 hL (ax_vs_h h), ax_vs_t h⟩) ax_st1_len (fun p e R s m args below meth c cells slots Q ad ov H locs ls hx hb hL hn hl hov kk => lv_istore_n hx hb hd rfl hl (by omega) rfl (fun ls h => kk ls (ax_la_st1 hov hL h)))
    · cases h
  · cases h
theorem ax_s_istore {l : Launch} {d : Nat} {k : AM} {pc : Nat} {L L' : AL} {st st' : List AV} {S S' : AS} {n : Nat} (hd : decode k.2.2.1 pc = .ok (.istore n, 2)) (h : ax_sti n L st S = some (L', st', S')) : ax_R l d k (pc, L, st, S) (pc + 2, L', st', S') := by
  unfold ax_sti at h
  split at h
  · split at h
    · next hlt =>
      cases h
      exact ax_Rl (fun hL h => ⟨ax_vL_st1 hL (ax_vs_h h), ax_vs_t h⟩) ax_st1_len (fun p e R s m args below meth c cells slots Q ad ov H locs ls hx hb hL hn hl hov kk => lv_istore hx hb hd hl (by omega) rfl (fun ls h => kk ls (ax_la_st1 hov hL h)))
    · cases h
  · cases h
theorem ax_s_lstore_n {l : Launch} {d : Nat} {k : AM} {pc : Nat} {L L' : AL} {st st' : List AV} {S S' : AS} {n : Fin 4} (hd : decode k.2.2.1 pc = .ok (.lstore_n n, 1)) (h : ax_stl n.val L st S = some (L', st', S')) : ax_R l d k (pc, L, st, S) (pc + 1, L', st', S') := by
  unfold ax_stl at h
  split at h
  · split at h
    · next hlt =>
      cases h
      exact ax_Rl (fun hL h => ⟨ax_vL_st2 hL (ax_vs_h h), ax_vs_t h⟩) ax_st2_len (fun p e R s m args below meth c cells slots Q ad ov H locs ls hx hb hL hn hl hov kk => lv_lstore_n hx hb hd rfl hl (by omega) rfl (fun ls h => kk ls (ax_la_st2 hov hL h)))
    · cases h
  · cases h
theorem ax_s_lstore {l : Launch} {d : Nat} {k : AM} {pc : Nat} {L L' : AL} {st st' : List AV} {S S' : AS} {n : Nat} (hd : decode k.2.2.1 pc = .ok (.lstore n, 2)) (h : ax_stl n L st S = some (L', st', S')) : ax_R l d k (pc, L, st, S) (pc + 2, L', st', S') := by
  unfold ax_stl at h
  split at h
  · split at h
    · next hlt =>
      cases h
      exact ax_Rl (fun hL h => ⟨ax_vL_st2 hL (ax_vs_h h), ax_vs_t h⟩) ax_st2_len (fun p e R s m args below meth c cells slots Q ad ov H locs ls hx hb hL hn hl hov kk => lv_lstore hx hb hd hl (by omega) rfl (fun ls h => kk ls (ax_la_st2 hov hL h)))
    · cases h
  · cases h
theorem ax_s_astore_n {l : Launch} {d : Nat} {k : AM} {pc : Nat} {L L' : AL} {st st' : List AV} {S S' : AS} {n : Fin 4} (hd : decode k.2.2.1 pc = .ok (.astore_n n, 1)) (h : ax_sta n.val L st S = some (L', st', S')) : ax_R l d k (pc, L, st, S) (pc + 1, L', st', S') := by
  unfold ax_sta at h
  split at h
  · next x r =>
    split at h
    · next hlt =>
      cases h
      refine ax_Rl (fun hL h => ⟨ax_vL_st1 hL (ax_vs_h h), ax_vs_t h⟩) ax_st1_len (fun p e R s m args below meth c cells slots Q ad ov H locs ls hx hb hL hn hl hov kk => ?_)
      rw [List.map_cons]
      rcases ax_cv_r (ad := ad) hov x with ez | ⟨t, ez⟩
      · rw [ez]
        exact lv_astore_nN hx hb hd rfl hl (by omega) rfl (fun ls h => kk ls (ax_la_st1 hov hL (by rw [ez]; exact h)))
      · rw [ez]
        exact lv_astore_n hx hb hd rfl hl (by omega) rfl (fun ls h => kk ls (ax_la_st1 hov hL (by rw [ez]; exact h)))
    · cases h
  · cases h
theorem ax_s_astore {l : Launch} {d : Nat} {k : AM} {pc : Nat} {L L' : AL} {st st' : List AV} {S S' : AS} {n : Nat} (hd : decode k.2.2.1 pc = .ok (.astore n, 2)) (h : ax_sta n L st S = some (L', st', S')) : ax_R l d k (pc, L, st, S) (pc + 2, L', st', S') := by
  unfold ax_sta at h
  split at h
  · next x r =>
    split at h
    · next hlt =>
      cases h
      refine ax_Rl (fun hL h => ⟨ax_vL_st1 hL (ax_vs_h h), ax_vs_t h⟩) ax_st1_len (fun p e R s m args below meth c cells slots Q ad ov H locs ls hx hb hL hn hl hov kk => ?_)
      rw [List.map_cons]
      rcases ax_cv_r (ad := ad) hov x with ez | ⟨t, ez⟩
      · rw [ez]
        exact lv_astoreN hx hb hd hl (by omega) rfl (fun ls h => kk ls (ax_la_st1 hov hL (by rw [ez]; exact h)))
      · rw [ez]
        exact lv_astore hx hb hd hl (by omega) rfl (fun ls h => kk ls (ax_la_st1 hov hL (by rw [ez]; exact h)))
    · cases h
  · cases h
theorem ax_s_iinc {l : Launch} {d : Nat} {k : AM} {pc : Nat} {L L' : AL} {st st' : List AV} {S S' : AS} {n : Nat} {z : Int} (hd : decode k.2.2.1 pc = .ok (.iinc n z, 3)) (h : ax_inc n z L st S = some (L', st', S')) : ax_R l d k (pc, L, st, S) (pc + 3, L', st', S') := by
  unfold ax_inc at h
  split at h
  · next x hq =>
    split at h
    · next hlt =>
      cases h
      refine ax_Rl (fun hL h => ⟨ax_vL_st1 hL (ax_vv_i _), h⟩) ax_st1_len (fun p e R s m args below meth c cells slots Q ad ov H locs ls hx hb hL hn hl hov kk => ?_)
      obtain ⟨j, hj⟩ := List.mem_iff_getElem?.mp (ax_la_mem (ad := ad) (ov := ov).mpr ⟨_, ax_getD hq, rfl⟩)
      exact lv_iinc hx hb hd hl hj rfl (by omega) rfl (fun ls h => kk ls (ax_la_st1 hov hL h))
    · cases h
  · cases h

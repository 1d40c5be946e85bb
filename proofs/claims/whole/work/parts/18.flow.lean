/-! FLOW: jumps, switches, null, copies of rows -/
section AXJ
variable {l : Launch} {d : Nat} {k : AM} {pc : Nat} {L L' : AL} {st st' : List AV} {S S' : AS} {c2 : AC}
theorem ax_goto {off : Int} {tgt : Nat} (hd : decode k.2.2.1 pc = .ok (.goto off, 3)) (ht : (pc : Int) + off = (tgt : Int)) (hr : ax_R l d k (tgt, L, st, S) c2) : ax_R l d k (pc, L, st, S) c2 :=
  (ax_Rp (fun _ h => h) (fun p e R s m args below meth c cells slots Q ad ov H locs ls hx hb hl hov kk => lv_goto hx hb hd ht kk)).tr hr
theorem ax_ic_eq {off : Int} {tgt : Nat} {x y : Int32} (hd : decode k.2.2.1 pc = .ok (.if_icmp .eq off, 3)) (ht : (pc : Int) + off = (tgt : Int)) (h1 : x = y → ax_R l d k (tgt, L, st, S) c2) (h2 : ¬ x = y → ax_R l d k (pc + 3, L, st, S) c2) : ax_R l d k (pc, L, .inl (.int y) :: .inl (.int x) :: st, S) c2 := by
  intro p e R s m args below meth c cells slots Q A ad ov dC dI cy Ln xs hx hc hs hk H locs ls hi
  obtain ⟨⟨v1, v2, v3⟩, w, l1, sc⟩ := hi
  exact lv_icmp_eq hx.1 hx.2.1 hd ht (fun q => h1 q p e R s m args below meth c cells slots Q A ad ov dC dI cy Ln xs hx hc hs hk H locs ls ⟨⟨v1, ax_vs_t (ax_vs_t v2), v3⟩, w, l1, sc⟩) (fun q => h2 q p e R s m args below meth c cells slots Q A ad ov dC dI cy Ln xs hx hc hs hk H locs ls ⟨⟨v1, ax_vs_t (ax_vs_t v2), v3⟩, w, l1, sc⟩)
theorem ax_ic_ne {off : Int} {tgt : Nat} {x y : Int32} (hd : decode k.2.2.1 pc = .ok (.if_icmp .ne off, 3)) (ht : (pc : Int) + off = (tgt : Int)) (h1 : ¬ x = y → ax_R l d k (tgt, L, st, S) c2) (h2 : x = y → ax_R l d k (pc + 3, L, st, S) c2) : ax_R l d k (pc, L, .inl (.int y) :: .inl (.int x) :: st, S) c2 := by
  intro p e R s m args below meth c cells slots Q A ad ov dC dI cy Ln xs hx hc hs hk H locs ls hi
  obtain ⟨⟨v1, v2, v3⟩, w, l1, sc⟩ := hi
  exact lv_icmp_ne hx.1 hx.2.1 hd ht (fun q => h1 q p e R s m args below meth c cells slots Q A ad ov dC dI cy Ln xs hx hc hs hk H locs ls ⟨⟨v1, ax_vs_t (ax_vs_t v2), v3⟩, w, l1, sc⟩) (fun q => h2 q p e R s m args below meth c cells slots Q A ad ov dC dI cy Ln xs hx hc hs hk H locs ls ⟨⟨v1, ax_vs_t (ax_vs_t v2), v3⟩, w, l1, sc⟩)
theorem ax_ic_lt {off : Int} {tgt : Nat} {x y : Int32} (hd : decode k.2.2.1 pc = .ok (.if_icmp .lt off, 3)) (ht : (pc : Int) + off = (tgt : Int)) (h1 : x < y → ax_R l d k (tgt, L, st, S) c2) (h2 : ¬ x < y → ax_R l d k (pc + 3, L, st, S) c2) : ax_R l d k (pc, L, .inl (.int y) :: .inl (.int x) :: st, S) c2 := by
  intro p e R s m args below meth c cells slots Q A ad ov dC dI cy Ln xs hx hc hs hk H locs ls hi
  obtain ⟨⟨v1, v2, v3⟩, w, l1, sc⟩ := hi
  exact lv_icmp_lt hx.1 hx.2.1 hd ht (fun q => h1 q p e R s m args below meth c cells slots Q A ad ov dC dI cy Ln xs hx hc hs hk H locs ls ⟨⟨v1, ax_vs_t (ax_vs_t v2), v3⟩, w, l1, sc⟩) (fun q => h2 q p e R s m args below meth c cells slots Q A ad ov dC dI cy Ln xs hx hc hs hk H locs ls ⟨⟨v1, ax_vs_t (ax_vs_t v2), v3⟩, w, l1, sc⟩)
theorem ax_ic_ge {off : Int} {tgt : Nat} {x y : Int32} (hd : decode k.2.2.1 pc = .ok (.if_icmp .ge off, 3)) (ht : (pc : Int) + off = (tgt : Int)) (h1 : y ≤ x → ax_R l d k (tgt, L, st, S) c2) (h2 : ¬ y ≤ x → ax_R l d k (pc + 3, L, st, S) c2) : ax_R l d k (pc, L, .inl (.int y) :: .inl (.int x) :: st, S) c2 := by
  intro p e R s m args below meth c cells slots Q A ad ov dC dI cy Ln xs hx hc hs hk H locs ls hi
  obtain ⟨⟨v1, v2, v3⟩, w, l1, sc⟩ := hi
  exact lv_icmp_ge hx.1 hx.2.1 hd ht (fun q => h1 q p e R s m args below meth c cells slots Q A ad ov dC dI cy Ln xs hx hc hs hk H locs ls ⟨⟨v1, ax_vs_t (ax_vs_t v2), v3⟩, w, l1, sc⟩) (fun q => h2 q p e R s m args below meth c cells slots Q A ad ov dC dI cy Ln xs hx hc hs hk H locs ls ⟨⟨v1, ax_vs_t (ax_vs_t v2), v3⟩, w, l1, sc⟩)
theorem ax_ic_gt {off : Int} {tgt : Nat} {x y : Int32} (hd : decode k.2.2.1 pc = .ok (.if_icmp .gt off, 3)) (ht : (pc : Int) + off = (tgt : Int)) (h1 : y < x → ax_R l d k (tgt, L, st, S) c2) (h2 : ¬ y < x → ax_R l d k (pc + 3, L, st, S) c2) : ax_R l d k (pc, L, .inl (.int y) :: .inl (.int x) :: st, S) c2 := by
  intro p e R s m args below meth c cells slots Q A ad ov dC dI cy Ln xs hx hc hs hk H locs ls hi
  obtain ⟨⟨v1, v2, v3⟩, w, l1, sc⟩ := hi
  exact lv_icmp_gt hx.1 hx.2.1 hd ht (fun q => h1 q p e R s m args below meth c cells slots Q A ad ov dC dI cy Ln xs hx hc hs hk H locs ls ⟨⟨v1, ax_vs_t (ax_vs_t v2), v3⟩, w, l1, sc⟩) (fun q => h2 q p e R s m args below meth c cells slots Q A ad ov dC dI cy Ln xs hx hc hs hk H locs ls ⟨⟨v1, ax_vs_t (ax_vs_t v2), v3⟩, w, l1, sc⟩)
theorem ax_ic_le {off : Int} {tgt : Nat} {x y : Int32} (hd : decode k.2.2.1 pc = .ok (.if_icmp .le off, 3)) (ht : (pc : Int) + off = (tgt : Int)) (h1 : x ≤ y → ax_R l d k (tgt, L, st, S) c2) (h2 : ¬ x ≤ y → ax_R l d k (pc + 3, L, st, S) c2) : ax_R l d k (pc, L, .inl (.int y) :: .inl (.int x) :: st, S) c2 := by
  intro p e R s m args below meth c cells slots Q A ad ov dC dI cy Ln xs hx hc hs hk H locs ls hi
  obtain ⟨⟨v1, v2, v3⟩, w, l1, sc⟩ := hi
  exact lv_icmp_le hx.1 hx.2.1 hd ht (fun q => h1 q p e R s m args below meth c cells slots Q A ad ov dC dI cy Ln xs hx hc hs hk H locs ls ⟨⟨v1, ax_vs_t (ax_vs_t v2), v3⟩, w, l1, sc⟩) (fun q => h2 q p e R s m args below meth c cells slots Q A ad ov dC dI cy Ln xs hx hc hs hk H locs ls ⟨⟨v1, ax_vs_t (ax_vs_t v2), v3⟩, w, l1, sc⟩)
theorem ax_if_eq {off : Int} {tgt : Nat} {x : Int32} (hd : decode k.2.2.1 pc = .ok (.ifCond .eq off, 3)) (ht : (pc : Int) + off = (tgt : Int)) (h1 : x = 0 → ax_R l d k (tgt, L, st, S) c2) (h2 : ¬ x = 0 → ax_R l d k (pc + 3, L, st, S) c2) : ax_R l d k (pc, L, .inl (.int x) :: st, S) c2 := by
  intro p e R s m args below meth c cells slots Q A ad ov dC dI cy Ln xs hx hc hs hk H locs ls hi
  obtain ⟨⟨v1, v2, v3⟩, w, l1, sc⟩ := hi
  exact lv_if_eq hx.1 hx.2.1 hd ht (fun q => h1 q p e R s m args below meth c cells slots Q A ad ov dC dI cy Ln xs hx hc hs hk H locs ls ⟨⟨v1, ax_vs_t v2, v3⟩, w, l1, sc⟩) (fun q => h2 q p e R s m args below meth c cells slots Q A ad ov dC dI cy Ln xs hx hc hs hk H locs ls ⟨⟨v1, ax_vs_t v2, v3⟩, w, l1, sc⟩)
theorem ax_if_ne {off : Int} {tgt : Nat} {x : Int32} (hd : decode k.2.2.1 pc = .ok (.ifCond .ne off, 3)) (ht : (pc : Int) + off = (tgt : Int)) (h1 : ¬ x = 0 → ax_R l d k (tgt, L, st, S) c2) (h2 : x = 0 → ax_R l d k (pc + 3, L, st, S) c2) : ax_R l d k (pc, L, .inl (.int x) :: st, S) c2 := by
  intro p e R s m args below meth c cells slots Q A ad ov dC dI cy Ln xs hx hc hs hk H locs ls hi
  obtain ⟨⟨v1, v2, v3⟩, w, l1, sc⟩ := hi
  exact lv_if_ne hx.1 hx.2.1 hd ht (fun q => h1 q p e R s m args below meth c cells slots Q A ad ov dC dI cy Ln xs hx hc hs hk H locs ls ⟨⟨v1, ax_vs_t v2, v3⟩, w, l1, sc⟩) (fun q => h2 q p e R s m args below meth c cells slots Q A ad ov dC dI cy Ln xs hx hc hs hk H locs ls ⟨⟨v1, ax_vs_t v2, v3⟩, w, l1, sc⟩)
theorem ax_if_lt {off : Int} {tgt : Nat} {x : Int32} (hd : decode k.2.2.1 pc = .ok (.ifCond .lt off, 3)) (ht : (pc : Int) + off = (tgt : Int)) (h1 : x < 0 → ax_R l d k (tgt, L, st, S) c2) (h2 : ¬ x < 0 → ax_R l d k (pc + 3, L, st, S) c2) : ax_R l d k (pc, L, .inl (.int x) :: st, S) c2 := by
  intro p e R s m args below meth c cells slots Q A ad ov dC dI cy Ln xs hx hc hs hk H locs ls hi
  obtain ⟨⟨v1, v2, v3⟩, w, l1, sc⟩ := hi
  exact lv_if_lt hx.1 hx.2.1 hd ht (fun q => h1 q p e R s m args below meth c cells slots Q A ad ov dC dI cy Ln xs hx hc hs hk H locs ls ⟨⟨v1, ax_vs_t v2, v3⟩, w, l1, sc⟩) (fun q => h2 q p e R s m args below meth c cells slots Q A ad ov dC dI cy Ln xs hx hc hs hk H locs ls ⟨⟨v1, ax_vs_t v2, v3⟩, w, l1, sc⟩)
theorem ax_if_ge {off : Int} {tgt : Nat} {x : Int32} (hd : decode k.2.2.1 pc = .ok (.ifCond .ge off, 3)) (ht : (pc : Int) + off = (tgt : Int)) (h1 : 0 ≤ x → ax_R l d k (tgt, L, st, S) c2) (h2 : ¬ 0 ≤ x → ax_R l d k (pc + 3, L, st, S) c2) : ax_R l d k (pc, L, .inl (.int x) :: st, S) c2 := by
  intro p e R s m args below meth c cells slots Q A ad ov dC dI cy Ln xs hx hc hs hk H locs ls hi
  obtain ⟨⟨v1, v2, v3⟩, w, l1, sc⟩ := hi
  exact lv_if_ge hx.1 hx.2.1 hd ht (fun q => h1 q p e R s m args below meth c cells slots Q A ad ov dC dI cy Ln xs hx hc hs hk H locs ls ⟨⟨v1, ax_vs_t v2, v3⟩, w, l1, sc⟩) (fun q => h2 q p e R s m args below meth c cells slots Q A ad ov dC dI cy Ln xs hx hc hs hk H locs ls ⟨⟨v1, ax_vs_t v2, v3⟩, w, l1, sc⟩)
theorem ax_if_gt {off : Int} {tgt : Nat} {x : Int32} (hd : decode k.2.2.1 pc = .ok (.ifCond .gt off, 3)) (ht : (pc : Int) + off = (tgt : Int)) (h1 : 0 < x → ax_R l d k (tgt, L, st, S) c2) (h2 : ¬ 0 < x → ax_R l d k (pc + 3, L, st, S) c2) : ax_R l d k (pc, L, .inl (.int x) :: st, S) c2 := by
  intro p e R s m args below meth c cells slots Q A ad ov dC dI cy Ln xs hx hc hs hk H locs ls hi
  obtain ⟨⟨v1, v2, v3⟩, w, l1, sc⟩ := hi
  exact lv_if_gt hx.1 hx.2.1 hd ht (fun q => h1 q p e R s m args below meth c cells slots Q A ad ov dC dI cy Ln xs hx hc hs hk H locs ls ⟨⟨v1, ax_vs_t v2, v3⟩, w, l1, sc⟩) (fun q => h2 q p e R s m args below meth c cells slots Q A ad ov dC dI cy Ln xs hx hc hs hk H locs ls ⟨⟨v1, ax_vs_t v2, v3⟩, w, l1, sc⟩)
theorem ax_if_le {off : Int} {tgt : Nat} {x : Int32} (hd : decode k.2.2.1 pc = .ok (.ifCond .le off, 3)) (ht : (pc : Int) + off = (tgt : Int)) (h1 : x ≤ 0 → ax_R l d k (tgt, L, st, S) c2) (h2 : ¬ x ≤ 0 → ax_R l d k (pc + 3, L, st, S) c2) : ax_R l d k (pc, L, .inl (.int x) :: st, S) c2 := by
  intro p e R s m args below meth c cells slots Q A ad ov dC dI cy Ln xs hx hc hs hk H locs ls hi
  obtain ⟨⟨v1, v2, v3⟩, w, l1, sc⟩ := hi
  exact lv_if_le hx.1 hx.2.1 hd ht (fun q => h1 q p e R s m args below meth c cells slots Q A ad ov dC dI cy Ln xs hx hc hs hk H locs ls ⟨⟨v1, ax_vs_t v2, v3⟩, w, l1, sc⟩) (fun q => h2 q p e R s m args below meth c cells slots Q A ad ov dC dI cy Ln xs hx hc hs hk H locs ls ⟨⟨v1, ax_vs_t v2, v3⟩, w, l1, sc⟩)
theorem ax_tIn {dflt lo hi off : Int} {offs : Array Int} {len tgt : Nat} {x : Int32} (hd : decode k.2.2.1 pc = .ok (.tableswitch dflt lo hi offs, len)) (h1 : ¬ x.toInt < lo) (h2 : ¬ hi < x.toInt) (ho : offs[(x.toInt - lo).toNat]? = some off) (ht : (pc : Int) + off = (tgt : Int)) (hr : ax_R l d k (tgt, L, st, S) c2) : ax_R l d k (pc, L, .inl (.int x) :: st, S) c2 :=
  (ax_Rp (fun _ h => ax_vs_t h) (fun p e R s m args below meth c cells slots Q ad ov H locs ls hx hb hl hov kk => lv_tableIn hx hb hd h1 h2 ho ht kk)).tr hr
theorem ax_tOut {dflt lo hi : Int} {offs : Array Int} {len tgt : Nat} {x : Int32} (hd : decode k.2.2.1 pc = .ok (.tableswitch dflt lo hi offs, len)) (h : x.toInt < lo ∨ hi < x.toInt) (ht : (pc : Int) + dflt = (tgt : Int)) (hr : ax_R l d k (tgt, L, st, S) c2) : ax_R l d k (pc, L, .inl (.int x) :: st, S) c2 :=
  (ax_Rp (fun _ h => ax_vs_t h) (fun p e R s m args below meth c cells slots Q ad ov H locs ls hx hb hl hov kk => lv_tableOut hx hb hd h ht kk)).tr hr
theorem ax_lsw {dflt off : Int} {ps : Array (Int × Int)} {len tgt : Nat} {x : Int32} (hd : decode k.2.2.1 pc = .ok (.lookupswitch dflt ps, len)) (hp : (ps.toList.zip (ps.toList.drop 1)).all (fun (a, next) => a.1 < next.1) = true) (ho : Op.lookupswitch.offset ps.toList dflt x.toInt = off) (ht : (pc : Int) + off = (tgt : Int)) (hr : ax_R l d k (tgt, L, st, S) c2) : ax_R l d k (pc, L, .inl (.int x) :: st, S) c2 :=
  (ax_Rp (fun _ h => ax_vs_t h) (fun p e R s m args below meth c cells slots Q ad ov H locs ls hx hb hl hov kk => lv_lookup hx hb hd hp ho ht kk)).tr hr
theorem ax_nnR {off : Int} {tgt ka i : Nat} (hd : decode k.2.2.1 pc = .ok (.ifnonnull off, 3)) (hka : ¬ (ax_kd ka).1 = 9) (ht : (pc : Int) + off = (tgt : Int)) (hr : ax_R l d k (tgt, L, st, S) c2) : ax_R l d k (pc, L, .inr (ka, i) :: st, S) c2 :=
  (ax_Rp (fun _ h => ax_vs_t h) (fun p e R s m args below meth c cells slots Q ad ov H locs ls hx hb hl hov kk => by
    rw [List.map_cons, ax_cv_k hka]
    exact lv_ifnonnull hx hb hd ht kk)).tr hr
theorem ax_nnN {off : Int} (hd : decode k.2.2.1 pc = .ok (.ifnonnull off, 3)) (hr : ax_R l d k (pc + 3, L, st, S) c2) : ax_R l d k (pc, L, .inl .null :: st, S) c2 :=
  (ax_Rp (fun _ h => ax_vs_t h) (fun p e R s m args below meth c cells slots Q ad ov H locs ls hx hb hl hov kk => lv_ifnonnullN hx hb hd kk)).tr hr
theorem ax_nuR {off : Int} {ka i : Nat} (hd : decode k.2.2.1 pc = .ok (.ifnull off, 3)) (hka : ¬ (ax_kd ka).1 = 9) (hr : ax_R l d k (pc + 3, L, st, S) c2) : ax_R l d k (pc, L, .inr (ka, i) :: st, S) c2 :=
  (ax_Rp (fun _ h => ax_vs_t h) (fun p e R s m args below meth c cells slots Q ad ov H locs ls hx hb hl hov kk => by
    rw [List.map_cons, ax_cv_k hka]
    exact lv_ifnull hx hb hd kk)).tr hr
theorem ax_nuN {off : Int} {tgt : Nat} (hd : decode k.2.2.1 pc = .ok (.ifnull off, 3)) (ht : (pc : Int) + off = (tgt : Int)) (hr : ax_R l d k (tgt, L, st, S) c2) : ax_R l d k (pc, L, .inl .null :: st, S) c2 :=
  (ax_Rp (fun _ h => ax_vs_t h) (fun p e R s m args below meth c cells slots Q ad ov H locs ls hx hb hl hov kk => lv_ifnullN hx hb hd ht kk)).tr hr
end AXJ
/-! copies of rows -/
section AXY
variable {p : Program} {l : Launch} {e : Env} {R : Room} {s : State} {m : MethodId} {args : Array Value} {below : List Frame} {meth : Method} {c : Code} {H : Heap} {locs : List Loc} {cells slots : Nat} {Q : State → Prop}
variable {cc : ByteArray} {pc : Nat} {ls : Array Slot} {rest : List Value} {D : va_G} {cl : List vw_C} {A : Nat → Prop} {a : Nat} {tys : List (ClassId × FieldType)} {ws : va_W} {H0 : Heap}
theorem ax_nn {z : Int32} (h : ¬ z < 0) : z.toInt = (z.toNatClampNeg : Int) := by
  have h0 : (0 : Int) ≤ z.toInt := by
    have := Int32.not_lt.mp h
    simpa using Int32.le_iff_toInt_le.mp this
  show z.toInt = ((z.toInt.toNat : Nat) : Int)
  omega
/-- out of a row of ints that nobody writes -/
theorem ax_copyT (hexec : p.tables.exec = Jvm.exec) (hb : c.code = cc) (hml : c.maxLocals = ls.size) {own : String} {index : Nat} (hown : s.vm.findClass own = some m.cls) (hlink : (Cond.methodLink own index arraycopyName).before args s = true) (hnat : (Cond.native arraycopyName).before args s = true) (hstat : (Cond.static arraycopyName).before args s = true) (hini : (Cond.initialized "java/lang/System").before args s = true)
    (hK : va_K D cl tys s) (hP : va_P D cl ws H) (hD : va_D A ws) (hS : va_S A s.heap H locs) {b0 n0 : Nat} {f : Nat → Int32} (hX : va_T .int b0 n0 (fun j => .int (f j)) A s s.heap) (q1 t1 : Nat) {c1 : ClassId} {n1 : Nat} {g : Nat → Int32} (ha1 : ws[q1]? = some (a, .inl (c1, n1, .inl g))) (ht1 : tys[t1]? = some (c1, .int))
    {sp dp n : Int32} (h1 : ¬ sp < 0) (h2 : ¬ dp < 0) (h3 : ¬ n < 0) (h4 : sp.toNatClampNeg + n.toNatClampNeg ≤ n0) (h5 : dp.toNatClampNeg + n.toNatClampNeg ≤ n1)
    (hframes : 1 ≤ R.frames) (hlocals : (rest.map fun v => v.category).sum + (nativeFrameWords "java/lang/System" "arraycopy" 5 + 11) ≤ R.locals) (hdg : decode cc pc = .ok (.invokestatic index, 3))
    (kk : ∀ (H1 : Heap) (locs1 : List Loc), va_P D cl (ws.set q1 (a, .inl (c1, n1, .inl (va_cpy f g sp.toNatClampNeg dp.toNatClampNeg n.toNatClampNeg)))) H1 → va_D A (ws.set q1 (a, .inl (c1, n1, .inl (va_cpy f g sp.toNatClampNeg dp.toNatClampNeg n.toNatClampNeg)))) → va_S A s.heap H1 locs1 → W p l e R s m args below meth c H1 locs1 cells slots Q (F0 m (pc + 3) ls rest)) : W p l e R s m args below meth c H locs cells slots Q (F0 m pc ls (.int n :: .int dp :: .ref a :: .int sp :: .ref b0 :: rest)) := by
  intro T hT X
  obtain ⟨src, e1, ⟨e2, k0, e3, cm0, e4⟩, e5, e6, -, e7, e8⟩ := hX
  have hsrc : H[b0]? = some src := (hS.2.1 b0 (Array.getElem?_eq_some_iff.mp e1).1 e8).trans e1
  have hdst : H[a]? = some (vp_cell c1 (n1, .inl g)) := hP q1 _ ha1
  obtain ⟨-, k1, f1, cm1, f2⟩ := (hK.2 t1 _ ht1).1 n1 (fun j => .int (g j))
  have hcopy : copied src (vp_cell c1 (n1, .inl g)) sp dp n = vp_cell c1 (n1, .inl (va_cpy f g sp.toNatClampNeg dp.toNatClampNeg n.toNatClampNeg)) := va_copiedX (fun z => .int z) src c1 f g e7 h4
  obtain ⟨vm', X', step⟩ := X.arraycopy hexec hown hlink hnat hstat hini (src := b0) (dst := a) (cs := src) (cd := vp_cell c1 (n1, .inl g)) (srcPos := sp) (destPos := dp) (n := n) (by rw [hT]; exact hsrc) (by rw [hT]; exact hdst) e2 (fun _ h => by cases h) e5 (fun h => by cases h) e3 f1 e4 f2 (by simp [refKind]) h1 h2 h3
    (by rw [ax_nn h1, ax_nn h3]; omega)
    (by rw [ax_nn h2, ax_nn h3]; show ¬ _ > ((arrV c1 n1 (fun j => .int (g j))).slots.size : Int); rw [arrV_size]; omega)
    (fun vm₁ _ i hi => by
      have ev : src.slots.getD (sp.toNatClampNeg + i) .null = .int (f (sp.toNatClampNeg + i)) := by
        rw [Array.getD_eq_getD_getElem?, e7 _ (by omega)]
        rfl
      rw [ev]
      exact ⟨rfl, trivial⟩)
    (g := F0 m pc ls (.int n :: .int dp :: .ref a :: .int sp :: .ref b0 :: rest)) rfl (by rw [hml]) (rest := rest) rfl (by rw [hb]; exact hdg) hframes (by show 2 * 0 + _ + _ ≤ _; omega)
  rw [hcopy] at X' step
  have hlt : a < H.size := (Array.getElem?_eq_some_iff.mp hdst).1
  have hoth : ∀ q : Nat, q ≠ a → (H.setIfInBounds a (vp_cell c1 (n1, .inl (va_cpy f g sp.toNatClampNeg dp.toNatClampNeg n.toNatClampNeg))))[q]? = H[q]? := fun q hq => by simp [Array.getElem?_setIfInBounds, Ne.symm hq]
  have hAa : A a := hD.2 q1 _ ha1
  obtain ⟨t, a1, b1⟩ := kk _ _ (hP.set hD ha1 (show (H.setIfInBounds a _)[a]? = some _ by simp [Array.getElem?_setIfInBounds, hlt]) hoth) (hD.set ha1)
    ⟨by simp; exact hS.1, fun q g1 g2 => (hoth q (fun z => g2 (z ▸ hAa))).trans (hS.2.1 q g1 g2), fun q hq => by
      rcases List.mem_append.mp hq with z | z
      · exact hS.2.2 q z
      · obtain ⟨y, -, hy⟩ := List.mem_map.mp z
        rw [← hy]
        exact hAa⟩ _ (by rw [← hT]; rfl) X'
  exact ⟨t, step t a1, b1⟩
end AXY
section AXZ
variable {l : Launch} {d : Nat} {k : AM} {pc : Nat} {L L' : AL} {st st' : List AV} {S S' : AS} {c2 : AC}
def ax_ct1 (v : AV) : Nat := match v with
  | .inl (.long _) => 2
  | _ => 1
def ax_cats (st : List AV) : Nat := (st.map ax_ct1).sum
theorem ax_cats_le {ad : Nat → Nat → Nat} {ov : Value} (hov : ov = .null ∨ ∃ t, ov = .ref t) {st : List AV} (hv : ax_vs st) : ((st.map (ax_cv ad ov)).map fun v => v.category).sum ≤ ax_cats st := by
  induction st with
  | nil => exact Nat.le_refl _
  | cons v r ih =>
    have h := ih (ax_vs_t hv)
    have h0 : (ax_cv ad ov v).category ≤ ax_ct1 v := by
      rcases v with x | o
      · cases x <;> first | exact Nat.le_refl _ | exact absurd rfl ((ax_vs_h hv).2 _)
      · rw [ax_cat_r hov]
        exact Nat.le_refl _
    simp only [List.map_cons, List.sum_cons, ax_cats] at h ⊢
    omega
theorem ax_ce_cpy {ad : Nat → Nat → Nat} {ov : Value} {cy : Nat → ClassId} {S : AS} {k i sp dp n : Nat} {f : Nat → Int32} (h : (ax_kd k).1 = 1) (h3 : (ax_kd k).2.1 < 3) : ax_ce ad ov cy (ax_cpy S k i f sp dp n) k i = .inl (cy (ax_kd k).2.1, ax_ln S k i, .inl (va_cpy f (ax_ai S k i) sp dp n)) := by
  rw [ax_ce_i h h3]
  have e1 : ax_ln (ax_cpy S k i f sp dp n) k i = ax_ln S k i := rfl
  have e2 : ax_ai (ax_cpy S k i f sp dp n) k i = va_cpy f (ax_ai S k i) sp dp n := by
    funext j
    show (if k = k ∧ i = i then va_cpy f (S.2.2.2.2.1 k i) sp dp n j else S.2.2.2.2.1 k i j) = _
    rw [if_pos ⟨rfl, rfl⟩]
    rfl
  rw [e1, e2]
theorem ax_cpy_o {S : AS} {k i sp dp n a b : Nat} {f : Nat → Int32} (h : ¬ (a = k ∧ b = i)) : ax_ai (ax_cpy S k i f sp dp n) a b = ax_ai S a b := by
  funext j
  show (if a = k ∧ b = i then va_cpy f (S.2.2.2.2.1 k i) sp dp n j else S.2.2.2.2.1 a b j) = _
  rw [if_neg h]
  rfl
theorem ax_acopy {idx k0 i0 k1 i1 : Nat} {sp dp n : Int32} {rest : List AV} (hd : decode k.2.2.1 pc = .ok (.invokestatic idx, 3)) (hl : Cond.methodLink k.1.2.1 idx arraycopyName ∈ ax_tb) (h0 : ((ax_kd k0).1 = 1 ∨ (ax_kd k0).1 = 2) ∧ (ax_kd k0).2.1 = 0) (h1 : (ax_kd k1).1 = 1 ∧ (ax_kd k1).2.1 = 0)
    (hs : ¬ sp < 0) (hp : ¬ dp < 0) (hn : ¬ n < 0) (h4 : sp.toNatClampNeg + n.toNatClampNeg ≤ ax_ln S k0 i0) (h5 : dp.toNatClampNeg + n.toNatClampNeg ≤ ax_ln S k1 i1) (hc : ax_cats rest ≤ 8)
    (hr : ax_R l (d + 1) k (pc + 3, L, rest, ax_cpy S k1 i1 (ax_rd S k0 i0) sp.toNatClampNeg dp.toNatClampNeg n.toNatClampNeg) c2) :
    ax_R l (d + 1) k (pc, L, .inl (.int n) :: .inl (.int dp) :: .inr (k1, i1) :: .inl (.int sp) :: .inr (k0, i0) :: rest, S) c2 := by
  intro p e R s m args below meth c cells slots Q A ad ov dC dI cy Ln xs hx hcc hss hk H locs ls hi
  have hr' := hr p e R s m args below meth c cells slots Q A ad ov dC dI cy Ln xs hx hcc hss hk
  obtain ⟨⟨v1, v2, v3⟩, ⟨w1, w2, w3⟩, ⟨l1, l2⟩, sc⟩ := hi
  have hi1 : i1 < ax_cn k1 := ax_vs_r (ax_vs_t (ax_vs_t v2))
  have hi0 : i0 < ax_cn k0 := ax_vs_r (ax_vs_t (ax_vs_t (ax_vs_t (ax_vs_t v2))))
  have v9 : ax_vs rest := ax_vs_t (ax_vs_t (ax_vs_t (ax_vs_t (ax_vs_t v2))))
  show W p l e R s m args below meth c H locs cells slots Q (F0 m pc ls (.int n :: .int dp :: ax_cv ad ov (.inr (k1, i1)) :: .int sp :: ax_cv ad ov (.inr (k0, i0)) :: rest.map (ax_cv ad ov)))
  rw [ax_cv_k (k := k1) (by omega), ax_cv_k (k := k0) (by omega)]
  obtain ⟨q, ho, hq⟩ := ax_gw_at (ad := ad) (ov := ov) (cy := cy) S (show (ax_kd k1).1 ≤ 1 by omega) hi1
  rw [ax_ce_i h1.1 (by omega), h1.2] at hq
  have hg := ax_gw_set (ad := ad) (ov := ov) (cy := cy) (S := S) ho (ax_ce_cpy (S := S) (f := ax_rd S k0 i0) (sp := sp.toNatClampNeg) (dp := dp.toNatClampNeg) (n := n.toNatClampNeg) h1.1 (by omega)) (fun a b h => ax_ce_congr rfl rfl rfl rfl (ax_cpy_o h) rfl)
  rw [h1.2] at hg
  have hfin : ∀ (H1 : Heap) (locs1 : List Loc), va_P (dC, dI) vwCl ((ax_gw ad ov cy S).set q (ad k1 i1, .inl (cy 0, ax_ln S k1 i1, .inl (va_cpy (ax_rd S k0 i0) (ax_ai S k1 i1) sp.toNatClampNeg dp.toNatClampNeg n.toNatClampNeg)))) H1 → va_D A ((ax_gw ad ov cy S).set q (ad k1 i1, .inl (cy 0, ax_ln S k1 i1, .inl (va_cpy (ax_rd S k0 i0) (ax_ai S k1 i1) sp.toNatClampNeg dp.toNatClampNeg n.toNatClampNeg)))) → va_S A s.heap H1 locs1 → W p l e R s m args below meth c H1 locs1 cells slots Q (F0 m (pc + 3) ls (rest.map (ax_cv ad ov))) := by
    intro H1 locs1 p1 p2 p3
    rw [hg] at p1 p2
    exact hr' H1 locs1 ls ⟨⟨v1, v9, v3⟩, ⟨p1, p2, p3⟩, ⟨l1, l2⟩, ax_Sc_of sc rfl (ax_cpy_o (ax_no (by omega)))⟩
  have hcat := Nat.le_trans (ax_cats_le (ad := ad) hx.2.2.2.2.2.2.2.2.2.2 v9) hc
  have hnw : nativeFrameWords "java/lang/System" "arraycopy" 5 ≤ 40 := by decide +kernel
  have hfr := hx.2.2.2.2.2.2.1
  have hlo : ((rest.map (ax_cv ad ov)).map fun v => v.category).sum + (nativeFrameWords "java/lang/System" "arraycopy" 5 + 11) ≤ R.locals := by omega
  have hml : c.maxLocals = ls.size := by rw [hx.2.2.1, l1.1]
  have hts := hx.2.2.2.2.1
  have hY := ax_Y
  rcases h0.1 with h9 | h9
  · obtain ⟨q0, -, hq0⟩ := ax_gw_at (ad := ad) (ov := ov) (cy := cy) S (show (ax_kd k0).1 ≤ 1 by omega) hi0
    rw [ax_ce_i h9 (by omega), h0.2] at hq0
    have er : ax_rd S k0 i0 = ax_ai S k0 i0 := funext fun j => ax_rd_1 h9
    rw [er] at hfin
    exact va_copyi hx.1 hx.2.1 hml hx.2.2.2.1 (hts _ hl) (hts _ hY.1) (hts _ hY.2.1) (hts _ hY.2.2) hx.2.2.2.2.2.2.2.2.1 w1 w2 w3 q0 q 0 0 hq0 hq rfl rfl rfl hs hp hn h4 h5 (fun _ _ => rfl) (by omega) hlo hd hfin
  · exact ax_copyT hx.1 hx.2.1 hml hx.2.2.2.1 (hts _ hl) (hts _ hY.1) (hts _ hY.2.1) (hts _ hY.2.2) hx.2.2.2.2.2.2.2.2.1 w1 w2 w3 (ax_ti hx.2.2.2.2.2.2.2.2.2.1 sc h9 h0.2 hi0) q 0 hq rfl hs hp hn h4 h5 (by omega) hlo hd hfin
end AXZ

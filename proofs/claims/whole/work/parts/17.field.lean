/-! STEPS: fields written, constants; then any step -/
section AXF
variable {l : Launch} {d : Nat} {k : AM} {pc : Nat} {L L' : AL} {st st' : List AV} {S S' : AS}
theorem ax_vS_of {ka i sl : Nat} {av : AV} (h1 : (ax_kd ka).1 = 0) (hv : ax_fv S' ka i (ax_kd ka).2.1 sl = av) (ho : ∀ j, j ≠ sl → ax_fv S' ka i (ax_kd ka).2.1 j = ax_fv S ka i (ax_kd ka).2.1 j) (hoo : ∀ a b c j, ¬ (a = ka ∧ b = i) → ax_fv S' a b c j = ax_fv S a b c j) (h : ax_vS S) (hav : ax_vv av) : ax_vS S' := by
  intro a b j ha hb hj
  by_cases hab : a = ka ∧ b = i
  · obtain ⟨rfl, rfl⟩ := hab
    by_cases hjs : j = sl
    · subst hjs
      rw [hv]
      exact hav
    · rw [ho j hjs]
      exact h a b j ha hb hj
  · rw [hoo a b _ j hab]
    exact h a b j ha hb hj
theorem ax_putR {n ka i sl : Nat} {r : List AV} {av : AV} (hd : decode k.2.2.1 pc = .ok (.putfield n, 3)) (hm : (n, (ax_kd ka).2.1, sl) ∈ k.1.2.2.1) (h1 : (ax_kd ka).1 = 0) (h3 : sl < ax_nf (ax_kd ka).2.1)
    (hv : ax_fv S' ka i (ax_kd ka).2.1 sl = av) (ho : ∀ j, j ≠ sl → ax_fv S' ka i (ax_kd ka).2.1 j = ax_fv S ka i (ax_kd ka).2.1 j) (hoo : ∀ a b c j, ¬ (a = ka ∧ b = i) → ax_fv S' a b c j = ax_fv S a b c j)
    (hce : ∀ (ad : Nat → Nat → Nat) (ov : Value) (cy : Nat → ClassId) (a b : Nat), ¬ (a = ka ∧ b = i) → ax_ce ad ov cy S' a b = ax_ce ad ov cy S a b)
    (hsx : ax_fx S' 67 0 = ax_fx S 67 0) (hsa : ax_ai S' 67 0 = ax_ai S 67 0) (ht : ¬ (ax_fs (ax_kd ka).2.1 sl).1 = 2 ∧ ¬ (ax_fs (ax_kd ka).2.1 sl).1 = 3)
    (hty : ∀ (ad : Nat → Nat → Nat) (ov : Value) (ty : FieldType), ax_tyk (ax_fs (ax_kd ka).2.1 sl).1 ty = true → (ov = .null ∨ ∃ t, ov = .ref t) → narrow ty (ax_cv ad ov av) = ax_cv ad ov av ∧ fits ty (ax_cv ad ov av) = true) :
    ax_R l d k (pc, L, av :: .inr (ka, i) :: r, S) (pc + 3, L, r, S') := by
  intro p e R s m args below meth c cells slots Q A ad ov dC dI cy Ln xs hx _ _ hk H locs ls hi
  obtain ⟨⟨v1, v2, v3⟩, ⟨w1, w2, w3⟩, ⟨l1, l2⟩, sc⟩ := hi
  have hi0 : i < ax_cn ka := ax_vs_r (ax_vs_t v2)
  show W p l e R s m args below meth c H locs cells slots Q (F0 m pc ls (ax_cv ad ov av :: ax_cv ad ov (.inr (ka, i)) :: r.map (ax_cv ad ov)))
  rw [ax_cv_k (k := ka) (by omega)]
  obtain ⟨q, hob, hq⟩ := ax_gw_at (ad := ad) (ov := ov) (cy := cy) S (show (ax_kd ka).1 ≤ 1 by omega) hi0
  have hg := ax_gw_set (ad := ad) (ov := ov) (cy := cy) (S := S) hob (ax_ce_put (ad := ad) (ov := ov) (cy := cy) (S := S) h1 hv ho) (fun a b h => hce ad ov cy a b h)
  have he : ax_ce ad ov cy S ka i = .inr ((ax_kd ka).2.1, (List.range (ax_nf (ax_kd ka).2.1)).map (fun j => ax_cv ad ov (ax_fv S ka i (ax_kd ka).2.1 j))) := if_pos h1
  rw [he] at hq
  obtain ⟨⟨C, T, N⟩, ty0, hr, c1, c2, c3, c4, c5⟩ := ax_T2 _ (ax_kd0_small ka (ax_kd_lt (by omega)) h1)
  have hw := ax_T1 k.1 hx.2.2.2.2.2.1.1 _ hm
  unfold ax_fw ax_TN at hw
  dsimp only at hw
  rw [hr] at hw
  dsimp only at hw c1 c2 c3 c4 c5
  have hN : sl < N := by rw [c2]; exact h3
  obtain ⟨t1, t2⟩ := c5 sl hN
  have hfin : (T sl).2.2.2 = false := by
    rcases t2 with t | t | t
    · exact absurd t ht.1
    · exact absurd t ht.2
    · exact t
  have hnf := hty ad ov (ty0 sl) t1 hx.2.2.2.2.2.2.2.2.2.2
  refine va_put (D := (dC, dI)) (cl := vwCl) (ws := ax_gw ad ov cy S) (ref := (T sl).1) hx.1 hx.2.1 hx.2.2.2.2.1 c1 ty0 c3 c4 hx.2.2.2.1 hx.2.2.2.2.2.2.2.2.1 w1 w2 w3 q hq hr sl hN (hx.2.2.2.2.1 _ hw) (fun _ h9 => h9) hfin (c3 sl hN) hnf.1 hnf.2 (by simpa using h3) hd (fun H1 locs1 p1 p2 p3 => ?_)
  rw [hg] at p1 p2
  exact hk H1 locs1 ls ⟨⟨v1, ax_vs_t (ax_vs_t v2), ax_vS_of h1 hv ho hoo v3 (ax_vs_h v2)⟩, ⟨p1, p2, p3⟩, ⟨l1, l2⟩, ax_Sc_of sc hsx hsa⟩
theorem ax_fv_congr {S S' : AS} {a b c j : Nat} (h1 : ax_fi S' a b j = ax_fi S a b j) (h2 : ax_fl S' a b j = ax_fl S a b j) (h3 : ax_fx S' a b j = ax_fx S a b j) (h4 : ax_fo S' a b j = ax_fo S a b j) : ax_fv S' a b c j = ax_fv S a b c j := by
  unfold ax_fv
  rw [h1, h2, h3, h4]
theorem ax_fs_eta {c sl t : Nat} (h : (ax_fs c sl).1 = t) : ax_fs c sl = (t, (ax_fs c sl).2.1, (ax_fs c sl).2.2) := by
  rw [← h]
theorem ax_s_putfield {n : Nat} (hd : decode k.2.2.1 pc = .ok (.putfield n, 3)) (h : ax_put k.1 n L st S = some (L', st', S')) : ax_R l d k (pc, L, st, S) (pc + 3, L', st', S') := by
  unfold ax_put at h
  split at h
  · next cc sl v ka i r hf =>
    have hm := ax_lf_mem hf
    split at h
    · next hc =>
      obtain ⟨h1, h2, h3⟩ := hc
      subst h2
      have n67 : ¬ (67 = ka ∧ 0 = i) := ax_no (by omega)
      split at h
      · next a b x e =>
        cases h
        refine ax_putR hd hm h1 h3 (by unfold ax_fv; rw [e]; show Sum.inl (Value.int (ax_u3 _ ka i sl x ka i sl)) = _; rw [ax_u3_s]) (fun j hj => ax_fv_congr (ax_u3_n hj) rfl rfl rfl) (fun a b c j hab => ax_fv_congr (congrFun (ax_u3_o hab) j) rfl rfl rfl) (fun ad ov cy a b hab => ax_ce_congr (ax_u3_o hab) rfl rfl rfl rfl rfl) rfl rfl ⟨fun z => by (rw [e] at z; cases z), fun z => by (rw [e] at z; cases z)⟩ (fun ad ov ty hty _ => ?_)
        rw [e] at hty
        cases ty <;> first | exact ⟨rfl, rfl⟩ | cases hty
      · next a b x e =>
        split at h
        · next hx01 =>
          cases h
          refine ax_putR hd hm h1 h3 (by unfold ax_fv; rw [e]; show Sum.inl (Value.int (ax_u3 _ ka i sl x ka i sl)) = _; rw [ax_u3_s]) (fun j hj => ax_fv_congr (ax_u3_n hj) rfl rfl rfl) (fun a b c j hab => ax_fv_congr (congrFun (ax_u3_o hab) j) rfl rfl rfl) (fun ad ov cy a b hab => ax_ce_congr (ax_u3_o hab) rfl rfl rfl rfl rfl) rfl rfl ⟨fun z => by (rw [e] at z; cases z), fun z => by (rw [e] at z; cases z)⟩ (fun ad ov ty hty _ => ?_)
          rw [e] at hty
          cases ty <;> first | (rcases hx01 with rfl | rfl <;> exact ⟨rfl, rfl⟩) | cases hty
        · cases h
      · next a b x e =>
        cases h
        refine ax_putR hd hm h1 h3 (by unfold ax_fv; rw [e]; show Sum.inl (Value.long (ax_u3 _ ka i sl x ka i sl)) = _; rw [ax_u3_s]) (fun j hj => ax_fv_congr rfl (ax_u3_n hj) rfl rfl) (fun a b c j hab => ax_fv_congr rfl (congrFun (ax_u3_o hab) j) rfl rfl) (fun ad ov cy a b hab => ax_ce_congr rfl (ax_u3_o hab) rfl rfl rfl rfl) rfl rfl ⟨fun z => by (rw [e] at z; cases z), fun z => by (rw [e] at z; cases z)⟩ (fun ad ov ty hty _ => ?_)
        rw [e] at hty
        cases ty <;> first | exact ⟨rfl, rfl⟩ | cases hty
      · next q b q' x e =>
        split at h
        · next hqq =>
          subst hqq
          cases h
          refine ax_putR hd hm h1 h3 (by unfold ax_fv; rw [e]; show Sum.inr (q', ax_u3 _ ka i sl x ka i sl) = _; rw [ax_u3_s]) (fun j hj => ax_fv_congr rfl rfl (ax_u3_n hj) rfl) (fun a b c j hab => ax_fv_congr rfl rfl (congrFun (ax_u3_o hab) j) rfl) (fun ad ov cy a b hab => ax_ce_congr rfl rfl (ax_u3_o hab) rfl rfl rfl) (ax_u3_o n67) rfl ⟨fun z => by (rw [e] at z; cases z), fun z => by (rw [e] at z; cases z)⟩ (fun ad ov ty hty hov => ?_)
          rw [e] at hty
          rcases ax_cv_r (ad := ad) hov (q', x) with ez | ⟨t, ez⟩ <;> rw [ez] <;> cases ty <;> first | exact ⟨rfl, rfl⟩ | cases hty
        · cases h
      · next a b e =>
        cases h
        have he : ax_fo (ax_sfo S ka i sl none) ka i sl = none := ax_u3_s
        refine ax_putR hd hm h1 h3 (by simp only [ax_fv, e, he]) (fun j hj => ax_fv_congr rfl rfl rfl (ax_u3_n hj)) (fun a b c j hab => ax_fv_congr rfl rfl rfl (congrFun (ax_u3_o hab) j)) (fun ad ov cy a b hab => ax_ce_congr rfl rfl rfl (ax_u3_o hab) rfl rfl) rfl rfl ⟨fun z => by (rw [e] at z; cases z), fun z => by (rw [e] at z; cases z)⟩ (fun ad ov ty hty _ => ?_)
        rw [e] at hty
        cases ty <;> first | exact ⟨rfl, rfl⟩ | cases hty
      · next q b q' x e =>
        split at h
        · next hqq =>
          subst hqq
          cases h
          have he : ax_fo (ax_sfo S ka i sl (some x)) ka i sl = some x := ax_u3_s
          refine ax_putR hd hm h1 h3 (by simp only [ax_fv, e, he]) (fun j hj => ax_fv_congr rfl rfl rfl (ax_u3_n hj)) (fun a b c j hab => ax_fv_congr rfl rfl rfl (congrFun (ax_u3_o hab) j)) (fun ad ov cy a b hab => ax_ce_congr rfl rfl rfl (ax_u3_o hab) rfl rfl) rfl rfl ⟨fun z => by (rw [e] at z; cases z), fun z => by (rw [e] at z; cases z)⟩ (fun ad ov ty hty hov => ?_)
          rw [e] at hty
          rcases ax_cv_r (ad := ad) hov (q', x) with ez | ⟨t, ez⟩ <;> rw [ez] <;> cases ty <;> first | exact ⟨rfl, rfl⟩ | cases hty
        · cases h
      · cases h
    · cases h
  · cases h
theorem ax_s_getstatic {n : Nat} (hd : decode k.2.2.1 pc = .ok (.getstatic n, 3)) (h : ax_cst k.1.2.2.2.2 n L st S = some (L', st', S')) (hv : ∀ v, (n, v) ∈ k.1.2.2.2.2 → ax_vv v) : ax_R l d k (pc, L, st, S) (pc + 3, L', st', S') := by
  unfold ax_cst at h
  split at h
  · next v hl =>
    cases h
    have hm := ax_lk_mem hl
    intro p e R s m args below meth c cells slots Q A ad ov dC dI cy Ln xs hx _ _ hk H locs ls hi
    obtain ⟨⟨v1, v2, v3⟩, ⟨w1, w2, w3⟩, ⟨l1, l2⟩, sc⟩ := hi
    have kk := hk H locs ls ⟨⟨v1, ax_vs_c (hv v hm) v2, v3⟩, ⟨w1, w2, w3⟩, ⟨l1, l2⟩, sc⟩
    obtain ⟨C, nm, ds, h1, h2⟩ := hx.2.2.2.2.2.2.2.2.2.1.2.2.1 k.1 hx.2.2.2.2.2.1.1 _ hm
    exact va_gets hx.1 hx.2.1 h2 w3 hx.2.2.2.1 (hx.2.2.2.2.1 _ h1) (fun _ h9 => h9) hd kk
  · cases h
theorem ax_T4 : ∀ K ∈ ax_KL, ∀ q ∈ K.2.2.2.2, ax_vv q.2 := by
  have h : ax_KL.all (fun K => K.2.2.2.2.all (fun q => match q.2 with | .inl (.int _) => true | .inr o => decide (o.2 < ax_cn o.1) | _ => false)) = true := by decide +kernel
  intro K hK q hq
  have h1 := List.all_eq_true.mp (List.all_eq_true.mp h K hK) q hq
  obtain ⟨n, v⟩ := q
  rcases v with x | o
  · cases x <;> first | exact ax_vv_i _ | cases h1
  · exact ax_vv_r (by simpa using h1)
theorem ax_T5 : ∀ K ∈ ax_KL, ∀ q ∈ K.2.2.2.1, ax_vv q.2 := by
  have h : ax_KL.all (fun K => K.2.2.2.1.all (fun q => match q.2 with | .inl (.int _) => true | .inl (.long _) => true | .inr o => decide (o.2 < ax_cn o.1) && decide (o.1 = 64) | _ => false)) = true := by decide +kernel
  intro K hK q hq
  have h1 := List.all_eq_true.mp (List.all_eq_true.mp h K hK) q hq
  obtain ⟨n, v⟩ := q
  rcases v with x | o
  · cases x <;> first | exact ax_vv_i _ | exact ax_vv_j _ | cases h1
  · exact ax_vv_r (by simp at h1; exact h1.1)
theorem ax_ldcWS {p : Program} {e : Env} {R : Room} {s : State} {m : MethodId} {args : Array Value} {below : List Frame} {meth : Method} {c : Code} {H : Heap} {locs : List Loc} {cells slots : Nat} {Q : State → Prop} {cc : ByteArray} {ls : Array Slot} {rest : List Value} (hexec : p.tables.exec = Jvm.exec) (hb : c.code = cc) {own tx : String} {index q : Nat} (hown : s.vm.findClass own = some m.cls) (hZ : vk_R own index tx q s) (hdg : decode cc pc = .ok (.ldc_w index, 3))
    (k : W p l e R s m args below meth c H locs cells slots Q (F0 m (pc + 3) ls (.ref q :: rest))) : W p l e R s m args below meth c H locs cells slots Q (F0 m pc ls rest) := by
  intro T hT X
  obtain ⟨t, a1, b1⟩ := k T hT X
  refine ⟨t, ?_, b1⟩
  obtain ⟨kc, cf, i, a', hk, hcf, hcp, -, hr, hev'⟩ := Cond.stringRef_spec hown hZ.1
  cases hZ.2.symm.trans hev'
  obtain ⟨k', hk', he⟩ := X.warmed.alike.2.2 _ _ hk
  have hr' : k'.resolved[index]? = some (some (.string q)) := by
    rcases X.warmed.entry hk hk' index with h | ⟨h, -⟩
    · rw [h]; exact hr
    · rw [hr] at h; cases h
  have hdg' : decode c.code (F0 m pc ls rest).pc = .ok (.ldc_w index, 3) := by rw [hb]; exact hdg
  jvm_step X.here [hexec, hdg', ldc_w.wp_string (e := e) (s := T) (f := F0 m pc ls rest) X.here.top hk' (by rw [he]; exact hcf) hcp hr']
  exact a1
theorem ax_s_ldc {n : Nat} (hd : decode k.2.2.1 pc = .ok (.ldc n, 2)) (h : ax_cs1 k.1.2.2.2.1 n L st S = some (L', st', S')) : ax_R l d k (pc, L, st, S) (pc + 2, L', st', S') := by
  unfold ax_cs1 at h
  split at h
  · next x hl =>
    cases h
    have hm := ax_lk_mem hl
    intro p e R s m args below meth c cells slots Q A ad ov dC dI cy Ln xs hx _ _ hk H locs ls hi
    obtain ⟨⟨v1, v2, v3⟩, ⟨w1, w2, w3⟩, ⟨l1, l2⟩, sc⟩ := hi
    have kk := hk H locs ls ⟨⟨v1, ax_vs_c (ax_T5 k.1 hx.2.2.2.2.2.1.1 _ hm) v2, v3⟩, ⟨w1, w2, w3⟩, ⟨l1, l2⟩, sc⟩
    rcases hx.2.2.2.2.2.2.2.2.2.1.2.2.2.1 k.1 hx.2.2.2.2.2.1.1 _ hm with ⟨x, e, h1⟩ | ⟨x, e, h1⟩ | ⟨y, tx, e, h1⟩
    · cases e
      exact lv_ldc hx.1 hx.2.1 hx.2.2.2.1 (hx.2.2.2.2.1 _ h1) hd kk
    · cases e
    · cases e
  · next o hl =>
    cases h
    have hm := ax_lk_mem hl
    intro p e R s m args below meth c cells slots Q A ad ov dC dI cy Ln xs hx _ _ hk H locs ls hi
    obtain ⟨⟨v1, v2, v3⟩, ⟨w1, w2, w3⟩, ⟨l1, l2⟩, sc⟩ := hi
    have kk := hk H locs ls ⟨⟨v1, ax_vs_c (ax_T5 k.1 hx.2.2.2.2.2.1.1 _ hm) v2, v3⟩, ⟨w1, w2, w3⟩, ⟨l1, l2⟩, sc⟩
    rcases hx.2.2.2.2.2.2.2.2.2.1.2.2.2.1 k.1 hx.2.2.2.2.2.1.1 _ hm with ⟨x, e, h1⟩ | ⟨x, e, h1⟩ | ⟨y, tx, e, h1⟩
    · cases e
    · cases e
    · cases e
      exact va_ldcS hx.1 hx.2.1 hx.2.2.2.1 h1 hd kk
  · cases h
theorem ax_s_ldc_w {n : Nat} (hd : decode k.2.2.1 pc = .ok (.ldc_w n, 3)) (h : ax_cs1 k.1.2.2.2.1 n L st S = some (L', st', S')) : ax_R l d k (pc, L, st, S) (pc + 3, L', st', S') := by
  unfold ax_cs1 at h
  split at h
  · next x hl =>
    cases h
    have hm := ax_lk_mem hl
    intro p e R s m args below meth c cells slots Q A ad ov dC dI cy Ln xs hx _ _ hk H locs ls hi
    obtain ⟨⟨v1, v2, v3⟩, ⟨w1, w2, w3⟩, ⟨l1, l2⟩, sc⟩ := hi
    have kk := hk H locs ls ⟨⟨v1, ax_vs_c (ax_T5 k.1 hx.2.2.2.2.2.1.1 _ hm) v2, v3⟩, ⟨w1, w2, w3⟩, ⟨l1, l2⟩, sc⟩
    rcases hx.2.2.2.2.2.2.2.2.2.1.2.2.2.1 k.1 hx.2.2.2.2.2.1.1 _ hm with ⟨x, e, h1⟩ | ⟨x, e, h1⟩ | ⟨y, tx, e, h1⟩
    · cases e
      exact lv_ldcw hx.1 hx.2.1 hx.2.2.2.1 (hx.2.2.2.2.1 _ h1) hd kk
    · cases e
    · cases e
  · next o hl =>
    cases h
    have hm := ax_lk_mem hl
    intro p e R s m args below meth c cells slots Q A ad ov dC dI cy Ln xs hx _ _ hk H locs ls hi
    obtain ⟨⟨v1, v2, v3⟩, ⟨w1, w2, w3⟩, ⟨l1, l2⟩, sc⟩ := hi
    have kk := hk H locs ls ⟨⟨v1, ax_vs_c (ax_T5 k.1 hx.2.2.2.2.2.1.1 _ hm) v2, v3⟩, ⟨w1, w2, w3⟩, ⟨l1, l2⟩, sc⟩
    rcases hx.2.2.2.2.2.2.2.2.2.1.2.2.2.1 k.1 hx.2.2.2.2.2.1.1 _ hm with ⟨x, e, h1⟩ | ⟨x, e, h1⟩ | ⟨y, tx, e, h1⟩
    · cases e
    · cases e
    · cases e
      exact ax_ldcWS hx.1 hx.2.1 hx.2.2.2.1 h1 hd kk
  · cases h
theorem ax_s_ldc2 {n : Nat} (hd : decode k.2.2.1 pc = .ok (.ldc2_w n, 3)) (h : ax_cs2 k.1.2.2.2.1 n L st S = some (L', st', S')) : ax_R l d k (pc, L, st, S) (pc + 3, L', st', S') := by
  unfold ax_cs2 at h
  split at h
  · next x hl =>
    cases h
    have hm := ax_lk_mem hl
    intro p e R s m args below meth c cells slots Q A ad ov dC dI cy Ln xs hx _ _ hk H locs ls hi
    obtain ⟨⟨v1, v2, v3⟩, ⟨w1, w2, w3⟩, ⟨l1, l2⟩, sc⟩ := hi
    have kk := hk H locs ls ⟨⟨v1, ax_vs_c (ax_T5 k.1 hx.2.2.2.2.2.1.1 _ hm) v2, v3⟩, ⟨w1, w2, w3⟩, ⟨l1, l2⟩, sc⟩
    rcases hx.2.2.2.2.2.2.2.2.2.1.2.2.2.1 k.1 hx.2.2.2.2.2.1.1 _ hm with ⟨x, e, h1⟩ | ⟨x, e, h1⟩ | ⟨y, tx, e, h1⟩
    · cases e
    · cases e
      exact lv_ldc2 hx.1 hx.2.1 hx.2.2.2.1 (hx.2.2.2.2.1 _ h1) hd kk
    · cases e
  · cases h
/-- ANY STEP that goes on behind itself -/
theorem ax_step {i : Instr} (hok : k.1 ∈ ax_KL) (hd : decode k.2.2.1 pc = .ok (i, ax_il i)) (h : ax_one k.1 i L st S = some (L', st', S')) : ax_R l d k (pc, L, st, S) (pc + ax_il i, L', st', S') := by
  cases i with
  | aconst_null => exact ax_s_null hd h
  | aload_n n => exact ax_s_aload_n hd h
  | aload n => exact ax_s_aload hd h
  | astore_n n => exact ax_s_astore_n hd h
  | astore n => exact ax_s_astore hd h
  | iload_n n => exact ax_s_iload_n hd h
  | iload n => exact ax_s_iload hd h
  | istore_n n => exact ax_s_istore_n hd h
  | istore n => exact ax_s_istore hd h
  | lload_n n => exact ax_s_lload_n hd h
  | lload n => exact ax_s_lload hd h
  | lstore_n n => exact ax_s_lstore_n hd h
  | lstore n => exact ax_s_lstore hd h
  | iinc n z => exact ax_s_iinc hd h
  | iconst n => exact ax_s_iconst hd h
  | bipush n => exact ax_s_bipush hd h
  | sipush n => exact ax_s_sipush hd h
  | lconst n => exact ax_s_lconst hd h
  | ldc n => exact ax_s_ldc hd h
  | ldc_w n => exact ax_s_ldc_w hd h
  | ldc2_w n => exact ax_s_ldc2 hd h
  | getstatic n => exact ax_s_getstatic hd h (fun v hv => ax_T4 k.1 hok _ hv)
  | getfield n => exact ax_s_getfield hd h
  | putfield n => exact ax_s_putfield hd h
  | iaload => exact ax_s_iaload hd h
  | baload => exact ax_s_baload hd h
  | laload => exact ax_s_laload hd h
  | aaload => exact ax_s_aaload hd h
  | iastore => exact ax_s_iastore hd h
  | bastore => exact ax_s_bastore hd h
  | lastore => exact ax_s_lastore hd h
  | arraylength => exact ax_s_len hd h
  | dup => exact ax_s_dup hd h
  | dup2 => exact ax_s_dup2 hd h
  | pop => exact ax_s_pop hd h
  | lcmp => exact ax_s_lcmp hd h
  | iadd => exact ax_s_iadd hd h
  | isub => exact ax_s_isub hd h
  | imul => exact ax_s_imul hd h
  | iand => exact ax_s_iand hd h
  | ior => exact ax_s_ior hd h
  | ixor => exact ax_s_ixor hd h
  | ishl => exact ax_s_ishl hd h
  | ishr => exact ax_s_ishr hd h
  | iushr => exact ax_s_iushr hd h
  | idiv => exact ax_s_idiv hd h
  | irem => exact ax_s_irem hd h
  | ineg => exact ax_s_ineg hd h
  | i2b => exact ax_s_i2b hd h
  | i2c => exact ax_s_i2c hd h
  | i2l => exact ax_s_i2l hd h
  | l2i => exact ax_s_l2i hd h
  | ladd => exact ax_s_ladd hd h
  | lsub => exact ax_s_lsub hd h
  | lmul => exact ax_s_lmul hd h
  | land => exact ax_s_land hd h
  | lor => exact ax_s_lor hd h
  | ldiv => exact ax_s_ldiv hd h
  | lrem => exact ax_s_lrem hd h
  | lshl => exact ax_s_lshl hd h
  | lushr => exact ax_s_lushr hd h
  | _ => cases h
theorem ax_run {is : List Instr} (hok : k.1 ∈ ax_KL) : ∀ {pc : Nat} {L : AL} {st : List AV} {S : AS}, ax_bk k.2.2.1 pc is = true → ax_many k.1 is L st S = some (L', st', S') → ax_R l d k (pc, L, st, S) (ax_pcs pc is, L', st', S') := by
  induction is with
  | nil =>
    intro pc L st S _ h
    cases h
    exact ax_R.rf
  | cons i is ih =>
    intro pc L st S hb h
    unfold ax_bk at hb
    simp only [Bool.and_eq_true, decide_eq_true_eq] at hb
    unfold ax_many at h
    split at h
    · next L1 st1 S1 h1 => exact (ax_step hok hb.1 h1).tr (ih hb.2 h)
    · cases h
/-- a stretch of instructions -/
theorem ax_go (is : List Instr) {pc' : Nat} {c2 : AC} (hok : k.1 ∈ ax_KL) (hb : ax_bk k.2.2.1 pc is = true) (h : ax_many k.1 is L st S = some (L', st', S')) (hp : ax_pcs pc is = pc') (hr : ax_R l d k (pc', L', st', S') c2) : ax_R l d k (pc, L, st, S) c2 := by
  subst hp
  exact (ax_run hok hb h).tr hr
end AXF

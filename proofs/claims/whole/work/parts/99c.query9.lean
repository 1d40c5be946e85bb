/-! QUERIES: rests, put together -/
section
variable {S T S1 T1 : AS} {o : Nat} {H N : Nat → Nat} {W : Option (List la_C)} {M : Nat} {K : Nat → List la_C}
theorem qr_tr {x y : Option (Int32 × AS)} (hs : ax_fr jc_sc2 S S1) (ht : ax_fr jr_q T T1) (h : qr H W M K S1 T1 x y) : qr H W M K S T x y := by
  obtain ⟨r, S', T', h1, h2, h3, h4, h5⟩ := h
  exact ⟨r, S', T', h1, h2, hs.tr h3, ht.tr h4, h5⟩
theorem qr_none (h : jq o H N W M K S T) {r : Int32} : qr H W M K S T (some (r, S)) (some (r, T)) := ⟨r, S, T, rfl, rfl, ax_fr.rf, ax_fr.rf, h.2.2.2.2.1⟩
theorem rt_yL {v w x : Nat} (hv : v < H 4) (hw : w < H 4) (hx : x ≤ 3) {c : Int32} {Kc : Int32 → Int32 → Int32 → AS → Option (Int32 × AS)} {Kr : Int32 → Int32 → Int32 → Int32 → Int32 → AS → Option (Int32 × AS)} (hK : ∀ m S T, jq o H N W M K S T → pr_ok S H W N v w 4 → qr H W M K S T (Kc c m (nI x) S) (Kr (nI v) (nI w) c m (nI x) T)) : ∀ d n y (m : Int32) S T, jq o H N W M K S T → pr_ok S H W N v w 4 → y + d = 4 → d < n → qr H W M K S T (f_X11_rests_L73 Kc n c m (nI x) (nI y) S) (f_X12_rests_L36 Kr n (nI v) (nI w) c m (nI x) (nI y) T)
  | 0, n + 1, y, m, S, T, h, hr, hy, _ => by
    obtain rfl : y = 4 := by omega
    rw [f_X11_rests_L73, f_X12_rests_L36, if_pos (by decide : (3 : Int32) < nI 4), if_pos (by decide : (4 : Int32) ≤ nI 4)]
    exact hK m S T h hr
  | d + 1, n + 1, y, m, S, T, h, hr, hy, hn => by
    have c3 : ((3 : Int32) < nI y) ↔ 3 < y := nI_ltI (a := 3) (by omega) (by omega)
    have c4 : ((4 : Int32) ≤ nI y) ↔ 4 ≤ y := nI_leI (a := 4) (by omega) (by omega)
    obtain ⟨r, Y, w1, w2, w3, w4⟩ := rk_L hv hw hx (y := y) (by omega) (c := c) (m := m) (Kr := (fun (x38 : Int32) (x39 : Int32) (x40 : Int32) (x41 : Int32) (x42 : Int32) (x43 : Int32) (x44 : Int32) (S70 : AS) => (if x44 = (0 : Int32) then ax_let (x43 + (1 : Int32)) (fun (v75 : Int32) => f_X12_rests_L36 Kr n x38 x39 x40 x41 x42 v75 S70) else (if x41 = x40 then some ((((10 : Int32) * x42) + x43), S70) else ax_let (x41 + (1 : Int32)) (fun (v73 : Int32) => ax_let (x43 + (1 : Int32)) (fun (v74 : Int32) => f_X12_rests_L36 Kr n x38 x39 x40 v73 x42 v74 S70)))))) 4 ax_F 0 1 S T h (by omega) (by show _ < 1000000; omega) (.inr rfl)
    rw [← sn_0] at w1
    have hq := jq_fr h ax_fr.rf w2 w3
    have q0 := ib (S := S) (H := H) (W := W) (N := N) (v := v) (x := x) (y := y) (z := 0) (f := 0) (fun t ht => by rw [Nat.zero_add]; exact (hr t ht).1) (by omega) hx
    have q1 := ib (S := S) (H := H) (W := W) (N := N) (v := w) (x := y) (y := x) (z := 1) (f := 4) (fun t ht => (hr t ht).2) (by omega) (by omega)
    rw [← sn_0] at q0
    rw [← sn_4] at q1
    rw [f_X11_rests_L73, f_X12_rests_L36, if_neg (fun z => absurd (c3.mp z) (by omega)), if_neg (fun z => absurd (c4.mp z) (by omega)), w1]
    refine qr_tr ax_fr.rf w2 ?_
    have no : ¬ rst H W N v w x y → r = 0 := fun q => by
      rcases w4 with ⟨_, a, _⟩ | ⟨_, a⟩
      · exact absurd ⟨fun t ht => (a t (by omega) ht).1, fun t ht => (a t (by omega) ht).2⟩ q
      · exact a
    have yes : rst H W N v w x y → r = 1 := fun q => by
      rcases w4 with ⟨_, _, a⟩ | ⟨a, _⟩
      · exact a
      · exact absurd ⟨rfl, fun t _ ht => ⟨q.1 t ht, q.2 t ht⟩⟩ a
    have goN : r = 0 → qr H W M K S Y (ax_let (m + (0 : Int32)) (fun (v52 : Int32) => ax_let (nI y + (1 : Int32)) (fun (v53 : Int32) => f_X11_rests_L73 Kc n c v52 (nI x) v53 S))) (if r = (0 : Int32) then ax_let (nI y + (1 : Int32)) (fun (v75 : Int32) => f_X12_rests_L36 Kr n (nI v) (nI w) c m (nI x) v75 Y) else (if m = c then some ((((10 : Int32) * nI x) + nI y), Y) else ax_let (m + (1 : Int32)) (fun (v73 : Int32) => ax_let (nI y + (1 : Int32)) (fun (v74 : Int32) => f_X12_rests_L36 Kr n (nI v) (nI w) c v73 (nI x) v74 Y)))) := fun e => by
      rw [if_pos e, sn_let, sn_let, sn_let, nI_1, Int32.add_zero]
      exact rt_yL hv hw hx hK d n (y + 1) m S Y hq hr (by omega) (by omega)
    rcases q0 with ⟨a, e⟩ | ⟨a, e⟩
    · rw [e, sn_bs, sn_let, if_neg ne10]
      rcases q1 with ⟨b, e2⟩ | ⟨b, e2⟩
      · have er := yes ⟨a, b⟩
        rw [e2, sn_bs, if_neg ne10]
        dsimp only
        rw [if_neg ne10, er, if_neg ne10]
        by_cases ec : m = c
        · rw [if_pos ec, if_pos ec]
          exact qr_none hq
        · rw [if_neg ec, if_neg ec, if_neg ne10, sn_let, sn_let, sn_let, sn_let, nI_1]
          exact rt_yL hv hw hx hK d n (y + 1) _ S Y hq hr (by omega) (by omega)
      · rw [e2, sn_bs, if_pos rfl]
        dsimp only
        rw [if_pos rfl, if_pos rfl]
        exact goN (no (fun q => b q.2))
    · rw [e, sn_bs, sn_let, if_pos rfl]
      dsimp only
      rw [if_pos rfl, if_pos rfl]
      exact goN (no (fun q => a q.1))
theorem rt_xL {v w : Nat} (hv : v < H 4) (hw : w < H 4) {c : Int32} : ∀ d n x (m : Int32) S T, jq o H N W M K S T → pr_ok S H W N v w 4 → x + d = 4 → d < n → qr H W M K S T (f_X11_rests_L64 (fun (x30 : Int32) (x31 : Int32) (S70 : AS) => (if x30 = (Int32.ofInt (-1)) then some (x31, S70) else some ((Int32.ofInt (-1)), S70))) n c m (nI x) S) (f_X12_rests_L27 (fun (x13 : Int32) (x14 : Int32) (S78 : AS) => (if x13 = (Int32.ofInt (-1)) then some (x14, S78) else some ((Int32.ofInt (-1)), S78))) n (nI v) (nI w) c m (nI x) T)
  | 0, n + 1, x, m, S, T, h, hr, hx, _ => by
    obtain rfl : x = 4 := by omega
    rw [f_X11_rests_L64, f_X12_rests_L27, if_pos (by decide : (3 : Int32) < nI 4), if_pos (by decide : (4 : Int32) ≤ nI 4)]
    by_cases e : c = Int32.ofInt (-1)
    · rw [if_pos e, if_pos e]; exact qr_none h
    · rw [if_neg e, if_neg e]; exact qr_none h
  | d + 1, n + 1, x, m, S, T, h, hr, hx, hn => by
    have c3 : ((3 : Int32) < nI x) ↔ 3 < x := nI_ltI (a := 3) (by omega) (by omega)
    have c4 : ((4 : Int32) ≤ nI x) ↔ 4 ≤ x := nI_leI (a := 4) (by omega) (by omega)
    rw [f_X11_rests_L64, f_X12_rests_L27, if_neg (fun z => absurd (c3.mp z) (by omega)), if_neg (fun z => absurd (c4.mp z) (by omega)), sn_0]
    refine rt_yL hv hw (by omega) (fun m' S' T' h' hr' => ?_) 4 ax_F 0 m S T h hr (by omega) (by show _ < 1000000; omega)
    rw [sn_let, sn_let, nI_1]
    exact rt_xL hv hw d n (x + 1) m' S' T' h' hr' (by omega) (by omega)
theorem rt_yC {v w x : Nat} (hx : x ≤ 3) {c : Int32} (hc : c < 0) {Kc : Int32 → Int32 → Int32 → AS → Option (Int32 × AS)} (hr : pr_ok S H W N v w 4) (hK : ∀ k, k ≤ 4 * x + 4 → Kc c (nI k) (nI x) S = some (Int32.ofInt (-1), S)) : ∀ d n y k, y + d = 4 → d < n → k ≤ 4 * x + y → f_X11_rests_L73 Kc n c (nI k) (nI x) (nI y) S = some (Int32.ofInt (-1), S)
  | 0, n + 1, y, k, hy, _, hk => by
    obtain rfl : y = 4 := by omega
    rw [f_X11_rests_L73, if_pos (by decide : (3 : Int32) < nI 4)]
    exact hK k hk
  | d + 1, n + 1, y, k, hy, hn, hk => by
    have c3 : ((3 : Int32) < nI y) ↔ 3 < y := nI_ltI (a := 3) (by omega) (by omega)
    have q0 := ib (S := S) (H := H) (W := W) (N := N) (v := v) (x := x) (y := y) (z := 0) (f := 0) (fun t ht => by rw [Nat.zero_add]; exact (hr t ht).1) (by omega) hx
    have q1 := ib (S := S) (H := H) (W := W) (N := N) (v := w) (x := y) (y := x) (z := 1) (f := 4) (fun t ht => (hr t ht).2) (by omega) (by omega)
    rw [← sn_0] at q0
    rw [← sn_4] at q1
    have nc : ¬ (nI k = c) := fun e => nI_pos (n := k) (by omega) (by rw [e]; exact hc)
    have g0 := rt_yC hx hc hr hK d n (y + 1) k (by omega) (by omega) (by omega)
    have g1 := rt_yC hx hc hr hK d n (y + 1) (k + 1) (by omega) (by omega) (by omega)
    rw [f_X11_rests_L73, if_neg (fun z => absurd (c3.mp z) (by omega))]
    rcases q0 with ⟨_, e⟩ | ⟨_, e⟩
    · rw [e, sn_bs, sn_let, if_neg ne10]
      rcases q1 with ⟨_, e2⟩ | ⟨_, e2⟩
      · rw [e2, sn_bs, if_neg ne10]
        dsimp only
        rw [if_neg ne10, if_neg nc, if_neg ne10, sn_let, sn_let, nI_1, nI_1]
        exact g1
      · rw [e2, sn_bs, if_pos rfl]
        dsimp only
        rw [if_pos rfl, if_pos rfl, sn_let, sn_let, nI_1, Int32.add_zero]
        exact g0
    · rw [e, sn_bs, sn_let, if_pos rfl]
      dsimp only
      rw [if_pos rfl, if_pos rfl, sn_let, sn_let, nI_1, Int32.add_zero]
      exact g0
theorem rt_xC {v w : Nat} {c : Int32} (hc : c < Int32.ofInt (-1)) (hr : pr_ok S H W N v w 4) : ∀ d n x k, x + d = 4 → d < n → k ≤ 4 * x → f_X11_rests_L64 (fun (x30 : Int32) (x31 : Int32) (S70 : AS) => (if x30 = (Int32.ofInt (-1)) then some (x31, S70) else some ((Int32.ofInt (-1)), S70))) n c (nI k) (nI x) S = some (Int32.ofInt (-1), S)
  | 0, n + 1, x, k, hx, _, _ => by
    obtain rfl : x = 4 := by omega
    have e : ¬ (c = Int32.ofInt (-1)) := fun e => Int32.lt_irrefl (e ▸ hc)
    rw [f_X11_rests_L64, if_pos (by decide : (3 : Int32) < nI 4), if_neg e]
  | d + 1, n + 1, x, k, hx, hn, hk => by
    have c3 : ((3 : Int32) < nI x) ↔ 3 < x := nI_ltI (a := 3) (by omega) (by omega)
    rw [f_X11_rests_L64, if_neg (fun z => absurd (c3.mp z) (by omega)), sn_0]
    refine rt_yC (v := v) (w := w) (by omega) (Int32.lt_trans hc (by decide)) hr (fun k' hk' => ?_) 4 ax_F 0 k (by omega) (by show _ < 1000000; omega) (by omega)
    rw [sn_let, nI_1]
    exact rt_xC hc hr d n (x + 1) k' (by omega) (by omega) (by omega)
theorem q_rests (h : jq o H N W M K S T) (a b c : Int32) : qr H W M K S T (f_X11_rests a b c S) (f_X12_rests a b c T) := by
  have h1 := jq_thr (v := 0) h
  unfold f_X11_rests f_X12_rests
  rw [sn_let]
  refine qr_tr ax_fr.rf (jr_thr (v := 0)) ?_
  rcases jq_pair h1 a b with ⟨v, w, hv, hw, _, rfl, rfl, e1, e2⟩ | ⟨e1, e2⟩
  · rw [e1, sn_bs, if_pos rfl, e2, sn_bs, if_neg ne10]
    obtain ⟨Z, z1, z2, z3⟩ := pr_L hv hw (c := c) (Kc := (fun (x10 : Int32) (S26 : AS) => f_X11_rests_L64 (fun (x30 : Int32) (x31 : Int32) (S70 : AS) => (if x30 = (Int32.ofInt (-1)) then some (x31, S70) else some ((Int32.ofInt (-1)), S70))) ax_F x10 (0 : Int32) (0 : Int32) S26)) 4 ax_F 0 S _ h1 (fun t ht => absurd ht (by omega)) (by omega) (by show _ < 1000000; omega)
    rw [← sn_0] at z1
    rw [z1]
    have hq := jq_fr2 h1 z2 ax_fr.rf h1.2.2.2.2.1
    have q := rt_xL hv hw (c := c) 4 ax_F 0 0 Z _ hq z3 (by omega) (by show _ < 1000000; omega)
    rw [← sn_0] at q
    by_cases ec : Int32.ofInt (-1) ≤ c
    · rw [if_pos ec]
      exact qr_tr z2 ax_fr.rf q
    · have w1 := rt_xC (c := c) (Int32.not_le.mp ec) z3 4 ax_F 0 0 (by omega) (by show _ < 1000000; omega) (by omega)
      rw [← sn_0] at w1
      rw [if_neg ec, w1]
      exact qr_tr z2 ax_fr.rf (qr_none hq)
  · rw [e1, sn_bs, if_neg ne10, e2, sn_bs, if_pos rfl]
    exact qr_none h1
end

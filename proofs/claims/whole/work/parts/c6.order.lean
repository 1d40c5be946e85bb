/-! QUERIES: order, the search itself on both sides -/
theorem rv_le : ∀ a, a < 10 → ∀ b, b < 10 → ((nI a - nI b ≤ (0 : Int32)) ↔ a ≤ b) := by decide +kernel
theorem rv_dn : ∀ a, a < 10 → ∀ b, b < 10 → nI a - nI b - 1 = nI a - nI (b + 1) := by decide +kernel
theorem rv_up : ∀ a, a < 10 → ∀ b, b < 10 → nI a - nI (b + 1) + 1 = nI a - nI b := by decide +kernel
def rwv (p r : Nat) : Int32 := if p = 0 then Int32.ofInt (-1) else nI r
def ob (bl br bg bc : Nat) (S T : AS) : Prop := bl ≤ 6 ∧ br < 1000000 ∧ bg ≤ 200 ∧ bc ≤ 99 ∧ (bl = 0 → br = 0) ∧ ax_fi S 8 0 6 = nI br ∧ ax_fi S 8 0 7 = nI bl ∧ ax_fi S 8 0 8 = nI bg ∧ ax_fi S 8 0 9 = nI bc ∧ ax_fi T 12 0 44 = nI bl ∧ ax_fi T 12 0 42 = nI bg ∧ ax_fi T 12 0 43 = nI bc ∧ ax_fi T 12 0 41 = rwv bl br
def obe (S T : AS) : Prop := ∃ bl br bg bc, ob bl br bg bc S T
def og_c (H : Nat → Nat) (W : Option (List la_C)) (N : Nat → Nat) (S : AS) : Prop := ax_fi S 8 0 4 = nI (H 4) ∧ ax_fi S 8 0 5 = nI (H 0) ∧ osl H (H 4) S ∧ ost H W N (fun w q => w < 6 ∧ q < 6 ∧ w < H 4) S
def og_n (H N : Nat → Nat) (p : Nat) (N' : Nat → Nat) : Prop := jn_ok H N' ∧ N' 17 = N 17 + p ∧ N' 18 = N 18 ∧ N' 22 = N 22 ∧ (∀ v, v < 6 → N' (2 * v) = N (2 * v)) ∧ p ≤ N' 1 + N' 3 + N' 5 + N' 7 + N' 9 + N' 11
def og (H : Nat → Nat) (W : Option (List la_C)) (M : Nat) (K : Nat → List la_C) (N : Nat → Nat) (p : Nat) (N' : Nat → Nat) (r g : Nat) (S T : AS) : Prop := og_c H W N S ∧ osr H N' 4 S ∧ og_n H N p N' ∧ jr_C T H M K W ∧ jr_S (ax_ai T 56 0) N' ∧ obe S T ∧ r < 10 ^ p ∧ g ≤ 18 * p ∧ p ≤ 6
def op (H : Nat → Nat) (W : Option (List la_C)) (M : Nat) (K : Nat → List la_C) (N : Nat → Nat) (p : Nat) (N' : Nat → Nat) (T Z Y : AS) : Prop := og_c H W N Z ∧ osr H N' 4 Z ∧ jr_C Y H M K W ∧ obe Z Y ∧ ∀ j, j < 24 * p → ax_ai Y 60 0 j = ax_ai T 60 0 j
section
variable {S T Z Y : AS} {H N N' : Nat → Nat} {W : Option (List la_C)} {M : Nat} {K : Nat → List la_C}
theorem og_b {p v : Nat} (h : og_n H N p N') (hv : v < 6) : cn_b H W N' v = tbv H W N p v := by
  unfold cn_b tbv
  rw [h.2.1, h.2.2.1, h.2.2.2.1, h.2.2.2.2.1 v hv]
theorem or_231 {rec : Nat → Int32 → Int32 → Int32 → AS → Option AS} {Kr : Int32 → Int32 → Int32 → Int32 → AS → Option AS} {p : Nat} (hp : p ≤ 6) {x y z : Int32} : ∀ d n k (g : Nat → Int32), k + d = 24 → d < n → f_X12_goOrder_L231 rec Kr n (nI p) x y z (nI k) (rw_st T 56 g) = Kr (nI p) x y z (rw_st T 56 (fun j => if k ≤ j ∧ j < 24 then ax_ai T 60 0 (24 * p + j) else g j))
  | 0, n + 1, k, g, hk, _ => by
    obtain rfl : k = 24 := by omega
    have e : (fun j => if 24 ≤ j ∧ j < 24 then ax_ai T 60 0 (24 * p + j) else g j) = g := by funext j; rw [if_neg (by omega)]
    rw [f_X12_goOrder_L231, if_pos (by decide), e]
  | d + 1, n + 1, k, g, hk, hn => by
    have c : ((23 : Int32) < nI k) ↔ 23 < k := nI_ltI (a := 23) (by omega) (by omega)
    have ix : (24 : Int32) * nI p + nI k = nI (24 * p + k) := by rw [sn_24, pk_mul, nI_add]
    rw [f_X12_goOrder_L231, if_neg (fun z => absurd (c.mp z) (by omega)), ix, sn_in (by omega) (by omega), sn_gd, sn_in (by omega) (by omega), sn_gd, sn_let, nI_clamp (n := 24 * p + k) (by omega), nI_clamp (n := k) (by omega), rw_o (by omega), rw_s, sn_let, nI_1, or_231 hp d n (k + 1) _ (by omega) (by omega)]
    congr 2
    funext j
    by_cases q : j = k
    · rw [if_neg (by omega), if_pos q, if_pos (by omega), q]
    · by_cases q2 : k + 1 ≤ j ∧ j < 24
      · rw [if_pos q2, if_pos (by omega)]
      · rw [if_neg q2, if_neg q, if_neg (by omega)]
theorem or_116 {rec : Nat → Int32 → Int32 → Int32 → AS → Option AS} {Kr : Int32 → Int32 → Int32 → AS → Option AS} {p : Nat} (hp : p ≤ 6) {x y : Int32} : ∀ d n k (g : Nat → Int32), k + d = 24 → d < n → f_X12_goOrder_L116 rec Kr n (nI p) x y (nI k) (rw_st T 60 g) = Kr (nI p) x y (rw_st T 60 (fun j => if 24 * p + k ≤ j ∧ j < 24 * p + 24 then ax_ai T 56 0 (j - 24 * p) else g j))
  | 0, n + 1, k, g, hk, _ => by
    obtain rfl : k = 24 := by omega
    have e : (fun j => if 24 * p + 24 ≤ j ∧ j < 24 * p + 24 then ax_ai T 56 0 (j - 24 * p) else g j) = g := by funext j; rw [if_neg (by omega)]
    rw [f_X12_goOrder_L116, if_pos (by decide), e]
  | d + 1, n + 1, k, g, hk, hn => by
    have c : ((23 : Int32) < nI k) ↔ 23 < k := nI_ltI (a := 23) (by omega) (by omega)
    have ix : (24 : Int32) * nI p + nI k = nI (24 * p + k) := by rw [sn_24, pk_mul, nI_add]
    rw [f_X12_goOrder_L116, if_neg (fun z => absurd (c.mp z) (by omega)), ix, sn_in (by omega) (by omega), sn_gd, sn_in (by omega) (by omega), sn_gd, sn_let, nI_clamp (n := 24 * p + k) (by omega), nI_clamp (n := k) (by omega), rw_o (by omega), rw_s, sn_let, nI_1, or_116 hp d n (k + 1) _ (by omega) (by omega)]
    congr 2
    funext j
    by_cases q : j = 24 * p + k
    · rw [if_neg (by omega), if_pos q, if_pos (by omega), (by omega : j - 24 * p = k)]
    · by_cases q2 : 24 * p + (k + 1) ≤ j ∧ j < 24 * p + 24
      · rw [if_pos q2, if_pos (by omega)]
      · rw [if_neg q2, if_neg q, if_neg (by omega)]
theorem fr_60 {f : Nat → Int32} : ax_fr [(4, 60, 0)] T (rw_st T 60 f) := by
  refine ⟨fun _ _ _ _ => rfl, fun _ _ _ _ => rfl, fun _ _ _ _ => rfl, fun _ _ _ _ => rfl, fun k i q => ?_, fun _ _ _ => rfl⟩
  have : k ≠ 60 := fun e => by rw [e] at q; exact absurd q (by decide)
  funext m
  simp [ax_ai, rw_st, this]
theorem obe_e (h : obe S T) (h1 : ∀ j, ax_fi Z 8 0 j = ax_fi S 8 0 j) (h2 : ∀ j, 41 ≤ j → j ≤ 44 → ax_fi Y 12 0 j = ax_fi T 12 0 j) : obe Z Y := by
  obtain ⟨bl, br, bg, bc, a1, a2, a3, a4, a5, b1, b2, b3, b4, c1, c2, c3, c4⟩ := h
  refine ⟨bl, br, bg, bc, a1, a2, a3, a4, a5, ?_, ?_, ?_, ?_, ?_, ?_, ?_, ?_⟩
  · rw [h1]; exact b1
  · rw [h1]; exact b2
  · rw [h1]; exact b3
  · rw [h1]; exact b4
  · rw [h2 44 (by omega) (by omega)]; exact c1
  · rw [h2 42 (by omega) (by omega)]; exact c2
  · rw [h2 43 (by omega) (by omega)]; exact c3
  · rw [h2 41 (by omega) (by omega)]; exact c4
theorem og_c_e (h : og_c H W N S) (h1 : ax_fi Z 8 0 4 = ax_fi S 8 0 4) (h2 : ax_fi Z 8 0 5 = ax_fi S 8 0 5) (h3 : ax_ai Z 34 0 = ax_ai S 34 0) (h4 : ax_ai Z 35 0 = ax_ai S 35 0) (h5 : ax_ai Z 36 0 = ax_ai S 36 0) : og_c H W N Z := by
  obtain ⟨a1, a2, a3, a4⟩ := h
  refine ⟨by rw [h1]; exact a1, by rw [h2]; exact a2, ?_, ?_⟩
  · unfold osl
    rw [h5]; exact a3
  · unfold ost
    rw [h3, h4]; exact a4
theorem og_call (ho : jh_ok H) {p v : Nat} (hv : v < H 4) (h : og_n H N p N') (hc : cn_can H W N' v) : og_n H N (p + 1) (cn_call H W N' v) := by
  obtain ⟨a1, a2, a3, a4, a5, a6⟩ := h
  refine ⟨cn_ok0 ho a1 hv hc, ?_, ?_, ?_, fun w hw => ?_, ?_⟩
  · rw [cn_call_17 ho hv, a2]; omega
  · rw [cn_call_k ho hv (.inl rfl)]; exact a3
  · rw [cn_call_k ho hv (.inr (.inr rfl))]; exact a4
  · rw [cn_call_e ho hv hw]; exact a5 w hw
  · rw [cn_call_sm ho hv hc.1]; omega
/-- the search's loop over the callers, at a depth of less than 6 -/
theorem og_L (ho : jh_ok H) (hN : jn_ok H N) {m p r g : Nat} (hp : p < 6) (hr0 : p = 0 → r = 0) (IH : ∀ N'' r g S T, og H W M K N (p + 1) N'' r g S T → ∃ Z Y, g_Extend m 0 (nI (jn_bits N'')) (nI r) (nI (p + 1)) (nI (N'' 16)) (nI g) S = some Z ∧ g_Order m 0 (nI (p + 1)) (nI g) (nI r) T = some Y ∧ op H W M K N (p + 1) N'' T Z Y) : ∀ e n v S T, og H W M K N p N' r g S T → (∀ k, k < 24 → ax_ai T 60 0 (24 * p + k) = ax_ai T 56 0 k) → v + e = H 4 → e < n → ∃ Z Y, f_X8_extend_L45 (g_Extend m) (fun (S45 : AS) => some S45) n (nI (jn_bits N')) (nI r) (nI p) (nI (N' 16)) (nI g) (nI v) S = some Z ∧ f_X12_goOrder_L151 (g_Order m) (fun (S77 : AS) => some S77) n (nI p) (nI g) (rwv p r) (nI v) T = some Y ∧ op H W M K N p N' T Z Y
  | 0, n + 1, v, S, T, h, hs, hv, _ => by
    obtain ⟨h1, h2, h3, h4, h5, h6, h7, h8, h9⟩ := h
    have e6 : H 4 ≤ 6 := ho.2.2.2.2.1
    rw [f_X8_extend_L45, f_X12_goOrder_L151, h1.1, h4.1.2.1, if_pos ((nI_leI (by omega) (by omega)).mpr (by omega)), if_pos ((nI_leI (by omega) (by omega)).mpr (by omega))]
    exact ⟨S, T, rfl, rfl, h1, h2, h4, h6, fun _ _ => rfl⟩
  | e + 1, n + 1, v, S, T, h, hs, hv, hn => by
    have hog := h
    obtain ⟨h1, h2, h3, h4, h5, h6, h7, h8, h9⟩ := h
    have e6 : H 4 ≤ 6 := ho.2.2.2.2.1
    have e3 : H 3 ≤ 4 := ho.2.2.2.1
    have b1 := ho.2.2.2.2.2.2 v (by omega)
    have bl := ho.2.2.2.2.2.1 (H (21 + 7 * v)) (by omega)
    have hr := h3.1.2.2.1 (H (21 + 7 * v)) (by omega)
    have h16 : N' 16 ≤ 99 := h3.1.2.2.2.2.1
    have hH0 : H 0 ≤ 99 := ho.1
    have hb' : 1 ≤ cn_b H W N' v ∧ cn_b H W N' v ≤ 60 := bt_b
    have ecb := og_b (W := W) h3 (v := v) (by omega)
    have hbit := cn_bits h3.1
    obtain ⟨q, T1, t1, t2, t3, t4⟩ := jr_can56 ho h3.1 h4 h5 (nI v)
    have f56 : ax_ai T1 56 0 = ax_ai T 56 0 := t2.2.2.2.2.1 56 0 (by decide)
    have f60 : ax_ai T1 60 0 = ax_ai T 60 0 := t2.2.2.2.2.1 60 0 (by decide)
    have ff : ∀ j, 41 ≤ j → j ≤ 44 → ax_fi T1 12 0 j = ax_fi T 12 0 j := fun j j1 j2 => by
      rcases (by omega : j = 41 ∨ j = 42 ∨ j = 43 ∨ j = 44) with rfl | rfl | rfl | rfl
      all_goals exact t2.1 12 0 _ (by decide)
    have hog1 : og H W M K N p N' r g S T1 := ⟨h1, h2, h3, t3, by rw [f56]; exact h5, obe_e h6 (fun _ => rfl) ff, h7, h8, h9⟩
    have hs1 : ∀ k, k < 24 → ax_ai T1 60 0 (24 * p + k) = ax_ai T1 56 0 k := fun k hk => by rw [f56, f60]; exact hs k hk
    have el : ax_ai S 36 0 v = nI (H (21 + 7 * v)) := h1.2.2.1 v (by omega)
    have erm : ax_ai S 37 0 (H (21 + 7 * v)) = nI (H (9 + 2 * H (21 + 7 * v))) - nI (N' (12 + H (21 + 7 * v))) := by
      rw [h2 _ (by omega)]
      unfold pat
      rw [if_pos (by omega)]
    have et := h1.2.2.2 v p ⟨by omega, by omega, by omega⟩
    have ix : nI p * (6 : Int32) + nI v = nI (p * 6 + v) := by rw [sn_6, pk_mul, nI_add]
    have c4 : ((4 : Int32) ≤ nI (H (21 + 7 * v))) ↔ 4 ≤ H (21 + 7 * v) := nI_leI (a := 4) (by omega) (by omega)
    have crv := rv_le (H (9 + 2 * H (21 + 7 * v))) (by omega) (N' (12 + H (21 + 7 * v))) (by omega)
    have cck : (nI (H 0) < nI (N' 16) + nI (tbv H W N p v)) ↔ H 0 < N' 16 + tbv H W N p v := by
      rw [nI_add]
      exact nI_ltI (by omega) (by omega)
    -- one step of the given code's loop
    have stp : f_X8_extend_L45 (g_Extend m) (fun (S45 : AS) => some S45) (n + 1) (nI (jn_bits N')) (nI r) (nI p) (nI (N' 16)) (nI g) (nI v) S = (if nI (H (9 + 2 * H (21 + 7 * v))) - nI (N' (12 + H (21 + 7 * v))) ≤ (0 : Int32) then f_X8_extend_L45 (g_Extend m) (fun (S45 : AS) => some S45) n (nI (jn_bits N')) (nI r) (nI p) (nI (N' 16)) (nI g) (nI (v + 1)) S else (if nI (N' (2 * v + 1)) = (0 : Int32) then (if nI (H 0) < nI (N' 16) + nI (tbv H W N p v) then f_X8_extend_L45 (g_Extend m) (fun (S45 : AS) => some S45) n (nI (jn_bits N')) (nI r) (nI p) (nI (N' 16)) (nI g) (nI (v + 1)) S else (g_Extend m 0 (nI (jn_bits N') ||| ((1 : Int32) <<< (nI v &&& 31))) (nI (r * 10 + v)) (nI (p + 1)) (nI (N' 16) + nI (tbv H W N p v)) (nI g + nI (gnv H W N p v)) (ax_sai S 37 0 (H (21 + 7 * v)) (nI (H (9 + 2 * H (21 + 7 * v))) - nI (N' (12 + H (21 + 7 * v))) - 1))).bind (fun (S34 : AS) => f_X8_extend_L45 (g_Extend m) (fun (S45 : AS) => some S45) n (nI (jn_bits N')) (nI r) (nI p) (nI (N' 16)) (nI g) (nI (v + 1)) (ax_sai S34 37 0 (H (21 + 7 * v)) (ax_ai S34 37 0 (H (21 + 7 * v)) + 1)))) else f_X8_extend_L45 (g_Extend m) (fun (S45 : AS) => some S45) n (nI (jn_bits N')) (nI r) (nI p) (nI (N' 16)) (nI g) (nI (v + 1)) S)) := by
      have r10 : nI r * (10 : Int32) + nI v = nI (r * 10 + v) := by rw [sn_10, pk_mul, nI_add]
      rw [f_X8_extend_L45, h1.1, if_neg (fun z => absurd ((nI_leI (by omega) (by omega)).mp z) (by omega)), sn_let, ix, sn_in (by omega) (by omega), sn_gd, nI_clamp (n := v) (by omega), el, sn_let, sn_let, if_neg (nI_pos (by omega)), if_neg (fun z => absurd (c4.mp z) (by omega)), sn_in (by omega) (by omega), sn_gd, nI_clamp (n := H (21 + 7 * v)) (by omega), erm]
      by_cases g1 : nI (H (9 + 2 * H (21 + 7 * v))) - nI (N' (12 + H (21 + 7 * v))) ≤ (0 : Int32)
      · rw [if_pos g1, if_pos g1]
        dsimp only
        rw [if_pos rfl, sn_let, nI_1]
      · rw [if_neg g1, if_neg g1]
        dsimp only
        rw [if_neg ne10, cn_shr _ hbit.1 v (by omega), hbit.2 v (by omega)]
        by_cases g2 : nI (N' (2 * v + 1)) = (0 : Int32)
        · rw [if_pos g2, if_pos g2, sn_in (by omega) (by omega), sn_gd, nI_clamp (n := p * 6 + v) (by omega), et.1, h1.2.1]
          by_cases g3 : nI (H 0) < nI (N' 16) + nI (tbv H W N p v)
          · rw [if_pos g3, if_pos g3, sn_let, nI_1]
          · rw [if_neg g3, if_neg g3, sn_gd, sn_gd, sn_let, r10, sn_let, sn_gd, sn_gd, sgo (by omega), sgo (by omega), et.1, et.2, nI_1, nI_1, erm]
            rfl
        · rw [if_neg g2, if_neg g2, sn_let, nI_1]
    rw [f_X12_goOrder_L151, h4.1.2.1, if_neg (fun z => absurd ((nI_leI (by omega) (by omega)).mp z) (by omega)), t1, ax_bu_s, stp]
    by_cases hcan : cn_can H W N' v
    · have eq : q = 1 := by
        rcases t4 with ⟨_, x⟩ | ⟨x, _⟩
        · exact x
        · exact absurd ⟨v, by omega, rfl, hcan⟩ x
      obtain ⟨k1, k2, k3⟩ := hcan
      have hcan : cn_can H W N' v := ⟨k1, k2, k3⟩
      have z0 : nI (N' (2 * v + 1)) = (0 : Int32) := by rw [k1]; rfl
      obtain ⟨T2, x1, x2, x3, x4, x5⟩ := jr_calls56 ho h3.1 t3 (by rw [f56]; exact h5) (v := v) (by omega)
      have n2 := og_call (W := W) ho (by omega) h3 hcan
      have obits : nI (jn_bits N') ||| ((1 : Int32) <<< (nI v &&& 31)) = nI (jn_bits (cn_call H W N' v)) := by
        rw [cn_call_bits h3.1 ho (by omega) k1]
        exact cn_shl _ hbit.1 v (by omega) (by rw [hbit.2 v (by omega)]; exact k1)
      have eck : nI (N' 16) + nI (tbv H W N p v) = nI (cn_call H W N' v 16) := by rw [nI_add, ← ecb, cn_call_16]
      have gn : gnv H W N p v ≤ 18 := by
        unfold gnv
        split <;> omega
      have pw : (10 : Nat) ^ (p + 1) = 10 ^ p * 10 := Nat.pow_succ 10 p
      have fi2 : ∀ j, 41 ≤ j → j ≤ 44 → ax_fi T2 12 0 j = ax_fi T 12 0 j := fun j j1 j2 => (x4.1 12 0 j (by omega)).trans (ff j j1 j2)
      have f602 : ax_ai T2 60 0 = ax_ai T 60 0 := (x4.2.2.2.2.1 60 0 (by omega) (by omega) (by omega)).trans f60
      have hog2 : og H W M K N (p + 1) (cn_call H W N' v) (r * 10 + v) (g + gnv H W N p v) (ax_sai S 37 0 (H (21 + 7 * v)) (nI (H (9 + 2 * H (21 + 7 * v))) - nI (N' (12 + H (21 + 7 * v))) - 1)) T2 := by
        refine ⟨og_c_e h1 rfl rfl (sgo (by omega)) (sgo (by omega)) (sgo (by omega)), fun l hl => ?_, n2, x5, x2, obe_e h6 (fun _ => rfl) fi2, by omega, by omega, by omega⟩
        rw [sga, cn_call_l ho (by omega) hl]
        by_cases ql : l = H (21 + 7 * v)
        · rw [if_pos ql, if_pos ql, ql, rv_dn _ (by omega) _ (by omega)]
          unfold pat
          rw [if_pos (by omega)]
        · rw [if_neg ql, if_neg ql]
          exact h2 l hl
      obtain ⟨Z, Y, z1, z2, z3, z4, z5, z6, z7⟩ := IH _ _ _ _ _ hog2
      have zr : ax_ai Z 37 0 (H (21 + 7 * v)) + 1 = nI (H (9 + 2 * H (21 + 7 * v))) - nI (N' (12 + H (21 + 7 * v))) := by
        rw [z4 _ (by omega), cn_call_l ho (by omega) (by omega), if_pos rfl]
        unfold pat
        rw [if_pos (by omega), rv_up _ (by omega) _ (by omega)]
      have eg : nI g + nI (gnv H W N p v) = nI (g + gnv H W N p v) := nI_add _ _
      rw [← eg] at z1 z2
      have z60 : ∀ k, k < 24 → ax_ai Y 60 0 (24 * p + k) = ax_ai T 56 0 k := fun k hk => by
        rw [z7 _ (by omega), f602]
        exact hs k hk
      have w := or_231 (T := Y) (rec := g_Order m) (Kr := (fun (x49 : Int32) (x50 : Int32) (x51 : Int32) (x52 : Int32) (S69 : AS) => ax_let (x52 + (1 : Int32)) (fun (v70 : Int32) => f_X12_goOrder_L151 (g_Order m) (fun (S77 : AS) => some S77) n x49 x50 x51 v70 S69))) h9 (x := nI g) (y := rwv p r) (z := nI v) 24 ax_F 0 (ax_ai Y 56 0) (by omega) (by show _ < 1000000; omega)
      rw [← sn_0, rw_e, sn_let, nI_1] at w
      have r56 : ∀ k, k < 24 → ax_ai (rw_st Y 56 (fun j => if 0 ≤ j ∧ j < 24 then ax_ai Y 60 0 (24 * p + j) else ax_ai Y 56 0 j)) 56 0 k = ax_ai T 56 0 k := fun k hk => by
        rw [rw_g, if_pos ⟨by omega, hk⟩]
        exact z60 k hk
      have r60 : ax_ai (rw_st Y 56 (fun j => if 0 ≤ j ∧ j < 24 then ax_ai Y 60 0 (24 * p + j) else ax_ai Y 56 0 j)) 60 0 = ax_ai Y 60 0 := rw_o (by omega)
      have rC : jr_C (rw_st Y 56 (fun j => if 0 ≤ j ∧ j < 24 then ax_ai Y 60 0 (24 * p + j) else ax_ai Y 56 0 j)) H M K W := jr_C_rw (.inr rfl) z5
      have rF : ∀ j, ax_fi (rw_st Y 56 (fun j => if 0 ≤ j ∧ j < 24 then ax_ai Y 60 0 (24 * p + j) else ax_ai Y 56 0 j)) 12 0 j = ax_fi Y 12 0 j := fun j => rfl
      generalize rw_st Y 56 (fun j => if 0 ≤ j ∧ j < 24 then ax_ai Y 60 0 (24 * p + j) else ax_ai Y 56 0 j) = T3 at *
      have hog3 : og H W M K N p N' r g (ax_sai Z 37 0 (H (21 + 7 * v)) (ax_ai Z 37 0 (H (21 + 7 * v)) + 1)) T3 := by
        refine ⟨og_c_e z3 rfl rfl (sgo (by omega)) (sgo (by omega)) (sgo (by omega)), fun l hl => ?_, h3, rC, fun j hj => ?_, obe_e z6 (fun _ => rfl) (fun j _ _ => rF j), h7, h8, h9⟩
        · rw [sga]
          by_cases ql : l = H (21 + 7 * v)
          · rw [if_pos ql, zr, ql]
            unfold pat
            rw [if_pos (by omega)]
          · rw [if_neg ql, z4 l hl, cn_call_l ho (by omega) hl, if_neg ql]
        · rw [r56 j (by omega)]
          exact h5 j hj
      have hs3 : ∀ k, k < 24 → ax_ai T3 60 0 (24 * p + k) = ax_ai T3 56 0 k := fun k hk => by
        rw [r60, r56 k hk]
        exact z60 k hk
      obtain ⟨Z', Y', g1, g2, g3, g4, g5, g6, g7⟩ := og_L ho hN hp hr0 IH e n (v + 1) _ T3 hog3 hs3 (by omega) (by omega)
      refine ⟨Z', Y', ?_, ?_, g3, g4, g5, g6, fun j hj => ?_⟩
      · rw [if_neg (fun z => absurd (crv.mp z) (by omega)), if_pos z0, if_neg (fun z => absurd (cck.mp z) (by omega)), obits, eck, z1, sn_bs]
        exact g1
      · have J : ∀ x : Int32, x = nI g + nI (gnv H W N p v) → (if nI p = (0 : Int32) then (g_Order m 0 (nI p + (1 : Int32)) x (nI v) T2).bind (fun (S61 : AS) => f_X12_goOrder_L231 (g_Order m) (fun (x49 : Int32) (x50 : Int32) (x51 : Int32) (x52 : Int32) (S69 : AS) => ax_let (x52 + (1 : Int32)) (fun (v70 : Int32) => f_X12_goOrder_L151 (g_Order m) (fun (S77 : AS) => some S77) n x49 x50 x51 v70 S69)) ax_F (nI p) (nI g) (rwv p r) (nI v) (0 : Int32) S61) else (g_Order m 0 (nI p + (1 : Int32)) x (((10 : Int32) * rwv p r) + nI v) T2).bind (fun (S41 : AS) => f_X12_goOrder_L231 (g_Order m) (fun (x49 : Int32) (x50 : Int32) (x51 : Int32) (x52 : Int32) (S59 : AS) => ax_let (x52 + (1 : Int32)) (fun (v60 : Int32) => f_X12_goOrder_L151 (g_Order m) (fun (S77 : AS) => some S77) n x49 x50 x51 v60 S59)) ax_F (nI p) (nI g) (rwv p r) (nI v) (0 : Int32) S41)) = some Y' := fun x hx => by
          have cp : (nI p = (0 : Int32)) ↔ p = 0 := nI_eq (b := 0) (by omega) (by omega)
          rw [hx, nI_1]
          by_cases p0 : p = 0
          · have rv : r * 10 + v = v := by rw [hr0 p0]; omega
            rw [rv] at z2
            rw [if_pos (cp.mpr p0), z2, sn_bs, w]
            exact g2
          · have rw1 : (10 : Int32) * rwv p r + nI v = nI (r * 10 + v) := by
              unfold rwv
              rw [if_neg p0, sn_10, pk_mul, nI_add, Nat.mul_comm]
            rw [if_neg (fun z => p0 (cp.mp z)), rw1, z2, sn_bs, w]
            exact g2
        rw [eq, if_neg ne10, x1, ax_bu_s, sn_let]
        by_cases hd : cn_b H W N' v < H (19 + 7 * v)
        · rw [if_pos hd, if_pos rfl]
          refine J _ ?_
          have : gnv H W N p v = 0 := by unfold gnv; rw [← ecb, if_pos hd]
          rw [this, nI_add, Nat.add_zero]
        · rw [if_neg hd, if_neg ne10, jr_gain x5.1 ho (by omega), sn_bs]
          refine J _ ?_
          have : gnv H W N p v = H (20 + 7 * v) + H (8 + 2 * H (21 + 7 * v)) := by unfold gnv; rw [← ecb, if_neg hd]
          rw [this]
      · rw [g7 j hj, r60, z7 j (by omega), f602]
    · have eq : q = 0 := by
        rcases t4 with ⟨⟨w, hw, ew, x⟩, _⟩ | ⟨_, x⟩
        · exact absurd (cn_inj ho (by omega) hw ew ▸ x) hcan
        · exact x
      obtain ⟨Z', Y', g1, g2, g3, g4, g5, g6, g7⟩ := og_L ho hN hp hr0 IH e n (v + 1) S T1 hog1 hs1 (by omega) (by omega)
      refine ⟨Z', Y', ?_, ?_, g3, g4, g5, g6, fun j hj => ?_⟩
      · by_cases q1 : H (9 + 2 * H (21 + 7 * v)) ≤ N' (12 + H (21 + 7 * v))
        · rw [if_pos (crv.mpr q1)]; exact g1
        · rw [if_neg (fun z => q1 (crv.mp z))]
          by_cases q2 : N' (2 * v + 1) = 0
          · have z0 : nI (N' (2 * v + 1)) = (0 : Int32) := by rw [q2]; rfl
            have q3 : H 0 < N' 16 + tbv H W N p v := by
              by_cases z : N' 16 + cn_b H W N' v ≤ H 0
              · exact absurd ⟨q2, by omega, z⟩ hcan
              · omega
            rw [if_pos z0, if_pos (cck.mpr q3)]; exact g1
          · have hv1 := (h3.1.1 v (by omega)).2
            have z0 : ¬ (nI (N' (2 * v + 1)) = (0 : Int32)) := fun z => q2 ((nI_eq (b := 0) (by omega) (by omega)).mp z)
            rw [if_neg z0]; exact g1
      · rw [eq, if_pos rfl, sn_let, nI_1]
        exact g2
      · rw [g7 j hj, f60]
end

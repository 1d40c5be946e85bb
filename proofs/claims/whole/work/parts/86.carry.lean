/-! THE CLASS: acts are carried out on a state -/
def cn_call (H : Nat → Nat) (W : Option (List la_C)) (N : Nat → Nat) (v : Nat) : Nat → Nat := fun j => if j = 16 then N 16 + cn_b H W N v else if j = 12 + H (21 + 7 * v) then N j + 1 else if j = 2 * v + 1 then 1 else if j = 17 then N 17 + 1 else if j = 20 then (if cn_b H W N v < H (19 + 7 * v) then N 20 else N 20 + 1) else if j = 19 then (if cn_b H W N v < H (19 + 7 * v) then N 19 else min 9999 (N 19 + (H (20 + 7 * v) + H (8 + 2 * H (21 + 7 * v))))) else N j
def cn_day (N : Nat → Nat) : Nat → Nat := fun j => if j = 16 ∨ j = 17 ∨ j = 20 then 0 else if j < 12 ∧ j % 2 = 1 then 0 else if 12 ≤ j ∧ j < 16 then 0 else if j = 21 then min 999 (N 21 + N 20) else if j = 22 then N 22 + 1 else N j
def cn_do (H : Nat → Nat) (W : Option (List la_C)) (N : Nat → Nat) (k v : Nat) : Nat → Nat := if k = 0 then cn_call H W N v else if k = 1 then (fun j => if j = 2 * v then N j + 1 else if j = 21 then N 21 - 2 else N j) else if k = 2 then (fun j => if j = 18 then 1 - N 18 else N j) else if k = 3 then (fun j => if j = 16 then N 16 + v else N j) else if k = 4 then cn_day N else if k = 5 then (fun j => if j = 2 * v then N j - 1 else N j) else (fun j => if j = 16 then N 16 + 3 else if j = 17 then N 17 - 2 else N j)
/-- Z is S but for scratch and state i -/
def jc_st (S Z : AS) (i : Nat) : Prop := (∀ k a j, ¬ (k = 9 ∧ a = i) → ¬ (k = 5 ∧ j = 3) → ax_fi Z k a j = ax_fi S k a j) ∧ ax_fl Z = ax_fl S ∧ ax_fx Z = ax_fx S ∧ ax_fo Z = ax_fo S ∧ (∀ k a, ¬ ((k = 38 ∨ k = 39) ∧ a = i) → k ≠ 31 → k ≠ 32 → ax_ai Z k a = ax_ai S k a) ∧ ax_al Z = ax_al S
theorem sn_let {α β : Type} {x : α} {f : α → β} : ax_let x f = f x := Eq.trans rfl rfl
theorem sg {S : AS} {k i j j' : Nat} {v : Int32} : ax_fi (ax_sfi S k i j v) k i j' = if j' = j then v else ax_fi S k i j' := by
  simp [ax_fi, ax_sfi, ax_u3]
theorem sga {S : AS} {k i j j' : Nat} {v : Int32} : ax_ai (ax_sai S k i j v) k i j' = if j' = j then v else ax_ai S k i j' := by
  simp [ax_ai, ax_sai, ax_u3]
theorem sgo {S : AS} {k i j k' i' : Nat} {v : Int32} (h : k' ≠ k) : ax_ai (ax_sai S k i j v) k' i' = ax_ai S k' i' := ax_u3_o (fun q => h q.1)
section
variable {S Z Y : AS} {o i : Nat} {H N : Nat → Nat} {W : Option (List la_C)}
theorem jc_st.rf : jc_st S S i := ⟨fun _ _ _ _ _ => rfl, rfl, rfl, rfl, fun _ _ _ _ _ => rfl, rfl⟩
theorem jc_st.tr (a : jc_st S Z i) (b : jc_st Z Y i) : jc_st S Y i := ⟨fun k x j p q => (b.1 k x j p q).trans (a.1 k x j p q), b.2.1.trans a.2.1, b.2.2.1.trans a.2.2.1, b.2.2.2.1.trans a.2.2.2.1, fun k x p q r => (b.2.2.2.2.1 k x p q r).trans (a.2.2.2.2.1 k x p q r), b.2.2.2.2.2.trans a.2.2.2.2.2⟩
theorem jc_scr_c {c k j : Nat} (h : ¬ (c = 4 ∧ k = 32 ∧ j = 0)) (h2 : ¬ (c = 4 ∧ k = 31 ∧ j = 0)) (h3 : ¬ (c = 0 ∧ k = 5 ∧ j = 3)) : jc_scr.contains (c, k, j) = false := by
  cases e : jc_scr.contains (c, k, j) with
  | false => rfl
  | true =>
    exfalso
    have m : (c, k, j) ∈ jc_scr := List.contains_iff_mem.mp e
    simp only [jc_scr, List.mem_cons, List.not_mem_nil, or_false, Prod.mk.injEq] at m
    omega
theorem jc_st.fr (h : ax_fr jc_scr S Z) : jc_st S Z i := by
  obtain ⟨f1, f2, f3, f4, f5, f6⟩ := h
  refine ⟨fun k a j _ q => f1 k a j (jc_scr_c (by omega) (by omega) (by omega)), ?_, ?_, ?_, fun k a _ q r => f5 k a (jc_scr_c (by omega) (by omega) (by omega)), ?_⟩
  · funext k a j; exact f2 k a j (jc_scr_c (by omega) (by omega) (by omega))
  · funext k a j; exact f3 k a j (jc_scr_c (by omega) (by omega) (by omega))
  · funext k a j; exact f4 k a j (jc_scr_c (by omega) (by omega) (by omega))
  · funext k a j; exact congrFun (f6 k a (jc_scr_c (by omega) (by omega) (by omega))) j
theorem jc_st.fi {j : Nat} {v : Int32} : jc_st S (ax_sfi S 9 i j v) i := by
  refine ⟨fun k a m p _ => ?_, rfl, rfl, rfl, fun _ _ _ _ _ => rfl, rfl⟩
  unfold ax_fi ax_sfi ax_u3
  exact if_neg (fun q => p ⟨q.1, q.2.1⟩)
theorem jc_st.ai {k j : Nat} {v : Int32} (hk : k = 38 ∨ k = 39) : jc_st S (ax_sai S k i j v) i := by
  refine ⟨fun _ _ _ _ _ => rfl, rfl, rfl, rfl, fun m a p _ _ => ?_, rfl⟩
  exact ax_u3_o (fun q => p ⟨by rw [q.1]; exact hk, q.2⟩)
theorem jc_H_st (h : jc_st S Z i) (hH : jc_H S o H) : jc_H Z o H := by
  obtain ⟨h0, h1, h2, h3, h4, h5, h6, h7, h8⟩ := hH
  obtain ⟨f1, f2, f3, f4, f5, f6⟩ := h
  refine ⟨h0, ?_, ?_, ?_, ?_, ?_, ?_, ?_, ?_⟩
  · rw [f3]; exact h1
  · rw [f3]; exact h2
  · rw [f4]; exact h3
  · rw [f1 4 o 4 (by omega) (by omega)]; exact h4
  · rw [f1 4 o 5 (by omega) (by omega)]; exact h5
  · rw [f5 27 o (by omega) (by omega) (by omega)]; exact h6
  · rw [f5 28 o (by omega) (by omega) (by omega)]; exact h7
  · rw [f5 29 o (by omega) (by omega) (by omega)]; exact h8
theorem jc_la_st {y : Nat} {cs : List la_C} (h : jc_st S Z i) (hL : la_H S y cs) : la_H Z y cs := by
  obtain ⟨h1, h2, h3, h4⟩ := hL
  obtain ⟨f1, f2, f3, f4, f5, f6⟩ := h
  refine ⟨h1, fun j hj => ?_, ?_, h4⟩
  · rw [f5 30 y (by omega) (by omega) (by omega)]; exact h2 j hj
  · rw [f1 5 y 2 (by omega) (by omega)]; exact h3
theorem jc_W_st (h : jc_st S Z i) (hW : jc_W S W) : jc_W Z W := by
  match W, hW with
  | none, hW => exact (congrFun (congrFun (congrFun h.2.2.2.1 6) 0) 2).trans hW
  | some cs, ⟨hd, y, h1, h2⟩ => exact ⟨hd, y, (congrFun (congrFun (congrFun h.2.2.2.1 6) 0) 2).trans h1, jc_la_st h h2⟩
theorem jc_C_st (h : jc_st S Z i) (hC : jc_C S o H W) : jc_C Z o H W := ⟨jc_H_st h hC.1, jc_W_st h hC.2⟩
theorem jc_S_st {i' : Nat} {M : Nat → Nat} (h : jc_st S Z i) (hi : i' ≠ i) (hS : jc_S S i' M) : jc_S Z i' M := by
  obtain ⟨h0, h1, h2, h3, h4, h5, h6, h7, h8, h9⟩ := hS
  obtain ⟨f1, f2, f3, f4, f5, f6⟩ := h
  have e : ∀ j, ax_fi Z 9 i' j = ax_fi S 9 i' j := fun j => f1 9 i' j (by omega) (by omega)
  refine ⟨?_, ?_, ?_, ?_, ?_, ?_, ?_, ?_, ?_, ?_⟩
  · rw [e]; exact h0
  · rw [e]; exact h1
  · rw [e]; exact h2
  · rw [e]; exact h3
  · rw [e]; exact h4
  · rw [e]; exact h5
  · rw [e]; exact h6
  · rw [e]; exact h7
  · rw [f5 38 i' (by omega) (by omega) (by omega)]; exact h8
  · rw [f5 39 i' (by omega) (by omega) (by omega)]; exact h9
/-! the single acts -/
theorem jc_setT {v w : Nat} (hv : v < 6) : f_X9_setTitles i (nI v) (nI w) S = some (ax_sai S 39 i v (nI w)) := by
  have l0 : ¬ (nI v < 0) := nI_pos (by omega)
  have l6 : ¬ ((6 : Int32) ≤ nI v) := by rw [sn_6, nI_leI (by omega) (by omega)]; omega
  unfold f_X9_setTitles
  rw [if_neg l0, if_neg l6, sn_in (by omega) (by omega), nI_clamp (by omega)]
  rfl
theorem jc_rcv {l x : Nat} (hl : l < 4) (hx : ax_ai S 38 i l = nI x) : f_X9_receive i (nI l) S = some (ax_sai S 38 i l (nI (x + 1))) := by
  have l0 : ¬ (nI l < 0) := nI_pos (by omega)
  have l4 : ¬ ((4 : Int32) ≤ nI l) := by rw [sn_4, nI_leI (by omega) (by omega)]; omega
  unfold f_X9_receive
  rw [if_neg l0, if_neg l4, sn_in (by omega) (by omega), nI_clamp (by omega), hx, nI_1]
  rfl
theorem jc_sd0 {K : AS → Option AS} {n : Nat} {x : Int32} (hx : x = 4) : f_X9_startDay_L22 K (n + 1) i x S = K S := by
  subst hx
  rw [f_X9_startDay_L22, if_pos (by decide)]
theorem jc_sd1 {K : AS → Option AS} {n l : Nat} {x x' : Int32} (hx : ¬ ((4 : Int32) ≤ x)) (h1 : ax_in x 4 = true) (h2 : x.toNatClampNeg = l) (h3 : x + 1 = x') : f_X9_startDay_L22 K (n + 1) i x S = f_X9_startDay_L22 K n i x' (ax_sai S 38 i l 0) := by
  subst h3
  rw [f_X9_startDay_L22, if_neg hx, h1, h2]
  rfl
theorem jc_sday : f_X9_startDay i S = some (ax_sai (ax_sai (ax_sai (ax_sai (ax_sfi (ax_sfi (ax_sfi (ax_sfi S 9 i 0 0) 9 i 1 0) 9 i 2 0) 9 i 3 0) 38 i 0 0) 38 i 1 0) 38 i 2 0) 38 i 3 0) := by
  have e : ax_F = 999995 + 1 + 1 + 1 + 1 + 1 := rfl
  unfold f_X9_startDay
  rw [sn_let, sn_let, sn_let, sn_let, e, jc_sd1 (l := 0) (x' := 1) (by decide) (by decide) rfl (by decide), jc_sd1 (l := 1) (x' := 2) (by decide) (by decide) rfl (by decide), jc_sd1 (l := 2) (x' := 3) (by decide) (by decide) rfl (by decide), jc_sd1 (l := 3) (x' := 4) (by decide) (by decide) rfl (by decide), jc_sd0 rfl]
theorem cn_call_bits (hN : jn_ok H N) (ho : jh_ok H) {v : Nat} (hv : v < H 4) (h0 : N (2 * v + 1) = 0) : jn_bits (cn_call H W N v) = jn_bits N + 2 ^ v := by
  have h6 : H 4 ≤ 6 := ho.2.2.2.2.1
  have b1 := (ho.2.2.2.2.2.2 v hv)
  have e : ∀ w, w < 6 → cn_call H W N v (2 * w + 1) = if w = v then 1 else N (2 * w + 1) := fun w hw => by
    unfold cn_call
    rw [if_neg (by omega), if_neg (by omega)]
    by_cases q : w = v
    · rw [if_pos (by omega), if_pos q]
    · rw [if_neg (by omega), if_neg q, if_neg (by omega), if_neg (by omega), if_neg (by omega)]
  have e0 := e 0 (by omega)
  have e1 := e 1 (by omega)
  have e2 := e 2 (by omega)
  have e3 := e 3 (by omega)
  have e4 := e 4 (by omega)
  have e5 := e 5 (by omega)
  simp only [Nat.reduceMul, Nat.reduceAdd] at e0 e1 e2 e3 e4 e5
  unfold jn_bits
  rw [e0, e1, e2, e3, e4, e5]
  rcases (by omega : v = 0 ∨ v = 1 ∨ v = 2 ∨ v = 3 ∨ v = 4 ∨ v = 5) with rfl | rfl | rfl | rfl | rfl | rfl <;> simp only [Nat.reduceMul, Nat.reduceAdd] at h0 <;> simp <;> omega
end

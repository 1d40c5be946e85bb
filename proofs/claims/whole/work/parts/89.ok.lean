/-! STATES stay within their bounds -/
section
variable {H N : Nat → Nat} {W : Option (List la_C)}
theorem cn_call_sm (ho : jh_ok H) {v : Nat} (hv : v < H 4) (h0 : N (2 * v + 1) = 0) : cn_call H W N v 1 + cn_call H W N v 3 + cn_call H W N v 5 + cn_call H W N v 7 + cn_call H W N v 9 + cn_call H W N v 11 = N 1 + N 3 + N 5 + N 7 + N 9 + N 11 + 1 := by
  have h6 : H 4 ≤ 6 := ho.2.2.2.2.1
  have e0 := cn_call_o (W := W) (N := N) ho hv (w := 0) (by omega)
  have e1 := cn_call_o (W := W) (N := N) ho hv (w := 1) (by omega)
  have e2 := cn_call_o (W := W) (N := N) ho hv (w := 2) (by omega)
  have e3 := cn_call_o (W := W) (N := N) ho hv (w := 3) (by omega)
  have e4 := cn_call_o (W := W) (N := N) ho hv (w := 4) (by omega)
  have e5 := cn_call_o (W := W) (N := N) ho hv (w := 5) (by omega)
  simp only [Nat.reduceMul, Nat.reduceAdd] at e0 e1 e2 e3 e4 e5
  rw [e0, e1, e2, e3, e4, e5]
  rcases (by omega : v = 0 ∨ v = 1 ∨ v = 2 ∨ v = 3 ∨ v = 4 ∨ v = 5) with rfl | rfl | rfl | rfl | rfl | rfl <;> simp only [Nat.reduceMul, Nat.reduceAdd] at h0 <;> simp <;> omega
theorem cn_ok0 (ho : jh_ok H) (hN : jn_ok H N) {v : Nat} (hv : v < H 4) (hc : cn_can H W N v) : jn_ok H (cn_call H W N v) := by
  have h6 : H 4 ≤ 6 := ho.2.2.2.2.1
  have h3 : H 3 ≤ 4 := ho.2.2.2.1
  have b1 := (ho.2.2.2.2.2.2 v hv)
  have bl := ho.2.2.2.2.2.1 (H (21 + 7 * v)) (by omega)
  have hr0 : H 0 ≤ 99 := ho.1
  obtain ⟨n1, n2, n3, n4, n5, n6, n7, n8, n9, n10, n11⟩ := hN
  obtain ⟨c1, c2, c3⟩ := hc
  have sm := cn_call_sm (W := W) ho hv c1
  refine ⟨?_, ?_, ?_, ?_, ?_, ?_, ?_, ?_, ?_, ?_, ?_⟩
  · intro w hw
    rw [cn_call_e ho hv hw, cn_call_o ho hv hw]
    have := n1 w hw
    refine ⟨this.1, ?_⟩
    split <;> omega
  · intro w hw hx
    rw [cn_call_e ho hv hw, cn_call_o ho hv hw, if_neg (by omega)]
    exact n2 w hw hx
  · intro l hl
    rw [cn_call_l ho hv hl]
    have := n3 l hl
    by_cases q : l = H (21 + 7 * v)
    · rw [if_pos q]; subst q; omega
    · rw [if_neg q]; exact this
  · intro l hl hx
    rw [cn_call_l ho hv hl, if_neg (by omega)]
    exact n4 l hl hx
  · rw [cn_call_16]; omega
  · rw [sm, cn_call_17 ho hv]; omega
  · rw [cn_call_k ho hv (by omega)]; exact n7
  · rw [cn_call_19 ho hv]
    split <;> omega
  · rw [sm, cn_call_20 ho hv]
    split <;> omega
  · rw [cn_call_k ho hv (by omega)]; exact n10
  · rw [cn_call_k ho hv (by omega)]; exact n11
theorem cn_day_e {w : Nat} (hw : w < 6) : cn_day N (2 * w) = N (2 * w) := by unfold cn_day; rw [if_neg (by omega), if_neg (by omega), if_neg (by omega), if_neg (by omega), if_neg (by omega)]
theorem cn_day_o {w : Nat} (hw : w < 6) : cn_day N (2 * w + 1) = 0 := by unfold cn_day; rw [if_neg (by omega), if_pos (by omega)]
theorem cn_day_l {l : Nat} (hl : l < 4) : cn_day N (12 + l) = 0 := by unfold cn_day; rw [if_neg (by omega), if_neg (by omega), if_pos (by omega)]
theorem cn_ok4 (hN : jn_ok H N) (h22 : N 22 < 999) : jn_ok H (cn_day N) := by
  obtain ⟨n1, n2, n3, n4, n5, n6, n7, n8, n9, n10, n11⟩ := hN
  have d16 : cn_day N 16 = 0 := rfl
  have d17 : cn_day N 17 = 0 := rfl
  have d20 : cn_day N 20 = 0 := rfl
  have d18 : cn_day N 18 = N 18 := rfl
  have d19 : cn_day N 19 = N 19 := rfl
  have d21 : cn_day N 21 = min 999 (N 21 + N 20) := rfl
  have d22 : cn_day N 22 = N 22 + 1 := rfl
  refine ⟨?_, ?_, ?_, ?_, ?_, ?_, ?_, ?_, ?_, ?_, ?_⟩
  · intro w hw
    rw [cn_day_e hw, cn_day_o hw]
    exact ⟨(n1 w hw).1, by omega⟩
  · intro w hw hx
    rw [cn_day_e hw, cn_day_o hw]
    exact ⟨(n2 w hw hx).1, rfl⟩
  · intro l hl; rw [cn_day_l hl]; omega
  · intro l hl _; exact cn_day_l hl
  · omega
  · omega
  · omega
  · omega
  · omega
  · omega
  · omega
theorem cn_ok (ho : jh_ok H) (hN : jn_ok H N) {k : Nat} {x : Int32} (h : cn_may H W N k x) : jn_ok H (cn_do H W N k x.toNatClampNeg) := by
  have h6 : H 4 ≤ 6 := ho.2.2.2.2.1
  have hr0 : H 0 ≤ 99 := ho.1
  have hN' := hN
  obtain ⟨n1, n2, n3, n4, n5, n6, n7, n8, n9, n10, n11⟩ := hN'
  rcases h with ⟨rfl, v, hv, rfl, hc⟩ | ⟨rfl, v, hv, rfl, h2, h21⟩ | rfl | ⟨rfl, n, m1, m2, rfl, m3⟩ | ⟨rfl, h22⟩ | ⟨rfl, v, hv, rfl, h0⟩ | ⟨rfl, t0, t1⟩
  · rw [nI_clamp (by omega)]
    unfold cn_do; rw [if_pos rfl]
    exact cn_ok0 ho hN hv hc
  · rw [nI_clamp (by omega)]
    unfold cn_do; rw [if_neg (by omega), if_pos rfl]
    refine ⟨?_, ?_, ?_, ?_, ?_, ?_, ?_, ?_, ?_, ?_, ?_⟩
    · intro w hw
      have := n1 w hw
      dsimp only
      refine ⟨?_, ?_⟩
      · by_cases q : w = v
        · subst q; rw [if_pos rfl]; omega
        · rw [if_neg (by omega), if_neg (by omega)]; omega
      · rw [if_neg (by omega), if_neg (by omega)]; omega
    · intro w hw hx
      have := n2 w hw hx
      dsimp only
      rw [if_neg (by omega), if_neg (by omega), if_neg (by omega), if_neg (by omega)]; exact this
    · intro l hl; dsimp only; rw [if_neg (by omega), if_neg (by omega)]; exact n3 l hl
    · intro l hl hx; dsimp only; rw [if_neg (by omega), if_neg (by omega)]; exact n4 l hl hx
    · dsimp only; rw [if_neg (by omega), if_neg (by omega)]; exact n5
    · dsimp only
      rw [if_neg (by omega), if_neg (by omega), if_neg (by omega), if_neg (by omega), if_neg (by omega), if_neg (by omega), if_neg (by omega), if_neg (by omega), if_neg (by omega), if_neg (by omega), if_neg (by omega), if_neg (by omega), if_neg (by omega), if_neg (by omega)]; exact n6
    · dsimp only; rw [if_neg (by omega), if_neg (by omega)]; exact n7
    · dsimp only; rw [if_neg (by omega), if_neg (by omega)]; exact n8
    · dsimp only
      rw [if_neg (by omega), if_neg (by omega), if_neg (by omega), if_neg (by omega), if_neg (by omega), if_neg (by omega), if_neg (by omega), if_neg (by omega), if_neg (by omega), if_neg (by omega), if_neg (by omega), if_neg (by omega), if_neg (by omega), if_neg (by omega)]; exact n9
    · dsimp only; rw [if_neg (by omega), if_pos rfl]; omega
    · dsimp only; rw [if_neg (by omega), if_neg (by omega)]; exact n11
  · unfold cn_do; rw [if_neg (by omega), if_neg (by omega), if_pos rfl]
    refine ⟨?_, ?_, ?_, ?_, ?_, ?_, ?_, ?_, ?_, ?_, ?_⟩
    · intro w hw; dsimp only; rw [if_neg (by omega), if_neg (by omega)]; exact n1 w hw
    · intro w hw hx; dsimp only; rw [if_neg (by omega), if_neg (by omega)]; exact n2 w hw hx
    · intro l hl; dsimp only; rw [if_neg (by omega)]; exact n3 l hl
    · intro l hl hx; dsimp only; rw [if_neg (by omega)]; exact n4 l hl hx
    · exact n5
    · exact n6
    · dsimp only; rw [if_pos rfl]; omega
    · exact n8
    · exact n9
    · exact n10
    · exact n11
  · rw [nI_clamp (by omega)]
    unfold cn_do; rw [if_neg (by omega), if_neg (by omega), if_neg (by omega), if_pos rfl]
    refine ⟨?_, ?_, ?_, ?_, ?_, ?_, ?_, ?_, ?_, ?_, ?_⟩
    · intro w hw; dsimp only; rw [if_neg (by omega), if_neg (by omega)]; exact n1 w hw
    · intro w hw hx; dsimp only; rw [if_neg (by omega), if_neg (by omega)]; exact n2 w hw hx
    · intro l hl; dsimp only; rw [if_neg (by omega)]; exact n3 l hl
    · intro l hl hx; dsimp only; rw [if_neg (by omega)]; exact n4 l hl hx
    · dsimp only; rw [if_pos rfl]; omega
    · exact n6
    · exact n7
    · exact n8
    · exact n9
    · exact n10
    · exact n11
  · unfold cn_do; rw [if_neg (by omega), if_neg (by omega), if_neg (by omega), if_neg (by omega), if_pos rfl]
    exact cn_ok4 hN h22
  · rw [nI_clamp (by omega)]
    unfold cn_do; rw [if_neg (by omega), if_neg (by omega), if_neg (by omega), if_neg (by omega), if_neg (by omega), if_pos rfl]
    refine ⟨?_, ?_, ?_, ?_, ?_, ?_, ?_, ?_, ?_, ?_, ?_⟩
    · intro w hw
      have := n1 w hw
      dsimp only
      refine ⟨?_, ?_⟩
      · split <;> omega
      · rw [if_neg (by omega)]; omega
    · intro w hw hx
      have := n2 w hw hx
      dsimp only
      rw [if_neg (by omega), if_neg (by omega)]; exact this
    · intro l hl; dsimp only; rw [if_neg (by omega)]; exact n3 l hl
    · intro l hl hx; dsimp only; rw [if_neg (by omega)]; exact n4 l hl hx
    · dsimp only; rw [if_neg (by omega)]; exact n5
    · dsimp only
      rw [if_neg (by omega), if_neg (by omega), if_neg (by omega), if_neg (by omega), if_neg (by omega), if_neg (by omega), if_neg (by omega)]; exact n6
    · dsimp only; rw [if_neg (by omega)]; exact n7
    · dsimp only; rw [if_neg (by omega)]; exact n8
    · dsimp only
      rw [if_neg (by omega), if_neg (by omega), if_neg (by omega), if_neg (by omega), if_neg (by omega), if_neg (by omega), if_neg (by omega)]; exact n9
    · dsimp only; rw [if_neg (by omega)]; exact n10
    · dsimp only; rw [if_neg (by omega)]; exact n11
  · unfold cn_do; rw [if_neg (by omega), if_neg (by omega), if_neg (by omega), if_neg (by omega), if_neg (by omega), if_neg (by omega)]
    refine ⟨?_, ?_, ?_, ?_, ?_, ?_, ?_, ?_, ?_, ?_, ?_⟩
    · intro w hw; dsimp only; rw [if_neg (by omega), if_neg (by omega), if_neg (by omega), if_neg (by omega)]; exact n1 w hw
    · intro w hw hx; dsimp only; rw [if_neg (by omega), if_neg (by omega), if_neg (by omega), if_neg (by omega)]; exact n2 w hw hx
    · intro l hl; dsimp only; rw [if_neg (by omega), if_neg (by omega)]; exact n3 l hl
    · intro l hl hx; dsimp only; rw [if_neg (by omega), if_neg (by omega)]; exact n4 l hl hx
    · dsimp only; rw [if_pos rfl]; omega
    · show (if 17 = 16 then N 16 + 3 else if 17 = 17 then N 17 - 2 else N 17) ≤ N 1 + N 3 + N 5 + N 7 + N 9 + N 11
      rw [if_neg (by omega), if_pos rfl]; omega
    · exact n7
    · exact n8
    · exact n9
    · exact n10
    · exact n11
end

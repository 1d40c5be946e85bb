/-! THE CLASS: carryOut -/
section
variable {S Z Y : AS} {o i : Nat} {H N : Nat → Nat} {W : Option (List la_C)}
theorem cn_call_16 {v : Nat} : cn_call H W N v 16 = N 16 + cn_b H W N v := if_pos rfl
theorem cn_call_17 (ho : jh_ok H) {v : Nat} (hv : v < H 4) : cn_call H W N v 17 = N 17 + 1 := by
  have h6 : H 4 ≤ 6 := ho.2.2.2.2.1
  have b1 := (ho.2.2.2.2.2.2 v hv)
  have h3 : H 3 ≤ 4 := ho.2.2.2.1
  unfold cn_call
  rw [if_neg (by omega), if_neg (by omega), if_neg (by omega), if_pos rfl]
theorem cn_call_20 (ho : jh_ok H) {v : Nat} (hv : v < H 4) : cn_call H W N v 20 = if cn_b H W N v < H (19 + 7 * v) then N 20 else N 20 + 1 := by
  have h6 : H 4 ≤ 6 := ho.2.2.2.2.1
  have b1 := (ho.2.2.2.2.2.2 v hv)
  have h3 : H 3 ≤ 4 := ho.2.2.2.1
  unfold cn_call
  rw [if_neg (by omega), if_neg (by omega), if_neg (by omega), if_neg (by omega), if_pos rfl]
theorem cn_call_19 (ho : jh_ok H) {v : Nat} (hv : v < H 4) : cn_call H W N v 19 = if cn_b H W N v < H (19 + 7 * v) then N 19 else min 9999 (N 19 + (H (20 + 7 * v) + H (8 + 2 * H (21 + 7 * v)))) := by
  have h6 : H 4 ≤ 6 := ho.2.2.2.2.1
  have b1 := (ho.2.2.2.2.2.2 v hv)
  have h3 : H 3 ≤ 4 := ho.2.2.2.1
  unfold cn_call
  rw [if_neg (by omega), if_neg (by omega), if_neg (by omega), if_neg (by omega), if_neg (by omega), if_pos rfl]
theorem cn_call_l (ho : jh_ok H) {v l : Nat} (hv : v < H 4) (hl : l < 4) : cn_call H W N v (12 + l) = if l = H (21 + 7 * v) then N (12 + l) + 1 else N (12 + l) := by
  have h6 : H 4 ≤ 6 := ho.2.2.2.2.1
  have b1 := (ho.2.2.2.2.2.2 v hv)
  have h3 : H 3 ≤ 4 := ho.2.2.2.1
  unfold cn_call
  by_cases h : l = H (21 + 7 * v)
  · rw [if_neg (by omega), if_pos (by omega), if_pos h]
  · rw [if_neg (by omega), if_neg (by omega), if_neg h, if_neg (by omega), if_neg (by omega), if_neg (by omega), if_neg (by omega)]
theorem cn_call_e (ho : jh_ok H) {v w : Nat} (hv : v < H 4) (hw : w < 6) : cn_call H W N v (2 * w) = N (2 * w) := by
  have h6 : H 4 ≤ 6 := ho.2.2.2.2.1
  have b1 := (ho.2.2.2.2.2.2 v hv)
  have h3 : H 3 ≤ 4 := ho.2.2.2.1
  unfold cn_call
  rw [if_neg (by omega), if_neg (by omega), if_neg (by omega), if_neg (by omega), if_neg (by omega), if_neg (by omega)]
theorem cn_call_o (ho : jh_ok H) {v w : Nat} (hv : v < H 4) (hw : w < 6) : cn_call H W N v (2 * w + 1) = if w = v then 1 else N (2 * w + 1) := by
  have h6 : H 4 ≤ 6 := ho.2.2.2.2.1
  have b1 := (ho.2.2.2.2.2.2 v hv)
  have h3 : H 3 ≤ 4 := ho.2.2.2.1
  unfold cn_call
  by_cases q : w = v
  · rw [if_neg (by omega), if_neg (by omega), if_pos (by omega), if_pos q]
  · rw [if_neg (by omega), if_neg (by omega), if_neg (by omega), if_neg q, if_neg (by omega), if_neg (by omega), if_neg (by omega)]
theorem cn_call_k (ho : jh_ok H) {v j : Nat} (hv : v < H 4) (hj : j = 18 ∨ j = 21 ∨ j = 22) : cn_call H W N v j = N j := by
  have h6 : H 4 ≤ 6 := ho.2.2.2.2.1
  have b1 := (ho.2.2.2.2.2.2 v hv)
  have h3 : H 3 ≤ 4 := ho.2.2.2.1
  unfold cn_call
  rw [if_neg (by omega), if_neg (by omega), if_neg (by omega), if_neg (by omega), if_neg (by omega), if_neg (by omega)]
theorem jc_put (ho : jh_ok H) (hN : jn_ok H N) (hC : jc_C S o H W) (hS : jc_S S i N) {v : Nat} (hv : v < H 4) (hc : N (2 * v + 1) = 0) : ∃ Z, f_X6_putOnMat i (nI v) S = some Z ∧ jc_S Z i (cn_call H W N v) ∧ jc_st S Z i := by
  have b1 := (ho.2.2.2.2.2.2 v hv)
  have h6 : H 4 ≤ 6 := ho.2.2.2.2.1
  have h3 : H 3 ≤ 4 := ho.2.2.2.1
  have hb' : 1 ≤ cn_b H W N v ∧ cn_b H W N v ≤ 60 := bt_b
  have bl := ho.2.2.2.2.2.1 (H (21 + 7 * v)) (by omega)
  have h19 : N 19 ≤ 9999 := hN.2.2.2.2.2.2.2.1
  have hbt := cn_bits hN
  obtain ⟨S3, z1, z2⟩ := jc_bnow ho hN hC hS hv
  have hC3 := jc_C_fr z2 hC
  have hS3 := jc_S_fr z2 hS
  have e5 := jc_trait hC3.1 ho hv (w := 5) (by omega)
  rw [← sn_5, (by omega : 16 + 7 * v + 5 = 21 + 7 * v)] at e5
  obtain ⟨s0, s1, s2, s3, s4, s5, s6, s7, s8, s9⟩ := hS3
  have q0 : jc_st S S3 i := jc_st.fr z2
  have qf := hbt.2 v (by omega)
  have e14 : ax_fi (ax_sfi S3 9 i 0 (nI (N 16 + cn_b H W N v))) 9 i 1 = nI (jn_bits N) := by rw [sg, if_neg (by omega)]; exact s1
  have er : ax_ai (ax_sfi (ax_sfi S3 9 i 0 (nI (N 16 + cn_b H W N v))) 9 i 1 (nI (jn_bits N + 2 ^ v))) 38 i (H (21 + 7 * v)) = nI (N (12 + H (21 + 7 * v))) := s8 _ (by omega)
  unfold f_X6_putOnMat
  rw [jc_house hC.1 (by omega), sn_ons, z1, ax_bu_s, jc_house hC3.1 (by omega), sn_ons, e5, sn_bs, sn_let, s0, nI_add, sn_let, e14, cn_shl _ hbt.1 v (by omega) (by rw [qf]; exact hc), jc_rcv (by omega) er, sn_bs, sn_let]
  have e3 : ax_fi (ax_sai (ax_sfi (ax_sfi S3 9 i 0 (nI (N 16 + cn_b H W N v))) 9 i 1 (nI (jn_bits N + 2 ^ v))) 38 i (H (21 + 7 * v)) (nI (N (12 + H (21 + 7 * v)) + 1))) 9 i 3 = nI (N 17) := by
    show ax_fi (ax_sfi (ax_sfi S3 9 i 0 (nI (N 16 + cn_b H W N v))) 9 i 1 (nI (jn_bits N + 2 ^ v))) 9 i 3 = _
    rw [sg, if_neg (by omega), sg, if_neg (by omega)]; exact s3
  rw [e3, nI_1]
  generalize hU : ax_sfi (ax_sai (ax_sfi (ax_sfi S3 9 i 0 (nI (N 16 + cn_b H W N v))) 9 i 1 (nI (jn_bits N + 2 ^ v))) 38 i (H (21 + 7 * v)) (nI (N (12 + H (21 + 7 * v)) + 1))) 9 i 3 (nI (N 17 + 1)) = U
  have qU : jc_st S U i := by
    rw [← hU]
    exact (((q0.tr jc_st.fi).tr jc_st.fi).tr (jc_st.ai (.inl rfl))).tr jc_st.fi
  have u : ∀ j, ax_fi U 9 i j = if j = 3 then nI (N 17 + 1) else if j = 1 then nI (jn_bits N + 2 ^ v) else if j = 0 then nI (N 16 + cn_b H W N v) else ax_fi S3 9 i j := fun j => by
    rw [← hU, sg]
    by_cases h : j = 3
    · rw [if_pos h, if_pos h]
    · rw [if_neg h, if_neg h]
      show ax_fi (ax_sfi (ax_sfi S3 9 i 0 (nI (N 16 + cn_b H W N v))) 9 i 1 (nI (jn_bits N + 2 ^ v))) 9 i j = _
      rw [sg, sg]
  have ur : ∀ l, l < 4 → ax_ai U 38 i l = nI (cn_call H W N v (12 + l)) := fun l hl => by
    rw [← hU]
    show ax_ai (ax_sai (ax_sfi (ax_sfi S3 9 i 0 (nI (N 16 + cn_b H W N v))) 9 i 1 (nI (jn_bits N + 2 ^ v))) 38 i (H (21 + 7 * v)) (nI (N (12 + H (21 + 7 * v)) + 1))) 38 i l = _
    rw [sga, cn_call_l ho hv hl]
    by_cases h : l = H (21 + 7 * v)
    · rw [if_pos h, if_pos h, h]
    · rw [if_neg h, if_neg h]; exact s8 l hl
  have ut : ∀ w, w < 6 → ax_ai U 39 i w = nI (cn_call H W N v (2 * w)) := fun w hw => by
    rw [← hU, cn_call_e ho hv hw]
    show ax_ai (ax_sai (ax_sfi (ax_sfi S3 9 i 0 (nI (N 16 + cn_b H W N v))) 9 i 1 (nI (jn_bits N + 2 ^ v))) 38 i (H (21 + 7 * v)) (nI (N (12 + H (21 + 7 * v)) + 1))) 39 i w = _
    rw [sgo (by omega)]; exact s9 w hw
  rw [jc_done (jc_C_st qU hC).1 ho hv (by omega), sn_bs]
  by_cases hd : cn_b H W N v < H (19 + 7 * v)
  · rw [if_pos hd, if_pos rfl]
    refine ⟨U, rfl, ⟨?_, ?_, ?_, ?_, ?_, ?_, ?_, ?_, ur, ut⟩, qU⟩
    · rw [u, if_neg (by omega), if_neg (by omega), if_pos rfl, cn_call_16]
    · rw [u, if_neg (by omega), if_pos rfl, cn_call_bits hN ho hv hc]
    · rw [u, if_neg (by omega), if_neg (by omega), if_neg (by omega), s2, cn_call_20 ho hv, if_pos hd]
    · rw [u, if_pos rfl, cn_call_17 ho hv]
    · rw [u, if_neg (by omega), if_neg (by omega), if_neg (by omega), s4, cn_call_k ho hv (by omega)]
    · rw [u, if_neg (by omega), if_neg (by omega), if_neg (by omega), s5, cn_call_19 ho hv, if_pos hd]
    · rw [u, if_neg (by omega), if_neg (by omega), if_neg (by omega), s6, cn_call_k ho hv (by omega)]
    · rw [u, if_neg (by omega), if_neg (by omega), if_neg (by omega), s7, cn_call_k ho hv (by omega)]
  · have eg : ax_fi (ax_sfi U 9 i 2 (nI (N 20 + 1))) 9 i 5 = nI (N 19) := by
      rw [sg, if_neg (by omega), u, if_neg (by omega), if_neg (by omega), if_neg (by omega)]; exact s5
    have qV : jc_st S (ax_sfi U 9 i 2 (nI (N 20 + 1))) i := qU.tr jc_st.fi
    have e2 : ax_fi U 9 i 2 = nI (N 20) := by rw [u, if_neg (by omega), if_neg (by omega), if_neg (by omega)]; exact s2
    rw [if_neg hd, if_neg (by decide), sn_let, e2, nI_1, jc_gain (jc_C_st qV hC).1 ho hv, sn_bs, eg, nI_add]
    have em := sn_mn (S := ax_sfi U 9 i 2 (nI (N 20 + 1))) (a := 9999) (b := N 19 + (H (20 + 7 * v) + H (8 + 2 * H (21 + 7 * v)))) (by omega) (by omega)
    rw [← sn_9999] at em
    rw [em, sn_bs, sn_let]
    have w : ∀ j, ax_fi (ax_sfi (ax_sfi U 9 i 2 (nI (N 20 + 1))) 9 i 5 (nI (min 9999 (N 19 + (H (20 + 7 * v) + H (8 + 2 * H (21 + 7 * v))))))) 9 i j = if j = 5 then nI (min 9999 (N 19 + (H (20 + 7 * v) + H (8 + 2 * H (21 + 7 * v))))) else if j = 2 then nI (N 20 + 1) else ax_fi U 9 i j := fun j => by rw [sg, sg]
    refine ⟨_, rfl, ⟨?_, ?_, ?_, ?_, ?_, ?_, ?_, ?_, ur, ut⟩, qV.tr jc_st.fi⟩
    · rw [w, if_neg (by omega), if_neg (by omega), u, if_neg (by omega), if_neg (by omega), if_pos rfl, cn_call_16]
    · rw [w, if_neg (by omega), if_neg (by omega), u, if_neg (by omega), if_pos rfl, cn_call_bits hN ho hv hc]
    · rw [w, if_neg (by omega), if_pos rfl, cn_call_20 ho hv, if_neg hd]
    · rw [w, if_neg (by omega), if_neg (by omega), u, if_pos rfl, cn_call_17 ho hv]
    · rw [w, if_neg (by omega), if_neg (by omega), u, if_neg (by omega), if_neg (by omega), if_neg (by omega), s4, cn_call_k ho hv (by omega)]
    · rw [w, if_pos rfl, cn_call_19 ho hv, if_neg hd]
    · rw [w, if_neg (by omega), if_neg (by omega), u, if_neg (by omega), if_neg (by omega), if_neg (by omega), s6, cn_call_k ho hv (by omega)]
    · rw [w, if_neg (by omega), if_neg (by omega), u, if_neg (by omega), if_neg (by omega), if_neg (by omega), s7, cn_call_k ho hv (by omega)]
end

/-! THE CLASS: what may be -/
def cn_b (H : Nat → Nat) (W : Option (List la_C)) (N : Nat → Nat) (v : Nat) : Nat := bt H W v (H (17 + 7 * v)) (N (2 * v)) (N 17) (N 18) (N 22)
def cn_can (H : Nat → Nat) (W : Option (List la_C)) (N : Nat → Nat) (v : Nat) : Prop := N (2 * v + 1) = 0 ∧ N (12 + H (21 + 7 * v)) < H (9 + 2 * H (21 + 7 * v)) ∧ N 16 + cn_b H W N v ≤ H 0
def jc_C (S : AS) (o : Nat) (H : Nat → Nat) (W : Option (List la_C)) : Prop := jc_H S o H ∧ jc_W S W
theorem cn_tired {H N : Nat → Nat} (hN : jn_ok H N) : N 17 ≤ 6 ∧ N 20 ≤ 6 := by
  obtain ⟨h1, _, _, _, _, h6, _, _, h9, _⟩ := hN
  have a0 := (h1 0 (by omega)).2
  have a1 := (h1 1 (by omega)).2
  have a2 := (h1 2 (by omega)).2
  have a3 := (h1 3 (by omega)).2
  have a4 := (h1 4 (by omega)).2
  have a5 := (h1 5 (by omega)).2
  simp only [Nat.reduceMul, Nat.reduceAdd] at a0 a1 a2 a3 a4 a5
  omega
theorem cn_bits {H N : Nat → Nat} (hN : jn_ok H N) : jn_bits N < 64 ∧ ∀ v, v < 6 → jn_bits N / 2 ^ v % 2 = N (2 * v + 1) := by
  obtain ⟨h1, _⟩ := hN
  have a0 := (h1 0 (by omega)).2
  have a1 := (h1 1 (by omega)).2
  have a2 := (h1 2 (by omega)).2
  have a3 := (h1 3 (by omega)).2
  have a4 := (h1 4 (by omega)).2
  have a5 := (h1 5 (by omega)).2
  simp only [Nat.reduceMul, Nat.reduceAdd] at a0 a1 a2 a3 a4 a5
  unfold jn_bits
  refine ⟨by omega, fun v hv => ?_⟩
  rcases (by omega : v = 0 ∨ v = 1 ∨ v = 2 ∨ v = 3 ∨ v = 4 ∨ v = 5) with rfl | rfl | rfl | rfl | rfl | rfl <;> simp only [Nat.reducePow, Nat.reduceMul, Nat.reduceAdd] <;> omega
theorem cn_shr : ∀ w, w < 64 → ∀ v, v < 6 → ((nI w >>> (nI v &&& 31)) &&& (1 : Int32)) = nI (w / 2 ^ v % 2) := by decide +kernel
theorem cn_shl : ∀ w, w < 64 → ∀ v, v < 6 → w / 2 ^ v % 2 = 0 → nI w ||| ((1 : Int32) <<< (nI v &&& 31)) = nI (w + 2 ^ v) := by decide +kernel
section
variable {S Z : AS} {o i : Nat} {H N : Nat → Nat} {W : Option (List la_C)}
theorem jc_C_fr (h : ax_fr jc_scr S Z) (hC : jc_C S o H W) : jc_C Z o H W := ⟨jc_H_fr h hC.1, jc_W_fr h hC.2⟩
theorem jc_titles (hS : jc_S S i N) {v : Nat} (hv : v < 6) : f_X9_titlesOf i (nI v) S = some (nI (N (2 * v))) := by
  unfold f_X9_titlesOf
  rw [sn_0, sn_6]
  simp (disch := omega) only [nI_ltI, nI_leI]
  rw [if_neg (by omega), if_neg (by omega), sn_in (by omega) (by omega), nI_clamp (by omega), hS.2.2.2.2.2.2.2.2.2 v hv]
  rfl
theorem jc_recv (hS : jc_S S i N) {l : Nat} (hl : l < 4) : f_X9_receivedBy i (nI l) S = some (nI (N (12 + l))) := by
  unfold f_X9_receivedBy
  rw [sn_0, sn_4]
  simp (disch := omega) only [nI_ltI, nI_leI]
  rw [if_neg (by omega), if_neg (by omega), sn_in (by omega) (by omega), nI_clamp (by omega), hS.2.2.2.2.2.2.2.2.1 l hl]
  rfl
theorem jc_was (hN : jn_ok H N) (hS : jc_S S i N) {v : Nat} (hv : v < 6) : f_X9_wasAnnounced i (nI v) S = some (if N (2 * v + 1) = 0 then 0 else 1) := by
  have hb := cn_bits hN
  unfold f_X9_wasAnnounced
  rw [hS.2.1, cn_shr _ hb.1 v hv, hb.2 v hv]
  have e1 : (nI (N (2 * v + 1)) = (0 : Int32)) ↔ N (2 * v + 1) = 0 := by
    rw [sn_0]
    exact nI_eq (by have := (hN.1 v hv).2; omega) (by omega)
  have l0 : ¬ (nI v < 0) := nI_pos (by omega)
  have l6 : ¬ ((6 : Int32) ≤ nI v) := by rw [sn_6, nI_leI (by omega) (by omega)]; omega
  rw [if_neg l0, if_neg l6]
  simp only [e1]
  split <;> rfl
theorem jc_litem (hH : jc_H S o H) (ho : jh_ok H) {l w : Nat} (hl : l < H 3) (hw : w < 2) : f_X4_lodgerItem o (nI l) (nI w) S = some (nI (H (8 + 2 * l + w))) := by
  have h4 : H 3 ≤ 4 := ho.2.2.2.1
  unfold f_X4_lodgerItem
  rw [hH.2.2.2.2.1, sn_0, sn_2, pk_mul, nI_add]
  simp (disch := omega) only [nI_ltI, nI_leI]
  rw [if_neg (by omega), if_neg (by omega), sn_in (by omega) (by omega), nI_clamp (by omega), hH.2.2.2.2.2.2.2.1 l hl w hw]
  rfl
theorem jc_pati (hH : jc_H S o H) (ho : jh_ok H) {l : Nat} (hl : l < H 3) : f_X4_patienceOf o (nI l) S = some (nI (H (9 + 2 * l))) := by
  unfold f_X4_patienceOf
  have e := jc_litem hH ho hl (w := 1) (by omega)
  rw [← sn_1] at e
  rw [e, sn_bs, (by omega : 8 + 2 * l + 1 = 9 + 2 * l)]
theorem jc_want (hH : jc_H S o H) (ho : jh_ok H) {l : Nat} (hl : l < H 3) : f_X4_wantsOf o (nI l) S = some (nI (H (8 + 2 * l))) := by
  unfold f_X4_wantsOf
  have e := jc_litem hH ho hl (w := 0) (by omega)
  rw [← sn_0] at e
  rw [e, sn_bs]; rfl
theorem jc_rule0 (hH : jc_H S o H) : f_X4_beats o S = some (nI (H 0)) := by
  unfold f_X4_beats
  have i0 : ax_in (0 : Int32) 3 = true := by decide
  have c0 : (0 : Int32).toNatClampNeg = 0 := rfl
  rw [i0, c0, hH.2.2.2.2.2.2.1 0 (by omega)]; rfl
theorem jc_house (hH : jc_H S o H) (h0 : 0 < H 4) : ax_fo S 6 0 1 = some o := by rw [hH.2.2.2.1, if_neg (by omega)]
theorem jc_left (hH : jc_H S o H) (h0 : 0 < H 4) (hS : jc_S S i N) : f_X6_beatsLeft i S = some (nI (H 0) - nI (N 16)) := by
  unfold f_X6_beatsLeft
  rw [jc_house hH h0, sn_ons, jc_rule0 hH, sn_bs, hS.1]
theorem jc_done (hH : jc_H S o H) (ho : jh_ok H) {v b : Nat} (hv : v < H 4) (hb : b ≤ 60) : f_X6_doneBy (nI v) (nI b) S = some (if b < H (19 + 7 * v) then 0 else 1) := by
  have b1 := (ho.2.2.2.2.2.2 v hv)
  unfold f_X6_doneBy
  have e := jc_trait hH ho hv (w := 3) (by omega)
  rw [← sn_3, (by omega : 16 + 7 * v + 3 = 19 + 7 * v)] at e
  rw [jc_house hH (by omega), sn_ons, e, sn_bs]
  simp (disch := omega) only [nI_ltI]
  split <;> rfl
theorem jc_gain (hH : jc_H S o H) (ho : jh_ok H) {v : Nat} (hv : v < H 4) : f_X6_gainOf (nI v) S = some (nI (H (20 + 7 * v) + H (8 + 2 * H (21 + 7 * v)))) := by
  have b1 := (ho.2.2.2.2.2.2 v hv)
  unfold f_X6_gainOf
  have e4 := jc_trait hH ho hv (w := 4) (by omega)
  rw [← sn_4, (by omega : 16 + 7 * v + 4 = 20 + 7 * v)] at e4
  have e5 := jc_trait hH ho hv (w := 5) (by omega)
  rw [← sn_5, (by omega : 16 + 7 * v + 5 = 21 + 7 * v)] at e5
  rw [jc_house hH (by omega), sn_ons, e4, sn_bs, e5, sn_bs, jc_want hH ho (by omega), sn_bs, nI_add]
theorem jc_bnow (ho : jh_ok H) (hN : jn_ok H N) (hC : jc_C S o H W) (hS : jc_S S i N) {v : Nat} (hv : v < H 4) : ∃ Z, f_X6_beatsNow i (nI v) S = some (nI (cn_b H W N v), Z) ∧ ax_fr jc_scr S Z := by
  have b1 := (ho.2.2.2.2.2.2 v hv)
  have h6 : H 4 ≤ 6 := ho.2.2.2.2.1
  have ht := cn_tired hN
  have h2 := hN.1 v (by omega)
  have h18 : N 18 ≤ 1 := hN.2.2.2.2.2.2.1
  obtain ⟨Z, z1, z2⟩ := jc_beats (v := v) (h := H (17 + 7 * v)) (t := N (2 * v)) (g := N 17) (s := N 18) (d := N 22) hC.1 ho hC.2 hv (by omega) (by omega) (by omega) (by omega)
  refine ⟨Z, ?_, z2⟩
  unfold f_X6_beatsNow
  have eh := jc_hards hC.1 ho hv
  rw [(by omega : 16 + 7 * v + 1 = 17 + 7 * v)] at eh
  rw [eh, sn_bs, jc_titles hS (by omega), sn_bs, hS.2.2.2.1, hS.2.2.2.2.1, hS.2.2.2.2.2.2.2.1, z1, ax_bu_s]
  rfl
theorem jc_may0 (ho : jh_ok H) (hN : jn_ok H N) (hC : jc_C S o H W) (hS : jc_S S i N) {v : Nat} (hv : v < H 4) : ∃ r Z, f_X6_mayAnnounce i (nI v) S = some (r, Z) ∧ ax_fr jc_scr S Z ∧ (cn_can H W N v → r = 1) ∧ (¬ cn_can H W N v → r = 0) := by
  have b1 := (ho.2.2.2.2.2.2 v hv)
  have h6 : H 4 ≤ 6 := ho.2.2.2.2.1
  have h3 : H 3 ≤ 4 := ho.2.2.2.1
  have bl := ho.2.2.2.2.2.1 (H (21 + 7 * v)) (by omega)
  have hr := hN.2.2.1 (H (21 + 7 * v)) (by omega)
  have hb := bt_b (H := H) (W := W) (v := v) (h := H (17 + 7 * v)) (t := N (2 * v)) (g := N 17) (s := N 18) (d := N 22)
  have hb' : 1 ≤ cn_b H W N v ∧ cn_b H W N v ≤ 60 := hb
  have h16 : N 16 ≤ 99 := hN.2.2.2.2.1
  have h0 : H 0 ≤ 99 := ho.1
  have e5 := jc_trait hC.1 ho hv (w := 5) (by omega)
  rw [← sn_5, (by omega : 16 + 7 * v + 5 = 21 + 7 * v)] at e5
  have ew := jc_was hN hS (v := v) (by omega)
  unfold f_X6_mayAnnounce
  rw [jc_house hC.1 (by omega), sn_ons, e5, sn_bs, ew, sn_bs]
  unfold cn_can
  by_cases ha : N (2 * v + 1) = 0
  · rw [if_pos ha, if_pos rfl, jc_recv hS (by omega), sn_bs, jc_pati hC.1 ho (by omega), sn_bs]
    by_cases hl : H (9 + 2 * H (21 + 7 * v)) ≤ N (12 + H (21 + 7 * v))
    · rw [if_pos ((nI_leI (by omega) (by omega)).mpr hl)]
      exact ⟨0, S, rfl, ax_fr.rf, fun q => absurd q.2.1 (by omega), fun _ => rfl⟩
    · rw [if_neg (fun q => hl ((nI_leI (by omega) (by omega)).mp q))]
      obtain ⟨Z, z1, z2⟩ := jc_bnow ho hN hC hS hv
      have hCZ := jc_C_fr z2 hC
      rw [z1, ax_bu_s, jc_left hCZ.1 (by omega) (jc_S_fr z2 hS), sn_bs]
      have ec : (nI (H 0) - nI (N 16) < nI (cn_b H W N v)) ↔ ¬ (N 16 + cn_b H W N v ≤ H 0) := by
        rw [Int32.lt_iff_toInt_lt, pk_sub_toInt (by omega) (by omega), nI_toInt (by omega)]
        omega
      by_cases hq : N 16 + cn_b H W N v ≤ H 0
      · rw [if_neg (fun q => (ec.mp q) hq)]
        exact ⟨1, Z, rfl, z2, fun _ => rfl, fun q => absurd ⟨ha, by omega, hq⟩ q⟩
      · rw [if_pos (ec.mpr hq)]
        exact ⟨0, Z, rfl, z2, fun q => absurd q.2.2 hq, fun _ => rfl⟩
  · rw [if_neg ha, if_neg (by decide)]
    exact ⟨0, S, rfl, ax_fr.rf, fun q => absurd q.1 ha, fun _ => rfl⟩
end

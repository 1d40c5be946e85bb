/-! TEXTS: letters of house and afternoon -/
def ti0 (x : Nat) : Int32 := if x = 116 then nI 0 else if x = 104 then nI 1 else if x = 99 then nI 2 else Int32.ofInt (-1)
def tc0 (v : Int32) : Int32 := if (116 : Int32) = v then 0 else if (104 : Int32) = v then 1 else if (99 : Int32) = v then 2 else Int32.ofInt (-1)
theorem tc0_e : ∀ x, x < 257 → tc0 (lc_sg x).toInt8.toInt32 = ti0 x := by decide +kernel
theorem tc0_r : ∀ x, x < 257 → tc0 (lr_sg x) = ti0 x := by decide +kernel
theorem ti0_1 {S : AS} {v : Int32} : f_J1_indexOfChar_4cfef_65_L7 S ax_F 0 3 v 0 = some (tc0 v) := by
  unfold tc0
  show (if (116 : Int32) = v then some (0 : Int32) else if (104 : Int32) = v then some (1 : Int32) else if (99 : Int32) = v then some (2 : Int32) else some (Int32.ofInt (-1))) = _
  repeat' split
  all_goals rfl
theorem ci0 {S : AS} {x : Nat} (hx : x ≤ 256) : f_J0_indexOf_0f7a4_64x0 ((lc_sg x).toUInt32 % 65536).toInt32 S = some (ti0 x) := by
  rw [lc_cn x (by omega), ← tc0_e x (by omega), ← ti0_1 (S := S)]
  have e1 : f_J9_max_7cf53 0 0 S = some 0 := by unfold f_J9_max_7cf53; split <;> rfl
  have e2 : f_J9_min_7cf53 ((Int32.ofNat 3) >>> ((0 : Int32) &&& 31)) (Int32.ofNat (ax_ln S 65 0)) S = some 3 := by
    have q1 : (Int32.ofNat 3) >>> ((0 : Int32) &&& 31) = 3 := by decide
    have q2 : Int32.ofNat (ax_ln S 65 0) = 3 := rfl
    rw [q1, q2]; unfold f_J9_min_7cf53; split <;> rfl
  have e3 : f_J1_canEncode_9a6ad (lc_sg x) S = some 1 := by
    unfold f_J1_canEncode_9a6ad
    rw [if_neg (lc_ce x (by omega)).1, if_neg (lc_ce x (by omega)).2]
  unfold f_J0_indexOf_0f7a4_64x0 f_J0_indexOf_7cf53_64x0 f_J1_indexOf_4cfef_65
  rw [e3, e1, e2]
  simp only [Option.bind_some]
  rw [if_neg (by decide), if_pos (by decide)]
  unfold f_J1_indexOfChar_4cfef_65
  simp only [ax_let]
  cases f_J1_indexOfChar_4cfef_65_L7 S ax_F 0 3 (lc_sg x).toInt8.toInt32 0 <;> rfl
theorem ca0_0 {S : AS} : f_J0_charAt_5068e_64x0 0 S = some 116 := by
  have q1 : ax_ln S 65 0 = 3 := rfl
  have q2 : ax_rd S 65 0 (Int32.toNatClampNeg 0) = 116 := by
    show ax_rd S 65 0 0 = 116
    rfl
  have e : f_J1_charAt_3b067_65 0 0 S = some 116 := by
    unfold f_J1_charAt_3b067_65 f_J0_checkIndex_df160 f_J3_checkIndex_8e157_68x0
    rw [q1, q2]
    rfl
  unfold f_J0_charAt_5068e_64x0
  rw [e]; rfl
theorem ca0_1 {S : AS} : f_J0_charAt_5068e_64x0 1 S = some 104 := by
  have q1 : ax_ln S 65 0 = 3 := rfl
  have q2 : ax_rd S 65 0 (Int32.toNatClampNeg 1) = 104 := by
    show ax_rd S 65 0 1 = 104
    rfl
  have e : f_J1_charAt_3b067_65 0 1 S = some 104 := by
    unfold f_J1_charAt_3b067_65 f_J0_checkIndex_df160 f_J3_checkIndex_8e157_68x0
    rw [q1, q2]
    rfl
  unfold f_J0_charAt_5068e_64x0
  rw [e]; rfl
theorem ca0_2 {S : AS} : f_J0_charAt_5068e_64x0 2 S = some 99 := by
  have q1 : ax_ln S 65 0 = 3 := rfl
  have q2 : ax_rd S 65 0 (Int32.toNatClampNeg 2) = 99 := by
    show ax_rd S 65 0 2 = 99
    rfl
  have e : f_J1_charAt_3b067_65 0 2 S = some 99 := by
    unfold f_J1_charAt_3b067_65 f_J0_checkIndex_df160 f_J3_checkIndex_8e157_68x0
    rw [q1, q2]
    rfl
  unfold f_J0_charAt_5068e_64x0
  rw [e]; rfl
theorem sp0_s {S : AS} {N : Nat} {v j r k : Int32} (hk : j + 1 = k) (hj : ¬ (((Int32.ofNat 3) >>> ((0 : Int32) &&& 31)) ≤ j)) (h : f_J0_charAt_5068e_64x0 j S = some r) : f_X12_spotOf_64x0_L2 S (N + 1) v j = (if r = v then some j else f_X12_spotOf_64x0_L2 S N v k) := by
  subst hk
  rw [f_X12_spotOf_64x0_L2, if_neg hj, h]; rfl
theorem si0 {S : AS} {x : Nat} (hx : x ≤ 256) : f_X12_spotOf_64x0 (lr_sg x) S = some (ti0 x) := by
  rw [← tc0_r x (by omega)]
  generalize lr_sg x = v
  unfold tc0 f_X12_spotOf_64x0
  have e : ax_F = 999996 + 1 + 1 + 1 + 1 := rfl
  have eL : f_X12_spotOf_64x0_L2 S (999996 + 1) v 3 = some (Int32.ofInt (-1)) := by
    rw [f_X12_spotOf_64x0_L2, if_pos (by decide)]
  rw [e, sp0_s (k := 1) (by decide) (by decide) ca0_0, sp0_s (k := 2) (by decide) (by decide) ca0_1, sp0_s (k := 3) (by decide) (by decide) ca0_2, eL]
  repeat' split
  all_goals rfl
def ti1 (x : Nat) : Int32 := if x = 119 then nI 0 else if x = 112 then nI 1 else Int32.ofInt (-1)
def tc1 (v : Int32) : Int32 := if (119 : Int32) = v then 0 else if (112 : Int32) = v then 1 else Int32.ofInt (-1)
theorem tc1_e : ∀ x, x < 257 → tc1 (lc_sg x).toInt8.toInt32 = ti1 x := by decide +kernel
theorem tc1_r : ∀ x, x < 257 → tc1 (lr_sg x) = ti1 x := by decide +kernel
theorem ti1_1 {S : AS} {v : Int32} : f_J1_indexOfChar_4cfef_65_L7 S ax_F 1 2 v 0 = some (tc1 v) := by
  unfold tc1
  show (if (119 : Int32) = v then some (0 : Int32) else if (112 : Int32) = v then some (1 : Int32) else some (Int32.ofInt (-1))) = _
  repeat' split
  all_goals rfl
theorem ci1 {S : AS} {x : Nat} (hx : x ≤ 256) : f_J0_indexOf_0f7a4_64x1 ((lc_sg x).toUInt32 % 65536).toInt32 S = some (ti1 x) := by
  rw [lc_cn x (by omega), ← tc1_e x (by omega), ← ti1_1 (S := S)]
  have e1 : f_J9_max_7cf53 0 0 S = some 0 := by unfold f_J9_max_7cf53; split <;> rfl
  have e2 : f_J9_min_7cf53 ((Int32.ofNat 2) >>> ((0 : Int32) &&& 31)) (Int32.ofNat (ax_ln S 65 1)) S = some 2 := by
    have q1 : (Int32.ofNat 2) >>> ((0 : Int32) &&& 31) = 2 := by decide
    have q2 : Int32.ofNat (ax_ln S 65 1) = 2 := rfl
    rw [q1, q2]; unfold f_J9_min_7cf53; split <;> rfl
  have e3 : f_J1_canEncode_9a6ad (lc_sg x) S = some 1 := by
    unfold f_J1_canEncode_9a6ad
    rw [if_neg (lc_ce x (by omega)).1, if_neg (lc_ce x (by omega)).2]
  unfold f_J0_indexOf_0f7a4_64x1 f_J0_indexOf_7cf53_64x1 f_J1_indexOf_4cfef_65
  rw [e3, e1, e2]
  simp only [Option.bind_some]
  rw [if_neg (by decide), if_pos (by decide)]
  unfold f_J1_indexOfChar_4cfef_65
  simp only [ax_let]
  cases f_J1_indexOfChar_4cfef_65_L7 S ax_F 1 2 (lc_sg x).toInt8.toInt32 0 <;> rfl
theorem ca1_0 {S : AS} : f_J0_charAt_5068e_64x1 0 S = some 119 := by
  have q1 : ax_ln S 65 1 = 2 := rfl
  have q2 : ax_rd S 65 1 (Int32.toNatClampNeg 0) = 119 := by
    show ax_rd S 65 1 0 = 119
    rfl
  have e : f_J1_charAt_3b067_65 1 0 S = some 119 := by
    unfold f_J1_charAt_3b067_65 f_J0_checkIndex_df160 f_J3_checkIndex_8e157_68x0
    rw [q1, q2]
    rfl
  unfold f_J0_charAt_5068e_64x1
  rw [e]; rfl
theorem ca1_1 {S : AS} : f_J0_charAt_5068e_64x1 1 S = some 112 := by
  have q1 : ax_ln S 65 1 = 2 := rfl
  have q2 : ax_rd S 65 1 (Int32.toNatClampNeg 1) = 112 := by
    show ax_rd S 65 1 1 = 112
    rfl
  have e : f_J1_charAt_3b067_65 1 1 S = some 112 := by
    unfold f_J1_charAt_3b067_65 f_J0_checkIndex_df160 f_J3_checkIndex_8e157_68x0
    rw [q1, q2]
    rfl
  unfold f_J0_charAt_5068e_64x1
  rw [e]; rfl
theorem sp1_s {S : AS} {N : Nat} {v j r k : Int32} (hk : j + 1 = k) (hj : ¬ (((Int32.ofNat 2) >>> ((0 : Int32) &&& 31)) ≤ j)) (h : f_J0_charAt_5068e_64x1 j S = some r) : f_X12_spotOf_64x1_L2 S (N + 1) v j = (if r = v then some j else f_X12_spotOf_64x1_L2 S N v k) := by
  subst hk
  rw [f_X12_spotOf_64x1_L2, if_neg hj, h]; rfl
theorem si1 {S : AS} {x : Nat} (hx : x ≤ 256) : f_X12_spotOf_64x1 (lr_sg x) S = some (ti1 x) := by
  rw [← tc1_r x (by omega)]
  generalize lr_sg x = v
  unfold tc1 f_X12_spotOf_64x1
  have e : ax_F = 999997 + 1 + 1 + 1 := rfl
  have eL : f_X12_spotOf_64x1_L2 S (999997 + 1) v 2 = some (Int32.ofInt (-1)) := by
    rw [f_X12_spotOf_64x1_L2, if_pos (by decide)]
  rw [e, sp1_s (k := 1) (by decide) (by decide) ca1_0, sp1_s (k := 2) (by decide) (by decide) ca1_1, eL]
  repeat' split
  all_goals rfl
def ti2 (x : Nat) : Int32 := if x = 110 then nI 0 else if x = 112 then nI 1 else if x = 116 then nI 2 else if x = 98 then nI 3 else if x = 119 then nI 4 else if x = 108 then nI 5 else if x = 97 then nI 6 else Int32.ofInt (-1)
def tc2 (v : Int32) : Int32 := if (110 : Int32) = v then 0 else if (112 : Int32) = v then 1 else if (116 : Int32) = v then 2 else if (98 : Int32) = v then 3 else if (119 : Int32) = v then 4 else if (108 : Int32) = v then 5 else if (97 : Int32) = v then 6 else Int32.ofInt (-1)
theorem tc2_e : ∀ x, x < 257 → tc2 (lc_sg x).toInt8.toInt32 = ti2 x := by decide +kernel
theorem tc2_r : ∀ x, x < 257 → tc2 (lr_sg x) = ti2 x := by decide +kernel
theorem ti2_1 {S : AS} {v : Int32} : f_J1_indexOfChar_4cfef_65_L7 S ax_F 2 7 v 0 = some (tc2 v) := by
  unfold tc2
  show (if (110 : Int32) = v then some (0 : Int32) else if (112 : Int32) = v then some (1 : Int32) else if (116 : Int32) = v then some (2 : Int32) else if (98 : Int32) = v then some (3 : Int32) else if (119 : Int32) = v then some (4 : Int32) else if (108 : Int32) = v then some (5 : Int32) else if (97 : Int32) = v then some (6 : Int32) else some (Int32.ofInt (-1))) = _
  repeat' split
  all_goals rfl
theorem ci2 {S : AS} {x : Nat} (hx : x ≤ 256) : f_J0_indexOf_0f7a4_64x2 ((lc_sg x).toUInt32 % 65536).toInt32 S = some (ti2 x) := by
  rw [lc_cn x (by omega), ← tc2_e x (by omega), ← ti2_1 (S := S)]
  have e1 : f_J9_max_7cf53 0 0 S = some 0 := by unfold f_J9_max_7cf53; split <;> rfl
  have e2 : f_J9_min_7cf53 ((Int32.ofNat 7) >>> ((0 : Int32) &&& 31)) (Int32.ofNat (ax_ln S 65 2)) S = some 7 := by
    have q1 : (Int32.ofNat 7) >>> ((0 : Int32) &&& 31) = 7 := by decide
    have q2 : Int32.ofNat (ax_ln S 65 2) = 7 := rfl
    rw [q1, q2]; unfold f_J9_min_7cf53; split <;> rfl
  have e3 : f_J1_canEncode_9a6ad (lc_sg x) S = some 1 := by
    unfold f_J1_canEncode_9a6ad
    rw [if_neg (lc_ce x (by omega)).1, if_neg (lc_ce x (by omega)).2]
  unfold f_J0_indexOf_0f7a4_64x2 f_J0_indexOf_7cf53_64x2 f_J1_indexOf_4cfef_65
  rw [e3, e1, e2]
  simp only [Option.bind_some]
  rw [if_neg (by decide), if_pos (by decide)]
  unfold f_J1_indexOfChar_4cfef_65
  simp only [ax_let]
  cases f_J1_indexOfChar_4cfef_65_L7 S ax_F 2 7 (lc_sg x).toInt8.toInt32 0 <;> rfl
theorem ca2_0 {S : AS} : f_J0_charAt_5068e_64x2 0 S = some 110 := by
  have q1 : ax_ln S 65 2 = 7 := rfl
  have q2 : ax_rd S 65 2 (Int32.toNatClampNeg 0) = 110 := by
    show ax_rd S 65 2 0 = 110
    rfl
  have e : f_J1_charAt_3b067_65 2 0 S = some 110 := by
    unfold f_J1_charAt_3b067_65 f_J0_checkIndex_df160 f_J3_checkIndex_8e157_68x0
    rw [q1, q2]
    rfl
  unfold f_J0_charAt_5068e_64x2
  rw [e]; rfl
theorem ca2_1 {S : AS} : f_J0_charAt_5068e_64x2 1 S = some 112 := by
  have q1 : ax_ln S 65 2 = 7 := rfl
  have q2 : ax_rd S 65 2 (Int32.toNatClampNeg 1) = 112 := by
    show ax_rd S 65 2 1 = 112
    rfl
  have e : f_J1_charAt_3b067_65 2 1 S = some 112 := by
    unfold f_J1_charAt_3b067_65 f_J0_checkIndex_df160 f_J3_checkIndex_8e157_68x0
    rw [q1, q2]
    rfl
  unfold f_J0_charAt_5068e_64x2
  rw [e]; rfl
theorem ca2_2 {S : AS} : f_J0_charAt_5068e_64x2 2 S = some 116 := by
  have q1 : ax_ln S 65 2 = 7 := rfl
  have q2 : ax_rd S 65 2 (Int32.toNatClampNeg 2) = 116 := by
    show ax_rd S 65 2 2 = 116
    rfl
  have e : f_J1_charAt_3b067_65 2 2 S = some 116 := by
    unfold f_J1_charAt_3b067_65 f_J0_checkIndex_df160 f_J3_checkIndex_8e157_68x0
    rw [q1, q2]
    rfl
  unfold f_J0_charAt_5068e_64x2
  rw [e]; rfl
theorem ca2_3 {S : AS} : f_J0_charAt_5068e_64x2 3 S = some 98 := by
  have q1 : ax_ln S 65 2 = 7 := rfl
  have q2 : ax_rd S 65 2 (Int32.toNatClampNeg 3) = 98 := by
    show ax_rd S 65 2 3 = 98
    rfl
  have e : f_J1_charAt_3b067_65 2 3 S = some 98 := by
    unfold f_J1_charAt_3b067_65 f_J0_checkIndex_df160 f_J3_checkIndex_8e157_68x0
    rw [q1, q2]
    rfl
  unfold f_J0_charAt_5068e_64x2
  rw [e]; rfl
theorem ca2_4 {S : AS} : f_J0_charAt_5068e_64x2 4 S = some 119 := by
  have q1 : ax_ln S 65 2 = 7 := rfl
  have q2 : ax_rd S 65 2 (Int32.toNatClampNeg 4) = 119 := by
    show ax_rd S 65 2 4 = 119
    rfl
  have e : f_J1_charAt_3b067_65 2 4 S = some 119 := by
    unfold f_J1_charAt_3b067_65 f_J0_checkIndex_df160 f_J3_checkIndex_8e157_68x0
    rw [q1, q2]
    rfl
  unfold f_J0_charAt_5068e_64x2
  rw [e]; rfl
theorem ca2_5 {S : AS} : f_J0_charAt_5068e_64x2 5 S = some 108 := by
  have q1 : ax_ln S 65 2 = 7 := rfl
  have q2 : ax_rd S 65 2 (Int32.toNatClampNeg 5) = 108 := by
    show ax_rd S 65 2 5 = 108
    rfl
  have e : f_J1_charAt_3b067_65 2 5 S = some 108 := by
    unfold f_J1_charAt_3b067_65 f_J0_checkIndex_df160 f_J3_checkIndex_8e157_68x0
    rw [q1, q2]
    rfl
  unfold f_J0_charAt_5068e_64x2
  rw [e]; rfl
theorem ca2_6 {S : AS} : f_J0_charAt_5068e_64x2 6 S = some 97 := by
  have q1 : ax_ln S 65 2 = 7 := rfl
  have q2 : ax_rd S 65 2 (Int32.toNatClampNeg 6) = 97 := by
    show ax_rd S 65 2 6 = 97
    rfl
  have e : f_J1_charAt_3b067_65 2 6 S = some 97 := by
    unfold f_J1_charAt_3b067_65 f_J0_checkIndex_df160 f_J3_checkIndex_8e157_68x0
    rw [q1, q2]
    rfl
  unfold f_J0_charAt_5068e_64x2
  rw [e]; rfl
theorem sp2_s {S : AS} {N : Nat} {v j r k : Int32} (hk : j + 1 = k) (hj : ¬ (((Int32.ofNat 7) >>> ((0 : Int32) &&& 31)) ≤ j)) (h : f_J0_charAt_5068e_64x2 j S = some r) : f_X12_spotOf_64x2_L2 S (N + 1) v j = (if r = v then some j else f_X12_spotOf_64x2_L2 S N v k) := by
  subst hk
  rw [f_X12_spotOf_64x2_L2, if_neg hj, h]; rfl
theorem si2 {S : AS} {x : Nat} (hx : x ≤ 256) : f_X12_spotOf_64x2 (lr_sg x) S = some (ti2 x) := by
  rw [← tc2_r x (by omega)]
  generalize lr_sg x = v
  unfold tc2 f_X12_spotOf_64x2
  have e : ax_F = 999992 + 1 + 1 + 1 + 1 + 1 + 1 + 1 + 1 := rfl
  have eL : f_X12_spotOf_64x2_L2 S (999992 + 1) v 7 = some (Int32.ofInt (-1)) := by
    rw [f_X12_spotOf_64x2_L2, if_pos (by decide)]
  rw [e, sp2_s (k := 1) (by decide) (by decide) ca2_0, sp2_s (k := 2) (by decide) (by decide) ca2_1, sp2_s (k := 3) (by decide) (by decide) ca2_2, sp2_s (k := 4) (by decide) (by decide) ca2_3, sp2_s (k := 5) (by decide) (by decide) ca2_4, sp2_s (k := 6) (by decide) (by decide) ca2_5, sp2_s (k := 7) (by decide) (by decide) ca2_6, eL]
  repeat' split
  all_goals rfl
def ti4 (x : Nat) : Int32 := if x = 99 then nI 0 else if x = 116 then nI 1 else if x = 103 then nI 2 else if x = 104 then nI 3 else if x = 100 then nI 4 else Int32.ofInt (-1)
def tc4 (v : Int32) : Int32 := if (99 : Int32) = v then 0 else if (116 : Int32) = v then 1 else if (103 : Int32) = v then 2 else if (104 : Int32) = v then 3 else if (100 : Int32) = v then 4 else Int32.ofInt (-1)
theorem tc4_e : ∀ x, x < 257 → tc4 (lc_sg x).toInt8.toInt32 = ti4 x := by decide +kernel
theorem tc4_r : ∀ x, x < 257 → tc4 (lr_sg x) = ti4 x := by decide +kernel
theorem ti4_1 {S : AS} {v : Int32} : f_J1_indexOfChar_4cfef_65_L7 S ax_F 4 5 v 0 = some (tc4 v) := by
  unfold tc4
  show (if (99 : Int32) = v then some (0 : Int32) else if (116 : Int32) = v then some (1 : Int32) else if (103 : Int32) = v then some (2 : Int32) else if (104 : Int32) = v then some (3 : Int32) else if (100 : Int32) = v then some (4 : Int32) else some (Int32.ofInt (-1))) = _
  repeat' split
  all_goals rfl
theorem ci4 {S : AS} {x : Nat} (hx : x ≤ 256) : f_J0_indexOf_0f7a4_64x4 ((lc_sg x).toUInt32 % 65536).toInt32 S = some (ti4 x) := by
  rw [lc_cn x (by omega), ← tc4_e x (by omega), ← ti4_1 (S := S)]
  have e1 : f_J9_max_7cf53 0 0 S = some 0 := by unfold f_J9_max_7cf53; split <;> rfl
  have e2 : f_J9_min_7cf53 ((Int32.ofNat 5) >>> ((0 : Int32) &&& 31)) (Int32.ofNat (ax_ln S 65 4)) S = some 5 := by
    have q1 : (Int32.ofNat 5) >>> ((0 : Int32) &&& 31) = 5 := by decide
    have q2 : Int32.ofNat (ax_ln S 65 4) = 5 := rfl
    rw [q1, q2]; unfold f_J9_min_7cf53; split <;> rfl
  have e3 : f_J1_canEncode_9a6ad (lc_sg x) S = some 1 := by
    unfold f_J1_canEncode_9a6ad
    rw [if_neg (lc_ce x (by omega)).1, if_neg (lc_ce x (by omega)).2]
  unfold f_J0_indexOf_0f7a4_64x4 f_J0_indexOf_7cf53_64x4 f_J1_indexOf_4cfef_65
  rw [e3, e1, e2]
  simp only [Option.bind_some]
  rw [if_neg (by decide), if_pos (by decide)]
  unfold f_J1_indexOfChar_4cfef_65
  simp only [ax_let]
  cases f_J1_indexOfChar_4cfef_65_L7 S ax_F 4 5 (lc_sg x).toInt8.toInt32 0 <;> rfl
theorem ca4_0 {S : AS} : f_J0_charAt_5068e_64x4 0 S = some 99 := by
  have q1 : ax_ln S 65 4 = 5 := rfl
  have q2 : ax_rd S 65 4 (Int32.toNatClampNeg 0) = 99 := by
    show ax_rd S 65 4 0 = 99
    rfl
  have e : f_J1_charAt_3b067_65 4 0 S = some 99 := by
    unfold f_J1_charAt_3b067_65 f_J0_checkIndex_df160 f_J3_checkIndex_8e157_68x0
    rw [q1, q2]
    rfl
  unfold f_J0_charAt_5068e_64x4
  rw [e]; rfl
theorem ca4_1 {S : AS} : f_J0_charAt_5068e_64x4 1 S = some 116 := by
  have q1 : ax_ln S 65 4 = 5 := rfl
  have q2 : ax_rd S 65 4 (Int32.toNatClampNeg 1) = 116 := by
    show ax_rd S 65 4 1 = 116
    rfl
  have e : f_J1_charAt_3b067_65 4 1 S = some 116 := by
    unfold f_J1_charAt_3b067_65 f_J0_checkIndex_df160 f_J3_checkIndex_8e157_68x0
    rw [q1, q2]
    rfl
  unfold f_J0_charAt_5068e_64x4
  rw [e]; rfl
theorem ca4_2 {S : AS} : f_J0_charAt_5068e_64x4 2 S = some 103 := by
  have q1 : ax_ln S 65 4 = 5 := rfl
  have q2 : ax_rd S 65 4 (Int32.toNatClampNeg 2) = 103 := by
    show ax_rd S 65 4 2 = 103
    rfl
  have e : f_J1_charAt_3b067_65 4 2 S = some 103 := by
    unfold f_J1_charAt_3b067_65 f_J0_checkIndex_df160 f_J3_checkIndex_8e157_68x0
    rw [q1, q2]
    rfl
  unfold f_J0_charAt_5068e_64x4
  rw [e]; rfl
theorem ca4_3 {S : AS} : f_J0_charAt_5068e_64x4 3 S = some 104 := by
  have q1 : ax_ln S 65 4 = 5 := rfl
  have q2 : ax_rd S 65 4 (Int32.toNatClampNeg 3) = 104 := by
    show ax_rd S 65 4 3 = 104
    rfl
  have e : f_J1_charAt_3b067_65 4 3 S = some 104 := by
    unfold f_J1_charAt_3b067_65 f_J0_checkIndex_df160 f_J3_checkIndex_8e157_68x0
    rw [q1, q2]
    rfl
  unfold f_J0_charAt_5068e_64x4
  rw [e]; rfl
theorem ca4_4 {S : AS} : f_J0_charAt_5068e_64x4 4 S = some 100 := by
  have q1 : ax_ln S 65 4 = 5 := rfl
  have q2 : ax_rd S 65 4 (Int32.toNatClampNeg 4) = 100 := by
    show ax_rd S 65 4 4 = 100
    rfl
  have e : f_J1_charAt_3b067_65 4 4 S = some 100 := by
    unfold f_J1_charAt_3b067_65 f_J0_checkIndex_df160 f_J3_checkIndex_8e157_68x0
    rw [q1, q2]
    rfl
  unfold f_J0_charAt_5068e_64x4
  rw [e]; rfl
theorem sp4_s {S : AS} {N : Nat} {v j r k : Int32} (hk : j + 1 = k) (hj : ¬ (((Int32.ofNat 5) >>> ((0 : Int32) &&& 31)) ≤ j)) (h : f_J0_charAt_5068e_64x4 j S = some r) : f_X12_spotOf_64x4_L2 S (N + 1) v j = (if r = v then some j else f_X12_spotOf_64x4_L2 S N v k) := by
  subst hk
  rw [f_X12_spotOf_64x4_L2, if_neg hj, h]; rfl
theorem si4 {S : AS} {x : Nat} (hx : x ≤ 256) : f_X12_spotOf_64x4 (lr_sg x) S = some (ti4 x) := by
  rw [← tc4_r x (by omega)]
  generalize lr_sg x = v
  unfold tc4 f_X12_spotOf_64x4
  have e : ax_F = 999994 + 1 + 1 + 1 + 1 + 1 + 1 := rfl
  have eL : f_X12_spotOf_64x4_L2 S (999994 + 1) v 5 = some (Int32.ofInt (-1)) := by
    rw [f_X12_spotOf_64x4_L2, if_pos (by decide)]
  rw [e, sp4_s (k := 1) (by decide) (by decide) ca4_0, sp4_s (k := 2) (by decide) (by decide) ca4_1, sp4_s (k := 3) (by decide) (by decide) ca4_2, sp4_s (k := 4) (by decide) (by decide) ca4_3, sp4_s (k := 5) (by decide) (by decide) ca4_4, eL]
  repeat' split
  all_goals rfl

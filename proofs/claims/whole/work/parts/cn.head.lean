/-! the head of the law's loop, and the switch -/
abbrev LL (a4 : Int32) : AL := [some (.inr (67, 0)), some (.inr (11, 0)), some (.inr (12, 0)), some (.inr (63, 0)), some (.inl (.int a4)), none, none]
theorem and63 (x : Int32) : ∃ i, i < 64 ∧ x &&& (63 : Int32) = nI i := by
  refine ⟨(x.toBitVec &&& 63#32).toNat, ?_, ?_⟩
  · rw [BitVec.toNat_and]
    exact Nat.and_lt_two_pow (n := 6) _ (by decide)
  · refine Int32.toBitVec_inj.mp ?_
    show x.toBitVec &&& 63#32 = BitVec.ofNat 32 (x.toBitVec &&& 63#32).toNat
    rw [BitVec.ofNat_toNat, BitVec.setWidth_eq]
section
variable {l : Launch} {a4 : Int32} {S : AS}
theorem hd_in (h : ¬ (Int32.ofNat (ax_fx S 67 0 0) - (6 : Int32) < a4)) (g : ax_in a4 (ax_fx S 67 0 0) = true) : ax_R l 142 ma_L_law (23, LL a4, [], S) (40, LL a4, [.inl (.int (ax_rd S 67 0 a4.toNatClampNeg &&& (63 : Int32)))], S) := by
  refine ax_go [.iload 4, .aload_n 0, .arraylength, .bipush 6, .isub] (pc' := 30) (L' := LL a4) (st' := [.inl (.int (Int32.ofNat (ax_fx S 67 0 0) - (6 : Int32))), .inl (.int a4)]) (S' := S) ok_L_law.1 (by decide +kernel) rfl rfl ?_
  refine ax_ic_gt (off := 1521) (tgt := 1551) (by decide +kernel) (by decide) (fun c => absurd c h) (fun _ => ?_)
  refine ax_go [.aload_n 0, .iload 4] (pc' := 36) (L' := LL a4) (st' := [.inl (.int a4), .inr (67, 0)]) (S' := S) ok_L_law.1 (by decide +kernel) rfl rfl ?_
  refine ax_Ralc (n := (ax_fx S 67 0 0)) ok_L_law.1 (by decide +kernel) (by decide) rfl g ?_
  exact ax_go [.bipush 63, .iand] (pc' := 40) (L' := LL a4) (st' := [.inl (.int (ax_rd S 67 0 a4.toNatClampNeg &&& (63 : Int32)))]) (S' := S) ok_L_law.1 (by decide +kernel) rfl rfl ax_R.rf
theorem hd_out (h : Int32.ofNat (ax_fx S 67 0 0) - (6 : Int32) < a4) : ax_R l 142 ma_L_law (23, LL a4, [], S) (1552, LL a4, [.inl (.int 1)], S) := by
  refine ax_go [.iload 4, .aload_n 0, .arraylength, .bipush 6, .isub] (pc' := 30) (L' := LL a4) (st' := [.inl (.int (Int32.ofNat (ax_fx S 67 0 0) - (6 : Int32))), .inl (.int a4)]) (S' := S) ok_L_law.1 (by decide +kernel) rfl rfl ?_
  refine ax_ic_gt (off := 1521) (tgt := 1551) (by decide +kernel) (by decide) (fun _ => ?_) (fun c => absurd h c)
  exact ax_go [.iconst 1] (pc' := 1552) (L' := LL a4) (st' := [.inl (.int 1)]) (S' := S) ok_L_law.1 (by decide +kernel) rfl rfl ax_R.rf
theorem sw_d : decode ma_L_law.2.2.1 40 = .ok (.tableswitch 1505 0 41 #[184, 257, 282, 307, 332, 357, 394, 462, 487, 512, 537, 562, 587, 600, 613, 638, 651, 720, 733, 770, 819, 856, 881, 918, 943, 968, 993, 1058, 1083, 1108, 1133, 1206, 1255, 1292, 1317, 1342, 1367, 1392, 1429, 1454, 1467, 1480], 184) := by decide +kernel
theorem sw_0 {L : AL} : ax_R l 142 ma_L_law (40, L, [.inl (.int (nI 0))], S) (224, L, [], S) := ax_tIn (off := 184) sw_d (by decide) (by decide) (by decide) (by decide) ax_R.rf
theorem sw_1 {L : AL} : ax_R l 142 ma_L_law (40, L, [.inl (.int (nI 1))], S) (297, L, [], S) := ax_tIn (off := 257) sw_d (by decide) (by decide) (by decide) (by decide) ax_R.rf
theorem sw_2 {L : AL} : ax_R l 142 ma_L_law (40, L, [.inl (.int (nI 2))], S) (322, L, [], S) := ax_tIn (off := 282) sw_d (by decide) (by decide) (by decide) (by decide) ax_R.rf
theorem sw_3 {L : AL} : ax_R l 142 ma_L_law (40, L, [.inl (.int (nI 3))], S) (347, L, [], S) := ax_tIn (off := 307) sw_d (by decide) (by decide) (by decide) (by decide) ax_R.rf
theorem sw_4 {L : AL} : ax_R l 142 ma_L_law (40, L, [.inl (.int (nI 4))], S) (372, L, [], S) := ax_tIn (off := 332) sw_d (by decide) (by decide) (by decide) (by decide) ax_R.rf
theorem sw_5 {L : AL} : ax_R l 142 ma_L_law (40, L, [.inl (.int (nI 5))], S) (397, L, [], S) := ax_tIn (off := 357) sw_d (by decide) (by decide) (by decide) (by decide) ax_R.rf
theorem sw_6 {L : AL} : ax_R l 142 ma_L_law (40, L, [.inl (.int (nI 6))], S) (434, L, [], S) := ax_tIn (off := 394) sw_d (by decide) (by decide) (by decide) (by decide) ax_R.rf
theorem sw_7 {L : AL} : ax_R l 142 ma_L_law (40, L, [.inl (.int (nI 7))], S) (502, L, [], S) := ax_tIn (off := 462) sw_d (by decide) (by decide) (by decide) (by decide) ax_R.rf
theorem sw_8 {L : AL} : ax_R l 142 ma_L_law (40, L, [.inl (.int (nI 8))], S) (527, L, [], S) := ax_tIn (off := 487) sw_d (by decide) (by decide) (by decide) (by decide) ax_R.rf
theorem sw_9 {L : AL} : ax_R l 142 ma_L_law (40, L, [.inl (.int (nI 9))], S) (552, L, [], S) := ax_tIn (off := 512) sw_d (by decide) (by decide) (by decide) (by decide) ax_R.rf
theorem sw_10 {L : AL} : ax_R l 142 ma_L_law (40, L, [.inl (.int (nI 10))], S) (577, L, [], S) := ax_tIn (off := 537) sw_d (by decide) (by decide) (by decide) (by decide) ax_R.rf
theorem sw_11 {L : AL} : ax_R l 142 ma_L_law (40, L, [.inl (.int (nI 11))], S) (602, L, [], S) := ax_tIn (off := 562) sw_d (by decide) (by decide) (by decide) (by decide) ax_R.rf
theorem sw_12 {L : AL} : ax_R l 142 ma_L_law (40, L, [.inl (.int (nI 12))], S) (627, L, [], S) := ax_tIn (off := 587) sw_d (by decide) (by decide) (by decide) (by decide) ax_R.rf
theorem sw_13 {L : AL} : ax_R l 142 ma_L_law (40, L, [.inl (.int (nI 13))], S) (640, L, [], S) := ax_tIn (off := 600) sw_d (by decide) (by decide) (by decide) (by decide) ax_R.rf
theorem sw_14 {L : AL} : ax_R l 142 ma_L_law (40, L, [.inl (.int (nI 14))], S) (653, L, [], S) := ax_tIn (off := 613) sw_d (by decide) (by decide) (by decide) (by decide) ax_R.rf
theorem sw_15 {L : AL} : ax_R l 142 ma_L_law (40, L, [.inl (.int (nI 15))], S) (678, L, [], S) := ax_tIn (off := 638) sw_d (by decide) (by decide) (by decide) (by decide) ax_R.rf
theorem sw_16 {L : AL} : ax_R l 142 ma_L_law (40, L, [.inl (.int (nI 16))], S) (691, L, [], S) := ax_tIn (off := 651) sw_d (by decide) (by decide) (by decide) (by decide) ax_R.rf
theorem sw_17 {L : AL} : ax_R l 142 ma_L_law (40, L, [.inl (.int (nI 17))], S) (760, L, [], S) := ax_tIn (off := 720) sw_d (by decide) (by decide) (by decide) (by decide) ax_R.rf
theorem sw_18 {L : AL} : ax_R l 142 ma_L_law (40, L, [.inl (.int (nI 18))], S) (773, L, [], S) := ax_tIn (off := 733) sw_d (by decide) (by decide) (by decide) (by decide) ax_R.rf
theorem sw_19 {L : AL} : ax_R l 142 ma_L_law (40, L, [.inl (.int (nI 19))], S) (810, L, [], S) := ax_tIn (off := 770) sw_d (by decide) (by decide) (by decide) (by decide) ax_R.rf
theorem sw_20 {L : AL} : ax_R l 142 ma_L_law (40, L, [.inl (.int (nI 20))], S) (859, L, [], S) := ax_tIn (off := 819) sw_d (by decide) (by decide) (by decide) (by decide) ax_R.rf
theorem sw_21 {L : AL} : ax_R l 142 ma_L_law (40, L, [.inl (.int (nI 21))], S) (896, L, [], S) := ax_tIn (off := 856) sw_d (by decide) (by decide) (by decide) (by decide) ax_R.rf
theorem sw_22 {L : AL} : ax_R l 142 ma_L_law (40, L, [.inl (.int (nI 22))], S) (921, L, [], S) := ax_tIn (off := 881) sw_d (by decide) (by decide) (by decide) (by decide) ax_R.rf
theorem sw_23 {L : AL} : ax_R l 142 ma_L_law (40, L, [.inl (.int (nI 23))], S) (958, L, [], S) := ax_tIn (off := 918) sw_d (by decide) (by decide) (by decide) (by decide) ax_R.rf
theorem sw_24 {L : AL} : ax_R l 142 ma_L_law (40, L, [.inl (.int (nI 24))], S) (983, L, [], S) := ax_tIn (off := 943) sw_d (by decide) (by decide) (by decide) (by decide) ax_R.rf
theorem sw_25 {L : AL} : ax_R l 142 ma_L_law (40, L, [.inl (.int (nI 25))], S) (1008, L, [], S) := ax_tIn (off := 968) sw_d (by decide) (by decide) (by decide) (by decide) ax_R.rf
theorem sw_26 {L : AL} : ax_R l 142 ma_L_law (40, L, [.inl (.int (nI 26))], S) (1033, L, [], S) := ax_tIn (off := 993) sw_d (by decide) (by decide) (by decide) (by decide) ax_R.rf
theorem sw_27 {L : AL} : ax_R l 142 ma_L_law (40, L, [.inl (.int (nI 27))], S) (1098, L, [], S) := ax_tIn (off := 1058) sw_d (by decide) (by decide) (by decide) (by decide) ax_R.rf
theorem sw_28 {L : AL} : ax_R l 142 ma_L_law (40, L, [.inl (.int (nI 28))], S) (1123, L, [], S) := ax_tIn (off := 1083) sw_d (by decide) (by decide) (by decide) (by decide) ax_R.rf
theorem sw_29 {L : AL} : ax_R l 142 ma_L_law (40, L, [.inl (.int (nI 29))], S) (1148, L, [], S) := ax_tIn (off := 1108) sw_d (by decide) (by decide) (by decide) (by decide) ax_R.rf
theorem sw_30 {L : AL} : ax_R l 142 ma_L_law (40, L, [.inl (.int (nI 30))], S) (1173, L, [], S) := ax_tIn (off := 1133) sw_d (by decide) (by decide) (by decide) (by decide) ax_R.rf
theorem sw_31 {L : AL} : ax_R l 142 ma_L_law (40, L, [.inl (.int (nI 31))], S) (1246, L, [], S) := ax_tIn (off := 1206) sw_d (by decide) (by decide) (by decide) (by decide) ax_R.rf
theorem sw_32 {L : AL} : ax_R l 142 ma_L_law (40, L, [.inl (.int (nI 32))], S) (1295, L, [], S) := ax_tIn (off := 1255) sw_d (by decide) (by decide) (by decide) (by decide) ax_R.rf
theorem sw_33 {L : AL} : ax_R l 142 ma_L_law (40, L, [.inl (.int (nI 33))], S) (1332, L, [], S) := ax_tIn (off := 1292) sw_d (by decide) (by decide) (by decide) (by decide) ax_R.rf
theorem sw_34 {L : AL} : ax_R l 142 ma_L_law (40, L, [.inl (.int (nI 34))], S) (1357, L, [], S) := ax_tIn (off := 1317) sw_d (by decide) (by decide) (by decide) (by decide) ax_R.rf
theorem sw_35 {L : AL} : ax_R l 142 ma_L_law (40, L, [.inl (.int (nI 35))], S) (1382, L, [], S) := ax_tIn (off := 1342) sw_d (by decide) (by decide) (by decide) (by decide) ax_R.rf
theorem sw_36 {L : AL} : ax_R l 142 ma_L_law (40, L, [.inl (.int (nI 36))], S) (1407, L, [], S) := ax_tIn (off := 1367) sw_d (by decide) (by decide) (by decide) (by decide) ax_R.rf
theorem sw_37 {L : AL} : ax_R l 142 ma_L_law (40, L, [.inl (.int (nI 37))], S) (1432, L, [], S) := ax_tIn (off := 1392) sw_d (by decide) (by decide) (by decide) (by decide) ax_R.rf
theorem sw_38 {L : AL} : ax_R l 142 ma_L_law (40, L, [.inl (.int (nI 38))], S) (1469, L, [], S) := ax_tIn (off := 1429) sw_d (by decide) (by decide) (by decide) (by decide) ax_R.rf
theorem sw_39 {L : AL} : ax_R l 142 ma_L_law (40, L, [.inl (.int (nI 39))], S) (1494, L, [], S) := ax_tIn (off := 1454) sw_d (by decide) (by decide) (by decide) (by decide) ax_R.rf
theorem sw_40 {L : AL} : ax_R l 142 ma_L_law (40, L, [.inl (.int (nI 40))], S) (1507, L, [], S) := ax_tIn (off := 1467) sw_d (by decide) (by decide) (by decide) (by decide) ax_R.rf
theorem sw_41 {L : AL} : ax_R l 142 ma_L_law (40, L, [.inl (.int (nI 41))], S) (1520, L, [], S) := ax_tIn (off := 1480) sw_d (by decide) (by decide) (by decide) (by decide) ax_R.rf
theorem sw_o {L : AL} {i : Nat} (h : 42 ≤ i) (h2 : i < 64) : ax_R l 142 ma_L_law (40, L, [.inl (.int (nI i))], S) (1545, L, [], S) := ax_tOut sw_d (.inr (by
  have e : (nI i).toInt = (i : Int) := Int32.toInt_ofNat_of_lt (by omega)
  rw [e]
  omega)) (by decide) ax_R.rf
/-- a turn, any case but 6 -/
def ty (l : Launch) (a4 : Int32) (S : AS) (v : Int32) : Prop := ∃ Z, ax_R l 142 ma_L_law (40, LL a4, [.inl (.int v)], S) (23, LL (a4 + (6 : Int32)), [], Z) ∧ ks S Z ∧ jI Z Z
theorem ty_0 (h : jI S S) (g : gin a4 S) : ty l a4 S (nI 0) := by
  obtain ⟨Z, z1, z2, z3⟩ := tn_0 h g
  exact ⟨Z, sw_0.tr (tb_case0 z1), z2, z3⟩
theorem ty_1 (h : jI S S) (g : gin a4 S) : ty l a4 S (nI 1) := by
  obtain ⟨Z, z1, z2, z3⟩ := tn_1 h g
  exact ⟨Z, sw_1.tr (tb_case1 z1), z2, z3⟩
theorem ty_2 (h : jI S S) (g : gin a4 S) : ty l a4 S (nI 2) := by
  obtain ⟨Z, z1, z2, z3⟩ := tn_2 h g
  exact ⟨Z, sw_2.tr (tb_case2 z1), z2, z3⟩
theorem ty_3 (h : jI S S) (g : gin a4 S) : ty l a4 S (nI 3) := by
  obtain ⟨Z, z1, z2, z3⟩ := tn_3 h g
  exact ⟨Z, sw_3.tr (tb_case3 z1), z2, z3⟩
theorem ty_4 (h : jI S S) (g : gin a4 S) : ty l a4 S (nI 4) := by
  obtain ⟨Z, z1, z2, z3⟩ := tn_4 h g
  exact ⟨Z, sw_4.tr (tb_case4 z1), z2, z3⟩
theorem ty_5 (h : jI S S) (g : gin a4 S) : ty l a4 S (nI 5) := by
  obtain ⟨Z, z1, z2, z3⟩ := tn_5 h g
  exact ⟨Z, sw_5.tr (tb_case5 z1), z2, z3⟩
theorem ty_7 (h : jI S S) (g : gin a4 S) : ty l a4 S (nI 7) := by
  obtain ⟨Z, z1, z2, z3⟩ := tn_7 h g
  exact ⟨Z, sw_7.tr (tb_case7 z1), z2, z3⟩
theorem ty_8 (h : jI S S) (g : gin a4 S) : ty l a4 S (nI 8) := by
  obtain ⟨Z, z1, z2, z3⟩ := tn_8 h g
  exact ⟨Z, sw_8.tr (tb_case8 z1), z2, z3⟩
theorem ty_9 (h : jI S S) (g : gin a4 S) : ty l a4 S (nI 9) := by
  obtain ⟨Z, z1, z2, z3⟩ := tn_9 h g
  exact ⟨Z, sw_9.tr (tb_case9 z1), z2, z3⟩
theorem ty_10 (h : jI S S) (g : gin a4 S) : ty l a4 S (nI 10) := by
  obtain ⟨Z, z1, z2, z3⟩ := tn_10 h g
  exact ⟨Z, sw_10.tr (tb_case10 z1), z2, z3⟩
theorem ty_11 (h : jI S S) (g : gin a4 S) : ty l a4 S (nI 11) := by
  obtain ⟨Z, z1, z2, z3⟩ := tn_11 h g
  exact ⟨Z, sw_11.tr (tb_case11 z1), z2, z3⟩
theorem ty_12 (h : jI S S) (g : gin a4 S) : ty l a4 S (nI 12) := by
  obtain ⟨Z, z1, z2, z3⟩ := tn_12 h g
  exact ⟨Z, sw_12.tr (tb_case12 z1), z2, z3⟩
theorem ty_13 (h : jI S S) (g : gin a4 S) : ty l a4 S (nI 13) := by
  obtain ⟨Z, z1, z2, z3⟩ := tn_13 h g
  exact ⟨Z, sw_13.tr (tb_case13 z1), z2, z3⟩
theorem ty_14 (h : jI S S) (g : gin a4 S) : ty l a4 S (nI 14) := by
  obtain ⟨Z, z1, z2, z3⟩ := tn_14 h g
  exact ⟨Z, sw_14.tr (tb_case14 z1), z2, z3⟩
theorem ty_15 (h : jI S S) (g : gin a4 S) : ty l a4 S (nI 15) := by
  obtain ⟨Z, z1, z2, z3⟩ := tn_15 h g
  exact ⟨Z, sw_15.tr (tb_case15 z1), z2, z3⟩
theorem ty_16 (h : jI S S) (g : gin a4 S) : ty l a4 S (nI 16) := by
  obtain ⟨Z, z1, z2, z3⟩ := tn_16 h g
  exact ⟨Z, sw_16.tr (tb_case16 z1), z2, z3⟩
theorem ty_17 (h : jI S S) (g : gin a4 S) : ty l a4 S (nI 17) := by
  obtain ⟨Z, z1, z2, z3⟩ := tn_17 h g
  exact ⟨Z, sw_17.tr (tb_case17 z1), z2, z3⟩
theorem ty_18 (h : jI S S) (g : gin a4 S) : ty l a4 S (nI 18) := by
  obtain ⟨Z, z1, z2, z3⟩ := tn_18 h g
  exact ⟨Z, sw_18.tr (tb_case18 z1), z2, z3⟩
theorem ty_19 (h : jI S S) (g : gin a4 S) : ty l a4 S (nI 19) := by
  obtain ⟨Z, z1, z2, z3⟩ := tn_19 h g
  exact ⟨Z, sw_19.tr (tb_case19 z1), z2, z3⟩
theorem ty_20 (h : jI S S) (g : gin a4 S) : ty l a4 S (nI 20) := by
  obtain ⟨Z, z1, z2, z3⟩ := tn_20 h g
  exact ⟨Z, sw_20.tr (tb_case20 z1), z2, z3⟩
theorem ty_21 (h : jI S S) (g : gin a4 S) : ty l a4 S (nI 21) := by
  obtain ⟨Z, z1, z2, z3⟩ := tn_21 h g
  exact ⟨Z, sw_21.tr (tb_case21 z1), z2, z3⟩
theorem ty_22 (h : jI S S) (g : gin a4 S) : ty l a4 S (nI 22) := by
  obtain ⟨Z, z1, z2, z3⟩ := tn_22 h g
  exact ⟨Z, sw_22.tr (tb_case22 z1), z2, z3⟩
theorem ty_23 (h : jI S S) (g : gin a4 S) : ty l a4 S (nI 23) := by
  obtain ⟨Z, z1, z2, z3⟩ := tn_23 h g
  exact ⟨Z, sw_23.tr (tb_case23 z1), z2, z3⟩
theorem ty_24 (h : jI S S) (g : gin a4 S) : ty l a4 S (nI 24) := by
  obtain ⟨Z, z1, z2, z3⟩ := tn_24 h g
  exact ⟨Z, sw_24.tr (tb_case24 z1), z2, z3⟩
theorem ty_25 (h : jI S S) (g : gin a4 S) : ty l a4 S (nI 25) := by
  obtain ⟨Z, z1, z2, z3⟩ := tn_25 h g
  exact ⟨Z, sw_25.tr (tb_case25 z1), z2, z3⟩
theorem ty_26 (h : jI S S) (g : gin a4 S) : ty l a4 S (nI 26) := by
  obtain ⟨Z, z1, z2, z3⟩ := tn_26 h g
  exact ⟨Z, sw_26.tr (tb_case26 z1), z2, z3⟩
theorem ty_27 (h : jI S S) (g : gin a4 S) : ty l a4 S (nI 27) := by
  obtain ⟨Z, z1, z2, z3⟩ := tn_27 h g
  exact ⟨Z, sw_27.tr (tb_case27 z1), z2, z3⟩
theorem ty_28 (h : jI S S) (g : gin a4 S) : ty l a4 S (nI 28) := by
  obtain ⟨Z, z1, z2, z3⟩ := tn_28 h g
  exact ⟨Z, sw_28.tr (tb_case28 z1), z2, z3⟩
theorem ty_29 (h : jI S S) (g : gin a4 S) : ty l a4 S (nI 29) := by
  obtain ⟨Z, z1, z2, z3⟩ := tn_29 h g
  exact ⟨Z, sw_29.tr (tb_case29 z1), z2, z3⟩
theorem ty_30 (h : jI S S) (g : gin a4 S) : ty l a4 S (nI 30) := by
  obtain ⟨Z, z1, z2, z3⟩ := tn_30 h g
  exact ⟨Z, sw_30.tr (tb_case30 z1), z2, z3⟩
theorem ty_31 (h : jI S S) (g : gin a4 S) : ty l a4 S (nI 31) := by
  obtain ⟨Z, z1, z2, z3⟩ := tn_31 h g
  exact ⟨Z, sw_31.tr (tb_case31 z1), z2, z3⟩
theorem ty_32 (h : jI S S) (g : gin a4 S) : ty l a4 S (nI 32) := by
  obtain ⟨Z, z1, z2, z3⟩ := tn_32 h g
  exact ⟨Z, sw_32.tr (tb_case32 z1), z2, z3⟩
theorem ty_33 (h : jI S S) (g : gin a4 S) : ty l a4 S (nI 33) := by
  obtain ⟨Z, z1, z2, z3⟩ := tn_33 h g
  exact ⟨Z, sw_33.tr (tb_case33 z1), z2, z3⟩
theorem ty_34 (h : jI S S) (g : gin a4 S) : ty l a4 S (nI 34) := by
  obtain ⟨Z, z1, z2, z3⟩ := tn_34 h g
  exact ⟨Z, sw_34.tr (tb_case34 z1), z2, z3⟩
theorem ty_35 (h : jI S S) (g : gin a4 S) : ty l a4 S (nI 35) := by
  obtain ⟨Z, z1, z2, z3⟩ := tn_35 h g
  exact ⟨Z, sw_35.tr (tb_case35 z1), z2, z3⟩
theorem ty_36 (h : jI S S) (g : gin a4 S) : ty l a4 S (nI 36) := by
  obtain ⟨Z, z1, z2, z3⟩ := tn_36 h g
  exact ⟨Z, sw_36.tr (tb_case36 z1), z2, z3⟩
theorem ty_37 (h : jI S S) (g : gin a4 S) : ty l a4 S (nI 37) := by
  obtain ⟨Z, z1, z2, z3⟩ := tn_37 h g
  exact ⟨Z, sw_37.tr (tb_case37 z1), z2, z3⟩
theorem ty_38 (h : jI S S) (g : gin a4 S) : ty l a4 S (nI 38) := by
  obtain ⟨Z, z1, z2, z3⟩ := tn_38 h g
  exact ⟨Z, sw_38.tr (tb_case38 z1), z2, z3⟩
theorem ty_39 (h : jI S S) (g : gin a4 S) : ty l a4 S (nI 39) := by
  obtain ⟨Z, z1, z2, z3⟩ := tn_39 h g
  exact ⟨Z, sw_39.tr (tb_case39 z1), z2, z3⟩
theorem ty_40 (h : jI S S) (g : gin a4 S) : ty l a4 S (nI 40) := by
  obtain ⟨Z, z1, z2, z3⟩ := tn_40 h g
  exact ⟨Z, sw_40.tr (tb_case40 z1), z2, z3⟩
theorem ty_41 (h : jI S S) (g : gin a4 S) : ty l a4 S (nI 41) := by
  obtain ⟨Z, z1, z2, z3⟩ := tn_41 h g
  exact ⟨Z, sw_41.tr (tb_case41 z1), z2, z3⟩
theorem ty_o (h : jI S S) {i : Nat} (h1 : 42 ≤ i) (h2 : i < 64) : ty l a4 S (nI i) := by
  obtain ⟨Z, z1, z2, z3⟩ := tn_99 (a4 := a4) h
  exact ⟨Z, (sw_o h1 h2).tr (tb_case99 z1), z2, z3⟩
theorem ty_all (h : jI S S) (g : gin a4 S) (x : Int32) : x &&& (63 : Int32) = nI 6 ∨ ty l a4 S (x &&& (63 : Int32)) := by
  obtain ⟨i, hi, e⟩ := and63 x
  rw [e]
  match i, hi with
  | 0, _ => exact .inr (ty_0 h g)
  | 1, _ => exact .inr (ty_1 h g)
  | 2, _ => exact .inr (ty_2 h g)
  | 3, _ => exact .inr (ty_3 h g)
  | 4, _ => exact .inr (ty_4 h g)
  | 5, _ => exact .inr (ty_5 h g)
  | 6, _ => exact .inl rfl
  | 7, _ => exact .inr (ty_7 h g)
  | 8, _ => exact .inr (ty_8 h g)
  | 9, _ => exact .inr (ty_9 h g)
  | 10, _ => exact .inr (ty_10 h g)
  | 11, _ => exact .inr (ty_11 h g)
  | 12, _ => exact .inr (ty_12 h g)
  | 13, _ => exact .inr (ty_13 h g)
  | 14, _ => exact .inr (ty_14 h g)
  | 15, _ => exact .inr (ty_15 h g)
  | 16, _ => exact .inr (ty_16 h g)
  | 17, _ => exact .inr (ty_17 h g)
  | 18, _ => exact .inr (ty_18 h g)
  | 19, _ => exact .inr (ty_19 h g)
  | 20, _ => exact .inr (ty_20 h g)
  | 21, _ => exact .inr (ty_21 h g)
  | 22, _ => exact .inr (ty_22 h g)
  | 23, _ => exact .inr (ty_23 h g)
  | 24, _ => exact .inr (ty_24 h g)
  | 25, _ => exact .inr (ty_25 h g)
  | 26, _ => exact .inr (ty_26 h g)
  | 27, _ => exact .inr (ty_27 h g)
  | 28, _ => exact .inr (ty_28 h g)
  | 29, _ => exact .inr (ty_29 h g)
  | 30, _ => exact .inr (ty_30 h g)
  | 31, _ => exact .inr (ty_31 h g)
  | 32, _ => exact .inr (ty_32 h g)
  | 33, _ => exact .inr (ty_33 h g)
  | 34, _ => exact .inr (ty_34 h g)
  | 35, _ => exact .inr (ty_35 h g)
  | 36, _ => exact .inr (ty_36 h g)
  | 37, _ => exact .inr (ty_37 h g)
  | 38, _ => exact .inr (ty_38 h g)
  | 39, _ => exact .inr (ty_39 h g)
  | 40, _ => exact .inr (ty_40 h g)
  | 41, _ => exact .inr (ty_41 h g)
  | i + 42, hi => exact .inr (ty_o h (by omega) hi)
end

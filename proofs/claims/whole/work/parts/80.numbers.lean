/-! SMALL NUMBERS as nI -/
theorem sn_0 : (0 : Int32) = nI 0 := Eq.trans rfl rfl
theorem sn_1 : (1 : Int32) = nI 1 := Eq.trans rfl rfl
theorem sn_2 : (2 : Int32) = nI 2 := Eq.trans rfl rfl
theorem sn_3 : (3 : Int32) = nI 3 := Eq.trans rfl rfl
theorem sn_4 : (4 : Int32) = nI 4 := Eq.trans rfl rfl
theorem sn_5 : (5 : Int32) = nI 5 := Eq.trans rfl rfl
theorem sn_6 : (6 : Int32) = nI 6 := Eq.trans rfl rfl
theorem sn_7 : (7 : Int32) = nI 7 := Eq.trans rfl rfl
theorem sn_8 : (8 : Int32) = nI 8 := Eq.trans rfl rfl
theorem sn_9 : (9 : Int32) = nI 9 := Eq.trans rfl rfl
theorem sn_10 : (10 : Int32) = nI 10 := Eq.trans rfl rfl
theorem sn_11 : (11 : Int32) = nI 11 := Eq.trans rfl rfl
theorem sn_12 : (12 : Int32) = nI 12 := Eq.trans rfl rfl
theorem sn_13 : (13 : Int32) = nI 13 := Eq.trans rfl rfl
theorem sn_14 : (14 : Int32) = nI 14 := Eq.trans rfl rfl
theorem sn_15 : (15 : Int32) = nI 15 := Eq.trans rfl rfl
theorem sn_16 : (16 : Int32) = nI 16 := Eq.trans rfl rfl
theorem sn_17 : (17 : Int32) = nI 17 := Eq.trans rfl rfl
theorem sn_18 : (18 : Int32) = nI 18 := Eq.trans rfl rfl
theorem sn_19 : (19 : Int32) = nI 19 := Eq.trans rfl rfl
theorem sn_20 : (20 : Int32) = nI 20 := Eq.trans rfl rfl
theorem sn_21 : (21 : Int32) = nI 21 := Eq.trans rfl rfl
theorem sn_22 : (22 : Int32) = nI 22 := Eq.trans rfl rfl
theorem sn_23 : (23 : Int32) = nI 23 := Eq.trans rfl rfl
theorem sn_24 : (24 : Int32) = nI 24 := Eq.trans rfl rfl
theorem sn_25 : (25 : Int32) = nI 25 := Eq.trans rfl rfl
theorem sn_30 : (30 : Int32) = nI 30 := Eq.trans rfl rfl
theorem sn_31 : (31 : Int32) = nI 31 := Eq.trans rfl rfl
theorem sn_32 : (32 : Int32) = nI 32 := Eq.trans rfl rfl
theorem sn_40 : (40 : Int32) = nI 40 := Eq.trans rfl rfl
theorem sn_41 : (41 : Int32) = nI 41 := Eq.trans rfl rfl
theorem sn_42 : (42 : Int32) = nI 42 := Eq.trans rfl rfl
theorem sn_58 : (58 : Int32) = nI 58 := Eq.trans rfl rfl
theorem sn_59 : (59 : Int32) = nI 59 := Eq.trans rfl rfl
theorem sn_60 : (60 : Int32) = nI 60 := Eq.trans rfl rfl
theorem sn_63 : (63 : Int32) = nI 63 := Eq.trans rfl rfl
theorem sn_99 : (99 : Int32) = nI 99 := Eq.trans rfl rfl
theorem sn_100 : (100 : Int32) = nI 100 := Eq.trans rfl rfl
theorem sn_101 : (101 : Int32) = nI 101 := Eq.trans rfl rfl
theorem sn_103 : (103 : Int32) = nI 103 := Eq.trans rfl rfl
theorem sn_110 : (110 : Int32) = nI 110 := Eq.trans rfl rfl
theorem sn_112 : (112 : Int32) = nI 112 := Eq.trans rfl rfl
theorem sn_115 : (115 : Int32) = nI 115 := Eq.trans rfl rfl
theorem sn_116 : (116 : Int32) = nI 116 := Eq.trans rfl rfl
theorem sn_121 : (121 : Int32) = nI 121 := Eq.trans rfl rfl
theorem sn_128 : (128 : Int32) = nI 128 := Eq.trans rfl rfl
theorem sn_153 : (153 : Int32) = nI 153 := Eq.trans rfl rfl
theorem sn_168 : (168 : Int32) = nI 168 := Eq.trans rfl rfl
theorem sn_177 : (177 : Int32) = nI 177 := Eq.trans rfl rfl
theorem sn_179 : (179 : Int32) = nI 179 := Eq.trans rfl rfl
theorem sn_200 : (200 : Int32) = nI 200 := Eq.trans rfl rfl
theorem sn_203 : (203 : Int32) = nI 203 := Eq.trans rfl rfl
theorem sn_204 : (204 : Int32) = nI 204 := Eq.trans rfl rfl
theorem sn_240 : (240 : Int32) = nI 240 := Eq.trans rfl rfl
theorem sn_255 : (255 : Int32) = nI 255 := Eq.trans rfl rfl
theorem sn_960 : (960 : Int32) = nI 960 := Eq.trans rfl rfl
theorem sn_999 : (999 : Int32) = nI 999 := Eq.trans rfl rfl
theorem sn_1000 : (1000 : Int32) = nI 1000 := Eq.trans rfl rfl
theorem sn_2000 : (2000 : Int32) = nI 2000 := Eq.trans rfl rfl
theorem sn_7956 : (7956 : Int32) = nI 7956 := Eq.trans rfl rfl
theorem sn_8160 : (8160 : Int32) = nI 8160 := Eq.trans rfl rfl
theorem sn_8191 : (8191 : Int32) = nI 8191 := Eq.trans rfl rfl
theorem sn_9999 : (9999 : Int32) = nI 9999 := Eq.trans rfl rfl
theorem sn_10000 : (10000 : Int32) = nI 10000 := Eq.trans rfl rfl
theorem sn_in {p n : Nat} (h : p < n) (g : p < 2 ^ 31) : ax_in (nI p) n = true := by
  unfold ax_in
  rw [nI_clamp g, decide_eq_false (nI_pos g), decide_eq_true h]; rfl
theorem sn_onn {α β : Type} {x : β} {f : α → β} : ax_on none x f = x := Eq.trans rfl rfl
theorem sn_ons {α β : Type} {a : α} {x : β} {f : α → β} : ax_on (some a) x f = f a := Eq.trans rfl rfl
theorem sn_bs {α β : Type} {a : α} {f : α → Option β} : (some a).bind f = f a := Eq.trans rfl rfl
theorem sn_of (p : Nat) : Int32.ofNat p = nI p := rfl
theorem sn_mn {a b : Nat} {S : AS} (ha : a < 2 ^ 31) (hb : b < 2 ^ 31) : f_J9_min_7cf53 (nI a) (nI b) S = some (nI (min a b)) := by
  unfold f_J9_min_7cf53
  simp only [nI_ltI hb ha]
  by_cases h : b < a
  · rw [if_pos h, Nat.min_eq_right (by omega)]
  · rw [if_neg h, Nat.min_eq_left (by omega)]
theorem sn_mx {a b : Nat} {S : AS} (ha : a < 2 ^ 31) (hb : b < 2 ^ 31) : f_J9_max_7cf53 (nI a) (nI b) S = some (nI (max a b)) := by
  unfold f_J9_max_7cf53
  simp only [nI_ltI ha hb]
  by_cases h : a < b
  · rw [if_pos h, Nat.max_eq_right (by omega)]
  · rw [if_neg h, Nat.max_eq_left (by omega)]
/-! how long a name takes -/
def bt_c (x : Int32) : Nat := if x < 1 then 1 else if 60 < x then 60 else x.toNatClampNeg
theorem bt_c_b {x : Int32} : 1 ≤ bt_c x ∧ bt_c x ≤ 60 := by
  unfold bt_c
  by_cases h1 : x < 1
  · rw [if_pos h1]; omega
  · rw [if_neg h1]
    by_cases h2 : 60 < x
    · rw [if_pos h2]; omega
    · rw [if_neg h2]
      have a1 : ¬ x.toInt < 1 := fun q => h1 (Int32.lt_iff_toInt_lt.mpr q)
      have a2 : ¬ 60 < x.toInt := fun q => h2 (Int32.lt_iff_toInt_lt.mpr q)
      show 1 ≤ x.toInt.toNat ∧ x.toInt.toNat ≤ 60
      omega
theorem bt_c_s {x : Int32} {S : AS} : (f_J9_min_7cf53 60 x S).bind (fun r => (f_J9_max_7cf53 1 r S).bind (fun q => some q)) = some (nI (bt_c x)) := by
  unfold f_J9_min_7cf53 f_J9_max_7cf53 bt_c
  by_cases h1 : x < 1
  · have h2 : x < 60 := Int32.lt_iff_toInt_lt.mpr (by have := Int32.lt_iff_toInt_lt.mp h1; have e : (1 : Int32).toInt = 1 := rfl; have e2 : (60 : Int32).toInt = 60 := rfl; omega)
    have h3 : ¬ (1 : Int32) < x := fun q => Int32.lt_irrefl (Int32.lt_trans h1 q)
    rw [if_pos h2, if_pos h1]
    simp only [Option.bind_some]
    rw [if_neg h3]; rfl
  · rw [if_neg h1]
    by_cases h2 : 60 < x
    · have h3 : ¬ x < 60 := fun q => Int32.lt_irrefl (Int32.lt_trans h2 q)
      rw [if_neg h3, if_pos h2]
      simp only [Option.bind_some]
      rw [if_pos (by decide)]; rfl
    · rw [if_neg h2]
      have a1 : ¬ x.toInt < 1 := fun q => h1 (Int32.lt_iff_toInt_lt.mpr q)
      have a2 : ¬ 60 < x.toInt := fun q => h2 (Int32.lt_iff_toInt_lt.mpr q)
      have ex : nI x.toNatClampNeg = x := by
        obtain ⟨j, hj, rfl⟩ := nI_of (x := x) (fun q => a1 (by have := Int32.lt_iff_toInt_lt.mp q; have e : (0 : Int32).toInt = 0 := rfl; omega))
        rw [nI_clamp hj]
      rw [ex]
      by_cases h3 : x < 60
      · rw [if_pos h3]
        simp only [Option.bind_some]
        by_cases h4 : 1 < x
        · rw [if_pos h4]; rfl
        · rw [if_neg h4]
          have e1 : x = 1 := Int32.toInt_inj.mp (by have : ¬ (1 : Int32).toInt < x.toInt := fun q => h4 (Int32.lt_iff_toInt_lt.mpr q); have e : (1 : Int32).toInt = 1 := rfl; omega)
          rw [e1]; rfl
      · rw [if_neg h3]
        simp only [Option.bind_some]
        have e1 : x = 60 := Int32.toInt_inj.mp (by have : ¬ x.toInt < (60 : Int32).toInt := fun q => h3 (Int32.lt_iff_toInt_lt.mpr q); have e : (60 : Int32).toInt = 60 := rfl; omega)
        rw [e1, if_pos (by decide)]; rfl
def bt_r (n h t g s d : Nat) : Nat → Int32 := fun k => if k = 0 then nI n else if k = 1 then nI h else if k = 2 then nI t else if k = 3 then nI g else if k = 4 then nI s else nI d
def bt_w (H : Nat → Nat) (W : Option (List la_C)) (v h t g s d : Nat) : Int32 := match W with
  | none => nI ((if s = 1 then (H (16 + 7 * v) + h * H 1 + 2 * t) / 2 else H (16 + 7 * v) + h * H 1 + 2 * t) + g / 2)
  | some cs => la_cv (bt_r (H (16 + 7 * v)) h t g s d) cs
def bt (H : Nat → Nat) (W : Option (List la_C)) (v h t g s d : Nat) : Nat := bt_c (bt_w H W v h t g s d)
theorem bt_b {H : Nat → Nat} {W : Option (List la_C)} {v h t g s d : Nat} : 1 ≤ bt H W v h t g s d ∧ bt H W v h t g s d ≤ 60 := bt_c_b
/-! HOUSE and STATE as numbers -/
def jh_ok (H : Nat → Nat) : Prop := H 0 ≤ 99 ∧ H 1 ≤ 9 ∧ H 2 ≤ 99 ∧ H 3 ≤ 4 ∧ H 4 ≤ 6 ∧ (∀ l, l < H 3 → H (8 + 2 * l) ≤ 9 ∧ H (9 + 2 * l) ≤ 9) ∧ (∀ v, v < H 4 → 1 ≤ H (16 + 7 * v) ∧ H (16 + 7 * v) ≤ 9 ∧ H (17 + 7 * v) ≤ 5 ∧ H (18 + 7 * v) ≤ 3 ∧ 1 ≤ H (19 + 7 * v) ∧ H (19 + 7 * v) ≤ 30 ∧ H (20 + 7 * v) ≤ 9 ∧ H (21 + 7 * v) < H 3 ∧ H (22 + 7 * v) ≤ 99)
def jc_H (S : AS) (o : Nat) (H : Nat → Nat) : Prop := o < 2 ∧ ax_fx S 11 0 14 = o ∧ ax_fx S 11 0 15 = 1 - o ∧ ax_fo S 6 0 1 = (if H 4 = 0 then none else some o) ∧ ax_fi S 4 o 4 = nI (H 3) ∧ ax_fi S 4 o 5 = nI (H 4) ∧ (∀ j, j < 3 → ax_ai S 27 o j = nI (H j)) ∧ (∀ l, l < H 3 → ∀ w, w < 2 → ax_ai S 28 o (l * 2 + w) = nI (H (8 + 2 * l + w))) ∧ (∀ v, v < H 4 → ∀ w, w < 7 → ax_ai S 29 o (v * 7 + w) = nI (H (16 + 7 * v + w)))
def jr_H (T : AS) (H : Nat → Nat) : Prop := ax_fi T 12 0 26 = nI (H 3) ∧ ax_fi T 12 0 27 = nI (H 4) ∧ (∀ j, j < 3 → ax_ai T 47 0 j = nI (H j)) ∧ (∀ l, l < H 3 → ∀ w, w < 2 → ax_ai T 49 0 (2 * l + w) = nI (H (8 + 2 * l + w))) ∧ (∀ v, v < H 4 → ∀ w, w < 7 → ax_ai T 51 0 (7 * v + w) = nI (H (16 + 7 * v + w)))
def jn_bits (N : Nat → Nat) : Nat := N 1 + 2 * N 3 + 4 * N 5 + 8 * N 7 + 16 * N 9 + 32 * N 11
def jn_ok (H N : Nat → Nat) : Prop := (∀ v, v < 6 → N (2 * v) ≤ 3 ∧ N (2 * v + 1) ≤ 1) ∧ (∀ v, v < 6 → H 4 ≤ v → N (2 * v) = 0 ∧ N (2 * v + 1) = 0) ∧ (∀ l, l < 4 → N (12 + l) ≤ 9) ∧ (∀ l, l < 4 → H 3 ≤ l → N (12 + l) = 0) ∧ N 16 ≤ 99 ∧ N 17 ≤ N 1 + N 3 + N 5 + N 7 + N 9 + N 11 ∧ N 18 ≤ 1 ∧ N 19 ≤ 9999 ∧ N 20 ≤ N 1 + N 3 + N 5 + N 7 + N 9 + N 11 ∧ N 21 ≤ 999 ∧ N 22 ≤ 999
def jc_S (S : AS) (i : Nat) (N : Nat → Nat) : Prop := ax_fi S 9 i 0 = nI (N 16) ∧ ax_fi S 9 i 1 = nI (jn_bits N) ∧ ax_fi S 9 i 2 = nI (N 20) ∧ ax_fi S 9 i 3 = nI (N 17) ∧ ax_fi S 9 i 4 = nI (N 18) ∧ ax_fi S 9 i 5 = nI (N 19) ∧ ax_fi S 9 i 6 = nI (N 21) ∧ ax_fi S 9 i 7 = nI (N 22) ∧ (∀ l, l < 4 → ax_ai S 38 i l = nI (N (12 + l))) ∧ (∀ v, v < 6 → ax_ai S 39 i v = nI (N (2 * v)))
def jr_S (R : Nat → Int32) (N : Nat → Nat) : Prop := ∀ j, j < 23 → R j = nI (N j)
/-- the law in use -/
def jc_W (S : AS) (W : Option (List la_C)) : Prop := match W with
  | none => ax_fo S 6 0 2 = none
  | some cs => la_dc cs ∧ ∃ y, ax_fo S 6 0 2 = some y ∧ la_H S y cs
/-! THE CLASS: traits, beats -/
section
variable {S : AS} {o : Nat} {H : Nat → Nat} {W : Option (List la_C)}
theorem jc_trait (hH : jc_H S o H) (ho : jh_ok H) {v w : Nat} (hv : v < H 4) (hw : w < 7) : f_X4_traitOf o (nI v) (nI w) S = some (nI (H (16 + 7 * v + w))) := by
  obtain ⟨_, _, _, _, _, h5, _, _, h8⟩ := hH
  have h6 : H 4 ≤ 6 := ho.2.2.2.2.1
  unfold f_X4_traitOf
  simp (disch := omega) only [ax_let, h5, sn_0, sn_7, sn_1, nI_ltI, nI_leI, nI_eq]
  rw [if_neg (by omega), if_neg (by omega), if_neg (by omega), if_neg (by omega), if_neg (by omega)]
  simp (disch := omega) only [ax_gd, pk_mul, nI_add, sn_in, nI_clamp, if_true]
  rw [h8 v hv w hw]
theorem jc_hards (hH : jc_H S o H) (ho : jh_ok H) {v : Nat} (hv : v < H 4) : f_X6_hardsOf (nI v) S = some (nI (H (16 + 7 * v + 1))) := by
  have e : ax_fo S 6 0 1 = some o := by rw [hH.2.2.2.1, if_neg (by omega)]
  unfold f_X6_hardsOf
  rw [e]
  show (f_X4_traitOf o (nI v) (nI 1) S).bind _ = _
  rw [jc_trait hH ho hv (by omega)]; rfl
end

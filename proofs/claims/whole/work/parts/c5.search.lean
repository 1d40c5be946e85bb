/-! QUERIES: order, the tables of the search -/
def tbv (H : Nat → Nat) (W : Option (List la_C)) (N : Nat → Nat) (p v : Nat) : Nat := bt H W v (H (17 + 7 * v)) (N (2 * v)) (N 17 + p) (N 18) (N 22)
def gnv (H : Nat → Nat) (W : Option (List la_C)) (N : Nat → Nat) (p v : Nat) : Nat := if tbv H W N p v < H (19 + 7 * v) then 0 else H (20 + 7 * v) + H (8 + 2 * H (21 + 7 * v))
def ost (H : Nat → Nat) (W : Option (List la_C)) (N : Nat → Nat) (q : Nat → Nat → Prop) (S : AS) : Prop := ∀ v p, q v p → ax_ai S 34 0 (p * 6 + v) = nI (tbv H W N p v) ∧ ax_ai S 35 0 (p * 6 + v) = nI (gnv H W N p v)
def osl (H : Nat → Nat) (n : Nat) (S : AS) : Prop := ∀ v, v < n → ax_ai S 36 0 v = nI (H (21 + 7 * v))
def pat (H : Nat → Nat) (l : Nat) : Nat := if l < H 3 then H (9 + 2 * l) else 0
def osr (H N : Nat → Nat) (n : Nat) (S : AS) : Prop := ∀ l, l < n → ax_ai S 37 0 l = nI (pat H l) - nI (N (12 + l))
section
variable {S T Z Y S0 T0 : AS} {o M c cn im hI tn wh n ca hi : Nat} {H N L E Q NI LI tb Lg : Nat → Nat} {W : Option (List la_C)} {K : Nat → List la_C} {P : Nat → Nat → Nat}
theorem jc_pat0 (hH : jc_H S o H) (ho : jh_ok H) {l : Nat} (hl : l < 4) : f_X4_patienceOf o (nI l) S = some (nI (pat H l)) := by
  unfold pat
  by_cases q : l < H 3
  · rw [if_pos q]; exact jc_pati hH ho q
  · have h3 : H 3 ≤ 4 := ho.2.2.2.1
    have e : ax_fi S 4 o 4 = nI (H 3) := hH.2.2.2.2.1
    rw [if_neg q]
    unfold f_X4_patienceOf f_X4_lodgerItem
    rw [e, if_neg (nI_pos (by omega)), if_pos ((nI_leI (by omega) (by omega)).mpr (by omega))]
    rfl
abbrev w_se : List (Nat × Nat × Nat) := [(0, 8, 4), (0, 8, 5), (0, 8, 6), (0, 8, 7), (0, 8, 8), (0, 8, 9), (4, 34, 0), (4, 35, 0), (4, 36, 0), (4, 37, 0), (4, 31, 0), (4, 32, 0), (0, 5, 3)]
theorem se_g (h : ax_fr w_se S Z) : cg0 o M c S Z ∧ cg1 S Z := ⟨cg0_f h (by decide), cg1_f h (fun j => by simp) (fun j => by simp) (by decide) (by decide) (by decide) (by decide)⟩
theorem se_C (hR : jR o H W M K c L E cn Q im NI LI hI tn tb wh S T) (hA : jA H N n ca P Lg hi S T) (h : ax_fr w_se S Z) : jc_C Z o H W ∧ jc_S Z 0 N := by
  have hRZ := jR_g (se_g (o := o) (M := M) (c := c) h).1 rg0.rf hR
  exact ⟨⟨hRZ.2.1, jz_W hRZ.2.2.1⟩, jc_S_0 (se_g (o := o) (M := M) (c := c) h).2 hA.2.1⟩
theorem fi_L24 (hR : jR o H W M K c L E cn Q im NI LI hI tn tb wh S0 T) (hA : jA H N n ca P Lg hi S0 T) {Kc : Nat → Nat → AS → Option AS} : ∀ d m p S, ax_fr w_se S0 S → osr H N p S → p + d = 4 → d < m → ∃ Z, f_X8_find_L24 Kc m o 0 (nI p) S = Kc o 0 Z ∧ ax_fr w_se S0 Z ∧ osr H N 4 Z ∧ ∀ j, ax_fi Z 8 0 j = ax_fi S 8 0 j
  | 0, m + 1, p, S, hf, hr, hp, _ => by
    obtain rfl : p = 4 := by omega
    rw [f_X8_find_L24, if_pos (by decide)]
    exact ⟨S, rfl, hf, hr, fun _ => rfl⟩
  | d + 1, m + 1, p, S, hf, hr, hp, hm => by
    have c4 : ((4 : Int32) ≤ nI p) ↔ 4 ≤ p := nI_leI (a := 4) (by omega) (by omega)
    obtain ⟨hC, hS⟩ := se_C hR hA hf
    rw [f_X8_find_L24, if_neg (fun z => absurd (c4.mp z) (by omega)), jc_pat0 hC.1 hR.1 (by omega), sn_bs, jc_recv hS (by omega), sn_bs, sn_in (by omega) (by omega), sn_gd, nI_clamp (by omega), sn_let, sn_let, nI_1]
    obtain ⟨Z, z1, z2, z3, z4⟩ := fi_L24 hR hA (Kc := Kc) d m (p + 1) (ax_sai S 37 0 p (nI (pat H p) - nI (N (12 + p)))) (hf.tr (ax_fr_sai (by decide))) (fun l hl => by
      rw [sga]
      by_cases q : l = p
      · rw [if_pos q, q]
      · rw [if_neg q]; exact hr l (by omega)) (by omega) (by omega)
    exact ⟨Z, z1, z2, z3, z4⟩
theorem fi_L85 (hR : jR o H W M K c L E cn Q im NI LI hI tn tb wh S0 T) (hA : jA H N n ca P Lg hi S0 T) {v : Nat} (hv : v < H 4) {Kc : Nat → Nat → Int32 → AS → Option AS} : ∀ d m p S, ax_fr w_se S0 S → ost H W N (fun w q => w < 6 ∧ q < 6 ∧ (w < v ∨ (w = v ∧ q < p))) S → p + d = 6 → d < m → ∃ Z, f_X8_find_L85 Kc m o 0 (nI v) (nI p) S = Kc o 0 (nI v) Z ∧ ax_fr w_se S0 Z ∧ ost H W N (fun w q => w < 6 ∧ q < 6 ∧ (w < v ∨ (w = v ∧ q < 6))) Z ∧ (∀ j, ax_fi Z 8 0 j = ax_fi S 8 0 j) ∧ ax_ai Z 36 0 = ax_ai S 36 0 ∧ ax_ai Z 37 0 = ax_ai S 37 0
  | 0, m + 1, p, S, hf, hr, hp, _ => by
    obtain rfl : p = 6 := by omega
    rw [f_X8_find_L85, if_pos (by decide)]
    exact ⟨S, rfl, hf, hr, fun _ => rfl, rfl, rfl⟩
  | d + 1, m + 1, p, S, hf, hr, hp, hm => by
    have c6 : ((6 : Int32) ≤ nI p) ↔ 6 ≤ p := nI_leI (a := 6) (by omega) (by omega)
    have ho := hR.1
    have h6 : H 4 ≤ 6 := ho.2.2.2.2.1
    have b1 := ho.2.2.2.2.2.2 v hv
    have h2 := hA.1.1 v (by omega)
    have ht := cn_tired hA.1
    have h18 : N 18 ≤ 1 := hA.1.2.2.2.2.2.2.1
    obtain ⟨hC, hS⟩ := se_C hR hA hf
    obtain ⟨U, u1, u2⟩ := jc_beats (v := v) (h := H (17 + 7 * v)) (t := N (2 * v)) (g := N 17 + p) (s := N 18) (d := N 22) hC.1 ho hC.2 hv (by omega) (by omega) (by omega) h18
    have eh := jc_hards hC.1 ho hv
    rw [(by omega : 16 + 7 * v + 1 = 17 + 7 * v)] at eh
    have eB : f_X6_beatsTired 0 (nI v) (nI (N (2 * v))) (nI (N 17 + p)) S = some (nI (tbv H W N p v), U) := by
      unfold f_X6_beatsTired
      rw [eh, sn_bs, hS.2.2.2.2.1, hS.2.2.2.2.2.2.2.1, u1, ax_bu_s]
      rfl
    have bb : tbv H W N p v ≤ 60 := bt_b.2
    have fU : ax_fr w_se S U := u2.mono (by decide)
    have ix : nI p * (6 : Int32) + nI v = nI (p * 6 + v) := by rw [sn_6, pk_mul, nI_add]
    have f1 : ax_fr w_se S0 (ax_sai U 34 0 (p * 6 + v) (nI (tbv H W N p v))) := (hf.tr fU).tr (ax_fr_sai (by decide))
    obtain ⟨hC1, hS1⟩ := se_C hR hA f1
    have u34 : ax_ai U 34 0 = ax_ai S 34 0 := u2.2.2.2.2.1 34 0 (by decide)
    have u35 : ax_ai U 35 0 = ax_ai S 35 0 := u2.2.2.2.2.1 35 0 (by decide)
    have u36 : ax_ai U 36 0 = ax_ai S 36 0 := u2.2.2.2.2.1 36 0 (by decide)
    have u37 : ax_ai U 37 0 = ax_ai S 37 0 := u2.2.2.2.2.1 37 0 (by decide)
    have u8 : ∀ j, ax_fi U 8 0 j = ax_fi S 8 0 j := fun j => u2.1 8 0 j (by simp)
    have fin : ∀ x, x = gnv H W N p v → ∃ Z, f_X8_find_L85 Kc m o 0 (nI v) (nI (p + 1)) (ax_sai (ax_sai U 34 0 (p * 6 + v) (nI (tbv H W N p v))) 35 0 (p * 6 + v) (nI x)) = Kc o 0 (nI v) Z ∧ ax_fr w_se S0 Z ∧ ost H W N (fun w q => w < 6 ∧ q < 6 ∧ (w < v ∨ (w = v ∧ q < 6))) Z ∧ (∀ j, ax_fi Z 8 0 j = ax_fi S 8 0 j) ∧ ax_ai Z 36 0 = ax_ai S 36 0 ∧ ax_ai Z 37 0 = ax_ai S 37 0 := fun x hx => by
      obtain ⟨Z, z1, z2, z3, z4, z5, z6⟩ := fi_L85 hR hA hv (Kc := Kc) d m (p + 1) (ax_sai (ax_sai U 34 0 (p * 6 + v) (nI (tbv H W N p v))) 35 0 (p * 6 + v) (nI x)) (f1.tr (ax_fr_sai (by decide))) (fun w q hwq => by
        rw [sgo (by omega), sga, sga, sgo (by omega), u34, u35, hx]
        by_cases e : q * 6 + w = p * 6 + v
        · have e1 : q = p := by omega
          have e2 : w = v := by omega
          rw [if_pos e, if_pos e, e1, e2]
          exact ⟨rfl, rfl⟩
        · rw [if_neg e, if_neg e]
          refine hr w q ⟨hwq.1, hwq.2.1, ?_⟩
          rcases hwq.2.2 with g | ⟨g1, g2⟩
          · exact .inl g
          · refine .inr ⟨g1, ?_⟩
            by_cases g3 : q = p
            · exact absurd (by rw [g3, g1]) e
            · omega) (by omega) (by omega)
      refine ⟨Z, z1, z2, z3, fun j => (z4 j).trans (u8 j), z5.trans ?_, z6.trans ?_⟩
      · rw [sgo (by omega), sgo (by omega), u36]
      · rw [sgo (by omega), sgo (by omega), u37]
    rw [f_X8_find_L85, if_neg (fun z => absurd (c6.mp z) (by omega)), jc_titles hS (by omega), sn_bs, hS.2.2.2.1, nI_add, eB, ax_bu_s, ix, sn_in (by omega) (by omega), sn_gd, nI_clamp (n := p * 6 + v) (by omega), sn_let, jc_done hC1.1 ho hv bb, sn_bs]
    by_cases hd : tbv H W N p v < H (19 + 7 * v)
    · rw [if_pos hd, if_pos rfl, sn_gd, sn_let, sn_let, nI_1]
      exact fin 0 (by unfold gnv; rw [if_pos hd])
    · rw [if_neg hd, if_neg ne10, jc_gain hC1.1 ho hv, sn_bs, sn_gd, sn_let, sn_let, nI_1]
      exact fin _ (by unfold gnv; rw [if_neg hd])
theorem fi_L59 (hR : jR o H W M K c L E cn Q im NI LI hI tn tb wh S0 T) (hA : jA H N n ca P Lg hi S0 T) {Kc : Nat → AS → Option AS} : ∀ d m v S, ax_fr w_se S0 S → ax_fi S 8 0 4 = nI (H 4) → osl H v S → ost H W N (fun w q => w < 6 ∧ q < 6 ∧ w < v) S → v + d = H 4 → d < m → ∃ Z, f_X8_find_L59 Kc m o 0 (nI v) S = Kc 0 Z ∧ ax_fr w_se S0 Z ∧ osl H (H 4) Z ∧ ost H W N (fun w q => w < 6 ∧ q < 6 ∧ w < H 4) Z ∧ (∀ j, ax_fi Z 8 0 j = ax_fi S 8 0 j) ∧ ax_ai Z 37 0 = ax_ai S 37 0
  | 0, m + 1, v, S, hf, h4, hl, ht, hp, _ => by
    obtain rfl : v = H 4 := by omega
    have h6 : H 4 ≤ 6 := hR.1.2.2.2.2.1
    rw [f_X8_find_L59, h4, if_pos ((nI_leI (by omega) (by omega)).mpr (by omega))]
    exact ⟨S, rfl, hf, hl, ht, fun _ => rfl, rfl⟩
  | d + 1, m + 1, v, S, hf, h4, hl, ht, hp, hm => by
    have h6 : H 4 ≤ 6 := hR.1.2.2.2.2.1
    obtain ⟨hC, hS⟩ := se_C hR hA hf
    have e5 := jc_trait hC.1 hR.1 (v := v) (by omega) (w := 5) (by omega)
    rw [← sn_5, (by omega : 16 + 7 * v + 5 = 21 + 7 * v)] at e5
    obtain ⟨Z, z1, z2, z3, z4, z5, z6⟩ := fi_L85 hR hA (v := v) (by omega) (Kc := (fun (x49 : Nat) (x50 : Nat) (x51 : Int32) (S79 : AS) => ax_let (x51 + (1 : Int32)) (fun (v80 : Int32) => f_X8_find_L59 Kc m x49 x50 v80 S79))) 6 ax_F 0 (ax_sai S 36 0 v (nI (H (21 + 7 * v)))) (hf.tr (ax_fr_sai (by decide))) (fun w q hwq => by
      rw [sgo (by omega), sgo (by omega)]
      refine ht w q ⟨hwq.1, hwq.2.1, ?_⟩
      rcases hwq.2.2 with g | g
      · exact g
      · omega) (by omega) (by show _ < 1000000; omega)
    rw [← sn_0, sn_let, nI_1] at z1
    rw [f_X8_find_L59, h4, if_neg (fun z => absurd ((nI_leI (by omega) (by omega)).mp z) (by omega)), e5, sn_bs, sn_in (by omega) (by omega), sn_gd, nI_clamp (n := v) (by omega), sn_let, z1]
    obtain ⟨X, x1, x2, x3, x4, x5, x6⟩ := fi_L59 hR hA (Kc := Kc) d m (v + 1) Z z2 (by rw [z4]; exact h4) (fun w hw => by
      rw [z5, sga]
      by_cases q : w = v
      · rw [if_pos q, q]
      · rw [if_neg q]; exact hl w (by omega)) (fun w q hwq => z3 w q ⟨hwq.1, hwq.2.1, by omega⟩) (by omega) (by omega)
    refine ⟨X, x1, x2, x3, x4, fun j => (x5 j).trans (z4 j), x6.trans (z6.trans ?_)⟩
    rw [sgo (by omega)]
end

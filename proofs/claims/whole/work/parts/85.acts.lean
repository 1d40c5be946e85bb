/-! THE CLASS: acts on a state -/
def cn_may (H : Nat → Nat) (W : Option (List la_C)) (N : Nat → Nat) (k : Nat) (x : Int32) : Prop := (k = 0 ∧ ∃ v, v < H 4 ∧ x = nI v ∧ cn_can H W N v) ∨ (k = 1 ∧ ∃ v, v < H 4 ∧ x = nI v ∧ N (2 * v) < 3 ∧ 2 ≤ N 21) ∨ k = 2 ∨ (k = 3 ∧ ∃ n, 1 ≤ n ∧ n ≤ 20 ∧ x = nI n ∧ N 16 + n ≤ H 0) ∨ (k = 4 ∧ N 22 < 999) ∨ (k = 5 ∧ ∃ v, v < H 4 ∧ x = nI v ∧ 0 < N (2 * v)) ∨ (k = 6 ∧ 0 < N 17 ∧ N 16 + 3 ≤ H 0)
def jc_is (S : AS) (o : Nat) (x : Int32) : Int32 := if x < 0 then 0 else if ax_fi S 4 o 5 ≤ x then 0 else 1
theorem jc_is1 {S : AS} {o : Nat} {H : Nat → Nat} (hH : jc_H S o H) (ho : jh_ok H) {v : Nat} (hv : v < H 4) : jc_is S o (nI v) = 1 := by
  have h6 : H 4 ≤ 6 := ho.2.2.2.2.1
  unfold jc_is
  rw [if_neg (nI_pos (by omega)), hH.2.2.2.2.2.1, if_neg (fun q => absurd ((nI_leI (by omega) (by omega)).mp q) (by omega))]
theorem jc_is0 {S : AS} {o : Nat} {H : Nat → Nat} (hH : jc_H S o H) (ho : jh_ok H) {x : Int32} (hx : ∀ v, v < H 4 → x ≠ nI v) : jc_is S o x = 0 := by
  have h6 : H 4 ≤ 6 := ho.2.2.2.2.1
  unfold jc_is
  rcases pk_ix x (n := H 4) (by omega) with h | h | ⟨j, h1, h2⟩
  · rw [if_pos h]
  · rw [hH.2.2.2.2.2.1, if_pos h]
    split <;> rfl
  · exact absurd h2 (hx j h1)
/-- the body of may, behind isCaller -/
def jc_mb (i : Nat) (k a3 x3 : Int32) (S4 : AS) : Option (Int32 × AS) := (if k = (0 : Int32) then (if x3 = (0 : Int32) then some ((0 : Int32), S4) else ax_bu (f_X6_mayAnnounce i a3 S4) (fun (r11 : Int32) (S8 : AS) => (if r11 = (0 : Int32) then some ((0 : Int32), S8) else some ((1 : Int32), S8)))) else if k = (1 : Int32) then (if x3 = (0 : Int32) then some ((0 : Int32), S4) else (f_X9_titlesOf i a3 S4).bind (fun (r18 : Int32) => (if (3 : Int32) ≤ r18 then some ((0 : Int32), S4) else (if (ax_fi S4 9 i 6) < (2 : Int32) then some ((0 : Int32), S4) else some ((1 : Int32), S4))))) else if k = (2 : Int32) then some ((1 : Int32), S4) else if k = (3 : Int32) then (if a3 < (1 : Int32) then some ((0 : Int32), S4) else (if (20 : Int32) < a3 then some ((0 : Int32), S4) else (f_X6_beatsLeft i S4).bind (fun (r28 : Int32) => (if r28 < a3 then some ((0 : Int32), S4) else some ((1 : Int32), S4))))) else if k = (4 : Int32) then (if (999 : Int32) ≤ (ax_fi S4 9 i 7) then some ((0 : Int32), S4) else some ((1 : Int32), S4)) else if k = (5 : Int32) then (if x3 = (0 : Int32) then some ((0 : Int32), S4) else (f_X9_titlesOf i a3 S4).bind (fun (r37 : Int32) => (if r37 ≤ (0 : Int32) then some ((0 : Int32), S4) else some ((1 : Int32), S4)))) else if k = (6 : Int32) then (if (ax_fi S4 9 i 3) ≤ (0 : Int32) then some ((0 : Int32), S4) else (f_X6_beatsLeft i S4).bind (fun (r44 : Int32) => (if r44 < (3 : Int32) then some ((0 : Int32), S4) else some ((1 : Int32), S4)))) else some ((0 : Int32), S4))
theorem jc_mbe {S : AS} {o i : Nat} {k x : Int32} (h : ax_fo S 6 0 1 = some o) : f_X6_may i k x S = jc_mb i k x (jc_is S o x) S := by
  unfold f_X6_may jc_is
  rw [h, sn_ons]
  show (if x < 0 then jc_mb i k x 0 S else if ax_fi S 4 o 5 ≤ x then jc_mb i k x 0 S else jc_mb i k x 1 S) = _
  by_cases h1 : x < 0
  · rw [if_pos h1, if_pos h1]
  · rw [if_neg h1, if_neg h1]
    by_cases h2 : ax_fi S 4 o 5 ≤ x
    · rw [if_pos h2, if_pos h2]
    · rw [if_neg h2, if_neg h2]
section
variable {S Z : AS} {o i : Nat} {H N : Nat → Nat} {W : Option (List la_C)}
theorem jc_dec {H : Nat → Nat} (x : Int32) : (∃ v, v < H 4 ∧ x = nI v) ∨ (∀ v, v < H 4 → x ≠ nI v) := by
  by_cases h : ∃ v, v < H 4 ∧ x = nI v
  · exact .inl h
  · exact .inr (fun v hv e => h ⟨v, hv, e⟩)
theorem cn_inj {H : Nat → Nat} (ho : jh_ok H) {v w : Nat} (hv : v < H 4) (hw : w < H 4) (e : nI v = nI w) : v = w := by
  have h6 : H 4 ≤ 6 := ho.2.2.2.2.1
  exact (nI_eq (by omega) (by omega)).mp e
theorem jc_ltI {a b c : Nat} (ha : a ≤ 99) (hb : b ≤ 99) (hc : c ≤ 99) : (nI a - nI b < nI c) ↔ ¬ (b + c ≤ a) := by
  rw [Int32.lt_iff_toInt_lt, pk_sub_toInt (by omega) (by omega), nI_toInt (by omega)]
  omega
theorem jc_may (ho : jh_ok H) (hN : jn_ok H N) (hC : jc_C S o H W) (hS : jc_S S i N) (h0 : 0 < H 4) (k : Nat) (hk : k < 7) (x : Int32) : ∃ r Z, f_X6_may i (nI k) x S = some (r, Z) ∧ ax_fr jc_scr S Z ∧ ((cn_may H W N k x ∧ r = 1) ∨ (¬ cn_may H W N k x ∧ r = 0)) := by
  have h6 : H 4 ≤ 6 := ho.2.2.2.2.1
  have h16 : N 16 ≤ 99 := hN.2.2.2.2.1
  have hr0 : H 0 ≤ 99 := ho.1
  have h21 : N 21 ≤ 999 := hN.2.2.2.2.2.2.2.2.2.1
  have h22 : N 22 ≤ 999 := hN.2.2.2.2.2.2.2.2.2.2
  have h17 := cn_tired hN
  rw [jc_mbe (jc_house hC.1 h0)]
  rcases (by omega : k = 0 ∨ k = 1 ∨ k = 2 ∨ k = 3 ∨ k = 4 ∨ k = 5 ∨ k = 6) with rfl | rfl | rfl | rfl | rfl | rfl | rfl
  · unfold jc_mb
    rw [if_pos (by decide)]
    rcases jc_dec (H := H) x with ⟨v, hv, rfl⟩ | hx
    · rw [jc_is1 hC.1 ho hv, if_neg (by decide)]
      obtain ⟨r, Z, z1, z2, z3, z4⟩ := jc_may0 ho hN hC hS hv
      rw [z1, ax_bu_s]
      by_cases hc : cn_can H W N v
      · rw [z3 hc, if_neg (by decide)]
        exact ⟨1, Z, rfl, z2, .inl ⟨.inl ⟨rfl, v, hv, rfl, hc⟩, rfl⟩⟩
      · rw [z4 hc, if_pos rfl]
        refine ⟨0, Z, rfl, z2, .inr ⟨fun q => ?_, rfl⟩⟩
        rcases q with ⟨_, w, hw, e, q⟩ | ⟨q, _⟩ | q | ⟨q, _⟩ | ⟨q, _⟩ | ⟨q, _⟩ | ⟨q, _⟩
        · exact hc (cn_inj ho hv hw e ▸ q)
        all_goals omega
    · rw [jc_is0 hC.1 ho hx, if_pos rfl]
      refine ⟨0, S, rfl, ax_fr.rf, .inr ⟨fun q => ?_, rfl⟩⟩
      rcases q with ⟨_, w, hw, e, q⟩ | ⟨q, _⟩ | q | ⟨q, _⟩ | ⟨q, _⟩ | ⟨q, _⟩ | ⟨q, _⟩
      · exact hx w hw e
      all_goals omega
  · unfold jc_mb
    rw [if_neg (by decide), if_pos (by decide)]
    rcases jc_dec (H := H) x with ⟨v, hv, rfl⟩ | hx
    · have h2 := hN.1 v (by omega)
      have c3 : ((3 : Int32) ≤ nI (N (2 * v))) ↔ 3 ≤ N (2 * v) := nI_leI (a := 3) (by omega) (by omega)
      have c2 : (nI (N 21) < (2 : Int32)) ↔ N 21 < 2 := nI_ltI (b := 2) (by omega) (by omega)
      rw [jc_is1 hC.1 ho hv, if_neg (by decide), jc_titles hS (by omega), sn_bs, hS.2.2.2.2.2.2.1]
      by_cases hc : N (2 * v) < 3 ∧ 2 ≤ N 21
      · rw [if_neg (fun q => absurd (c3.mp q) (by omega)), if_neg (fun q => absurd (c2.mp q) (by omega))]
        exact ⟨1, S, rfl, ax_fr.rf, .inl ⟨.inr (.inl ⟨rfl, v, hv, rfl, hc⟩), rfl⟩⟩
      · refine ⟨0, S, ?_, ax_fr.rf, .inr ⟨fun q => ?_, rfl⟩⟩
        · by_cases h3 : 3 ≤ N (2 * v)
          · rw [if_pos (c3.mpr h3)]
          · rw [if_neg (fun q => h3 (c3.mp q)), if_pos (c2.mpr (by omega))]
        · rcases q with ⟨q, _⟩ | ⟨_, w, hw, e, q⟩ | q | ⟨q, _⟩ | ⟨q, _⟩ | ⟨q, _⟩ | ⟨q, _⟩
          · omega
          · exact hc (cn_inj ho hv hw e ▸ q)
          all_goals omega
    · rw [jc_is0 hC.1 ho hx, if_pos rfl]
      refine ⟨0, S, rfl, ax_fr.rf, .inr ⟨fun q => ?_, rfl⟩⟩
      rcases q with ⟨q, _⟩ | ⟨_, w, hw, e, q⟩ | q | ⟨q, _⟩ | ⟨q, _⟩ | ⟨q, _⟩ | ⟨q, _⟩
      · omega
      · exact hx w hw e
      all_goals omega
  · unfold jc_mb
    rw [if_neg (by decide), if_neg (by decide), if_pos (by decide)]
    exact ⟨1, S, rfl, ax_fr.rf, .inl ⟨.inr (.inr (.inl rfl)), rfl⟩⟩
  · unfold jc_mb
    rw [if_neg (by decide), if_neg (by decide), if_neg (by decide), if_pos (by decide)]
    by_cases hc : ∃ n, 1 ≤ n ∧ n ≤ 20 ∧ x = nI n
    · obtain ⟨n, n1, n2, rfl⟩ := hc
      have c1 : (nI n < (1 : Int32)) ↔ n < 1 := nI_ltI (b := 1) (by omega) (by omega)
      have c20 : ((20 : Int32) < nI n) ↔ 20 < n := nI_ltI (a := 20) (by omega) (by omega)
      rw [if_neg (fun q => absurd (c1.mp q) (by omega)), if_neg (fun q => absurd (c20.mp q) (by omega)), jc_left hC.1 h0 hS, sn_bs]
      by_cases hq : N 16 + n ≤ H 0
      · rw [if_neg (fun q => (jc_ltI hr0 h16 (by omega)).mp q hq)]
        exact ⟨1, S, rfl, ax_fr.rf, .inl ⟨.inr (.inr (.inr (.inl ⟨rfl, n, n1, n2, rfl, hq⟩))), rfl⟩⟩
      · rw [if_pos ((jc_ltI hr0 h16 (by omega)).mpr hq)]
        refine ⟨0, S, rfl, ax_fr.rf, .inr ⟨fun q => ?_, rfl⟩⟩
        rcases q with ⟨q, _⟩ | ⟨q, _⟩ | q | ⟨_, m, m1, m2, e, q⟩ | ⟨q, _⟩ | ⟨q, _⟩ | ⟨q, _⟩
        · omega
        · omega
        · omega
        · have := (nI_eq (by omega) (by omega)).mp e
          omega
        all_goals omega
    · refine ⟨0, S, ?_, ax_fr.rf, .inr ⟨fun q => ?_, rfl⟩⟩
      · by_cases l1 : x < 1
        · rw [if_pos l1]
        · rw [if_neg l1]
          by_cases l2 : (20 : Int32) < x
          · rw [if_pos l2]
          · exfalso
            have a1 : ¬ x.toInt < 1 := fun q => l1 (Int32.lt_iff_toInt_lt.mpr q)
            have a2 : ¬ 20 < x.toInt := fun q => l2 (Int32.lt_iff_toInt_lt.mpr q)
            obtain ⟨j, hj, e⟩ := nI_of (x := x) (fun q => a1 (by have := Int32.lt_iff_toInt_lt.mp q; have e : (0 : Int32).toInt = 0 := rfl; omega))
            rw [e, nI_toInt hj] at a1 a2
            exact hc ⟨j, by omega, by omega, e⟩
      · rcases q with ⟨q, _⟩ | ⟨q, _⟩ | q | ⟨_, m, m1, m2, e, q⟩ | ⟨q, _⟩ | ⟨q, _⟩ | ⟨q, _⟩
        · omega
        · omega
        · omega
        · exact hc ⟨m, m1, m2, e⟩
        all_goals omega
  · unfold jc_mb
    rw [if_neg (by decide), if_neg (by decide), if_neg (by decide), if_neg (by decide), if_pos (by decide), hS.2.2.2.2.2.2.2.1]
    have c9 : ((999 : Int32) ≤ nI (N 22)) ↔ 999 ≤ N 22 := nI_leI (a := 999) (by omega) (by omega)
    by_cases hc : N 22 < 999
    · rw [if_neg (fun q => absurd (c9.mp q) (by omega))]
      exact ⟨1, S, rfl, ax_fr.rf, .inl ⟨.inr (.inr (.inr (.inr (.inl ⟨rfl, hc⟩)))), rfl⟩⟩
    · rw [if_pos (c9.mpr (by omega))]
      refine ⟨0, S, rfl, ax_fr.rf, .inr ⟨fun q => ?_, rfl⟩⟩
      rcases q with ⟨q, _⟩ | ⟨q, _⟩ | q | ⟨q, _⟩ | ⟨_, q⟩ | ⟨q, _⟩ | ⟨q, _⟩
      all_goals omega
  · unfold jc_mb
    rw [if_neg (by decide), if_neg (by decide), if_neg (by decide), if_neg (by decide), if_neg (by decide), if_pos (by decide)]
    rcases jc_dec (H := H) x with ⟨v, hv, rfl⟩ | hx
    · have h2 := hN.1 v (by omega)
      have c0 : (nI (N (2 * v)) ≤ (0 : Int32)) ↔ N (2 * v) ≤ 0 := nI_leI (b := 0) (by omega) (by omega)
      rw [jc_is1 hC.1 ho hv, if_neg (by decide), jc_titles hS (by omega), sn_bs]
      by_cases hc : 0 < N (2 * v)
      · rw [if_neg (fun q => absurd (c0.mp q) (by omega))]
        exact ⟨1, S, rfl, ax_fr.rf, .inl ⟨.inr (.inr (.inr (.inr (.inr (.inl ⟨rfl, v, hv, rfl, hc⟩))))), rfl⟩⟩
      · rw [if_pos (c0.mpr (by omega))]
        refine ⟨0, S, rfl, ax_fr.rf, .inr ⟨fun q => ?_, rfl⟩⟩
        rcases q with ⟨q, _⟩ | ⟨q, _⟩ | q | ⟨q, _⟩ | ⟨q, _⟩ | ⟨_, w, hw, e, q⟩ | ⟨q, _⟩
        · omega
        · omega
        · omega
        · omega
        · omega
        · exact hc (cn_inj ho hv hw e ▸ q)
        · omega
    · rw [jc_is0 hC.1 ho hx, if_pos rfl]
      refine ⟨0, S, rfl, ax_fr.rf, .inr ⟨fun q => ?_, rfl⟩⟩
      rcases q with ⟨q, _⟩ | ⟨q, _⟩ | q | ⟨q, _⟩ | ⟨q, _⟩ | ⟨_, w, hw, e, q⟩ | ⟨q, _⟩
      · omega
      · omega
      · omega
      · omega
      · omega
      · exact hx w hw e
      · omega
  · unfold jc_mb
    rw [if_neg (by decide), if_neg (by decide), if_neg (by decide), if_neg (by decide), if_neg (by decide), if_neg (by decide), if_pos (by decide), hS.2.2.2.1]
    have c0 : (nI (N 17) ≤ (0 : Int32)) ↔ N 17 ≤ 0 := nI_leI (b := 0) (by omega) (by omega)
    have c3 : (nI (H 0) - nI (N 16) < (3 : Int32)) ↔ ¬ (N 16 + 3 ≤ H 0) := jc_ltI (c := 3) hr0 h16 (by omega)
    by_cases ht : 0 < N 17
    · rw [if_neg (fun q => absurd (c0.mp q) (by omega)), jc_left hC.1 h0 hS, sn_bs]
      by_cases hq : N 16 + 3 ≤ H 0
      · rw [if_neg (fun q => c3.mp q hq)]
        exact ⟨1, S, rfl, ax_fr.rf, .inl ⟨.inr (.inr (.inr (.inr (.inr (.inr ⟨rfl, ht, hq⟩))))), rfl⟩⟩
      · rw [if_pos (c3.mpr hq)]
        refine ⟨0, S, rfl, ax_fr.rf, .inr ⟨fun q => ?_, rfl⟩⟩
        rcases q with ⟨q, _⟩ | ⟨q, _⟩ | q | ⟨q, _⟩ | ⟨q, _⟩ | ⟨q, _⟩ | ⟨_, _, q⟩
        all_goals omega
    · rw [if_pos (c0.mpr (by omega))]
      refine ⟨0, S, rfl, ax_fr.rf, .inr ⟨fun q => ?_, rfl⟩⟩
      rcases q with ⟨q, _⟩ | ⟨q, _⟩ | q | ⟨q, _⟩ | ⟨q, _⟩ | ⟨q, _⟩ | ⟨_, q, _⟩
      all_goals omega
end

/-! TEXTS: reading the tape on both sides, for house and afternoon -/
def tpS (S : AS) (p φ : Int32) : AS := ax_sfi (ax_sfi S 10 0 2 p) 10 0 3 φ
def tpT (T : AS) (p φ : Int32) : AS := ax_sfi (ax_sfi T 12 0 10 p) 12 0 11 φ
section
variable {S T : AS} {b : Nat → Nat} {n i A : Nat} {p φ v : Int32}
theorem tp_lc : tpS S p φ = lc_st S 0 p φ (ax_fi S 5 0 2) (ax_ai S 30 0) := by
  unfold tpS lc_st ax_sfi
  refine Prod.ext ?_ (Prod.ext rfl (Prod.ext rfl (Prod.ext rfl (Prod.ext ?_ rfl))))
  · funext a b j
    show ax_u3 (ax_u3 S.1 10 0 2 p) 10 0 3 φ a b j = _
    unfold ax_u3
    dsimp only
    by_cases h : a = 10 ∧ b = 0 ∧ j = 3
    · rw [if_pos h, if_neg (by omega), if_pos h]
    · rw [if_neg h]
      by_cases h2 : a = 10 ∧ b = 0 ∧ j = 2
      · rw [if_pos h2, if_pos h2]
      · rw [if_neg h2, if_neg h2, if_neg h]
        by_cases h3 : a = 5 ∧ b = 0 ∧ j = 2
        · rw [if_pos h3, h3.1, h3.2.1, h3.2.2]; rfl
        · rw [if_neg h3]
  · funext a b j
    show S.2.2.2.2.1 a b j = if a = 30 ∧ b = 0 then ax_ai S 30 0 j else S.2.2.2.2.1 a b j
    by_cases h : a = 30 ∧ b = 0
    · rw [if_pos h, h.1, h.2]; rfl
    · rw [if_neg h]
theorem tq_lr : tpT T p φ = lr_st T p φ (ax_fi T 12 0 12) (ax_fi T 12 0 17) (ax_fi T 12 0 14) := by
  unfold tpT lr_st ax_sfi
  refine Prod.ext ?_ rfl
  funext a b j
  show ax_u3 (ax_u3 T.1 12 0 10 p) 12 0 11 φ a b j = _
  unfold ax_u3
  dsimp only
  by_cases h : a = 12 ∧ b = 0 ∧ j = 11
  · rw [if_pos h, if_neg (by omega), if_pos h]
  · rw [if_neg h]
    by_cases h2 : a = 12 ∧ b = 0 ∧ j = 10
    · rw [if_pos h2, if_pos h2]
    · rw [if_neg h2, if_neg h2, if_neg h]
      by_cases h3 : a = 12 ∧ b = 0 ∧ j = 12
      · rw [if_pos h3, h3.1, h3.2.1, h3.2.2]; rfl
      · rw [if_neg h3]
        by_cases h4 : a = 12 ∧ b = 0 ∧ j = 17
        · rw [if_pos h4, h4.1, h4.2.1, h4.2.2]; rfl
        · rw [if_neg h4]
          by_cases h5 : a = 12 ∧ b = 0 ∧ j = 14
          · rw [if_pos h5, h5.1, h5.2.1, h5.2.2]; rfl
          · rw [if_neg h5]
theorem tp_2 : ax_fi (tpS S p φ) 10 0 2 = p := by rw [tp_lc]; exact lc_g2
theorem tp_3 : ax_fi (tpS S p φ) 10 0 3 = φ := by rw [tp_lc]; exact lc_g3
theorem tq_10 : ax_fi (tpT T p φ) 12 0 10 = p := by rw [tq_lr]; exact lr_g10
theorem tq_11 : ax_fi (tpT T p φ) 12 0 11 = φ := by rw [tq_lr]; exact lr_g11
theorem tp_s2 : ax_sfi (tpS S p φ) 10 0 2 v = tpS S v φ := by rw [tp_lc, lc_s2, ← tp_lc]
theorem tp_s3 : ax_sfi (tpS S p φ) 10 0 3 v = tpS S p v := by rw [tp_lc, lc_s3, ← tp_lc]
theorem tq_s10 : ax_sfi (tpT T p φ) 12 0 10 v = tpT T v φ := by rw [tq_lr, lr_s10, ← tq_lr]
theorem tq_s11 : ax_sfi (tpT T p φ) 12 0 11 v = tpT T p v := by rw [tq_lr, lr_s11, ← tq_lr]
theorem tp_ai : ax_ai (tpS S p φ) = ax_ai S := rfl
theorem tq_ai : ax_ai (tpT T p φ) = ax_ai T := rfl
theorem tp_fi {k a j : Nat} (h : k ≠ 10) : ax_fi (tpS S p φ) k a j = ax_fi S k a j := by
  unfold tpS ax_fi ax_sfi ax_u3
  rw [show ((fun a b c => if a = 10 ∧ b = 0 ∧ c = 3 then φ else (fun a b c => if a = 10 ∧ b = 0 ∧ c = 2 then p else S.1 a b c) a b c, S.2) : AS).1 k a j = if k = 10 ∧ a = 0 ∧ j = 3 then φ else if k = 10 ∧ a = 0 ∧ j = 2 then p else S.1 k a j from rfl, if_neg (fun z => h z.1), if_neg (fun z => h z.1)]
theorem tq_fi {a j : Nat} (h : j ≠ 10) (h2 : j ≠ 11) : ax_fi (tpT T p φ) 12 a j = ax_fi T 12 a j := by
  unfold tpT ax_fi ax_sfi ax_u3
  rw [show ((fun a b c => if a = 12 ∧ b = 0 ∧ c = 11 then φ else (fun a b c => if a = 12 ∧ b = 0 ∧ c = 10 then p else T.1 a b c) a b c, T.2) : AS).1 12 a j = if 12 = 12 ∧ a = 0 ∧ j = 11 then φ else if 12 = 12 ∧ a = 0 ∧ j = 10 then p else T.1 12 a j from rfl, if_neg (fun z => h2 z.2.2), if_neg (fun z => h z.2.2)]
/-- fields of others may be set before or behind -/
theorem tp_c {k a j : Nat} (h : k ≠ 10) : ax_sfi (tpS S p φ) k a j v = tpS (ax_sfi S k a j v) p φ := by
  unfold tpS ax_sfi
  refine Prod.ext ?_ rfl
  funext x y z
  show ax_u3 (ax_u3 (ax_u3 S.1 10 0 2 p) 10 0 3 φ) k a j v x y z = ax_u3 (ax_u3 (ax_u3 S.1 k a j v) 10 0 2 p) 10 0 3 φ x y z
  unfold ax_u3
  by_cases q : x = k ∧ y = a ∧ z = j
  · rw [if_pos q, if_neg (fun w => h (q.1.symm.trans w.1)), if_neg (fun w => h (q.1.symm.trans w.1)), if_pos q]
  · rw [if_neg q]
    by_cases q2 : x = 10 ∧ y = 0 ∧ z = 3
    · rw [if_pos q2, if_pos q2]
    · rw [if_neg q2, if_neg q2]
      by_cases q3 : x = 10 ∧ y = 0 ∧ z = 2
      · rw [if_pos q3, if_pos q3]
      · rw [if_neg q3, if_neg q3, if_neg q]
theorem tq_c {j : Nat} (h : j ≠ 10) (h2 : j ≠ 11) : ax_sfi (tpT T p φ) 12 0 j v = tpT (ax_sfi T 12 0 j v) p φ := by
  unfold tpT ax_sfi
  refine Prod.ext ?_ rfl
  funext x y z
  show ax_u3 (ax_u3 (ax_u3 T.1 12 0 10 p) 12 0 11 φ) 12 0 j v x y z = ax_u3 (ax_u3 (ax_u3 T.1 12 0 j v) 12 0 10 p) 12 0 11 φ x y z
  unfold ax_u3
  by_cases q : x = 12 ∧ y = 0 ∧ z = j
  · rw [if_pos q, if_neg (fun w => h2 (q.2.2.symm.trans w.2.2)), if_neg (fun w => h (q.2.2.symm.trans w.2.2)), if_pos q]
  · rw [if_neg q]
    by_cases q2 : x = 12 ∧ y = 0 ∧ z = 11
    · rw [if_pos q2, if_pos q2]
    · rw [if_neg q2, if_neg q2]
      by_cases q3 : x = 12 ∧ y = 0 ∧ z = 10
      · rw [if_pos q3, if_pos q3]
      · rw [if_neg q3, if_neg q3, if_neg q]
theorem tp_sai {k a j : Nat} : ax_sai (tpS S p φ) k a j v = tpS (ax_sai S k a j v) p φ := rfl
theorem tq_sai {k a j : Nat} : ax_sai (tpT T p φ) k a j v = tpT (ax_sai T k a j v) p φ := rfl
theorem tp_cpy {k a sp dp m : Nat} {f : Nat → Int32} : ax_cpy (tpS S p φ) k a f sp dp m = tpS (ax_cpy S k a f sp dp m) p φ := rfl
/-- both stand at the same place of the tape -/
def tpp (b : Nat → Nat) (n : Nat) (S T : AS) : Prop := lc_Tp b n S ∧ lr_Tp b n T 0 0
theorem m1 {q : Nat} (h : q ≤ 240) : nI q ≠ Int32.ofInt (-1) := nm1 (by omega)
/-! the given code -/
theorem tp_peek (hT : lc_Tp b n S) {q : Nat} (hp : q ≤ n) : f_X10_peek (tpS S (nI q) (Int32.ofInt (-1))) = some (lc_sg (la_by b n q), tpS S (nI (la_sk b n q)) (Int32.ofInt (-1))) := by
  rw [tp_lc]
  refine (lc_peek (y := 0) hT hp).trans ?_
  rw [tp_lc]
  rfl
theorem tp_peekD (h : φ ≠ Int32.ofInt (-1)) : f_X10_peek (tpS S p φ) = some (0, tpS S p φ) := by rw [tp_lc, lc_peekD h]
theorem tp_pass (hT : lc_Tp b n S) {q : Nat} (hp : q < n) : f_X10_pass (tpS S (nI q) φ) = some (tpS S (nI (q + 1)) φ) := by
  rw [tp_lc]
  refine (lc_pass (y := 0) hT hp).trans ?_
  rw [tp_lc]
  rfl
theorem tp_fail : f_X10_fail (tpS S p (Int32.ofInt (-1))) = some (tpS S p p) := by rw [tp_lc, lc_fail, tp_lc]
theorem tp_failD (h : φ ≠ Int32.ofInt (-1)) : f_X10_fail (tpS S p φ) = some (tpS S p φ) := by rw [tp_lc, lc_failD h]
theorem tp_here (hT : lc_Tp b n S) {q : Nat} (hp : q ≤ n) : f_X10_here (tpS S (nI q) φ) = some (lc_sg (lc_at b n q)) := by
  rw [tp_lc]
  exact lc_here (y := 0) hT hp
theorem tp_dem (hT : lc_Tp b n S) {q x : Nat} {C : Int32} (hp : q ≤ n) (h : la_by b n q = x) (hq : x < 256) (hC : lc_sg x = C) : f_X10_demand C (tpS S (nI q) (Int32.ofInt (-1))) = some (tpS S (nI (la_sk b n q + 1)) (Int32.ofInt (-1))) := by
  rw [tp_lc]
  refine (lc_dem (y := 0) hT hp h hq hC).trans ?_
  rw [tp_lc]
  rfl
theorem tp_demF (hT : lc_Tp b n S) {q : Nat} {C : Int32} (hp : q ≤ n) (h : lc_sg (la_by b n q) ≠ C) : f_X10_demand C (tpS S (nI q) (Int32.ofInt (-1))) = some (tpS S (nI (la_sk b n q)) (nI (la_sk b n q))) := by
  rw [tp_lc]
  refine (lc_demF (y := 0) hT hp h).trans ?_
  rw [tp_lc]
  rfl
theorem tp_failed0 : f_X10_failed (tpS S p (Int32.ofInt (-1))) = some 0 := by
  unfold f_X10_failed
  rw [tp_3, if_pos rfl]
theorem tp_failed1 (h : φ ≠ Int32.ofInt (-1)) : f_X10_failed (tpS S p φ) = some 1 := by
  unfold f_X10_failed
  rw [tp_3, if_neg h]
/-! the reference -/
theorem tq_look (hT : lr_Tp b n T i A) {q : Nat} (hp : q ≤ n) : f_X12_look (tpT T (nI q) φ) = some (lr_sg (la_by b n q), tpT T (nI (la_sk b n q)) φ) := by
  rw [tq_lr]
  refine (lr_look hT hp).trans ?_
  rw [tq_lr]
  rfl
theorem tq_fails : f_X12_fails (tpT T p (Int32.ofInt (-1))) = some (0, tpT T p p) := by rw [tq_lr, lr_fails, tq_lr]
theorem tq_failsD (h : φ ≠ Int32.ofInt (-1)) : f_X12_fails (tpT T p φ) = some (0, tpT T p φ) := by rw [tq_lr, lr_failsD h]
theorem tq_isD (hT : lr_Tp b n T i A) {q : Nat} (hp : q ≤ n) : f_X12_isDigit (tpT T (nI q) φ) = some (if la_di b n q = true then (1 : Int32) else 0) := by
  rw [tq_lr]
  exact lr_isD hT hp
theorem by_di {q : Nat} : (48 ≤ la_by b n q ∧ la_by b n q ≤ 57) ↔ la_di b n (la_sk b n q) = true := by
  unfold la_by la_di
  by_cases h : la_sk b n q < n
  · rw [if_pos h]
    simp [h]
  · rw [if_neg h]
    simp [h]
theorem di_lt {q : Nat} (h : la_di b n q = true) : q < n ∧ 48 ≤ b q ∧ b q ≤ 57 := by
  unfold la_di at h
  simp at h
  omega
/-! a number of at most two digits -/
def nv (b : Nat → Nat) (n s : Nat) : Nat × Nat := if la_di b n (s + 1) = true then (10 * (b s - 48) + (b (s + 1) - 48), s + 2) else (b s - 48, s + 1)
theorem nv_b {s : Nat} (h : la_di b n s = true) : (nv b n s).1 ≤ 99 ∧ s + 1 ≤ (nv b n s).2 ∧ (nv b n s).2 ≤ n := by
  have h1 := di_lt h
  unfold nv
  by_cases q : la_di b n (s + 1) = true
  · have h2 := di_lt q
    rw [if_pos q]
    dsimp only
    omega
  · rw [if_neg q]
    dsimp only
    omega
theorem lc_dg1 : ∀ x, x < 58 → 48 ≤ x → lc_sg x - 48 = nI (x - 48) := by decide +kernel
theorem at_b {q : Nat} (h : q < n) : lc_at b n q = b q := if_pos h
theorem tp_num (hT : lc_Tp b n S) {q : Nat} (hp : q ≤ n) : (la_di b n (la_sk b n q) = false ∧ f_X10_number 2 (tpS S (nI q) (Int32.ofInt (-1))) = some (0, tpS S (nI (la_sk b n q)) (nI (la_sk b n q)))) ∨ (la_di b n (la_sk b n q) = true ∧ la_di b n (nv b n (la_sk b n q)).2 = true ∧ ∃ x, f_X10_number 2 (tpS S (nI q) (Int32.ofInt (-1))) = some (x, tpS S (nI (nv b n (la_sk b n q)).2) (nI (nv b n (la_sk b n q)).2))) ∨ (la_di b n (la_sk b n q) = true ∧ la_di b n (nv b n (la_sk b n q)).2 = false ∧ f_X10_number 2 (tpS S (nI q) (Int32.ofInt (-1))) = some (nI (nv b n (la_sk b n q)).1, tpS S (nI (nv b n (la_sk b n q)).2) (Int32.ofInt (-1)))) := by
  have hle := lc_by_le hT (p := q)
  have hsk := la_sk_n (b := b) hp
  have h240 := hT.1
  unfold f_X10_number
  rw [tp_peek hT hp, ax_bu_s, lc_isD hle, sn_bs]
  generalize hs : la_sk b n q = s at *
  by_cases d : la_di b n s = true
  · have e1 : 48 ≤ la_by b n q ∧ la_by b n q ≤ 57 := by rw [by_di, hs]; exact d
    obtain ⟨d1, d2, d3⟩ := di_lt d
    have f2 : ax_F = 999996 + 1 + 1 + 1 + 1 := rfl
    have c0 : ¬ ((2 : Int32) ≤ 0) := by decide
    have c1 : ¬ ((2 : Int32) ≤ 0 + 1) := by decide
    have c2 : (2 : Int32) ≤ 0 + 1 + 1 := by decide
    have h0 : f_X10_isDigit (lc_sg (lc_at b n s)) (tpS S (nI s) (Int32.ofInt (-1))) = some 1 := by
      rw [at_b d1, lc_isD (by omega), if_pos ⟨d2, d3⟩]
    have a0 : (0 : Int32) * 10 + (lc_sg (lc_at b n s) - 48) = nI (b s - 48) := by
      rw [at_b d1, lc_dg1 (b s) (by omega) d2]
      have : (0 : Int32) * 10 = nI 0 := by decide
      rw [this, nI_add, Nat.zero_add]
    rw [if_pos e1, if_neg ne10, f2, f_X10_number_L20, if_neg c0, tp_here hT (by omega), sn_bs, h0, sn_bs, if_neg ne10, sn_bs, sn_let, a0, tp_2, nI_1, tp_s2, sn_let, sn_let, f_X10_number_L20, if_neg c1, tp_here hT (by omega), sn_bs]
    have fin : ∀ v e, e ≤ n → (la_di b n e = true ∧ ∃ x, (f_X10_here (tpS S (nI e) (Int32.ofInt (-1)))).bind (fun (r36 : Int32) => (f_X10_isDigit r36 (tpS S (nI e) (Int32.ofInt (-1)))).bind (fun (r40 : Int32) => (if r40 = (0 : Int32) then some (nI v, tpS S (nI e) (Int32.ofInt (-1))) else (f_X10_fail (tpS S (nI e) (Int32.ofInt (-1)))).bind (fun (S42 : AS) => some (nI v, S42))))) = some (x, tpS S (nI e) (nI e))) ∨ (la_di b n e = false ∧ (f_X10_here (tpS S (nI e) (Int32.ofInt (-1)))).bind (fun (r36 : Int32) => (f_X10_isDigit r36 (tpS S (nI e) (Int32.ofInt (-1)))).bind (fun (r40 : Int32) => (if r40 = (0 : Int32) then some (nI v, tpS S (nI e) (Int32.ofInt (-1))) else (f_X10_fail (tpS S (nI e) (Int32.ofInt (-1)))).bind (fun (S42 : AS) => some (nI v, S42))))) = some (nI v, tpS S (nI e) (Int32.ofInt (-1)))) := fun v e he => by
      rw [tp_here hT he, sn_bs, lc_isD (lc_at_le hT), sn_bs]
      by_cases z : la_di b n e = true
      · refine .inl ⟨z, nI v, ?_⟩
        rw [if_pos (lc_at_d.mpr z), if_neg ne10, tp_fail, sn_bs]
      · refine .inr ⟨by simpa using z, ?_⟩
        rw [if_neg (fun w => z (lc_at_d.mp w)), if_pos rfl]
    rw [lc_isD (lc_at_le hT), sn_bs]
    by_cases d' : la_di b n (s + 1) = true
    · obtain ⟨d4, d5, d6⟩ := di_lt d'
      have en : nv b n s = (10 * (b s - 48) + (b (s + 1) - 48), s + 2) := by unfold nv; rw [if_pos d']
      have a1 : nI (b s - 48) * 10 + (lc_sg (lc_at b n (s + 1)) - 48) = nI (10 * (b s - 48) + (b (s + 1) - 48)) := by
        rw [at_b d4, lc_dg1 (b (s + 1)) (by omega) d5, sn_10, pk_mul, nI_add, Nat.mul_comm]
      rw [if_pos (lc_at_d.mpr d'), if_neg ne10, sn_bs, sn_let, a1, tp_2, nI_1, tp_s2, sn_let, sn_let, f_X10_number_L20, if_pos c2, en]
      rcases fin (10 * (b s - 48) + (b (s + 1) - 48)) (s + 2) (by omega) with w | w
      · exact .inr (.inl ⟨d, w.1, w.2⟩)
      · exact .inr (.inr ⟨d, w.1, w.2⟩)
    · have en : nv b n s = (b s - 48, s + 1) := by unfold nv; rw [if_neg d']
      rw [if_neg (fun w => d' (lc_at_d.mp w)), if_pos rfl, en]
      have w0 := fin (b s - 48) (s + 1) (by omega)
      rw [tp_here hT (q := s + 1) (by omega)] at w0
      rcases w0 with w | w
      · exact .inr (.inl ⟨d, w.1, w.2⟩)
      · exact .inr (.inr ⟨d, w.1, w.2⟩)
  · refine .inl ⟨by simpa using d, ?_⟩
    have e1 : ¬ (48 ≤ la_by b n q ∧ la_by b n q ≤ 57) := by rw [by_di, hs]; exact d
    rw [if_neg e1, if_pos rfl, tp_fail, sn_bs]
end

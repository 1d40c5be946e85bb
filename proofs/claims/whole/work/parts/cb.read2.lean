/-! TEXTS: numbers of the reference, whether it goes on, letters -/
section
variable {S T : AS} {b : Nat → Nat} {n i A : Nat} {p φ v : Int32}
theorem lr_dg1 : ∀ x, x < 58 → 48 ≤ x → lr_sg x - 48 = nI (x - 48) := by decide +kernel
theorem tq_here (hT : lr_Tp b n T i A) {q : Nat} (hp : q < n) : f_X12_here (tpT T (nI q) φ) = some (nI (b q)) := by
  obtain ⟨t1, t2, t3, t4, t5, t6, t7, t8⟩ := hT
  have hb := t8 q hp
  have e9 : ax_fi (tpT T (nI q) φ) 12 0 9 = nI n := (tq_fi (by omega) (by omega)).trans t2
  have e8 : ax_fi (tpT T (nI q) φ) 12 0 8 = nI A := (tq_fi (by omega) (by omega)).trans t3
  have ex : ax_fx (tpT T (nI q) φ) 12 0 5 = i := t4
  have el : ax_ln (tpT T (nI q) φ) 44 i = ax_ln T 44 i := rfl
  unfold f_X12_here
  rw [e9, e8, ex, tq_10, if_neg (fun z => absurd ((nI_leI (by omega) (by omega)).mp z) (by omega)), el, nI_add, sn_in (by omega) (by omega), sn_gd, nI_clamp (n := A + q) (by omega), tq_ai, t7 q hp, lr_b255 (b q) (by omega)]
  rfl
theorem tq_num (hT : lr_Tp b n T i A) {q lo hi : Nat} (hp : q ≤ n) (hlo : lo < 1000) (hhi : hi < 1000) : (la_di b n (la_sk b n q) = false ∧ f_X12_number (nI lo) (nI hi) (tpT T (nI q) (Int32.ofInt (-1))) = some (0, tpT T (nI (la_sk b n q)) (nI (la_sk b n q)))) ∨ (la_di b n (la_sk b n q) = true ∧ la_di b n (nv b n (la_sk b n q)).2 = true ∧ f_X12_number (nI lo) (nI hi) (tpT T (nI q) (Int32.ofInt (-1))) = some (0, tpT T (nI (nv b n (la_sk b n q)).2) (nI (nv b n (la_sk b n q)).2))) ∨ (la_di b n (la_sk b n q) = true ∧ la_di b n (nv b n (la_sk b n q)).2 = false ∧ ((¬ (lo ≤ (nv b n (la_sk b n q)).1 ∧ (nv b n (la_sk b n q)).1 ≤ hi) ∧ f_X12_number (nI lo) (nI hi) (tpT T (nI q) (Int32.ofInt (-1))) = some (nI (nv b n (la_sk b n q)).1, tpT T (nI ((nv b n (la_sk b n q)).2 - 1)) (nI ((nv b n (la_sk b n q)).2 - 1)))) ∨ ((lo ≤ (nv b n (la_sk b n q)).1 ∧ (nv b n (la_sk b n q)).1 ≤ hi) ∧ f_X12_number (nI lo) (nI hi) (tpT T (nI q) (Int32.ofInt (-1))) = some (nI (nv b n (la_sk b n q)).1, tpT T (nI (nv b n (la_sk b n q)).2) (Int32.ofInt (-1)))))) := by
  have hle := lr_by_le hT (p := q)
  have hsk := la_sk_n (b := b) hp
  have h240 := hT.1
  unfold f_X12_number
  rw [tq_look hT hp, ax_bu_s]
  have hby : la_di b n (la_sk b n q) = true → la_by b n q = b (la_sk b n q) := fun d => by
    unfold la_by
    rw [if_pos (di_lt d).1]
  generalize hs : la_sk b n q = s at *
  rw [tq_isD hT (by omega), sn_bs]
  by_cases d : la_di b n s = true
  · obtain ⟨d1, d2, d3⟩ := di_lt d
    have hn := nv_b d
    have a0 : lr_sg (la_by b n q) - 48 = nI (b s - 48) := by rw [hby d, lr_dg1 _ (by omega) d2]
    rw [if_pos d, if_neg ne10, a0, sn_let, tq_10, nI_1, tq_s10, sn_let, tq_isD hT (by omega), sn_bs, sn_let]
    have fin : ∀ w e, w ≤ 99 → 1 ≤ e → e ≤ n → (la_di b n e = true ∧ (f_X12_isDigit (tpT T (nI e) (Int32.ofInt (-1)))).bind (fun (r22 : Int32) => (if r22 = (0 : Int32) then (f_X12_isIn ((nI w).toInt64) ((nI lo).toInt64) ((nI hi).toInt64) (tpT T (nI e) (Int32.ofInt (-1)))).bind (fun (r27 : Int32) => (if r27 = (0 : Int32) then ax_let (ax_sfi (tpT T (nI e) (Int32.ofInt (-1))) 12 0 10 ((ax_fi (tpT T (nI e) (Int32.ofInt (-1))) 12 0 10) - (1 : Int32))) (fun (S29 : AS) => ax_bu (f_X12_fails S29) (fun (r33 : Int32) (S30 : AS) => some (nI w, S30))) else some (nI w, tpT T (nI e) (Int32.ofInt (-1))))) else ax_bu (f_X12_fails (tpT T (nI e) (Int32.ofInt (-1)))) (fun (r37 : Int32) (S34 : AS) => some ((0 : Int32), S34)))) = some (0, tpT T (nI e) (nI e))) ∨ (la_di b n e = false ∧ ((¬ (lo ≤ w ∧ w ≤ hi) ∧ (f_X12_isDigit (tpT T (nI e) (Int32.ofInt (-1)))).bind (fun (r22 : Int32) => (if r22 = (0 : Int32) then (f_X12_isIn ((nI w).toInt64) ((nI lo).toInt64) ((nI hi).toInt64) (tpT T (nI e) (Int32.ofInt (-1)))).bind (fun (r27 : Int32) => (if r27 = (0 : Int32) then ax_let (ax_sfi (tpT T (nI e) (Int32.ofInt (-1))) 12 0 10 ((ax_fi (tpT T (nI e) (Int32.ofInt (-1))) 12 0 10) - (1 : Int32))) (fun (S29 : AS) => ax_bu (f_X12_fails S29) (fun (r33 : Int32) (S30 : AS) => some (nI w, S30))) else some (nI w, tpT T (nI e) (Int32.ofInt (-1))))) else ax_bu (f_X12_fails (tpT T (nI e) (Int32.ofInt (-1)))) (fun (r37 : Int32) (S34 : AS) => some ((0 : Int32), S34)))) = some (nI w, tpT T (nI (e - 1)) (nI (e - 1)))) ∨ ((lo ≤ w ∧ w ≤ hi) ∧ (f_X12_isDigit (tpT T (nI e) (Int32.ofInt (-1)))).bind (fun (r22 : Int32) => (if r22 = (0 : Int32) then (f_X12_isIn ((nI w).toInt64) ((nI lo).toInt64) ((nI hi).toInt64) (tpT T (nI e) (Int32.ofInt (-1)))).bind (fun (r27 : Int32) => (if r27 = (0 : Int32) then ax_let (ax_sfi (tpT T (nI e) (Int32.ofInt (-1))) 12 0 10 ((ax_fi (tpT T (nI e) (Int32.ofInt (-1))) 12 0 10) - (1 : Int32))) (fun (S29 : AS) => ax_bu (f_X12_fails S29) (fun (r33 : Int32) (S30 : AS) => some (nI w, S30))) else some (nI w, tpT T (nI e) (Int32.ofInt (-1))))) else ax_bu (f_X12_fails (tpT T (nI e) (Int32.ofInt (-1)))) (fun (r37 : Int32) (S34 : AS) => some ((0 : Int32), S34)))) = some (nI w, tpT T (nI e) (Int32.ofInt (-1)))))) := fun w e hw h1 he => by
      have i1 : (nI lo).toInt64.toInt = (lo : Int) := by rw [Int32.toInt_toInt64, nIi (by omega)]
      have i2 : (nI hi).toInt64.toInt = (hi : Int) := by rw [Int32.toInt_toInt64, nIi (by omega)]
      rw [tq_isD hT he, sn_bs]
      by_cases z : la_di b n e = true
      · refine .inl ⟨z, ?_⟩
        rw [if_pos z, if_neg ne10, tq_fails, ax_bu_s]
      · refine .inr ⟨by simpa using z, ?_⟩
        rw [if_neg z, if_pos rfl, ii, i1, i2, nIi (by omega)]
        by_cases r : lo ≤ w ∧ w ≤ hi
        · refine .inr ⟨r, ?_⟩
          rw [if_pos (by omega), sn_bs, if_neg ne10]
        · refine .inl ⟨r, ?_⟩
          rw [if_neg (fun z => r (by omega)), sn_bs, if_pos rfl, tq_10, sn_1, pk_sub h1, tq_s10, sn_let, tq_fails, ax_bu_s]
    by_cases d' : la_di b n (s + 1) = true
    · obtain ⟨d4, d5, d6⟩ := di_lt d'
      have en : nv b n s = (10 * (b s - 48) + (b (s + 1) - 48), s + 2) := by unfold nv; rw [if_pos d']
      have a1 : (10 : Int32) * nI (b s - 48) + nI (b (s + 1)) - 48 = nI (10 * (b s - 48) + (b (s + 1) - 48)) := by
        have e48 : (48 : Int32) = nI 48 := Eq.trans rfl rfl
        rw [sn_10, pk_mul, nI_add, e48, pk_sub (by omega), (by omega : 10 * (b s - 48) + b (s + 1) - 48 = 10 * (b s - 48) + (b (s + 1) - 48))]
      rw [if_pos d', if_neg ne10, tq_here hT d4, sn_bs, a1, sn_let, tq_10, nI_1, tq_s10, sn_let, en]
      rcases fin (10 * (b s - 48) + (b (s + 1) - 48)) (s + 2) (by omega) (by omega) (by omega) with w | w
      · exact .inr (.inl ⟨d, w.1, w.2⟩)
      · exact .inr (.inr ⟨d, w.1, w.2⟩)
    · have en : nv b n s = (b s - 48, s + 1) := by unfold nv; rw [if_neg d']
      rw [if_neg d', if_pos rfl, en]
      rcases fin (b s - 48) (s + 1) (by omega) (by omega) (by omega) with w | w
      · exact .inr (.inl ⟨d, w.1, w.2⟩)
      · exact .inr (.inr ⟨d, w.1, w.2⟩)
  · refine .inl ⟨by simpa using d, ?_⟩
    rw [if_neg d, if_pos rfl, tq_fails, ax_bu_s]
theorem tp_fld {e : Nat} (h : 1 ≤ e) : f_X10_failAtLastDigit (tpS S (nI e) (Int32.ofInt (-1))) = some (tpS S (nI e) (nI (e - 1))) := by
  unfold f_X10_failAtLastDigit
  rw [tp_3, if_pos rfl, tp_2, sn_1, pk_sub h, tp_s3, sn_let]
/-- whether it goes on behind a ; -/
theorem tp_go (hT : lc_Tp b n S) {q : Nat} (hp : q ≤ n) : (la_by b n q = 59 ∧ la_sk b n q < n ∧ f_X10_goesOn (tpS S (nI q) (Int32.ofInt (-1))) = some (1, tpS S (nI (la_sk b n q + 1)) (Int32.ofInt (-1)))) ∨ (la_by b n q = 256 ∧ f_X10_goesOn (tpS S (nI q) (Int32.ofInt (-1))) = some (0, tpS S (nI (la_sk b n q)) (Int32.ofInt (-1)))) ∨ (la_by b n q ≠ 59 ∧ la_by b n q ≠ 256 ∧ f_X10_goesOn (tpS S (nI q) (Int32.ofInt (-1))) = some (0, tpS S (nI (la_sk b n q)) (nI (la_sk b n q)))) := by
  have hle := lc_by_le hT (p := q)
  have hsk := la_sk_n (b := b) hp
  have h240 := hT.1
  have hby2 : la_by b n (la_sk b n q) = la_by b n q := lc_by_sk
  unfold f_X10_goesOn
  rw [tp_peek hT hp, ax_bu_s]
  by_cases q1 : la_by b n q = 59
  · have hlt : la_sk b n q < n := by
      unfold la_by at q1
      by_cases z : la_sk b n q < n
      · exact z
      · rw [if_neg z] at q1; omega
    have n0 : ¬ (lc_sg (la_by b n q) = 0) := by rw [q1]; decide
    refine .inl ⟨q1, hlt, ?_⟩
    rw [if_neg n0, tp_dem hT (q := la_sk b n q) (x := 59) (by omega) (by rw [hby2]; exact q1) (by omega) (by decide), sn_bs, la_sk_s, tp_failed0, sn_bs, if_pos rfl]
  · by_cases q2 : la_by b n q = 256
    · refine .inr (.inl ⟨q2, ?_⟩)
      have z0 : lc_sg (la_by b n q) = 0 := by rw [q2]; decide
      rw [if_pos z0]
    · refine .inr (.inr ⟨q1, q2, ?_⟩)
      have n0 : ¬ (lc_sg (la_by b n q) = 0) := by
        intro z
        have hb : 1 ≤ la_by b n q := by
          unfold la_by
          by_cases w : la_sk b n q < n
          · rw [if_pos w]; exact (hT.2.2.2 _ w).1
          · rw [if_neg w]; omega
        have : la_by b n q % 256 = 0 := by
          have := la_inj (p := la_by b n q % 256) (q := 0) (by omega) (by omega) z
          exact this
        omega
      have n59 : lc_sg (la_by b n (la_sk b n q)) ≠ 59 := by
        rw [hby2]
        exact lc_ne 59 hle q1 (by omega) (by omega)
      rw [if_neg n0, tp_demF hT (q := la_sk b n q) (by omega) n59, sn_bs, la_sk_s, tp_failed1 (m1 (by omega)), sn_bs, if_neg ne10]
theorem tp_goD (h : φ ≠ Int32.ofInt (-1)) : f_X10_goesOn (tpS S p φ) = some (0, tpS S p φ) := by
  unfold f_X10_goesOn
  rw [tp_peekD h, ax_bu_s, if_pos rfl]
end

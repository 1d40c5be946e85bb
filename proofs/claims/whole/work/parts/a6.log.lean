/-! QUERIES: log. The class keeps days in a ring of 100, the reference the last 60 in a row -/
theorem fx_xor (a b : Nat) : nI a ^^^ nI b = nI (a ^^^ b) := Int32.toBitVec_inj.mp (by
  show BitVec.ofNat 32 a ^^^ BitVec.ofNat 32 b = BitVec.ofNat 32 (a ^^^ b)
  exact BitVec.ofNat_xor.symm)
theorem fm {n : Nat} (h : n < 2 ^ 31) {S : AS} : f_J9_floorMod_7cf53 (nI n) 100 S = some (nI (n % 100)) := by
  have e : (0 : Int32) ≤ nI n ^^^ 100 := by
    rw [sn_100, fx_xor, sn_0]
    exact (nI_leI (by omega) (Nat.xor_lt_two_pow (n := 31) h (by omega))).mpr (Nat.zero_le _)
  have nz : ax_nz (100 : Int32) = true := by decide
  unfold f_J9_floorMod_7cf53
  rw [nz, sn_gd, sn_let, if_pos e, sn_100, pk_rem h (by omega) (by omega)]
def jl_c (S : AS) (i day : Nat) (Lg : Nat → Nat) : Prop := ∀ d, d < day → day ≤ d + 60 → ∀ w, w < 3 → ax_ai S 23 i (d % 100 * 3 + w) = nI (Lg (3 * d + w))
def jl_r (R : Nat → Int32) (day : Nat) (Lg : Nat → Nat) : Prop := R 23 = nI (min 60 day) ∧ ∀ p, p < min 60 day → ∀ w, w < 3 → R (24 + 3 * p + w) = nI (Lg (3 * (day - min 60 day + p) + w))
section
variable {S T S1 T1 : AS} {o : Nat} {H N : Nat → Nat} {W : Option (List la_C)} {M : Nat} {K : Nat → List la_C} {Lg : Nat → Nat}
theorem lg_read {i n w : Nat} (h : n < 2 ^ 31) (hw : w < 3) : f_X2_read i (nI n) (nI w) S = some (ax_ai S 23 i (n % 100 * 3 + w)) := by
  have c3 : ((3 : Int32) ≤ nI w) ↔ 3 ≤ w := nI_leI (a := 3) (by omega) (by omega)
  have ix : nI (n % 100) * (3 : Int32) + nI w = nI (n % 100 * 3 + w) := by rw [sn_3, pk_mul, nI_add]
  unfold f_X2_read
  rw [sn_let, if_neg (nI_pos (by omega)), if_neg (fun z => absurd (c3.mp z) (by omega))]
  dsimp only
  rw [if_neg ne10, fm h, sn_bs, ix, sn_in (by omega) (by omega), sn_gd, nI_clamp (n := n % 100 * 3 + w) (by omega)]
theorem q_log (h : jq o H N W M K S T) (hz : H 4 = 0 → N 22 = 0) (hc : jl_c S 0 (N 22) Lg) (hr : jl_r (ax_ai T 55 0) (N 22) Lg) (a b : Int32) : qo H W M K T (f_X11_log a b S) (f_X12_log a b T) := by
  have h1 := jq_thr (v := 0) h
  have h22 : N 22 ≤ 999 := h.2.1.2.2.2.2.2.2.2.2.2.2
  have e7 : ax_fi S 9 0 7 = nI (N 22) := h.2.2.2.1.2.2.2.2.2.2.2.1
  have el : f_X2_lengthOn (ax_fi S 9 0 7) S = some (nI (min 60 (N 22))) := by
    unfold f_X2_lengthOn
    rw [e7, sn_60, sn_mn (by omega) (by omega), sn_bs]
  have r23 : ax_ai (ax_sfi T 12 0 0 0) 55 0 23 = nI (min 60 (N 22)) := hr.1
  have r24 : ∀ p, p < min 60 (N 22) → ∀ w, w < 3 → ax_ai (ax_sfi T 12 0 0 0) 55 0 (24 + 3 * p + w) = nI (Lg (3 * (N 22 - min 60 (N 22) + p) + w)) := hr.2
  have q6 : (nI (min 60 (N 22)) - 1).toInt64.toInt = ((min 60 (N 22) : Nat) : Int) - 1 := by
    rcases Nat.eq_zero_or_pos (min 60 (N 22)) with u | u
    · rw [u]; rfl
    · rw [sn_1, pk_sub (by omega), Int32.toInt_toInt64, nIi (by omega)]
      omega
  have hm : min 60 (N 22) ≤ 60 ∧ min 60 (N 22) ≤ N 22 := by omega
  unfold f_X11_log f_X12_log
  rw [sn_let, jc_noHo h.2.2.1.1 h.1, sn_bs, in_23, sn_gd, sn_gd, cl_23, r23]
  refine qo_tr (jr_thr (v := 0)) ?_
  by_cases q0 : H 4 = 0
  · have m0 : min 60 (N 22) = 0 := by have := hz q0; omega
    rw [if_pos q0, if_neg ne10, ii, q6, m0, i_0, if_neg (fun z => by omega), sn_bs, if_pos rfl]
    exact qo_none h1
  · rw [if_neg q0, if_pos rfl, el, sn_bs, e7]
    generalize hg : min 60 (N 22) = m at *
    rcases pk_ix a (n := m) (by omega) with q | q | ⟨j, q1, rfl⟩
    · have q3 : a.toInt < ((0 : Nat) : Int) := (lt_i (L := 0) rfl).mp q
      rw [if_pos q, ii, i_0, if_neg (fun z => by omega), sn_bs, if_pos rfl]
      exact qo_none h1
    · have q4 : ((m : Nat) : Int) ≤ a.toInt := by
        have := Int32.le_iff_toInt_le.mp q
        rw [nIi (by omega)] at this
        exact this
      have q5 : ¬ (a < 0) := fun z => by
        have q3 : a.toInt < ((0 : Nat) : Int) := (lt_i (L := 0) rfl).mp z
        omega
      rw [if_neg q5, if_pos q, ii, q6, if_neg (fun z => by omega), sn_bs, if_pos rfl]
      exact qo_none h1
    · have q7 : (nI j).toInt = (j : Int) := nIi (by omega)
      have e5 : f_X12_isIn (nI j).toInt64 0 (nI m - 1).toInt64 (ax_sfi T 12 0 0 0) = some 1 := by rw [ii, q6, i_0, q7, if_pos (by omega)]
      rw [if_neg (nI_pos (by omega)), if_neg (fun z => absurd ((nI_leI (by omega) (by omega)).mp z) (by omega)), e5, sn_bs, if_neg ne10]
      rcases rc (u := 2) (by omega) i_2 rfl b with ⟨w, w1, rfl, g1, g2, e⟩ | ⟨g, e⟩
      · have ix : (24 : Int32) + (3 : Int32) * (nI m - 1 - nI j) + nI w = nI (24 + 3 * (m - 1 - j) + w) := by rw [sn_24, sn_3, sn_1, pk_sub (by omega), pk_sub (by omega), pk_mul, nI_add, nI_add]
        have iy : nI (N 22) - 1 - nI j = nI (N 22 - 1 - j) := by rw [sn_1, pk_sub (by omega), pk_sub (by omega)]
        rw [if_neg g1, if_pos g2, e, sn_bs, if_neg ne10, ix, iy, lg_read (by omega) (by omega), sn_bs, sn_in (by omega) (by omega), sn_gd, nI_clamp (n := 24 + 3 * (m - 1 - j) + w) (by omega), r24 (m - 1 - j) (by omega) w (by omega), hc (N 22 - 1 - j) (by omega) (by omega) w (by omega), (by omega : N 22 - m + (m - 1 - j) = N 22 - 1 - j)]
        exact qo_none h1
      · rw [e, sn_bs, if_pos rfl]
        rcases g with g | ⟨g1, g2⟩
        · rw [if_pos g]; exact qo_none h1
        · rw [if_neg g1, if_neg g2]; exact qo_none h1
end

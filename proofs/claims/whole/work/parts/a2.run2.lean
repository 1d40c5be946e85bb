/-! QUERIES: run, put together; step -/
def qs (H : Nat → Nat) (W : Option (List la_C)) (M : Nat) (K : Nat → List la_C) (S T : AS) (x y : Option (Int32 × AS)) : Prop := ∃ r S' T', x = some (r, S') ∧ y = some (r, T') ∧ jc_st S S' 1 ∧ jr_st (ax_sfi T 12 0 0 0) T' 56 ∧ jr_C T' H M K W
section
variable {S T S1 T1 : AS} {o : Nat} {H N : Nat → Nat} {W : Option (List la_C)} {M : Nat} {K : Nat → List la_C} {c : Nat} {L E : Nat → Nat}
theorem jp_thr (h : jp S T c L E) {v : Int32} : jp S (ax_sfi T 12 0 0 v) c L E := by
  obtain ⟨a, b, d, e⟩ := h
  refine ⟨a, b, ?_, e⟩
  rw [sg, if_neg (by omega)]; exact d
theorem jp_plan (h : jp S T c L E) (a : Int32) : (∃ k, k < c ∧ a = nI k ∧ f_X11_noSuchAfternoon a S = some 0 ∧ f_X12_isPlan a T = some 1) ∨ (f_X11_noSuchAfternoon a S = some 1 ∧ f_X12_isPlan a T = some 0) := by
  have h4 := h.1
  unfold f_X11_noSuchAfternoon f_X12_isPlan
  rw [h.2.1, h.2.2.1]
  rcases pk_ix a (n := c) (by omega) with q | q | ⟨j, h1, h2⟩
  · exact .inr ⟨if_pos q, if_pos q⟩
  · have q2 : ¬ (a < nI c) := fun z => Int32.lt_irrefl (Int32.lt_of_lt_of_le z q)
    refine .inr ⟨?_, ?_⟩
    · rw [if_neg q2]
      split <;> rfl
    · rw [if_pos q]
      split <;> rfl
  · refine .inl ⟨j, h1, h2, ?_, ?_⟩
    · rw [h2, if_neg (nI_pos (by omega)), if_pos ((nI_ltI (by omega) (by omega)).mpr h1)]
    · rw [h2, if_neg (nI_pos (by omega)), if_neg (fun z => absurd ((nI_leI (by omega) (by omega)).mp z) (by omega))]
theorem qs_none (h : jq o H N W M K S T) {r : Int32} : qs H W M K S T (some (r, S)) (some (r, ax_sfi T 12 0 0 0)) := ⟨r, S, _, rfl, rfl, jc_st.rf, jr_st.rf, jr_C_thr h.2.2.2.2.1⟩
theorem q_run (h : jq o H N W M K S T) (hp : jp S T c L E) (a b : Int32) : qs H W M K S T (f_X11_run a b S) (f_X12_run a b T) := by
  have h1 := jq_thr (v := 0) h
  have hp1 : jp S (ax_sfi T 12 0 0 0) c L E := jp_thr hp
  have hc := hp.1
  have c0 : (b < 0) ↔ b.toInt < ((0 : Nat) : Int) := lt_i rfl
  have c1 : (b ≤ 1) ↔ b.toInt ≤ ((1 : Nat) : Int) := le_i rfl
  unfold f_X11_run f_X12_run
  rw [sn_let, jc_noH h, sn_bs]
  by_cases h0 : H 4 = 0
  · rw [if_pos h0, if_neg ne10]
    rcases jp_plan hp1 a with ⟨k, hk, rfl, e1, e2⟩ | ⟨e1, e2⟩
    · rw [e2, sn_bs, if_neg ne10, if_pos ((jr_no0 h1).mpr h0)]
      exact qs_none h
    · rw [e2, sn_bs, if_pos rfl]
      exact qs_none h
  · rw [if_neg h0, if_pos rfl]
    rcases jp_plan hp1 a with ⟨k, hk, rfl, e1, e2⟩ | ⟨e1, e2⟩
    · rw [e1, sn_bs, if_pos rfl, e2, sn_bs, if_neg ne10, if_neg (fun z => h0 ((jr_no0 h1).mp z))]
      rcases rg i_0 i_1 b with ⟨n, n1, n2, rfl, q⟩ | ⟨n1, q⟩
      · rw [nIi (by omega)] at c0 c1
        obtain ⟨Z, z1, z2, z3⟩ := jc_copy (i := 1) (j := 0) h1.2.2.2.1 (by omega)
        obtain ⟨Y, y1, y2, y3, y4, y5⟩ := jr_copy (H := H) (W := W) (M := M) (K := K) h1.2.2.2.2.2
        have hpZ : jp Z Y c L E := jp_st hp1 (.inr rfl) z3 y4
        have hu : ju 1 56 o H N W M K Z Y := ⟨h.1, h.2.1, jc_C_st z3 h1.2.2.1, z2, y5 h1.2.2.2.2.1, y2⟩
        obtain ⟨p, N', S2, T2, w0, w1, w2, w3, w4, w5, w6⟩ := q_runL (b := nI n) (Kc := (fun (x20 : Int32) (x21 : Nat) (x22 : Int32) (S53 : AS) => (if x20 = (1 : Int32) then some (((ax_fi S53 9 1 5) - (ax_fi S53 9 0 5)), S53) else (if x22 = (ax_fi S53 0 x21 2) then some ((Int32.ofInt (-1)), S53) else some (x22, S53))))) (Kr := (fun (x19 : Int32) (x20 : Int32) (x21 : Int32) (S34 : AS) => (if x20 = (1 : Int32) then ax_gd (ax_in (19 : Int32) 204) (ax_gd (ax_in (19 : Int32) 204) (some (((ax_ai S34 56 0 (19 : Int32).toNatClampNeg) - (ax_ai S34 55 0 (19 : Int32).toNatClampNeg)), S34))) else ax_gd (ax_in x19 5) ((if x21 = (ax_ai S34 54 0 x19.toNatClampNeg) then some ((Int32.ofInt (-1)), S34) else some (x21, S34)))))) hk (by omega) (L k) ax_F 0 0 N Z Y hu hpZ y3 (by omega) (by omega) (by have := (hp.2.2.2 k hk).1; show _ < 1000000; omega)
        rw [← sn_0] at w1 w2
        have fs := z3.tr w3
        have ft' := y4.tr w4
        obtain ⟨l1, l2, l3, _⟩ := w6.2.2.2 k hk
        rw [q, sn_bs, if_neg (fun z => absurd (c0.mp z) (by omega)), if_pos (c1.mpr (by omega)), if_neg ne10, sn_in (by omega) (by omega), sn_gd, z1, sn_bs, nI_clamp (by omega), w1, y1, sn_bs, w2, l2]
        rcases (by omega : n = 0 ∨ n = 1) with rfl | rfl
        · have n01 : ¬ (nI 0 = (1 : Int32)) := by decide
          rw [if_neg n01, if_neg n01, sn_in (by omega) (by omega), sn_gd, nI_clamp (by omega), l3]
          by_cases ep : nI p = nI (L k)
          · rw [if_pos ep, if_pos ep]
            exact ⟨_, S2, T2, rfl, rfl, fs, ft', w5.2.2.2.2.1⟩
          · rw [if_neg ep, if_neg ep]
            exact ⟨_, S2, T2, rfl, rfl, fs, ft', w5.2.2.2.2.1⟩
        · have n11 : nI 1 = (1 : Int32) := by decide
          have a0 : ax_fi S2 9 0 5 = nI (N 19) := (jc_S_st fs (by omega) h1.2.2.2.1).2.2.2.2.2.1
          have a1 : ax_fi S2 9 1 5 = nI (N' 19) := w5.2.2.2.1.2.2.2.2.2.1
          have b0 : ax_ai T2 55 0 19 = nI (N 19) := by
            rw [ft'.2.2.2.2.1 55 0 (by omega) (by omega) (by omega)]
            exact h1.2.2.2.2.2 19 (by omega)
          have b1 : ax_ai T2 56 0 19 = nI (N' 19) := w5.2.2.2.2.2 19 (by omega)
          rw [if_pos n11, if_pos n11, a0, a1, in_19, sn_gd, sn_gd, cl_19, b0, b1]
          exact ⟨_, S2, T2, rfl, rfl, fs, ft', w5.2.2.2.2.1⟩
      · rw [q, sn_bs, if_pos rfl]
        by_cases z : b < 0
        · rw [if_pos z]; exact qs_none h
        · rw [if_neg z, if_neg (fun z2 => by have := c1.mp z2; have w : ¬ (b.toInt < ((0 : Nat) : Int)) := fun w => z (c0.mpr w); omega)]
          exact qs_none h
    · rw [e1, sn_bs, if_neg ne10, e2, sn_bs, if_pos rfl]
      exact qs_none h
end

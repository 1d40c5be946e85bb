/-! CASE 6: the turn keeps the invariant; every turn -/
section
variable {S T Z : AS} {l : Launch} {a4 : Int32} {j : Nat} {x : Int64} {v : Int32}
theorem al_s {k i : Nat} : ax_al (ax_sal S k i j x) k i j = x := by
  show (if k = k ∧ i = i ∧ j = j then x else S.2.2.2.2.2 k i j) = x
  exact if_pos ⟨rfl, rfl, rfl⟩
theorem al_o : ax_al (ax_sal T 63 0 j x) 57 0 = ax_al T 57 0 := by
  funext q
  show (if 57 = 63 ∧ 0 = 0 ∧ q = j then x else T.2.2.2.2.2 57 0 q) = T.2.2.2.2.2 57 0 q
  exact if_neg (fun z => absurd z.1 (by decide))
theorem sal_T (h : jI S T) : jI S (ax_sal T 63 0 j x) := by
  obtain ⟨o, H, N, W, M, K, c, L, E, cn, Q, im, NI, LI, hI, tn, tb, wh, n, ca, P, Lg, hi, hR, hC, hA⟩ := h
  exact jI_g hR hA ⟨cg0.rf, cg1.rf⟩ ⟨⟨fun _ _ => rfl, rfl, fun _ _ => rfl, fun _ _ => rfl, rfl, rfl⟩, ⟨rfl, rfl, rfl⟩⟩ (jr_C_e (T := T) (Y := ax_sal T 63 0 j x) rfl rfl rfl rfl rfl rfl rfl rfl rfl rfl al_o hC)
theorem th_T (h : jI S T) : jI S (ax_sfi T 12 0 0 v) := by
  obtain ⟨o, H, N, W, M, K, c, L, E, cn, Q, im, NI, LI, hI, tn, tb, wh, n, ca, P, Lg, hi, hR, hC, hA⟩ := h
  have g : rgC T (ax_sfi T 12 0 0 v) H M K W := rg_th
  exact jI_g hR hA ⟨cg0.rf, cg1.rf⟩ ⟨g.1, g.2.1⟩ (g.2.2 hC)
theorem caller_I (h : jI S T) (a b : Int32) : (∃ r, f_X11_caller a b S = some r ∧ f_X12_caller a b T = some (r, ax_sfi T 12 0 0 0)) ∨ (xR a b S ∧ f_X12_caller a b T = some (0, ax_sfi T 12 0 0 1)) := by
  obtain ⟨o, H, N, W, M, K, c, L, E, cn, Q, im, NI, LI, hI, tn, tb, wh, n, ca, P, Lg, hi, hR, hC, hA⟩ := h
  rcases q_caller (jI_q hR hC hA) a b with ⟨v, r, _, _, e1, _, _, e2⟩ | ⟨e, h⟩
  · exact .inl ⟨r, e1, e2⟩
  · exact .inr ⟨h, e⟩
theorem ty_6 (hl : l.stackTraces = false) (h : jI S S) (g : gin a4 S) : ∃ Z, R6 l 142 ma_L_law (40, LL a4, [.inl (.int (nI 6))], S) (23, LL (a4 + (6 : Int32)), [], Z) ∧ ks S Z ∧ jI Z Z := by
  rcases caller_I h (ax_rd S 67 0 (a4 + (1 : Int32)).toNatClampNeg) (ax_rd S 67 0 (a4 + (2 : Int32)).toNatClampNeg) with ⟨r, e1, _⟩ | ⟨e1, e2⟩
  · have k1 : ks S (ax_sal S 63 0 (0 : Int32).toNatClampNeg r.toInt64) := ⟨rfl, rfl⟩
    have h1 : jI S (ax_sal S 63 0 (0 : Int32).toNatClampNeg r.toInt64) := sal_T h
    have e3 : f_X12_caller (ax_rd S 67 0 (a4 + (1 : Int32)).toNatClampNeg) (ax_rd S 67 0 (a4 + (2 : Int32)).toNatClampNeg) (ax_sal S 63 0 (0 : Int32).toNatClampNeg r.toInt64) = some (r, ax_sfi (ax_sal S 63 0 (0 : Int32).toNatClampNeg r.toInt64) 12 0 0 0) := by
      rcases caller_I h1 (ax_rd S 67 0 (a4 + (1 : Int32)).toNatClampNeg) (ax_rd S 67 0 (a4 + (2 : Int32)).toNatClampNeg) with ⟨r', q1, q2⟩ | ⟨q1, _⟩
      · rw [e1] at q1
        have hq : r = r' := Option.some.inj q1
        rw [← hq] at q2
        exact q2
      · exfalso
        unfold f_X11_caller at e1
        rcases q1 with n1 | ⟨n1, n2 | ⟨n2, n3⟩⟩
        · rw [n1, sn_bs, if_neg ne10] at e1
          cases e1
        · rw [n1, sn_bs, if_pos rfl, if_pos n2] at e1
          cases e1
        · rw [n1, sn_bs, if_pos rfl, if_neg n2, if_neg n3] at e1
          cases e1
    refine ⟨ax_sfi (ax_sal S 63 0 (0 : Int32).toNatClampNeg r.toInt64) 12 0 0 0, R6.pre (sw_6.tr (c6_a g)) ((c6_call hl (.inl ⟨r, e1, rfl, rfl⟩)).suf ((c6_b (S1 := ax_sal S 63 0 (0 : Int32).toNatClampNeg r.toInt64) g (w := r) (T := ax_sfi (ax_sal S 63 0 (0 : Int32).toNatClampNeg r.toInt64) 12 0 0 0) e3 (by rw [sg, if_pos rfl])).tr (c6_d (.inr (show ax_al (ax_sal S 63 0 (0 : Int32).toNatClampNeg r.toInt64) 63 0 (0 : Int32).toNatClampNeg = r.toInt64 from al_s))))), ⟨rfl, rfl⟩, ?_⟩
    exact jI_S (V := [(5, 63, 0), (0, 12, 0)]) (th_T h1) ((ax_fr_sal (by decide)).tr (ax_fr_sfi (by decide))) (by decide)
  · refine ⟨ax_sfi S 12 0 0 1, R6.pre (sw_6.tr (c6_a g)) ((c6_call hl (.inr ⟨e1, rfl, rfl⟩)).suf ((c6_b g (w := 0) (T := ax_sfi S 12 0 0 1) e2 (by rw [sg, if_pos rfl])).tr (c6_d (.inl (by decide))))), ⟨rfl, rfl⟩, ?_⟩
    exact jI_S (V := [(0, 12, 0)]) (th_T h) (ax_fr_sfi (by decide)) (by decide)
/-- every turn, from the loop's head to it -/
theorem turn (hl : l.stackTraces = false) (h : jI S S) (g : gin a4 S) (g0 : ax_in a4 (ax_fx S 67 0 0) = true) (hc : ¬ (Int32.ofNat (ax_fx S 67 0 0) - (6 : Int32) < a4)) : ∃ Z, R6 l 142 ma_L_law (23, LL a4, [], S) (23, LL (a4 + (6 : Int32)), [], Z) ∧ ks S Z ∧ jI Z Z := by
  rcases ty_all (l := l) h g (ax_rd S 67 0 a4.toNatClampNeg) with e | ⟨Z, z1, z2, z3⟩
  · obtain ⟨Z, z1, z2, z3⟩ := ty_6 (a4 := a4) hl h g
    have hd := hd_in (l := l) hc g0
    rw [e] at hd
    exact ⟨Z, R6.pre hd z1, z2, z3⟩
  · exact ⟨Z, R6.of ((hd_in hc g0).tr z1), z2, z3⟩
end

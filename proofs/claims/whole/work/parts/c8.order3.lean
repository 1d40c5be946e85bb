/-! order keeps the invariant -/
section
variable {S T Z Y S0 T0 : AS} {o M c cn im hI tn wh n ca hi : Nat} {H N L E Q NI LI tb Lg : Nat → Nat} {W : Option (List la_C)} {K : Nat → List la_C} {P : Nat → Nat → Nat}
theorem or_find (hR : jR o H W M K c L E cn Q im NI LI hI tn tb wh S T) (hA : jA H N n ca P Lg hi S T) : ∃ U, og_c H W N U ∧ osr H N 4 U ∧ f_X8_find o 0 S = (g_Extend ax_D 0 (nI (jn_bits N)) (nI 0) (nI 0) (nI (N 16)) (nI 0) (goV U 0 0 (N 16) 0)).bind (fun (S86 : AS) => some S86) := by
  have ho := hR.1
  have h6 : H 4 ≤ 6 := ho.2.2.2.2.1
  have e5 : ax_fi S 4 o 5 = nI (H 4) := hR.2.1.2.2.2.2.2.1
  have f1 : ax_fr w_se S (ax_sfi S 8 0 4 (nI (H 4))) := ax_fr_sfi (by decide)
  obtain ⟨hC1, hS1⟩ := se_C hR hA f1
  have f2 : ax_fr w_se S (ax_sfi (ax_sfi S 8 0 4 (nI (H 4))) 8 0 5 (nI (H 0))) := f1.tr (ax_fr_sfi (by decide))
  obtain ⟨U1, u1, u2, u3, u4⟩ := fi_L24 hR hA (Kc := (fun (x17 : Nat) (x18 : Nat) (S32 : AS) => f_X8_find_L59 (fun (x36 : Nat) (S81 : AS) => ax_let (ax_sfi S81 8 0 6 (0 : Int32)) (fun (S82 : AS) => ax_let (ax_sfi S82 8 0 7 (0 : Int32)) (fun (S83 : AS) => ax_let (ax_sfi S83 8 0 8 (0 : Int32)) (fun (S84 : AS) => ax_let (ax_sfi S84 8 0 9 (ax_fi S84 9 x36 0)) (fun (S85 : AS) => (g_Extend ax_D 0 (ax_fi S85 9 x36 1) (0 : Int32) (0 : Int32) (ax_fi S85 9 x36 0) (0 : Int32) S85).bind (fun (S86 : AS) => some S86)))))) ax_F x17 x18 (0 : Int32) S32)) 4 ax_F 0 (ax_sfi (ax_sfi S 8 0 4 (nI (H 4))) 8 0 5 (nI (H 0))) f2 (fun l hl => absurd hl (by omega)) (by omega) (by show _ < 1000000; omega)
  obtain ⟨U, v1, v2, v3, v4, v5, v6⟩ := fi_L59 hR hA (Kc := (fun (x36 : Nat) (S81 : AS) => ax_let (ax_sfi S81 8 0 6 (0 : Int32)) (fun (S82 : AS) => ax_let (ax_sfi S82 8 0 7 (0 : Int32)) (fun (S83 : AS) => ax_let (ax_sfi S83 8 0 8 (0 : Int32)) (fun (S84 : AS) => ax_let (ax_sfi S84 8 0 9 (ax_fi S84 9 x36 0)) (fun (S85 : AS) => (g_Extend ax_D 0 (ax_fi S85 9 x36 1) (0 : Int32) (0 : Int32) (ax_fi S85 9 x36 0) (0 : Int32) S85).bind (fun (S86 : AS) => some S86))))))) (H 4) ax_F 0 U1 u2 (by rw [u4, sg, if_neg (by omega), sg, if_pos rfl]) (fun l hl => absurd hl (by omega)) (fun w q hwq => absurd hwq.2.2 (by omega)) (by omega) (by show _ < 1000000; omega)
  rw [← sn_0] at u1 v1
  obtain ⟨hCU, hSU⟩ := se_C hR hA v2
  refine ⟨U, ⟨?_, ?_, v3, v4⟩, ?_, ?_⟩
  · rw [v5, u4, sg, if_neg (by omega), sg, if_pos rfl]
  · rw [v5, u4, sg, if_pos rfl]
  · intro l hl
    rw [v6]
    exact u3 l hl
  · have a0 : ax_fi (ax_sfi (ax_sfi (ax_sfi U 8 0 6 (0 : Int32)) 8 0 7 (0 : Int32)) 8 0 8 (0 : Int32)) 9 0 0 = nI (N 16) := hSU.1
    have a1 : ∀ x, ax_fi (ax_sfi (ax_sfi (ax_sfi (ax_sfi U 8 0 6 (0 : Int32)) 8 0 7 (0 : Int32)) 8 0 8 (0 : Int32)) 8 0 9 x) 9 0 1 = nI (jn_bits N) := fun x => hSU.2.1
    have a2 : ∀ x, ax_fi (ax_sfi (ax_sfi (ax_sfi (ax_sfi U 8 0 6 (0 : Int32)) 8 0 7 (0 : Int32)) 8 0 8 (0 : Int32)) 8 0 9 x) 9 0 0 = nI (N 16) := fun x => hSU.1
    have eg : ax_sfi (ax_sfi (ax_sfi (ax_sfi U 8 0 6 (0 : Int32)) 8 0 7 (0 : Int32)) 8 0 8 (0 : Int32)) 8 0 9 (nI (N 16)) = goV U 0 0 (N 16) 0 := by
      unfold goV ax_sfi
      refine congrArg (fun f => (f, U.2)) ?_
      funext a b d
      unfold ax_u3
      by_cases e8 : a = 8 ∧ b = 0
      · by_cases d6 : d = 6
        · simp [e8, d6, ← sn_0]
        · by_cases d7 : d = 7
          · simp [e8, d7, ← sn_0]
          · by_cases d8 : d = 8
            · simp [e8, d8, ← sn_0]
            · by_cases d9 : d = 9
              · simp [e8, d9]
              · simp [d6, d7, d8, d9]
      · have : ∀ x, ¬ (a = 8 ∧ b = 0 ∧ d = x) := fun x z => e8 ⟨z.1, z.2.1⟩
        simp only [this, if_false]
    unfold f_X8_find
    rw [e5, sn_6, sn_mn (by omega) (by omega), Nat.min_eq_right h6, sn_bs, sn_let, jc_rule0 hC1.1, sn_bs, sn_let, u1, v1, sn_let, sn_let, sn_let, a0, sn_let, a1, a2, eg, sn_0]
theorem x_order (h : jI S T) (a : Int32) : jX (f_X11_order a S) (f_X12_order a T) := by
  obtain ⟨o, H, N, W, M, K, c, L, E, cn, Q, im, NI, LI, hI, tn, tb, wh, n, ca, P, Lg, hi, hR, hC, hA⟩ := h
  have hq0 := jI_q hR hC hA
  have hq := jq_thr (v := 0) hq0
  have no := jr_no0 hq
  have q2 : ax_fr jr_q T (ax_sfi T 12 0 0 0) := jr_thr
  have y3 := hq.2.2.2.2.1
  have go : ∀ r S' T', f_X11_order a S = some (r, S') → f_X12_order a T = some (r, T') → jr_C T' H M K W → jX (f_X11_order a S) (f_X12_order a T) := fun r S' T' e1 e2 e3 => by
    have f1 := fr_X11_order e1
    have f2 := fr_X12_order e2
    refine ⟨r, S', T', e1, e2, jI_g hR hA ⟨cg0_f f1 (by decide), cg1_f f1 (fun j => by simp) (fun j => by simp) (by decide) (by decide) (by decide) (by decide)⟩ ⟨⟨fun j hj => ?_, f2.2.2.2.2.1 44 0 (by decide), fun m _ => by rw [f2.2.2.2.2.1 53 0 (by decide)], fun m _ => by rw [f2.2.2.2.2.1 54 0 (by decide)], f2.2.2.2.2.1 61 0 (by decide), f2.2.2.2.2.1 62 0 (by decide)⟩, f2.1 12 0 39 (by decide), f2.2.2.2.2.1 55 0 (by decide), f2.2.2.2.2.1 59 0 (by decide)⟩ e3⟩
    rcases hj with rfl | rfl | rfl | rfl | rfl | rfl | rfl | rfl | rfl
    all_goals exact f2.1 12 0 _ (by decide)
  unfold f_X11_order f_X12_order at go ⊢
  rw [sn_let, jc_noH hq0, sn_bs] at go ⊢
  generalize ax_sfi T 12 0 0 0 = Y at *
  by_cases h0 : H 4 = 0
  · rw [if_pos h0, if_neg ne10, if_pos (no.mpr h0)]
    exact act_no hR hA ax_fr.rf q2 y3
  · rw [if_neg h0, if_pos rfl, if_neg (fun z => h0 (no.mp z))] at go ⊢
    rcases rc (u := 2) (by omega) i_2 rfl a with ⟨w, w1, rfl, g1, g2, e⟩ | ⟨g, e⟩
    · obtain ⟨U, u1, u2, u3⟩ := or_find hR hA
      obtain ⟨V, v1, v2, v3, v4, v5⟩ := jr_copy (H := H) (W := W) (M := M) (K := K) hq.2.2.2.2.2
      have vC := v5 y3
      generalize hX : ax_sfi (ax_sfi (ax_sfi (ax_sfi V 12 0 41 (Int32.ofInt (-1))) 12 0 42 (Int32.ofInt (-1))) 12 0 43 (0 : Int32)) 12 0 44 (0 : Int32) = X at *
      have fX : ax_fr [(0, 12, 41), (0, 12, 42), (0, 12, 43), (0, 12, 44)] V X := by
        rw [← hX]
        exact (((ax_fr_sfi (by decide)).tr (ax_fr_sfi (by decide))).tr (ax_fr_sfi (by decide))).tr (ax_fr_sfi (by decide))
      have x42 : ax_fi X 12 0 42 = Int32.ofInt (-1) := by
        rw [← hX, sg, if_neg (by omega), sg, if_neg (by omega), sg, if_pos rfl]
      have x56 : jr_S (ax_ai X 56 0) N := by
        rw [fX.2.2.2.2.1 56 0 (by decide)]
        exact v2
      obtain ⟨Z, R, z1, z2, z3, z4⟩ := og_root (W := W) (M := M) (K := K) hR.1 hA.1 (m := 63) (by omega) u1 u2 (jr_C_f fX (by decide) vC) x56 x42
      have d64 : 63 + 1 = ax_D := rfl
      rw [d64] at z1 z2
      rw [z1, sn_bs] at u3
      rw [← sn_0] at z2
      rw [if_neg g1, if_pos g2, e, sn_bs, if_neg ne10, hR.2.1.2.1, u3, sn_bs, v1, sn_bs, sn_let, sn_let, sn_let, sn_let, hX, z2, sn_bs] at go ⊢
      obtain ⟨bl, br, bg, bc, k1, k2, k3, k4, k5, m1, m2, m3, m4, r1, r2, r3, r4⟩ := z3
      rcases (by omega : w = 0 ∨ w = 1 ∨ w = 2) with rfl | rfl | rfl
      · have n0 : nI 0 = (0 : Int32) := by decide
        have eb : f_X8_bestRow Z = some (rwv bl br) := by
          unfold f_X8_bestRow rwv
          have cb : (nI bl = (0 : Int32)) ↔ bl = 0 := nI_eq (b := 0) (by omega) (by omega)
          rw [m2, m1]
          by_cases z : bl = 0
          · rw [if_pos (cb.mpr z), if_pos z]
          · rw [if_neg (fun q => z (cb.mp q)), if_neg z]
        rw [if_pos n0, if_pos n0, eb, sn_bs, r4] at go ⊢
        exact go _ Z R rfl rfl z4
      · have n0 : ¬ (nI 1 = (0 : Int32)) := by decide
        have n1 : nI 1 = (1 : Int32) := by decide
        rw [if_neg n0, if_neg n0, if_pos n1, if_pos n1, m3, r2] at go ⊢
        exact go _ Z R rfl rfl z4
      · have n0 : ¬ (nI 2 = (0 : Int32)) := by decide
        have n1 : ¬ (nI 2 = (1 : Int32)) := by decide
        rw [if_neg n0, if_neg n0, if_neg n1, if_neg n1, m4, r3] at go ⊢
        exact go _ Z R rfl rfl z4
    · rw [e, sn_bs, if_pos rfl] at go ⊢
      rcases g with g | ⟨g1, g2⟩
      · rw [if_pos g] at go ⊢
        exact act_no hR hA ax_fr.rf q2 y3
      · rw [if_neg g1, if_neg g2] at go ⊢
        exact act_no hR hA ax_fr.rf q2 y3
end

/-! QUERIES: queue. The one side takes the least of what is left, the other goes by lengths 1 to 60 -/
def p6 (w : Nat) : Nat := w % 2 + w / 2 % 2 + w / 4 % 2 + w / 8 % 2 + w / 16 % 2 + w / 32 % 2
theorem p6_lt : ∀ h, h < 7 → ∀ w, w < 2 ^ h → ∀ v, v < h → w / 2 ^ v % 2 = 0 → p6 w < h := by decide +kernel
theorem p6_up : ∀ w, w < 64 → ∀ v, v < 6 → w / 2 ^ v % 2 = 0 → p6 (w + 2 ^ v) = p6 w + 1 := by decide +kernel
theorem bt_up : ∀ w, w < 64 → ∀ v, v < 6 → w / 2 ^ v % 2 = 0 → ∀ u, u < 6 → (w + 2 ^ v) / 2 ^ u % 2 = if u = v then 1 else w / 2 ^ u % 2 := by decide +kernel
theorem bt_lt : ∀ h, h < 7 → ∀ w, w < 2 ^ h → ∀ v, v < h → w / 2 ^ v % 2 = 0 → w + 2 ^ v < 2 ^ h := by decide +kernel
theorem bt_in : ∀ h, h < 7 → ∀ w, w < 64 → (∀ u, u < 6 → h ≤ u → w / 2 ^ u % 2 = 0) → w < 2 ^ h := by decide +kernel
theorem p2_le : ∀ h, h < 7 → 2 ^ h ≤ 64 := by decide +kernel
theorem nm1 {n : Nat} (h : n < 2 ^ 31) : ¬ (nI n = Int32.ofInt (-1)) := fun e => by
  have e2 := congrArg Int32.toInt e
  rw [nIi h, i_m1] at e2
  omega
section
variable {S T S0 T0 S1 T1 : AS} {o : Nat} {H N N' : Nat → Nat} {W : Option (List la_C)} {M : Nat} {K : Nat → List la_C}
theorem qu_e (hq : jq o H N W M K S T) : ax_fi S 4 (ax_fx S 11 0 14) 5 = nI (H 4) := by
  rw [hq.2.2.1.1.2.1]
  exact hq.2.2.1.1.2.2.2.2.2.1
theorem nq_A {Q v : Nat} (hQ : Q < 64) (hv : v < H 4) (h0 : Q / 2 ^ v % 2 = 0) (hl : ∀ u, u < H 4 → Q / 2 ^ u % 2 = 0 → cn_b H W N v < cn_b H W N u ∨ (cn_b H W N v = cn_b H W N u ∧ v ≤ u)) {Kc : Int32 → AS → Option (Int32 × AS)} : ∀ d m p (bst : Int32) bb S T, jq o H N W M K S T → p + d = H 4 → d < m → ((p ≤ v ∧ cn_b H W N v < bb ∧ bb ≤ 61) ∨ (v < p ∧ bst = nI v ∧ bb = cn_b H W N v)) → ∃ Z, f_X11_nextInQueue_L8 Kc m (nI Q) bst (nI bb) (nI p) S = Kc (nI v) Z ∧ ax_fr jc_scr S Z
  | 0, m + 1, p, bst, bb, S, T, hq, hp, _, h => by
    have h6 : H 4 ≤ 6 := hq.1.2.2.2.2.1
    rw [f_X11_nextInQueue_L8, qu_e hq, if_pos ((nI_leI (by omega) (by omega)).mpr (by omega))]
    rcases h with h | ⟨_, h, _⟩
    · omega
    · rw [h]
      exact ⟨S, rfl, ax_fr.rf⟩
  | d + 1, m + 1, p, bst, bb, S, T, hq, hp, hm, h => by
    have h6 : H 4 ≤ 6 := hq.1.2.2.2.2.1
    have bv : 1 ≤ cn_b H W N v ∧ cn_b H W N v ≤ 60 := bt_b
    have bp : 1 ≤ cn_b H W N p ∧ cn_b H W N p ≤ 60 := bt_b
    have b2 : Q / 2 ^ p % 2 = 0 ∨ Q / 2 ^ p % 2 = 1 := by omega
    rw [f_X11_nextInQueue_L8, qu_e hq, if_neg (fun z => absurd ((nI_leI (by omega) (by omega)).mp z) (by omega)), cn_shr Q hQ p (by omega)]
    rcases b2 with b2 | b2
    · have hlp := hl p (by omega) b2
      obtain ⟨Z, Y, z1, _, z2, y2, y3, hq2⟩ := jq_now hq (v := p) (by omega)
      rw [b2, if_pos (sn_0).symm, z1, ax_bu_s]
      by_cases hb : bb ≤ cn_b H W N p
      · rw [if_pos ((nI_leI (by omega) (by omega)).mpr hb), sn_let, nI_1]
        obtain ⟨X, x1, x2⟩ := nq_A hQ hv h0 hl (Kc := Kc) d m (p + 1) bst bb Z Y hq2 (by omega) (by omega) (by
          rcases h with ⟨g1, g2, g3⟩ | ⟨g1, g2, g3⟩
          · by_cases e : p = v
            · subst e; omega
            · exact .inl ⟨by omega, g2, g3⟩
          · exact .inr ⟨by omega, g2, g3⟩)
        exact ⟨X, x1, z2.tr x2⟩
      · obtain ⟨Z2, Y2, z3, _, z4, y4, y5, hq3⟩ := jq_now hq2 (v := p) (by omega)
        rw [if_neg (fun z => hb ((nI_leI (by omega) (by omega)).mp z)), z3, ax_bu_s, sn_let, nI_1]
        obtain ⟨X, x1, x2⟩ := nq_A hQ hv h0 hl (Kc := Kc) d m (p + 1) (nI p) (cn_b H W N p) Z2 Y2 hq3 (by omega) (by omega) (by
          rcases h with ⟨g1, g2, g3⟩ | ⟨g1, g2, g3⟩
          · by_cases e : p = v
            · exact .inr ⟨by omega, by rw [e], by rw [e]⟩
            · exact .inl ⟨by omega, by omega, by omega⟩
          · omega)
        exact ⟨X, x1, (z2.tr z4).tr x2⟩
    · rw [b2, if_neg nen1, sn_let, nI_1]
      refine nq_A hQ hv h0 hl (Kc := Kc) d m (p + 1) bst bb S T hq (by omega) (by omega) ?_
      rcases h with ⟨g1, g2, g3⟩ | ⟨g1, g2, g3⟩
      · by_cases e : p = v
        · subst e; omega
        · exact .inl ⟨by omega, g2, g3⟩
      · exact .inr ⟨by omega, g2, g3⟩
theorem nq_B {Q : Nat} (hQ : Q < 64) (hl : ∀ u, u < H 4 → Q / 2 ^ u % 2 = 1) {Kc : Int32 → AS → Option (Int32 × AS)} (hq : jq o H N W M K S T) {b : Int32} : ∀ d m p, p + d = H 4 → d < m → f_X11_nextInQueue_L8 Kc m (nI Q) (Int32.ofInt (-1)) b (nI p) S = Kc (Int32.ofInt (-1)) S
  | 0, m + 1, p, hp, _ => by
    have h6 : H 4 ≤ 6 := hq.1.2.2.2.2.1
    rw [f_X11_nextInQueue_L8, qu_e hq, if_pos ((nI_leI (by omega) (by omega)).mpr (by omega))]
  | d + 1, m + 1, p, hp, hm => by
    have h6 : H 4 ≤ 6 := hq.1.2.2.2.2.1
    rw [f_X11_nextInQueue_L8, qu_e hq, if_neg (fun z => absurd ((nI_leI (by omega) (by omega)).mp z) (by omega)), cn_shr Q hQ p (by omega), hl p (by omega), if_neg nen1, sn_let, nI_1]
    exact nq_B hQ hl hq d m (p + 1) (by omega) (by omega)
/-- how far both have come: all that are shorter than (b, v) are queued -/
def qv (o : Nat) (H N : Nat → Nat) (W : Option (List la_C)) (M : Nat) (K : Nat → List la_C) (S0 T0 : AS) (b v Q r i : Nat) (op : Int32) (S T : AS) : Prop := jc_st S0 S 1 ∧ jr_st T0 T 56 ∧ jq o H N W M K S T ∧ (∃ N', jn_ok H N' ∧ jc_S S 1 N' ∧ jr_S (ax_ai T 56 0) N') ∧ Q < 2 ^ H 4 ∧ (∀ u, u < H 4 → (Q / 2 ^ u % 2 = 1 ↔ (N (2 * u + 1) = 1 ∨ cn_b H W N u < b ∨ (cn_b H W N u = b ∧ u < v)))) ∧ i ≤ p6 Q ∧ i ≤ 6 ∧ r < 10 ^ i ∧ (op = 0 ∨ op = 1) ∧ jn_bits N ≤ Q ∧ (i = 0 → Q = jn_bits N) ∧ (0 < i → jn_bits N < Q)
def rr (i r : Nat) : Int32 := if i = 0 then Int32.ofInt (-1) else nI r
theorem jq_st {i : Nat} (h : jq o H N W M K S T) (hi : i ≠ 0) (hs : jc_st S S1 i) (ht : jr_st T T1 56) (hC : jr_C T1 H M K W) : jq o H N W M K S1 T1 := ⟨h.1, h.2.1, jc_C_st hs h.2.2.1, jc_S_st hs hi.symm h.2.2.2.1, hC, by rw [ht.2.2.2.2.1 55 0 (by omega) (by omega) (by omega)]; exact h.2.2.2.2.2⟩
theorem qu_in {F : Nat} (hF : 100 ≤ F) (h0 : 0 < H 4) {a : Int32} {Kc : Int32 → Int32 → Int32 → Int32 → AS → Option (Int32 × AS)} {Kr : Int32 → Int32 → Int32 → Int32 → Int32 → AS → Option (Int32 × AS)} {b : Nat} (hb : b ≤ 60) : ∀ d m v Q r i adm op S T, qv o H N W M K S0 T0 b v Q r i op S T → v + d = H 4 → d < m → ∃ Q' r' i' adm' op' S' T', qv o H N W M K S0 T0 (b + 1) 0 Q' r' i' op' S' T' ∧ f_X11_queue_L48 Kc Kc (F - i) a (nI Q) (nI r) adm op (nI i) S = f_X11_queue_L48 Kc Kc (F - i') a (nI Q') (nI r') adm' op' (nI i') S' ∧ f_X12_queue_L55 Kr m a (rr i r) adm op (nI b) (nI v) T = Kr a (rr i' r') adm' op' (nI b) T'
  | 0, m + 1, v, Q, r, i, adm, op, S, T, h, hp, _ => by
    obtain ⟨h1, h2, hq, h4, h5, h6, h7⟩ := h
    have e6 : H 4 ≤ 6 := hq.1.2.2.2.2.1
    refine ⟨Q, r, i, adm, op, S, T, ⟨h1, h2, hq, h4, h5, fun u hu => ?_, h7⟩, rfl, ?_⟩
    · rw [h6 u hu]
      constructor
      · rintro (q | q | q)
        · exact .inl q
        · exact .inr (.inl (by omega))
        · exact .inr (.inl (by omega))
      · rintro (q | q | q)
        · exact .inl q
        · rcases (by omega : cn_b H W N u < b ∨ cn_b H W N u = b) with e | e
          · exact .inr (.inl e)
          · exact .inr (.inr ⟨e, by omega⟩)
        · omega
    · rw [f_X12_queue_L55, hq.2.2.2.2.1.1.2.1, if_pos ((nI_leI (by omega) (by omega)).mpr (by omega))]
  | d + 1, m + 1, v, Q, r, i, adm, op, S, T, h, hp, hm => by
    obtain ⟨h1, h2, hq, ⟨N', n1, n2, n3⟩, h5, h6, h7, h8, h9, h10, h11, h12, h13⟩ := h
    have e6 : H 4 ≤ 6 := hq.1.2.2.2.2.1
    have hv1 := (hq.2.1.1 v (by omega)).2
    have bv : 1 ≤ cn_b H W N v ∧ cn_b H W N v ≤ 60 := bt_b
    have hQ : Q < 64 := Nat.lt_of_lt_of_le h5 (p2_le _ (by omega))
    rw [f_X12_queue_L55, hq.2.2.2.2.1.1.2.1, if_neg (fun z => absurd ((nI_leI (by omega) (by omega)).mp z) (by omega)), ix_o, sn_in (by omega) (by omega), sn_gd, nI_clamp (n := 2 * v + 1) (by omega), hq.2.2.2.2.2 (2 * v + 1) (by omega)]
    have c1 : (nI (N (2 * v + 1)) = (1 : Int32)) ↔ N (2 * v + 1) = 1 := nI_eq (b := 1) (by omega) (by omega)
    have skip : ∀ T1, jr_st T T1 56 → jr_C T1 H M K W → ax_ai T1 56 0 = ax_ai T 56 0 → (N (2 * v + 1) = 1 ∨ cn_b H W N v ≠ b) → qv o H N W M K S0 T0 b (v + 1) Q r i op S T1 := fun T1 t1 t2 t3 t4 => by
      refine ⟨h1, h2.tr t1, jq_st (i := 1) hq (by omega) jc_st.rf t1 t2, ⟨N', n1, n2, by rw [t3]; exact n3⟩, h5, fun u hu => ?_, h7, h8, h9, h10, h11, h12, h13⟩
      rw [h6 u hu]
      constructor
      · rintro (q | q | q)
        · exact .inl q
        · exact .inr (.inl q)
        · exact .inr (.inr ⟨q.1, by omega⟩)
      · rintro (q | q | q)
        · exact .inl q
        · exact .inr (.inl q)
        · by_cases e : u = v
          · subst e
            rcases t4 with t4 | t4
            · exact .inl t4
            · exact absurd q.1 t4
          · exact .inr (.inr ⟨q.1, by omega⟩)
    by_cases q1 : N (2 * v + 1) = 1
    · rw [if_pos (c1.mpr q1), sn_let, nI_1]
      exact qu_in hF h0 hb d m (v + 1) Q r i adm op S T (skip T jr_st.rf hq.2.2.2.2.1 rfl (.inl q1)) (by omega) (by omega)
    · obtain ⟨Y, y1, y2, y3⟩ := jr_in55 hq.1 hq.2.1 hq.2.2.2.2.1 hq.2.2.2.2.2 (v := v) (by omega)
      have y4 : ax_ai Y 56 0 = ax_ai T 56 0 := y2.2.2.2.2.1 56 0 (by decide)
      have ce : (nI (cn_b H W N v) = nI b) ↔ cn_b H W N v = b := nI_eq (by omega) (by omega)
      rw [if_neg (fun z => q1 (c1.mp z)), y1, ax_bu_s]
      by_cases q2 : cn_b H W N v = b
      · have hqY : jq o H N W M K S Y := jq_st (i := 1) hq (by omega) jc_st.rf (jr_st.fr y2) y3
        have bit0 : Q / 2 ^ v % 2 = 0 := by
          rcases (by omega : Q / 2 ^ v % 2 = 0 ∨ Q / 2 ^ v % 2 = 1) with e | e
          · exact e
          · rcases (h6 v (by omega)).mp e with e | e | e
            · exact absurd e q1
            · omega
            · omega
        have least : ∀ u, u < H 4 → Q / 2 ^ u % 2 = 0 → cn_b H W N v < cn_b H W N u ∨ (cn_b H W N v = cn_b H W N u ∧ v ≤ u) := fun u hu e => by
          have : ¬ (Q / 2 ^ u % 2 = 1) := by omega
          rw [h6 u hu] at this
          rcases (by omega : cn_b H W N v < cn_b H W N u ∨ cn_b H W N v = cn_b H W N u ∨ cn_b H W N u < cn_b H W N v) with g | g | g
          · exact .inl g
          · refine .inr ⟨g, ?_⟩
            by_cases z : v ≤ u
            · exact z
            · exact absurd (.inr (.inr ⟨by omega, by omega⟩)) this
          · exact absurd (.inr (.inl (by omega))) this
        have plt := p6_lt (H 4) (by omega) Q h5 v (by omega) bit0
        have pup := p6_up Q hQ v (by omega) bit0
        obtain ⟨f, hf⟩ : ∃ f, F - i = f + 1 := ⟨F - i - 1, by omega⟩
        have hf2 : F - (i + 1) = f := by omega
        obtain ⟨Z, z1, z2⟩ := nq_A hQ (v := v) (by omega) bit0 least (Kc := fun (x5 : Int32) (S24 : AS) => some (x5, S24)) (H 4) ax_F 0 (Int32.ofInt (-1)) 61 S T hq (by omega) (by show _ < 1000000; omega) (.inl ⟨by omega, by omega, by omega⟩)
        rw [← sn_0] at z1
        have z3 : f_X11_nextInQueue (nI Q) S = some (nI v, Z) := z1
        have qZ : jc_st S Z 1 := jc_st.fr z2
        have hqZ : jq o H N W M K Z Y := jq_fr hqY z2 ax_fr.rf y3
        have orq : nI Q ||| ((1 : Int32) <<< (nI v &&& 31)) = nI (Q + 2 ^ v) := cn_shl Q hQ v (by omega) bit0
        have rw10 : nI r * (10 : Int32) + nI v = nI (r * 10 + v) := by rw [sn_10, pk_mul, nI_add]
        have pw : (10 : Nat) ^ (i + 1) = 10 ^ i * 10 := Nat.pow_succ 10 i
        have p2 : 0 < 2 ^ v := Nat.pow_pos (by omega)
        have rnew : rr (i + 1) (r * 10 + v) = nI (r * 10 + v) := if_neg (by omega)
        -- the facts of the next place, whatever the state apart has become
        have nxt : ∀ op' S' T', jc_st Z S' 1 → jr_st Y T' 56 → jr_C T' H M K W → (∃ N2, jn_ok H N2 ∧ jc_S S' 1 N2 ∧ jr_S (ax_ai T' 56 0) N2) → (op' = 0 ∨ op' = 1) → qv o H N W M K S0 T0 b (v + 1) (Q + 2 ^ v) (r * 10 + v) (i + 1) op' S' T' := fun op' S' T' t1 t2 t3 t4 t5 => by
          refine ⟨(h1.tr qZ).tr t1, (h2.tr (jr_st.fr y2)).tr t2, jq_st (i := 1) hqZ (by omega) t1 t2 t3, t4, bt_lt (H 4) (by omega) Q h5 v (by omega) bit0, fun u hu => ?_, by omega, by omega, by omega, t5, by omega, fun z => absurd z (by omega), fun _ => by omega⟩
          rw [bt_up Q hQ v (by omega) bit0 u (by omega)]
          by_cases e : u = v
          · subst e
            rw [if_pos rfl]
            exact ⟨fun _ => .inr (.inr ⟨q2, by omega⟩), fun _ => rfl⟩
          · rw [if_neg e, h6 u hu]
            constructor
            · rintro (q | q | q)
              · exact .inl q
              · exact .inr (.inl q)
              · exact .inr (.inr ⟨q.1, by omega⟩)
            · rintro (q | q | q)
              · exact .inl q
              · exact .inr (.inl q)
              · exact .inr (.inr ⟨q.1, by omega⟩)
        have stp : f_X11_queue_L48 Kc Kc (F - i) a (nI Q) (nI r) adm op (nI i) S = (if op = (0 : Int32) then f_X11_queue_L48 Kc Kc f a (nI (Q + 2 ^ v)) (nI (r * 10 + v)) adm 0 (nI (i + 1)) Z else ax_bu (f_X6_may 1 (0 : Int32) (nI v) Z) (fun (r52 : Int32) (S49 : AS) => (if r52 = (0 : Int32) then f_X11_queue_L48 Kc Kc f a (nI (Q + 2 ^ v)) (nI (r * 10 + v)) adm 0 (nI (i + 1)) S49 else (f_X6_carryOut 1 (0 : Int32) (nI v) S49).bind (fun (S43 : AS) => f_X11_queue_L48 Kc Kc f a (nI (Q + 2 ^ v)) (nI (r * 10 + v)) (adm + 1) 1 (nI (i + 1)) S43)))) := by
          rw [hf, f_X11_queue_L48, qu_e hq, if_neg (fun z => absurd ((nI_leI (by omega) (by omega)).mp z) (by omega)), z3, ax_bu_s, if_neg (nm1 (n := v) (by omega)), sn_let, sn_let, orq, rw10, sn_let, nI_1]
          rfl
        have rst : (if nI (cn_b H W N v) = nI b then ax_let (fun (x42 : Int32) (S43 : AS) => ax_let (fun (x45 : Int32) (S46 : AS) => (if x45 = (0 : Int32) then ax_let (nI v + (1 : Int32)) (fun (v55 : Int32) => f_X12_queue_L55 Kr m a x42 adm x45 (nI b) v55 S46) else ax_bu (f_X12_calls_56x0 (nI v) S46) (fun (r52 : Int32) (S49 : AS) => ax_let (adm + (1 : Int32)) (fun (v53 : Int32) => ax_let (nI v + (1 : Int32)) (fun (v54 : Int32) => f_X12_queue_L55 Kr m a x42 v53 x45 (nI b) v54 S49))))) (fun J47 => (if op = (0 : Int32) then J47 (0 : Int32) S43 else ax_bu (f_X12_canCall_56x0 (nI v) S43) (fun (r60 : Int32) (S57 : AS) => (if r60 = (0 : Int32) then J47 (0 : Int32) S57 else J47 (1 : Int32) S57))))) (fun J44 => (if rr i r = (Int32.ofInt (-1)) then J44 (nI v) Y else J44 (((10 : Int32) * rr i r) + nI v) Y)) else ax_let (nI v + (1 : Int32)) (fun (v63 : Int32) => f_X12_queue_L55 Kr m a (rr i r) adm op (nI b) v63 Y)) = (if op = (0 : Int32) then f_X12_queue_L55 Kr m a (nI (r * 10 + v)) adm 0 (nI b) (nI (v + 1)) Y else ax_bu (f_X12_canCall_56x0 (nI v) Y) (fun (r60 : Int32) (S57 : AS) => (if r60 = (0 : Int32) then f_X12_queue_L55 Kr m a (nI (r * 10 + v)) adm 0 (nI b) (nI (v + 1)) S57 else ax_bu (f_X12_calls_56x0 (nI v) S57) (fun (_ : Int32) (S49 : AS) => f_X12_queue_L55 Kr m a (nI (r * 10 + v)) (adm + 1) 1 (nI b) (nI (v + 1)) S49)))) := by
          rw [if_pos (ce.mpr q2), nI_1, sn_let]
          unfold rr
          by_cases e : i = 0
          · have r0 : r = 0 := by
              rw [e] at h9
              have : (10 : Nat) ^ 0 = 1 := rfl
              omega
            rw [if_pos e, if_pos rfl, r0, Nat.zero_mul, Nat.zero_add]
            rfl
          · have r6 : (10 : Nat) ^ i ≤ 10 ^ 6 := Nat.pow_le_pow_right (by omega) h8
            have e106 : (10 : Nat) ^ 6 = 1000000 := rfl
            rw [if_neg e, if_neg (nm1 (n := r) (by omega)), Int32.mul_comm, rw10]
            rfl
        rw [rst]
        rcases h10 with rfl | rfl
        · rw [if_pos rfl, ← rnew]
          rw [if_pos rfl] at stp
          have g := nxt 0 Z Y jc_st.rf jr_st.rf y3 ⟨N', n1, jc_S_fr z2 n2, by rw [y4]; exact n3⟩ (.inl rfl)
          obtain ⟨Q', r', i', adm', op', S', T', w1, w2, w3⟩ := qu_in hF h0 hb (Kc := Kc) (Kr := Kr) (a := a) d m (v + 1) (Q + 2 ^ v) (r * 10 + v) (i + 1) adm 0 Z Y g (by omega) (by omega)
          rw [hf2] at w2
          exact ⟨Q', r', i', adm', op', S', T', w1, stp.trans w2, w3⟩
        · have n2Z : jc_S Z 1 N' := jc_S_fr z2 n2
          have n3Y : jr_S (ax_ai Y 56 0) N' := by rw [y4]; exact n3
          obtain ⟨r1, Z2, a1, a2, a3⟩ := jc_may hq.1 n1 hqZ.2.2.1 n2Z h0 0 (by omega) (nI v)
          obtain ⟨r2, Y2, b1, b2, b3, b4⟩ := jr_can56 hq.1 n1 y3 n3Y (nI v)
          rw [← sn_0] at a1
          have b5 : ax_ai Y2 56 0 = ax_ai Y 56 0 := b2.2.2.2.2.1 56 0 (by decide)
          rw [if_neg ne10, b1, ax_bu_s]
          rw [if_neg ne10, a1, ax_bu_s] at stp
          by_cases hm : cn_may H W N' 0 (nI v)
          · have er : r1 = 1 := by
              rcases a3 with ⟨_, e⟩ | ⟨e, _⟩
              · exact e
              · exact absurd hm e
            have er' : r2 = 1 := by
              rcases b4 with ⟨_, e⟩ | ⟨e, _⟩
              · exact e
              · exact absurd (cm0 hm) e
            have n2Z2 := jc_S_fr a2 n2Z
            have n3Y2 : jr_S (ax_ai Y2 56 0) N' := by rw [b5]; exact n3Y
            obtain ⟨Z3, c1, c2, c3⟩ := jc_do hq.1 n1 (jc_C_fr a2 hqZ.2.2.1) n2Z2 hm
            obtain ⟨Y3, d1, d2, d3, d4, d5⟩ := jr_calls56 hq.1 n1 b3 n3Y2 (v := v) (by omega)
            rw [← sn_0] at c1
            have ed : cn_do H W N' 0 (nI v).toNatClampNeg = cn_call H W N' v := by
              rw [nI_clamp (by omega)]
              unfold cn_do
              rw [if_pos rfl]
            have ok := cn_ok hq.1 n1 hm
            rw [ed] at c2 ok
            have g := nxt 1 Z3 Y3 ((jc_st.fr a2).tr c3) ((jr_st.fr b2).tr d4) d5 ⟨_, ok, c2, d2⟩ (.inr rfl)
            obtain ⟨Q', r', i', adm', op', S', T', w1, w2, w3⟩ := qu_in hF h0 hb (Kc := Kc) (Kr := Kr) (a := a) d m (v + 1) (Q + 2 ^ v) (r * 10 + v) (i + 1) (adm + 1) 1 Z3 Y3 g (by omega) (by omega)
            rw [er, if_neg ne10, c1, sn_bs] at stp
            rw [er', if_neg ne10, d1, ax_bu_s, ← rnew]
            rw [hf2] at w2
            exact ⟨Q', r', i', adm', op', S', T', w1, stp.trans w2, w3⟩
          · have er : r1 = 0 := by
              rcases a3 with ⟨e, _⟩ | ⟨_, e⟩
              · exact absurd e hm
              · exact e
            have er' : r2 = 0 := by
              rcases b4 with ⟨e, _⟩ | ⟨_, e⟩
              · exact absurd (.inl ⟨rfl, e⟩) hm
              · exact e
            have g := nxt 0 Z2 Y2 (jc_st.fr a2) (jr_st.fr b2) b3 ⟨N', n1, jc_S_fr a2 n2Z, by rw [b5]; exact n3Y⟩ (.inl rfl)
            obtain ⟨Q', r', i', adm', op', S', T', w1, w2, w3⟩ := qu_in hF h0 hb (Kc := Kc) (Kr := Kr) (a := a) d m (v + 1) (Q + 2 ^ v) (r * 10 + v) (i + 1) adm 0 Z2 Y2 g (by omega) (by omega)
            rw [er, if_pos rfl] at stp
            rw [er', if_pos rfl, ← rnew]
            rw [hf2] at w2
            exact ⟨Q', r', i', adm', op', S', T', w1, stp.trans w2, w3⟩
      · rw [if_neg (fun z => q2 (ce.mp z)), sn_let, nI_1]
        exact qu_in hF h0 hb d m (v + 1) Q r i adm op S Y (skip Y (jr_st.fr y2) y3 y4 (.inr q2)) (by omega) (by omega)
theorem qu_out {F : Nat} (hF : 100 ≤ F) (h0 : 0 < H 4) {a : Int32} {Kc : Int32 → Int32 → Int32 → Int32 → AS → Option (Int32 × AS)} {Kr : Int32 → Int32 → Int32 → AS → Option (Int32 × AS)} : ∀ d m b Q r i adm op S T, qv o H N W M K S0 T0 b 0 Q r i op S T → b + d = 61 → d < m → ∃ Q' r' i' adm' op' S' T', qv o H N W M K S0 T0 61 0 Q' r' i' op' S' T' ∧ f_X11_queue_L48 Kc Kc (F - i) a (nI Q) (nI r) adm op (nI i) S = f_X11_queue_L48 Kc Kc (F - i') a (nI Q') (nI r') adm' op' (nI i') S' ∧ f_X12_queue_L45 Kr m a (rr i r) adm op (nI b) T = Kr a (rr i' r') adm' T'
  | 0, m + 1, b, Q, r, i, adm, op, S, T, h, hp, _ => by
    obtain rfl : b = 61 := by omega
    rw [f_X12_queue_L45, if_pos (by decide)]
    exact ⟨Q, r, i, adm, op, S, T, h, rfl, rfl⟩
  | d + 1, m + 1, b, Q, r, i, adm, op, S, T, h, hp, hm => by
    have c60 : ((60 : Int32) < nI b) ↔ 60 < b := nI_ltI (a := 60) (by omega) (by omega)
    have e6 : H 4 ≤ 6 := h.2.2.1.1.2.2.2.2.1
    obtain ⟨Q1, r1, i1, adm1, op1, S1, T1, w1, w2, w3⟩ := qu_in hF h0 (a := a) (Kc := Kc) (Kr := fun (x27 : Int32) (x28 : Int32) (x29 : Int32) (x30 : Int32) (x31 : Int32) (S64 : AS) => ax_let (x31 + (1 : Int32)) (fun (v65 : Int32) => f_X12_queue_L45 Kr m x27 x28 x29 x30 v65 S64)) (b := b) (by omega) (H 4) ax_F 0 Q r i adm op S T h (by omega) (by show _ < 1000000; omega)
    rw [← sn_0, sn_let, nI_1] at w3
    obtain ⟨Q2, r2, i2, adm2, op2, S2, T2, v1, v2, v3⟩ := qu_out hF h0 (a := a) (Kc := Kc) (Kr := Kr) d m (b + 1) Q1 r1 i1 adm1 op1 S1 T1 w1 (by omega) (by omega)
    rw [f_X12_queue_L45, if_neg (fun z => absurd (c60.mp z) (by omega)), w3]
    exact ⟨Q2, r2, i2, adm2, op2, S2, T2, v1, w2.trans v2, v3⟩
theorem q_queue (h : jq o H N W M K S T) (a : Int32) : qs H W M K S T (f_X11_queue a S) (f_X12_queue a T) := by
  have h1 := jq_thr (v := 0) h
  have c0 : (a < 0) ↔ a.toInt < ((0 : Nat) : Int) := lt_i rfl
  have c1 : (a ≤ 1) ↔ a.toInt ≤ ((1 : Nat) : Int) := le_i rfl
  have h6 : H 4 ≤ 6 := h.1.2.2.2.2.1
  unfold f_X11_queue f_X12_queue
  rw [sn_let, jc_noH h, sn_bs]
  by_cases h0 : H 4 = 0
  · rw [if_pos h0, if_neg ne10, if_pos ((jr_no0 h1).mpr h0)]
    exact qs_none h
  · rw [if_neg h0, if_pos rfl, if_neg (fun z => h0 ((jr_no0 h1).mp z))]
    rcases rg i_0 i_1 a with ⟨n, n1, n2, rfl, q⟩ | ⟨n1, q⟩
    · rw [nIi (by omega)] at c0 c1
      obtain ⟨Z, z1, z2, z3⟩ := jc_copy (i := 1) (j := 0) h1.2.2.2.1 (by omega)
      obtain ⟨Y, y1, y2, y3, y4, y5⟩ := jr_copy (H := H) (W := W) (M := M) (K := K) h1.2.2.2.2.2
      have hq : jq o H N W M K Z Y := jq_st (i := 1) h1 (by omega) z3 y4 (y5 h1.2.2.2.2.1)
      have cb := cn_bits h.2.1
      have hv : qv o H N W M K S (ax_sfi T 12 0 0 0) 1 0 (jn_bits N) 0 0 1 Z Y := by
        refine ⟨z3, y4, hq, ⟨N, h.2.1, z2, y2⟩, bt_in (H 4) (by omega) _ cb.1 (fun u hu hh => by rw [cb.2 u hu]; exact (h.2.1.2.1 u hu hh).2), fun u hu => ?_, by omega, by omega, by show 0 < 10 ^ 0; decide, .inr rfl, by omega, fun _ => rfl, fun z => absurd z (by omega)⟩
        rw [cb.2 u (by omega)]
        have bu : 1 ≤ cn_b H W N u ∧ cn_b H W N u ≤ 60 := bt_b
        constructor
        · intro e
          exact .inl e
        · rintro (e | e | e)
          · exact e
          · omega
          · omega
      obtain ⟨Q, r, i, adm, op, S2, T2, w1, w2, w3⟩ := qu_out (F := ax_F) (by show 100 ≤ 1000000; omega) (by omega) (a := nI n) (Kc := (fun (x18 : Int32) (x19 : Int32) (x20 : Int32) (x21 : Int32) (S54 : AS) => (if x18 = (1 : Int32) then some (x21, S54) else (if x19 = (ax_fi S54 9 0 1) then some ((Int32.ofInt (-1)), S54) else some (x20, S54))))) (Kr := (fun (x16 : Int32) (x17 : Int32) (x18 : Int32) (S66 : AS) => (if x16 = (0 : Int32) then some (x17, S66) else some (x18, S66)))) 60 ax_F 1 (jn_bits N) 0 0 0 1 Z Y hv (by omega) (by show _ < 1000000; omega)
      obtain ⟨k1, k2, k3, k4, k5, k6, k7, k8, k9, k10, k11, k12, k13⟩ := w1
      have all1 : ∀ u, u < H 4 → Q / 2 ^ u % 2 = 1 := fun u hu => by
        rw [k6 u hu]
        have bu : 1 ≤ cn_b H W N u ∧ cn_b H W N u ≤ 60 := bt_b
        exact .inr (.inl (by omega))
      have hQ : Q < 64 := Nat.lt_of_lt_of_le k5 (p2_le _ (by omega))
      have ez : ax_fi Z 9 0 1 = nI (jn_bits N) := hq.2.2.2.1.2.1
      have fin : f_X11_queue_L48 (fun (x18 : Int32) (x19 : Int32) (x20 : Int32) (x21 : Int32) (S54 : AS) => (if x18 = (1 : Int32) then some (x21, S54) else (if x19 = (ax_fi S54 9 0 1) then some ((Int32.ofInt (-1)), S54) else some (x20, S54)))) (fun (x18 : Int32) (x19 : Int32) (x20 : Int32) (x21 : Int32) (S54 : AS) => (if x18 = (1 : Int32) then some (x21, S54) else (if x19 = (ax_fi S54 9 0 1) then some ((Int32.ofInt (-1)), S54) else some (x20, S54)))) (ax_F - i) (nI n) (nI Q) (nI r) adm op (nI i) S2 = (if nI n = (1 : Int32) then some (adm, S2) else (if nI Q = (ax_fi S2 9 0 1) then some ((Int32.ofInt (-1)), S2) else some (nI r, S2))) := by
        obtain ⟨f, hf⟩ : ∃ f, ax_F - i = f + 1 := ⟨ax_F - i - 1, by have : ax_F = 1000000 := rfl; omega⟩
        rw [hf, f_X11_queue_L48, qu_e k3]
        by_cases g : H 4 ≤ i
        · rw [if_pos ((nI_leI (by omega) (by omega)).mpr g)]
        · have nx : f_X11_nextInQueue (nI Q) S2 = some (Int32.ofInt (-1), S2) := by
            have := nq_B hQ all1 (Kc := fun (x5 : Int32) (S24 : AS) => some (x5, S24)) k3 (b := 61) (H 4) ax_F 0 (by omega) (by show _ < 1000000; omega)
            rw [← sn_0] at this
            exact this
          rw [if_neg (fun z => g ((nI_leI (by omega) (by omega)).mp z)), nx, ax_bu_s, if_pos rfl]
      rw [← sn_0, Nat.sub_zero] at w2
      have r0 : rr 0 0 = Int32.ofInt (-1) := rfl
      have n1' : (1 : Int32) = nI 1 := sn_1
      rw [r0, ← sn_1] at w3
      rw [q, sn_bs, if_neg ne10, if_neg (fun z => absurd (c0.mp z) (by omega)), if_pos (c1.mpr (by omega)), z1, sn_bs, sn_let, ez, y1, sn_bs, w3, w2, fin]
      have e2 : ax_fi S2 9 0 1 = nI (jn_bits N) := k3.2.2.2.1.2.1
      have cQ : (nI Q = nI (jn_bits N)) ↔ Q = jn_bits N := nI_eq (by omega) (by omega)
      rw [e2]
      have fs := k1
      rcases (by omega : n = 0 ∨ n = 1) with rfl | rfl
      · have n01 : ¬ (nI 0 = (1 : Int32)) := by decide
        rw [if_neg n01, if_pos (sn_0).symm]
        unfold rr
        by_cases g : i = 0
        · rw [if_pos (cQ.mpr (k12 g)), if_pos g]
          exact ⟨_, S2, T2, rfl, rfl, k1, k2, k3.2.2.2.2.1⟩
        · rw [if_neg (fun z => by have := cQ.mp z; have := k13 (by omega); omega), if_neg g]
          exact ⟨_, S2, T2, rfl, rfl, k1, k2, k3.2.2.2.2.1⟩
      · have n11 : nI 1 = (1 : Int32) := by decide
        rw [if_pos n11, if_neg nen1]
        exact ⟨_, S2, T2, rfl, rfl, k1, k2, k3.2.2.2.2.1⟩
    · rw [q, sn_bs, if_pos rfl]
      by_cases z : a < 0
      · rw [if_pos z]; exact qs_none h
      · rw [if_neg z, if_neg (fun z2 => by have := c1.mp z2; have w : ¬ (a.toInt < ((0 : Nat) : Int)) := fun w => z (c0.mpr w); omega)]
        exact qs_none h
end
section
variable {S T : AS}
theorem x_queue (h : jI S T) (a : Int32) : jX (f_X11_queue a S) (f_X12_queue a T) := by
  obtain ⟨o, H, N, W, M, K, c, L, E, cn, Q, im, NI, LI, hI, tn, tb, wh, n, ca, P, Lg, hi, hR, hC, hA⟩ := h
  exact jX_qs hR hA (q_queue (jI_q hR hC hA) a)
end

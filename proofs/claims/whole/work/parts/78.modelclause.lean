/-! THE REFERENCE reads clauses -/
def lr_up (ρ : Nat → Int32) (C : la_C) (q : Int32 × Int32) : Int32 × Int32 := if q.1 = 0 then (match C with
  | (none, v) => (1, la_ev ρ v)
  | (some c, v) => if la_ev ρ c = 0 then q else (1, la_ev ρ v)) else q
def lr_fd (ρ : Nat → Int32) : List la_C → Int32 × Int32 → Int32 × Int32
  | [], q => q
  | C :: r, q => lr_fd ρ r (lr_up ρ C q)
theorem lr_fd1 {ρ : Nat → Int32} {v : Int32} : ∀ cs, lr_fd ρ cs (1, v) = (1, v)
  | [] => rfl
  | C :: r => by
    show lr_fd ρ r (lr_up ρ C (1, v)) = _
    have e : lr_up ρ C (1, v) = (1, v) := if_neg (show ¬ ((1 : Int32) = 0) by decide)
    rw [e]; exact lr_fd1 r
theorem lr_fd0 {ρ : Nat → Int32} : ∀ cs, (lr_fd ρ cs (0, 0)).2 = la_cv ρ cs
  | [] => rfl
  | (none, v) :: r => by
    show (lr_fd ρ r (1, la_ev ρ v)).2 = _
    rw [lr_fd1]; rfl
  | (some c, v) :: r => by
    show (lr_fd ρ r (if la_ev ρ c = 0 then (0, 0) else (1, la_ev ρ v))).2 = (if la_ev ρ c = 0 then la_cv ρ r else la_ev ρ v)
    by_cases h : la_ev ρ c = 0
    · rw [if_pos h, if_pos h]; exact lr_fd0 r
    · rw [if_neg h, if_neg h, lr_fd1]
theorem lr_cy {S : AS} : f_J0_charAt_5068e_64x5 0 S = some 121 := by
  have q1 : ax_ln S 65 5 = 1 := rfl
  have q2 : ax_rd S 65 5 (Int32.toNatClampNeg 0) = 121 := by
    show ax_rd S 65 5 0 = 121
    rfl
  have e : f_J1_charAt_3b067_65 5 0 S = some 121 := by
    unfold f_J1_charAt_3b067_65 f_J0_checkIndex_df160 f_J3_checkIndex_8e157_68x0
    rw [q1, q2]
    decide +kernel
  unfold f_J0_charAt_5068e_64x5
  rw [e]
  show ax_gd (ax_nc 121) (some (121 : Int32)) = some 121
  decide +kernel
theorem lr_isY {S : AS} {v : Int32} : f_X12_isAmong_64x5 v S = some (if (121 : Int32) = v then 1 else 0) := by
  unfold f_X12_isAmong_64x5
  have e : ax_F = 999998 + 1 + 1 := rfl
  rw [e, f_X12_isAmong_64x5_L2, if_neg (by decide), lr_cy]
  simp only [Option.bind_some, ax_let]
  by_cases h : (121 : Int32) = v
  · rw [if_pos h, if_pos h]
  · rw [if_neg h, if_neg h, f_X12_isAmong_64x5_L2, if_pos (by decide)]
/-- behind the condition -/
def lr_tail (r4 r24 : Int32) (S21 : AS) : Option AS := ax_bu (f_X12_takes (63 : Int32) S21) (fun (r28 : Int32) (S25 : AS) => (if r28 = (0 : Int32) then some S25 else ax_bu (g_Parse ax_D 2 (0 : Int32) (0 : Int32) S25) (fun (r33 : Int32) (S30 : AS) => (if (ax_fi S30 12 0 11) = (Int32.ofInt (-1)) then (if (ax_fi S30 12 0 17) = (0 : Int32) then (if r4 = (ax_fi S30 12 0 13) then (if r24 = (0 : Int32) then some S30 else ax_let (ax_sfi S30 12 0 17 (1 : Int32)) (fun (S38 : AS) => ax_let (ax_sfi S38 12 0 14 r33) (fun (S39 : AS) => some S39))) else some S30) else some S30) else some S30))))
def lr_sum (r4 r44 : Int32) (S41 : AS) : Option AS := (if (ax_fi S41 12 0 11) = (Int32.ofInt (-1)) then ax_bu (f_X12_look S41) (fun (r55 : Int32) (S52 : AS) => (f_X12_isSign r55 S52).bind (fun (r59 : Int32) => (if r59 = (0 : Int32) then (if (ax_fi S52 12 0 11) = (Int32.ofInt (-1)) then (if (ax_fi S52 12 0 17) = (0 : Int32) then (if r4 = (ax_fi S52 12 0 13) then ax_let (ax_sfi S52 12 0 17 (1 : Int32)) (fun (S65 : AS) => ax_let (ax_sfi S65 12 0 14 r44) (fun (S66 : AS) => some S66)) else some S52) else some S52) else some S52) else ax_bu (g_Parse ax_D 6 (1 : Int32) r44 S52) (fun (r70 : Int32) (S67 : AS) => lr_tail r4 r70 S67)))) else (if (ax_fi S41 12 0 11) = (Int32.ofInt (-1)) then (if (ax_fi S41 12 0 17) = (0 : Int32) then (if r4 = (ax_fi S41 12 0 13) then ax_let (ax_sfi S41 12 0 17 (1 : Int32)) (fun (S50 : AS) => ax_let (ax_sfi S50 12 0 14 r44) (fun (S51 : AS) => some S51)) else some S41) else some S41) else some S41))
theorem lr_clause {S : AS} : f_X12_clause S = ax_bu (f_X12_look S) (fun (r4 : Int32) (S1 : AS) => (f_X12_isAmong_64x5 r4 S1).bind (fun (r8 : Int32) => (if r8 = (0 : Int32) then ax_bu (f_X12_fails S1) (fun (_ : Int32) (S105 : AS) => some S105) else ax_let (ax_sfi S1 12 0 10 ((ax_fi S1 12 0 10) + (1 : Int32))) (fun (S10 : AS) => ax_bu (f_X12_takes (58 : Int32) S10) (fun (r14 : Int32) (S11 : AS) => (if r14 = (0 : Int32) then some S11 else ax_bu (f_X12_look S11) (fun (r19 : Int32) (S16 : AS) => (if r19 = (33 : Int32) then ax_bu (g_Parse ax_D 6 (0 : Int32) (0 : Int32) S16) (lr_tail r4) else (if r19 = (40 : Int32) then ax_bu (g_Parse ax_D 6 (0 : Int32) (0 : Int32) S16) (lr_tail r4) else ax_bu (g_Parse ax_D 2 (0 : Int32) (0 : Int32) S16) (lr_sum r4)))))))))) := rfl
def lr_OkC (T : AS) (n : Nat) (ρ : Nat → Int32) (g w : Int32) (r : Option AS) : la_OC → Prop
  | .inl f => f ≤ n ∧ ∃ p' d' g' w', r = some (lr_st T p' (Int32.ofNat f) d' g' w')
  | .inr (C, s) => r = some (lr_st T (Int32.ofNat s) (Int32.ofInt (-1)) 0 (lr_up ρ C (g, w)).1 (lr_up ρ C (g, w)).2) ∧ s ≤ n
section
variable {b : Nat → Nat} {n : Nat} {T : AS} {i A : Nat} {g w : Int32} {ρ : Nat → Int32}
theorem lr_z0 : Int32.ofNat 0 = (0 : Int32) := rfl
theorem lr_tl_D {p φ d r4 r24 : Int32} (hφ : φ ≠ Int32.ofInt (-1)) : lr_tail r4 r24 (lr_st T p φ d g w) = some (lr_st T p φ d g w) := by
  unfold lr_tail
  rw [lr_tkD hφ, ax_bu_s, if_pos rfl]
theorem lr_V (hT : lr_Tp b n T i A) (hR : lr_Rh T ρ) (h13 : ax_fi T 12 0 13 = 121) {oc : la_O} {o : la_OC} {r : Option (Int32 × AS)} {lo : Nat} (hr : lr_Ok T n ρ 0 g w true lo r oc) (h : la_V b n oc o) : lr_OkC T n ρ g w (ax_bu r (lr_tail 121)) o := by
  have h240 := hT.1
  rcases h with ⟨f, rfl, rfl⟩ | ⟨a, s, rfl, h1, rfl⟩ | ⟨a, s, f, rfl, h1, h2, rfl⟩ | ⟨a, s, v, t, rfl, h1, h2, rfl⟩
  · obtain ⟨hf, v, p', d', _, q⟩ := hr
    rw [q, ax_bu_s, lr_tl_D (lc_nd (by omega))]
    exact ⟨hf, _, _, _, _, rfl⟩
  · obtain ⟨q, _, n1, _⟩ := hr
    have s1 := la_sk_n (b := b) n1
    have n63 : lr_sg (la_by b n s) ≠ 63 := lr_ne 63 (lr_by_le hT) h1 (by omega)
    rw [q, ax_bu_s]
    unfold lr_tail
    rw [lr_tkF hT n1 n63, ax_bu_s, if_pos rfl]
    exact ⟨s1.2, _, _, _, _, rfl⟩
  · obtain ⟨q, _, n1, _⟩ := hr
    have s1 := la_sk_n (b := b) n1
    have q1 := la_by_n h1 (by omega)
    have e63 : lr_sg (la_by b n s) = 63 := by rw [h1]; rfl
    obtain ⟨hf, v, p', d', _, e1⟩ := lr_main (g := g) (w := w) hT hR h2 ax_D (by decide) (by omega) (by omega)
    rw [q, ax_bu_s]
    unfold lr_tail
    rw [lr_tk hT n1 e63, ax_bu_s, if_neg (by decide), e1, ax_bu_s, lr_g11, if_neg (lc_nd (by omega))]
    exact ⟨hf, _, _, _, _, rfl⟩
  · obtain ⟨q, _, n1, hb⟩ := hr
    have s1 := la_sk_n (b := b) n1
    have q1 := la_by_n h1 (by omega)
    have e63 : lr_sg (la_by b n s) = 63 := by rw [h1]; rfl
    obtain ⟨e1, _, n2, _⟩ := lr_main (g := g) (w := w) hT hR h2 ax_D (by decide) (by omega) (by omega)
    rw [q, ax_bu_s]
    unfold lr_tail
    rw [lr_tk hT n1 e63, ax_bu_s, if_neg (by decide), e1, ax_bu_s, lr_g11, if_pos rfl, lr_g17, lr_g13, h13]
    simp only [if_true]
    refine ⟨?_, n2⟩
    by_cases hg : g = 0
    · rw [if_pos hg]
      by_cases hc : la_ev ρ a = 0
      · have eu : lr_up ρ (some a, v) (g, w) = (g, w) := by unfold lr_up; rw [if_pos hg]; exact if_pos hc
        rw [if_pos hc, eu]; rfl
      · have eu : lr_up ρ (some a, v) (g, w) = (1, la_ev ρ v) := by unfold lr_up; rw [if_pos hg]; exact if_neg hc
        rw [if_neg hc, eu]
        simp only [ax_let, lr_s17, lr_s14]
        rfl
    · have eu : lr_up ρ (some a, v) (g, w) = (g, w) := by unfold lr_up; exact if_neg hg
      rw [if_neg hg, eu]; rfl
theorem lr_begun (hT : lr_Tp b n T i A) (hR : lr_Rh T ρ) {e : la_T} {p : Nat} {o : la_O} (h : la_B b n e p o) (hp : p ≤ n) : lr_Ok T n ρ 0 g w true 0 (g_Parse ax_D 6 1 (la_ev ρ e) (lr_st T (Int32.ofNat p) (Int32.ofInt (-1)) 0 g w)) o := by
  have h240 := hT.1
  have f1 : ∀ Z, g_Parse ax_D 6 1 (la_ev ρ e) Z = b_X12_condition (g_Parse 63) 1 (la_ev ρ e) Z := fun Z => rfl
  have f2 : ∀ Z, g_Parse 63 5 1 (la_ev ρ e) Z = b_X12_part (g_Parse 62) 1 (la_ev ρ e) Z := fun Z => rfl
  have f3 : ∀ Z, g_Parse 62 3 1 (la_ev ρ e) Z = b_X12_compares (g_Parse 61) 1 (la_ev ρ e) Z := fun Z => rfl
  rw [f1]
  unfold b_X12_condition
  rw [f2]
  unfold b_X12_part
  rw [if_neg (by decide), f3, lr_cp1]
  rcases h with ⟨f, rfl, h1⟩ | ⟨e1, s1, f, rfl, h1, h2⟩ | ⟨e1, s1, e2, s2, h1, h2, h3⟩
  · obtain ⟨hf, v, p', d', hv, q⟩ := lr_main (g := g) (w := w) hT hR h1 61 (by omega) hp (by omega)
    rw [lr_z0] at q
    rw [q, ax_bu_s, lc_FF, lr_pD (lc_nd (by omega))]
    simp only [ax_gd, lr_bo (hv rfl), if_true]
    rw [ax_bu_s, lr_cD (lc_nd (by omega))]
    simp only [ax_gd, lr_bo (hv rfl), if_true]
    exact ⟨hf, _, _, _, hv, rfl⟩
  · obtain ⟨q, _, n1, hv1⟩ := lr_main (g := g) (w := w) hT hR h1 61 (by omega) hp (by omega)
    obtain ⟨hf, v, p', d', hv, r⟩ := lr_main (g := g) (w := w) hT hR h2 62 ax_F (by omega) n1 (by omega) (by show _ < 1000000; omega) (hv1 rfl)
    rw [lr_z0] at q r
    rw [q, ax_bu_s, r, ax_bu_s, lc_FF, lr_cD (lc_nd (by omega))]
    simp only [ax_gd, lr_bo (hv rfl), if_true]
    exact ⟨hf, _, _, _, hv, rfl⟩
  · obtain ⟨q, _, n1, hv1⟩ := lr_main (g := g) (w := w) hT hR h1 61 (by omega) hp (by omega)
    obtain ⟨r, _, n2, hv2⟩ := lr_main (g := g) (w := w) hT hR h2 62 ax_F (by omega) n1 (by omega) (by show _ < 1000000; omega) (hv1 rfl)
    have u := lr_main (g := g) (w := w) hT hR h3 63 ax_F (by omega) n2 (by omega) (by show _ < 1000000; omega) (hv2 rfl)
    rw [lr_z0] at q r u
    rw [q, ax_bu_s, r, ax_bu_s]
    match o, u with
    | .inl f, u => exact u
    | .inr (e3, s3), u =>
      obtain ⟨r1, r2, r3, r4⟩ := u
      exact ⟨r1, by omega, r3, r4⟩
theorem lr_K (hT : lr_Tp b n T i A) (hR : lr_Rh T ρ) (h13 : ax_fi T 12 0 13 = 121) {p : Nat} {o : la_OC} (h : la_K b n p o) (hp : p ≤ n) : lr_OkC T n ρ g w (f_X12_clause (lr_st T (Int32.ofNat p) (Int32.ofInt (-1)) 0 g w)) o := by
  have h240 := hT.1
  have s1 := la_sk_n (b := b) hp
  rw [lr_clause, lr_look hT hp, ax_bu_s, lr_isY]
  simp only [Option.bind_some]
  rcases h with ⟨h1, rfl⟩ | ⟨h1, h2, rfl⟩ | ⟨h1, h2, h3⟩
  · have n1 : ¬ ((121 : Int32) = lr_sg (la_by b n p)) := fun e => lr_ne 121 (lr_by_le hT) h1 (by omega) e.symm
    rw [if_neg n1]
    simp only [if_true]
    rw [lr_fails, ax_bu_s]
    exact ⟨s1.2, _, _, _, _, rfl⟩
  · have q1 := la_by_n h1 (by omega)
    have e1 : (121 : Int32) = lr_sg (la_by b n p) := by rw [h1]; rfl
    have s2 := la_sk_n (b := b) (by omega : la_sk b n p + 1 ≤ n)
    have n1 : lr_sg (la_by b n (la_sk b n p + 1)) ≠ 58 := lr_ne 58 (lr_by_le hT) h2 (by omega)
    rw [if_pos e1, if_neg (by decide)]
    simp only [ax_let, lr_g10, lr_s10, la_a1]
    rw [lr_tkF hT (by omega) n1, ax_bu_s, if_pos rfl]
    exact ⟨s2.2, _, _, _, _, rfl⟩
  · have q1 := la_by_n h1 (by omega)
    have q2 := la_by_n h2 (by omega)
    have e1 : lr_sg (la_by b n p) = 121 := by rw [h1]; rfl
    have s2 := la_sk_n (b := b) (by omega : la_sk b n p + 1 ≤ n)
    have e2 : lr_sg (la_by b n (la_sk b n p + 1)) = 58 := by rw [h2]; rfl
    have s3 := la_sk_n (b := b) (by omega : la_sk b n (la_sk b n p + 1) + 1 ≤ n)
    have hx := lr_by_le hT (p := la_sk b n (la_sk b n p + 1) + 1)
    rw [if_pos e1.symm, if_neg (by decide)]
    simp only [ax_let, lr_g10, lr_s10, la_a1]
    rw [lr_tk hT (by omega) e2, ax_bu_s, if_neg (by decide), lr_look hT (by omega), ax_bu_s, e1]
    generalize la_sk b n (la_sk b n p + 1) + 1 = p2 at *
    rcases h3 with ⟨h4, oc, h5, h6⟩ | ⟨h4, h5, f, h6, rfl⟩ | ⟨h4, h5, e, s, h6, h7, rfl⟩ | ⟨h4, h5, e, s, h6, ⟨k, h7⟩, oc, h8, h9⟩
    · have u := lr_main (g := g) (w := w) hT hR h5 ax_D (by decide) s3.2 (by omega)
      rw [lr_z0] at u
      have v := lr_V hT hR h13 u h6
      rcases h4 with h4 | h4
      · have e3 : lr_sg (la_by b n p2) = 33 := by rw [h4]; rfl
        rw [if_pos e3]; exact v
      · have e3 : lr_sg (la_by b n p2) = 40 := by rw [h4]; rfl
        have e4 : lr_sg (la_by b n p2) ≠ 33 := by rw [e3]; decide
        rw [if_neg e4, if_pos e3]; exact v
    · have n33 : lr_sg (la_by b n p2) ≠ 33 := lr_ne 33 hx h4 (by omega)
      have n40 : lr_sg (la_by b n p2) ≠ 40 := lr_ne 40 hx h5 (by omega)
      obtain ⟨hf, v, p', d', _, u⟩ := lr_main (g := g) (w := w) hT hR h6 ax_D (by decide) s3.2 (by omega)
      rw [lr_z0] at u
      rw [if_neg n33, if_neg n40, u, ax_bu_s]
      unfold lr_sum
      rw [lr_g11, if_neg (lc_nd (by omega)), if_neg (lc_nd (by omega))]
      exact ⟨hf, _, _, _, _, rfl⟩
    · have n33 : lr_sg (la_by b n p2) ≠ 33 := lr_ne 33 hx h4 (by omega)
      have n40 : lr_sg (la_by b n p2) ≠ 40 := lr_ne 40 hx h5 (by omega)
      obtain ⟨u, _, n1, _⟩ := lr_main (g := g) (w := w) hT hR h6 ax_D (by decide) s3.2 (by omega)
      have s4 := la_sk_n (b := b) n1
      rw [lr_z0] at u
      rw [if_neg n33, if_neg n40, u, ax_bu_s]
      unfold lr_sum
      rw [lr_g11, if_pos rfl, lr_look hT n1, ax_bu_s, lr_sig0 (lr_by_le hT) h7]
      simp only [Option.bind_some, if_true, lr_g11, lr_g17, lr_g13, h13]
      refine ⟨?_, s4.2⟩
      by_cases hg : g = 0
      · have eu : lr_up ρ (none, e) (g, w) = (1, la_ev ρ e) := by unfold lr_up; exact if_pos hg
        rw [if_pos hg, eu]
        simp only [ax_let, lr_s17, lr_s14]
      · have eu : lr_up ρ (none, e) (g, w) = (g, w) := by unfold lr_up; exact if_neg hg
        rw [if_neg hg, eu]
    · have n33 : lr_sg (la_by b n p2) ≠ 33 := lr_ne 33 hx h4 (by omega)
      have n40 : lr_sg (la_by b n p2) ≠ 40 := lr_ne 40 hx h5 (by omega)
      obtain ⟨u, _, n1, _⟩ := lr_main (g := g) (w := w) hT hR h6 ax_D (by decide) s3.2 (by omega)
      have s4 := la_sk_n (b := b) n1
      rw [lr_z0] at u
      rw [if_neg n33, if_neg n40, u, ax_bu_s]
      unfold lr_sum
      rw [lr_g11, if_pos rfl, lr_look hT n1, ax_bu_s, lr_sig h7]
      simp only [Option.bind_some]
      rw [if_neg (by decide)]
      exact lr_V hT hR h13 (lr_begun hT hR h8 s4.2) h9
def lr_KK : AS → Option AS := fun (S22 : AS) => (if (ax_fi S22 12 0 11) = (Int32.ofInt (-1)) then ax_bu (f_X12_look S22) (fun (r27 : Int32) (S24 : AS) => (if r27 = (Int32.ofInt (-1)) then some S24 else ax_bu (f_X12_fails S24) (fun (_ : Int32) (S29 : AS) => some S29))) else some S22)
theorem lr_L (hT : lr_Tp b n T i A) (hR : lr_Rh T ρ) (h13 : ax_fi T 12 0 13 = 121) : ∀ (m p N : Nat) (g w : Int32) (o : Nat ⊕ List la_C), la_L b n m p o → p ≤ n → m ≤ N →
    (∀ f, o = .inl f → f ≤ n ∧ ∃ p' d' g' w', (f_X12_clause (lr_st T (Int32.ofNat p) (Int32.ofInt (-1)) 0 g w)).bind (fun Z => f_X12_goThrough_44_L32 lr_KK N Z) = some (lr_st T p' (Int32.ofNat f) d' g' w')) ∧
    (∀ cs, o = .inr cs → ∃ p', (f_X12_clause (lr_st T (Int32.ofNat p) (Int32.ofInt (-1)) 0 g w)).bind (fun Z => f_X12_goThrough_44_L32 lr_KK N Z) = some (lr_st T p' (Int32.ofInt (-1)) 0 (lr_fd ρ cs (g, w)).1 (lr_fd ρ cs (g, w)).2))
  | 0, _, _, _, _, _, h, _, _ => h.elim
  | m + 1, p, N, g, w, o, h, hp, hN => by
    have h240 := hT.1
    obtain ⟨N, rfl⟩ : ∃ q, N = q + 1 := ⟨N - 1, by omega⟩
    have dead : ∀ (p' d' g' w' : Int32) (f : Nat), f ≤ n → f_X12_goThrough_44_L32 lr_KK (N + 1) (lr_st T p' (Int32.ofNat f) d' g' w') = some (lr_st T p' (Int32.ofNat f) d' g' w') := fun p' d' g' w' f hf => by
      rw [f_X12_goThrough_44_L32, lr_g11, if_neg (lc_nd (by omega))]
      unfold lr_KK
      rw [lr_g11, if_neg (lc_nd (by omega))]
    rcases h with ⟨f, h1, rfl⟩ | ⟨C, s, h1, h2, rfl⟩ | ⟨C, s, h1, h2, h3, rfl⟩ | ⟨C, s, f, h1, h2, h3, rfl⟩ | ⟨C, s, cs, h1, h2, h3, rfl⟩
    · refine ⟨fun f' e => ?_, fun _ e => (by cases e)⟩
      cases e
      obtain ⟨hf, p', d', g', w', q⟩ := lr_K (g := g) (w := w) hT hR h13 h1 hp
      rw [q]
      exact ⟨hf, p', d', g', w', dead p' d' g' w' f hf⟩
    · refine ⟨fun _ e => (by cases e), fun cs e => ?_⟩
      cases e
      obtain ⟨q, n1⟩ := lr_K (g := g) (w := w) hT hR h13 h1 hp
      have s4 := la_sk_n (b := b) n1
      have n59 : lr_sg (la_by b n s) ≠ 59 := lr_ne 59 (lr_by_le hT) (by omega) (by omega)
      have em : lr_sg (la_by b n s) = Int32.ofInt (-1) := by rw [h2]; rfl
      rw [q]
      simp only [Option.bind_some]
      rw [f_X12_goThrough_44_L32, lr_g11, if_pos rfl, lr_look hT n1, ax_bu_s, if_neg n59]
      unfold lr_KK
      rw [lr_g11, if_pos rfl, lr_look hT s4.2, ax_bu_s, lc_by_sk, la_sk_s, if_pos em]
      exact ⟨_, rfl⟩
    · refine ⟨fun f' e => ?_, fun _ e => (by cases e)⟩
      cases e
      obtain ⟨q, n1⟩ := lr_K (g := g) (w := w) hT hR h13 h1 hp
      have s4 := la_sk_n (b := b) n1
      have n59 : lr_sg (la_by b n s) ≠ 59 := lr_ne 59 (lr_by_le hT) h3 (by omega)
      have nm : lr_sg (la_by b n s) ≠ Int32.ofInt (-1) := by
        have := lr_by_le hT (p := s)
        rw [lr_e (by omega)]
        exact fun e => by
          have h1 : ¬ (Int32.ofInt (-1) < 0) := e ▸ la_n0 (by omega)
          exact h1 (by decide)
      rw [q]
      simp only [Option.bind_some]
      rw [f_X12_goThrough_44_L32, lr_g11, if_pos rfl, lr_look hT n1, ax_bu_s, if_neg n59]
      unfold lr_KK
      rw [lr_g11, if_pos rfl, lr_look hT s4.2, ax_bu_s, lc_by_sk, la_sk_s, if_neg nm, lr_fails, ax_bu_s]
      exact ⟨s4.2, _, _, _, _, rfl⟩
    · refine ⟨fun f' e => ?_, fun _ e => (by cases e)⟩
      cases e
      obtain ⟨q, n1⟩ := lr_K (g := g) (w := w) hT hR h13 h1 hp
      have s4 := la_sk_n (b := b) n1
      have q1 := la_by_n h2 (by omega)
      have e59 : lr_sg (la_by b n s) = 59 := by rw [h2]; rfl
      obtain ⟨u, _⟩ := lr_L hT hR h13 m (la_sk b n s + 1) N (lr_up ρ C (g, w)).1 (lr_up ρ C (g, w)).2 _ h3 (by omega) (by omega)
      obtain ⟨hf, p', d', g', w', e2⟩ := u f rfl
      refine ⟨hf, p', d', g', w', ?_⟩
      rw [q]
      simp only [Option.bind_some]
      rw [f_X12_goThrough_44_L32, lr_g11, if_pos rfl, lr_look hT n1, ax_bu_s, if_pos e59]
      simp only [ax_let, lr_g10, lr_s10, la_a1]
      exact e2
    · refine ⟨fun _ e => (by cases e), fun cs' e => ?_⟩
      cases e
      obtain ⟨q, n1⟩ := lr_K (g := g) (w := w) hT hR h13 h1 hp
      have s4 := la_sk_n (b := b) n1
      have q1 := la_by_n h2 (by omega)
      have e59 : lr_sg (la_by b n s) = 59 := by rw [h2]; rfl
      obtain ⟨_, u⟩ := lr_L hT hR h13 m (la_sk b n s + 1) N (lr_up ρ C (g, w)).1 (lr_up ρ C (g, w)).2 _ h3 (by omega) (by omega)
      obtain ⟨p', e2⟩ := u cs rfl
      refine ⟨p', ?_⟩
      rw [q]
      simp only [Option.bind_some]
      rw [f_X12_goThrough_44_L32, lr_g11, if_pos rfl, lr_look hT n1, ax_bu_s, if_pos e59]
      simp only [ax_let, lr_g10, lr_s10, la_a1]
      exact e2
end

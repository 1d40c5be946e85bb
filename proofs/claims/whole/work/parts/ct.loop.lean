/-! the law's loop -/
theorem tst_lt {L m : Nat} (hL : L ≤ 3072) (hm : m ≤ 4000) : (Int32.ofNat L - (6 : Int32) < nI m) ↔ L < m + 6 := by
  by_cases q : 6 ≤ L
  · have e : Int32.ofNat L - (6 : Int32) = nI (L - 6) := by
      rw [sn_6]
      exact pk_sub q
    rw [e, nI_ltI (by omega) (by omega)]
    omega
  · have em : (nI m).toInt = (m : Int) := Int32.toInt_ofNat_of_lt (by omega)
    have el : (Int32.ofNat L - (6 : Int32)).toInt < 0 := by
      rcases (by omega : L = 0 ∨ L = 1 ∨ L = 2 ∨ L = 3 ∨ L = 4 ∨ L = 5) with rfl | rfl | rfl | rfl | rfl | rfl
      all_goals decide
    rw [Int32.lt_iff_toInt_lt, em]
    omega
theorem gin_of {S : AS} {t L : Nat} (e : ax_fx S 67 0 0 = L) (h : 6 * t + 6 ≤ L) (hL : L ≤ 3072) : gin (nI (6 * t)) S := by
  unfold gin
  rw [e, sn_1, sn_2, sn_3, sn_4, sn_5, nI_add, nI_add, nI_add, nI_add, nI_add]
  exact ⟨sn_in (by omega) (by omega), sn_in (by omega) (by omega), sn_in (by omega) (by omega), sn_in (by omega) (by omega), sn_in (by omega) (by omega)⟩
theorem lw_loop {l : Launch} (hl : l.stackTraces = false) {L : Nat} (hL : L ≤ 3072) : ∀ (n t : Nat) (S : AS), jI S S → ax_fx S 67 0 0 = L → L < 6 * (t + n) + 6 → t ≤ 600 →
    ∀ (p : Program) (e : Env) (R : Room) (s : State) (m : MethodId) (args : Array Value) (below : List Frame) (meth : Method) (c : Code) (cells slots : Nat) (Q : State → Prop) (A : Nat → Prop) (ad : Nat → Nat → Nat) (ov : Value) (dC : Nat → ClassId) (dI : Nat → Nat → Nat) (cy : Nat → ClassId) (Ln : Nat) (xs : Nat → Int32),
    ax_Cx p l R s m args meth c A ad ov dC dI cy Ln xs ma_L_law 142 → xZ A s s.heap → cells + n ≤ R.cells → slots + 6 * n ≤ R.slots →
    (∀ Z a H locs ls, ax_In s A ad ov dC dI cy Ln xs 7 (1552, LL a, [.inl (.int 1)], Z) H locs ls → W p l e R s m args below meth c H locs (cells + n) (slots + 6 * n) Q (F0 m 1552 ls [.int 1])) →
    ∀ H locs ls, ax_In s A ad ov dC dI cy Ln xs 7 (23, LL (nI (6 * t)), [], S) H locs ls → W p l e R s m args below meth c H locs cells slots Q (F0 m 23 ls [])
  | 0, t, S, h, e9, hn, ht, p, e, R, s, m, args, below, meth, c, cells, slots, Q, A, ad, ov, dC, dI, cy, Ln, xs, hx, hz, hc, hs, hk, H, locs, ls, hi =>
    hd_out (l := l) (a4 := nI (6 * t)) (S := S) (by rw [e9]; exact (tst_lt hL (by omega)).mpr (by omega)) p e R s m args below meth c cells slots Q A ad ov dC dI cy Ln xs hx hc (by omega) (hk S (nI (6 * t))) H locs ls hi
  | n + 1, t, S, h, e9, hn, ht, p, e, R, s, m, args, below, meth, c, cells, slots, Q, A, ad, ov, dC, dI, cy, Ln, xs, hx, hz, hc, hs, hk, H, locs, ls, hi => by
    by_cases q : L < 6 * t + 6
    · refine W.widen (k := cells + (n + 1)) (n := slots + 6 * (n + 1)) (by omega) (by omega) ?_
      exact hd_out (l := l) (a4 := nI (6 * t)) (S := S) (by rw [e9]; exact (tst_lt hL (by omega)).mpr q) p e R s m args below meth c (cells + (n + 1)) (slots + 6 * (n + 1)) Q A ad ov dC dI cy Ln xs hx hc hs (hk S (nI (6 * t))) H locs ls hi
    · obtain ⟨Z, z1, z2, z3⟩ := turn (a4 := nI (6 * t)) hl h (gin_of e9 (by omega) hL) (by rw [e9]; exact sn_in (by omega) (by omega)) (by rw [e9]; exact fun z => q ((tst_lt hL (by omega)).mp z))
      have e6 : nI (6 * t) + (6 : Int32) = nI (6 * (t + 1)) := by
        rw [sn_6, nI_add, (by omega : 6 * t + 6 = 6 * (t + 1))]
      rw [e6] at z1
      refine z1 p e R s m args below meth c cells slots Q A ad ov dC dI cy Ln xs hx hz (by omega) (by omega) (fun H1 locs1 ls1 hi1 => ?_) H locs ls hi
      refine lw_loop hl hL n (t + 1) Z z3 (z2.1.trans e9) (by omega) (by omega) p e R s m args below meth c (cells + 1) (slots + 6) Q A ad ov dC dI cy Ln xs hx hz (by omega) (by omega) (fun Z2 a2 H2 locs2 ls2 hi2 => ?_) H1 locs1 ls1 hi1
      have := hk Z2 a2 H2 locs2 ls2 hi2
      rw [(by omega : cells + (n + 1) = cells + 1 + n), (by omega : slots + 6 * (n + 1) = slots + 6 + 6 * n)] at this
      exact this

/-! THE FIRST STATE, its addresses, its world (by program: wip/whole/mkda.py) -/
def cs_al (q11 q12 q63 b : Nat) (u v a64 a65 a66 : Nat → Nat) : List (Nat → Nat) := (fun i => u (44 + 6 * i)) :: (fun _ => u 30) :: (fun i => u (8 + 2 * i)) :: (fun _ => u 12) :: (fun i => u (33 + 4 * i)) :: (fun i => u (41 + 6 * i)) :: (fun _ => u 4) :: (fun _ => u 6) :: (fun _ => u 16) :: (fun i => u (21 + 3 * i)) :: (fun _ => u 2) :: (fun _ => q11) :: (fun _ => q12) :: (fun _ => 0) :: (fun _ => 0) :: (fun _ => 0) :: (fun _ => 0) :: (fun _ => 0) :: (fun _ => 0) :: (fun _ => 0) :: (fun i => u (45 + 6 * i)) :: (fun i => u (46 + 6 * i)) :: (fun _ => u 31) :: (fun i => u (9 + 2 * i)) :: (fun _ => u 13) :: (fun _ => u 14) :: (fun _ => u 15) :: (fun i => u (34 + 4 * i)) :: (fun i => u (35 + 4 * i)) :: (fun i => u (36 + 4 * i)) :: (fun i => u (42 + 6 * i)) :: (fun i => u (43 + 6 * i)) :: (fun _ => u 5) :: (fun _ => u 7) :: (fun _ => u 17) :: (fun _ => u 18) :: (fun _ => u 19) :: (fun _ => u 20) :: (fun i => u (22 + 3 * i)) :: (fun i => u (23 + 3 * i)) :: (fun _ => u 3) :: (fun _ => u 0) :: (fun _ => u 1) :: (fun _ => u 32) :: (fun i => v i) :: (fun _ => v 2) :: (fun _ => v 3) :: (fun _ => v 4) :: (fun _ => v 5) :: (fun _ => v 6) :: (fun _ => v 7) :: (fun _ => v 8) :: (fun _ => v 9) :: (fun _ => v 10) :: (fun _ => v 11) :: (fun _ => v 12) :: (fun _ => v 13) :: (fun _ => v 14) :: (fun _ => v 15) :: (fun _ => v 16) :: (fun _ => v 17) :: (fun _ => v 18) :: (fun _ => v 19) :: (fun _ => q63) :: (fun i => a64 i) :: (fun i => a65 i) :: (fun i => a66 i) :: (fun _ => b) :: []
def cs_ad (q11 q12 q63 b : Nat) (u v a64 a65 a66 : Nat → Nat) (k : Nat) : Nat → Nat := (cs_al q11 q12 q63 b u v a64 a65 a66).getD k (fun _ => 0)
def cs_fi (k j : Nat) : Int32 := if k = 11 then (if j = 18 then (-1) else 0) else if k = 10 then (if j = 3 then (-1) else 0) else if k = 1 then (if j = 2 then 1 else 0) else if k = 12 then (if j = 34 then (-1) else if j = 35 then 1 else 0) else 0
def cs_fx (k j : Nat) : Nat := if k = 11 then (if j = 15 then 1 else 0) else 0
def cs_S (L : Nat) (xs : Nat → Int32) : AS := (fun k _ j => cs_fi k j, fun _ _ _ => 0, fun k _ j => if k = 67 then L else cs_fx k j, fun _ _ _ => none, fun k _ j => if k = 67 then xs j else 0, fun _ _ _ => 0)
theorem cs_Sc {L : Nat} {xs : Nat → Int32} : ax_Sc L xs (cs_S L xs) := ⟨rfl, rfl⟩
def cs_vb (k i sl : Nat) : Bool := match ax_fs (ax_kd k).2.1 sl with
  | (2, q, _) => decide (i < ax_cn q)
  | (3, q, n) => decide (n < ax_cn q)
  | (4, q, _) => decide (cs_fx k sl < ax_cn q)
  | _ => true
set_option maxRecDepth 20000 in
theorem cs_vt : ∀ k, k < 64 → (ax_kd k).1 = 0 → ∀ i, i < ax_cn k → ∀ sl, sl < ax_nf (ax_kd k).2.1 → cs_vb k i sl = true := by decide +kernel
theorem cs_vS {L : Nat} {xs : Nat → Int32} : ax_vS (cs_S L xs) := by
  intro k i sl h1 h2 h3
  have hk := ax_kd_lt (k := k) (by omega)
  have hb := cs_vt k hk h1 i h2 sl h3
  unfold cs_vb at hb
  unfold ax_fv
  have h67 : ax_fx (cs_S L xs) k i sl = cs_fx k sl := if_neg (by omega)
  have hno : ax_fo (cs_S L xs) k i sl = none := rfl
  rw [h67, hno]
  generalize ax_fs (ax_kd k).2.1 sl = f at hb ⊢
  obtain ⟨t, q, n⟩ := f
  match t, hb with
  | 0, _ => exact ax_vv_i _
  | 1, _ => exact ax_vv_j _
  | 2, hb => exact ax_vv_r (of_decide_eq_true hb)
  | 3, hb => exact ax_vv_r (of_decide_eq_true hb)
  | 4, hb => exact ax_vv_r (of_decide_eq_true hb)
  | 5, _ => exact ax_vv_n
  | 6, _ => exact ax_vv_i _
  | 7, _ => exact ax_vv_i _
  | t + 8, _ => exact ax_vv_n
def cs_o11t : List (Nat × Nat) := (((((((((((((((((((((((([] ++ ((10, 0) :: (40, 0) :: [])) ++ ((6, 0) :: (32, 0) :: [])) ++ ((7, 0) :: (33, 0) :: [])) ++ ((2, 0) :: (23, 0) :: [])) ++ ((2, 1) :: (23, 1) :: [])) ++ ((3, 0) :: (24, 0) :: (25, 0) :: (26, 0) :: [])) ++ ((8, 0) :: (34, 0) :: (35, 0) :: (36, 0) :: (37, 0) :: [])) ++ ((9, 0) :: (38, 0) :: (39, 0) :: [])) ++ ((9, 1) :: (38, 1) :: (39, 1) :: [])) ++ ((9, 2) :: (38, 2) :: (39, 2) :: [])) ++ ((1, 0) :: (22, 0) :: [])) ++ ((43, 0) :: [])) ++ ((4, 0) :: (27, 0) :: (28, 0) :: (29, 0) :: [])) ++ ((4, 1) :: (27, 1) :: (28, 1) :: (29, 1) :: [])) ++ ((5, 0) :: (30, 0) :: (31, 0) :: [])) ++ ((0, 0) :: (20, 0) :: (21, 0) :: [])) ++ ((5, 1) :: (30, 1) :: (31, 1) :: [])) ++ ((0, 1) :: (20, 1) :: (21, 1) :: [])) ++ ((5, 2) :: (30, 2) :: (31, 2) :: [])) ++ ((0, 2) :: (20, 2) :: (21, 2) :: [])) ++ ((5, 3) :: (30, 3) :: (31, 3) :: [])) ++ ((0, 3) :: (20, 3) :: (21, 3) :: [])) ++ ((5, 4) :: (30, 4) :: (31, 4) :: [])) ++ ((0, 4) :: (20, 4) :: (21, 4) :: []))
def cs_o11 : List (Nat × Nat) := (11, 0) :: (41, 0) :: (42, 0) :: cs_o11t
def cs_o12 : List (Nat × Nat) := (12, 0) :: (44, 0) :: (44, 1) :: (45, 0) :: (46, 0) :: (47, 0) :: (48, 0) :: (49, 0) :: (50, 0) :: (51, 0) :: (52, 0) :: (53, 0) :: (54, 0) :: (55, 0) :: (56, 0) :: (57, 0) :: (58, 0) :: (59, 0) :: (60, 0) :: (61, 0) :: (62, 0) :: []
def cs_ord : List (Nat × Nat) := (cs_o11 ++ cs_o12) ++ [(63, 0)]
set_option maxRecDepth 20000 in
theorem cs_ord_in : ∀ x ∈ ax_ob, x ∈ cs_ord := by decide +kernel
def cs_E (ad : Nat → Nat → Nat) (ov : Value) (cy : Nat → ClassId) (S : AS) (x : Nat × Nat) : Nat × va_E := (ad x.1 x.2, ax_ce ad ov cy S x.1 x.2)
theorem cs_P {ad : Nat → Nat → Nat} {ov : Value} {cy : Nat → ClassId} {S : AS} {D : va_G} {H : Heap} (h : va_P D vwCl (cs_ord.map (cs_E ad ov cy S)) H) : va_P D vwCl (ax_gw ad ov cy S) H := by
  intro k q hk
  unfold ax_gw at hk
  rw [List.getElem?_map] at hk
  obtain ⟨x, hx, rfl⟩ := Option.map_eq_some_iff.mp hk
  obtain ⟨j, hj⟩ := List.mem_iff_getElem?.mp (cs_ord_in x (List.mem_of_getElem? hx))
  exact h j _ (by rw [List.getElem?_map, hj]; rfl)
theorem cs_D {ad : Nat → Nat → Nat} {ov : Value} {cy : Nat → ClassId} {S : AS} {A : Nat → Prop} (h : va_D A (cs_ord.map (cs_E ad ov cy S))) : va_D A (ax_gw ad ov cy S) := by
  have at' : ∀ (k : Nat) (q : Nat × va_E), (ax_gw ad ov cy S)[k]? = some q → ∃ (x : Nat × Nat) (j : Nat), ax_ob[k]? = some x ∧ cs_ord[j]? = some x ∧ q = cs_E ad ov cy S x ∧ (cs_ord.map (cs_E ad ov cy S))[j]? = some q := by
    intro k q hk
    unfold ax_gw at hk
    rw [List.getElem?_map] at hk
    obtain ⟨x, hx, rfl⟩ := Option.map_eq_some_iff.mp hk
    obtain ⟨j, hj⟩ := List.mem_iff_getElem?.mp (cs_ord_in x (List.mem_of_getElem? hx))
    exact ⟨x, j, hx, hj, rfl, by rw [List.getElem?_map, hj]; rfl⟩
  refine ⟨fun i j p q hp hq hpq => ?_, fun k q hk => ?_⟩
  · obtain ⟨x, a, x1, x2, x3, x4⟩ := at' i p hp
    obtain ⟨y, b, y1, y2, y3, y4⟩ := at' j q hq
    have hab := h.1 a b p q x4 y4 hpq
    subst hab
    have hxy : x = y := Option.some.inj (x2.symm.trans y2)
    subst hxy
    exact ax_nd_at x1 y1
  · obtain ⟨x, a, x1, x2, x3, x4⟩ := at' k q hk
    exact h.2 a q x4
section
variable {q11 q12 q63 b L : Nat} {u v a64 a65 a66 : Nat → Nat} {ov : Value} {cy : Nat → ClassId} {xs : Nat → Int32}
theorem cs_app {x y : va_W} {a b : List (Nat × Nat)} {E : Nat × Nat → Nat × va_E} (h1 : x = a.map E) (h2 : y = b.map E) : x ++ y = (a ++ b).map E := by rw [h1, h2, List.map_append]
theorem cs_b0 : w_X10 cy (u 2) (fun j => u (3 + j)) = List.map (cs_E (cs_ad q11 q12 q63 b u v a64 a65 a66) ov cy (cs_S L xs)) ((10, 0) :: (40, 0) :: []) := rfl
theorem cs_b1 : w_X6 cy (u 4) (fun j => u (5 + j)) = List.map (cs_E (cs_ad q11 q12 q63 b u v a64 a65 a66) ov cy (cs_S L xs)) ((6, 0) :: (32, 0) :: []) := rfl
theorem cs_b2 : w_X7 cy (u 6) (fun j => u (7 + j)) = List.map (cs_E (cs_ad q11 q12 q63 b u v a64 a65 a66) ov cy (cs_S L xs)) ((7, 0) :: (33, 0) :: []) := rfl
theorem cs_b3 : w_X2 cy (u 8) (fun j => u (9 + j)) = List.map (cs_E (cs_ad q11 q12 q63 b u v a64 a65 a66) ov cy (cs_S L xs)) ((2, 0) :: (23, 0) :: []) := rfl
theorem cs_b4 : w_X2 cy (u 10) (fun j => u (11 + j)) = List.map (cs_E (cs_ad q11 q12 q63 b u v a64 a65 a66) ov cy (cs_S L xs)) ((2, 1) :: (23, 1) :: []) := rfl
theorem cs_b5 : w_X3 cy (u 12) (fun j => u (13 + j)) = List.map (cs_E (cs_ad q11 q12 q63 b u v a64 a65 a66) ov cy (cs_S L xs)) ((3, 0) :: (24, 0) :: (25, 0) :: (26, 0) :: []) := rfl
theorem cs_b6 : w_X8 cy (u 16) (fun j => u (17 + j)) = List.map (cs_E (cs_ad q11 q12 q63 b u v a64 a65 a66) ov cy (cs_S L xs)) ((8, 0) :: (34, 0) :: (35, 0) :: (36, 0) :: (37, 0) :: []) := rfl
theorem cs_b7 : w_X9 cy (u 21) (fun j => u (22 + j)) = List.map (cs_E (cs_ad q11 q12 q63 b u v a64 a65 a66) ov cy (cs_S L xs)) ((9, 0) :: (38, 0) :: (39, 0) :: []) := rfl
theorem cs_b8 : w_X9 cy (u 24) (fun j => u (25 + j)) = List.map (cs_E (cs_ad q11 q12 q63 b u v a64 a65 a66) ov cy (cs_S L xs)) ((9, 1) :: (38, 1) :: (39, 1) :: []) := rfl
theorem cs_b9 : w_X9 cy (u 27) (fun j => u (28 + j)) = List.map (cs_E (cs_ad q11 q12 q63 b u v a64 a65 a66) ov cy (cs_S L xs)) ((9, 2) :: (38, 2) :: (39, 2) :: []) := rfl
theorem cs_b10 : w_X1 cy (u 30) (fun j => u (31 + j)) = List.map (cs_E (cs_ad q11 q12 q63 b u v a64 a65 a66) ov cy (cs_S L xs)) ((1, 0) :: (22, 0) :: []) := rfl
theorem cs_b11 : [(u 32, (.inl (cy 0, 8, .inl (fun _ => 0)) : va_E))] = List.map (cs_E (cs_ad q11 q12 q63 b u v a64 a65 a66) ov cy (cs_S L xs)) ((43, 0) :: []) := rfl
theorem cs_b12 : w_X4 cy (u 33) (fun j => u (34 + j)) = List.map (cs_E (cs_ad q11 q12 q63 b u v a64 a65 a66) ov cy (cs_S L xs)) ((4, 0) :: (27, 0) :: (28, 0) :: (29, 0) :: []) := rfl
theorem cs_b13 : w_X4 cy (u 37) (fun j => u (38 + j)) = List.map (cs_E (cs_ad q11 q12 q63 b u v a64 a65 a66) ov cy (cs_S L xs)) ((4, 1) :: (27, 1) :: (28, 1) :: (29, 1) :: []) := rfl
theorem cs_b14 : w_X5 cy (u 41) (fun j => u (42 + j)) = List.map (cs_E (cs_ad q11 q12 q63 b u v a64 a65 a66) ov cy (cs_S L xs)) ((5, 0) :: (30, 0) :: (31, 0) :: []) := rfl
theorem cs_b15 : w_X0 cy (u 44) (fun j => u (45 + j)) = List.map (cs_E (cs_ad q11 q12 q63 b u v a64 a65 a66) ov cy (cs_S L xs)) ((0, 0) :: (20, 0) :: (21, 0) :: []) := rfl
theorem cs_b16 : w_X5 cy (u 47) (fun j => u (48 + j)) = List.map (cs_E (cs_ad q11 q12 q63 b u v a64 a65 a66) ov cy (cs_S L xs)) ((5, 1) :: (30, 1) :: (31, 1) :: []) := rfl
theorem cs_b17 : w_X0 cy (u 50) (fun j => u (51 + j)) = List.map (cs_E (cs_ad q11 q12 q63 b u v a64 a65 a66) ov cy (cs_S L xs)) ((0, 1) :: (20, 1) :: (21, 1) :: []) := rfl
theorem cs_b18 : w_X5 cy (u 53) (fun j => u (54 + j)) = List.map (cs_E (cs_ad q11 q12 q63 b u v a64 a65 a66) ov cy (cs_S L xs)) ((5, 2) :: (30, 2) :: (31, 2) :: []) := rfl
theorem cs_b19 : w_X0 cy (u 56) (fun j => u (57 + j)) = List.map (cs_E (cs_ad q11 q12 q63 b u v a64 a65 a66) ov cy (cs_S L xs)) ((0, 2) :: (20, 2) :: (21, 2) :: []) := rfl
theorem cs_b20 : w_X5 cy (u 59) (fun j => u (60 + j)) = List.map (cs_E (cs_ad q11 q12 q63 b u v a64 a65 a66) ov cy (cs_S L xs)) ((5, 3) :: (30, 3) :: (31, 3) :: []) := rfl
theorem cs_b21 : w_X0 cy (u 62) (fun j => u (63 + j)) = List.map (cs_E (cs_ad q11 q12 q63 b u v a64 a65 a66) ov cy (cs_S L xs)) ((0, 3) :: (20, 3) :: (21, 3) :: []) := rfl
theorem cs_b22 : w_X5 cy (u 65) (fun j => u (66 + j)) = List.map (cs_E (cs_ad q11 q12 q63 b u v a64 a65 a66) ov cy (cs_S L xs)) ((5, 4) :: (30, 4) :: (31, 4) :: []) := rfl
theorem cs_b23 : w_X0 cy (u 68) (fun j => u (69 + j)) = List.map (cs_E (cs_ad q11 q12 q63 b u v a64 a65 a66) ov cy (cs_S L xs)) ((0, 4) :: (20, 4) :: (21, 4) :: []) := rfl
theorem cs_w11t : w_X11t cy u = cs_o11t.map (cs_E (cs_ad q11 q12 q63 b u v a64 a65 a66) ov cy (cs_S L xs)) := by
  unfold w_X11t cs_o11t
  exact (cs_app (cs_app (cs_app (cs_app (cs_app (cs_app (cs_app (cs_app (cs_app (cs_app (cs_app (cs_app (cs_app (cs_app (cs_app (cs_app (cs_app (cs_app (cs_app (cs_app (cs_app (cs_app (cs_app (cs_app (rfl : ([] : va_W) = List.map (cs_E (cs_ad q11 q12 q63 b u v a64 a65 a66) ov cy (cs_S L xs)) []) cs_b0) cs_b1) cs_b2) cs_b3) cs_b4) cs_b5) cs_b6) cs_b7) cs_b8) cs_b9) cs_b10) cs_b11) cs_b12) cs_b13) cs_b14) cs_b15) cs_b16) cs_b17) cs_b18) cs_b19) cs_b20) cs_b21) cs_b22) cs_b23)
theorem cs_h11 : w_X11 cy q11 u = (cs_E (cs_ad q11 q12 q63 b u v a64 a65 a66) ov cy (cs_S L xs)) (11, 0) :: (cs_E (cs_ad q11 q12 q63 b u v a64 a65 a66) ov cy (cs_S L xs)) (41, 0) :: (cs_E (cs_ad q11 q12 q63 b u v a64 a65 a66) ov cy (cs_S L xs)) (42, 0) :: w_X11t cy u := rfl
theorem cs_w11 : w_X11 cy q11 u = cs_o11.map (cs_E (cs_ad q11 q12 q63 b u v a64 a65 a66) ov cy (cs_S L xs)) := by
  unfold cs_o11
  rw [List.map_cons, List.map_cons, List.map_cons, ← cs_w11t]
  exact cs_h11
set_option maxHeartbeats 4000000 in
set_option maxRecDepth 20000 in
theorem cs_w12 : w_X12 (a64 5) (a64 3) cy q12 v = cs_o12.map (cs_E (cs_ad q11 q12 q63 b u v a64 a65 a66) ov cy (cs_S L xs)) := rfl
theorem cs_w63 : [(q63, (.inl (cy 3, 1, .inr (.inl (fun _ => 0))) : va_E))] = [(63, 0)].map (cs_E (cs_ad q11 q12 q63 b u v a64 a65 a66) ov cy (cs_S L xs)) := rfl
theorem cs_w0 : (w_X11 cy q11 u ++ w_X12 (a64 5) (a64 3) cy q12 v) ++ [(q63, (.inl (cy 3, 1, .inr (.inl (fun _ => 0))) : va_E))] = cs_ord.map (cs_E (cs_ad q11 q12 q63 b u v a64 a65 a66) ov cy (cs_S L xs)) := by
  unfold cs_ord
  rw [List.map_append, List.map_append, ← cs_w11, ← cs_w12, ← cs_w63]
theorem cs_la : ax_la (cs_ad q11 q12 q63 b u v a64 a65 a66) ov (LL (nI (6 * 0))) = [(0, .ref b), (1, .ref q11), (2, .ref q12), (3, .ref q63), (4, .int 0)] := rfl
theorem cs_vL {a : Int32} : ax_vL (LL a) := by
  intro w hw
  simp only [LL, List.mem_cons, Option.some.injEq, reduceCtorEq, List.not_mem_nil, or_false, false_or] at hw
  rcases hw with rfl | rfl | rfl | rfl | rfl
  · exact ax_vv_r (by decide)
  · exact ax_vv_r (by decide)
  · exact ax_vv_r (by decide)
  · exact ax_vv_r (by decide)
  · exact ax_vv_i _
end
/-- the first state stands alike -/
theorem cs_jI {L : Nat} {xs : Nat → Int32} : jI (cs_S L xs) (cs_S L xs) := by
  refine ⟨0, fun _ => 0, fun _ => 0, none, 0, fun _ => [], 0, fun _ => 0, fun _ => 0, 0, fun _ => 0, 0, fun _ => 0, fun _ => 0, 0, 0, fun _ => 0, 1, 0, 0, fun _ _ => 0, fun _ => 0, 0, ⟨?_, ?_, ?_, ?_, ?_, ?_, ?_, ?_⟩, ⟨?_, ?_, ?_, ?_, ?_⟩, ?_, ?_, ?_, ?_, ?_, ?_, ?_⟩
  · exact ⟨Nat.zero_le _, Nat.zero_le _, Nat.zero_le _, Nat.zero_le _, Nat.zero_le _, fun l h => absurd h (Nat.not_lt_zero _), fun v h => absurd h (Nat.not_lt_zero _)⟩
  · exact ⟨by decide, rfl, rfl, rfl, rfl, rfl, fun j _ => rfl, fun l h => absurd h (Nat.not_lt_zero _), fun v h => absurd h (Nat.not_lt_zero _)⟩
  · exact ⟨by decide, rfl, rfl, fun k h => absurd h (Nat.not_lt_zero _), Or.inl ⟨rfl, show cs_fi 11 18 = Int32.ofInt (-1) by decide, show cs_fi 12 34 = Int32.ofInt (-1) by decide, rfl⟩⟩
  · exact ⟨by decide, rfl, rfl, fun k h => absurd h (Nat.not_lt_zero _)⟩
  · exact ⟨by decide, rfl, rfl, fun k h => absurd h (Nat.not_lt_zero _)⟩
  · exact ⟨by decide, rfl, rfl, fun h => absurd h (by decide)⟩
  · exact ⟨by decide, rfl, rfl, fun k h => absurd h (Nat.not_lt_zero _)⟩
  · exact ⟨by decide, rfl, rfl⟩
  · exact ⟨rfl, rfl, fun j _ => rfl, fun l h => absurd h (Nat.not_lt_zero _), fun v h => absurd h (Nat.not_lt_zero _)⟩
  · exact ⟨by decide, fun k h => absurd h (Nat.not_lt_zero _)⟩
  · exact fun q _ => Or.inl rfl
  · intro k hk
    show la_cl (0 : Int32).toInt64 = 0
    decide
  · show cs_fi 12 34 = Int32.ofInt (-1)
    decide
  · exact ⟨fun v _ => ⟨Nat.zero_le _, Nat.zero_le _⟩, fun v _ _ => ⟨rfl, rfl⟩, fun l _ => Nat.zero_le _, fun l _ _ => rfl, Nat.zero_le _, Nat.zero_le _, Nat.zero_le _, Nat.zero_le _, Nat.zero_le _, Nat.zero_le _, Nat.zero_le _⟩
  · exact ⟨rfl, rfl, rfl, rfl, rfl, rfl, rfl, rfl, fun l _ => rfl, fun v _ => rfl⟩
  · exact fun j _ => rfl
  · exact ⟨by decide, by decide, rfl, rfl, rfl, fun a h => absurd h (Nat.not_lt_zero _)⟩
  · exact fun d h => absurd h (Nat.not_lt_zero _)
  · exact ⟨rfl, fun p h => absurd (show p < min 60 0 from h) (by omega)⟩
  · exact ⟨Nat.zero_le _, Nat.zero_le _, fun a h => absurd h (Nat.not_lt_zero _), fun _ => ⟨rfl, rfl⟩⟩

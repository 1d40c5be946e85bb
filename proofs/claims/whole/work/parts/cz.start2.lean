/-! THE START, further: texts, static rows, statics and constants (by program: wip/whole/mkcy.py) -/
section
variable {args : Array Value} {s : State} {A : Nat → Prop}
set_option maxRecDepth 20000 in
theorem ct_RX4_89 (hts : ∀ w ∈ lw_tbl, w.before args s = true) (hf : ∀ w ∈ cs_F, w.before args s = true) {a64 : Nat → Nat} (he : ∀ i : Nat, i < 6 → (cs_tm i).eval args s none [] s = some (.ref (a64 i))) : vk_R RX4 89 "thc" (a64 0) s := vk_R.of (cs_w hts 520 (w := Cond.stringRef RX4 89 "thc") (by decide +kernel)) (he 0 (by decide))
set_option maxRecDepth 20000 in
theorem ct_RX4_104 (hts : ∀ w ∈ lw_tbl, w.before args s = true) (hf : ∀ w ∈ cs_F, w.before args s = true) {a64 : Nat → Nat} (he : ∀ i : Nat, i < 6 → (cs_tm i).eval args s none [] s = some (.ref (a64 i))) : vk_R RX4 104 "wp" (a64 1) s := vk_R.of (cs_w hts 642 (w := Cond.stringRef RX4 104 "wp") (by decide +kernel)) (he 1 (by decide))
set_option maxRecDepth 20000 in
theorem ct_RX4_115 (hts : ∀ w ∈ lw_tbl, w.before args s = true) (hf : ∀ w ∈ cs_F, w.before args s = true) {a64 : Nat → Nat} (he : ∀ i : Nat, i < 6 → (cs_tm i).eval args s none [] s = some (.ref (a64 i))) : vk_R RX4 115 "nptbwla" (a64 2) s := vk_R.of (cs_w hts 653 (w := Cond.stringRef RX4 115 "nptbwla") (by decide +kernel)) (he 2 (by decide))
set_option maxRecDepth 20000 in
theorem ct_RX5_83 (hts : ∀ w ∈ lw_tbl, w.before args s = true) (hf : ∀ w ∈ cs_F, w.before args s = true) {a64 : Nat → Nat} (he : ∀ i : Nat, i < 6 → (cs_tm i).eval args s none [] s = some (.ref (a64 i))) : vk_R RX5 83 "nptgsd" (a64 3) s := vk_R.of (cs_w hts 703 (w := Cond.stringRef RX5 83 "nptgsd") (by decide +kernel)) (he 3 (by decide))
set_option maxRecDepth 20000 in
theorem ct_RX0_45 (hts : ∀ w ∈ lw_tbl, w.before args s = true) (hf : ∀ w ∈ cs_F, w.before args s = true) {a64 : Nat → Nat} (he : ∀ i : Nat, i < 6 → (cs_tm i).eval args s none [] s = some (.ref (a64 i))) : vk_R RX0 45 "ctghd" (a64 4) s := vk_R.of (cs_w hts 739 (w := Cond.stringRef RX0 45 "ctghd") (by decide +kernel)) (he 4 (by decide))
set_option maxRecDepth 20000 in
theorem ct_RX12_26 (hts : ∀ w ∈ lw_tbl, w.before args s = true) (hf : ∀ w ∈ cs_F, w.before args s = true) {a64 : Nat → Nat} (he : ∀ i : Nat, i < 6 → (cs_tm i).eval args s none [] s = some (.ref (a64 i))) : vk_R RX12 26 "y" (a64 5) s := vk_R.of (cs_w hts 1382 (w := Cond.stringRef RX12 26 "y") (by decide +kernel)) (he 5 (by decide))
set_option maxRecDepth 20000 in
theorem ct_RX12_32 (hts : ∀ w ∈ lw_tbl, w.before args s = true) (hf : ∀ w ∈ cs_F, w.before args s = true) {a64 : Nat → Nat} (he : ∀ i : Nat, i < 6 → (cs_tm i).eval args s none [] s = some (.ref (a64 i))) : vk_R RX12 32 "nptgsd" (a64 3) s := vk_R.of (cs_w hts 1383 (w := Cond.stringRef RX12 32 "nptgsd") (by decide +kernel)) (va_eqR (t := cs_tm 3) (hf (Cond.eq (cs_tm 3) (.string "NamedCallersModel" 32)) (by decide +kernel)) (he 3 (by decide)))
set_option maxRecDepth 20000 in
theorem ct_RX12_248 (hts : ∀ w ∈ lw_tbl, w.before args s = true) (hf : ∀ w ∈ cs_F, w.before args s = true) {a64 : Nat → Nat} (he : ∀ i : Nat, i < 6 → (cs_tm i).eval args s none [] s = some (.ref (a64 i))) : vk_R RX12 248 "thc" (a64 0) s := vk_R.of (cs_w hts 1585 (w := Cond.stringRef RX12 248 "thc") (by decide +kernel)) (va_eqR (t := cs_tm 0) (hf (Cond.eq (cs_tm 0) (.string "NamedCallersModel" 248)) (by decide +kernel)) (he 0 (by decide)))
set_option maxRecDepth 20000 in
theorem ct_RX12_254 (hts : ∀ w ∈ lw_tbl, w.before args s = true) (hf : ∀ w ∈ cs_F, w.before args s = true) {a64 : Nat → Nat} (he : ∀ i : Nat, i < 6 → (cs_tm i).eval args s none [] s = some (.ref (a64 i))) : vk_R RX12 254 "wp" (a64 1) s := vk_R.of (cs_w hts 1635 (w := Cond.stringRef RX12 254 "wp") (by decide +kernel)) (va_eqR (t := cs_tm 1) (hf (Cond.eq (cs_tm 1) (.string "NamedCallersModel" 254)) (by decide +kernel)) (he 1 (by decide)))
set_option maxRecDepth 20000 in
theorem ct_RX12_256 (hts : ∀ w ∈ lw_tbl, w.before args s = true) (hf : ∀ w ∈ cs_F, w.before args s = true) {a64 : Nat → Nat} (he : ∀ i : Nat, i < 6 → (cs_tm i).eval args s none [] s = some (.ref (a64 i))) : vk_R RX12 256 "nptbwla" (a64 2) s := vk_R.of (cs_w hts 1636 (w := Cond.stringRef RX12 256 "nptbwla") (by decide +kernel)) (va_eqR (t := cs_tm 2) (hf (Cond.eq (cs_tm 2) (.string "NamedCallersModel" 256)) (by decide +kernel)) (he 2 (by decide)))
set_option maxRecDepth 20000 in
theorem ct_RX12_264 (hts : ∀ w ∈ lw_tbl, w.before args s = true) (hf : ∀ w ∈ cs_F, w.before args s = true) {a64 : Nat → Nat} (he : ∀ i : Nat, i < 6 → (cs_tm i).eval args s none [] s = some (.ref (a64 i))) : vk_R RX12 264 "ctghd" (a64 4) s := vk_R.of (cs_w hts 1710 (w := Cond.stringRef RX12 264 "ctghd") (by decide +kernel)) (va_eqR (t := cs_tm 4) (hf (Cond.eq (cs_tm 4) (.string "NamedCallersModel" 264)) (by decide +kernel)) (he 4 (by decide)))
set_option maxRecDepth 20000 in
theorem cw_X1_23 : Cond.constantLong RX1 23 (6364136223846793005) ∈ ax_tb := ax_memi (ws := [Cond.constantLong RX1 23 (6364136223846793005)]) [998] rfl (by decide +kernel) _ List.mem_cons_self
set_option maxRecDepth 20000 in
theorem cw_X1_25 : Cond.constantLong RX1 25 (1442695040888963407) ∈ ax_tb := ax_memi (ws := [Cond.constantLong RX1 25 (1442695040888963407)]) [999] rfl (by decide +kernel) _ List.mem_cons_self
set_option maxRecDepth 20000 in
theorem cw_X1_27 : Cond.constantLong RX1 27 (1000000000) ∈ ax_tb := ax_memi (ws := [Cond.constantLong RX1 27 (1000000000)]) [1221] rfl (by decide +kernel) _ List.mem_cons_self
set_option maxRecDepth 20000 in
theorem cw_X1_29 : Cond.constantLong RX1 29 (100) ∈ ax_tb := ax_memi (ws := [Cond.constantLong RX1 29 (100)]) [1222] rfl (by decide +kernel) _ List.mem_cons_self
set_option maxRecDepth 20000 in
theorem cw_X4_36 : Cond.fieldLink RX4 36 "NamedCallers$House" "RULE_PLAIN" "[I" ∈ ax_tb := ax_memi (ws := [Cond.fieldLink RX4 36 "NamedCallers$House" "RULE_PLAIN" "[I"]) [491] rfl (by decide +kernel) _ List.mem_cons_self
set_option maxRecDepth 20000 in
theorem cw_X4_91 : Cond.fieldLink RX4 91 "NamedCallers$House" "RULE_LEAST" "[I" ∈ ax_tb := ax_memi (ws := [Cond.fieldLink RX4 91 "NamedCallers$House" "RULE_LEAST" "[I"]) [521] rfl (by decide +kernel) _ List.mem_cons_self
set_option maxRecDepth 20000 in
theorem cw_X4_94 : Cond.fieldLink RX4 94 "NamedCallers$House" "RULE_MOST" "[I" ∈ ax_tb := ax_memi (ws := [Cond.fieldLink RX4 94 "NamedCallers$House" "RULE_MOST" "[I"]) [523] rfl (by decide +kernel) _ List.mem_cons_self
set_option maxRecDepth 20000 in
theorem cw_X4_101 : Cond.fieldLink RX4 101 "NamedCallers$House" "LODGER_PLAIN" "[I" ∈ ax_tb := ax_memi (ws := [Cond.fieldLink RX4 101 "NamedCallers$House" "LODGER_PLAIN" "[I"]) [640] rfl (by decide +kernel) _ List.mem_cons_self
set_option maxRecDepth 20000 in
theorem cw_X4_106 : Cond.fieldLink RX4 106 "NamedCallers$House" "LODGER_LEAST" "[I" ∈ ax_tb := ax_memi (ws := [Cond.fieldLink RX4 106 "NamedCallers$House" "LODGER_LEAST" "[I"]) [643] rfl (by decide +kernel) _ List.mem_cons_self
set_option maxRecDepth 20000 in
theorem cw_X4_109 : Cond.fieldLink RX4 109 "NamedCallers$House" "LODGER_MOST" "[I" ∈ ax_tb := ax_memi (ws := [Cond.fieldLink RX4 109 "NamedCallers$House" "LODGER_MOST" "[I"]) [645] rfl (by decide +kernel) _ List.mem_cons_self
set_option maxRecDepth 20000 in
theorem cw_X4_112 : Cond.fieldLink RX4 112 "NamedCallers$House" "CALLER_PLAIN" "[I" ∈ ax_tb := ax_memi (ws := [Cond.fieldLink RX4 112 "NamedCallers$House" "CALLER_PLAIN" "[I"]) [651] rfl (by decide +kernel) _ List.mem_cons_self
set_option maxRecDepth 20000 in
theorem cw_X4_117 : Cond.fieldLink RX4 117 "NamedCallers$House" "CALLER_LEAST" "[I" ∈ ax_tb := ax_memi (ws := [Cond.fieldLink RX4 117 "NamedCallers$House" "CALLER_LEAST" "[I"]) [654] rfl (by decide +kernel) _ List.mem_cons_self
set_option maxRecDepth 20000 in
theorem cw_X4_120 : Cond.fieldLink RX4 120 "NamedCallers$House" "CALLER_MOST" "[I" ∈ ax_tb := ax_memi (ws := [Cond.fieldLink RX4 120 "NamedCallers$House" "CALLER_MOST" "[I"]) [656] rfl (by decide +kernel) _ List.mem_cons_self
set_option maxRecDepth 20000 in
theorem cw_X5_110 : Cond.constant RX5 110 (1000000) ∈ ax_tb := ax_memi (ws := [Cond.constant RX5 110 (1000000)]) [898] rfl (by decide +kernel) _ List.mem_cons_self
set_option maxRecDepth 20000 in
theorem cw_X5_113 : Cond.constant RX5 113 (-1000000) ∈ ax_tb := ax_memi (ws := [Cond.constant RX5 113 (-1000000)]) [900] rfl (by decide +kernel) _ List.mem_cons_self
set_option maxRecDepth 20000 in
theorem cw_X5_108 : Cond.constantLong RX5 108 (1000000) ∈ ax_tb := ax_memi (ws := [Cond.constantLong RX5 108 (1000000)]) [897] rfl (by decide +kernel) _ List.mem_cons_self
set_option maxRecDepth 20000 in
theorem cw_X5_111 : Cond.constantLong RX5 111 (-1000000) ∈ ax_tb := ax_memi (ws := [Cond.constantLong RX5 111 (-1000000)]) [899] rfl (by decide +kernel) _ List.mem_cons_self
set_option maxRecDepth 20000 in
theorem cw_X11_271 : Cond.constant RX11 271 (-1000000) ∈ ax_tb := ax_memi (ws := [Cond.constant RX11 271 (-1000000)]) [1041] rfl (by decide +kernel) _ List.mem_cons_self
set_option maxRecDepth 20000 in
theorem cw_X12_388 : Cond.constant RX12 388 (-1000000) ∈ ax_tb := ax_memi (ws := [Cond.constant RX12 388 (-1000000)]) [1862] rfl (by decide +kernel) _ List.mem_cons_self
set_option maxRecDepth 20000 in
theorem cw_X12_459 : Cond.constant RX12 459 (1000000000) ∈ ax_tb := ax_memi (ws := [Cond.constant RX12 459 (1000000000)]) [1963] rfl (by decide +kernel) _ List.mem_cons_self
set_option maxRecDepth 20000 in
theorem cw_X12_138 : Cond.constantLong RX12 138 (-1000000) ∈ ax_tb := ax_memi (ws := [Cond.constantLong RX12 138 (-1000000)]) [1687] rfl (by decide +kernel) _ List.mem_cons_self
set_option maxRecDepth 20000 in
theorem cw_X12_140 : Cond.constantLong RX12 140 (1000000) ∈ ax_tb := ax_memi (ws := [Cond.constantLong RX12 140 (1000000)]) [1688] rfl (by decide +kernel) _ List.mem_cons_self
set_option maxRecDepth 20000 in
theorem cw_X12_269 : Cond.constantLong RX12 269 (2) ∈ ax_tb := ax_memi (ws := [Cond.constantLong RX12 269 (2)]) [1558] rfl (by decide +kernel) _ List.mem_cons_self
set_option maxRecDepth 20000 in
theorem cw_X12_303 : Cond.constantLong RX12 303 (10) ∈ ax_tb := ax_memi (ws := [Cond.constantLong RX12 303 (10)]) [1774] rfl (by decide +kernel) _ List.mem_cons_self
set_option maxRecDepth 20000 in
theorem cw_X12_305 : Cond.constantLong RX12 305 (20) ∈ ax_tb := ax_memi (ws := [Cond.constantLong RX12 305 (20)]) [1775] rfl (by decide +kernel) _ List.mem_cons_self
set_option maxRecDepth 20000 in
theorem cw_X12_307 : Cond.constantLong RX12 307 (2000) ∈ ax_tb := ax_memi (ws := [Cond.constantLong RX12 307 (2000)]) [1776] rfl (by decide +kernel) _ List.mem_cons_self
set_option maxRecDepth 20000 in
theorem cw_X12_309 : Cond.constantLong RX12 309 (8191) ∈ ax_tb := ax_memi (ws := [Cond.constantLong RX12 309 (8191)]) [1777] rfl (by decide +kernel) _ List.mem_cons_self
set_option maxRecDepth 20000 in
theorem cw_X12_344 : Cond.constantLong RX12 344 (7) ∈ ax_tb := ax_memi (ws := [Cond.constantLong RX12 344 (7)]) [1740] rfl (by decide +kernel) _ List.mem_cons_self
set_option maxRecDepth 20000 in
theorem cw_X12_346 : Cond.constantLong RX12 346 (9) ∈ ax_tb := ax_memi (ws := [Cond.constantLong RX12 346 (9)]) [1753] rfl (by decide +kernel) _ List.mem_cons_self
set_option maxRecDepth 20000 in
theorem cw_X12_376 : Cond.constantLong RX12 376 (6364136223846793005) ∈ ax_tb := ax_memi (ws := [Cond.constantLong RX12 376 (6364136223846793005)]) [1844] rfl (by decide +kernel) _ List.mem_cons_self
set_option maxRecDepth 20000 in
theorem cw_X12_378 : Cond.constantLong RX12 378 (1442695040888963407) ∈ ax_tb := ax_memi (ws := [Cond.constantLong RX12 378 (1442695040888963407)]) [1845] rfl (by decide +kernel) _ List.mem_cons_self
set_option maxRecDepth 20000 in
theorem cw_X12_380 : Cond.constantLong RX12 380 (30) ∈ ax_tb := ax_memi (ws := [Cond.constantLong RX12 380 (30)]) [1839] rfl (by decide +kernel) _ List.mem_cons_self
set_option maxRecDepth 20000 in
theorem cw_X12_422 : Cond.constantLong RX12 422 (60) ∈ ax_tb := ax_memi (ws := [Cond.constantLong RX12 422 (60)]) [1910] rfl (by decide +kernel) _ List.mem_cons_self
set_option maxRecDepth 20000 in
theorem cw_X12_445 : Cond.constantLong RX12 445 (3) ∈ ax_tb := ax_memi (ws := [Cond.constantLong RX12 445 (3)]) [1949] rfl (by decide +kernel) _ List.mem_cons_self
set_option maxRecDepth 20000 in
theorem cw_X12_454 : Cond.constantLong RX12 454 (100) ∈ ax_tb := ax_memi (ws := [Cond.constantLong RX12 454 (100)]) [1962] rfl (by decide +kernel) _ List.mem_cons_self
set_option maxRecDepth 20000 in
theorem cw_L_92 : Cond.constantLong RL 92 (4294967295) ∈ ax_tb := ax_memi (ws := [Cond.constantLong RL 92 (4294967295)]) [2020] rfl (by decide +kernel) _ List.mem_cons_self
set_option maxRecDepth 20000 in
theorem cw_J0_38 : Cond.fieldLink RJ0 38 "java/lang/String" "COMPACT_STRINGS" "Z" ∈ ax_tb := ax_memi (ws := [Cond.fieldLink RJ0 38 "java/lang/String" "COMPACT_STRINGS" "Z"]) [536] rfl (by decide +kernel) _ List.mem_cons_self
set_option maxRecDepth 20000 in
theorem cw_J0_1053 : Cond.fieldLink RJ0 1053 "jdk/internal/util/Preconditions" "SIOOBE_FORMATTER" "Ljava/util/function/BiFunction;" ∈ ax_tb := ax_memi (ws := [Cond.fieldLink RJ0 1053 "jdk/internal/util/Preconditions" "SIOOBE_FORMATTER" "Ljava/util/function/BiFunction;"]) [584] rfl (by decide +kernel) _ List.mem_cons_self
set_option maxRecDepth 20000 in
theorem cw_J6_265 : Cond.constant RJ6 265 (1431655765) ∈ ax_tb := ax_memi (ws := [Cond.constant RJ6 265 (1431655765)]) [1174] rfl (by decide +kernel) _ List.mem_cons_self
set_option maxRecDepth 20000 in
theorem cw_J6_266 : Cond.constant RJ6 266 (858993459) ∈ ax_tb := ax_memi (ws := [Cond.constant RJ6 266 (858993459)]) [1175] rfl (by decide +kernel) _ List.mem_cons_self
set_option maxRecDepth 20000 in
theorem cw_J6_267 : Cond.constant RJ6 267 (252645135) ∈ ax_tb := ax_memi (ws := [Cond.constant RJ6 267 (252645135)]) [1176] rfl (by decide +kernel) _ List.mem_cons_self
theorem cs_const (hts : ∀ w ∈ lw_tbl, w.before args s = true) (hf : ∀ w ∈ cs_F, w.before args s = true) {a64 : Nat → Nat} (he : ∀ i : Nat, i < 6 → (cs_tm i).eval args s none [] s = some (.ref (a64 i))) {ad : Nat → Nat → Nat} (h64 : ad 64 = a64) : ∀ K ∈ ax_KL, ∀ q ∈ K.2.2.2.1, (∃ x, q.2 = .inl (.int x) ∧ Cond.constant K.2.1 q.1 x ∈ ax_tb) ∨ (∃ x, q.2 = .inl (.long x) ∧ Cond.constantLong K.2.1 q.1 x ∈ ax_tb) ∨ ∃ n tx, q.2 = .inr (64, n) ∧ vk_R K.2.1 q.1 tx (ad 64 n) s :=
  List.forall_mem_cons.mpr ⟨List.forall_mem_cons.mpr ⟨Or.inr (Or.inr ⟨4, "ctghd", rfl, by rw [h64]; exact ct_RX0_45 hts hf he⟩), fun _ h => absurd h List.not_mem_nil⟩, List.forall_mem_cons.mpr ⟨List.forall_mem_cons.mpr ⟨Or.inr (Or.inl ⟨(6364136223846793005), rfl, cw_X1_23⟩), List.forall_mem_cons.mpr ⟨Or.inr (Or.inl ⟨(1442695040888963407), rfl, cw_X1_25⟩), List.forall_mem_cons.mpr ⟨Or.inr (Or.inl ⟨(1000000000), rfl, cw_X1_27⟩), List.forall_mem_cons.mpr ⟨Or.inr (Or.inl ⟨(100), rfl, cw_X1_29⟩), fun _ h => absurd h List.not_mem_nil⟩⟩⟩⟩, List.forall_mem_cons.mpr ⟨fun _ h => absurd h List.not_mem_nil, List.forall_mem_cons.mpr ⟨fun _ h => absurd h List.not_mem_nil, List.forall_mem_cons.mpr ⟨List.forall_mem_cons.mpr ⟨Or.inr (Or.inr ⟨0, "thc", rfl, by rw [h64]; exact ct_RX4_89 hts hf he⟩), List.forall_mem_cons.mpr ⟨Or.inr (Or.inr ⟨1, "wp", rfl, by rw [h64]; exact ct_RX4_104 hts hf he⟩), List.forall_mem_cons.mpr ⟨Or.inr (Or.inr ⟨2, "nptbwla", rfl, by rw [h64]; exact ct_RX4_115 hts hf he⟩), fun _ h => absurd h List.not_mem_nil⟩⟩⟩, List.forall_mem_cons.mpr ⟨List.forall_mem_cons.mpr ⟨Or.inl ⟨(1000000), rfl, cw_X5_110⟩, List.forall_mem_cons.mpr ⟨Or.inl ⟨(-1000000), rfl, cw_X5_113⟩, List.forall_mem_cons.mpr ⟨Or.inr (Or.inl ⟨(1000000), rfl, cw_X5_108⟩), List.forall_mem_cons.mpr ⟨Or.inr (Or.inl ⟨(-1000000), rfl, cw_X5_111⟩), List.forall_mem_cons.mpr ⟨Or.inr (Or.inr ⟨3, "nptgsd", rfl, by rw [h64]; exact ct_RX5_83 hts hf he⟩), fun _ h => absurd h List.not_mem_nil⟩⟩⟩⟩⟩, List.forall_mem_cons.mpr ⟨fun _ h => absurd h List.not_mem_nil, List.forall_mem_cons.mpr ⟨fun _ h => absurd h List.not_mem_nil, List.forall_mem_cons.mpr ⟨fun _ h => absurd h List.not_mem_nil, List.forall_mem_cons.mpr ⟨fun _ h => absurd h List.not_mem_nil, List.forall_mem_cons.mpr ⟨fun _ h => absurd h List.not_mem_nil, List.forall_mem_cons.mpr ⟨List.forall_mem_cons.mpr ⟨Or.inl ⟨(-1000000), rfl, cw_X11_271⟩, fun _ h => absurd h List.not_mem_nil⟩, List.forall_mem_cons.mpr ⟨List.forall_mem_cons.mpr ⟨Or.inl ⟨(-1000000), rfl, cw_X12_388⟩, List.forall_mem_cons.mpr ⟨Or.inl ⟨(1000000000), rfl, cw_X12_459⟩, List.forall_mem_cons.mpr ⟨Or.inr (Or.inl ⟨(-1000000), rfl, cw_X12_138⟩), List.forall_mem_cons.mpr ⟨Or.inr (Or.inl ⟨(1000000), rfl, cw_X12_140⟩), List.forall_mem_cons.mpr ⟨Or.inr (Or.inl ⟨(2), rfl, cw_X12_269⟩), List.forall_mem_cons.mpr ⟨Or.inr (Or.inl ⟨(10), rfl, cw_X12_303⟩), List.forall_mem_cons.mpr ⟨Or.inr (Or.inl ⟨(20), rfl, cw_X12_305⟩), List.forall_mem_cons.mpr ⟨Or.inr (Or.inl ⟨(2000), rfl, cw_X12_307⟩), List.forall_mem_cons.mpr ⟨Or.inr (Or.inl ⟨(8191), rfl, cw_X12_309⟩), List.forall_mem_cons.mpr ⟨Or.inr (Or.inl ⟨(7), rfl, cw_X12_344⟩), List.forall_mem_cons.mpr ⟨Or.inr (Or.inl ⟨(9), rfl, cw_X12_346⟩), List.forall_mem_cons.mpr ⟨Or.inr (Or.inl ⟨(6364136223846793005), rfl, cw_X12_376⟩), List.forall_mem_cons.mpr ⟨Or.inr (Or.inl ⟨(1442695040888963407), rfl, cw_X12_378⟩), List.forall_mem_cons.mpr ⟨Or.inr (Or.inl ⟨(30), rfl, cw_X12_380⟩), List.forall_mem_cons.mpr ⟨Or.inr (Or.inl ⟨(60), rfl, cw_X12_422⟩), List.forall_mem_cons.mpr ⟨Or.inr (Or.inl ⟨(3), rfl, cw_X12_445⟩), List.forall_mem_cons.mpr ⟨Or.inr (Or.inl ⟨(100), rfl, cw_X12_454⟩), List.forall_mem_cons.mpr ⟨Or.inr (Or.inr ⟨5, "y", rfl, by rw [h64]; exact ct_RX12_26 hts hf he⟩), List.forall_mem_cons.mpr ⟨Or.inr (Or.inr ⟨3, "nptgsd", rfl, by rw [h64]; exact ct_RX12_32 hts hf he⟩), List.forall_mem_cons.mpr ⟨Or.inr (Or.inr ⟨0, "thc", rfl, by rw [h64]; exact ct_RX12_248 hts hf he⟩), List.forall_mem_cons.mpr ⟨Or.inr (Or.inr ⟨1, "wp", rfl, by rw [h64]; exact ct_RX12_254 hts hf he⟩), List.forall_mem_cons.mpr ⟨Or.inr (Or.inr ⟨2, "nptbwla", rfl, by rw [h64]; exact ct_RX12_256 hts hf he⟩), List.forall_mem_cons.mpr ⟨Or.inr (Or.inr ⟨4, "ctghd", rfl, by rw [h64]; exact ct_RX12_264 hts hf he⟩), fun _ h => absurd h List.not_mem_nil⟩⟩⟩⟩⟩⟩⟩⟩⟩⟩⟩⟩⟩⟩⟩⟩⟩⟩⟩⟩⟩⟩⟩, List.forall_mem_cons.mpr ⟨List.forall_mem_cons.mpr ⟨Or.inr (Or.inl ⟨(4294967295), rfl, cw_L_92⟩), fun _ h => absurd h List.not_mem_nil⟩, List.forall_mem_cons.mpr ⟨fun _ h => absurd h List.not_mem_nil, List.forall_mem_cons.mpr ⟨fun _ h => absurd h List.not_mem_nil, List.forall_mem_cons.mpr ⟨fun _ h => absurd h List.not_mem_nil, List.forall_mem_cons.mpr ⟨List.forall_mem_cons.mpr ⟨Or.inl ⟨(1431655765), rfl, cw_J6_265⟩, List.forall_mem_cons.mpr ⟨Or.inl ⟨(858993459), rfl, cw_J6_266⟩, List.forall_mem_cons.mpr ⟨Or.inl ⟨(252645135), rfl, cw_J6_267⟩, fun _ h => absurd h List.not_mem_nil⟩⟩⟩, List.forall_mem_cons.mpr ⟨fun _ h => absurd h List.not_mem_nil, fun _ h => absurd h List.not_mem_nil⟩⟩⟩⟩⟩⟩⟩⟩⟩⟩⟩⟩⟩⟩⟩⟩⟩⟩⟩
theorem cs_stat (hts : ∀ w ∈ lw_tbl, w.before args s = true) (hf : ∀ w ∈ cs_F, w.before args s = true) {a66 : Nat → Nat} (hr : ∀ t : Nat, t < 9 → (cs_st t).eval args s none [] s = some (.ref (a66 t)) ∧ va_T .int (a66 t) ((ax_LN.getD 66 []).getD t 0) (fun j => .int (((ax_CT.getD 66 []).getD t []).getD j 0)) A s s.heap) {ad : Nat → Nat → Nat} {ov : Value} (h66 : ad 66 = a66) (hA : ∀ a : Nat, a < s.heap.size → ¬ A a) (hv : va_Z "jdk/internal/util/Preconditions" "SIOOBE_FORMATTER" "Ljava/util/function/BiFunction;" ov A s s.heap) : ∀ K ∈ ax_KL, ∀ q ∈ K.2.2.2.2, ∃ C n d, Cond.fieldLink K.2.1 q.1 C n d ∈ ax_tb ∧ va_Z C n d (ax_cv ad ov q.2) A s s.heap := by
  have hH : (Cond.initialized "NamedCallers$House").before args s = true := cs_w hts 112 (by decide +kernel)
  have h38 : va_Z "java/lang/String" "COMPACT_STRINGS" "Z" (.int 1) A s s.heap := va_Zof (cs_w hts 537 (by decide +kernel)) (cs_w hts 117 (by decide +kernel)) (va_eqt (hf _ (by decide +kernel))) hA
  exact List.forall_mem_cons.mpr ⟨fun _ h => absurd h List.not_mem_nil, List.forall_mem_cons.mpr ⟨fun _ h => absurd h List.not_mem_nil, List.forall_mem_cons.mpr ⟨fun _ h => absurd h List.not_mem_nil, List.forall_mem_cons.mpr ⟨fun _ h => absurd h List.not_mem_nil, List.forall_mem_cons.mpr ⟨List.forall_mem_cons.mpr ⟨⟨"NamedCallers$House", "RULE_PLAIN", "[I", cw_X4_36, by rw [ax_cv_k (k := 66) (by decide), h66]; exact va_Zof (hts _ (cs_rly 0 (by decide))) hH (hr 0 (by decide)).1 hA⟩, List.forall_mem_cons.mpr ⟨⟨"NamedCallers$House", "RULE_LEAST", "[I", cw_X4_91, by rw [ax_cv_k (k := 66) (by decide), h66]; exact va_Zof (hts _ (cs_rly 1 (by decide))) hH (hr 1 (by decide)).1 hA⟩, List.forall_mem_cons.mpr ⟨⟨"NamedCallers$House", "RULE_MOST", "[I", cw_X4_94, by rw [ax_cv_k (k := 66) (by decide), h66]; exact va_Zof (hts _ (cs_rly 2 (by decide))) hH (hr 2 (by decide)).1 hA⟩, List.forall_mem_cons.mpr ⟨⟨"NamedCallers$House", "LODGER_PLAIN", "[I", cw_X4_101, by rw [ax_cv_k (k := 66) (by decide), h66]; exact va_Zof (hts _ (cs_rly 3 (by decide))) hH (hr 3 (by decide)).1 hA⟩, List.forall_mem_cons.mpr ⟨⟨"NamedCallers$House", "LODGER_LEAST", "[I", cw_X4_106, by rw [ax_cv_k (k := 66) (by decide), h66]; exact va_Zof (hts _ (cs_rly 4 (by decide))) hH (hr 4 (by decide)).1 hA⟩, List.forall_mem_cons.mpr ⟨⟨"NamedCallers$House", "LODGER_MOST", "[I", cw_X4_109, by rw [ax_cv_k (k := 66) (by decide), h66]; exact va_Zof (hts _ (cs_rly 5 (by decide))) hH (hr 5 (by decide)).1 hA⟩, List.forall_mem_cons.mpr ⟨⟨"NamedCallers$House", "CALLER_PLAIN", "[I", cw_X4_112, by rw [ax_cv_k (k := 66) (by decide), h66]; exact va_Zof (hts _ (cs_rly 6 (by decide))) hH (hr 6 (by decide)).1 hA⟩, List.forall_mem_cons.mpr ⟨⟨"NamedCallers$House", "CALLER_LEAST", "[I", cw_X4_117, by rw [ax_cv_k (k := 66) (by decide), h66]; exact va_Zof (hts _ (cs_rly 7 (by decide))) hH (hr 7 (by decide)).1 hA⟩, List.forall_mem_cons.mpr ⟨⟨"NamedCallers$House", "CALLER_MOST", "[I", cw_X4_120, by rw [ax_cv_k (k := 66) (by decide), h66]; exact va_Zof (hts _ (cs_rly 8 (by decide))) hH (hr 8 (by decide)).1 hA⟩, fun _ h => absurd h List.not_mem_nil⟩⟩⟩⟩⟩⟩⟩⟩⟩, List.forall_mem_cons.mpr ⟨fun _ h => absurd h List.not_mem_nil, List.forall_mem_cons.mpr ⟨fun _ h => absurd h List.not_mem_nil, List.forall_mem_cons.mpr ⟨fun _ h => absurd h List.not_mem_nil, List.forall_mem_cons.mpr ⟨fun _ h => absurd h List.not_mem_nil, List.forall_mem_cons.mpr ⟨fun _ h => absurd h List.not_mem_nil, List.forall_mem_cons.mpr ⟨fun _ h => absurd h List.not_mem_nil, List.forall_mem_cons.mpr ⟨fun _ h => absurd h List.not_mem_nil, List.forall_mem_cons.mpr ⟨fun _ h => absurd h List.not_mem_nil, List.forall_mem_cons.mpr ⟨fun _ h => absurd h List.not_mem_nil, List.forall_mem_cons.mpr ⟨List.forall_mem_cons.mpr ⟨⟨"java/lang/String", "COMPACT_STRINGS", "Z", cw_J0_38, h38⟩, List.forall_mem_cons.mpr ⟨⟨"jdk/internal/util/Preconditions", "SIOOBE_FORMATTER", "Ljava/util/function/BiFunction;", cw_J0_1053, hv⟩, fun _ h => absurd h List.not_mem_nil⟩⟩, List.forall_mem_cons.mpr ⟨fun _ h => absurd h List.not_mem_nil, List.forall_mem_cons.mpr ⟨fun _ h => absurd h List.not_mem_nil, List.forall_mem_cons.mpr ⟨fun _ h => absurd h List.not_mem_nil, List.forall_mem_cons.mpr ⟨fun _ h => absurd h List.not_mem_nil, fun _ h => absurd h List.not_mem_nil⟩⟩⟩⟩⟩⟩⟩⟩⟩⟩⟩⟩⟩⟩⟩⟩⟩⟩⟩
theorem cs_Ct (hts : ∀ w ∈ lw_tbl, w.before args s = true) (h : (Jvm.Cond.and given_1 narrow_1).before args s = true) (hA : ∀ a : Nat, a < s.heap.size → ¬ A a) {b L : Nat} {xs : Nat → Int32} (hX : va_X b L xs s s.heap) (hbl : b < s.heap.size) : ∃ (a64 a65 a66 : Nat → Nat) (ov : Value), (ov = .null ∨ ∃ t, ov = .ref t) ∧ g_X12 (a64 5) (a64 3) s ∧ ∀ ad : Nat → Nat → Nat, ad 64 = a64 → ad 65 = a65 → ad 66 = a66 → ad 67 0 = b → ax_Ct ad ov L xs A s s.heap := by
  have hf := flat_of_before _ h
  obtain ⟨a64, a65, h1, he⟩ := cs_str h hA
  obtain ⟨a66, hr⟩ := cs_rows h hA
  have hq : va_Zq "jdk/internal/util/Preconditions" "SIOOBE_FORMATTER" "Ljava/util/function/BiFunction;" A s s.heap := va_Zqof (cs_w hts 585 (by decide +kernel)) (cs_w hts 121 (by decide +kernel)) (hf _ (by decide +kernel)) hA
  obtain ⟨ov, hov, hv⟩ : ∃ ov : Value, (ov = .null ∨ ∃ t, ov = .ref t) ∧ va_Z "jdk/internal/util/Preconditions" "SIOOBE_FORMATTER" "Ljava/util/function/BiFunction;" ov A s s.heap := by
    rcases hq with hq | ⟨t, hq⟩
    · exact ⟨.null, Or.inl rfl, hq⟩
    · exact ⟨.ref t, Or.inr ⟨t, rfl⟩, hq⟩
  refine ⟨a64, a65, a66, ov, hov, ⟨ct_RX12_26 hts hf he, ct_RX12_32 hts hf he⟩, fun ad e4 e5 e6 e7 => ⟨by rw [e4, e5]; exact h1, fun t ht => by rw [e6]; exact (hr t ht).2, cs_stat hts hf hr e6 hA hv, cs_const hts hf he e4, ?_⟩⟩
  obtain ⟨scr, x1, x2, x3, x4, x5⟩ := hX
  rw [e7]
  exact ⟨scr, x1, x2, x3, by omega, by rw [x4], x5, hA b hbl⟩
end

/-! THE LAW's loop: one function a case, from the loop's head to the head again -/
def ma_L_law : AM := (ka_L, x, code, 7, some .boolean, 1, true)
theorem ok_L_law : ma_L_law.1 ∈ ax_KL ∧ True := ⟨List.mem_of_getElem? (i := 13) rfl, trivial⟩
section AXLW
variable {l : Launch} {d : Nat} {k : AM} {pc : Nat} {L L' : AL} {st st' : List AV} {S S' Z : AS} {c2 : AC}
theorem ax_Rdrop (bs : List Bool) (h : ax_msk bs L = L') (hr : ax_R l d k (pc, L', st, S) c2) : ax_R l d k (pc, L, st, S) c2 := by
  subst h
  exact (ax_drop bs).tr hr
theorem ax_Ralc {ka i n : Nat} {j : Int32} (hok : k.1 ∈ ax_KL) (hd : decode k.2.2.1 pc = .ok (.iaload, 1)) (h1 : (ax_kd ka).1 = 2 ∧ (ax_kd ka).2.1 = 0) (hn : ax_ln S ka i = n) (g : ax_in j n = true) (hr : ax_R l d k (pc + 1, L, .inl (.int (ax_rd S ka i j.toNatClampNeg)) :: st, S) c2) : ax_R l d k (pc, L, .inl (.int j) :: .inr (ka, i) :: st, S) c2 := by
  subst hn
  exact ax_R.tr (c2 := (pc + 1, L, .inl (.int (ax_rd S ka i j.toNatClampNeg)) :: st, S)) (ax_step (i := .iaload) hok hd (if_pos ⟨Or.inr h1.1, h1.2, g⟩)) hr
end AXLW
def fb_case0 (a4 : Int32) (S : AS) : Option (Option AS) := ax_gd (ax_in (a4 + (1 : Int32)) (ax_fx S 67 0 0)) (ax_gd (ax_in (a4 + (2 : Int32)) (ax_fx S 67 0 0)) (ax_gd (ax_in (a4 + (3 : Int32)) (ax_fx S 67 0 0)) (ax_gd (ax_in (a4 + (4 : Int32)) (ax_fx S 67 0 0)) (ax_gd (ax_in (a4 + (5 : Int32)) (ax_fx S 67 0 0)) (ax_bu (f_X11_feed (ax_rd S 67 0 (a4 + (1 : Int32)).toNatClampNeg) (ax_rd S 67 0 (a4 + (2 : Int32)).toNatClampNeg) (ax_rd S 67 0 (a4 + (3 : Int32)).toNatClampNeg) (ax_rd S 67 0 (a4 + (4 : Int32)).toNatClampNeg) (ax_rd S 67 0 (a4 + (5 : Int32)).toNatClampNeg) S) (fun (r9 : Int32) (S6 : AS) => ax_gd (ax_in (a4 + (1 : Int32)) (ax_fx S6 67 0 0)) (ax_gd (ax_in (a4 + (2 : Int32)) (ax_fx S6 67 0 0)) (ax_gd (ax_in (a4 + (3 : Int32)) (ax_fx S6 67 0 0)) (ax_gd (ax_in (a4 + (4 : Int32)) (ax_fx S6 67 0 0)) (ax_gd (ax_in (a4 + (5 : Int32)) (ax_fx S6 67 0 0)) (ax_bu (f_X12_feed (ax_rd S6 67 0 (a4 + (1 : Int32)).toNatClampNeg) (ax_rd S6 67 0 (a4 + (2 : Int32)).toNatClampNeg) (ax_rd S6 67 0 (a4 + (3 : Int32)).toNatClampNeg) (ax_rd S6 67 0 (a4 + (4 : Int32)).toNatClampNeg) (ax_rd S6 67 0 (a4 + (5 : Int32)).toNatClampNeg) S6) (fun (r18 : Int32) (S15 : AS) => (if r9 = r18 then ax_let (a4 + (6 : Int32)) (fun (v20 : Int32) => some (some S15)) else none)))))))))))))
def fb_case1 (a4 : Int32) (S : AS) : Option (Option AS) := ax_gd (ax_in (a4 + (1 : Int32)) (ax_fx S 67 0 0)) (ax_bu (f_X11_end (ax_rd S 67 0 (a4 + (1 : Int32)).toNatClampNeg) S) (fun (r5 : Int32) (S2 : AS) => ax_gd (ax_in (a4 + (1 : Int32)) (ax_fx S2 67 0 0)) (ax_bu (f_X12_end (ax_rd S2 67 0 (a4 + (1 : Int32)).toNatClampNeg) S2) (fun (r10 : Int32) (S7 : AS) => (if r5 = r10 then ax_let (a4 + (6 : Int32)) (fun (v12 : Int32) => some (some S7)) else none)))))
def fb_case2 (a4 : Int32) (S : AS) : Option (Option AS) := ax_gd (ax_in (a4 + (1 : Int32)) (ax_fx S 67 0 0)) (ax_bu (f_X11_fault (ax_rd S 67 0 (a4 + (1 : Int32)).toNatClampNeg) S) (fun (r5 : Int32) (S2 : AS) => ax_gd (ax_in (a4 + (1 : Int32)) (ax_fx S2 67 0 0)) (ax_bu (f_X12_fault (ax_rd S2 67 0 (a4 + (1 : Int32)).toNatClampNeg) S2) (fun (r10 : Int32) (S7 : AS) => (if r5 = r10 then ax_let (a4 + (6 : Int32)) (fun (v12 : Int32) => some (some S7)) else none)))))
def fb_case3 (a4 : Int32) (S : AS) : Option (Option AS) := ax_gd (ax_in (a4 + (1 : Int32)) (ax_fx S 67 0 0)) (ax_bu (f_X11_text (ax_rd S 67 0 (a4 + (1 : Int32)).toNatClampNeg) S) (fun (r5 : Int32) (S2 : AS) => ax_gd (ax_in (a4 + (1 : Int32)) (ax_fx S2 67 0 0)) (ax_bu (f_X12_text (ax_rd S2 67 0 (a4 + (1 : Int32)).toNatClampNeg) S2) (fun (r10 : Int32) (S7 : AS) => (if r5 = r10 then ax_let (a4 + (6 : Int32)) (fun (v12 : Int32) => some (some S7)) else none)))))
def fb_case4 (a4 : Int32) (S : AS) : Option (Option AS) := ax_gd (ax_in (a4 + (1 : Int32)) (ax_fx S 67 0 0)) ((f_X11_rule (ax_rd S 67 0 (a4 + (1 : Int32)).toNatClampNeg) S).bind (fun (r5 : Int32) => ax_gd (ax_in (a4 + (1 : Int32)) (ax_fx S 67 0 0)) (ax_bu (f_X12_rule (ax_rd S 67 0 (a4 + (1 : Int32)).toNatClampNeg) S) (fun (r10 : Int32) (S7 : AS) => (if r5 = r10 then ax_let (a4 + (6 : Int32)) (fun (v12 : Int32) => some (some S7)) else none)))))
def fb_case5 (a4 : Int32) (S : AS) : Option (Option AS) := ax_gd (ax_in (a4 + (1 : Int32)) (ax_fx S 67 0 0)) (ax_gd (ax_in (a4 + (2 : Int32)) (ax_fx S 67 0 0)) ((f_X11_lodger (ax_rd S 67 0 (a4 + (1 : Int32)).toNatClampNeg) (ax_rd S 67 0 (a4 + (2 : Int32)).toNatClampNeg) S).bind (fun (r6 : Int32) => ax_gd (ax_in (a4 + (1 : Int32)) (ax_fx S 67 0 0)) (ax_gd (ax_in (a4 + (2 : Int32)) (ax_fx S 67 0 0)) (ax_bu (f_X12_lodger (ax_rd S 67 0 (a4 + (1 : Int32)).toNatClampNeg) (ax_rd S 67 0 (a4 + (2 : Int32)).toNatClampNeg) S) (fun (r12 : Int32) (S9 : AS) => (if r6 = r12 then ax_let (a4 + (6 : Int32)) (fun (v14 : Int32) => some (some S9)) else none)))))))
def fb_case6 (a4 : Int32) (S : AS) : Option (Option AS) := ax_gd (ax_in (a4 + (1 : Int32)) (ax_fx S 67 0 0)) (ax_gd (ax_in (a4 + (2 : Int32)) (ax_fx S 67 0 0)) (none))
def fb_case7 (a4 : Int32) (S : AS) : Option (Option AS) := ax_gd (ax_in (a4 + (1 : Int32)) (ax_fx S 67 0 0)) (ax_bu (f_X11_law (ax_rd S 67 0 (a4 + (1 : Int32)).toNatClampNeg) S) (fun (r5 : Int32) (S2 : AS) => ax_gd (ax_in (a4 + (1 : Int32)) (ax_fx S2 67 0 0)) (ax_bu (f_X12_law (ax_rd S2 67 0 (a4 + (1 : Int32)).toNatClampNeg) S2) (fun (r10 : Int32) (S7 : AS) => (if r5 = r10 then ax_let (a4 + (6 : Int32)) (fun (v12 : Int32) => some (some S7)) else none)))))
def fb_case8 (a4 : Int32) (S : AS) : Option (Option AS) := ax_gd (ax_in (a4 + (1 : Int32)) (ax_fx S 67 0 0)) (ax_bu (f_X11_whim (ax_rd S 67 0 (a4 + (1 : Int32)).toNatClampNeg) S) (fun (r5 : Int32) (S2 : AS) => ax_gd (ax_in (a4 + (1 : Int32)) (ax_fx S2 67 0 0)) (ax_bu (f_X12_whim (ax_rd S2 67 0 (a4 + (1 : Int32)).toNatClampNeg) S2) (fun (r10 : Int32) (S7 : AS) => (if r5 = r10 then ax_let (a4 + (6 : Int32)) (fun (v12 : Int32) => some (some S7)) else none)))))
def fb_case9 (a4 : Int32) (S : AS) : Option (Option AS) := ax_gd (ax_in (a4 + (1 : Int32)) (ax_fx S 67 0 0)) (ax_bu (f_X11_announce (ax_rd S 67 0 (a4 + (1 : Int32)).toNatClampNeg) S) (fun (r5 : Int32) (S2 : AS) => ax_gd (ax_in (a4 + (1 : Int32)) (ax_fx S2 67 0 0)) (ax_bu (f_X12_announce (ax_rd S2 67 0 (a4 + (1 : Int32)).toNatClampNeg) S2) (fun (r10 : Int32) (S7 : AS) => (if r5 = r10 then ax_let (a4 + (6 : Int32)) (fun (v12 : Int32) => some (some S7)) else none)))))
def fb_case10 (a4 : Int32) (S : AS) : Option (Option AS) := ax_gd (ax_in (a4 + (1 : Int32)) (ax_fx S 67 0 0)) (ax_bu (f_X11_title (ax_rd S 67 0 (a4 + (1 : Int32)).toNatClampNeg) S) (fun (r5 : Int32) (S2 : AS) => ax_gd (ax_in (a4 + (1 : Int32)) (ax_fx S2 67 0 0)) (ax_bu (f_X12_title (ax_rd S2 67 0 (a4 + (1 : Int32)).toNatClampNeg) S2) (fun (r10 : Int32) (S7 : AS) => (if r5 = r10 then ax_let (a4 + (6 : Int32)) (fun (v12 : Int32) => some (some S7)) else none)))))
def fb_case11 (a4 : Int32) (S : AS) : Option (Option AS) := ax_gd (ax_in (a4 + (1 : Int32)) (ax_fx S 67 0 0)) (ax_bu (f_X11_drop (ax_rd S 67 0 (a4 + (1 : Int32)).toNatClampNeg) S) (fun (r5 : Int32) (S2 : AS) => ax_gd (ax_in (a4 + (1 : Int32)) (ax_fx S2 67 0 0)) (ax_bu (f_X12_drop (ax_rd S2 67 0 (a4 + (1 : Int32)).toNatClampNeg) S2) (fun (r10 : Int32) (S7 : AS) => (if r5 = r10 then ax_let (a4 + (6 : Int32)) (fun (v12 : Int32) => some (some S7)) else none)))))
def fb_case12 (a4 : Int32) (S : AS) : Option (Option AS) := ax_bu (f_X11_sing S) (fun (r4 : Int32) (S1 : AS) => ax_bu (f_X12_sing S1) (fun (r8 : Int32) (S5 : AS) => (if r4 = r8 then ax_let (a4 + (6 : Int32)) (fun (v10 : Int32) => some (some S5)) else none)))
def fb_case13 (a4 : Int32) (S : AS) : Option (Option AS) := ax_bu (f_X11_breath S) (fun (r4 : Int32) (S1 : AS) => ax_bu (f_X12_breath S1) (fun (r8 : Int32) (S5 : AS) => (if r4 = r8 then ax_let (a4 + (6 : Int32)) (fun (v10 : Int32) => some (some S5)) else none)))
def fb_case14 (a4 : Int32) (S : AS) : Option (Option AS) := ax_gd (ax_in (a4 + (1 : Int32)) (ax_fx S 67 0 0)) (ax_bu (f_X11_hold (ax_rd S 67 0 (a4 + (1 : Int32)).toNatClampNeg) S) (fun (r5 : Int32) (S2 : AS) => ax_gd (ax_in (a4 + (1 : Int32)) (ax_fx S2 67 0 0)) (ax_bu (f_X12_hold (ax_rd S2 67 0 (a4 + (1 : Int32)).toNatClampNeg) S2) (fun (r10 : Int32) (S7 : AS) => (if r5 = r10 then ax_let (a4 + (6 : Int32)) (fun (v12 : Int32) => some (some S7)) else none)))))
def fb_case15 (a4 : Int32) (S : AS) : Option (Option AS) := ax_bu (f_X11_day S) (fun (r4 : Int32) (S1 : AS) => ax_bu (f_X12_day S1) (fun (r8 : Int32) (S5 : AS) => (if r4 = r8 then ax_let (a4 + (6 : Int32)) (fun (v10 : Int32) => some (some S5)) else none)))
def fb_case16 (a4 : Int32) (S : AS) : Option (Option AS) := ax_gd (ax_in (a4 + (1 : Int32)) (ax_fx S 67 0 0)) (ax_gd (ax_in (a4 + (2 : Int32)) (ax_fx S 67 0 0)) (ax_gd (ax_in (a4 + (3 : Int32)) (ax_fx S 67 0 0)) (ax_bu (f_X11_years (ax_rd S 67 0 (a4 + (1 : Int32)).toNatClampNeg) (((ax_rd S 67 0 (a4 + (2 : Int32)).toNatClampNeg).toInt64 <<< ((32 : Int32).toInt64 &&& 63)) ||| ((ax_rd S 67 0 (a4 + (3 : Int32)).toNatClampNeg).toInt64 &&& (4294967295 : Int64))) S) (fun (r7 : Int32) (S4 : AS) => ax_gd (ax_in (a4 + (1 : Int32)) (ax_fx S4 67 0 0)) (ax_gd (ax_in (a4 + (2 : Int32)) (ax_fx S4 67 0 0)) (ax_gd (ax_in (a4 + (3 : Int32)) (ax_fx S4 67 0 0)) (ax_bu (f_X12_years (ax_rd S4 67 0 (a4 + (1 : Int32)).toNatClampNeg) (((ax_rd S4 67 0 (a4 + (2 : Int32)).toNatClampNeg).toInt64 <<< ((32 : Int32).toInt64 &&& 63)) ||| ((ax_rd S4 67 0 (a4 + (3 : Int32)).toNatClampNeg).toInt64 &&& (4294967295 : Int64))) S4) (fun (r14 : Int32) (S11 : AS) => (if r7 = r14 then ax_let (a4 + (6 : Int32)) (fun (v16 : Int32) => some (some S11)) else none)))))))))
def fb_case17 (a4 : Int32) (S : AS) : Option (Option AS) := ax_bu (f_X11_undo S) (fun (r4 : Int32) (S1 : AS) => ax_bu (f_X12_undo S1) (fun (r8 : Int32) (S5 : AS) => (if r4 = r8 then ax_let (a4 + (6 : Int32)) (fun (v10 : Int32) => some (some S5)) else none)))
def fb_case18 (a4 : Int32) (S : AS) : Option (Option AS) := ax_gd (ax_in (a4 + (1 : Int32)) (ax_fx S 67 0 0)) (ax_gd (ax_in (a4 + (2 : Int32)) (ax_fx S 67 0 0)) ((f_X11_log (ax_rd S 67 0 (a4 + (1 : Int32)).toNatClampNeg) (ax_rd S 67 0 (a4 + (2 : Int32)).toNatClampNeg) S).bind (fun (r6 : Int32) => ax_gd (ax_in (a4 + (1 : Int32)) (ax_fx S 67 0 0)) (ax_gd (ax_in (a4 + (2 : Int32)) (ax_fx S 67 0 0)) (ax_bu (f_X12_log (ax_rd S 67 0 (a4 + (1 : Int32)).toNatClampNeg) (ax_rd S 67 0 (a4 + (2 : Int32)).toNatClampNeg) S) (fun (r12 : Int32) (S9 : AS) => (if r6 = r12 then ax_let (a4 + (6 : Int32)) (fun (v14 : Int32) => some (some S9)) else none)))))))
def fb_case19 (a4 : Int32) (S : AS) : Option (Option AS) := ax_gd (ax_in (a4 + (1 : Int32)) (ax_fx S 67 0 0)) (ax_gd (ax_in (a4 + (2 : Int32)) (ax_fx S 67 0 0)) (ax_gd (ax_in (a4 + (3 : Int32)) (ax_fx S 67 0 0)) ((f_X11_step (ax_rd S 67 0 (a4 + (1 : Int32)).toNatClampNeg) (ax_rd S 67 0 (a4 + (2 : Int32)).toNatClampNeg) (ax_rd S 67 0 (a4 + (3 : Int32)).toNatClampNeg) S).bind (fun (r7 : Int32) => ax_gd (ax_in (a4 + (1 : Int32)) (ax_fx S 67 0 0)) (ax_gd (ax_in (a4 + (2 : Int32)) (ax_fx S 67 0 0)) (ax_gd (ax_in (a4 + (3 : Int32)) (ax_fx S 67 0 0)) (ax_bu (f_X12_step (ax_rd S 67 0 (a4 + (1 : Int32)).toNatClampNeg) (ax_rd S 67 0 (a4 + (2 : Int32)).toNatClampNeg) (ax_rd S 67 0 (a4 + (3 : Int32)).toNatClampNeg) S) (fun (r14 : Int32) (S11 : AS) => (if r7 = r14 then ax_let (a4 + (6 : Int32)) (fun (v16 : Int32) => some (some S11)) else none)))))))))
def fb_case20 (a4 : Int32) (S : AS) : Option (Option AS) := ax_gd (ax_in (a4 + (1 : Int32)) (ax_fx S 67 0 0)) (ax_gd (ax_in (a4 + (2 : Int32)) (ax_fx S 67 0 0)) (ax_bu (f_X11_run (ax_rd S 67 0 (a4 + (1 : Int32)).toNatClampNeg) (ax_rd S 67 0 (a4 + (2 : Int32)).toNatClampNeg) S) (fun (r6 : Int32) (S3 : AS) => ax_gd (ax_in (a4 + (1 : Int32)) (ax_fx S3 67 0 0)) (ax_gd (ax_in (a4 + (2 : Int32)) (ax_fx S3 67 0 0)) (ax_bu (f_X12_run (ax_rd S3 67 0 (a4 + (1 : Int32)).toNatClampNeg) (ax_rd S3 67 0 (a4 + (2 : Int32)).toNatClampNeg) S3) (fun (r12 : Int32) (S9 : AS) => (if r6 = r12 then ax_let (a4 + (6 : Int32)) (fun (v14 : Int32) => some (some S9)) else none)))))))
def fb_case21 (a4 : Int32) (S : AS) : Option (Option AS) := ax_gd (ax_in (a4 + (1 : Int32)) (ax_fx S 67 0 0)) (ax_bu (f_X11_perform (ax_rd S 67 0 (a4 + (1 : Int32)).toNatClampNeg) S) (fun (r5 : Int32) (S2 : AS) => ax_gd (ax_in (a4 + (1 : Int32)) (ax_fx S2 67 0 0)) (ax_bu (f_X12_perform (ax_rd S2 67 0 (a4 + (1 : Int32)).toNatClampNeg) S2) (fun (r10 : Int32) (S7 : AS) => (if r5 = r10 then ax_let (a4 + (6 : Int32)) (fun (v12 : Int32) => some (some S7)) else none)))))
def fb_case22 (a4 : Int32) (S : AS) : Option (Option AS) := ax_gd (ax_in (a4 + (1 : Int32)) (ax_fx S 67 0 0)) (ax_gd (ax_in (a4 + (2 : Int32)) (ax_fx S 67 0 0)) (ax_bu (f_X11_name (ax_rd S 67 0 (a4 + (1 : Int32)).toNatClampNeg) (ax_rd S 67 0 (a4 + (2 : Int32)).toNatClampNeg) S) (fun (r6 : Int32) (S3 : AS) => ax_gd (ax_in (a4 + (1 : Int32)) (ax_fx S3 67 0 0)) (ax_gd (ax_in (a4 + (2 : Int32)) (ax_fx S3 67 0 0)) (ax_bu (f_X12_name (ax_rd S3 67 0 (a4 + (1 : Int32)).toNatClampNeg) (ax_rd S3 67 0 (a4 + (2 : Int32)).toNatClampNeg) S3) (fun (r12 : Int32) (S9 : AS) => (if r6 = r12 then ax_let (a4 + (6 : Int32)) (fun (v14 : Int32) => some (some S9)) else none)))))))
def fb_case23 (a4 : Int32) (S : AS) : Option (Option AS) := ax_gd (ax_in (a4 + (1 : Int32)) (ax_fx S 67 0 0)) (ax_bu (f_X11_order (ax_rd S 67 0 (a4 + (1 : Int32)).toNatClampNeg) S) (fun (r5 : Int32) (S2 : AS) => ax_gd (ax_in (a4 + (1 : Int32)) (ax_fx S2 67 0 0)) (ax_bu (f_X12_order (ax_rd S2 67 0 (a4 + (1 : Int32)).toNatClampNeg) S2) (fun (r10 : Int32) (S7 : AS) => (if r5 = r10 then ax_let (a4 + (6 : Int32)) (fun (v12 : Int32) => some (some S7)) else none)))))
def fb_case24 (a4 : Int32) (S : AS) : Option (Option AS) := ax_gd (ax_in (a4 + (1 : Int32)) (ax_fx S 67 0 0)) (ax_bu (f_X11_needs (ax_rd S 67 0 (a4 + (1 : Int32)).toNatClampNeg) S) (fun (r5 : Int32) (S2 : AS) => ax_gd (ax_in (a4 + (1 : Int32)) (ax_fx S2 67 0 0)) (ax_bu (f_X12_needs (ax_rd S2 67 0 (a4 + (1 : Int32)).toNatClampNeg) S2) (fun (r10 : Int32) (S7 : AS) => (if r5 = r10 then ax_let (a4 + (6 : Int32)) (fun (v12 : Int32) => some (some S7)) else none)))))
def fb_case25 (a4 : Int32) (S : AS) : Option (Option AS) := ax_gd (ax_in (a4 + (1 : Int32)) (ax_fx S 67 0 0)) (ax_bu (f_X11_timed (ax_rd S 67 0 (a4 + (1 : Int32)).toNatClampNeg) S) (fun (r5 : Int32) (S2 : AS) => ax_gd (ax_in (a4 + (1 : Int32)) (ax_fx S2 67 0 0)) (ax_bu (f_X12_timed (ax_rd S2 67 0 (a4 + (1 : Int32)).toNatClampNeg) S2) (fun (r10 : Int32) (S7 : AS) => (if r5 = r10 then ax_let (a4 + (6 : Int32)) (fun (v12 : Int32) => some (some S7)) else none)))))
def fb_case26 (a4 : Int32) (S : AS) : Option (Option AS) := ax_gd (ax_in (a4 + (1 : Int32)) (ax_fx S 67 0 0)) (ax_gd (ax_in (a4 + (2 : Int32)) (ax_fx S 67 0 0)) (ax_gd (ax_in (a4 + (3 : Int32)) (ax_fx S 67 0 0)) ((if (ax_rd S 67 0 (a4 + (3 : Int32)).toNatClampNeg) = (0 : Int32) then ax_bu (f_X11_heard (ax_rd S 67 0 (a4 + (1 : Int32)).toNatClampNeg) (ax_rd S 67 0 (a4 + (2 : Int32)).toNatClampNeg) (0 : Int32) S) (fun (r8 : Int32) (S5 : AS) => ax_gd (ax_in (a4 + (1 : Int32)) (ax_fx S5 67 0 0)) (ax_gd (ax_in (a4 + (2 : Int32)) (ax_fx S5 67 0 0)) (ax_gd (ax_in (a4 + (3 : Int32)) (ax_fx S5 67 0 0)) ((if (ax_rd S5 67 0 (a4 + (3 : Int32)).toNatClampNeg) = (0 : Int32) then ax_bu (f_X12_heard (ax_rd S5 67 0 (a4 + (1 : Int32)).toNatClampNeg) (ax_rd S5 67 0 (a4 + (2 : Int32)).toNatClampNeg) (0 : Int32) S5) (fun (r16 : Int32) (S13 : AS) => (if r8 = r16 then ax_let (a4 + (6 : Int32)) (fun (v18 : Int32) => some (some S13)) else none)) else ax_bu (f_X12_heard (ax_rd S5 67 0 (a4 + (1 : Int32)).toNatClampNeg) (ax_rd S5 67 0 (a4 + (2 : Int32)).toNatClampNeg) (1 : Int32) S5) (fun (r22 : Int32) (S19 : AS) => (if r8 = r22 then ax_let (a4 + (6 : Int32)) (fun (v24 : Int32) => some (some S19)) else none))))))) else ax_bu (f_X11_heard (ax_rd S 67 0 (a4 + (1 : Int32)).toNatClampNeg) (ax_rd S 67 0 (a4 + (2 : Int32)).toNatClampNeg) (1 : Int32) S) (fun (r28 : Int32) (S25 : AS) => ax_gd (ax_in (a4 + (1 : Int32)) (ax_fx S25 67 0 0)) (ax_gd (ax_in (a4 + (2 : Int32)) (ax_fx S25 67 0 0)) (ax_gd (ax_in (a4 + (3 : Int32)) (ax_fx S25 67 0 0)) ((if (ax_rd S25 67 0 (a4 + (3 : Int32)).toNatClampNeg) = (0 : Int32) then ax_bu (f_X12_heard (ax_rd S25 67 0 (a4 + (1 : Int32)).toNatClampNeg) (ax_rd S25 67 0 (a4 + (2 : Int32)).toNatClampNeg) (0 : Int32) S25) (fun (r36 : Int32) (S33 : AS) => (if r28 = r36 then ax_let (a4 + (6 : Int32)) (fun (v38 : Int32) => some (some S33)) else none)) else ax_bu (f_X12_heard (ax_rd S25 67 0 (a4 + (1 : Int32)).toNatClampNeg) (ax_rd S25 67 0 (a4 + (2 : Int32)).toNatClampNeg) (1 : Int32) S25) (fun (r42 : Int32) (S39 : AS) => (if r28 = r42 then ax_let (a4 + (6 : Int32)) (fun (v44 : Int32) => some (some S39)) else none)))))))))))
def fb_case27 (a4 : Int32) (S : AS) : Option (Option AS) := ax_gd (ax_in (a4 + (1 : Int32)) (ax_fx S 67 0 0)) (ax_bu (f_X11_hards (ax_rd S 67 0 (a4 + (1 : Int32)).toNatClampNeg) S) (fun (r5 : Int32) (S2 : AS) => ax_gd (ax_in (a4 + (1 : Int32)) (ax_fx S2 67 0 0)) (ax_bu (f_X12_hards (ax_rd S2 67 0 (a4 + (1 : Int32)).toNatClampNeg) S2) (fun (r10 : Int32) (S7 : AS) => (if r5 = r10 then ax_let (a4 + (6 : Int32)) (fun (v12 : Int32) => some (some S7)) else none)))))
def fb_case28 (a4 : Int32) (S : AS) : Option (Option AS) := ax_gd (ax_in (a4 + (1 : Int32)) (ax_fx S 67 0 0)) (ax_bu (f_X11_ask (ax_rd S 67 0 (a4 + (1 : Int32)).toNatClampNeg) S) (fun (r5 : Int32) (S2 : AS) => ax_gd (ax_in (a4 + (1 : Int32)) (ax_fx S2 67 0 0)) (ax_bu (f_X12_ask (ax_rd S2 67 0 (a4 + (1 : Int32)).toNatClampNeg) S2) (fun (r10 : Int32) (S7 : AS) => (if r5 = r10 then ax_let (a4 + (6 : Int32)) (fun (v12 : Int32) => some (some S7)) else none)))))
def fb_case29 (a4 : Int32) (S : AS) : Option (Option AS) := ax_gd (ax_in (a4 + (1 : Int32)) (ax_fx S 67 0 0)) ((f_X11_apart (ax_rd S 67 0 (a4 + (1 : Int32)).toNatClampNeg) S).bind (fun (r5 : Int32) => ax_gd (ax_in (a4 + (1 : Int32)) (ax_fx S 67 0 0)) (ax_bu (f_X12_apart (ax_rd S 67 0 (a4 + (1 : Int32)).toNatClampNeg) S) (fun (r10 : Int32) (S7 : AS) => (if r5 = r10 then ax_let (a4 + (6 : Int32)) (fun (v12 : Int32) => some (some S7)) else none)))))
def fb_case30 (a4 : Int32) (S : AS) : Option (Option AS) := ax_gd (ax_in (a4 + (1 : Int32)) (ax_fx S 67 0 0)) (ax_gd (ax_in (a4 + (2 : Int32)) (ax_fx S 67 0 0)) (ax_gd (ax_in (a4 + (3 : Int32)) (ax_fx S 67 0 0)) (ax_gd (ax_in (a4 + (4 : Int32)) (ax_fx S 67 0 0)) (ax_gd (ax_in (a4 + (5 : Int32)) (ax_fx S 67 0 0)) (ax_bu (f_X11_game (ax_rd S 67 0 (a4 + (1 : Int32)).toNatClampNeg) (ax_rd S 67 0 (a4 + (2 : Int32)).toNatClampNeg) (ax_rd S 67 0 (a4 + (3 : Int32)).toNatClampNeg) (ax_rd S 67 0 (a4 + (4 : Int32)).toNatClampNeg) (ax_rd S 67 0 (a4 + (5 : Int32)).toNatClampNeg) S) (fun (r9 : Int32) (S6 : AS) => ax_gd (ax_in (a4 + (1 : Int32)) (ax_fx S6 67 0 0)) (ax_gd (ax_in (a4 + (2 : Int32)) (ax_fx S6 67 0 0)) (ax_gd (ax_in (a4 + (3 : Int32)) (ax_fx S6 67 0 0)) (ax_gd (ax_in (a4 + (4 : Int32)) (ax_fx S6 67 0 0)) (ax_gd (ax_in (a4 + (5 : Int32)) (ax_fx S6 67 0 0)) (ax_bu (f_X12_game (ax_rd S6 67 0 (a4 + (1 : Int32)).toNatClampNeg) (ax_rd S6 67 0 (a4 + (2 : Int32)).toNatClampNeg) (ax_rd S6 67 0 (a4 + (3 : Int32)).toNatClampNeg) (ax_rd S6 67 0 (a4 + (4 : Int32)).toNatClampNeg) (ax_rd S6 67 0 (a4 + (5 : Int32)).toNatClampNeg) S6) (fun (r18 : Int32) (S15 : AS) => (if r9 = r18 then ax_let (a4 + (6 : Int32)) (fun (v20 : Int32) => some (some S15)) else none)))))))))))))
def fb_case31 (a4 : Int32) (S : AS) : Option (Option AS) := ax_gd (ax_in (a4 + (1 : Int32)) (ax_fx S 67 0 0)) (ax_gd (ax_in (a4 + (2 : Int32)) (ax_fx S 67 0 0)) (ax_gd (ax_in (a4 + (3 : Int32)) (ax_fx S 67 0 0)) (ax_bu (f_X11_rests (ax_rd S 67 0 (a4 + (1 : Int32)).toNatClampNeg) (ax_rd S 67 0 (a4 + (2 : Int32)).toNatClampNeg) (ax_rd S 67 0 (a4 + (3 : Int32)).toNatClampNeg) S) (fun (r7 : Int32) (S4 : AS) => ax_gd (ax_in (a4 + (1 : Int32)) (ax_fx S4 67 0 0)) (ax_gd (ax_in (a4 + (2 : Int32)) (ax_fx S4 67 0 0)) (ax_gd (ax_in (a4 + (3 : Int32)) (ax_fx S4 67 0 0)) (ax_bu (f_X12_rests (ax_rd S4 67 0 (a4 + (1 : Int32)).toNatClampNeg) (ax_rd S4 67 0 (a4 + (2 : Int32)).toNatClampNeg) (ax_rd S4 67 0 (a4 + (3 : Int32)).toNatClampNeg) S4) (fun (r14 : Int32) (S11 : AS) => (if r7 = r14 then ax_let (a4 + (6 : Int32)) (fun (v16 : Int32) => some (some S11)) else none)))))))))
def fb_case32 (a4 : Int32) (S : AS) : Option (Option AS) := ax_gd (ax_in (a4 + (1 : Int32)) (ax_fx S 67 0 0)) (ax_gd (ax_in (a4 + (2 : Int32)) (ax_fx S 67 0 0)) (ax_bu (f_X11_odds (ax_rd S 67 0 (a4 + (1 : Int32)).toNatClampNeg) (ax_rd S 67 0 (a4 + (2 : Int32)).toNatClampNeg) S) (fun (r6 : Int32) (S3 : AS) => ax_gd (ax_in (a4 + (1 : Int32)) (ax_fx S3 67 0 0)) (ax_gd (ax_in (a4 + (2 : Int32)) (ax_fx S3 67 0 0)) (ax_bu (f_X12_odds (ax_rd S3 67 0 (a4 + (1 : Int32)).toNatClampNeg) (ax_rd S3 67 0 (a4 + (2 : Int32)).toNatClampNeg) S3) (fun (r12 : Int32) (S9 : AS) => (if r6 = r12 then ax_let (a4 + (6 : Int32)) (fun (v14 : Int32) => some (some S9)) else none)))))))
def fb_case33 (a4 : Int32) (S : AS) : Option (Option AS) := ax_gd (ax_in (a4 + (1 : Int32)) (ax_fx S 67 0 0)) (ax_bu (f_X11_mean (ax_rd S 67 0 (a4 + (1 : Int32)).toNatClampNeg) S) (fun (r5 : Int32) (S2 : AS) => ax_gd (ax_in (a4 + (1 : Int32)) (ax_fx S2 67 0 0)) (ax_bu (f_X12_mean (ax_rd S2 67 0 (a4 + (1 : Int32)).toNatClampNeg) S2) (fun (r10 : Int32) (S7 : AS) => (if r5 = r10 then ax_let (a4 + (6 : Int32)) (fun (v12 : Int32) => some (some S7)) else none)))))
def fb_case34 (a4 : Int32) (S : AS) : Option (Option AS) := ax_gd (ax_in (a4 + (1 : Int32)) (ax_fx S 67 0 0)) (ax_bu (f_X11_all (ax_rd S 67 0 (a4 + (1 : Int32)).toNatClampNeg) S) (fun (r5 : Int32) (S2 : AS) => ax_gd (ax_in (a4 + (1 : Int32)) (ax_fx S2 67 0 0)) (ax_bu (f_X12_all (ax_rd S2 67 0 (a4 + (1 : Int32)).toNatClampNeg) S2) (fun (r10 : Int32) (S7 : AS) => (if r5 = r10 then ax_let (a4 + (6 : Int32)) (fun (v12 : Int32) => some (some S7)) else none)))))
def fb_case35 (a4 : Int32) (S : AS) : Option (Option AS) := ax_gd (ax_in (a4 + (1 : Int32)) (ax_fx S 67 0 0)) ((f_X11_whose (ax_rd S 67 0 (a4 + (1 : Int32)).toNatClampNeg) S).bind (fun (r5 : Int32) => ax_gd (ax_in (a4 + (1 : Int32)) (ax_fx S 67 0 0)) (ax_bu (f_X12_whose (ax_rd S 67 0 (a4 + (1 : Int32)).toNatClampNeg) S) (fun (r10 : Int32) (S7 : AS) => (if r5 = r10 then ax_let (a4 + (6 : Int32)) (fun (v12 : Int32) => some (some S7)) else none)))))
def fb_case36 (a4 : Int32) (S : AS) : Option (Option AS) := ax_gd (ax_in (a4 + (1 : Int32)) (ax_fx S 67 0 0)) (ax_bu (f_X11_queue (ax_rd S 67 0 (a4 + (1 : Int32)).toNatClampNeg) S) (fun (r5 : Int32) (S2 : AS) => ax_gd (ax_in (a4 + (1 : Int32)) (ax_fx S2 67 0 0)) (ax_bu (f_X12_queue (ax_rd S2 67 0 (a4 + (1 : Int32)).toNatClampNeg) S2) (fun (r10 : Int32) (S7 : AS) => (if r5 = r10 then ax_let (a4 + (6 : Int32)) (fun (v12 : Int32) => some (some S7)) else none)))))
def fb_case37 (a4 : Int32) (S : AS) : Option (Option AS) := ax_gd (ax_in (a4 + (1 : Int32)) (ax_fx S 67 0 0)) (ax_gd (ax_in (a4 + (2 : Int32)) (ax_fx S 67 0 0)) (ax_bu (f_X11_sung (ax_rd S 67 0 (a4 + (1 : Int32)).toNatClampNeg) (ax_rd S 67 0 (a4 + (2 : Int32)).toNatClampNeg) S) (fun (r6 : Int32) (S3 : AS) => ax_gd (ax_in (a4 + (1 : Int32)) (ax_fx S3 67 0 0)) (ax_gd (ax_in (a4 + (2 : Int32)) (ax_fx S3 67 0 0)) (ax_bu (f_X12_sung (ax_rd S3 67 0 (a4 + (1 : Int32)).toNatClampNeg) (ax_rd S3 67 0 (a4 + (2 : Int32)).toNatClampNeg) S3) (fun (r12 : Int32) (S9 : AS) => (if r6 = r12 then ax_let (a4 + (6 : Int32)) (fun (v14 : Int32) => some (some S9)) else none)))))))
def fb_case38 (a4 : Int32) (S : AS) : Option (Option AS) := ax_gd (ax_in (a4 + (1 : Int32)) (ax_fx S 67 0 0)) (ax_bu (f_X11_span (ax_rd S 67 0 (a4 + (1 : Int32)).toNatClampNeg) S) (fun (r5 : Int32) (S2 : AS) => ax_gd (ax_in (a4 + (1 : Int32)) (ax_fx S2 67 0 0)) (ax_bu (f_X12_span (ax_rd S2 67 0 (a4 + (1 : Int32)).toNatClampNeg) S2) (fun (r10 : Int32) (S7 : AS) => (if r5 = r10 then ax_let (a4 + (6 : Int32)) (fun (v12 : Int32) => some (some S7)) else none)))))
def fb_case39 (a4 : Int32) (S : AS) : Option (Option AS) := ax_bu (f_X11_image S) (fun (r4 : Int32) (S1 : AS) => ax_bu (f_X12_image S1) (fun (r8 : Int32) (S5 : AS) => (if r4 = r8 then ax_let (a4 + (6 : Int32)) (fun (v10 : Int32) => some (some S5)) else none)))
def fb_case40 (a4 : Int32) (S : AS) : Option (Option AS) := ax_bu (f_X11_back S) (fun (r4 : Int32) (S1 : AS) => ax_bu (f_X12_back S1) (fun (r8 : Int32) (S5 : AS) => (if r4 = r8 then ax_let (a4 + (6 : Int32)) (fun (v10 : Int32) => some (some S5)) else none)))
def fb_case41 (a4 : Int32) (S : AS) : Option (Option AS) := ax_gd (ax_in (a4 + (1 : Int32)) (ax_fx S 67 0 0)) ((f_X11_count (ax_rd S 67 0 (a4 + (1 : Int32)).toNatClampNeg) S).bind (fun (r5 : Int32) => ax_gd (ax_in (a4 + (1 : Int32)) (ax_fx S 67 0 0)) (ax_bu (f_X12_count (ax_rd S 67 0 (a4 + (1 : Int32)).toNatClampNeg) S) (fun (r10 : Int32) (S7 : AS) => (if r5 = r10 then ax_let (a4 + (6 : Int32)) (fun (v12 : Int32) => some (some S7)) else none)))))
def fb_case99 (a4 : Int32) (S : AS) : Option (Option AS) := ax_let (a4 + (6 : Int32)) (fun (v1 : Int32) => some (some S))
set_option maxRecDepth 100000 in
theorem tb_case0 {l : Launch} {a4 : Int32} {S Z : AS} (h : fb_case0 a4 S = some (some Z)) : ax_R l 142 ma_L_law (224, [some (.inr (67, 0)), some (.inr (11, 0)), some (.inr (12, 0)), some (.inr (63, 0)), some (.inl (.int a4)), none, none], [], S) (23, [some (.inr (67, 0)), some (.inr (11, 0)), some (.inr (12, 0)), some (.inr (63, 0)), some (.inl (.int (a4 + (6 : Int32)))), none, none], [], Z) := by
  unfold fb_case0 at h
  refine ax_go [.aload_n 1, .aload_n 0, .iload 4, .iconst 1, .iadd] (pc' := 230) (L' := [some (.inr (67, 0)), some (.inr (11, 0)), some (.inr (12, 0)), some (.inr (63, 0)), some (.inl (.int a4)), none, none]) (st' := [.inl (.int (a4 + (1 : Int32))), .inr (67, 0), .inr (11, 0)]) (S' := S) ok_L_law.1 (by decide +kernel) rfl rfl ?_
  obtain ⟨g1, h⟩ := ax_gd_e h
  refine ax_Ralc (n := (ax_fx S 67 0 0)) ok_L_law.1 (by decide +kernel) (by decide) rfl g1 ?_
  refine ax_go [.aload_n 0, .iload 4, .iconst 2, .iadd] (pc' := 236) (L' := [some (.inr (67, 0)), some (.inr (11, 0)), some (.inr (12, 0)), some (.inr (63, 0)), some (.inl (.int a4)), none, none]) (st' := [.inl (.int (a4 + (2 : Int32))), .inr (67, 0), .inl (.int (ax_rd S 67 0 (a4 + (1 : Int32)).toNatClampNeg)), .inr (11, 0)]) (S' := S) ok_L_law.1 (by decide +kernel) rfl rfl ?_
  obtain ⟨g2, h⟩ := ax_gd_e h
  refine ax_Ralc (n := (ax_fx S 67 0 0)) ok_L_law.1 (by decide +kernel) (by decide) rfl g2 ?_
  refine ax_go [.aload_n 0, .iload 4, .iconst 3, .iadd] (pc' := 242) (L' := [some (.inr (67, 0)), some (.inr (11, 0)), some (.inr (12, 0)), some (.inr (63, 0)), some (.inl (.int a4)), none, none]) (st' := [.inl (.int (a4 + (3 : Int32))), .inr (67, 0), .inl (.int (ax_rd S 67 0 (a4 + (2 : Int32)).toNatClampNeg)), .inl (.int (ax_rd S 67 0 (a4 + (1 : Int32)).toNatClampNeg)), .inr (11, 0)]) (S' := S) ok_L_law.1 (by decide +kernel) rfl rfl ?_
  obtain ⟨g3, h⟩ := ax_gd_e h
  refine ax_Ralc (n := (ax_fx S 67 0 0)) ok_L_law.1 (by decide +kernel) (by decide) rfl g3 ?_
  refine ax_go [.aload_n 0, .iload 4, .iconst 4, .iadd] (pc' := 248) (L' := [some (.inr (67, 0)), some (.inr (11, 0)), some (.inr (12, 0)), some (.inr (63, 0)), some (.inl (.int a4)), none, none]) (st' := [.inl (.int (a4 + (4 : Int32))), .inr (67, 0), .inl (.int (ax_rd S 67 0 (a4 + (3 : Int32)).toNatClampNeg)), .inl (.int (ax_rd S 67 0 (a4 + (2 : Int32)).toNatClampNeg)), .inl (.int (ax_rd S 67 0 (a4 + (1 : Int32)).toNatClampNeg)), .inr (11, 0)]) (S' := S) ok_L_law.1 (by decide +kernel) rfl rfl ?_
  obtain ⟨g4, h⟩ := ax_gd_e h
  refine ax_Ralc (n := (ax_fx S 67 0 0)) ok_L_law.1 (by decide +kernel) (by decide) rfl g4 ?_
  refine ax_go [.aload_n 0, .iload 4, .iconst 5, .iadd] (pc' := 254) (L' := [some (.inr (67, 0)), some (.inr (11, 0)), some (.inr (12, 0)), some (.inr (63, 0)), some (.inl (.int a4)), none, none]) (st' := [.inl (.int (a4 + (5 : Int32))), .inr (67, 0), .inl (.int (ax_rd S 67 0 (a4 + (4 : Int32)).toNatClampNeg)), .inl (.int (ax_rd S 67 0 (a4 + (3 : Int32)).toNatClampNeg)), .inl (.int (ax_rd S 67 0 (a4 + (2 : Int32)).toNatClampNeg)), .inl (.int (ax_rd S 67 0 (a4 + (1 : Int32)).toNatClampNeg)), .inr (11, 0)]) (S' := S) ok_L_law.1 (by decide +kernel) rfl rfl ?_
  obtain ⟨g5, h⟩ := ax_gd_e h
  refine ax_Ralc (n := (ax_fx S 67 0 0)) ok_L_law.1 (by decide +kernel) (by decide) rfl g5 ?_
  obtain ⟨r9, S6, hq7, h⟩ := ax_bu_e h
  refine ax_cVi (d := 141) (ka := 11) (i := 0) [.inl (.int (ax_rd S 67 0 (a4 + (1 : Int32)).toNatClampNeg)), .inl (.int (ax_rd S 67 0 (a4 + (2 : Int32)).toNatClampNeg)), .inl (.int (ax_rd S 67 0 (a4 + (3 : Int32)).toNatClampNeg)), .inl (.int (ax_rd S 67 0 (a4 + (4 : Int32)).toNatClampNeg)), .inl (.int (ax_rd S 67 0 (a4 + (5 : Int32)).toNatClampNeg))] [] lk_L_19 (by decide +kernel) rfl (by decide) rfl (Nat.le_of_ble_eq_true rfl) (Nat.le_of_ble_eq_true rfl) ((t_X11_feed hq7).up (by decide)) ?_
  refine ax_go [.aload_n 2, .aload_n 0, .iload 4, .iconst 1, .iadd] (pc' := 264) (L' := [some (.inr (67, 0)), some (.inr (11, 0)), some (.inr (12, 0)), some (.inr (63, 0)), some (.inl (.int a4)), none, none]) (st' := [.inl (.int (a4 + (1 : Int32))), .inr (67, 0), .inr (12, 0), .inl (.int r9)]) (S' := S6) ok_L_law.1 (by decide +kernel) rfl rfl ?_
  obtain ⟨g10, h⟩ := ax_gd_e h
  refine ax_Ralc (n := (ax_fx S6 67 0 0)) ok_L_law.1 (by decide +kernel) (by decide) rfl g10 ?_
  refine ax_go [.aload_n 0, .iload 4, .iconst 2, .iadd] (pc' := 270) (L' := [some (.inr (67, 0)), some (.inr (11, 0)), some (.inr (12, 0)), some (.inr (63, 0)), some (.inl (.int a4)), none, none]) (st' := [.inl (.int (a4 + (2 : Int32))), .inr (67, 0), .inl (.int (ax_rd S6 67 0 (a4 + (1 : Int32)).toNatClampNeg)), .inr (12, 0), .inl (.int r9)]) (S' := S6) ok_L_law.1 (by decide +kernel) rfl rfl ?_
  obtain ⟨g11, h⟩ := ax_gd_e h
  refine ax_Ralc (n := (ax_fx S6 67 0 0)) ok_L_law.1 (by decide +kernel) (by decide) rfl g11 ?_
  refine ax_go [.aload_n 0, .iload 4, .iconst 3, .iadd] (pc' := 276) (L' := [some (.inr (67, 0)), some (.inr (11, 0)), some (.inr (12, 0)), some (.inr (63, 0)), some (.inl (.int a4)), none, none]) (st' := [.inl (.int (a4 + (3 : Int32))), .inr (67, 0), .inl (.int (ax_rd S6 67 0 (a4 + (2 : Int32)).toNatClampNeg)), .inl (.int (ax_rd S6 67 0 (a4 + (1 : Int32)).toNatClampNeg)), .inr (12, 0), .inl (.int r9)]) (S' := S6) ok_L_law.1 (by decide +kernel) rfl rfl ?_
  obtain ⟨g12, h⟩ := ax_gd_e h
  refine ax_Ralc (n := (ax_fx S6 67 0 0)) ok_L_law.1 (by decide +kernel) (by decide) rfl g12 ?_
  refine ax_go [.aload_n 0, .iload 4, .iconst 4, .iadd] (pc' := 282) (L' := [some (.inr (67, 0)), some (.inr (11, 0)), some (.inr (12, 0)), some (.inr (63, 0)), some (.inl (.int a4)), none, none]) (st' := [.inl (.int (a4 + (4 : Int32))), .inr (67, 0), .inl (.int (ax_rd S6 67 0 (a4 + (3 : Int32)).toNatClampNeg)), .inl (.int (ax_rd S6 67 0 (a4 + (2 : Int32)).toNatClampNeg)), .inl (.int (ax_rd S6 67 0 (a4 + (1 : Int32)).toNatClampNeg)), .inr (12, 0), .inl (.int r9)]) (S' := S6) ok_L_law.1 (by decide +kernel) rfl rfl ?_
  obtain ⟨g13, h⟩ := ax_gd_e h
  refine ax_Ralc (n := (ax_fx S6 67 0 0)) ok_L_law.1 (by decide +kernel) (by decide) rfl g13 ?_
  refine ax_go [.aload_n 0, .iload 4, .iconst 5, .iadd] (pc' := 288) (L' := [some (.inr (67, 0)), some (.inr (11, 0)), some (.inr (12, 0)), some (.inr (63, 0)), some (.inl (.int a4)), none, none]) (st' := [.inl (.int (a4 + (5 : Int32))), .inr (67, 0), .inl (.int (ax_rd S6 67 0 (a4 + (4 : Int32)).toNatClampNeg)), .inl (.int (ax_rd S6 67 0 (a4 + (3 : Int32)).toNatClampNeg)), .inl (.int (ax_rd S6 67 0 (a4 + (2 : Int32)).toNatClampNeg)), .inl (.int (ax_rd S6 67 0 (a4 + (1 : Int32)).toNatClampNeg)), .inr (12, 0), .inl (.int r9)]) (S' := S6) ok_L_law.1 (by decide +kernel) rfl rfl ?_
  obtain ⟨g14, h⟩ := ax_gd_e h
  refine ax_Ralc (n := (ax_fx S6 67 0 0)) ok_L_law.1 (by decide +kernel) (by decide) rfl g14 ?_
  obtain ⟨r18, S15, hq16, h⟩ := ax_bu_e h
  refine ax_cVi (d := 141) (ka := 12) (i := 0) [.inl (.int (ax_rd S6 67 0 (a4 + (1 : Int32)).toNatClampNeg)), .inl (.int (ax_rd S6 67 0 (a4 + (2 : Int32)).toNatClampNeg)), .inl (.int (ax_rd S6 67 0 (a4 + (3 : Int32)).toNatClampNeg)), .inl (.int (ax_rd S6 67 0 (a4 + (4 : Int32)).toNatClampNeg)), .inl (.int (ax_rd S6 67 0 (a4 + (5 : Int32)).toNatClampNeg))] [.inl (.int r9)] lk_L_23 (by decide +kernel) rfl (by decide) rfl (Nat.le_of_ble_eq_true rfl) (Nat.le_of_ble_eq_true rfl) ((t_X12_feed hq16).up (by decide)) ?_
  refine ax_ic_eq (off := 1253) (tgt := 1545) (by decide +kernel) (by decide) (fun c19 => ?_) (fun c19 => ?_)
  · rw [if_pos c19] at h
    refine ax_go [.iinc 4 6] (pc' := 1548) (L' := [some (.inr (67, 0)), some (.inr (11, 0)), some (.inr (12, 0)), some (.inr (63, 0)), some (.inl (.int (a4 + (6 : Int32)))), none, none]) (st' := []) (S' := S15) ok_L_law.1 (by decide +kernel) rfl rfl ?_
    obtain ⟨v20, ev20, h⟩ := ax_let_e h
    rw [ev20]
    refine ax_goto (off := (-1525)) (tgt := 23) (by decide +kernel) (by decide) ?_
    cases h
    subst_vars
    exact ax_R.rf
  · rw [if_neg c19] at h
    refine ax_go [.iconst 0] (pc' := 296) (L' := [some (.inr (67, 0)), some (.inr (11, 0)), some (.inr (12, 0)), some (.inr (63, 0)), some (.inl (.int a4)), none, none]) (st' := [.inl (.int (0 : Int32))]) (S' := S15) ok_L_law.1 (by decide +kernel) rfl rfl ?_
    cases h
set_option maxRecDepth 100000 in
theorem tb_case1 {l : Launch} {a4 : Int32} {S Z : AS} (h : fb_case1 a4 S = some (some Z)) : ax_R l 142 ma_L_law (297, [some (.inr (67, 0)), some (.inr (11, 0)), some (.inr (12, 0)), some (.inr (63, 0)), some (.inl (.int a4)), none, none], [], S) (23, [some (.inr (67, 0)), some (.inr (11, 0)), some (.inr (12, 0)), some (.inr (63, 0)), some (.inl (.int (a4 + (6 : Int32)))), none, none], [], Z) := by
  unfold fb_case1 at h
  refine ax_go [.aload_n 1, .aload_n 0, .iload 4, .iconst 1, .iadd] (pc' := 303) (L' := [some (.inr (67, 0)), some (.inr (11, 0)), some (.inr (12, 0)), some (.inr (63, 0)), some (.inl (.int a4)), none, none]) (st' := [.inl (.int (a4 + (1 : Int32))), .inr (67, 0), .inr (11, 0)]) (S' := S) ok_L_law.1 (by decide +kernel) rfl rfl ?_
  obtain ⟨g1, h⟩ := ax_gd_e h
  refine ax_Ralc (n := (ax_fx S 67 0 0)) ok_L_law.1 (by decide +kernel) (by decide) rfl g1 ?_
  obtain ⟨r5, S2, hq3, h⟩ := ax_bu_e h
  refine ax_cVi (d := 141) (ka := 11) (i := 0) [.inl (.int (ax_rd S 67 0 (a4 + (1 : Int32)).toNatClampNeg))] [] lk_L_24 (by decide +kernel) rfl (by decide) rfl (Nat.le_of_ble_eq_true rfl) (Nat.le_of_ble_eq_true rfl) ((t_X11_end hq3).up (by decide)) ?_
  refine ax_go [.aload_n 2, .aload_n 0, .iload 4, .iconst 1, .iadd] (pc' := 313) (L' := [some (.inr (67, 0)), some (.inr (11, 0)), some (.inr (12, 0)), some (.inr (63, 0)), some (.inl (.int a4)), none, none]) (st' := [.inl (.int (a4 + (1 : Int32))), .inr (67, 0), .inr (12, 0), .inl (.int r5)]) (S' := S2) ok_L_law.1 (by decide +kernel) rfl rfl ?_
  obtain ⟨g6, h⟩ := ax_gd_e h
  refine ax_Ralc (n := (ax_fx S2 67 0 0)) ok_L_law.1 (by decide +kernel) (by decide) rfl g6 ?_
  obtain ⟨r10, S7, hq8, h⟩ := ax_bu_e h
  refine ax_cVi (d := 141) (ka := 12) (i := 0) [.inl (.int (ax_rd S2 67 0 (a4 + (1 : Int32)).toNatClampNeg))] [.inl (.int r5)] lk_L_28 (by decide +kernel) rfl (by decide) rfl (Nat.le_of_ble_eq_true rfl) (Nat.le_of_ble_eq_true rfl) ((t_X12_end hq8).up (by decide)) ?_
  refine ax_ic_eq (off := 1228) (tgt := 1545) (by decide +kernel) (by decide) (fun c11 => ?_) (fun c11 => ?_)
  · rw [if_pos c11] at h
    refine ax_go [.iinc 4 6] (pc' := 1548) (L' := [some (.inr (67, 0)), some (.inr (11, 0)), some (.inr (12, 0)), some (.inr (63, 0)), some (.inl (.int (a4 + (6 : Int32)))), none, none]) (st' := []) (S' := S7) ok_L_law.1 (by decide +kernel) rfl rfl ?_
    obtain ⟨v12, ev12, h⟩ := ax_let_e h
    rw [ev12]
    refine ax_goto (off := (-1525)) (tgt := 23) (by decide +kernel) (by decide) ?_
    cases h
    subst_vars
    exact ax_R.rf
  · rw [if_neg c11] at h
    refine ax_go [.iconst 0] (pc' := 321) (L' := [some (.inr (67, 0)), some (.inr (11, 0)), some (.inr (12, 0)), some (.inr (63, 0)), some (.inl (.int a4)), none, none]) (st' := [.inl (.int (0 : Int32))]) (S' := S7) ok_L_law.1 (by decide +kernel) rfl rfl ?_
    cases h
set_option maxRecDepth 100000 in
theorem tb_case2 {l : Launch} {a4 : Int32} {S Z : AS} (h : fb_case2 a4 S = some (some Z)) : ax_R l 142 ma_L_law (322, [some (.inr (67, 0)), some (.inr (11, 0)), some (.inr (12, 0)), some (.inr (63, 0)), some (.inl (.int a4)), none, none], [], S) (23, [some (.inr (67, 0)), some (.inr (11, 0)), some (.inr (12, 0)), some (.inr (63, 0)), some (.inl (.int (a4 + (6 : Int32)))), none, none], [], Z) := by
  unfold fb_case2 at h
  refine ax_go [.aload_n 1, .aload_n 0, .iload 4, .iconst 1, .iadd] (pc' := 328) (L' := [some (.inr (67, 0)), some (.inr (11, 0)), some (.inr (12, 0)), some (.inr (63, 0)), some (.inl (.int a4)), none, none]) (st' := [.inl (.int (a4 + (1 : Int32))), .inr (67, 0), .inr (11, 0)]) (S' := S) ok_L_law.1 (by decide +kernel) rfl rfl ?_
  obtain ⟨g1, h⟩ := ax_gd_e h
  refine ax_Ralc (n := (ax_fx S 67 0 0)) ok_L_law.1 (by decide +kernel) (by decide) rfl g1 ?_
  obtain ⟨r5, S2, hq3, h⟩ := ax_bu_e h
  refine ax_cVi (d := 141) (ka := 11) (i := 0) [.inl (.int (ax_rd S 67 0 (a4 + (1 : Int32)).toNatClampNeg))] [] lk_L_29 (by decide +kernel) rfl (by decide) rfl (Nat.le_of_ble_eq_true rfl) (Nat.le_of_ble_eq_true rfl) ((t_X11_fault hq3).up (by decide)) ?_
  refine ax_go [.aload_n 2, .aload_n 0, .iload 4, .iconst 1, .iadd] (pc' := 338) (L' := [some (.inr (67, 0)), some (.inr (11, 0)), some (.inr (12, 0)), some (.inr (63, 0)), some (.inl (.int a4)), none, none]) (st' := [.inl (.int (a4 + (1 : Int32))), .inr (67, 0), .inr (12, 0), .inl (.int r5)]) (S' := S2) ok_L_law.1 (by decide +kernel) rfl rfl ?_
  obtain ⟨g6, h⟩ := ax_gd_e h
  refine ax_Ralc (n := (ax_fx S2 67 0 0)) ok_L_law.1 (by decide +kernel) (by decide) rfl g6 ?_
  obtain ⟨r10, S7, hq8, h⟩ := ax_bu_e h
  refine ax_cVi (d := 141) (ka := 12) (i := 0) [.inl (.int (ax_rd S2 67 0 (a4 + (1 : Int32)).toNatClampNeg))] [.inl (.int r5)] lk_L_33 (by decide +kernel) rfl (by decide) rfl (Nat.le_of_ble_eq_true rfl) (Nat.le_of_ble_eq_true rfl) ((t_X12_fault hq8).up (by decide)) ?_
  refine ax_ic_eq (off := 1203) (tgt := 1545) (by decide +kernel) (by decide) (fun c11 => ?_) (fun c11 => ?_)
  · rw [if_pos c11] at h
    refine ax_go [.iinc 4 6] (pc' := 1548) (L' := [some (.inr (67, 0)), some (.inr (11, 0)), some (.inr (12, 0)), some (.inr (63, 0)), some (.inl (.int (a4 + (6 : Int32)))), none, none]) (st' := []) (S' := S7) ok_L_law.1 (by decide +kernel) rfl rfl ?_
    obtain ⟨v12, ev12, h⟩ := ax_let_e h
    rw [ev12]
    refine ax_goto (off := (-1525)) (tgt := 23) (by decide +kernel) (by decide) ?_
    cases h
    subst_vars
    exact ax_R.rf
  · rw [if_neg c11] at h
    refine ax_go [.iconst 0] (pc' := 346) (L' := [some (.inr (67, 0)), some (.inr (11, 0)), some (.inr (12, 0)), some (.inr (63, 0)), some (.inl (.int a4)), none, none]) (st' := [.inl (.int (0 : Int32))]) (S' := S7) ok_L_law.1 (by decide +kernel) rfl rfl ?_
    cases h
set_option maxRecDepth 100000 in
theorem tb_case3 {l : Launch} {a4 : Int32} {S Z : AS} (h : fb_case3 a4 S = some (some Z)) : ax_R l 142 ma_L_law (347, [some (.inr (67, 0)), some (.inr (11, 0)), some (.inr (12, 0)), some (.inr (63, 0)), some (.inl (.int a4)), none, none], [], S) (23, [some (.inr (67, 0)), some (.inr (11, 0)), some (.inr (12, 0)), some (.inr (63, 0)), some (.inl (.int (a4 + (6 : Int32)))), none, none], [], Z) := by
  unfold fb_case3 at h
  refine ax_go [.aload_n 1, .aload_n 0, .iload 4, .iconst 1, .iadd] (pc' := 353) (L' := [some (.inr (67, 0)), some (.inr (11, 0)), some (.inr (12, 0)), some (.inr (63, 0)), some (.inl (.int a4)), none, none]) (st' := [.inl (.int (a4 + (1 : Int32))), .inr (67, 0), .inr (11, 0)]) (S' := S) ok_L_law.1 (by decide +kernel) rfl rfl ?_
  obtain ⟨g1, h⟩ := ax_gd_e h
  refine ax_Ralc (n := (ax_fx S 67 0 0)) ok_L_law.1 (by decide +kernel) (by decide) rfl g1 ?_
  obtain ⟨r5, S2, hq3, h⟩ := ax_bu_e h
  refine ax_cVi (d := 141) (ka := 11) (i := 0) [.inl (.int (ax_rd S 67 0 (a4 + (1 : Int32)).toNatClampNeg))] [] lk_L_34 (by decide +kernel) rfl (by decide) rfl (Nat.le_of_ble_eq_true rfl) (Nat.le_of_ble_eq_true rfl) ((t_X11_text hq3).up (by decide)) ?_
  refine ax_go [.aload_n 2, .aload_n 0, .iload 4, .iconst 1, .iadd] (pc' := 363) (L' := [some (.inr (67, 0)), some (.inr (11, 0)), some (.inr (12, 0)), some (.inr (63, 0)), some (.inl (.int a4)), none, none]) (st' := [.inl (.int (a4 + (1 : Int32))), .inr (67, 0), .inr (12, 0), .inl (.int r5)]) (S' := S2) ok_L_law.1 (by decide +kernel) rfl rfl ?_
  obtain ⟨g6, h⟩ := ax_gd_e h
  refine ax_Ralc (n := (ax_fx S2 67 0 0)) ok_L_law.1 (by decide +kernel) (by decide) rfl g6 ?_
  obtain ⟨r10, S7, hq8, h⟩ := ax_bu_e h
  refine ax_cVi (d := 141) (ka := 12) (i := 0) [.inl (.int (ax_rd S2 67 0 (a4 + (1 : Int32)).toNatClampNeg))] [.inl (.int r5)] lk_L_37 (by decide +kernel) rfl (by decide) rfl (Nat.le_of_ble_eq_true rfl) (Nat.le_of_ble_eq_true rfl) ((t_X12_text hq8).up (by decide)) ?_
  refine ax_ic_eq (off := 1178) (tgt := 1545) (by decide +kernel) (by decide) (fun c11 => ?_) (fun c11 => ?_)
  · rw [if_pos c11] at h
    refine ax_go [.iinc 4 6] (pc' := 1548) (L' := [some (.inr (67, 0)), some (.inr (11, 0)), some (.inr (12, 0)), some (.inr (63, 0)), some (.inl (.int (a4 + (6 : Int32)))), none, none]) (st' := []) (S' := S7) ok_L_law.1 (by decide +kernel) rfl rfl ?_
    obtain ⟨v12, ev12, h⟩ := ax_let_e h
    rw [ev12]
    refine ax_goto (off := (-1525)) (tgt := 23) (by decide +kernel) (by decide) ?_
    cases h
    subst_vars
    exact ax_R.rf
  · rw [if_neg c11] at h
    refine ax_go [.iconst 0] (pc' := 371) (L' := [some (.inr (67, 0)), some (.inr (11, 0)), some (.inr (12, 0)), some (.inr (63, 0)), some (.inl (.int a4)), none, none]) (st' := [.inl (.int (0 : Int32))]) (S' := S7) ok_L_law.1 (by decide +kernel) rfl rfl ?_
    cases h
set_option maxRecDepth 100000 in
theorem tb_case4 {l : Launch} {a4 : Int32} {S Z : AS} (h : fb_case4 a4 S = some (some Z)) : ax_R l 142 ma_L_law (372, [some (.inr (67, 0)), some (.inr (11, 0)), some (.inr (12, 0)), some (.inr (63, 0)), some (.inl (.int a4)), none, none], [], S) (23, [some (.inr (67, 0)), some (.inr (11, 0)), some (.inr (12, 0)), some (.inr (63, 0)), some (.inl (.int (a4 + (6 : Int32)))), none, none], [], Z) := by
  unfold fb_case4 at h
  refine ax_go [.aload_n 1, .aload_n 0, .iload 4, .iconst 1, .iadd] (pc' := 378) (L' := [some (.inr (67, 0)), some (.inr (11, 0)), some (.inr (12, 0)), some (.inr (63, 0)), some (.inl (.int a4)), none, none]) (st' := [.inl (.int (a4 + (1 : Int32))), .inr (67, 0), .inr (11, 0)]) (S' := S) ok_L_law.1 (by decide +kernel) rfl rfl ?_
  obtain ⟨g1, h⟩ := ax_gd_e h
  refine ax_Ralc (n := (ax_fx S 67 0 0)) ok_L_law.1 (by decide +kernel) (by decide) rfl g1 ?_
  obtain ⟨r5, hq3, h⟩ := ax_bd_e h
  refine ax_cVi (d := 141) (ka := 11) (i := 0) [.inl (.int (ax_rd S 67 0 (a4 + (1 : Int32)).toNatClampNeg))] [] lk_L_38 (by decide +kernel) rfl (by decide) rfl (Nat.le_of_ble_eq_true rfl) (Nat.le_of_ble_eq_true rfl) ((t_X11_rule hq3).up (by decide)) ?_
  refine ax_go [.aload_n 2, .aload_n 0, .iload 4, .iconst 1, .iadd] (pc' := 388) (L' := [some (.inr (67, 0)), some (.inr (11, 0)), some (.inr (12, 0)), some (.inr (63, 0)), some (.inl (.int a4)), none, none]) (st' := [.inl (.int (a4 + (1 : Int32))), .inr (67, 0), .inr (12, 0), .inl (.int r5)]) (S' := S) ok_L_law.1 (by decide +kernel) rfl rfl ?_
  obtain ⟨g6, h⟩ := ax_gd_e h
  refine ax_Ralc (n := (ax_fx S 67 0 0)) ok_L_law.1 (by decide +kernel) (by decide) rfl g6 ?_
  obtain ⟨r10, S7, hq8, h⟩ := ax_bu_e h
  refine ax_cVi (d := 141) (ka := 12) (i := 0) [.inl (.int (ax_rd S 67 0 (a4 + (1 : Int32)).toNatClampNeg))] [.inl (.int r5)] lk_L_41 (by decide +kernel) rfl (by decide) rfl (Nat.le_of_ble_eq_true rfl) (Nat.le_of_ble_eq_true rfl) ((t_X12_rule hq8).up (by decide)) ?_
  refine ax_ic_eq (off := 1153) (tgt := 1545) (by decide +kernel) (by decide) (fun c11 => ?_) (fun c11 => ?_)
  · rw [if_pos c11] at h
    refine ax_go [.iinc 4 6] (pc' := 1548) (L' := [some (.inr (67, 0)), some (.inr (11, 0)), some (.inr (12, 0)), some (.inr (63, 0)), some (.inl (.int (a4 + (6 : Int32)))), none, none]) (st' := []) (S' := S7) ok_L_law.1 (by decide +kernel) rfl rfl ?_
    obtain ⟨v12, ev12, h⟩ := ax_let_e h
    rw [ev12]
    refine ax_goto (off := (-1525)) (tgt := 23) (by decide +kernel) (by decide) ?_
    cases h
    subst_vars
    exact ax_R.rf
  · rw [if_neg c11] at h
    refine ax_go [.iconst 0] (pc' := 396) (L' := [some (.inr (67, 0)), some (.inr (11, 0)), some (.inr (12, 0)), some (.inr (63, 0)), some (.inl (.int a4)), none, none]) (st' := [.inl (.int (0 : Int32))]) (S' := S7) ok_L_law.1 (by decide +kernel) rfl rfl ?_
    cases h
set_option maxRecDepth 100000 in
theorem tb_case5 {l : Launch} {a4 : Int32} {S Z : AS} (h : fb_case5 a4 S = some (some Z)) : ax_R l 142 ma_L_law (397, [some (.inr (67, 0)), some (.inr (11, 0)), some (.inr (12, 0)), some (.inr (63, 0)), some (.inl (.int a4)), none, none], [], S) (23, [some (.inr (67, 0)), some (.inr (11, 0)), some (.inr (12, 0)), some (.inr (63, 0)), some (.inl (.int (a4 + (6 : Int32)))), none, none], [], Z) := by
  unfold fb_case5 at h
  refine ax_go [.aload_n 1, .aload_n 0, .iload 4, .iconst 1, .iadd] (pc' := 403) (L' := [some (.inr (67, 0)), some (.inr (11, 0)), some (.inr (12, 0)), some (.inr (63, 0)), some (.inl (.int a4)), none, none]) (st' := [.inl (.int (a4 + (1 : Int32))), .inr (67, 0), .inr (11, 0)]) (S' := S) ok_L_law.1 (by decide +kernel) rfl rfl ?_
  obtain ⟨g1, h⟩ := ax_gd_e h
  refine ax_Ralc (n := (ax_fx S 67 0 0)) ok_L_law.1 (by decide +kernel) (by decide) rfl g1 ?_
  refine ax_go [.aload_n 0, .iload 4, .iconst 2, .iadd] (pc' := 409) (L' := [some (.inr (67, 0)), some (.inr (11, 0)), some (.inr (12, 0)), some (.inr (63, 0)), some (.inl (.int a4)), none, none]) (st' := [.inl (.int (a4 + (2 : Int32))), .inr (67, 0), .inl (.int (ax_rd S 67 0 (a4 + (1 : Int32)).toNatClampNeg)), .inr (11, 0)]) (S' := S) ok_L_law.1 (by decide +kernel) rfl rfl ?_
  obtain ⟨g2, h⟩ := ax_gd_e h
  refine ax_Ralc (n := (ax_fx S 67 0 0)) ok_L_law.1 (by decide +kernel) (by decide) rfl g2 ?_
  obtain ⟨r6, hq4, h⟩ := ax_bd_e h
  refine ax_cVi (d := 141) (ka := 11) (i := 0) [.inl (.int (ax_rd S 67 0 (a4 + (1 : Int32)).toNatClampNeg)), .inl (.int (ax_rd S 67 0 (a4 + (2 : Int32)).toNatClampNeg))] [] lk_L_42 (by decide +kernel) rfl (by decide) rfl (Nat.le_of_ble_eq_true rfl) (Nat.le_of_ble_eq_true rfl) ((t_X11_lodger hq4).up (by decide)) ?_
  refine ax_go [.aload_n 2, .aload_n 0, .iload 4, .iconst 1, .iadd] (pc' := 419) (L' := [some (.inr (67, 0)), some (.inr (11, 0)), some (.inr (12, 0)), some (.inr (63, 0)), some (.inl (.int a4)), none, none]) (st' := [.inl (.int (a4 + (1 : Int32))), .inr (67, 0), .inr (12, 0), .inl (.int r6)]) (S' := S) ok_L_law.1 (by decide +kernel) rfl rfl ?_
  obtain ⟨g7, h⟩ := ax_gd_e h
  refine ax_Ralc (n := (ax_fx S 67 0 0)) ok_L_law.1 (by decide +kernel) (by decide) rfl g7 ?_
  refine ax_go [.aload_n 0, .iload 4, .iconst 2, .iadd] (pc' := 425) (L' := [some (.inr (67, 0)), some (.inr (11, 0)), some (.inr (12, 0)), some (.inr (63, 0)), some (.inl (.int a4)), none, none]) (st' := [.inl (.int (a4 + (2 : Int32))), .inr (67, 0), .inl (.int (ax_rd S 67 0 (a4 + (1 : Int32)).toNatClampNeg)), .inr (12, 0), .inl (.int r6)]) (S' := S) ok_L_law.1 (by decide +kernel) rfl rfl ?_
  obtain ⟨g8, h⟩ := ax_gd_e h
  refine ax_Ralc (n := (ax_fx S 67 0 0)) ok_L_law.1 (by decide +kernel) (by decide) rfl g8 ?_
  obtain ⟨r12, S9, hq10, h⟩ := ax_bu_e h
  refine ax_cVi (d := 141) (ka := 12) (i := 0) [.inl (.int (ax_rd S 67 0 (a4 + (1 : Int32)).toNatClampNeg)), .inl (.int (ax_rd S 67 0 (a4 + (2 : Int32)).toNatClampNeg))] [.inl (.int r6)] lk_L_45 (by decide +kernel) rfl (by decide) rfl (Nat.le_of_ble_eq_true rfl) (Nat.le_of_ble_eq_true rfl) ((t_X12_lodger hq10).up (by decide)) ?_
  refine ax_ic_eq (off := 1116) (tgt := 1545) (by decide +kernel) (by decide) (fun c13 => ?_) (fun c13 => ?_)
  · rw [if_pos c13] at h
    refine ax_go [.iinc 4 6] (pc' := 1548) (L' := [some (.inr (67, 0)), some (.inr (11, 0)), some (.inr (12, 0)), some (.inr (63, 0)), some (.inl (.int (a4 + (6 : Int32)))), none, none]) (st' := []) (S' := S9) ok_L_law.1 (by decide +kernel) rfl rfl ?_
    obtain ⟨v14, ev14, h⟩ := ax_let_e h
    rw [ev14]
    refine ax_goto (off := (-1525)) (tgt := 23) (by decide +kernel) (by decide) ?_
    cases h
    subst_vars
    exact ax_R.rf
  · rw [if_neg c13] at h
    refine ax_go [.iconst 0] (pc' := 433) (L' := [some (.inr (67, 0)), some (.inr (11, 0)), some (.inr (12, 0)), some (.inr (63, 0)), some (.inl (.int a4)), none, none]) (st' := [.inl (.int (0 : Int32))]) (S' := S9) ok_L_law.1 (by decide +kernel) rfl rfl ?_
    cases h
set_option maxRecDepth 100000 in
theorem tb_case7 {l : Launch} {a4 : Int32} {S Z : AS} (h : fb_case7 a4 S = some (some Z)) : ax_R l 142 ma_L_law (502, [some (.inr (67, 0)), some (.inr (11, 0)), some (.inr (12, 0)), some (.inr (63, 0)), some (.inl (.int a4)), none, none], [], S) (23, [some (.inr (67, 0)), some (.inr (11, 0)), some (.inr (12, 0)), some (.inr (63, 0)), some (.inl (.int (a4 + (6 : Int32)))), none, none], [], Z) := by
  unfold fb_case7 at h
  refine ax_go [.aload_n 1, .aload_n 0, .iload 4, .iconst 1, .iadd] (pc' := 508) (L' := [some (.inr (67, 0)), some (.inr (11, 0)), some (.inr (12, 0)), some (.inr (63, 0)), some (.inl (.int a4)), none, none]) (st' := [.inl (.int (a4 + (1 : Int32))), .inr (67, 0), .inr (11, 0)]) (S' := S) ok_L_law.1 (by decide +kernel) rfl rfl ?_
  obtain ⟨g1, h⟩ := ax_gd_e h
  refine ax_Ralc (n := (ax_fx S 67 0 0)) ok_L_law.1 (by decide +kernel) (by decide) rfl g1 ?_
  obtain ⟨r5, S2, hq3, h⟩ := ax_bu_e h
  refine ax_cVi (d := 141) (ka := 11) (i := 0) [.inl (.int (ax_rd S 67 0 (a4 + (1 : Int32)).toNatClampNeg))] [] lk_L_56 (by decide +kernel) rfl (by decide) rfl (Nat.le_of_ble_eq_true rfl) (Nat.le_of_ble_eq_true rfl) ((t_X11_law hq3).up (by decide)) ?_
  refine ax_go [.aload_n 2, .aload_n 0, .iload 4, .iconst 1, .iadd] (pc' := 518) (L' := [some (.inr (67, 0)), some (.inr (11, 0)), some (.inr (12, 0)), some (.inr (63, 0)), some (.inl (.int a4)), none, none]) (st' := [.inl (.int (a4 + (1 : Int32))), .inr (67, 0), .inr (12, 0), .inl (.int r5)]) (S' := S2) ok_L_law.1 (by decide +kernel) rfl rfl ?_
  obtain ⟨g6, h⟩ := ax_gd_e h
  refine ax_Ralc (n := (ax_fx S2 67 0 0)) ok_L_law.1 (by decide +kernel) (by decide) rfl g6 ?_
  obtain ⟨r10, S7, hq8, h⟩ := ax_bu_e h
  refine ax_cVi (d := 141) (ka := 12) (i := 0) [.inl (.int (ax_rd S2 67 0 (a4 + (1 : Int32)).toNatClampNeg))] [.inl (.int r5)] lk_L_59 (by decide +kernel) rfl (by decide) rfl (Nat.le_of_ble_eq_true rfl) (Nat.le_of_ble_eq_true rfl) ((t_X12_law hq8).up (by decide)) ?_
  refine ax_ic_eq (off := 1023) (tgt := 1545) (by decide +kernel) (by decide) (fun c11 => ?_) (fun c11 => ?_)
  · rw [if_pos c11] at h
    refine ax_go [.iinc 4 6] (pc' := 1548) (L' := [some (.inr (67, 0)), some (.inr (11, 0)), some (.inr (12, 0)), some (.inr (63, 0)), some (.inl (.int (a4 + (6 : Int32)))), none, none]) (st' := []) (S' := S7) ok_L_law.1 (by decide +kernel) rfl rfl ?_
    obtain ⟨v12, ev12, h⟩ := ax_let_e h
    rw [ev12]
    refine ax_goto (off := (-1525)) (tgt := 23) (by decide +kernel) (by decide) ?_
    cases h
    subst_vars
    exact ax_R.rf
  · rw [if_neg c11] at h
    refine ax_go [.iconst 0] (pc' := 526) (L' := [some (.inr (67, 0)), some (.inr (11, 0)), some (.inr (12, 0)), some (.inr (63, 0)), some (.inl (.int a4)), none, none]) (st' := [.inl (.int (0 : Int32))]) (S' := S7) ok_L_law.1 (by decide +kernel) rfl rfl ?_
    cases h
set_option maxRecDepth 100000 in
theorem tb_case8 {l : Launch} {a4 : Int32} {S Z : AS} (h : fb_case8 a4 S = some (some Z)) : ax_R l 142 ma_L_law (527, [some (.inr (67, 0)), some (.inr (11, 0)), some (.inr (12, 0)), some (.inr (63, 0)), some (.inl (.int a4)), none, none], [], S) (23, [some (.inr (67, 0)), some (.inr (11, 0)), some (.inr (12, 0)), some (.inr (63, 0)), some (.inl (.int (a4 + (6 : Int32)))), none, none], [], Z) := by
  unfold fb_case8 at h
  refine ax_go [.aload_n 1, .aload_n 0, .iload 4, .iconst 1, .iadd] (pc' := 533) (L' := [some (.inr (67, 0)), some (.inr (11, 0)), some (.inr (12, 0)), some (.inr (63, 0)), some (.inl (.int a4)), none, none]) (st' := [.inl (.int (a4 + (1 : Int32))), .inr (67, 0), .inr (11, 0)]) (S' := S) ok_L_law.1 (by decide +kernel) rfl rfl ?_
  obtain ⟨g1, h⟩ := ax_gd_e h
  refine ax_Ralc (n := (ax_fx S 67 0 0)) ok_L_law.1 (by decide +kernel) (by decide) rfl g1 ?_
  obtain ⟨r5, S2, hq3, h⟩ := ax_bu_e h
  refine ax_cVi (d := 141) (ka := 11) (i := 0) [.inl (.int (ax_rd S 67 0 (a4 + (1 : Int32)).toNatClampNeg))] [] lk_L_60 (by decide +kernel) rfl (by decide) rfl (Nat.le_of_ble_eq_true rfl) (Nat.le_of_ble_eq_true rfl) ((t_X11_whim hq3).up (by decide)) ?_
  refine ax_go [.aload_n 2, .aload_n 0, .iload 4, .iconst 1, .iadd] (pc' := 543) (L' := [some (.inr (67, 0)), some (.inr (11, 0)), some (.inr (12, 0)), some (.inr (63, 0)), some (.inl (.int a4)), none, none]) (st' := [.inl (.int (a4 + (1 : Int32))), .inr (67, 0), .inr (12, 0), .inl (.int r5)]) (S' := S2) ok_L_law.1 (by decide +kernel) rfl rfl ?_
  obtain ⟨g6, h⟩ := ax_gd_e h
  refine ax_Ralc (n := (ax_fx S2 67 0 0)) ok_L_law.1 (by decide +kernel) (by decide) rfl g6 ?_
  obtain ⟨r10, S7, hq8, h⟩ := ax_bu_e h
  refine ax_cVi (d := 141) (ka := 12) (i := 0) [.inl (.int (ax_rd S2 67 0 (a4 + (1 : Int32)).toNatClampNeg))] [.inl (.int r5)] lk_L_63 (by decide +kernel) rfl (by decide) rfl (Nat.le_of_ble_eq_true rfl) (Nat.le_of_ble_eq_true rfl) ((t_X12_whim hq8).up (by decide)) ?_
  refine ax_ic_eq (off := 998) (tgt := 1545) (by decide +kernel) (by decide) (fun c11 => ?_) (fun c11 => ?_)
  · rw [if_pos c11] at h
    refine ax_go [.iinc 4 6] (pc' := 1548) (L' := [some (.inr (67, 0)), some (.inr (11, 0)), some (.inr (12, 0)), some (.inr (63, 0)), some (.inl (.int (a4 + (6 : Int32)))), none, none]) (st' := []) (S' := S7) ok_L_law.1 (by decide +kernel) rfl rfl ?_
    obtain ⟨v12, ev12, h⟩ := ax_let_e h
    rw [ev12]
    refine ax_goto (off := (-1525)) (tgt := 23) (by decide +kernel) (by decide) ?_
    cases h
    subst_vars
    exact ax_R.rf
  · rw [if_neg c11] at h
    refine ax_go [.iconst 0] (pc' := 551) (L' := [some (.inr (67, 0)), some (.inr (11, 0)), some (.inr (12, 0)), some (.inr (63, 0)), some (.inl (.int a4)), none, none]) (st' := [.inl (.int (0 : Int32))]) (S' := S7) ok_L_law.1 (by decide +kernel) rfl rfl ?_
    cases h
set_option maxRecDepth 100000 in
theorem tb_case9 {l : Launch} {a4 : Int32} {S Z : AS} (h : fb_case9 a4 S = some (some Z)) : ax_R l 142 ma_L_law (552, [some (.inr (67, 0)), some (.inr (11, 0)), some (.inr (12, 0)), some (.inr (63, 0)), some (.inl (.int a4)), none, none], [], S) (23, [some (.inr (67, 0)), some (.inr (11, 0)), some (.inr (12, 0)), some (.inr (63, 0)), some (.inl (.int (a4 + (6 : Int32)))), none, none], [], Z) := by
  unfold fb_case9 at h
  refine ax_go [.aload_n 1, .aload_n 0, .iload 4, .iconst 1, .iadd] (pc' := 558) (L' := [some (.inr (67, 0)), some (.inr (11, 0)), some (.inr (12, 0)), some (.inr (63, 0)), some (.inl (.int a4)), none, none]) (st' := [.inl (.int (a4 + (1 : Int32))), .inr (67, 0), .inr (11, 0)]) (S' := S) ok_L_law.1 (by decide +kernel) rfl rfl ?_
  obtain ⟨g1, h⟩ := ax_gd_e h
  refine ax_Ralc (n := (ax_fx S 67 0 0)) ok_L_law.1 (by decide +kernel) (by decide) rfl g1 ?_
  obtain ⟨r5, S2, hq3, h⟩ := ax_bu_e h
  refine ax_cVi (d := 141) (ka := 11) (i := 0) [.inl (.int (ax_rd S 67 0 (a4 + (1 : Int32)).toNatClampNeg))] [] lk_L_64 (by decide +kernel) rfl (by decide) rfl (Nat.le_of_ble_eq_true rfl) (Nat.le_of_ble_eq_true rfl) ((t_X11_announce hq3).up (by decide)) ?_
  refine ax_go [.aload_n 2, .aload_n 0, .iload 4, .iconst 1, .iadd] (pc' := 568) (L' := [some (.inr (67, 0)), some (.inr (11, 0)), some (.inr (12, 0)), some (.inr (63, 0)), some (.inl (.int a4)), none, none]) (st' := [.inl (.int (a4 + (1 : Int32))), .inr (67, 0), .inr (12, 0), .inl (.int r5)]) (S' := S2) ok_L_law.1 (by decide +kernel) rfl rfl ?_
  obtain ⟨g6, h⟩ := ax_gd_e h
  refine ax_Ralc (n := (ax_fx S2 67 0 0)) ok_L_law.1 (by decide +kernel) (by decide) rfl g6 ?_
  obtain ⟨r10, S7, hq8, h⟩ := ax_bu_e h
  refine ax_cVi (d := 141) (ka := 12) (i := 0) [.inl (.int (ax_rd S2 67 0 (a4 + (1 : Int32)).toNatClampNeg))] [.inl (.int r5)] lk_L_67 (by decide +kernel) rfl (by decide) rfl (Nat.le_of_ble_eq_true rfl) (Nat.le_of_ble_eq_true rfl) ((t_X12_announce hq8).up (by decide)) ?_
  refine ax_ic_eq (off := 973) (tgt := 1545) (by decide +kernel) (by decide) (fun c11 => ?_) (fun c11 => ?_)
  · rw [if_pos c11] at h
    refine ax_go [.iinc 4 6] (pc' := 1548) (L' := [some (.inr (67, 0)), some (.inr (11, 0)), some (.inr (12, 0)), some (.inr (63, 0)), some (.inl (.int (a4 + (6 : Int32)))), none, none]) (st' := []) (S' := S7) ok_L_law.1 (by decide +kernel) rfl rfl ?_
    obtain ⟨v12, ev12, h⟩ := ax_let_e h
    rw [ev12]
    refine ax_goto (off := (-1525)) (tgt := 23) (by decide +kernel) (by decide) ?_
    cases h
    subst_vars
    exact ax_R.rf
  · rw [if_neg c11] at h
    refine ax_go [.iconst 0] (pc' := 576) (L' := [some (.inr (67, 0)), some (.inr (11, 0)), some (.inr (12, 0)), some (.inr (63, 0)), some (.inl (.int a4)), none, none]) (st' := [.inl (.int (0 : Int32))]) (S' := S7) ok_L_law.1 (by decide +kernel) rfl rfl ?_
    cases h
set_option maxRecDepth 100000 in
theorem tb_case10 {l : Launch} {a4 : Int32} {S Z : AS} (h : fb_case10 a4 S = some (some Z)) : ax_R l 142 ma_L_law (577, [some (.inr (67, 0)), some (.inr (11, 0)), some (.inr (12, 0)), some (.inr (63, 0)), some (.inl (.int a4)), none, none], [], S) (23, [some (.inr (67, 0)), some (.inr (11, 0)), some (.inr (12, 0)), some (.inr (63, 0)), some (.inl (.int (a4 + (6 : Int32)))), none, none], [], Z) := by
  unfold fb_case10 at h
  refine ax_go [.aload_n 1, .aload_n 0, .iload 4, .iconst 1, .iadd] (pc' := 583) (L' := [some (.inr (67, 0)), some (.inr (11, 0)), some (.inr (12, 0)), some (.inr (63, 0)), some (.inl (.int a4)), none, none]) (st' := [.inl (.int (a4 + (1 : Int32))), .inr (67, 0), .inr (11, 0)]) (S' := S) ok_L_law.1 (by decide +kernel) rfl rfl ?_
  obtain ⟨g1, h⟩ := ax_gd_e h
  refine ax_Ralc (n := (ax_fx S 67 0 0)) ok_L_law.1 (by decide +kernel) (by decide) rfl g1 ?_
  obtain ⟨r5, S2, hq3, h⟩ := ax_bu_e h
  refine ax_cVi (d := 141) (ka := 11) (i := 0) [.inl (.int (ax_rd S 67 0 (a4 + (1 : Int32)).toNatClampNeg))] [] lk_L_68 (by decide +kernel) rfl (by decide) rfl (Nat.le_of_ble_eq_true rfl) (Nat.le_of_ble_eq_true rfl) ((t_X11_title hq3).up (by decide)) ?_
  refine ax_go [.aload_n 2, .aload_n 0, .iload 4, .iconst 1, .iadd] (pc' := 593) (L' := [some (.inr (67, 0)), some (.inr (11, 0)), some (.inr (12, 0)), some (.inr (63, 0)), some (.inl (.int a4)), none, none]) (st' := [.inl (.int (a4 + (1 : Int32))), .inr (67, 0), .inr (12, 0), .inl (.int r5)]) (S' := S2) ok_L_law.1 (by decide +kernel) rfl rfl ?_
  obtain ⟨g6, h⟩ := ax_gd_e h
  refine ax_Ralc (n := (ax_fx S2 67 0 0)) ok_L_law.1 (by decide +kernel) (by decide) rfl g6 ?_
  obtain ⟨r10, S7, hq8, h⟩ := ax_bu_e h
  refine ax_cVi (d := 141) (ka := 12) (i := 0) [.inl (.int (ax_rd S2 67 0 (a4 + (1 : Int32)).toNatClampNeg))] [.inl (.int r5)] lk_L_71 (by decide +kernel) rfl (by decide) rfl (Nat.le_of_ble_eq_true rfl) (Nat.le_of_ble_eq_true rfl) ((t_X12_title hq8).up (by decide)) ?_
  refine ax_ic_eq (off := 948) (tgt := 1545) (by decide +kernel) (by decide) (fun c11 => ?_) (fun c11 => ?_)
  · rw [if_pos c11] at h
    refine ax_go [.iinc 4 6] (pc' := 1548) (L' := [some (.inr (67, 0)), some (.inr (11, 0)), some (.inr (12, 0)), some (.inr (63, 0)), some (.inl (.int (a4 + (6 : Int32)))), none, none]) (st' := []) (S' := S7) ok_L_law.1 (by decide +kernel) rfl rfl ?_
    obtain ⟨v12, ev12, h⟩ := ax_let_e h
    rw [ev12]
    refine ax_goto (off := (-1525)) (tgt := 23) (by decide +kernel) (by decide) ?_
    cases h
    subst_vars
    exact ax_R.rf
  · rw [if_neg c11] at h
    refine ax_go [.iconst 0] (pc' := 601) (L' := [some (.inr (67, 0)), some (.inr (11, 0)), some (.inr (12, 0)), some (.inr (63, 0)), some (.inl (.int a4)), none, none]) (st' := [.inl (.int (0 : Int32))]) (S' := S7) ok_L_law.1 (by decide +kernel) rfl rfl ?_
    cases h
set_option maxRecDepth 100000 in
theorem tb_case11 {l : Launch} {a4 : Int32} {S Z : AS} (h : fb_case11 a4 S = some (some Z)) : ax_R l 142 ma_L_law (602, [some (.inr (67, 0)), some (.inr (11, 0)), some (.inr (12, 0)), some (.inr (63, 0)), some (.inl (.int a4)), none, none], [], S) (23, [some (.inr (67, 0)), some (.inr (11, 0)), some (.inr (12, 0)), some (.inr (63, 0)), some (.inl (.int (a4 + (6 : Int32)))), none, none], [], Z) := by
  unfold fb_case11 at h
  refine ax_go [.aload_n 1, .aload_n 0, .iload 4, .iconst 1, .iadd] (pc' := 608) (L' := [some (.inr (67, 0)), some (.inr (11, 0)), some (.inr (12, 0)), some (.inr (63, 0)), some (.inl (.int a4)), none, none]) (st' := [.inl (.int (a4 + (1 : Int32))), .inr (67, 0), .inr (11, 0)]) (S' := S) ok_L_law.1 (by decide +kernel) rfl rfl ?_
  obtain ⟨g1, h⟩ := ax_gd_e h
  refine ax_Ralc (n := (ax_fx S 67 0 0)) ok_L_law.1 (by decide +kernel) (by decide) rfl g1 ?_
  obtain ⟨r5, S2, hq3, h⟩ := ax_bu_e h
  refine ax_cVi (d := 141) (ka := 11) (i := 0) [.inl (.int (ax_rd S 67 0 (a4 + (1 : Int32)).toNatClampNeg))] [] lk_L_72 (by decide +kernel) rfl (by decide) rfl (Nat.le_of_ble_eq_true rfl) (Nat.le_of_ble_eq_true rfl) ((t_X11_drop hq3).up (by decide)) ?_
  refine ax_go [.aload_n 2, .aload_n 0, .iload 4, .iconst 1, .iadd] (pc' := 618) (L' := [some (.inr (67, 0)), some (.inr (11, 0)), some (.inr (12, 0)), some (.inr (63, 0)), some (.inl (.int a4)), none, none]) (st' := [.inl (.int (a4 + (1 : Int32))), .inr (67, 0), .inr (12, 0), .inl (.int r5)]) (S' := S2) ok_L_law.1 (by decide +kernel) rfl rfl ?_
  obtain ⟨g6, h⟩ := ax_gd_e h
  refine ax_Ralc (n := (ax_fx S2 67 0 0)) ok_L_law.1 (by decide +kernel) (by decide) rfl g6 ?_
  obtain ⟨r10, S7, hq8, h⟩ := ax_bu_e h
  refine ax_cVi (d := 141) (ka := 12) (i := 0) [.inl (.int (ax_rd S2 67 0 (a4 + (1 : Int32)).toNatClampNeg))] [.inl (.int r5)] lk_L_75 (by decide +kernel) rfl (by decide) rfl (Nat.le_of_ble_eq_true rfl) (Nat.le_of_ble_eq_true rfl) ((t_X12_drop hq8).up (by decide)) ?_
  refine ax_ic_eq (off := 923) (tgt := 1545) (by decide +kernel) (by decide) (fun c11 => ?_) (fun c11 => ?_)
  · rw [if_pos c11] at h
    refine ax_go [.iinc 4 6] (pc' := 1548) (L' := [some (.inr (67, 0)), some (.inr (11, 0)), some (.inr (12, 0)), some (.inr (63, 0)), some (.inl (.int (a4 + (6 : Int32)))), none, none]) (st' := []) (S' := S7) ok_L_law.1 (by decide +kernel) rfl rfl ?_
    obtain ⟨v12, ev12, h⟩ := ax_let_e h
    rw [ev12]
    refine ax_goto (off := (-1525)) (tgt := 23) (by decide +kernel) (by decide) ?_
    cases h
    subst_vars
    exact ax_R.rf
  · rw [if_neg c11] at h
    refine ax_go [.iconst 0] (pc' := 626) (L' := [some (.inr (67, 0)), some (.inr (11, 0)), some (.inr (12, 0)), some (.inr (63, 0)), some (.inl (.int a4)), none, none]) (st' := [.inl (.int (0 : Int32))]) (S' := S7) ok_L_law.1 (by decide +kernel) rfl rfl ?_
    cases h
set_option maxRecDepth 100000 in
theorem tb_case12 {l : Launch} {a4 : Int32} {S Z : AS} (h : fb_case12 a4 S = some (some Z)) : ax_R l 142 ma_L_law (627, [some (.inr (67, 0)), some (.inr (11, 0)), some (.inr (12, 0)), some (.inr (63, 0)), some (.inl (.int a4)), none, none], [], S) (23, [some (.inr (67, 0)), some (.inr (11, 0)), some (.inr (12, 0)), some (.inr (63, 0)), some (.inl (.int (a4 + (6 : Int32)))), none, none], [], Z) := by
  unfold fb_case12 at h
  refine ax_go [.aload_n 1] (pc' := 628) (L' := [some (.inr (67, 0)), some (.inr (11, 0)), some (.inr (12, 0)), some (.inr (63, 0)), some (.inl (.int a4)), none, none]) (st' := [.inr (11, 0)]) (S' := S) ok_L_law.1 (by decide +kernel) rfl rfl ?_
  obtain ⟨r4, S1, hq2, h⟩ := ax_bu_e h
  refine ax_cVi (d := 141) (ka := 11) (i := 0) [] [] lk_L_76 (by decide +kernel) rfl (by decide) rfl (Nat.le_of_ble_eq_true rfl) (Nat.le_of_ble_eq_true rfl) ((t_X11_sing hq2).up (by decide)) ?_
  refine ax_go [.aload_n 2] (pc' := 632) (L' := [some (.inr (67, 0)), some (.inr (11, 0)), some (.inr (12, 0)), some (.inr (63, 0)), some (.inl (.int a4)), none, none]) (st' := [.inr (12, 0), .inl (.int r4)]) (S' := S1) ok_L_law.1 (by decide +kernel) rfl rfl ?_
  obtain ⟨r8, S5, hq6, h⟩ := ax_bu_e h
  refine ax_cVi (d := 141) (ka := 12) (i := 0) [] [.inl (.int r4)] lk_L_79 (by decide +kernel) rfl (by decide) rfl (Nat.le_of_ble_eq_true rfl) (Nat.le_of_ble_eq_true rfl) ((t_X12_sing hq6).up (by decide)) ?_
  refine ax_ic_eq (off := 910) (tgt := 1545) (by decide +kernel) (by decide) (fun c9 => ?_) (fun c9 => ?_)
  · rw [if_pos c9] at h
    refine ax_go [.iinc 4 6] (pc' := 1548) (L' := [some (.inr (67, 0)), some (.inr (11, 0)), some (.inr (12, 0)), some (.inr (63, 0)), some (.inl (.int (a4 + (6 : Int32)))), none, none]) (st' := []) (S' := S5) ok_L_law.1 (by decide +kernel) rfl rfl ?_
    obtain ⟨v10, ev10, h⟩ := ax_let_e h
    rw [ev10]
    refine ax_goto (off := (-1525)) (tgt := 23) (by decide +kernel) (by decide) ?_
    cases h
    subst_vars
    exact ax_R.rf
  · rw [if_neg c9] at h
    refine ax_go [.iconst 0] (pc' := 639) (L' := [some (.inr (67, 0)), some (.inr (11, 0)), some (.inr (12, 0)), some (.inr (63, 0)), some (.inl (.int a4)), none, none]) (st' := [.inl (.int (0 : Int32))]) (S' := S5) ok_L_law.1 (by decide +kernel) rfl rfl ?_
    cases h
set_option maxRecDepth 100000 in
theorem tb_case13 {l : Launch} {a4 : Int32} {S Z : AS} (h : fb_case13 a4 S = some (some Z)) : ax_R l 142 ma_L_law (640, [some (.inr (67, 0)), some (.inr (11, 0)), some (.inr (12, 0)), some (.inr (63, 0)), some (.inl (.int a4)), none, none], [], S) (23, [some (.inr (67, 0)), some (.inr (11, 0)), some (.inr (12, 0)), some (.inr (63, 0)), some (.inl (.int (a4 + (6 : Int32)))), none, none], [], Z) := by
  unfold fb_case13 at h
  refine ax_go [.aload_n 1] (pc' := 641) (L' := [some (.inr (67, 0)), some (.inr (11, 0)), some (.inr (12, 0)), some (.inr (63, 0)), some (.inl (.int a4)), none, none]) (st' := [.inr (11, 0)]) (S' := S) ok_L_law.1 (by decide +kernel) rfl rfl ?_
  obtain ⟨r4, S1, hq2, h⟩ := ax_bu_e h
  refine ax_cVi (d := 141) (ka := 11) (i := 0) [] [] lk_L_80 (by decide +kernel) rfl (by decide) rfl (Nat.le_of_ble_eq_true rfl) (Nat.le_of_ble_eq_true rfl) ((t_X11_breath hq2).up (by decide)) ?_
  refine ax_go [.aload_n 2] (pc' := 645) (L' := [some (.inr (67, 0)), some (.inr (11, 0)), some (.inr (12, 0)), some (.inr (63, 0)), some (.inl (.int a4)), none, none]) (st' := [.inr (12, 0), .inl (.int r4)]) (S' := S1) ok_L_law.1 (by decide +kernel) rfl rfl ?_
  obtain ⟨r8, S5, hq6, h⟩ := ax_bu_e h
  refine ax_cVi (d := 141) (ka := 12) (i := 0) [] [.inl (.int r4)] lk_L_83 (by decide +kernel) rfl (by decide) rfl (Nat.le_of_ble_eq_true rfl) (Nat.le_of_ble_eq_true rfl) ((t_X12_breath hq6).up (by decide)) ?_
  refine ax_ic_eq (off := 897) (tgt := 1545) (by decide +kernel) (by decide) (fun c9 => ?_) (fun c9 => ?_)
  · rw [if_pos c9] at h
    refine ax_go [.iinc 4 6] (pc' := 1548) (L' := [some (.inr (67, 0)), some (.inr (11, 0)), some (.inr (12, 0)), some (.inr (63, 0)), some (.inl (.int (a4 + (6 : Int32)))), none, none]) (st' := []) (S' := S5) ok_L_law.1 (by decide +kernel) rfl rfl ?_
    obtain ⟨v10, ev10, h⟩ := ax_let_e h
    rw [ev10]
    refine ax_goto (off := (-1525)) (tgt := 23) (by decide +kernel) (by decide) ?_
    cases h
    subst_vars
    exact ax_R.rf
  · rw [if_neg c9] at h
    refine ax_go [.iconst 0] (pc' := 652) (L' := [some (.inr (67, 0)), some (.inr (11, 0)), some (.inr (12, 0)), some (.inr (63, 0)), some (.inl (.int a4)), none, none]) (st' := [.inl (.int (0 : Int32))]) (S' := S5) ok_L_law.1 (by decide +kernel) rfl rfl ?_
    cases h
set_option maxRecDepth 100000 in
theorem tb_case14 {l : Launch} {a4 : Int32} {S Z : AS} (h : fb_case14 a4 S = some (some Z)) : ax_R l 142 ma_L_law (653, [some (.inr (67, 0)), some (.inr (11, 0)), some (.inr (12, 0)), some (.inr (63, 0)), some (.inl (.int a4)), none, none], [], S) (23, [some (.inr (67, 0)), some (.inr (11, 0)), some (.inr (12, 0)), some (.inr (63, 0)), some (.inl (.int (a4 + (6 : Int32)))), none, none], [], Z) := by
  unfold fb_case14 at h
  refine ax_go [.aload_n 1, .aload_n 0, .iload 4, .iconst 1, .iadd] (pc' := 659) (L' := [some (.inr (67, 0)), some (.inr (11, 0)), some (.inr (12, 0)), some (.inr (63, 0)), some (.inl (.int a4)), none, none]) (st' := [.inl (.int (a4 + (1 : Int32))), .inr (67, 0), .inr (11, 0)]) (S' := S) ok_L_law.1 (by decide +kernel) rfl rfl ?_
  obtain ⟨g1, h⟩ := ax_gd_e h
  refine ax_Ralc (n := (ax_fx S 67 0 0)) ok_L_law.1 (by decide +kernel) (by decide) rfl g1 ?_
  obtain ⟨r5, S2, hq3, h⟩ := ax_bu_e h
  refine ax_cVi (d := 141) (ka := 11) (i := 0) [.inl (.int (ax_rd S 67 0 (a4 + (1 : Int32)).toNatClampNeg))] [] lk_L_84 (by decide +kernel) rfl (by decide) rfl (Nat.le_of_ble_eq_true rfl) (Nat.le_of_ble_eq_true rfl) ((t_X11_hold hq3).up (by decide)) ?_
  refine ax_go [.aload_n 2, .aload_n 0, .iload 4, .iconst 1, .iadd] (pc' := 669) (L' := [some (.inr (67, 0)), some (.inr (11, 0)), some (.inr (12, 0)), some (.inr (63, 0)), some (.inl (.int a4)), none, none]) (st' := [.inl (.int (a4 + (1 : Int32))), .inr (67, 0), .inr (12, 0), .inl (.int r5)]) (S' := S2) ok_L_law.1 (by decide +kernel) rfl rfl ?_
  obtain ⟨g6, h⟩ := ax_gd_e h
  refine ax_Ralc (n := (ax_fx S2 67 0 0)) ok_L_law.1 (by decide +kernel) (by decide) rfl g6 ?_
  obtain ⟨r10, S7, hq8, h⟩ := ax_bu_e h
  refine ax_cVi (d := 141) (ka := 12) (i := 0) [.inl (.int (ax_rd S2 67 0 (a4 + (1 : Int32)).toNatClampNeg))] [.inl (.int r5)] lk_L_87 (by decide +kernel) rfl (by decide) rfl (Nat.le_of_ble_eq_true rfl) (Nat.le_of_ble_eq_true rfl) ((t_X12_hold hq8).up (by decide)) ?_
  refine ax_ic_eq (off := 872) (tgt := 1545) (by decide +kernel) (by decide) (fun c11 => ?_) (fun c11 => ?_)
  · rw [if_pos c11] at h
    refine ax_go [.iinc 4 6] (pc' := 1548) (L' := [some (.inr (67, 0)), some (.inr (11, 0)), some (.inr (12, 0)), some (.inr (63, 0)), some (.inl (.int (a4 + (6 : Int32)))), none, none]) (st' := []) (S' := S7) ok_L_law.1 (by decide +kernel) rfl rfl ?_
    obtain ⟨v12, ev12, h⟩ := ax_let_e h
    rw [ev12]
    refine ax_goto (off := (-1525)) (tgt := 23) (by decide +kernel) (by decide) ?_
    cases h
    subst_vars
    exact ax_R.rf
  · rw [if_neg c11] at h
    refine ax_go [.iconst 0] (pc' := 677) (L' := [some (.inr (67, 0)), some (.inr (11, 0)), some (.inr (12, 0)), some (.inr (63, 0)), some (.inl (.int a4)), none, none]) (st' := [.inl (.int (0 : Int32))]) (S' := S7) ok_L_law.1 (by decide +kernel) rfl rfl ?_
    cases h
set_option maxRecDepth 100000 in
theorem tb_case15 {l : Launch} {a4 : Int32} {S Z : AS} (h : fb_case15 a4 S = some (some Z)) : ax_R l 142 ma_L_law (678, [some (.inr (67, 0)), some (.inr (11, 0)), some (.inr (12, 0)), some (.inr (63, 0)), some (.inl (.int a4)), none, none], [], S) (23, [some (.inr (67, 0)), some (.inr (11, 0)), some (.inr (12, 0)), some (.inr (63, 0)), some (.inl (.int (a4 + (6 : Int32)))), none, none], [], Z) := by
  unfold fb_case15 at h
  refine ax_go [.aload_n 1] (pc' := 679) (L' := [some (.inr (67, 0)), some (.inr (11, 0)), some (.inr (12, 0)), some (.inr (63, 0)), some (.inl (.int a4)), none, none]) (st' := [.inr (11, 0)]) (S' := S) ok_L_law.1 (by decide +kernel) rfl rfl ?_
  obtain ⟨r4, S1, hq2, h⟩ := ax_bu_e h
  refine ax_cVi (d := 141) (ka := 11) (i := 0) [] [] lk_L_88 (by decide +kernel) rfl (by decide) rfl (Nat.le_of_ble_eq_true rfl) (Nat.le_of_ble_eq_true rfl) ((t_X11_day hq2).up (by decide)) ?_
  refine ax_go [.aload_n 2] (pc' := 683) (L' := [some (.inr (67, 0)), some (.inr (11, 0)), some (.inr (12, 0)), some (.inr (63, 0)), some (.inl (.int a4)), none, none]) (st' := [.inr (12, 0), .inl (.int r4)]) (S' := S1) ok_L_law.1 (by decide +kernel) rfl rfl ?_
  obtain ⟨r8, S5, hq6, h⟩ := ax_bu_e h
  refine ax_cVi (d := 141) (ka := 12) (i := 0) [] [.inl (.int r4)] lk_L_91 (by decide +kernel) rfl (by decide) rfl (Nat.le_of_ble_eq_true rfl) (Nat.le_of_ble_eq_true rfl) ((t_X12_day hq6).up (by decide)) ?_
  refine ax_ic_eq (off := 859) (tgt := 1545) (by decide +kernel) (by decide) (fun c9 => ?_) (fun c9 => ?_)
  · rw [if_pos c9] at h
    refine ax_go [.iinc 4 6] (pc' := 1548) (L' := [some (.inr (67, 0)), some (.inr (11, 0)), some (.inr (12, 0)), some (.inr (63, 0)), some (.inl (.int (a4 + (6 : Int32)))), none, none]) (st' := []) (S' := S5) ok_L_law.1 (by decide +kernel) rfl rfl ?_
    obtain ⟨v10, ev10, h⟩ := ax_let_e h
    rw [ev10]
    refine ax_goto (off := (-1525)) (tgt := 23) (by decide +kernel) (by decide) ?_
    cases h
    subst_vars
    exact ax_R.rf
  · rw [if_neg c9] at h
    refine ax_go [.iconst 0] (pc' := 690) (L' := [some (.inr (67, 0)), some (.inr (11, 0)), some (.inr (12, 0)), some (.inr (63, 0)), some (.inl (.int a4)), none, none]) (st' := [.inl (.int (0 : Int32))]) (S' := S5) ok_L_law.1 (by decide +kernel) rfl rfl ?_
    cases h
set_option maxRecDepth 100000 in
theorem tb_case16 {l : Launch} {a4 : Int32} {S Z : AS} (h : fb_case16 a4 S = some (some Z)) : ax_R l 142 ma_L_law (691, [some (.inr (67, 0)), some (.inr (11, 0)), some (.inr (12, 0)), some (.inr (63, 0)), some (.inl (.int a4)), none, none], [], S) (23, [some (.inr (67, 0)), some (.inr (11, 0)), some (.inr (12, 0)), some (.inr (63, 0)), some (.inl (.int (a4 + (6 : Int32)))), none, none], [], Z) := by
  unfold fb_case16 at h
  refine ax_go [.aload_n 1, .aload_n 0, .iload 4, .iconst 1, .iadd] (pc' := 697) (L' := [some (.inr (67, 0)), some (.inr (11, 0)), some (.inr (12, 0)), some (.inr (63, 0)), some (.inl (.int a4)), none, none]) (st' := [.inl (.int (a4 + (1 : Int32))), .inr (67, 0), .inr (11, 0)]) (S' := S) ok_L_law.1 (by decide +kernel) rfl rfl ?_
  obtain ⟨g1, h⟩ := ax_gd_e h
  refine ax_Ralc (n := (ax_fx S 67 0 0)) ok_L_law.1 (by decide +kernel) (by decide) rfl g1 ?_
  refine ax_go [.aload_n 0, .iload 4, .iconst 2, .iadd] (pc' := 703) (L' := [some (.inr (67, 0)), some (.inr (11, 0)), some (.inr (12, 0)), some (.inr (63, 0)), some (.inl (.int a4)), none, none]) (st' := [.inl (.int (a4 + (2 : Int32))), .inr (67, 0), .inl (.int (ax_rd S 67 0 (a4 + (1 : Int32)).toNatClampNeg)), .inr (11, 0)]) (S' := S) ok_L_law.1 (by decide +kernel) rfl rfl ?_
  obtain ⟨g2, h⟩ := ax_gd_e h
  refine ax_Ralc (n := (ax_fx S 67 0 0)) ok_L_law.1 (by decide +kernel) (by decide) rfl g2 ?_
  refine ax_go [.i2l, .bipush 32, .lshl, .aload_n 0, .iload 4, .iconst 3, .iadd] (pc' := 713) (L' := [some (.inr (67, 0)), some (.inr (11, 0)), some (.inr (12, 0)), some (.inr (63, 0)), some (.inl (.int a4)), none, none]) (st' := [.inl (.int (a4 + (3 : Int32))), .inr (67, 0), .inl (.long ((ax_rd S 67 0 (a4 + (2 : Int32)).toNatClampNeg).toInt64 <<< ((32 : Int32).toInt64 &&& 63))), .inl (.int (ax_rd S 67 0 (a4 + (1 : Int32)).toNatClampNeg)), .inr (11, 0)]) (S' := S) ok_L_law.1 (by decide +kernel) rfl rfl ?_
  obtain ⟨g3, h⟩ := ax_gd_e h
  refine ax_Ralc (n := (ax_fx S 67 0 0)) ok_L_law.1 (by decide +kernel) (by decide) rfl g3 ?_
  refine ax_go [.i2l, .ldc2_w 92, .land, .lor] (pc' := 720) (L' := [some (.inr (67, 0)), some (.inr (11, 0)), some (.inr (12, 0)), some (.inr (63, 0)), some (.inl (.int a4)), none, none]) (st' := [.inl (.long (((ax_rd S 67 0 (a4 + (2 : Int32)).toNatClampNeg).toInt64 <<< ((32 : Int32).toInt64 &&& 63)) ||| ((ax_rd S 67 0 (a4 + (3 : Int32)).toNatClampNeg).toInt64 &&& (4294967295 : Int64)))), .inl (.int (ax_rd S 67 0 (a4 + (1 : Int32)).toNatClampNeg)), .inr (11, 0)]) (S' := S) ok_L_law.1 (by decide +kernel) rfl rfl ?_
  obtain ⟨r7, S4, hq5, h⟩ := ax_bu_e h
  refine ax_cVi (d := 141) (ka := 11) (i := 0) [.inl (.int (ax_rd S 67 0 (a4 + (1 : Int32)).toNatClampNeg)), .inl (.long (((ax_rd S 67 0 (a4 + (2 : Int32)).toNatClampNeg).toInt64 <<< ((32 : Int32).toInt64 &&& 63)) ||| ((ax_rd S 67 0 (a4 + (3 : Int32)).toNatClampNeg).toInt64 &&& (4294967295 : Int64))))] [] lk_L_94 (by decide +kernel) rfl (by decide) rfl (Nat.le_of_ble_eq_true rfl) (Nat.le_of_ble_eq_true rfl) ((t_X11_years hq5).up (by decide)) ?_
  refine ax_go [.aload_n 2, .aload_n 0, .iload 4, .iconst 1, .iadd] (pc' := 729) (L' := [some (.inr (67, 0)), some (.inr (11, 0)), some (.inr (12, 0)), some (.inr (63, 0)), some (.inl (.int a4)), none, none]) (st' := [.inl (.int (a4 + (1 : Int32))), .inr (67, 0), .inr (12, 0), .inl (.int r7)]) (S' := S4) ok_L_law.1 (by decide +kernel) rfl rfl ?_
  obtain ⟨g8, h⟩ := ax_gd_e h
  refine ax_Ralc (n := (ax_fx S4 67 0 0)) ok_L_law.1 (by decide +kernel) (by decide) rfl g8 ?_
  refine ax_go [.aload_n 0, .iload 4, .iconst 2, .iadd] (pc' := 735) (L' := [some (.inr (67, 0)), some (.inr (11, 0)), some (.inr (12, 0)), some (.inr (63, 0)), some (.inl (.int a4)), none, none]) (st' := [.inl (.int (a4 + (2 : Int32))), .inr (67, 0), .inl (.int (ax_rd S4 67 0 (a4 + (1 : Int32)).toNatClampNeg)), .inr (12, 0), .inl (.int r7)]) (S' := S4) ok_L_law.1 (by decide +kernel) rfl rfl ?_
  obtain ⟨g9, h⟩ := ax_gd_e h
  refine ax_Ralc (n := (ax_fx S4 67 0 0)) ok_L_law.1 (by decide +kernel) (by decide) rfl g9 ?_
  refine ax_go [.i2l, .bipush 32, .lshl, .aload_n 0, .iload 4, .iconst 3, .iadd] (pc' := 745) (L' := [some (.inr (67, 0)), some (.inr (11, 0)), some (.inr (12, 0)), some (.inr (63, 0)), some (.inl (.int a4)), none, none]) (st' := [.inl (.int (a4 + (3 : Int32))), .inr (67, 0), .inl (.long ((ax_rd S4 67 0 (a4 + (2 : Int32)).toNatClampNeg).toInt64 <<< ((32 : Int32).toInt64 &&& 63))), .inl (.int (ax_rd S4 67 0 (a4 + (1 : Int32)).toNatClampNeg)), .inr (12, 0), .inl (.int r7)]) (S' := S4) ok_L_law.1 (by decide +kernel) rfl rfl ?_
  obtain ⟨g10, h⟩ := ax_gd_e h
  refine ax_Ralc (n := (ax_fx S4 67 0 0)) ok_L_law.1 (by decide +kernel) (by decide) rfl g10 ?_
  refine ax_go [.i2l, .ldc2_w 92, .land, .lor] (pc' := 752) (L' := [some (.inr (67, 0)), some (.inr (11, 0)), some (.inr (12, 0)), some (.inr (63, 0)), some (.inl (.int a4)), none, none]) (st' := [.inl (.long (((ax_rd S4 67 0 (a4 + (2 : Int32)).toNatClampNeg).toInt64 <<< ((32 : Int32).toInt64 &&& 63)) ||| ((ax_rd S4 67 0 (a4 + (3 : Int32)).toNatClampNeg).toInt64 &&& (4294967295 : Int64)))), .inl (.int (ax_rd S4 67 0 (a4 + (1 : Int32)).toNatClampNeg)), .inr (12, 0), .inl (.int r7)]) (S' := S4) ok_L_law.1 (by decide +kernel) rfl rfl ?_
  obtain ⟨r14, S11, hq12, h⟩ := ax_bu_e h
  refine ax_cVi (d := 141) (ka := 12) (i := 0) [.inl (.int (ax_rd S4 67 0 (a4 + (1 : Int32)).toNatClampNeg)), .inl (.long (((ax_rd S4 67 0 (a4 + (2 : Int32)).toNatClampNeg).toInt64 <<< ((32 : Int32).toInt64 &&& 63)) ||| ((ax_rd S4 67 0 (a4 + (3 : Int32)).toNatClampNeg).toInt64 &&& (4294967295 : Int64))))] [.inl (.int r7)] lk_L_98 (by decide +kernel) rfl (by decide) rfl (Nat.le_of_ble_eq_true rfl) (Nat.le_of_ble_eq_true rfl) ((t_X12_years hq12).up (by decide)) ?_
  refine ax_ic_eq (off := 790) (tgt := 1545) (by decide +kernel) (by decide) (fun c15 => ?_) (fun c15 => ?_)
  · rw [if_pos c15] at h
    refine ax_go [.iinc 4 6] (pc' := 1548) (L' := [some (.inr (67, 0)), some (.inr (11, 0)), some (.inr (12, 0)), some (.inr (63, 0)), some (.inl (.int (a4 + (6 : Int32)))), none, none]) (st' := []) (S' := S11) ok_L_law.1 (by decide +kernel) rfl rfl ?_
    obtain ⟨v16, ev16, h⟩ := ax_let_e h
    rw [ev16]
    refine ax_goto (off := (-1525)) (tgt := 23) (by decide +kernel) (by decide) ?_
    cases h
    subst_vars
    exact ax_R.rf
  · rw [if_neg c15] at h
    refine ax_go [.iconst 0] (pc' := 759) (L' := [some (.inr (67, 0)), some (.inr (11, 0)), some (.inr (12, 0)), some (.inr (63, 0)), some (.inl (.int a4)), none, none]) (st' := [.inl (.int (0 : Int32))]) (S' := S11) ok_L_law.1 (by decide +kernel) rfl rfl ?_
    cases h
set_option maxRecDepth 100000 in
theorem tb_case17 {l : Launch} {a4 : Int32} {S Z : AS} (h : fb_case17 a4 S = some (some Z)) : ax_R l 142 ma_L_law (760, [some (.inr (67, 0)), some (.inr (11, 0)), some (.inr (12, 0)), some (.inr (63, 0)), some (.inl (.int a4)), none, none], [], S) (23, [some (.inr (67, 0)), some (.inr (11, 0)), some (.inr (12, 0)), some (.inr (63, 0)), some (.inl (.int (a4 + (6 : Int32)))), none, none], [], Z) := by
  unfold fb_case17 at h
  refine ax_go [.aload_n 1] (pc' := 761) (L' := [some (.inr (67, 0)), some (.inr (11, 0)), some (.inr (12, 0)), some (.inr (63, 0)), some (.inl (.int a4)), none, none]) (st' := [.inr (11, 0)]) (S' := S) ok_L_law.1 (by decide +kernel) rfl rfl ?_
  obtain ⟨r4, S1, hq2, h⟩ := ax_bu_e h
  refine ax_cVi (d := 141) (ka := 11) (i := 0) [] [] lk_L_99 (by decide +kernel) rfl (by decide) rfl (Nat.le_of_ble_eq_true rfl) (Nat.le_of_ble_eq_true rfl) ((t_X11_undo hq2).up (by decide)) ?_
  refine ax_go [.aload_n 2] (pc' := 765) (L' := [some (.inr (67, 0)), some (.inr (11, 0)), some (.inr (12, 0)), some (.inr (63, 0)), some (.inl (.int a4)), none, none]) (st' := [.inr (12, 0), .inl (.int r4)]) (S' := S1) ok_L_law.1 (by decide +kernel) rfl rfl ?_
  obtain ⟨r8, S5, hq6, h⟩ := ax_bu_e h
  refine ax_cVi (d := 141) (ka := 12) (i := 0) [] [.inl (.int r4)] lk_L_102 (by decide +kernel) rfl (by decide) rfl (Nat.le_of_ble_eq_true rfl) (Nat.le_of_ble_eq_true rfl) ((t_X12_undo hq6).up (by decide)) ?_
  refine ax_ic_eq (off := 777) (tgt := 1545) (by decide +kernel) (by decide) (fun c9 => ?_) (fun c9 => ?_)
  · rw [if_pos c9] at h
    refine ax_go [.iinc 4 6] (pc' := 1548) (L' := [some (.inr (67, 0)), some (.inr (11, 0)), some (.inr (12, 0)), some (.inr (63, 0)), some (.inl (.int (a4 + (6 : Int32)))), none, none]) (st' := []) (S' := S5) ok_L_law.1 (by decide +kernel) rfl rfl ?_
    obtain ⟨v10, ev10, h⟩ := ax_let_e h
    rw [ev10]
    refine ax_goto (off := (-1525)) (tgt := 23) (by decide +kernel) (by decide) ?_
    cases h
    subst_vars
    exact ax_R.rf
  · rw [if_neg c9] at h
    refine ax_go [.iconst 0] (pc' := 772) (L' := [some (.inr (67, 0)), some (.inr (11, 0)), some (.inr (12, 0)), some (.inr (63, 0)), some (.inl (.int a4)), none, none]) (st' := [.inl (.int (0 : Int32))]) (S' := S5) ok_L_law.1 (by decide +kernel) rfl rfl ?_
    cases h
set_option maxRecDepth 100000 in
theorem tb_case18 {l : Launch} {a4 : Int32} {S Z : AS} (h : fb_case18 a4 S = some (some Z)) : ax_R l 142 ma_L_law (773, [some (.inr (67, 0)), some (.inr (11, 0)), some (.inr (12, 0)), some (.inr (63, 0)), some (.inl (.int a4)), none, none], [], S) (23, [some (.inr (67, 0)), some (.inr (11, 0)), some (.inr (12, 0)), some (.inr (63, 0)), some (.inl (.int (a4 + (6 : Int32)))), none, none], [], Z) := by
  unfold fb_case18 at h
  refine ax_go [.aload_n 1, .aload_n 0, .iload 4, .iconst 1, .iadd] (pc' := 779) (L' := [some (.inr (67, 0)), some (.inr (11, 0)), some (.inr (12, 0)), some (.inr (63, 0)), some (.inl (.int a4)), none, none]) (st' := [.inl (.int (a4 + (1 : Int32))), .inr (67, 0), .inr (11, 0)]) (S' := S) ok_L_law.1 (by decide +kernel) rfl rfl ?_
  obtain ⟨g1, h⟩ := ax_gd_e h
  refine ax_Ralc (n := (ax_fx S 67 0 0)) ok_L_law.1 (by decide +kernel) (by decide) rfl g1 ?_
  refine ax_go [.aload_n 0, .iload 4, .iconst 2, .iadd] (pc' := 785) (L' := [some (.inr (67, 0)), some (.inr (11, 0)), some (.inr (12, 0)), some (.inr (63, 0)), some (.inl (.int a4)), none, none]) (st' := [.inl (.int (a4 + (2 : Int32))), .inr (67, 0), .inl (.int (ax_rd S 67 0 (a4 + (1 : Int32)).toNatClampNeg)), .inr (11, 0)]) (S' := S) ok_L_law.1 (by decide +kernel) rfl rfl ?_
  obtain ⟨g2, h⟩ := ax_gd_e h
  refine ax_Ralc (n := (ax_fx S 67 0 0)) ok_L_law.1 (by decide +kernel) (by decide) rfl g2 ?_
  obtain ⟨r6, hq4, h⟩ := ax_bd_e h
  refine ax_cVi (d := 141) (ka := 11) (i := 0) [.inl (.int (ax_rd S 67 0 (a4 + (1 : Int32)).toNatClampNeg)), .inl (.int (ax_rd S 67 0 (a4 + (2 : Int32)).toNatClampNeg))] [] lk_L_103 (by decide +kernel) rfl (by decide) rfl (Nat.le_of_ble_eq_true rfl) (Nat.le_of_ble_eq_true rfl) ((t_X11_log hq4).up (by decide)) ?_
  refine ax_go [.aload_n 2, .aload_n 0, .iload 4, .iconst 1, .iadd] (pc' := 795) (L' := [some (.inr (67, 0)), some (.inr (11, 0)), some (.inr (12, 0)), some (.inr (63, 0)), some (.inl (.int a4)), none, none]) (st' := [.inl (.int (a4 + (1 : Int32))), .inr (67, 0), .inr (12, 0), .inl (.int r6)]) (S' := S) ok_L_law.1 (by decide +kernel) rfl rfl ?_
  obtain ⟨g7, h⟩ := ax_gd_e h
  refine ax_Ralc (n := (ax_fx S 67 0 0)) ok_L_law.1 (by decide +kernel) (by decide) rfl g7 ?_
  refine ax_go [.aload_n 0, .iload 4, .iconst 2, .iadd] (pc' := 801) (L' := [some (.inr (67, 0)), some (.inr (11, 0)), some (.inr (12, 0)), some (.inr (63, 0)), some (.inl (.int a4)), none, none]) (st' := [.inl (.int (a4 + (2 : Int32))), .inr (67, 0), .inl (.int (ax_rd S 67 0 (a4 + (1 : Int32)).toNatClampNeg)), .inr (12, 0), .inl (.int r6)]) (S' := S) ok_L_law.1 (by decide +kernel) rfl rfl ?_
  obtain ⟨g8, h⟩ := ax_gd_e h
  refine ax_Ralc (n := (ax_fx S 67 0 0)) ok_L_law.1 (by decide +kernel) (by decide) rfl g8 ?_
  obtain ⟨r12, S9, hq10, h⟩ := ax_bu_e h
  refine ax_cVi (d := 141) (ka := 12) (i := 0) [.inl (.int (ax_rd S 67 0 (a4 + (1 : Int32)).toNatClampNeg)), .inl (.int (ax_rd S 67 0 (a4 + (2 : Int32)).toNatClampNeg))] [.inl (.int r6)] lk_L_106 (by decide +kernel) rfl (by decide) rfl (Nat.le_of_ble_eq_true rfl) (Nat.le_of_ble_eq_true rfl) ((t_X12_log hq10).up (by decide)) ?_
  refine ax_ic_eq (off := 740) (tgt := 1545) (by decide +kernel) (by decide) (fun c13 => ?_) (fun c13 => ?_)
  · rw [if_pos c13] at h
    refine ax_go [.iinc 4 6] (pc' := 1548) (L' := [some (.inr (67, 0)), some (.inr (11, 0)), some (.inr (12, 0)), some (.inr (63, 0)), some (.inl (.int (a4 + (6 : Int32)))), none, none]) (st' := []) (S' := S9) ok_L_law.1 (by decide +kernel) rfl rfl ?_
    obtain ⟨v14, ev14, h⟩ := ax_let_e h
    rw [ev14]
    refine ax_goto (off := (-1525)) (tgt := 23) (by decide +kernel) (by decide) ?_
    cases h
    subst_vars
    exact ax_R.rf
  · rw [if_neg c13] at h
    refine ax_go [.iconst 0] (pc' := 809) (L' := [some (.inr (67, 0)), some (.inr (11, 0)), some (.inr (12, 0)), some (.inr (63, 0)), some (.inl (.int a4)), none, none]) (st' := [.inl (.int (0 : Int32))]) (S' := S9) ok_L_law.1 (by decide +kernel) rfl rfl ?_
    cases h
set_option maxRecDepth 100000 in
theorem tb_case19 {l : Launch} {a4 : Int32} {S Z : AS} (h : fb_case19 a4 S = some (some Z)) : ax_R l 142 ma_L_law (810, [some (.inr (67, 0)), some (.inr (11, 0)), some (.inr (12, 0)), some (.inr (63, 0)), some (.inl (.int a4)), none, none], [], S) (23, [some (.inr (67, 0)), some (.inr (11, 0)), some (.inr (12, 0)), some (.inr (63, 0)), some (.inl (.int (a4 + (6 : Int32)))), none, none], [], Z) := by
  unfold fb_case19 at h
  refine ax_go [.aload_n 1, .aload_n 0, .iload 4, .iconst 1, .iadd] (pc' := 816) (L' := [some (.inr (67, 0)), some (.inr (11, 0)), some (.inr (12, 0)), some (.inr (63, 0)), some (.inl (.int a4)), none, none]) (st' := [.inl (.int (a4 + (1 : Int32))), .inr (67, 0), .inr (11, 0)]) (S' := S) ok_L_law.1 (by decide +kernel) rfl rfl ?_
  obtain ⟨g1, h⟩ := ax_gd_e h
  refine ax_Ralc (n := (ax_fx S 67 0 0)) ok_L_law.1 (by decide +kernel) (by decide) rfl g1 ?_
  refine ax_go [.aload_n 0, .iload 4, .iconst 2, .iadd] (pc' := 822) (L' := [some (.inr (67, 0)), some (.inr (11, 0)), some (.inr (12, 0)), some (.inr (63, 0)), some (.inl (.int a4)), none, none]) (st' := [.inl (.int (a4 + (2 : Int32))), .inr (67, 0), .inl (.int (ax_rd S 67 0 (a4 + (1 : Int32)).toNatClampNeg)), .inr (11, 0)]) (S' := S) ok_L_law.1 (by decide +kernel) rfl rfl ?_
  obtain ⟨g2, h⟩ := ax_gd_e h
  refine ax_Ralc (n := (ax_fx S 67 0 0)) ok_L_law.1 (by decide +kernel) (by decide) rfl g2 ?_
  refine ax_go [.aload_n 0, .iload 4, .iconst 3, .iadd] (pc' := 828) (L' := [some (.inr (67, 0)), some (.inr (11, 0)), some (.inr (12, 0)), some (.inr (63, 0)), some (.inl (.int a4)), none, none]) (st' := [.inl (.int (a4 + (3 : Int32))), .inr (67, 0), .inl (.int (ax_rd S 67 0 (a4 + (2 : Int32)).toNatClampNeg)), .inl (.int (ax_rd S 67 0 (a4 + (1 : Int32)).toNatClampNeg)), .inr (11, 0)]) (S' := S) ok_L_law.1 (by decide +kernel) rfl rfl ?_
  obtain ⟨g3, h⟩ := ax_gd_e h
  refine ax_Ralc (n := (ax_fx S 67 0 0)) ok_L_law.1 (by decide +kernel) (by decide) rfl g3 ?_
  obtain ⟨r7, hq5, h⟩ := ax_bd_e h
  refine ax_cVi (d := 141) (ka := 11) (i := 0) [.inl (.int (ax_rd S 67 0 (a4 + (1 : Int32)).toNatClampNeg)), .inl (.int (ax_rd S 67 0 (a4 + (2 : Int32)).toNatClampNeg)), .inl (.int (ax_rd S 67 0 (a4 + (3 : Int32)).toNatClampNeg))] [] lk_L_107 (by decide +kernel) rfl (by decide) rfl (Nat.le_of_ble_eq_true rfl) (Nat.le_of_ble_eq_true rfl) ((t_X11_step hq5).up (by decide)) ?_
  refine ax_go [.aload_n 2, .aload_n 0, .iload 4, .iconst 1, .iadd] (pc' := 838) (L' := [some (.inr (67, 0)), some (.inr (11, 0)), some (.inr (12, 0)), some (.inr (63, 0)), some (.inl (.int a4)), none, none]) (st' := [.inl (.int (a4 + (1 : Int32))), .inr (67, 0), .inr (12, 0), .inl (.int r7)]) (S' := S) ok_L_law.1 (by decide +kernel) rfl rfl ?_
  obtain ⟨g8, h⟩ := ax_gd_e h
  refine ax_Ralc (n := (ax_fx S 67 0 0)) ok_L_law.1 (by decide +kernel) (by decide) rfl g8 ?_
  refine ax_go [.aload_n 0, .iload 4, .iconst 2, .iadd] (pc' := 844) (L' := [some (.inr (67, 0)), some (.inr (11, 0)), some (.inr (12, 0)), some (.inr (63, 0)), some (.inl (.int a4)), none, none]) (st' := [.inl (.int (a4 + (2 : Int32))), .inr (67, 0), .inl (.int (ax_rd S 67 0 (a4 + (1 : Int32)).toNatClampNeg)), .inr (12, 0), .inl (.int r7)]) (S' := S) ok_L_law.1 (by decide +kernel) rfl rfl ?_
  obtain ⟨g9, h⟩ := ax_gd_e h
  refine ax_Ralc (n := (ax_fx S 67 0 0)) ok_L_law.1 (by decide +kernel) (by decide) rfl g9 ?_
  refine ax_go [.aload_n 0, .iload 4, .iconst 3, .iadd] (pc' := 850) (L' := [some (.inr (67, 0)), some (.inr (11, 0)), some (.inr (12, 0)), some (.inr (63, 0)), some (.inl (.int a4)), none, none]) (st' := [.inl (.int (a4 + (3 : Int32))), .inr (67, 0), .inl (.int (ax_rd S 67 0 (a4 + (2 : Int32)).toNatClampNeg)), .inl (.int (ax_rd S 67 0 (a4 + (1 : Int32)).toNatClampNeg)), .inr (12, 0), .inl (.int r7)]) (S' := S) ok_L_law.1 (by decide +kernel) rfl rfl ?_
  obtain ⟨g10, h⟩ := ax_gd_e h
  refine ax_Ralc (n := (ax_fx S 67 0 0)) ok_L_law.1 (by decide +kernel) (by decide) rfl g10 ?_
  obtain ⟨r14, S11, hq12, h⟩ := ax_bu_e h
  refine ax_cVi (d := 141) (ka := 12) (i := 0) [.inl (.int (ax_rd S 67 0 (a4 + (1 : Int32)).toNatClampNeg)), .inl (.int (ax_rd S 67 0 (a4 + (2 : Int32)).toNatClampNeg)), .inl (.int (ax_rd S 67 0 (a4 + (3 : Int32)).toNatClampNeg))] [.inl (.int r7)] lk_L_111 (by decide +kernel) rfl (by decide) rfl (Nat.le_of_ble_eq_true rfl) (Nat.le_of_ble_eq_true rfl) ((t_X12_step hq12).up (by decide)) ?_
  refine ax_ic_eq (off := 691) (tgt := 1545) (by decide +kernel) (by decide) (fun c15 => ?_) (fun c15 => ?_)
  · rw [if_pos c15] at h
    refine ax_go [.iinc 4 6] (pc' := 1548) (L' := [some (.inr (67, 0)), some (.inr (11, 0)), some (.inr (12, 0)), some (.inr (63, 0)), some (.inl (.int (a4 + (6 : Int32)))), none, none]) (st' := []) (S' := S11) ok_L_law.1 (by decide +kernel) rfl rfl ?_
    obtain ⟨v16, ev16, h⟩ := ax_let_e h
    rw [ev16]
    refine ax_goto (off := (-1525)) (tgt := 23) (by decide +kernel) (by decide) ?_
    cases h
    subst_vars
    exact ax_R.rf
  · rw [if_neg c15] at h
    refine ax_go [.iconst 0] (pc' := 858) (L' := [some (.inr (67, 0)), some (.inr (11, 0)), some (.inr (12, 0)), some (.inr (63, 0)), some (.inl (.int a4)), none, none]) (st' := [.inl (.int (0 : Int32))]) (S' := S11) ok_L_law.1 (by decide +kernel) rfl rfl ?_
    cases h
set_option maxRecDepth 100000 in
theorem tb_case20 {l : Launch} {a4 : Int32} {S Z : AS} (h : fb_case20 a4 S = some (some Z)) : ax_R l 142 ma_L_law (859, [some (.inr (67, 0)), some (.inr (11, 0)), some (.inr (12, 0)), some (.inr (63, 0)), some (.inl (.int a4)), none, none], [], S) (23, [some (.inr (67, 0)), some (.inr (11, 0)), some (.inr (12, 0)), some (.inr (63, 0)), some (.inl (.int (a4 + (6 : Int32)))), none, none], [], Z) := by
  unfold fb_case20 at h
  refine ax_go [.aload_n 1, .aload_n 0, .iload 4, .iconst 1, .iadd] (pc' := 865) (L' := [some (.inr (67, 0)), some (.inr (11, 0)), some (.inr (12, 0)), some (.inr (63, 0)), some (.inl (.int a4)), none, none]) (st' := [.inl (.int (a4 + (1 : Int32))), .inr (67, 0), .inr (11, 0)]) (S' := S) ok_L_law.1 (by decide +kernel) rfl rfl ?_
  obtain ⟨g1, h⟩ := ax_gd_e h
  refine ax_Ralc (n := (ax_fx S 67 0 0)) ok_L_law.1 (by decide +kernel) (by decide) rfl g1 ?_
  refine ax_go [.aload_n 0, .iload 4, .iconst 2, .iadd] (pc' := 871) (L' := [some (.inr (67, 0)), some (.inr (11, 0)), some (.inr (12, 0)), some (.inr (63, 0)), some (.inl (.int a4)), none, none]) (st' := [.inl (.int (a4 + (2 : Int32))), .inr (67, 0), .inl (.int (ax_rd S 67 0 (a4 + (1 : Int32)).toNatClampNeg)), .inr (11, 0)]) (S' := S) ok_L_law.1 (by decide +kernel) rfl rfl ?_
  obtain ⟨g2, h⟩ := ax_gd_e h
  refine ax_Ralc (n := (ax_fx S 67 0 0)) ok_L_law.1 (by decide +kernel) (by decide) rfl g2 ?_
  obtain ⟨r6, S3, hq4, h⟩ := ax_bu_e h
  refine ax_cVi (d := 141) (ka := 11) (i := 0) [.inl (.int (ax_rd S 67 0 (a4 + (1 : Int32)).toNatClampNeg)), .inl (.int (ax_rd S 67 0 (a4 + (2 : Int32)).toNatClampNeg))] [] lk_L_112 (by decide +kernel) rfl (by decide) rfl (Nat.le_of_ble_eq_true rfl) (Nat.le_of_ble_eq_true rfl) ((t_X11_run hq4).up (by decide)) ?_
  refine ax_go [.aload_n 2, .aload_n 0, .iload 4, .iconst 1, .iadd] (pc' := 881) (L' := [some (.inr (67, 0)), some (.inr (11, 0)), some (.inr (12, 0)), some (.inr (63, 0)), some (.inl (.int a4)), none, none]) (st' := [.inl (.int (a4 + (1 : Int32))), .inr (67, 0), .inr (12, 0), .inl (.int r6)]) (S' := S3) ok_L_law.1 (by decide +kernel) rfl rfl ?_
  obtain ⟨g7, h⟩ := ax_gd_e h
  refine ax_Ralc (n := (ax_fx S3 67 0 0)) ok_L_law.1 (by decide +kernel) (by decide) rfl g7 ?_
  refine ax_go [.aload_n 0, .iload 4, .iconst 2, .iadd] (pc' := 887) (L' := [some (.inr (67, 0)), some (.inr (11, 0)), some (.inr (12, 0)), some (.inr (63, 0)), some (.inl (.int a4)), none, none]) (st' := [.inl (.int (a4 + (2 : Int32))), .inr (67, 0), .inl (.int (ax_rd S3 67 0 (a4 + (1 : Int32)).toNatClampNeg)), .inr (12, 0), .inl (.int r6)]) (S' := S3) ok_L_law.1 (by decide +kernel) rfl rfl ?_
  obtain ⟨g8, h⟩ := ax_gd_e h
  refine ax_Ralc (n := (ax_fx S3 67 0 0)) ok_L_law.1 (by decide +kernel) (by decide) rfl g8 ?_
  obtain ⟨r12, S9, hq10, h⟩ := ax_bu_e h
  refine ax_cVi (d := 141) (ka := 12) (i := 0) [.inl (.int (ax_rd S3 67 0 (a4 + (1 : Int32)).toNatClampNeg)), .inl (.int (ax_rd S3 67 0 (a4 + (2 : Int32)).toNatClampNeg))] [.inl (.int r6)] lk_L_115 (by decide +kernel) rfl (by decide) rfl (Nat.le_of_ble_eq_true rfl) (Nat.le_of_ble_eq_true rfl) ((t_X12_run hq10).up (by decide)) ?_
  refine ax_ic_eq (off := 654) (tgt := 1545) (by decide +kernel) (by decide) (fun c13 => ?_) (fun c13 => ?_)
  · rw [if_pos c13] at h
    refine ax_go [.iinc 4 6] (pc' := 1548) (L' := [some (.inr (67, 0)), some (.inr (11, 0)), some (.inr (12, 0)), some (.inr (63, 0)), some (.inl (.int (a4 + (6 : Int32)))), none, none]) (st' := []) (S' := S9) ok_L_law.1 (by decide +kernel) rfl rfl ?_
    obtain ⟨v14, ev14, h⟩ := ax_let_e h
    rw [ev14]
    refine ax_goto (off := (-1525)) (tgt := 23) (by decide +kernel) (by decide) ?_
    cases h
    subst_vars
    exact ax_R.rf
  · rw [if_neg c13] at h
    refine ax_go [.iconst 0] (pc' := 895) (L' := [some (.inr (67, 0)), some (.inr (11, 0)), some (.inr (12, 0)), some (.inr (63, 0)), some (.inl (.int a4)), none, none]) (st' := [.inl (.int (0 : Int32))]) (S' := S9) ok_L_law.1 (by decide +kernel) rfl rfl ?_
    cases h
set_option maxRecDepth 100000 in
theorem tb_case21 {l : Launch} {a4 : Int32} {S Z : AS} (h : fb_case21 a4 S = some (some Z)) : ax_R l 142 ma_L_law (896, [some (.inr (67, 0)), some (.inr (11, 0)), some (.inr (12, 0)), some (.inr (63, 0)), some (.inl (.int a4)), none, none], [], S) (23, [some (.inr (67, 0)), some (.inr (11, 0)), some (.inr (12, 0)), some (.inr (63, 0)), some (.inl (.int (a4 + (6 : Int32)))), none, none], [], Z) := by
  unfold fb_case21 at h
  refine ax_go [.aload_n 1, .aload_n 0, .iload 4, .iconst 1, .iadd] (pc' := 902) (L' := [some (.inr (67, 0)), some (.inr (11, 0)), some (.inr (12, 0)), some (.inr (63, 0)), some (.inl (.int a4)), none, none]) (st' := [.inl (.int (a4 + (1 : Int32))), .inr (67, 0), .inr (11, 0)]) (S' := S) ok_L_law.1 (by decide +kernel) rfl rfl ?_
  obtain ⟨g1, h⟩ := ax_gd_e h
  refine ax_Ralc (n := (ax_fx S 67 0 0)) ok_L_law.1 (by decide +kernel) (by decide) rfl g1 ?_
  obtain ⟨r5, S2, hq3, h⟩ := ax_bu_e h
  refine ax_cVi (d := 141) (ka := 11) (i := 0) [.inl (.int (ax_rd S 67 0 (a4 + (1 : Int32)).toNatClampNeg))] [] lk_L_116 (by decide +kernel) rfl (by decide) rfl (Nat.le_of_ble_eq_true rfl) (Nat.le_of_ble_eq_true rfl) ((t_X11_perform hq3).up (by decide)) ?_
  refine ax_go [.aload_n 2, .aload_n 0, .iload 4, .iconst 1, .iadd] (pc' := 912) (L' := [some (.inr (67, 0)), some (.inr (11, 0)), some (.inr (12, 0)), some (.inr (63, 0)), some (.inl (.int a4)), none, none]) (st' := [.inl (.int (a4 + (1 : Int32))), .inr (67, 0), .inr (12, 0), .inl (.int r5)]) (S' := S2) ok_L_law.1 (by decide +kernel) rfl rfl ?_
  obtain ⟨g6, h⟩ := ax_gd_e h
  refine ax_Ralc (n := (ax_fx S2 67 0 0)) ok_L_law.1 (by decide +kernel) (by decide) rfl g6 ?_
  obtain ⟨r10, S7, hq8, h⟩ := ax_bu_e h
  refine ax_cVi (d := 141) (ka := 12) (i := 0) [.inl (.int (ax_rd S2 67 0 (a4 + (1 : Int32)).toNatClampNeg))] [.inl (.int r5)] lk_L_119 (by decide +kernel) rfl (by decide) rfl (Nat.le_of_ble_eq_true rfl) (Nat.le_of_ble_eq_true rfl) ((t_X12_perform hq8).up (by decide)) ?_
  refine ax_ic_eq (off := 629) (tgt := 1545) (by decide +kernel) (by decide) (fun c11 => ?_) (fun c11 => ?_)
  · rw [if_pos c11] at h
    refine ax_go [.iinc 4 6] (pc' := 1548) (L' := [some (.inr (67, 0)), some (.inr (11, 0)), some (.inr (12, 0)), some (.inr (63, 0)), some (.inl (.int (a4 + (6 : Int32)))), none, none]) (st' := []) (S' := S7) ok_L_law.1 (by decide +kernel) rfl rfl ?_
    obtain ⟨v12, ev12, h⟩ := ax_let_e h
    rw [ev12]
    refine ax_goto (off := (-1525)) (tgt := 23) (by decide +kernel) (by decide) ?_
    cases h
    subst_vars
    exact ax_R.rf
  · rw [if_neg c11] at h
    refine ax_go [.iconst 0] (pc' := 920) (L' := [some (.inr (67, 0)), some (.inr (11, 0)), some (.inr (12, 0)), some (.inr (63, 0)), some (.inl (.int a4)), none, none]) (st' := [.inl (.int (0 : Int32))]) (S' := S7) ok_L_law.1 (by decide +kernel) rfl rfl ?_
    cases h
set_option maxRecDepth 100000 in
theorem tb_case22 {l : Launch} {a4 : Int32} {S Z : AS} (h : fb_case22 a4 S = some (some Z)) : ax_R l 142 ma_L_law (921, [some (.inr (67, 0)), some (.inr (11, 0)), some (.inr (12, 0)), some (.inr (63, 0)), some (.inl (.int a4)), none, none], [], S) (23, [some (.inr (67, 0)), some (.inr (11, 0)), some (.inr (12, 0)), some (.inr (63, 0)), some (.inl (.int (a4 + (6 : Int32)))), none, none], [], Z) := by
  unfold fb_case22 at h
  refine ax_go [.aload_n 1, .aload_n 0, .iload 4, .iconst 1, .iadd] (pc' := 927) (L' := [some (.inr (67, 0)), some (.inr (11, 0)), some (.inr (12, 0)), some (.inr (63, 0)), some (.inl (.int a4)), none, none]) (st' := [.inl (.int (a4 + (1 : Int32))), .inr (67, 0), .inr (11, 0)]) (S' := S) ok_L_law.1 (by decide +kernel) rfl rfl ?_
  obtain ⟨g1, h⟩ := ax_gd_e h
  refine ax_Ralc (n := (ax_fx S 67 0 0)) ok_L_law.1 (by decide +kernel) (by decide) rfl g1 ?_
  refine ax_go [.aload_n 0, .iload 4, .iconst 2, .iadd] (pc' := 933) (L' := [some (.inr (67, 0)), some (.inr (11, 0)), some (.inr (12, 0)), some (.inr (63, 0)), some (.inl (.int a4)), none, none]) (st' := [.inl (.int (a4 + (2 : Int32))), .inr (67, 0), .inl (.int (ax_rd S 67 0 (a4 + (1 : Int32)).toNatClampNeg)), .inr (11, 0)]) (S' := S) ok_L_law.1 (by decide +kernel) rfl rfl ?_
  obtain ⟨g2, h⟩ := ax_gd_e h
  refine ax_Ralc (n := (ax_fx S 67 0 0)) ok_L_law.1 (by decide +kernel) (by decide) rfl g2 ?_
  obtain ⟨r6, S3, hq4, h⟩ := ax_bu_e h
  refine ax_cVi (d := 141) (ka := 11) (i := 0) [.inl (.int (ax_rd S 67 0 (a4 + (1 : Int32)).toNatClampNeg)), .inl (.int (ax_rd S 67 0 (a4 + (2 : Int32)).toNatClampNeg))] [] lk_L_120 (by decide +kernel) rfl (by decide) rfl (Nat.le_of_ble_eq_true rfl) (Nat.le_of_ble_eq_true rfl) ((t_X11_name hq4).up (by decide)) ?_
  refine ax_go [.aload_n 2, .aload_n 0, .iload 4, .iconst 1, .iadd] (pc' := 943) (L' := [some (.inr (67, 0)), some (.inr (11, 0)), some (.inr (12, 0)), some (.inr (63, 0)), some (.inl (.int a4)), none, none]) (st' := [.inl (.int (a4 + (1 : Int32))), .inr (67, 0), .inr (12, 0), .inl (.int r6)]) (S' := S3) ok_L_law.1 (by decide +kernel) rfl rfl ?_
  obtain ⟨g7, h⟩ := ax_gd_e h
  refine ax_Ralc (n := (ax_fx S3 67 0 0)) ok_L_law.1 (by decide +kernel) (by decide) rfl g7 ?_
  refine ax_go [.aload_n 0, .iload 4, .iconst 2, .iadd] (pc' := 949) (L' := [some (.inr (67, 0)), some (.inr (11, 0)), some (.inr (12, 0)), some (.inr (63, 0)), some (.inl (.int a4)), none, none]) (st' := [.inl (.int (a4 + (2 : Int32))), .inr (67, 0), .inl (.int (ax_rd S3 67 0 (a4 + (1 : Int32)).toNatClampNeg)), .inr (12, 0), .inl (.int r6)]) (S' := S3) ok_L_law.1 (by decide +kernel) rfl rfl ?_
  obtain ⟨g8, h⟩ := ax_gd_e h
  refine ax_Ralc (n := (ax_fx S3 67 0 0)) ok_L_law.1 (by decide +kernel) (by decide) rfl g8 ?_
  obtain ⟨r12, S9, hq10, h⟩ := ax_bu_e h
  refine ax_cVi (d := 141) (ka := 12) (i := 0) [.inl (.int (ax_rd S3 67 0 (a4 + (1 : Int32)).toNatClampNeg)), .inl (.int (ax_rd S3 67 0 (a4 + (2 : Int32)).toNatClampNeg))] [.inl (.int r6)] lk_L_123 (by decide +kernel) rfl (by decide) rfl (Nat.le_of_ble_eq_true rfl) (Nat.le_of_ble_eq_true rfl) ((t_X12_name hq10).up (by decide)) ?_
  refine ax_ic_eq (off := 592) (tgt := 1545) (by decide +kernel) (by decide) (fun c13 => ?_) (fun c13 => ?_)
  · rw [if_pos c13] at h
    refine ax_go [.iinc 4 6] (pc' := 1548) (L' := [some (.inr (67, 0)), some (.inr (11, 0)), some (.inr (12, 0)), some (.inr (63, 0)), some (.inl (.int (a4 + (6 : Int32)))), none, none]) (st' := []) (S' := S9) ok_L_law.1 (by decide +kernel) rfl rfl ?_
    obtain ⟨v14, ev14, h⟩ := ax_let_e h
    rw [ev14]
    refine ax_goto (off := (-1525)) (tgt := 23) (by decide +kernel) (by decide) ?_
    cases h
    subst_vars
    exact ax_R.rf
  · rw [if_neg c13] at h
    refine ax_go [.iconst 0] (pc' := 957) (L' := [some (.inr (67, 0)), some (.inr (11, 0)), some (.inr (12, 0)), some (.inr (63, 0)), some (.inl (.int a4)), none, none]) (st' := [.inl (.int (0 : Int32))]) (S' := S9) ok_L_law.1 (by decide +kernel) rfl rfl ?_
    cases h
set_option maxRecDepth 100000 in
theorem tb_case23 {l : Launch} {a4 : Int32} {S Z : AS} (h : fb_case23 a4 S = some (some Z)) : ax_R l 142 ma_L_law (958, [some (.inr (67, 0)), some (.inr (11, 0)), some (.inr (12, 0)), some (.inr (63, 0)), some (.inl (.int a4)), none, none], [], S) (23, [some (.inr (67, 0)), some (.inr (11, 0)), some (.inr (12, 0)), some (.inr (63, 0)), some (.inl (.int (a4 + (6 : Int32)))), none, none], [], Z) := by
  unfold fb_case23 at h
  refine ax_go [.aload_n 1, .aload_n 0, .iload 4, .iconst 1, .iadd] (pc' := 964) (L' := [some (.inr (67, 0)), some (.inr (11, 0)), some (.inr (12, 0)), some (.inr (63, 0)), some (.inl (.int a4)), none, none]) (st' := [.inl (.int (a4 + (1 : Int32))), .inr (67, 0), .inr (11, 0)]) (S' := S) ok_L_law.1 (by decide +kernel) rfl rfl ?_
  obtain ⟨g1, h⟩ := ax_gd_e h
  refine ax_Ralc (n := (ax_fx S 67 0 0)) ok_L_law.1 (by decide +kernel) (by decide) rfl g1 ?_
  obtain ⟨r5, S2, hq3, h⟩ := ax_bu_e h
  refine ax_cVi (d := 141) (ka := 11) (i := 0) [.inl (.int (ax_rd S 67 0 (a4 + (1 : Int32)).toNatClampNeg))] [] lk_L_124 (by decide +kernel) rfl (by decide) rfl (Nat.le_of_ble_eq_true rfl) (Nat.le_of_ble_eq_true rfl) ((t_X11_order hq3).up (by decide)) ?_
  refine ax_go [.aload_n 2, .aload_n 0, .iload 4, .iconst 1, .iadd] (pc' := 974) (L' := [some (.inr (67, 0)), some (.inr (11, 0)), some (.inr (12, 0)), some (.inr (63, 0)), some (.inl (.int a4)), none, none]) (st' := [.inl (.int (a4 + (1 : Int32))), .inr (67, 0), .inr (12, 0), .inl (.int r5)]) (S' := S2) ok_L_law.1 (by decide +kernel) rfl rfl ?_
  obtain ⟨g6, h⟩ := ax_gd_e h
  refine ax_Ralc (n := (ax_fx S2 67 0 0)) ok_L_law.1 (by decide +kernel) (by decide) rfl g6 ?_
  obtain ⟨r10, S7, hq8, h⟩ := ax_bu_e h
  refine ax_cVi (d := 141) (ka := 12) (i := 0) [.inl (.int (ax_rd S2 67 0 (a4 + (1 : Int32)).toNatClampNeg))] [.inl (.int r5)] lk_L_127 (by decide +kernel) rfl (by decide) rfl (Nat.le_of_ble_eq_true rfl) (Nat.le_of_ble_eq_true rfl) ((t_X12_order hq8).up (by decide)) ?_
  refine ax_ic_eq (off := 567) (tgt := 1545) (by decide +kernel) (by decide) (fun c11 => ?_) (fun c11 => ?_)
  · rw [if_pos c11] at h
    refine ax_go [.iinc 4 6] (pc' := 1548) (L' := [some (.inr (67, 0)), some (.inr (11, 0)), some (.inr (12, 0)), some (.inr (63, 0)), some (.inl (.int (a4 + (6 : Int32)))), none, none]) (st' := []) (S' := S7) ok_L_law.1 (by decide +kernel) rfl rfl ?_
    obtain ⟨v12, ev12, h⟩ := ax_let_e h
    rw [ev12]
    refine ax_goto (off := (-1525)) (tgt := 23) (by decide +kernel) (by decide) ?_
    cases h
    subst_vars
    exact ax_R.rf
  · rw [if_neg c11] at h
    refine ax_go [.iconst 0] (pc' := 982) (L' := [some (.inr (67, 0)), some (.inr (11, 0)), some (.inr (12, 0)), some (.inr (63, 0)), some (.inl (.int a4)), none, none]) (st' := [.inl (.int (0 : Int32))]) (S' := S7) ok_L_law.1 (by decide +kernel) rfl rfl ?_
    cases h
set_option maxRecDepth 100000 in
theorem tb_case24 {l : Launch} {a4 : Int32} {S Z : AS} (h : fb_case24 a4 S = some (some Z)) : ax_R l 142 ma_L_law (983, [some (.inr (67, 0)), some (.inr (11, 0)), some (.inr (12, 0)), some (.inr (63, 0)), some (.inl (.int a4)), none, none], [], S) (23, [some (.inr (67, 0)), some (.inr (11, 0)), some (.inr (12, 0)), some (.inr (63, 0)), some (.inl (.int (a4 + (6 : Int32)))), none, none], [], Z) := by
  unfold fb_case24 at h
  refine ax_go [.aload_n 1, .aload_n 0, .iload 4, .iconst 1, .iadd] (pc' := 989) (L' := [some (.inr (67, 0)), some (.inr (11, 0)), some (.inr (12, 0)), some (.inr (63, 0)), some (.inl (.int a4)), none, none]) (st' := [.inl (.int (a4 + (1 : Int32))), .inr (67, 0), .inr (11, 0)]) (S' := S) ok_L_law.1 (by decide +kernel) rfl rfl ?_
  obtain ⟨g1, h⟩ := ax_gd_e h
  refine ax_Ralc (n := (ax_fx S 67 0 0)) ok_L_law.1 (by decide +kernel) (by decide) rfl g1 ?_
  obtain ⟨r5, S2, hq3, h⟩ := ax_bu_e h
  refine ax_cVi (d := 141) (ka := 11) (i := 0) [.inl (.int (ax_rd S 67 0 (a4 + (1 : Int32)).toNatClampNeg))] [] lk_L_128 (by decide +kernel) rfl (by decide) rfl (Nat.le_of_ble_eq_true rfl) (Nat.le_of_ble_eq_true rfl) ((t_X11_needs hq3).up (by decide)) ?_
  refine ax_go [.aload_n 2, .aload_n 0, .iload 4, .iconst 1, .iadd] (pc' := 999) (L' := [some (.inr (67, 0)), some (.inr (11, 0)), some (.inr (12, 0)), some (.inr (63, 0)), some (.inl (.int a4)), none, none]) (st' := [.inl (.int (a4 + (1 : Int32))), .inr (67, 0), .inr (12, 0), .inl (.int r5)]) (S' := S2) ok_L_law.1 (by decide +kernel) rfl rfl ?_
  obtain ⟨g6, h⟩ := ax_gd_e h
  refine ax_Ralc (n := (ax_fx S2 67 0 0)) ok_L_law.1 (by decide +kernel) (by decide) rfl g6 ?_
  obtain ⟨r10, S7, hq8, h⟩ := ax_bu_e h
  refine ax_cVi (d := 141) (ka := 12) (i := 0) [.inl (.int (ax_rd S2 67 0 (a4 + (1 : Int32)).toNatClampNeg))] [.inl (.int r5)] lk_L_131 (by decide +kernel) rfl (by decide) rfl (Nat.le_of_ble_eq_true rfl) (Nat.le_of_ble_eq_true rfl) ((t_X12_needs hq8).up (by decide)) ?_
  refine ax_ic_eq (off := 542) (tgt := 1545) (by decide +kernel) (by decide) (fun c11 => ?_) (fun c11 => ?_)
  · rw [if_pos c11] at h
    refine ax_go [.iinc 4 6] (pc' := 1548) (L' := [some (.inr (67, 0)), some (.inr (11, 0)), some (.inr (12, 0)), some (.inr (63, 0)), some (.inl (.int (a4 + (6 : Int32)))), none, none]) (st' := []) (S' := S7) ok_L_law.1 (by decide +kernel) rfl rfl ?_
    obtain ⟨v12, ev12, h⟩ := ax_let_e h
    rw [ev12]
    refine ax_goto (off := (-1525)) (tgt := 23) (by decide +kernel) (by decide) ?_
    cases h
    subst_vars
    exact ax_R.rf
  · rw [if_neg c11] at h
    refine ax_go [.iconst 0] (pc' := 1007) (L' := [some (.inr (67, 0)), some (.inr (11, 0)), some (.inr (12, 0)), some (.inr (63, 0)), some (.inl (.int a4)), none, none]) (st' := [.inl (.int (0 : Int32))]) (S' := S7) ok_L_law.1 (by decide +kernel) rfl rfl ?_
    cases h
set_option maxRecDepth 100000 in
theorem tb_case25 {l : Launch} {a4 : Int32} {S Z : AS} (h : fb_case25 a4 S = some (some Z)) : ax_R l 142 ma_L_law (1008, [some (.inr (67, 0)), some (.inr (11, 0)), some (.inr (12, 0)), some (.inr (63, 0)), some (.inl (.int a4)), none, none], [], S) (23, [some (.inr (67, 0)), some (.inr (11, 0)), some (.inr (12, 0)), some (.inr (63, 0)), some (.inl (.int (a4 + (6 : Int32)))), none, none], [], Z) := by
  unfold fb_case25 at h
  refine ax_go [.aload_n 1, .aload_n 0, .iload 4, .iconst 1, .iadd] (pc' := 1014) (L' := [some (.inr (67, 0)), some (.inr (11, 0)), some (.inr (12, 0)), some (.inr (63, 0)), some (.inl (.int a4)), none, none]) (st' := [.inl (.int (a4 + (1 : Int32))), .inr (67, 0), .inr (11, 0)]) (S' := S) ok_L_law.1 (by decide +kernel) rfl rfl ?_
  obtain ⟨g1, h⟩ := ax_gd_e h
  refine ax_Ralc (n := (ax_fx S 67 0 0)) ok_L_law.1 (by decide +kernel) (by decide) rfl g1 ?_
  obtain ⟨r5, S2, hq3, h⟩ := ax_bu_e h
  refine ax_cVi (d := 141) (ka := 11) (i := 0) [.inl (.int (ax_rd S 67 0 (a4 + (1 : Int32)).toNatClampNeg))] [] lk_L_132 (by decide +kernel) rfl (by decide) rfl (Nat.le_of_ble_eq_true rfl) (Nat.le_of_ble_eq_true rfl) ((t_X11_timed hq3).up (by decide)) ?_
  refine ax_go [.aload_n 2, .aload_n 0, .iload 4, .iconst 1, .iadd] (pc' := 1024) (L' := [some (.inr (67, 0)), some (.inr (11, 0)), some (.inr (12, 0)), some (.inr (63, 0)), some (.inl (.int a4)), none, none]) (st' := [.inl (.int (a4 + (1 : Int32))), .inr (67, 0), .inr (12, 0), .inl (.int r5)]) (S' := S2) ok_L_law.1 (by decide +kernel) rfl rfl ?_
  obtain ⟨g6, h⟩ := ax_gd_e h
  refine ax_Ralc (n := (ax_fx S2 67 0 0)) ok_L_law.1 (by decide +kernel) (by decide) rfl g6 ?_
  obtain ⟨r10, S7, hq8, h⟩ := ax_bu_e h
  refine ax_cVi (d := 141) (ka := 12) (i := 0) [.inl (.int (ax_rd S2 67 0 (a4 + (1 : Int32)).toNatClampNeg))] [.inl (.int r5)] lk_L_135 (by decide +kernel) rfl (by decide) rfl (Nat.le_of_ble_eq_true rfl) (Nat.le_of_ble_eq_true rfl) ((t_X12_timed hq8).up (by decide)) ?_
  refine ax_ic_eq (off := 517) (tgt := 1545) (by decide +kernel) (by decide) (fun c11 => ?_) (fun c11 => ?_)
  · rw [if_pos c11] at h
    refine ax_go [.iinc 4 6] (pc' := 1548) (L' := [some (.inr (67, 0)), some (.inr (11, 0)), some (.inr (12, 0)), some (.inr (63, 0)), some (.inl (.int (a4 + (6 : Int32)))), none, none]) (st' := []) (S' := S7) ok_L_law.1 (by decide +kernel) rfl rfl ?_
    obtain ⟨v12, ev12, h⟩ := ax_let_e h
    rw [ev12]
    refine ax_goto (off := (-1525)) (tgt := 23) (by decide +kernel) (by decide) ?_
    cases h
    subst_vars
    exact ax_R.rf
  · rw [if_neg c11] at h
    refine ax_go [.iconst 0] (pc' := 1032) (L' := [some (.inr (67, 0)), some (.inr (11, 0)), some (.inr (12, 0)), some (.inr (63, 0)), some (.inl (.int a4)), none, none]) (st' := [.inl (.int (0 : Int32))]) (S' := S7) ok_L_law.1 (by decide +kernel) rfl rfl ?_
    cases h
set_option maxRecDepth 100000 in
theorem tb_case26 {l : Launch} {a4 : Int32} {S Z : AS} (h : fb_case26 a4 S = some (some Z)) : ax_R l 142 ma_L_law (1033, [some (.inr (67, 0)), some (.inr (11, 0)), some (.inr (12, 0)), some (.inr (63, 0)), some (.inl (.int a4)), none, none], [], S) (23, [some (.inr (67, 0)), some (.inr (11, 0)), some (.inr (12, 0)), some (.inr (63, 0)), some (.inl (.int (a4 + (6 : Int32)))), none, none], [], Z) := by
  unfold fb_case26 at h
  refine ax_go [.aload_n 1, .aload_n 0, .iload 4, .iconst 1, .iadd] (pc' := 1039) (L' := [some (.inr (67, 0)), some (.inr (11, 0)), some (.inr (12, 0)), some (.inr (63, 0)), some (.inl (.int a4)), none, none]) (st' := [.inl (.int (a4 + (1 : Int32))), .inr (67, 0), .inr (11, 0)]) (S' := S) ok_L_law.1 (by decide +kernel) rfl rfl ?_
  obtain ⟨g1, h⟩ := ax_gd_e h
  refine ax_Ralc (n := (ax_fx S 67 0 0)) ok_L_law.1 (by decide +kernel) (by decide) rfl g1 ?_
  refine ax_go [.aload_n 0, .iload 4, .iconst 2, .iadd] (pc' := 1045) (L' := [some (.inr (67, 0)), some (.inr (11, 0)), some (.inr (12, 0)), some (.inr (63, 0)), some (.inl (.int a4)), none, none]) (st' := [.inl (.int (a4 + (2 : Int32))), .inr (67, 0), .inl (.int (ax_rd S 67 0 (a4 + (1 : Int32)).toNatClampNeg)), .inr (11, 0)]) (S' := S) ok_L_law.1 (by decide +kernel) rfl rfl ?_
  obtain ⟨g2, h⟩ := ax_gd_e h
  refine ax_Ralc (n := (ax_fx S 67 0 0)) ok_L_law.1 (by decide +kernel) (by decide) rfl g2 ?_
  refine ax_go [.aload_n 0, .iload 4, .iconst 3, .iadd] (pc' := 1051) (L' := [some (.inr (67, 0)), some (.inr (11, 0)), some (.inr (12, 0)), some (.inr (63, 0)), some (.inl (.int a4)), none, none]) (st' := [.inl (.int (a4 + (3 : Int32))), .inr (67, 0), .inl (.int (ax_rd S 67 0 (a4 + (2 : Int32)).toNatClampNeg)), .inl (.int (ax_rd S 67 0 (a4 + (1 : Int32)).toNatClampNeg)), .inr (11, 0)]) (S' := S) ok_L_law.1 (by decide +kernel) rfl rfl ?_
  obtain ⟨g3, h⟩ := ax_gd_e h
  refine ax_Ralc (n := (ax_fx S 67 0 0)) ok_L_law.1 (by decide +kernel) (by decide) rfl g3 ?_
  refine ax_if_eq (off := 7) (tgt := 1059) (by decide +kernel) (by decide) (fun c4 => ?_) (fun c4 => ?_)
  · rw [if_pos c4] at h
    refine ax_go [.iconst 0] (pc' := 1060) (L' := [some (.inr (67, 0)), some (.inr (11, 0)), some (.inr (12, 0)), some (.inr (63, 0)), some (.inl (.int a4)), none, none]) (st' := [.inl (.int (0 : Int32)), .inl (.int (ax_rd S 67 0 (a4 + (2 : Int32)).toNatClampNeg)), .inl (.int (ax_rd S 67 0 (a4 + (1 : Int32)).toNatClampNeg)), .inr (11, 0)]) (S' := S) ok_L_law.1 (by decide +kernel) rfl rfl ?_
    obtain ⟨r8, S5, hq6, h⟩ := ax_bu_e h
    refine ax_cVi (d := 141) (ka := 11) (i := 0) [.inl (.int (ax_rd S 67 0 (a4 + (1 : Int32)).toNatClampNeg)), .inl (.int (ax_rd S 67 0 (a4 + (2 : Int32)).toNatClampNeg)), .inl (.int (0 : Int32))] [] lk_L_136 (by decide +kernel) rfl (by decide) rfl (Nat.le_of_ble_eq_true rfl) (Nat.le_of_ble_eq_true rfl) ((t_X11_heard hq6).up (by decide)) ?_
    refine ax_go [.aload_n 2, .aload_n 0, .iload 4, .iconst 1, .iadd] (pc' := 1069) (L' := [some (.inr (67, 0)), some (.inr (11, 0)), some (.inr (12, 0)), some (.inr (63, 0)), some (.inl (.int a4)), none, none]) (st' := [.inl (.int (a4 + (1 : Int32))), .inr (67, 0), .inr (12, 0), .inl (.int r8)]) (S' := S5) ok_L_law.1 (by decide +kernel) rfl rfl ?_
    obtain ⟨g9, h⟩ := ax_gd_e h
    refine ax_Ralc (n := (ax_fx S5 67 0 0)) ok_L_law.1 (by decide +kernel) (by decide) rfl g9 ?_
    refine ax_go [.aload_n 0, .iload 4, .iconst 2, .iadd] (pc' := 1075) (L' := [some (.inr (67, 0)), some (.inr (11, 0)), some (.inr (12, 0)), some (.inr (63, 0)), some (.inl (.int a4)), none, none]) (st' := [.inl (.int (a4 + (2 : Int32))), .inr (67, 0), .inl (.int (ax_rd S5 67 0 (a4 + (1 : Int32)).toNatClampNeg)), .inr (12, 0), .inl (.int r8)]) (S' := S5) ok_L_law.1 (by decide +kernel) rfl rfl ?_
    obtain ⟨g10, h⟩ := ax_gd_e h
    refine ax_Ralc (n := (ax_fx S5 67 0 0)) ok_L_law.1 (by decide +kernel) (by decide) rfl g10 ?_
    refine ax_go [.aload_n 0, .iload 4, .iconst 3, .iadd] (pc' := 1081) (L' := [some (.inr (67, 0)), some (.inr (11, 0)), some (.inr (12, 0)), some (.inr (63, 0)), some (.inl (.int a4)), none, none]) (st' := [.inl (.int (a4 + (3 : Int32))), .inr (67, 0), .inl (.int (ax_rd S5 67 0 (a4 + (2 : Int32)).toNatClampNeg)), .inl (.int (ax_rd S5 67 0 (a4 + (1 : Int32)).toNatClampNeg)), .inr (12, 0), .inl (.int r8)]) (S' := S5) ok_L_law.1 (by decide +kernel) rfl rfl ?_
    obtain ⟨g11, h⟩ := ax_gd_e h
    refine ax_Ralc (n := (ax_fx S5 67 0 0)) ok_L_law.1 (by decide +kernel) (by decide) rfl g11 ?_
    refine ax_if_eq (off := 7) (tgt := 1089) (by decide +kernel) (by decide) (fun c12 => ?_) (fun c12 => ?_)
    · rw [if_pos c12] at h
      refine ax_go [.iconst 0] (pc' := 1090) (L' := [some (.inr (67, 0)), some (.inr (11, 0)), some (.inr (12, 0)), some (.inr (63, 0)), some (.inl (.int a4)), none, none]) (st' := [.inl (.int (0 : Int32)), .inl (.int (ax_rd S5 67 0 (a4 + (2 : Int32)).toNatClampNeg)), .inl (.int (ax_rd S5 67 0 (a4 + (1 : Int32)).toNatClampNeg)), .inr (12, 0), .inl (.int r8)]) (S' := S5) ok_L_law.1 (by decide +kernel) rfl rfl ?_
      obtain ⟨r16, S13, hq14, h⟩ := ax_bu_e h
      refine ax_cVi (d := 141) (ka := 12) (i := 0) [.inl (.int (ax_rd S5 67 0 (a4 + (1 : Int32)).toNatClampNeg)), .inl (.int (ax_rd S5 67 0 (a4 + (2 : Int32)).toNatClampNeg)), .inl (.int (0 : Int32))] [.inl (.int r8)] lk_L_140 (by decide +kernel) rfl (by decide) rfl (Nat.le_of_ble_eq_true rfl) (Nat.le_of_ble_eq_true rfl) ((t_X12_heard hq14).up (by decide)) ?_
      refine ax_ic_eq (off := 452) (tgt := 1545) (by decide +kernel) (by decide) (fun c17 => ?_) (fun c17 => ?_)
      · rw [if_pos c17] at h
        refine ax_go [.iinc 4 6] (pc' := 1548) (L' := [some (.inr (67, 0)), some (.inr (11, 0)), some (.inr (12, 0)), some (.inr (63, 0)), some (.inl (.int (a4 + (6 : Int32)))), none, none]) (st' := []) (S' := S13) ok_L_law.1 (by decide +kernel) rfl rfl ?_
        obtain ⟨v18, ev18, h⟩ := ax_let_e h
        rw [ev18]
        refine ax_goto (off := (-1525)) (tgt := 23) (by decide +kernel) (by decide) ?_
        cases h
        subst_vars
        exact ax_R.rf
      · rw [if_neg c17] at h
        refine ax_go [.iconst 0] (pc' := 1097) (L' := [some (.inr (67, 0)), some (.inr (11, 0)), some (.inr (12, 0)), some (.inr (63, 0)), some (.inl (.int a4)), none, none]) (st' := [.inl (.int (0 : Int32))]) (S' := S13) ok_L_law.1 (by decide +kernel) rfl rfl ?_
        cases h
    · rw [if_neg c12] at h
      refine ax_go [.iconst 1] (pc' := 1086) (L' := [some (.inr (67, 0)), some (.inr (11, 0)), some (.inr (12, 0)), some (.inr (63, 0)), some (.inl (.int a4)), none, none]) (st' := [.inl (.int (1 : Int32)), .inl (.int (ax_rd S5 67 0 (a4 + (2 : Int32)).toNatClampNeg)), .inl (.int (ax_rd S5 67 0 (a4 + (1 : Int32)).toNatClampNeg)), .inr (12, 0), .inl (.int r8)]) (S' := S5) ok_L_law.1 (by decide +kernel) rfl rfl ?_
      refine ax_goto (off := 4) (tgt := 1090) (by decide +kernel) (by decide) ?_
      obtain ⟨r22, S19, hq20, h⟩ := ax_bu_e h
      refine ax_cVi (d := 141) (ka := 12) (i := 0) [.inl (.int (ax_rd S5 67 0 (a4 + (1 : Int32)).toNatClampNeg)), .inl (.int (ax_rd S5 67 0 (a4 + (2 : Int32)).toNatClampNeg)), .inl (.int (1 : Int32))] [.inl (.int r8)] lk_L_140 (by decide +kernel) rfl (by decide) rfl (Nat.le_of_ble_eq_true rfl) (Nat.le_of_ble_eq_true rfl) ((t_X12_heard hq20).up (by decide)) ?_
      refine ax_ic_eq (off := 452) (tgt := 1545) (by decide +kernel) (by decide) (fun c23 => ?_) (fun c23 => ?_)
      · rw [if_pos c23] at h
        refine ax_go [.iinc 4 6] (pc' := 1548) (L' := [some (.inr (67, 0)), some (.inr (11, 0)), some (.inr (12, 0)), some (.inr (63, 0)), some (.inl (.int (a4 + (6 : Int32)))), none, none]) (st' := []) (S' := S19) ok_L_law.1 (by decide +kernel) rfl rfl ?_
        obtain ⟨v24, ev24, h⟩ := ax_let_e h
        rw [ev24]
        refine ax_goto (off := (-1525)) (tgt := 23) (by decide +kernel) (by decide) ?_
        cases h
        subst_vars
        exact ax_R.rf
      · rw [if_neg c23] at h
        refine ax_go [.iconst 0] (pc' := 1097) (L' := [some (.inr (67, 0)), some (.inr (11, 0)), some (.inr (12, 0)), some (.inr (63, 0)), some (.inl (.int a4)), none, none]) (st' := [.inl (.int (0 : Int32))]) (S' := S19) ok_L_law.1 (by decide +kernel) rfl rfl ?_
        cases h
  · rw [if_neg c4] at h
    refine ax_go [.iconst 1] (pc' := 1056) (L' := [some (.inr (67, 0)), some (.inr (11, 0)), some (.inr (12, 0)), some (.inr (63, 0)), some (.inl (.int a4)), none, none]) (st' := [.inl (.int (1 : Int32)), .inl (.int (ax_rd S 67 0 (a4 + (2 : Int32)).toNatClampNeg)), .inl (.int (ax_rd S 67 0 (a4 + (1 : Int32)).toNatClampNeg)), .inr (11, 0)]) (S' := S) ok_L_law.1 (by decide +kernel) rfl rfl ?_
    refine ax_goto (off := 4) (tgt := 1060) (by decide +kernel) (by decide) ?_
    obtain ⟨r28, S25, hq26, h⟩ := ax_bu_e h
    refine ax_cVi (d := 141) (ka := 11) (i := 0) [.inl (.int (ax_rd S 67 0 (a4 + (1 : Int32)).toNatClampNeg)), .inl (.int (ax_rd S 67 0 (a4 + (2 : Int32)).toNatClampNeg)), .inl (.int (1 : Int32))] [] lk_L_136 (by decide +kernel) rfl (by decide) rfl (Nat.le_of_ble_eq_true rfl) (Nat.le_of_ble_eq_true rfl) ((t_X11_heard hq26).up (by decide)) ?_
    refine ax_go [.aload_n 2, .aload_n 0, .iload 4, .iconst 1, .iadd] (pc' := 1069) (L' := [some (.inr (67, 0)), some (.inr (11, 0)), some (.inr (12, 0)), some (.inr (63, 0)), some (.inl (.int a4)), none, none]) (st' := [.inl (.int (a4 + (1 : Int32))), .inr (67, 0), .inr (12, 0), .inl (.int r28)]) (S' := S25) ok_L_law.1 (by decide +kernel) rfl rfl ?_
    obtain ⟨g29, h⟩ := ax_gd_e h
    refine ax_Ralc (n := (ax_fx S25 67 0 0)) ok_L_law.1 (by decide +kernel) (by decide) rfl g29 ?_
    refine ax_go [.aload_n 0, .iload 4, .iconst 2, .iadd] (pc' := 1075) (L' := [some (.inr (67, 0)), some (.inr (11, 0)), some (.inr (12, 0)), some (.inr (63, 0)), some (.inl (.int a4)), none, none]) (st' := [.inl (.int (a4 + (2 : Int32))), .inr (67, 0), .inl (.int (ax_rd S25 67 0 (a4 + (1 : Int32)).toNatClampNeg)), .inr (12, 0), .inl (.int r28)]) (S' := S25) ok_L_law.1 (by decide +kernel) rfl rfl ?_
    obtain ⟨g30, h⟩ := ax_gd_e h
    refine ax_Ralc (n := (ax_fx S25 67 0 0)) ok_L_law.1 (by decide +kernel) (by decide) rfl g30 ?_
    refine ax_go [.aload_n 0, .iload 4, .iconst 3, .iadd] (pc' := 1081) (L' := [some (.inr (67, 0)), some (.inr (11, 0)), some (.inr (12, 0)), some (.inr (63, 0)), some (.inl (.int a4)), none, none]) (st' := [.inl (.int (a4 + (3 : Int32))), .inr (67, 0), .inl (.int (ax_rd S25 67 0 (a4 + (2 : Int32)).toNatClampNeg)), .inl (.int (ax_rd S25 67 0 (a4 + (1 : Int32)).toNatClampNeg)), .inr (12, 0), .inl (.int r28)]) (S' := S25) ok_L_law.1 (by decide +kernel) rfl rfl ?_
    obtain ⟨g31, h⟩ := ax_gd_e h
    refine ax_Ralc (n := (ax_fx S25 67 0 0)) ok_L_law.1 (by decide +kernel) (by decide) rfl g31 ?_
    refine ax_if_eq (off := 7) (tgt := 1089) (by decide +kernel) (by decide) (fun c32 => ?_) (fun c32 => ?_)
    · rw [if_pos c32] at h
      refine ax_go [.iconst 0] (pc' := 1090) (L' := [some (.inr (67, 0)), some (.inr (11, 0)), some (.inr (12, 0)), some (.inr (63, 0)), some (.inl (.int a4)), none, none]) (st' := [.inl (.int (0 : Int32)), .inl (.int (ax_rd S25 67 0 (a4 + (2 : Int32)).toNatClampNeg)), .inl (.int (ax_rd S25 67 0 (a4 + (1 : Int32)).toNatClampNeg)), .inr (12, 0), .inl (.int r28)]) (S' := S25) ok_L_law.1 (by decide +kernel) rfl rfl ?_
      obtain ⟨r36, S33, hq34, h⟩ := ax_bu_e h
      refine ax_cVi (d := 141) (ka := 12) (i := 0) [.inl (.int (ax_rd S25 67 0 (a4 + (1 : Int32)).toNatClampNeg)), .inl (.int (ax_rd S25 67 0 (a4 + (2 : Int32)).toNatClampNeg)), .inl (.int (0 : Int32))] [.inl (.int r28)] lk_L_140 (by decide +kernel) rfl (by decide) rfl (Nat.le_of_ble_eq_true rfl) (Nat.le_of_ble_eq_true rfl) ((t_X12_heard hq34).up (by decide)) ?_
      refine ax_ic_eq (off := 452) (tgt := 1545) (by decide +kernel) (by decide) (fun c37 => ?_) (fun c37 => ?_)
      · rw [if_pos c37] at h
        refine ax_go [.iinc 4 6] (pc' := 1548) (L' := [some (.inr (67, 0)), some (.inr (11, 0)), some (.inr (12, 0)), some (.inr (63, 0)), some (.inl (.int (a4 + (6 : Int32)))), none, none]) (st' := []) (S' := S33) ok_L_law.1 (by decide +kernel) rfl rfl ?_
        obtain ⟨v38, ev38, h⟩ := ax_let_e h
        rw [ev38]
        refine ax_goto (off := (-1525)) (tgt := 23) (by decide +kernel) (by decide) ?_
        cases h
        subst_vars
        exact ax_R.rf
      · rw [if_neg c37] at h
        refine ax_go [.iconst 0] (pc' := 1097) (L' := [some (.inr (67, 0)), some (.inr (11, 0)), some (.inr (12, 0)), some (.inr (63, 0)), some (.inl (.int a4)), none, none]) (st' := [.inl (.int (0 : Int32))]) (S' := S33) ok_L_law.1 (by decide +kernel) rfl rfl ?_
        cases h
    · rw [if_neg c32] at h
      refine ax_go [.iconst 1] (pc' := 1086) (L' := [some (.inr (67, 0)), some (.inr (11, 0)), some (.inr (12, 0)), some (.inr (63, 0)), some (.inl (.int a4)), none, none]) (st' := [.inl (.int (1 : Int32)), .inl (.int (ax_rd S25 67 0 (a4 + (2 : Int32)).toNatClampNeg)), .inl (.int (ax_rd S25 67 0 (a4 + (1 : Int32)).toNatClampNeg)), .inr (12, 0), .inl (.int r28)]) (S' := S25) ok_L_law.1 (by decide +kernel) rfl rfl ?_
      refine ax_goto (off := 4) (tgt := 1090) (by decide +kernel) (by decide) ?_
      obtain ⟨r42, S39, hq40, h⟩ := ax_bu_e h
      refine ax_cVi (d := 141) (ka := 12) (i := 0) [.inl (.int (ax_rd S25 67 0 (a4 + (1 : Int32)).toNatClampNeg)), .inl (.int (ax_rd S25 67 0 (a4 + (2 : Int32)).toNatClampNeg)), .inl (.int (1 : Int32))] [.inl (.int r28)] lk_L_140 (by decide +kernel) rfl (by decide) rfl (Nat.le_of_ble_eq_true rfl) (Nat.le_of_ble_eq_true rfl) ((t_X12_heard hq40).up (by decide)) ?_
      refine ax_ic_eq (off := 452) (tgt := 1545) (by decide +kernel) (by decide) (fun c43 => ?_) (fun c43 => ?_)
      · rw [if_pos c43] at h
        refine ax_go [.iinc 4 6] (pc' := 1548) (L' := [some (.inr (67, 0)), some (.inr (11, 0)), some (.inr (12, 0)), some (.inr (63, 0)), some (.inl (.int (a4 + (6 : Int32)))), none, none]) (st' := []) (S' := S39) ok_L_law.1 (by decide +kernel) rfl rfl ?_
        obtain ⟨v44, ev44, h⟩ := ax_let_e h
        rw [ev44]
        refine ax_goto (off := (-1525)) (tgt := 23) (by decide +kernel) (by decide) ?_
        cases h
        subst_vars
        exact ax_R.rf
      · rw [if_neg c43] at h
        refine ax_go [.iconst 0] (pc' := 1097) (L' := [some (.inr (67, 0)), some (.inr (11, 0)), some (.inr (12, 0)), some (.inr (63, 0)), some (.inl (.int a4)), none, none]) (st' := [.inl (.int (0 : Int32))]) (S' := S39) ok_L_law.1 (by decide +kernel) rfl rfl ?_
        cases h
set_option maxRecDepth 100000 in
theorem tb_case27 {l : Launch} {a4 : Int32} {S Z : AS} (h : fb_case27 a4 S = some (some Z)) : ax_R l 142 ma_L_law (1098, [some (.inr (67, 0)), some (.inr (11, 0)), some (.inr (12, 0)), some (.inr (63, 0)), some (.inl (.int a4)), none, none], [], S) (23, [some (.inr (67, 0)), some (.inr (11, 0)), some (.inr (12, 0)), some (.inr (63, 0)), some (.inl (.int (a4 + (6 : Int32)))), none, none], [], Z) := by
  unfold fb_case27 at h
  refine ax_go [.aload_n 1, .aload_n 0, .iload 4, .iconst 1, .iadd] (pc' := 1104) (L' := [some (.inr (67, 0)), some (.inr (11, 0)), some (.inr (12, 0)), some (.inr (63, 0)), some (.inl (.int a4)), none, none]) (st' := [.inl (.int (a4 + (1 : Int32))), .inr (67, 0), .inr (11, 0)]) (S' := S) ok_L_law.1 (by decide +kernel) rfl rfl ?_
  obtain ⟨g1, h⟩ := ax_gd_e h
  refine ax_Ralc (n := (ax_fx S 67 0 0)) ok_L_law.1 (by decide +kernel) (by decide) rfl g1 ?_
  obtain ⟨r5, S2, hq3, h⟩ := ax_bu_e h
  refine ax_cVi (d := 141) (ka := 11) (i := 0) [.inl (.int (ax_rd S 67 0 (a4 + (1 : Int32)).toNatClampNeg))] [] lk_L_141 (by decide +kernel) rfl (by decide) rfl (Nat.le_of_ble_eq_true rfl) (Nat.le_of_ble_eq_true rfl) ((t_X11_hards hq3).up (by decide)) ?_
  refine ax_go [.aload_n 2, .aload_n 0, .iload 4, .iconst 1, .iadd] (pc' := 1114) (L' := [some (.inr (67, 0)), some (.inr (11, 0)), some (.inr (12, 0)), some (.inr (63, 0)), some (.inl (.int a4)), none, none]) (st' := [.inl (.int (a4 + (1 : Int32))), .inr (67, 0), .inr (12, 0), .inl (.int r5)]) (S' := S2) ok_L_law.1 (by decide +kernel) rfl rfl ?_
  obtain ⟨g6, h⟩ := ax_gd_e h
  refine ax_Ralc (n := (ax_fx S2 67 0 0)) ok_L_law.1 (by decide +kernel) (by decide) rfl g6 ?_
  obtain ⟨r10, S7, hq8, h⟩ := ax_bu_e h
  refine ax_cVi (d := 141) (ka := 12) (i := 0) [.inl (.int (ax_rd S2 67 0 (a4 + (1 : Int32)).toNatClampNeg))] [.inl (.int r5)] lk_L_144 (by decide +kernel) rfl (by decide) rfl (Nat.le_of_ble_eq_true rfl) (Nat.le_of_ble_eq_true rfl) ((t_X12_hards hq8).up (by decide)) ?_
  refine ax_ic_eq (off := 427) (tgt := 1545) (by decide +kernel) (by decide) (fun c11 => ?_) (fun c11 => ?_)
  · rw [if_pos c11] at h
    refine ax_go [.iinc 4 6] (pc' := 1548) (L' := [some (.inr (67, 0)), some (.inr (11, 0)), some (.inr (12, 0)), some (.inr (63, 0)), some (.inl (.int (a4 + (6 : Int32)))), none, none]) (st' := []) (S' := S7) ok_L_law.1 (by decide +kernel) rfl rfl ?_
    obtain ⟨v12, ev12, h⟩ := ax_let_e h
    rw [ev12]
    refine ax_goto (off := (-1525)) (tgt := 23) (by decide +kernel) (by decide) ?_
    cases h
    subst_vars
    exact ax_R.rf
  · rw [if_neg c11] at h
    refine ax_go [.iconst 0] (pc' := 1122) (L' := [some (.inr (67, 0)), some (.inr (11, 0)), some (.inr (12, 0)), some (.inr (63, 0)), some (.inl (.int a4)), none, none]) (st' := [.inl (.int (0 : Int32))]) (S' := S7) ok_L_law.1 (by decide +kernel) rfl rfl ?_
    cases h
set_option maxRecDepth 100000 in
theorem tb_case28 {l : Launch} {a4 : Int32} {S Z : AS} (h : fb_case28 a4 S = some (some Z)) : ax_R l 142 ma_L_law (1123, [some (.inr (67, 0)), some (.inr (11, 0)), some (.inr (12, 0)), some (.inr (63, 0)), some (.inl (.int a4)), none, none], [], S) (23, [some (.inr (67, 0)), some (.inr (11, 0)), some (.inr (12, 0)), some (.inr (63, 0)), some (.inl (.int (a4 + (6 : Int32)))), none, none], [], Z) := by
  unfold fb_case28 at h
  refine ax_go [.aload_n 1, .aload_n 0, .iload 4, .iconst 1, .iadd] (pc' := 1129) (L' := [some (.inr (67, 0)), some (.inr (11, 0)), some (.inr (12, 0)), some (.inr (63, 0)), some (.inl (.int a4)), none, none]) (st' := [.inl (.int (a4 + (1 : Int32))), .inr (67, 0), .inr (11, 0)]) (S' := S) ok_L_law.1 (by decide +kernel) rfl rfl ?_
  obtain ⟨g1, h⟩ := ax_gd_e h
  refine ax_Ralc (n := (ax_fx S 67 0 0)) ok_L_law.1 (by decide +kernel) (by decide) rfl g1 ?_
  obtain ⟨r5, S2, hq3, h⟩ := ax_bu_e h
  refine ax_cVi (d := 141) (ka := 11) (i := 0) [.inl (.int (ax_rd S 67 0 (a4 + (1 : Int32)).toNatClampNeg))] [] lk_L_145 (by decide +kernel) rfl (by decide) rfl (Nat.le_of_ble_eq_true rfl) (Nat.le_of_ble_eq_true rfl) ((t_X11_ask hq3).up (by decide)) ?_
  refine ax_go [.aload_n 2, .aload_n 0, .iload 4, .iconst 1, .iadd] (pc' := 1139) (L' := [some (.inr (67, 0)), some (.inr (11, 0)), some (.inr (12, 0)), some (.inr (63, 0)), some (.inl (.int a4)), none, none]) (st' := [.inl (.int (a4 + (1 : Int32))), .inr (67, 0), .inr (12, 0), .inl (.int r5)]) (S' := S2) ok_L_law.1 (by decide +kernel) rfl rfl ?_
  obtain ⟨g6, h⟩ := ax_gd_e h
  refine ax_Ralc (n := (ax_fx S2 67 0 0)) ok_L_law.1 (by decide +kernel) (by decide) rfl g6 ?_
  obtain ⟨r10, S7, hq8, h⟩ := ax_bu_e h
  refine ax_cVi (d := 141) (ka := 12) (i := 0) [.inl (.int (ax_rd S2 67 0 (a4 + (1 : Int32)).toNatClampNeg))] [.inl (.int r5)] lk_L_148 (by decide +kernel) rfl (by decide) rfl (Nat.le_of_ble_eq_true rfl) (Nat.le_of_ble_eq_true rfl) ((t_X12_ask hq8).up (by decide)) ?_
  refine ax_ic_eq (off := 402) (tgt := 1545) (by decide +kernel) (by decide) (fun c11 => ?_) (fun c11 => ?_)
  · rw [if_pos c11] at h
    refine ax_go [.iinc 4 6] (pc' := 1548) (L' := [some (.inr (67, 0)), some (.inr (11, 0)), some (.inr (12, 0)), some (.inr (63, 0)), some (.inl (.int (a4 + (6 : Int32)))), none, none]) (st' := []) (S' := S7) ok_L_law.1 (by decide +kernel) rfl rfl ?_
    obtain ⟨v12, ev12, h⟩ := ax_let_e h
    rw [ev12]
    refine ax_goto (off := (-1525)) (tgt := 23) (by decide +kernel) (by decide) ?_
    cases h
    subst_vars
    exact ax_R.rf
  · rw [if_neg c11] at h
    refine ax_go [.iconst 0] (pc' := 1147) (L' := [some (.inr (67, 0)), some (.inr (11, 0)), some (.inr (12, 0)), some (.inr (63, 0)), some (.inl (.int a4)), none, none]) (st' := [.inl (.int (0 : Int32))]) (S' := S7) ok_L_law.1 (by decide +kernel) rfl rfl ?_
    cases h
set_option maxRecDepth 100000 in
theorem tb_case29 {l : Launch} {a4 : Int32} {S Z : AS} (h : fb_case29 a4 S = some (some Z)) : ax_R l 142 ma_L_law (1148, [some (.inr (67, 0)), some (.inr (11, 0)), some (.inr (12, 0)), some (.inr (63, 0)), some (.inl (.int a4)), none, none], [], S) (23, [some (.inr (67, 0)), some (.inr (11, 0)), some (.inr (12, 0)), some (.inr (63, 0)), some (.inl (.int (a4 + (6 : Int32)))), none, none], [], Z) := by
  unfold fb_case29 at h
  refine ax_go [.aload_n 1, .aload_n 0, .iload 4, .iconst 1, .iadd] (pc' := 1154) (L' := [some (.inr (67, 0)), some (.inr (11, 0)), some (.inr (12, 0)), some (.inr (63, 0)), some (.inl (.int a4)), none, none]) (st' := [.inl (.int (a4 + (1 : Int32))), .inr (67, 0), .inr (11, 0)]) (S' := S) ok_L_law.1 (by decide +kernel) rfl rfl ?_
  obtain ⟨g1, h⟩ := ax_gd_e h
  refine ax_Ralc (n := (ax_fx S 67 0 0)) ok_L_law.1 (by decide +kernel) (by decide) rfl g1 ?_
  obtain ⟨r5, hq3, h⟩ := ax_bd_e h
  refine ax_cVi (d := 141) (ka := 11) (i := 0) [.inl (.int (ax_rd S 67 0 (a4 + (1 : Int32)).toNatClampNeg))] [] lk_L_149 (by decide +kernel) rfl (by decide) rfl (Nat.le_of_ble_eq_true rfl) (Nat.le_of_ble_eq_true rfl) ((t_X11_apart hq3).up (by decide)) ?_
  refine ax_go [.aload_n 2, .aload_n 0, .iload 4, .iconst 1, .iadd] (pc' := 1164) (L' := [some (.inr (67, 0)), some (.inr (11, 0)), some (.inr (12, 0)), some (.inr (63, 0)), some (.inl (.int a4)), none, none]) (st' := [.inl (.int (a4 + (1 : Int32))), .inr (67, 0), .inr (12, 0), .inl (.int r5)]) (S' := S) ok_L_law.1 (by decide +kernel) rfl rfl ?_
  obtain ⟨g6, h⟩ := ax_gd_e h
  refine ax_Ralc (n := (ax_fx S 67 0 0)) ok_L_law.1 (by decide +kernel) (by decide) rfl g6 ?_
  obtain ⟨r10, S7, hq8, h⟩ := ax_bu_e h
  refine ax_cVi (d := 141) (ka := 12) (i := 0) [.inl (.int (ax_rd S 67 0 (a4 + (1 : Int32)).toNatClampNeg))] [.inl (.int r5)] lk_L_152 (by decide +kernel) rfl (by decide) rfl (Nat.le_of_ble_eq_true rfl) (Nat.le_of_ble_eq_true rfl) ((t_X12_apart hq8).up (by decide)) ?_
  refine ax_ic_eq (off := 377) (tgt := 1545) (by decide +kernel) (by decide) (fun c11 => ?_) (fun c11 => ?_)
  · rw [if_pos c11] at h
    refine ax_go [.iinc 4 6] (pc' := 1548) (L' := [some (.inr (67, 0)), some (.inr (11, 0)), some (.inr (12, 0)), some (.inr (63, 0)), some (.inl (.int (a4 + (6 : Int32)))), none, none]) (st' := []) (S' := S7) ok_L_law.1 (by decide +kernel) rfl rfl ?_
    obtain ⟨v12, ev12, h⟩ := ax_let_e h
    rw [ev12]
    refine ax_goto (off := (-1525)) (tgt := 23) (by decide +kernel) (by decide) ?_
    cases h
    subst_vars
    exact ax_R.rf
  · rw [if_neg c11] at h
    refine ax_go [.iconst 0] (pc' := 1172) (L' := [some (.inr (67, 0)), some (.inr (11, 0)), some (.inr (12, 0)), some (.inr (63, 0)), some (.inl (.int a4)), none, none]) (st' := [.inl (.int (0 : Int32))]) (S' := S7) ok_L_law.1 (by decide +kernel) rfl rfl ?_
    cases h
set_option maxRecDepth 100000 in
theorem tb_case30 {l : Launch} {a4 : Int32} {S Z : AS} (h : fb_case30 a4 S = some (some Z)) : ax_R l 142 ma_L_law (1173, [some (.inr (67, 0)), some (.inr (11, 0)), some (.inr (12, 0)), some (.inr (63, 0)), some (.inl (.int a4)), none, none], [], S) (23, [some (.inr (67, 0)), some (.inr (11, 0)), some (.inr (12, 0)), some (.inr (63, 0)), some (.inl (.int (a4 + (6 : Int32)))), none, none], [], Z) := by
  unfold fb_case30 at h
  refine ax_go [.aload_n 1, .aload_n 0, .iload 4, .iconst 1, .iadd] (pc' := 1179) (L' := [some (.inr (67, 0)), some (.inr (11, 0)), some (.inr (12, 0)), some (.inr (63, 0)), some (.inl (.int a4)), none, none]) (st' := [.inl (.int (a4 + (1 : Int32))), .inr (67, 0), .inr (11, 0)]) (S' := S) ok_L_law.1 (by decide +kernel) rfl rfl ?_
  obtain ⟨g1, h⟩ := ax_gd_e h
  refine ax_Ralc (n := (ax_fx S 67 0 0)) ok_L_law.1 (by decide +kernel) (by decide) rfl g1 ?_
  refine ax_go [.aload_n 0, .iload 4, .iconst 2, .iadd] (pc' := 1185) (L' := [some (.inr (67, 0)), some (.inr (11, 0)), some (.inr (12, 0)), some (.inr (63, 0)), some (.inl (.int a4)), none, none]) (st' := [.inl (.int (a4 + (2 : Int32))), .inr (67, 0), .inl (.int (ax_rd S 67 0 (a4 + (1 : Int32)).toNatClampNeg)), .inr (11, 0)]) (S' := S) ok_L_law.1 (by decide +kernel) rfl rfl ?_
  obtain ⟨g2, h⟩ := ax_gd_e h
  refine ax_Ralc (n := (ax_fx S 67 0 0)) ok_L_law.1 (by decide +kernel) (by decide) rfl g2 ?_
  refine ax_go [.aload_n 0, .iload 4, .iconst 3, .iadd] (pc' := 1191) (L' := [some (.inr (67, 0)), some (.inr (11, 0)), some (.inr (12, 0)), some (.inr (63, 0)), some (.inl (.int a4)), none, none]) (st' := [.inl (.int (a4 + (3 : Int32))), .inr (67, 0), .inl (.int (ax_rd S 67 0 (a4 + (2 : Int32)).toNatClampNeg)), .inl (.int (ax_rd S 67 0 (a4 + (1 : Int32)).toNatClampNeg)), .inr (11, 0)]) (S' := S) ok_L_law.1 (by decide +kernel) rfl rfl ?_
  obtain ⟨g3, h⟩ := ax_gd_e h
  refine ax_Ralc (n := (ax_fx S 67 0 0)) ok_L_law.1 (by decide +kernel) (by decide) rfl g3 ?_
  refine ax_go [.aload_n 0, .iload 4, .iconst 4, .iadd] (pc' := 1197) (L' := [some (.inr (67, 0)), some (.inr (11, 0)), some (.inr (12, 0)), some (.inr (63, 0)), some (.inl (.int a4)), none, none]) (st' := [.inl (.int (a4 + (4 : Int32))), .inr (67, 0), .inl (.int (ax_rd S 67 0 (a4 + (3 : Int32)).toNatClampNeg)), .inl (.int (ax_rd S 67 0 (a4 + (2 : Int32)).toNatClampNeg)), .inl (.int (ax_rd S 67 0 (a4 + (1 : Int32)).toNatClampNeg)), .inr (11, 0)]) (S' := S) ok_L_law.1 (by decide +kernel) rfl rfl ?_
  obtain ⟨g4, h⟩ := ax_gd_e h
  refine ax_Ralc (n := (ax_fx S 67 0 0)) ok_L_law.1 (by decide +kernel) (by decide) rfl g4 ?_
  refine ax_go [.aload_n 0, .iload 4, .iconst 5, .iadd] (pc' := 1203) (L' := [some (.inr (67, 0)), some (.inr (11, 0)), some (.inr (12, 0)), some (.inr (63, 0)), some (.inl (.int a4)), none, none]) (st' := [.inl (.int (a4 + (5 : Int32))), .inr (67, 0), .inl (.int (ax_rd S 67 0 (a4 + (4 : Int32)).toNatClampNeg)), .inl (.int (ax_rd S 67 0 (a4 + (3 : Int32)).toNatClampNeg)), .inl (.int (ax_rd S 67 0 (a4 + (2 : Int32)).toNatClampNeg)), .inl (.int (ax_rd S 67 0 (a4 + (1 : Int32)).toNatClampNeg)), .inr (11, 0)]) (S' := S) ok_L_law.1 (by decide +kernel) rfl rfl ?_
  obtain ⟨g5, h⟩ := ax_gd_e h
  refine ax_Ralc (n := (ax_fx S 67 0 0)) ok_L_law.1 (by decide +kernel) (by decide) rfl g5 ?_
  obtain ⟨r9, S6, hq7, h⟩ := ax_bu_e h
  refine ax_cVi (d := 141) (ka := 11) (i := 0) [.inl (.int (ax_rd S 67 0 (a4 + (1 : Int32)).toNatClampNeg)), .inl (.int (ax_rd S 67 0 (a4 + (2 : Int32)).toNatClampNeg)), .inl (.int (ax_rd S 67 0 (a4 + (3 : Int32)).toNatClampNeg)), .inl (.int (ax_rd S 67 0 (a4 + (4 : Int32)).toNatClampNeg)), .inl (.int (ax_rd S 67 0 (a4 + (5 : Int32)).toNatClampNeg))] [] lk_L_153 (by decide +kernel) rfl (by decide) rfl (Nat.le_of_ble_eq_true rfl) (Nat.le_of_ble_eq_true rfl) ((t_X11_game hq7).up (by decide)) ?_
  refine ax_go [.aload_n 2, .aload_n 0, .iload 4, .iconst 1, .iadd] (pc' := 1213) (L' := [some (.inr (67, 0)), some (.inr (11, 0)), some (.inr (12, 0)), some (.inr (63, 0)), some (.inl (.int a4)), none, none]) (st' := [.inl (.int (a4 + (1 : Int32))), .inr (67, 0), .inr (12, 0), .inl (.int r9)]) (S' := S6) ok_L_law.1 (by decide +kernel) rfl rfl ?_
  obtain ⟨g10, h⟩ := ax_gd_e h
  refine ax_Ralc (n := (ax_fx S6 67 0 0)) ok_L_law.1 (by decide +kernel) (by decide) rfl g10 ?_
  refine ax_go [.aload_n 0, .iload 4, .iconst 2, .iadd] (pc' := 1219) (L' := [some (.inr (67, 0)), some (.inr (11, 0)), some (.inr (12, 0)), some (.inr (63, 0)), some (.inl (.int a4)), none, none]) (st' := [.inl (.int (a4 + (2 : Int32))), .inr (67, 0), .inl (.int (ax_rd S6 67 0 (a4 + (1 : Int32)).toNatClampNeg)), .inr (12, 0), .inl (.int r9)]) (S' := S6) ok_L_law.1 (by decide +kernel) rfl rfl ?_
  obtain ⟨g11, h⟩ := ax_gd_e h
  refine ax_Ralc (n := (ax_fx S6 67 0 0)) ok_L_law.1 (by decide +kernel) (by decide) rfl g11 ?_
  refine ax_go [.aload_n 0, .iload 4, .iconst 3, .iadd] (pc' := 1225) (L' := [some (.inr (67, 0)), some (.inr (11, 0)), some (.inr (12, 0)), some (.inr (63, 0)), some (.inl (.int a4)), none, none]) (st' := [.inl (.int (a4 + (3 : Int32))), .inr (67, 0), .inl (.int (ax_rd S6 67 0 (a4 + (2 : Int32)).toNatClampNeg)), .inl (.int (ax_rd S6 67 0 (a4 + (1 : Int32)).toNatClampNeg)), .inr (12, 0), .inl (.int r9)]) (S' := S6) ok_L_law.1 (by decide +kernel) rfl rfl ?_
  obtain ⟨g12, h⟩ := ax_gd_e h
  refine ax_Ralc (n := (ax_fx S6 67 0 0)) ok_L_law.1 (by decide +kernel) (by decide) rfl g12 ?_
  refine ax_go [.aload_n 0, .iload 4, .iconst 4, .iadd] (pc' := 1231) (L' := [some (.inr (67, 0)), some (.inr (11, 0)), some (.inr (12, 0)), some (.inr (63, 0)), some (.inl (.int a4)), none, none]) (st' := [.inl (.int (a4 + (4 : Int32))), .inr (67, 0), .inl (.int (ax_rd S6 67 0 (a4 + (3 : Int32)).toNatClampNeg)), .inl (.int (ax_rd S6 67 0 (a4 + (2 : Int32)).toNatClampNeg)), .inl (.int (ax_rd S6 67 0 (a4 + (1 : Int32)).toNatClampNeg)), .inr (12, 0), .inl (.int r9)]) (S' := S6) ok_L_law.1 (by decide +kernel) rfl rfl ?_
  obtain ⟨g13, h⟩ := ax_gd_e h
  refine ax_Ralc (n := (ax_fx S6 67 0 0)) ok_L_law.1 (by decide +kernel) (by decide) rfl g13 ?_
  refine ax_go [.aload_n 0, .iload 4, .iconst 5, .iadd] (pc' := 1237) (L' := [some (.inr (67, 0)), some (.inr (11, 0)), some (.inr (12, 0)), some (.inr (63, 0)), some (.inl (.int a4)), none, none]) (st' := [.inl (.int (a4 + (5 : Int32))), .inr (67, 0), .inl (.int (ax_rd S6 67 0 (a4 + (4 : Int32)).toNatClampNeg)), .inl (.int (ax_rd S6 67 0 (a4 + (3 : Int32)).toNatClampNeg)), .inl (.int (ax_rd S6 67 0 (a4 + (2 : Int32)).toNatClampNeg)), .inl (.int (ax_rd S6 67 0 (a4 + (1 : Int32)).toNatClampNeg)), .inr (12, 0), .inl (.int r9)]) (S' := S6) ok_L_law.1 (by decide +kernel) rfl rfl ?_
  obtain ⟨g14, h⟩ := ax_gd_e h
  refine ax_Ralc (n := (ax_fx S6 67 0 0)) ok_L_law.1 (by decide +kernel) (by decide) rfl g14 ?_
  obtain ⟨r18, S15, hq16, h⟩ := ax_bu_e h
  refine ax_cVi (d := 141) (ka := 12) (i := 0) [.inl (.int (ax_rd S6 67 0 (a4 + (1 : Int32)).toNatClampNeg)), .inl (.int (ax_rd S6 67 0 (a4 + (2 : Int32)).toNatClampNeg)), .inl (.int (ax_rd S6 67 0 (a4 + (3 : Int32)).toNatClampNeg)), .inl (.int (ax_rd S6 67 0 (a4 + (4 : Int32)).toNatClampNeg)), .inl (.int (ax_rd S6 67 0 (a4 + (5 : Int32)).toNatClampNeg))] [.inl (.int r9)] lk_L_156 (by decide +kernel) rfl (by decide) rfl (Nat.le_of_ble_eq_true rfl) (Nat.le_of_ble_eq_true rfl) ((t_X12_game hq16).up (by decide)) ?_
  refine ax_ic_eq (off := 304) (tgt := 1545) (by decide +kernel) (by decide) (fun c19 => ?_) (fun c19 => ?_)
  · rw [if_pos c19] at h
    refine ax_go [.iinc 4 6] (pc' := 1548) (L' := [some (.inr (67, 0)), some (.inr (11, 0)), some (.inr (12, 0)), some (.inr (63, 0)), some (.inl (.int (a4 + (6 : Int32)))), none, none]) (st' := []) (S' := S15) ok_L_law.1 (by decide +kernel) rfl rfl ?_
    obtain ⟨v20, ev20, h⟩ := ax_let_e h
    rw [ev20]
    refine ax_goto (off := (-1525)) (tgt := 23) (by decide +kernel) (by decide) ?_
    cases h
    subst_vars
    exact ax_R.rf
  · rw [if_neg c19] at h
    refine ax_go [.iconst 0] (pc' := 1245) (L' := [some (.inr (67, 0)), some (.inr (11, 0)), some (.inr (12, 0)), some (.inr (63, 0)), some (.inl (.int a4)), none, none]) (st' := [.inl (.int (0 : Int32))]) (S' := S15) ok_L_law.1 (by decide +kernel) rfl rfl ?_
    cases h
set_option maxRecDepth 100000 in
theorem tb_case31 {l : Launch} {a4 : Int32} {S Z : AS} (h : fb_case31 a4 S = some (some Z)) : ax_R l 142 ma_L_law (1246, [some (.inr (67, 0)), some (.inr (11, 0)), some (.inr (12, 0)), some (.inr (63, 0)), some (.inl (.int a4)), none, none], [], S) (23, [some (.inr (67, 0)), some (.inr (11, 0)), some (.inr (12, 0)), some (.inr (63, 0)), some (.inl (.int (a4 + (6 : Int32)))), none, none], [], Z) := by
  unfold fb_case31 at h
  refine ax_go [.aload_n 1, .aload_n 0, .iload 4, .iconst 1, .iadd] (pc' := 1252) (L' := [some (.inr (67, 0)), some (.inr (11, 0)), some (.inr (12, 0)), some (.inr (63, 0)), some (.inl (.int a4)), none, none]) (st' := [.inl (.int (a4 + (1 : Int32))), .inr (67, 0), .inr (11, 0)]) (S' := S) ok_L_law.1 (by decide +kernel) rfl rfl ?_
  obtain ⟨g1, h⟩ := ax_gd_e h
  refine ax_Ralc (n := (ax_fx S 67 0 0)) ok_L_law.1 (by decide +kernel) (by decide) rfl g1 ?_
  refine ax_go [.aload_n 0, .iload 4, .iconst 2, .iadd] (pc' := 1258) (L' := [some (.inr (67, 0)), some (.inr (11, 0)), some (.inr (12, 0)), some (.inr (63, 0)), some (.inl (.int a4)), none, none]) (st' := [.inl (.int (a4 + (2 : Int32))), .inr (67, 0), .inl (.int (ax_rd S 67 0 (a4 + (1 : Int32)).toNatClampNeg)), .inr (11, 0)]) (S' := S) ok_L_law.1 (by decide +kernel) rfl rfl ?_
  obtain ⟨g2, h⟩ := ax_gd_e h
  refine ax_Ralc (n := (ax_fx S 67 0 0)) ok_L_law.1 (by decide +kernel) (by decide) rfl g2 ?_
  refine ax_go [.aload_n 0, .iload 4, .iconst 3, .iadd] (pc' := 1264) (L' := [some (.inr (67, 0)), some (.inr (11, 0)), some (.inr (12, 0)), some (.inr (63, 0)), some (.inl (.int a4)), none, none]) (st' := [.inl (.int (a4 + (3 : Int32))), .inr (67, 0), .inl (.int (ax_rd S 67 0 (a4 + (2 : Int32)).toNatClampNeg)), .inl (.int (ax_rd S 67 0 (a4 + (1 : Int32)).toNatClampNeg)), .inr (11, 0)]) (S' := S) ok_L_law.1 (by decide +kernel) rfl rfl ?_
  obtain ⟨g3, h⟩ := ax_gd_e h
  refine ax_Ralc (n := (ax_fx S 67 0 0)) ok_L_law.1 (by decide +kernel) (by decide) rfl g3 ?_
  obtain ⟨r7, S4, hq5, h⟩ := ax_bu_e h
  refine ax_cVi (d := 141) (ka := 11) (i := 0) [.inl (.int (ax_rd S 67 0 (a4 + (1 : Int32)).toNatClampNeg)), .inl (.int (ax_rd S 67 0 (a4 + (2 : Int32)).toNatClampNeg)), .inl (.int (ax_rd S 67 0 (a4 + (3 : Int32)).toNatClampNeg))] [] lk_L_157 (by decide +kernel) rfl (by decide) rfl (Nat.le_of_ble_eq_true rfl) (Nat.le_of_ble_eq_true rfl) ((t_X11_rests hq5).up (by decide)) ?_
  refine ax_go [.aload_n 2, .aload_n 0, .iload 4, .iconst 1, .iadd] (pc' := 1274) (L' := [some (.inr (67, 0)), some (.inr (11, 0)), some (.inr (12, 0)), some (.inr (63, 0)), some (.inl (.int a4)), none, none]) (st' := [.inl (.int (a4 + (1 : Int32))), .inr (67, 0), .inr (12, 0), .inl (.int r7)]) (S' := S4) ok_L_law.1 (by decide +kernel) rfl rfl ?_
  obtain ⟨g8, h⟩ := ax_gd_e h
  refine ax_Ralc (n := (ax_fx S4 67 0 0)) ok_L_law.1 (by decide +kernel) (by decide) rfl g8 ?_
  refine ax_go [.aload_n 0, .iload 4, .iconst 2, .iadd] (pc' := 1280) (L' := [some (.inr (67, 0)), some (.inr (11, 0)), some (.inr (12, 0)), some (.inr (63, 0)), some (.inl (.int a4)), none, none]) (st' := [.inl (.int (a4 + (2 : Int32))), .inr (67, 0), .inl (.int (ax_rd S4 67 0 (a4 + (1 : Int32)).toNatClampNeg)), .inr (12, 0), .inl (.int r7)]) (S' := S4) ok_L_law.1 (by decide +kernel) rfl rfl ?_
  obtain ⟨g9, h⟩ := ax_gd_e h
  refine ax_Ralc (n := (ax_fx S4 67 0 0)) ok_L_law.1 (by decide +kernel) (by decide) rfl g9 ?_
  refine ax_go [.aload_n 0, .iload 4, .iconst 3, .iadd] (pc' := 1286) (L' := [some (.inr (67, 0)), some (.inr (11, 0)), some (.inr (12, 0)), some (.inr (63, 0)), some (.inl (.int a4)), none, none]) (st' := [.inl (.int (a4 + (3 : Int32))), .inr (67, 0), .inl (.int (ax_rd S4 67 0 (a4 + (2 : Int32)).toNatClampNeg)), .inl (.int (ax_rd S4 67 0 (a4 + (1 : Int32)).toNatClampNeg)), .inr (12, 0), .inl (.int r7)]) (S' := S4) ok_L_law.1 (by decide +kernel) rfl rfl ?_
  obtain ⟨g10, h⟩ := ax_gd_e h
  refine ax_Ralc (n := (ax_fx S4 67 0 0)) ok_L_law.1 (by decide +kernel) (by decide) rfl g10 ?_
  obtain ⟨r14, S11, hq12, h⟩ := ax_bu_e h
  refine ax_cVi (d := 141) (ka := 12) (i := 0) [.inl (.int (ax_rd S4 67 0 (a4 + (1 : Int32)).toNatClampNeg)), .inl (.int (ax_rd S4 67 0 (a4 + (2 : Int32)).toNatClampNeg)), .inl (.int (ax_rd S4 67 0 (a4 + (3 : Int32)).toNatClampNeg))] [.inl (.int r7)] lk_L_160 (by decide +kernel) rfl (by decide) rfl (Nat.le_of_ble_eq_true rfl) (Nat.le_of_ble_eq_true rfl) ((t_X12_rests hq12).up (by decide)) ?_
  refine ax_ic_eq (off := 255) (tgt := 1545) (by decide +kernel) (by decide) (fun c15 => ?_) (fun c15 => ?_)
  · rw [if_pos c15] at h
    refine ax_go [.iinc 4 6] (pc' := 1548) (L' := [some (.inr (67, 0)), some (.inr (11, 0)), some (.inr (12, 0)), some (.inr (63, 0)), some (.inl (.int (a4 + (6 : Int32)))), none, none]) (st' := []) (S' := S11) ok_L_law.1 (by decide +kernel) rfl rfl ?_
    obtain ⟨v16, ev16, h⟩ := ax_let_e h
    rw [ev16]
    refine ax_goto (off := (-1525)) (tgt := 23) (by decide +kernel) (by decide) ?_
    cases h
    subst_vars
    exact ax_R.rf
  · rw [if_neg c15] at h
    refine ax_go [.iconst 0] (pc' := 1294) (L' := [some (.inr (67, 0)), some (.inr (11, 0)), some (.inr (12, 0)), some (.inr (63, 0)), some (.inl (.int a4)), none, none]) (st' := [.inl (.int (0 : Int32))]) (S' := S11) ok_L_law.1 (by decide +kernel) rfl rfl ?_
    cases h
set_option maxRecDepth 100000 in
theorem tb_case32 {l : Launch} {a4 : Int32} {S Z : AS} (h : fb_case32 a4 S = some (some Z)) : ax_R l 142 ma_L_law (1295, [some (.inr (67, 0)), some (.inr (11, 0)), some (.inr (12, 0)), some (.inr (63, 0)), some (.inl (.int a4)), none, none], [], S) (23, [some (.inr (67, 0)), some (.inr (11, 0)), some (.inr (12, 0)), some (.inr (63, 0)), some (.inl (.int (a4 + (6 : Int32)))), none, none], [], Z) := by
  unfold fb_case32 at h
  refine ax_go [.aload_n 1, .aload_n 0, .iload 4, .iconst 1, .iadd] (pc' := 1301) (L' := [some (.inr (67, 0)), some (.inr (11, 0)), some (.inr (12, 0)), some (.inr (63, 0)), some (.inl (.int a4)), none, none]) (st' := [.inl (.int (a4 + (1 : Int32))), .inr (67, 0), .inr (11, 0)]) (S' := S) ok_L_law.1 (by decide +kernel) rfl rfl ?_
  obtain ⟨g1, h⟩ := ax_gd_e h
  refine ax_Ralc (n := (ax_fx S 67 0 0)) ok_L_law.1 (by decide +kernel) (by decide) rfl g1 ?_
  refine ax_go [.aload_n 0, .iload 4, .iconst 2, .iadd] (pc' := 1307) (L' := [some (.inr (67, 0)), some (.inr (11, 0)), some (.inr (12, 0)), some (.inr (63, 0)), some (.inl (.int a4)), none, none]) (st' := [.inl (.int (a4 + (2 : Int32))), .inr (67, 0), .inl (.int (ax_rd S 67 0 (a4 + (1 : Int32)).toNatClampNeg)), .inr (11, 0)]) (S' := S) ok_L_law.1 (by decide +kernel) rfl rfl ?_
  obtain ⟨g2, h⟩ := ax_gd_e h
  refine ax_Ralc (n := (ax_fx S 67 0 0)) ok_L_law.1 (by decide +kernel) (by decide) rfl g2 ?_
  obtain ⟨r6, S3, hq4, h⟩ := ax_bu_e h
  refine ax_cVi (d := 141) (ka := 11) (i := 0) [.inl (.int (ax_rd S 67 0 (a4 + (1 : Int32)).toNatClampNeg)), .inl (.int (ax_rd S 67 0 (a4 + (2 : Int32)).toNatClampNeg))] [] lk_L_161 (by decide +kernel) rfl (by decide) rfl (Nat.le_of_ble_eq_true rfl) (Nat.le_of_ble_eq_true rfl) ((t_X11_odds hq4).up (by decide)) ?_
  refine ax_go [.aload_n 2, .aload_n 0, .iload 4, .iconst 1, .iadd] (pc' := 1317) (L' := [some (.inr (67, 0)), some (.inr (11, 0)), some (.inr (12, 0)), some (.inr (63, 0)), some (.inl (.int a4)), none, none]) (st' := [.inl (.int (a4 + (1 : Int32))), .inr (67, 0), .inr (12, 0), .inl (.int r6)]) (S' := S3) ok_L_law.1 (by decide +kernel) rfl rfl ?_
  obtain ⟨g7, h⟩ := ax_gd_e h
  refine ax_Ralc (n := (ax_fx S3 67 0 0)) ok_L_law.1 (by decide +kernel) (by decide) rfl g7 ?_
  refine ax_go [.aload_n 0, .iload 4, .iconst 2, .iadd] (pc' := 1323) (L' := [some (.inr (67, 0)), some (.inr (11, 0)), some (.inr (12, 0)), some (.inr (63, 0)), some (.inl (.int a4)), none, none]) (st' := [.inl (.int (a4 + (2 : Int32))), .inr (67, 0), .inl (.int (ax_rd S3 67 0 (a4 + (1 : Int32)).toNatClampNeg)), .inr (12, 0), .inl (.int r6)]) (S' := S3) ok_L_law.1 (by decide +kernel) rfl rfl ?_
  obtain ⟨g8, h⟩ := ax_gd_e h
  refine ax_Ralc (n := (ax_fx S3 67 0 0)) ok_L_law.1 (by decide +kernel) (by decide) rfl g8 ?_
  obtain ⟨r12, S9, hq10, h⟩ := ax_bu_e h
  refine ax_cVi (d := 141) (ka := 12) (i := 0) [.inl (.int (ax_rd S3 67 0 (a4 + (1 : Int32)).toNatClampNeg)), .inl (.int (ax_rd S3 67 0 (a4 + (2 : Int32)).toNatClampNeg))] [.inl (.int r6)] lk_L_164 (by decide +kernel) rfl (by decide) rfl (Nat.le_of_ble_eq_true rfl) (Nat.le_of_ble_eq_true rfl) ((t_X12_odds hq10).up (by decide)) ?_
  refine ax_ic_eq (off := 218) (tgt := 1545) (by decide +kernel) (by decide) (fun c13 => ?_) (fun c13 => ?_)
  · rw [if_pos c13] at h
    refine ax_go [.iinc 4 6] (pc' := 1548) (L' := [some (.inr (67, 0)), some (.inr (11, 0)), some (.inr (12, 0)), some (.inr (63, 0)), some (.inl (.int (a4 + (6 : Int32)))), none, none]) (st' := []) (S' := S9) ok_L_law.1 (by decide +kernel) rfl rfl ?_
    obtain ⟨v14, ev14, h⟩ := ax_let_e h
    rw [ev14]
    refine ax_goto (off := (-1525)) (tgt := 23) (by decide +kernel) (by decide) ?_
    cases h
    subst_vars
    exact ax_R.rf
  · rw [if_neg c13] at h
    refine ax_go [.iconst 0] (pc' := 1331) (L' := [some (.inr (67, 0)), some (.inr (11, 0)), some (.inr (12, 0)), some (.inr (63, 0)), some (.inl (.int a4)), none, none]) (st' := [.inl (.int (0 : Int32))]) (S' := S9) ok_L_law.1 (by decide +kernel) rfl rfl ?_
    cases h
set_option maxRecDepth 100000 in
theorem tb_case33 {l : Launch} {a4 : Int32} {S Z : AS} (h : fb_case33 a4 S = some (some Z)) : ax_R l 142 ma_L_law (1332, [some (.inr (67, 0)), some (.inr (11, 0)), some (.inr (12, 0)), some (.inr (63, 0)), some (.inl (.int a4)), none, none], [], S) (23, [some (.inr (67, 0)), some (.inr (11, 0)), some (.inr (12, 0)), some (.inr (63, 0)), some (.inl (.int (a4 + (6 : Int32)))), none, none], [], Z) := by
  unfold fb_case33 at h
  refine ax_go [.aload_n 1, .aload_n 0, .iload 4, .iconst 1, .iadd] (pc' := 1338) (L' := [some (.inr (67, 0)), some (.inr (11, 0)), some (.inr (12, 0)), some (.inr (63, 0)), some (.inl (.int a4)), none, none]) (st' := [.inl (.int (a4 + (1 : Int32))), .inr (67, 0), .inr (11, 0)]) (S' := S) ok_L_law.1 (by decide +kernel) rfl rfl ?_
  obtain ⟨g1, h⟩ := ax_gd_e h
  refine ax_Ralc (n := (ax_fx S 67 0 0)) ok_L_law.1 (by decide +kernel) (by decide) rfl g1 ?_
  obtain ⟨r5, S2, hq3, h⟩ := ax_bu_e h
  refine ax_cVi (d := 141) (ka := 11) (i := 0) [.inl (.int (ax_rd S 67 0 (a4 + (1 : Int32)).toNatClampNeg))] [] lk_L_165 (by decide +kernel) rfl (by decide) rfl (Nat.le_of_ble_eq_true rfl) (Nat.le_of_ble_eq_true rfl) ((t_X11_mean hq3).up (by decide)) ?_
  refine ax_go [.aload_n 2, .aload_n 0, .iload 4, .iconst 1, .iadd] (pc' := 1348) (L' := [some (.inr (67, 0)), some (.inr (11, 0)), some (.inr (12, 0)), some (.inr (63, 0)), some (.inl (.int a4)), none, none]) (st' := [.inl (.int (a4 + (1 : Int32))), .inr (67, 0), .inr (12, 0), .inl (.int r5)]) (S' := S2) ok_L_law.1 (by decide +kernel) rfl rfl ?_
  obtain ⟨g6, h⟩ := ax_gd_e h
  refine ax_Ralc (n := (ax_fx S2 67 0 0)) ok_L_law.1 (by decide +kernel) (by decide) rfl g6 ?_
  obtain ⟨r10, S7, hq8, h⟩ := ax_bu_e h
  refine ax_cVi (d := 141) (ka := 12) (i := 0) [.inl (.int (ax_rd S2 67 0 (a4 + (1 : Int32)).toNatClampNeg))] [.inl (.int r5)] lk_L_168 (by decide +kernel) rfl (by decide) rfl (Nat.le_of_ble_eq_true rfl) (Nat.le_of_ble_eq_true rfl) ((t_X12_mean hq8).up (by decide)) ?_
  refine ax_ic_eq (off := 193) (tgt := 1545) (by decide +kernel) (by decide) (fun c11 => ?_) (fun c11 => ?_)
  · rw [if_pos c11] at h
    refine ax_go [.iinc 4 6] (pc' := 1548) (L' := [some (.inr (67, 0)), some (.inr (11, 0)), some (.inr (12, 0)), some (.inr (63, 0)), some (.inl (.int (a4 + (6 : Int32)))), none, none]) (st' := []) (S' := S7) ok_L_law.1 (by decide +kernel) rfl rfl ?_
    obtain ⟨v12, ev12, h⟩ := ax_let_e h
    rw [ev12]
    refine ax_goto (off := (-1525)) (tgt := 23) (by decide +kernel) (by decide) ?_
    cases h
    subst_vars
    exact ax_R.rf
  · rw [if_neg c11] at h
    refine ax_go [.iconst 0] (pc' := 1356) (L' := [some (.inr (67, 0)), some (.inr (11, 0)), some (.inr (12, 0)), some (.inr (63, 0)), some (.inl (.int a4)), none, none]) (st' := [.inl (.int (0 : Int32))]) (S' := S7) ok_L_law.1 (by decide +kernel) rfl rfl ?_
    cases h
set_option maxRecDepth 100000 in
theorem tb_case34 {l : Launch} {a4 : Int32} {S Z : AS} (h : fb_case34 a4 S = some (some Z)) : ax_R l 142 ma_L_law (1357, [some (.inr (67, 0)), some (.inr (11, 0)), some (.inr (12, 0)), some (.inr (63, 0)), some (.inl (.int a4)), none, none], [], S) (23, [some (.inr (67, 0)), some (.inr (11, 0)), some (.inr (12, 0)), some (.inr (63, 0)), some (.inl (.int (a4 + (6 : Int32)))), none, none], [], Z) := by
  unfold fb_case34 at h
  refine ax_go [.aload_n 1, .aload_n 0, .iload 4, .iconst 1, .iadd] (pc' := 1363) (L' := [some (.inr (67, 0)), some (.inr (11, 0)), some (.inr (12, 0)), some (.inr (63, 0)), some (.inl (.int a4)), none, none]) (st' := [.inl (.int (a4 + (1 : Int32))), .inr (67, 0), .inr (11, 0)]) (S' := S) ok_L_law.1 (by decide +kernel) rfl rfl ?_
  obtain ⟨g1, h⟩ := ax_gd_e h
  refine ax_Ralc (n := (ax_fx S 67 0 0)) ok_L_law.1 (by decide +kernel) (by decide) rfl g1 ?_
  obtain ⟨r5, S2, hq3, h⟩ := ax_bu_e h
  refine ax_cVi (d := 141) (ka := 11) (i := 0) [.inl (.int (ax_rd S 67 0 (a4 + (1 : Int32)).toNatClampNeg))] [] lk_L_169 (by decide +kernel) rfl (by decide) rfl (Nat.le_of_ble_eq_true rfl) (Nat.le_of_ble_eq_true rfl) ((t_X11_all hq3).up (by decide)) ?_
  refine ax_go [.aload_n 2, .aload_n 0, .iload 4, .iconst 1, .iadd] (pc' := 1373) (L' := [some (.inr (67, 0)), some (.inr (11, 0)), some (.inr (12, 0)), some (.inr (63, 0)), some (.inl (.int a4)), none, none]) (st' := [.inl (.int (a4 + (1 : Int32))), .inr (67, 0), .inr (12, 0), .inl (.int r5)]) (S' := S2) ok_L_law.1 (by decide +kernel) rfl rfl ?_
  obtain ⟨g6, h⟩ := ax_gd_e h
  refine ax_Ralc (n := (ax_fx S2 67 0 0)) ok_L_law.1 (by decide +kernel) (by decide) rfl g6 ?_
  obtain ⟨r10, S7, hq8, h⟩ := ax_bu_e h
  refine ax_cVi (d := 141) (ka := 12) (i := 0) [.inl (.int (ax_rd S2 67 0 (a4 + (1 : Int32)).toNatClampNeg))] [.inl (.int r5)] lk_L_172 (by decide +kernel) rfl (by decide) rfl (Nat.le_of_ble_eq_true rfl) (Nat.le_of_ble_eq_true rfl) ((t_X12_all hq8).up (by decide)) ?_
  refine ax_ic_eq (off := 168) (tgt := 1545) (by decide +kernel) (by decide) (fun c11 => ?_) (fun c11 => ?_)
  · rw [if_pos c11] at h
    refine ax_go [.iinc 4 6] (pc' := 1548) (L' := [some (.inr (67, 0)), some (.inr (11, 0)), some (.inr (12, 0)), some (.inr (63, 0)), some (.inl (.int (a4 + (6 : Int32)))), none, none]) (st' := []) (S' := S7) ok_L_law.1 (by decide +kernel) rfl rfl ?_
    obtain ⟨v12, ev12, h⟩ := ax_let_e h
    rw [ev12]
    refine ax_goto (off := (-1525)) (tgt := 23) (by decide +kernel) (by decide) ?_
    cases h
    subst_vars
    exact ax_R.rf
  · rw [if_neg c11] at h
    refine ax_go [.iconst 0] (pc' := 1381) (L' := [some (.inr (67, 0)), some (.inr (11, 0)), some (.inr (12, 0)), some (.inr (63, 0)), some (.inl (.int a4)), none, none]) (st' := [.inl (.int (0 : Int32))]) (S' := S7) ok_L_law.1 (by decide +kernel) rfl rfl ?_
    cases h
set_option maxRecDepth 100000 in
theorem tb_case35 {l : Launch} {a4 : Int32} {S Z : AS} (h : fb_case35 a4 S = some (some Z)) : ax_R l 142 ma_L_law (1382, [some (.inr (67, 0)), some (.inr (11, 0)), some (.inr (12, 0)), some (.inr (63, 0)), some (.inl (.int a4)), none, none], [], S) (23, [some (.inr (67, 0)), some (.inr (11, 0)), some (.inr (12, 0)), some (.inr (63, 0)), some (.inl (.int (a4 + (6 : Int32)))), none, none], [], Z) := by
  unfold fb_case35 at h
  refine ax_go [.aload_n 1, .aload_n 0, .iload 4, .iconst 1, .iadd] (pc' := 1388) (L' := [some (.inr (67, 0)), some (.inr (11, 0)), some (.inr (12, 0)), some (.inr (63, 0)), some (.inl (.int a4)), none, none]) (st' := [.inl (.int (a4 + (1 : Int32))), .inr (67, 0), .inr (11, 0)]) (S' := S) ok_L_law.1 (by decide +kernel) rfl rfl ?_
  obtain ⟨g1, h⟩ := ax_gd_e h
  refine ax_Ralc (n := (ax_fx S 67 0 0)) ok_L_law.1 (by decide +kernel) (by decide) rfl g1 ?_
  obtain ⟨r5, hq3, h⟩ := ax_bd_e h
  refine ax_cVi (d := 141) (ka := 11) (i := 0) [.inl (.int (ax_rd S 67 0 (a4 + (1 : Int32)).toNatClampNeg))] [] lk_L_173 (by decide +kernel) rfl (by decide) rfl (Nat.le_of_ble_eq_true rfl) (Nat.le_of_ble_eq_true rfl) ((t_X11_whose hq3).up (by decide)) ?_
  refine ax_go [.aload_n 2, .aload_n 0, .iload 4, .iconst 1, .iadd] (pc' := 1398) (L' := [some (.inr (67, 0)), some (.inr (11, 0)), some (.inr (12, 0)), some (.inr (63, 0)), some (.inl (.int a4)), none, none]) (st' := [.inl (.int (a4 + (1 : Int32))), .inr (67, 0), .inr (12, 0), .inl (.int r5)]) (S' := S) ok_L_law.1 (by decide +kernel) rfl rfl ?_
  obtain ⟨g6, h⟩ := ax_gd_e h
  refine ax_Ralc (n := (ax_fx S 67 0 0)) ok_L_law.1 (by decide +kernel) (by decide) rfl g6 ?_
  obtain ⟨r10, S7, hq8, h⟩ := ax_bu_e h
  refine ax_cVi (d := 141) (ka := 12) (i := 0) [.inl (.int (ax_rd S 67 0 (a4 + (1 : Int32)).toNatClampNeg))] [.inl (.int r5)] lk_L_176 (by decide +kernel) rfl (by decide) rfl (Nat.le_of_ble_eq_true rfl) (Nat.le_of_ble_eq_true rfl) ((t_X12_whose hq8).up (by decide)) ?_
  refine ax_ic_eq (off := 143) (tgt := 1545) (by decide +kernel) (by decide) (fun c11 => ?_) (fun c11 => ?_)
  · rw [if_pos c11] at h
    refine ax_go [.iinc 4 6] (pc' := 1548) (L' := [some (.inr (67, 0)), some (.inr (11, 0)), some (.inr (12, 0)), some (.inr (63, 0)), some (.inl (.int (a4 + (6 : Int32)))), none, none]) (st' := []) (S' := S7) ok_L_law.1 (by decide +kernel) rfl rfl ?_
    obtain ⟨v12, ev12, h⟩ := ax_let_e h
    rw [ev12]
    refine ax_goto (off := (-1525)) (tgt := 23) (by decide +kernel) (by decide) ?_
    cases h
    subst_vars
    exact ax_R.rf
  · rw [if_neg c11] at h
    refine ax_go [.iconst 0] (pc' := 1406) (L' := [some (.inr (67, 0)), some (.inr (11, 0)), some (.inr (12, 0)), some (.inr (63, 0)), some (.inl (.int a4)), none, none]) (st' := [.inl (.int (0 : Int32))]) (S' := S7) ok_L_law.1 (by decide +kernel) rfl rfl ?_
    cases h
set_option maxRecDepth 100000 in
theorem tb_case36 {l : Launch} {a4 : Int32} {S Z : AS} (h : fb_case36 a4 S = some (some Z)) : ax_R l 142 ma_L_law (1407, [some (.inr (67, 0)), some (.inr (11, 0)), some (.inr (12, 0)), some (.inr (63, 0)), some (.inl (.int a4)), none, none], [], S) (23, [some (.inr (67, 0)), some (.inr (11, 0)), some (.inr (12, 0)), some (.inr (63, 0)), some (.inl (.int (a4 + (6 : Int32)))), none, none], [], Z) := by
  unfold fb_case36 at h
  refine ax_go [.aload_n 1, .aload_n 0, .iload 4, .iconst 1, .iadd] (pc' := 1413) (L' := [some (.inr (67, 0)), some (.inr (11, 0)), some (.inr (12, 0)), some (.inr (63, 0)), some (.inl (.int a4)), none, none]) (st' := [.inl (.int (a4 + (1 : Int32))), .inr (67, 0), .inr (11, 0)]) (S' := S) ok_L_law.1 (by decide +kernel) rfl rfl ?_
  obtain ⟨g1, h⟩ := ax_gd_e h
  refine ax_Ralc (n := (ax_fx S 67 0 0)) ok_L_law.1 (by decide +kernel) (by decide) rfl g1 ?_
  obtain ⟨r5, S2, hq3, h⟩ := ax_bu_e h
  refine ax_cVi (d := 141) (ka := 11) (i := 0) [.inl (.int (ax_rd S 67 0 (a4 + (1 : Int32)).toNatClampNeg))] [] lk_L_177 (by decide +kernel) rfl (by decide) rfl (Nat.le_of_ble_eq_true rfl) (Nat.le_of_ble_eq_true rfl) ((t_X11_queue hq3).up (by decide)) ?_
  refine ax_go [.aload_n 2, .aload_n 0, .iload 4, .iconst 1, .iadd] (pc' := 1423) (L' := [some (.inr (67, 0)), some (.inr (11, 0)), some (.inr (12, 0)), some (.inr (63, 0)), some (.inl (.int a4)), none, none]) (st' := [.inl (.int (a4 + (1 : Int32))), .inr (67, 0), .inr (12, 0), .inl (.int r5)]) (S' := S2) ok_L_law.1 (by decide +kernel) rfl rfl ?_
  obtain ⟨g6, h⟩ := ax_gd_e h
  refine ax_Ralc (n := (ax_fx S2 67 0 0)) ok_L_law.1 (by decide +kernel) (by decide) rfl g6 ?_
  obtain ⟨r10, S7, hq8, h⟩ := ax_bu_e h
  refine ax_cVi (d := 141) (ka := 12) (i := 0) [.inl (.int (ax_rd S2 67 0 (a4 + (1 : Int32)).toNatClampNeg))] [.inl (.int r5)] lk_L_180 (by decide +kernel) rfl (by decide) rfl (Nat.le_of_ble_eq_true rfl) (Nat.le_of_ble_eq_true rfl) ((t_X12_queue hq8).up (by decide)) ?_
  refine ax_ic_eq (off := 118) (tgt := 1545) (by decide +kernel) (by decide) (fun c11 => ?_) (fun c11 => ?_)
  · rw [if_pos c11] at h
    refine ax_go [.iinc 4 6] (pc' := 1548) (L' := [some (.inr (67, 0)), some (.inr (11, 0)), some (.inr (12, 0)), some (.inr (63, 0)), some (.inl (.int (a4 + (6 : Int32)))), none, none]) (st' := []) (S' := S7) ok_L_law.1 (by decide +kernel) rfl rfl ?_
    obtain ⟨v12, ev12, h⟩ := ax_let_e h
    rw [ev12]
    refine ax_goto (off := (-1525)) (tgt := 23) (by decide +kernel) (by decide) ?_
    cases h
    subst_vars
    exact ax_R.rf
  · rw [if_neg c11] at h
    refine ax_go [.iconst 0] (pc' := 1431) (L' := [some (.inr (67, 0)), some (.inr (11, 0)), some (.inr (12, 0)), some (.inr (63, 0)), some (.inl (.int a4)), none, none]) (st' := [.inl (.int (0 : Int32))]) (S' := S7) ok_L_law.1 (by decide +kernel) rfl rfl ?_
    cases h
set_option maxRecDepth 100000 in
theorem tb_case37 {l : Launch} {a4 : Int32} {S Z : AS} (h : fb_case37 a4 S = some (some Z)) : ax_R l 142 ma_L_law (1432, [some (.inr (67, 0)), some (.inr (11, 0)), some (.inr (12, 0)), some (.inr (63, 0)), some (.inl (.int a4)), none, none], [], S) (23, [some (.inr (67, 0)), some (.inr (11, 0)), some (.inr (12, 0)), some (.inr (63, 0)), some (.inl (.int (a4 + (6 : Int32)))), none, none], [], Z) := by
  unfold fb_case37 at h
  refine ax_go [.aload_n 1, .aload_n 0, .iload 4, .iconst 1, .iadd] (pc' := 1438) (L' := [some (.inr (67, 0)), some (.inr (11, 0)), some (.inr (12, 0)), some (.inr (63, 0)), some (.inl (.int a4)), none, none]) (st' := [.inl (.int (a4 + (1 : Int32))), .inr (67, 0), .inr (11, 0)]) (S' := S) ok_L_law.1 (by decide +kernel) rfl rfl ?_
  obtain ⟨g1, h⟩ := ax_gd_e h
  refine ax_Ralc (n := (ax_fx S 67 0 0)) ok_L_law.1 (by decide +kernel) (by decide) rfl g1 ?_
  refine ax_go [.aload_n 0, .iload 4, .iconst 2, .iadd] (pc' := 1444) (L' := [some (.inr (67, 0)), some (.inr (11, 0)), some (.inr (12, 0)), some (.inr (63, 0)), some (.inl (.int a4)), none, none]) (st' := [.inl (.int (a4 + (2 : Int32))), .inr (67, 0), .inl (.int (ax_rd S 67 0 (a4 + (1 : Int32)).toNatClampNeg)), .inr (11, 0)]) (S' := S) ok_L_law.1 (by decide +kernel) rfl rfl ?_
  obtain ⟨g2, h⟩ := ax_gd_e h
  refine ax_Ralc (n := (ax_fx S 67 0 0)) ok_L_law.1 (by decide +kernel) (by decide) rfl g2 ?_
  obtain ⟨r6, S3, hq4, h⟩ := ax_bu_e h
  refine ax_cVi (d := 141) (ka := 11) (i := 0) [.inl (.int (ax_rd S 67 0 (a4 + (1 : Int32)).toNatClampNeg)), .inl (.int (ax_rd S 67 0 (a4 + (2 : Int32)).toNatClampNeg))] [] lk_L_181 (by decide +kernel) rfl (by decide) rfl (Nat.le_of_ble_eq_true rfl) (Nat.le_of_ble_eq_true rfl) ((t_X11_sung hq4).up (by decide)) ?_
  refine ax_go [.aload_n 2, .aload_n 0, .iload 4, .iconst 1, .iadd] (pc' := 1454) (L' := [some (.inr (67, 0)), some (.inr (11, 0)), some (.inr (12, 0)), some (.inr (63, 0)), some (.inl (.int a4)), none, none]) (st' := [.inl (.int (a4 + (1 : Int32))), .inr (67, 0), .inr (12, 0), .inl (.int r6)]) (S' := S3) ok_L_law.1 (by decide +kernel) rfl rfl ?_
  obtain ⟨g7, h⟩ := ax_gd_e h
  refine ax_Ralc (n := (ax_fx S3 67 0 0)) ok_L_law.1 (by decide +kernel) (by decide) rfl g7 ?_
  refine ax_go [.aload_n 0, .iload 4, .iconst 2, .iadd] (pc' := 1460) (L' := [some (.inr (67, 0)), some (.inr (11, 0)), some (.inr (12, 0)), some (.inr (63, 0)), some (.inl (.int a4)), none, none]) (st' := [.inl (.int (a4 + (2 : Int32))), .inr (67, 0), .inl (.int (ax_rd S3 67 0 (a4 + (1 : Int32)).toNatClampNeg)), .inr (12, 0), .inl (.int r6)]) (S' := S3) ok_L_law.1 (by decide +kernel) rfl rfl ?_
  obtain ⟨g8, h⟩ := ax_gd_e h
  refine ax_Ralc (n := (ax_fx S3 67 0 0)) ok_L_law.1 (by decide +kernel) (by decide) rfl g8 ?_
  obtain ⟨r12, S9, hq10, h⟩ := ax_bu_e h
  refine ax_cVi (d := 141) (ka := 12) (i := 0) [.inl (.int (ax_rd S3 67 0 (a4 + (1 : Int32)).toNatClampNeg)), .inl (.int (ax_rd S3 67 0 (a4 + (2 : Int32)).toNatClampNeg))] [.inl (.int r6)] lk_L_184 (by decide +kernel) rfl (by decide) rfl (Nat.le_of_ble_eq_true rfl) (Nat.le_of_ble_eq_true rfl) ((t_X12_sung hq10).up (by decide)) ?_
  refine ax_ic_eq (off := 81) (tgt := 1545) (by decide +kernel) (by decide) (fun c13 => ?_) (fun c13 => ?_)
  · rw [if_pos c13] at h
    refine ax_go [.iinc 4 6] (pc' := 1548) (L' := [some (.inr (67, 0)), some (.inr (11, 0)), some (.inr (12, 0)), some (.inr (63, 0)), some (.inl (.int (a4 + (6 : Int32)))), none, none]) (st' := []) (S' := S9) ok_L_law.1 (by decide +kernel) rfl rfl ?_
    obtain ⟨v14, ev14, h⟩ := ax_let_e h
    rw [ev14]
    refine ax_goto (off := (-1525)) (tgt := 23) (by decide +kernel) (by decide) ?_
    cases h
    subst_vars
    exact ax_R.rf
  · rw [if_neg c13] at h
    refine ax_go [.iconst 0] (pc' := 1468) (L' := [some (.inr (67, 0)), some (.inr (11, 0)), some (.inr (12, 0)), some (.inr (63, 0)), some (.inl (.int a4)), none, none]) (st' := [.inl (.int (0 : Int32))]) (S' := S9) ok_L_law.1 (by decide +kernel) rfl rfl ?_
    cases h
set_option maxRecDepth 100000 in
theorem tb_case38 {l : Launch} {a4 : Int32} {S Z : AS} (h : fb_case38 a4 S = some (some Z)) : ax_R l 142 ma_L_law (1469, [some (.inr (67, 0)), some (.inr (11, 0)), some (.inr (12, 0)), some (.inr (63, 0)), some (.inl (.int a4)), none, none], [], S) (23, [some (.inr (67, 0)), some (.inr (11, 0)), some (.inr (12, 0)), some (.inr (63, 0)), some (.inl (.int (a4 + (6 : Int32)))), none, none], [], Z) := by
  unfold fb_case38 at h
  refine ax_go [.aload_n 1, .aload_n 0, .iload 4, .iconst 1, .iadd] (pc' := 1475) (L' := [some (.inr (67, 0)), some (.inr (11, 0)), some (.inr (12, 0)), some (.inr (63, 0)), some (.inl (.int a4)), none, none]) (st' := [.inl (.int (a4 + (1 : Int32))), .inr (67, 0), .inr (11, 0)]) (S' := S) ok_L_law.1 (by decide +kernel) rfl rfl ?_
  obtain ⟨g1, h⟩ := ax_gd_e h
  refine ax_Ralc (n := (ax_fx S 67 0 0)) ok_L_law.1 (by decide +kernel) (by decide) rfl g1 ?_
  obtain ⟨r5, S2, hq3, h⟩ := ax_bu_e h
  refine ax_cVi (d := 141) (ka := 11) (i := 0) [.inl (.int (ax_rd S 67 0 (a4 + (1 : Int32)).toNatClampNeg))] [] lk_L_185 (by decide +kernel) rfl (by decide) rfl (Nat.le_of_ble_eq_true rfl) (Nat.le_of_ble_eq_true rfl) ((t_X11_span hq3).up (by decide)) ?_
  refine ax_go [.aload_n 2, .aload_n 0, .iload 4, .iconst 1, .iadd] (pc' := 1485) (L' := [some (.inr (67, 0)), some (.inr (11, 0)), some (.inr (12, 0)), some (.inr (63, 0)), some (.inl (.int a4)), none, none]) (st' := [.inl (.int (a4 + (1 : Int32))), .inr (67, 0), .inr (12, 0), .inl (.int r5)]) (S' := S2) ok_L_law.1 (by decide +kernel) rfl rfl ?_
  obtain ⟨g6, h⟩ := ax_gd_e h
  refine ax_Ralc (n := (ax_fx S2 67 0 0)) ok_L_law.1 (by decide +kernel) (by decide) rfl g6 ?_
  obtain ⟨r10, S7, hq8, h⟩ := ax_bu_e h
  refine ax_cVi (d := 141) (ka := 12) (i := 0) [.inl (.int (ax_rd S2 67 0 (a4 + (1 : Int32)).toNatClampNeg))] [.inl (.int r5)] lk_L_188 (by decide +kernel) rfl (by decide) rfl (Nat.le_of_ble_eq_true rfl) (Nat.le_of_ble_eq_true rfl) ((t_X12_span hq8).up (by decide)) ?_
  refine ax_ic_eq (off := 56) (tgt := 1545) (by decide +kernel) (by decide) (fun c11 => ?_) (fun c11 => ?_)
  · rw [if_pos c11] at h
    refine ax_go [.iinc 4 6] (pc' := 1548) (L' := [some (.inr (67, 0)), some (.inr (11, 0)), some (.inr (12, 0)), some (.inr (63, 0)), some (.inl (.int (a4 + (6 : Int32)))), none, none]) (st' := []) (S' := S7) ok_L_law.1 (by decide +kernel) rfl rfl ?_
    obtain ⟨v12, ev12, h⟩ := ax_let_e h
    rw [ev12]
    refine ax_goto (off := (-1525)) (tgt := 23) (by decide +kernel) (by decide) ?_
    cases h
    subst_vars
    exact ax_R.rf
  · rw [if_neg c11] at h
    refine ax_go [.iconst 0] (pc' := 1493) (L' := [some (.inr (67, 0)), some (.inr (11, 0)), some (.inr (12, 0)), some (.inr (63, 0)), some (.inl (.int a4)), none, none]) (st' := [.inl (.int (0 : Int32))]) (S' := S7) ok_L_law.1 (by decide +kernel) rfl rfl ?_
    cases h
set_option maxRecDepth 100000 in
theorem tb_case39 {l : Launch} {a4 : Int32} {S Z : AS} (h : fb_case39 a4 S = some (some Z)) : ax_R l 142 ma_L_law (1494, [some (.inr (67, 0)), some (.inr (11, 0)), some (.inr (12, 0)), some (.inr (63, 0)), some (.inl (.int a4)), none, none], [], S) (23, [some (.inr (67, 0)), some (.inr (11, 0)), some (.inr (12, 0)), some (.inr (63, 0)), some (.inl (.int (a4 + (6 : Int32)))), none, none], [], Z) := by
  unfold fb_case39 at h
  refine ax_go [.aload_n 1] (pc' := 1495) (L' := [some (.inr (67, 0)), some (.inr (11, 0)), some (.inr (12, 0)), some (.inr (63, 0)), some (.inl (.int a4)), none, none]) (st' := [.inr (11, 0)]) (S' := S) ok_L_law.1 (by decide +kernel) rfl rfl ?_
  obtain ⟨r4, S1, hq2, h⟩ := ax_bu_e h
  refine ax_cVi (d := 141) (ka := 11) (i := 0) [] [] lk_L_189 (by decide +kernel) rfl (by decide) rfl (Nat.le_of_ble_eq_true rfl) (Nat.le_of_ble_eq_true rfl) ((t_X11_image hq2).up (by decide)) ?_
  refine ax_go [.aload_n 2] (pc' := 1499) (L' := [some (.inr (67, 0)), some (.inr (11, 0)), some (.inr (12, 0)), some (.inr (63, 0)), some (.inl (.int a4)), none, none]) (st' := [.inr (12, 0), .inl (.int r4)]) (S' := S1) ok_L_law.1 (by decide +kernel) rfl rfl ?_
  obtain ⟨r8, S5, hq6, h⟩ := ax_bu_e h
  refine ax_cVi (d := 141) (ka := 12) (i := 0) [] [.inl (.int r4)] lk_L_192 (by decide +kernel) rfl (by decide) rfl (Nat.le_of_ble_eq_true rfl) (Nat.le_of_ble_eq_true rfl) ((t_X12_image hq6).up (by decide)) ?_
  refine ax_ic_eq (off := 43) (tgt := 1545) (by decide +kernel) (by decide) (fun c9 => ?_) (fun c9 => ?_)
  · rw [if_pos c9] at h
    refine ax_go [.iinc 4 6] (pc' := 1548) (L' := [some (.inr (67, 0)), some (.inr (11, 0)), some (.inr (12, 0)), some (.inr (63, 0)), some (.inl (.int (a4 + (6 : Int32)))), none, none]) (st' := []) (S' := S5) ok_L_law.1 (by decide +kernel) rfl rfl ?_
    obtain ⟨v10, ev10, h⟩ := ax_let_e h
    rw [ev10]
    refine ax_goto (off := (-1525)) (tgt := 23) (by decide +kernel) (by decide) ?_
    cases h
    subst_vars
    exact ax_R.rf
  · rw [if_neg c9] at h
    refine ax_go [.iconst 0] (pc' := 1506) (L' := [some (.inr (67, 0)), some (.inr (11, 0)), some (.inr (12, 0)), some (.inr (63, 0)), some (.inl (.int a4)), none, none]) (st' := [.inl (.int (0 : Int32))]) (S' := S5) ok_L_law.1 (by decide +kernel) rfl rfl ?_
    cases h
set_option maxRecDepth 100000 in
theorem tb_case40 {l : Launch} {a4 : Int32} {S Z : AS} (h : fb_case40 a4 S = some (some Z)) : ax_R l 142 ma_L_law (1507, [some (.inr (67, 0)), some (.inr (11, 0)), some (.inr (12, 0)), some (.inr (63, 0)), some (.inl (.int a4)), none, none], [], S) (23, [some (.inr (67, 0)), some (.inr (11, 0)), some (.inr (12, 0)), some (.inr (63, 0)), some (.inl (.int (a4 + (6 : Int32)))), none, none], [], Z) := by
  unfold fb_case40 at h
  refine ax_go [.aload_n 1] (pc' := 1508) (L' := [some (.inr (67, 0)), some (.inr (11, 0)), some (.inr (12, 0)), some (.inr (63, 0)), some (.inl (.int a4)), none, none]) (st' := [.inr (11, 0)]) (S' := S) ok_L_law.1 (by decide +kernel) rfl rfl ?_
  obtain ⟨r4, S1, hq2, h⟩ := ax_bu_e h
  refine ax_cVi (d := 141) (ka := 11) (i := 0) [] [] lk_L_193 (by decide +kernel) rfl (by decide) rfl (Nat.le_of_ble_eq_true rfl) (Nat.le_of_ble_eq_true rfl) ((t_X11_back hq2).up (by decide)) ?_
  refine ax_go [.aload_n 2] (pc' := 1512) (L' := [some (.inr (67, 0)), some (.inr (11, 0)), some (.inr (12, 0)), some (.inr (63, 0)), some (.inl (.int a4)), none, none]) (st' := [.inr (12, 0), .inl (.int r4)]) (S' := S1) ok_L_law.1 (by decide +kernel) rfl rfl ?_
  obtain ⟨r8, S5, hq6, h⟩ := ax_bu_e h
  refine ax_cVi (d := 141) (ka := 12) (i := 0) [] [.inl (.int r4)] lk_L_196 (by decide +kernel) rfl (by decide) rfl (Nat.le_of_ble_eq_true rfl) (Nat.le_of_ble_eq_true rfl) ((t_X12_back hq6).up (by decide)) ?_
  refine ax_ic_eq (off := 30) (tgt := 1545) (by decide +kernel) (by decide) (fun c9 => ?_) (fun c9 => ?_)
  · rw [if_pos c9] at h
    refine ax_go [.iinc 4 6] (pc' := 1548) (L' := [some (.inr (67, 0)), some (.inr (11, 0)), some (.inr (12, 0)), some (.inr (63, 0)), some (.inl (.int (a4 + (6 : Int32)))), none, none]) (st' := []) (S' := S5) ok_L_law.1 (by decide +kernel) rfl rfl ?_
    obtain ⟨v10, ev10, h⟩ := ax_let_e h
    rw [ev10]
    refine ax_goto (off := (-1525)) (tgt := 23) (by decide +kernel) (by decide) ?_
    cases h
    subst_vars
    exact ax_R.rf
  · rw [if_neg c9] at h
    refine ax_go [.iconst 0] (pc' := 1519) (L' := [some (.inr (67, 0)), some (.inr (11, 0)), some (.inr (12, 0)), some (.inr (63, 0)), some (.inl (.int a4)), none, none]) (st' := [.inl (.int (0 : Int32))]) (S' := S5) ok_L_law.1 (by decide +kernel) rfl rfl ?_
    cases h
set_option maxRecDepth 100000 in
theorem tb_case41 {l : Launch} {a4 : Int32} {S Z : AS} (h : fb_case41 a4 S = some (some Z)) : ax_R l 142 ma_L_law (1520, [some (.inr (67, 0)), some (.inr (11, 0)), some (.inr (12, 0)), some (.inr (63, 0)), some (.inl (.int a4)), none, none], [], S) (23, [some (.inr (67, 0)), some (.inr (11, 0)), some (.inr (12, 0)), some (.inr (63, 0)), some (.inl (.int (a4 + (6 : Int32)))), none, none], [], Z) := by
  unfold fb_case41 at h
  refine ax_go [.aload_n 1, .aload_n 0, .iload 4, .iconst 1, .iadd] (pc' := 1526) (L' := [some (.inr (67, 0)), some (.inr (11, 0)), some (.inr (12, 0)), some (.inr (63, 0)), some (.inl (.int a4)), none, none]) (st' := [.inl (.int (a4 + (1 : Int32))), .inr (67, 0), .inr (11, 0)]) (S' := S) ok_L_law.1 (by decide +kernel) rfl rfl ?_
  obtain ⟨g1, h⟩ := ax_gd_e h
  refine ax_Ralc (n := (ax_fx S 67 0 0)) ok_L_law.1 (by decide +kernel) (by decide) rfl g1 ?_
  obtain ⟨r5, hq3, h⟩ := ax_bd_e h
  refine ax_cVi (d := 141) (ka := 11) (i := 0) [.inl (.int (ax_rd S 67 0 (a4 + (1 : Int32)).toNatClampNeg))] [] lk_L_197 (by decide +kernel) rfl (by decide) rfl (Nat.le_of_ble_eq_true rfl) (Nat.le_of_ble_eq_true rfl) ((t_X11_count hq3).up (by decide)) ?_
  refine ax_go [.aload_n 2, .aload_n 0, .iload 4, .iconst 1, .iadd] (pc' := 1536) (L' := [some (.inr (67, 0)), some (.inr (11, 0)), some (.inr (12, 0)), some (.inr (63, 0)), some (.inl (.int a4)), none, none]) (st' := [.inl (.int (a4 + (1 : Int32))), .inr (67, 0), .inr (12, 0), .inl (.int r5)]) (S' := S) ok_L_law.1 (by decide +kernel) rfl rfl ?_
  obtain ⟨g6, h⟩ := ax_gd_e h
  refine ax_Ralc (n := (ax_fx S 67 0 0)) ok_L_law.1 (by decide +kernel) (by decide) rfl g6 ?_
  obtain ⟨r10, S7, hq8, h⟩ := ax_bu_e h
  refine ax_cVi (d := 141) (ka := 12) (i := 0) [.inl (.int (ax_rd S 67 0 (a4 + (1 : Int32)).toNatClampNeg))] [.inl (.int r5)] lk_L_200 (by decide +kernel) rfl (by decide) rfl (Nat.le_of_ble_eq_true rfl) (Nat.le_of_ble_eq_true rfl) ((t_X12_count hq8).up (by decide)) ?_
  refine ax_ic_eq (off := 5) (tgt := 1545) (by decide +kernel) (by decide) (fun c11 => ?_) (fun c11 => ?_)
  · rw [if_pos c11] at h
    refine ax_go [.iinc 4 6] (pc' := 1548) (L' := [some (.inr (67, 0)), some (.inr (11, 0)), some (.inr (12, 0)), some (.inr (63, 0)), some (.inl (.int (a4 + (6 : Int32)))), none, none]) (st' := []) (S' := S7) ok_L_law.1 (by decide +kernel) rfl rfl ?_
    obtain ⟨v12, ev12, h⟩ := ax_let_e h
    rw [ev12]
    refine ax_goto (off := (-1525)) (tgt := 23) (by decide +kernel) (by decide) ?_
    cases h
    subst_vars
    exact ax_R.rf
  · rw [if_neg c11] at h
    refine ax_go [.iconst 0] (pc' := 1544) (L' := [some (.inr (67, 0)), some (.inr (11, 0)), some (.inr (12, 0)), some (.inr (63, 0)), some (.inl (.int a4)), none, none]) (st' := [.inl (.int (0 : Int32))]) (S' := S7) ok_L_law.1 (by decide +kernel) rfl rfl ?_
    cases h
set_option maxRecDepth 100000 in
theorem tb_case99 {l : Launch} {a4 : Int32} {S Z : AS} (h : fb_case99 a4 S = some (some Z)) : ax_R l 142 ma_L_law (1545, [some (.inr (67, 0)), some (.inr (11, 0)), some (.inr (12, 0)), some (.inr (63, 0)), some (.inl (.int a4)), none, none], [], S) (23, [some (.inr (67, 0)), some (.inr (11, 0)), some (.inr (12, 0)), some (.inr (63, 0)), some (.inl (.int (a4 + (6 : Int32)))), none, none], [], Z) := by
  unfold fb_case99 at h
  refine ax_go [.iinc 4 6] (pc' := 1548) (L' := [some (.inr (67, 0)), some (.inr (11, 0)), some (.inr (12, 0)), some (.inr (63, 0)), some (.inl (.int (a4 + (6 : Int32)))), none, none]) (st' := []) (S' := S) ok_L_law.1 (by decide +kernel) rfl rfl ?_
  obtain ⟨v1, ev1, h⟩ := ax_let_e h
  rw [ev1]
  refine ax_goto (off := (-1525)) (tgt := 23) (by decide +kernel) (by decide) ?_
  cases h
  subst_vars
  exact ax_R.rf

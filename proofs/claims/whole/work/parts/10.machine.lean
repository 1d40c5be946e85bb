/-! THE ABSTRACT MACHINE: values, states, one instruction. A reference is a pair: kind and number. -/
abbrev AV : Type := Value ⊕ (Nat × Nat)
/-- int fields, long fields, references that are never null, references that may be null, rows of ints (bytes, booleans), rows of longs: by kind, number, place -/
abbrev AS : Type := (Nat → Nat → Nat → Int32) × (Nat → Nat → Nat → Int64) × (Nat → Nat → Nat → Nat) × (Nat → Nat → Nat → Option Nat) × (Nat → Nat → Nat → Int32) × (Nat → Nat → Nat → Int64)
abbrev AL : Type := List (Option AV)
abbrev AC : Type := Nat × AL × List AV × AS
/-- a class: its number, name, field links (pool index, class, slot), constants (pool index, value), statics (pool index, value) -/
abbrev AK : Type := Nat × String × List (Nat × Nat × Nat) × List (Nat × AV) × List (Nat × AV)
/-- a method: its class, name, code, locals, what it returns, how many parameters (the object apart), static -/
abbrev AM : Type := AK × MethodName × ByteArray × Nat × Option FieldType × Nat × Bool
def ax_fi (S : AS) : Nat → Nat → Nat → Int32 := S.1
def ax_fl (S : AS) : Nat → Nat → Nat → Int64 := S.2.1
def ax_fx (S : AS) : Nat → Nat → Nat → Nat := S.2.2.1
def ax_fo (S : AS) : Nat → Nat → Nat → Option Nat := S.2.2.2.1
def ax_ai (S : AS) : Nat → Nat → Nat → Int32 := S.2.2.2.2.1
def ax_al (S : AS) : Nat → Nat → Nat → Int64 := S.2.2.2.2.2
def ax_u3 {α : Type} (f : Nat → Nat → Nat → α) (k i j : Nat) (v : α) : Nat → Nat → Nat → α := fun a b c => if a = k ∧ b = i ∧ c = j then v else f a b c
def ax_sfi (S : AS) (k i j : Nat) (v : Int32) : AS := (ax_u3 S.1 k i j v, S.2)
def ax_sfl (S : AS) (k i j : Nat) (v : Int64) : AS := (S.1, ax_u3 S.2.1 k i j v, S.2.2)
def ax_sfx (S : AS) (k i j : Nat) (v : Nat) : AS := (S.1, S.2.1, ax_u3 S.2.2.1 k i j v, S.2.2.2)
def ax_sfo (S : AS) (k i j : Nat) (v : Option Nat) : AS := (S.1, S.2.1, S.2.2.1, ax_u3 S.2.2.2.1 k i j v, S.2.2.2.2)
def ax_sai (S : AS) (k i j : Nat) (v : Int32) : AS := (S.1, S.2.1, S.2.2.1, S.2.2.2.1, ax_u3 S.2.2.2.2.1 k i j v, S.2.2.2.2.2)
def ax_sal (S : AS) (k i j : Nat) (v : Int64) : AS := (S.1, S.2.1, S.2.2.1, S.2.2.2.1, S.2.2.2.2.1, ax_u3 S.2.2.2.2.2 k i j v)
/-- a stretch of a row copied out of another -/
def ax_cpy (S : AS) (k i : Nat) (f : Nat → Int32) (sp dp n : Nat) : AS := (S.1, S.2.1, S.2.2.1, S.2.2.2.1, (fun a b c => if a = k ∧ b = i then va_cpy f (S.2.2.2.2.1 k i) sp dp n c else S.2.2.2.2.1 a b c), S.2.2.2.2.2)
def ax_c2 (o : Option AV) : Bool := match o with
  | some (.inl (.long _)) => true
  | _ => false
def ax_st1 (L : AL) (i : Nat) (v : AV) : AL := L.mapIdx (fun j o => if j = i then some v else if j + 1 = i ∧ ax_c2 o = true then none else o)
def ax_st2 (L : AL) (i : Nat) (v : AV) : AL := L.mapIdx (fun j o => if j = i then some v else if j = i + 1 then none else if j + 1 = i ∧ ax_c2 o = true then none else o)
/-! kinds: (0, c, n): n objects of class c; (1, t, n): n rows of type t (0 int, 1 boolean, 2 byte, 3 long, 4 Afternoons, 5 Laws) of the world; (2, t, n): the same, nobody writes; (3, c, n): objects that nobody writes -/
def ax_kd (k : Nat) : Nat × Nat × Nat := ax_KD.getD k (9, 0, 0)
def ax_cn (k : Nat) : Nat := (ax_kd k).2.2
/-- fields of class c, by slot: (0, _, _) int; (6, _, _) boolean; (1, _, _) long; (2, k, _) the object of kind k and the same number; (3, k, n) that of number n; (4, k, _) never null, of kind k; (5, k, _) perhaps null; (7, _, _) the int 0 -/
def ax_fs (c sl : Nat) : Nat × Nat × Nat := (ax_FS.getD c []).getD sl (9, 0, 0)
def ax_nf (c : Nat) : Nat := (ax_FS.getD c []).length
def ax_fv (S : AS) (k i c sl : Nat) : AV := match ax_fs c sl with
  | (0, _, _) => .inl (.int (ax_fi S k i sl))
  | (6, _, _) => .inl (.int (ax_fi S k i sl))
  | (1, _, _) => .inl (.long (ax_fl S k i sl))
  | (2, q, _) => .inr (q, i)
  | (3, q, n) => .inr (q, n)
  | (4, q, _) => .inr (q, ax_fx S k i sl)
  | (7, _, _) => .inl (.int 0)
  | (_, q, _) => match ax_fo S k i sl with
    | none => .inl .null
    | some x => .inr (q, x)
/-- how long a row is -/
def ax_ln (S : AS) (k i : Nat) : Nat := match ax_LN.getD k [] with
  | [] => ax_fx S k i 0
  | [n] => n
  | ns => ns.getD i 0
/-- what a row of ints holds -/
def ax_rd (S : AS) (k i j : Nat) : Int32 := match ax_CT.getD k [] with
  | [] => ax_ai S k i j
  | rs => (rs.getD i []).getD j 0
def ax_in (j : Int32) (n : Nat) : Bool := !decide (j < 0) && decide (j.toNatClampNeg < n)
def ax_lk (xs : List (Nat × AV)) (n : Nat) : Option AV := match xs with
  | [] => none
  | (a, v) :: r => if a = n then some v else ax_lk r n
def ax_lf (xs : List (Nat × Nat × Nat)) (n : Nat) : Option (Nat × Nat) := match xs with
  | [] => none
  | (a, v) :: r => if a = n then some v else ax_lf r n
def ax_i1 (f : Int32 → Int32) (L : AL) (st : List AV) (S : AS) : Option (AL × List AV × AS) := match st with
  | .inl (.int x) :: r => some (L, .inl (.int (f x)) :: r, S)
  | _ => none
def ax_i2 (f : Int32 → Int32 → Int32) (L : AL) (st : List AV) (S : AS) : Option (AL × List AV × AS) := match st with
  | .inl (.int y) :: .inl (.int x) :: r => some (L, .inl (.int (f x y)) :: r, S)
  | _ => none
def ax_l2 (f : Int64 → Int64 → Int64) (L : AL) (st : List AV) (S : AS) : Option (AL × List AV × AS) := match st with
  | .inl (.long y) :: .inl (.long x) :: r => some (L, .inl (.long (f x y)) :: r, S)
  | _ => none
def ax_ls (f : Int64 → Int32 → Int64) (L : AL) (st : List AV) (S : AS) : Option (AL × List AV × AS) := match st with
  | .inl (.int y) :: .inl (.long x) :: r => some (L, .inl (.long (f x y)) :: r, S)
  | _ => none
def ax_psh (v : AV) (L : AL) (st : List AV) (S : AS) : Option (AL × List AV × AS) := some (L, v :: st, S)
def ax_ldi (n : Nat) (L : AL) (st : List AV) (S : AS) : Option (AL × List AV × AS) := match L.getD n none with
  | some (.inl (.int x)) => some (L, .inl (.int x) :: st, S)
  | _ => none
def ax_ldl (n : Nat) (L : AL) (st : List AV) (S : AS) : Option (AL × List AV × AS) := match L.getD n none with
  | some (.inl (.long x)) => some (L, .inl (.long x) :: st, S)
  | _ => none
def ax_lda (n : Nat) (L : AL) (st : List AV) (S : AS) : Option (AL × List AV × AS) := match L.getD n none with
  | some (.inr o) => some (L, .inr o :: st, S)
  | some (.inl .null) => some (L, .inl .null :: st, S)
  | _ => none
def ax_sti (n : Nat) (L : AL) (st : List AV) (S : AS) : Option (AL × List AV × AS) := match st with
  | .inl (.int x) :: r => if n < L.length then some (ax_st1 L n (.inl (.int x)), r, S) else none
  | _ => none
def ax_stl (n : Nat) (L : AL) (st : List AV) (S : AS) : Option (AL × List AV × AS) := match st with
  | .inl (.long x) :: r => if n + 1 < L.length then some (ax_st2 L n (.inl (.long x)), r, S) else none
  | _ => none
def ax_sta (n : Nat) (L : AL) (st : List AV) (S : AS) : Option (AL × List AV × AS) := match st with
  | .inr o :: r => if n < L.length then some (ax_st1 L n (.inr o), r, S) else none
  | _ => none
def ax_inc (n : Nat) (z : Int) (L : AL) (st : List AV) (S : AS) : Option (AL × List AV × AS) := match L.getD n none with
  | some (.inl (.int x)) => if n < L.length then some (ax_st1 L n (.inl (.int (x + Int32.ofInt z))), st, S) else none
  | _ => none
def ax_get (K : AK) (n : Nat) (L : AL) (st : List AV) (S : AS) : Option (AL × List AV × AS) := match ax_lf K.2.2.1 n, st with
  | some (c, sl), .inr (k, i) :: r => if (ax_kd k).1 = 0 ∧ (ax_kd k).2.1 = c ∧ sl < ax_nf c then some (L, ax_fv S k i c sl :: r, S) else if (ax_kd k).1 = 3 ∧ (ax_kd k).2.1 = c ∧ sl < ax_nf c then some (L, ax_fv S k i c sl :: r, S) else none
  | _, _ => none
def ax_put (K : AK) (n : Nat) (L : AL) (st : List AV) (S : AS) : Option (AL × List AV × AS) := match ax_lf K.2.2.1 n, st with
  | some (c, sl), v :: .inr (k, i) :: r => if (ax_kd k).1 = 0 ∧ (ax_kd k).2.1 = c ∧ sl < ax_nf c then match ax_fs c sl, v with
    | (0, _, _), .inl (.int x) => some (L, r, ax_sfi S k i sl x)
    | (6, _, _), .inl (.int x) => if x = 0 ∨ x = 1 then some (L, r, ax_sfi S k i sl x) else none
    | (1, _, _), .inl (.long x) => some (L, r, ax_sfl S k i sl x)
    | (4, q, _), .inr (q', x) => if q' = q then some (L, r, ax_sfx S k i sl x) else none
    | (5, _, _), .inl .null => some (L, r, ax_sfo S k i sl none)
    | (5, q, _), .inr (q', x) => if q' = q then some (L, r, ax_sfo S k i sl (some x)) else none
    | _, _ => none else none
  | _, _ => none
def ax_ali (L : AL) (st : List AV) (S : AS) : Option (AL × List AV × AS) := match st with
  | .inl (.int j) :: .inr (k, i) :: r => if ((ax_kd k).1 = 1 ∨ (ax_kd k).1 = 2) ∧ (ax_kd k).2.1 = 0 ∧ ax_in j (ax_ln S k i) = true then some (L, .inl (.int (ax_rd S k i j.toNatClampNeg)) :: r, S) else none
  | _ => none
def ax_alb (L : AL) (st : List AV) (S : AS) : Option (AL × List AV × AS) := match st with
  | .inl (.int j) :: .inr (k, i) :: r => if ((ax_kd k).1 = 1 ∨ (ax_kd k).1 = 2) ∧ ((ax_kd k).2.1 = 1 ∨ (ax_kd k).2.1 = 2) ∧ ax_in j (ax_ln S k i) = true then some (L, .inl (.int (ax_rd S k i j.toNatClampNeg)) :: r, S) else none
  | _ => none
def ax_all (L : AL) (st : List AV) (S : AS) : Option (AL × List AV × AS) := match st with
  | .inl (.int j) :: .inr (k, i) :: r => if (ax_kd k).1 = 1 ∧ (ax_kd k).2.1 = 3 ∧ ax_in j (ax_ln S k i) = true then some (L, .inl (.long (ax_al S k i j.toNatClampNeg)) :: r, S) else none
  | _ => none
def ax_ala (L : AL) (st : List AV) (S : AS) : Option (AL × List AV × AS) := match st with
  | .inl (.int j) :: .inr (k, i) :: r => if (ax_kd k).1 = 1 ∧ (ax_kd k).2.1 = 4 ∧ ax_in j (ax_ln S k i) = true then some (L, .inr (0, j.toNatClampNeg) :: r, S) else if (ax_kd k).1 = 1 ∧ (ax_kd k).2.1 = 5 ∧ ax_in j (ax_ln S k i) = true then some (L, .inr (5, j.toNatClampNeg) :: r, S) else none
  | _ => none
def ax_asi (L : AL) (st : List AV) (S : AS) : Option (AL × List AV × AS) := match st with
  | .inl (.int x) :: .inl (.int j) :: .inr (k, i) :: r => if (ax_kd k).1 = 1 ∧ (ax_kd k).2.1 = 0 ∧ ax_in j (ax_ln S k i) = true then some (L, r, ax_sai S k i j.toNatClampNeg x) else none
  | _ => none
def ax_asb (L : AL) (st : List AV) (S : AS) : Option (AL × List AV × AS) := match st with
  | .inl (.int x) :: .inl (.int j) :: .inr (k, i) :: r => if (ax_kd k).1 = 1 ∧ (ax_kd k).2.1 = 2 ∧ ax_in j (ax_ln S k i) = true then some (L, r, ax_sai S k i j.toNatClampNeg (vp_nar .byte x)) else if (ax_kd k).1 = 1 ∧ (ax_kd k).2.1 = 1 ∧ ax_in j (ax_ln S k i) = true then some (L, r, ax_sai S k i j.toNatClampNeg (vp_nar .boolean x)) else none
  | _ => none
def ax_asl (L : AL) (st : List AV) (S : AS) : Option (AL × List AV × AS) := match st with
  | .inl (.long x) :: .inl (.int j) :: .inr (k, i) :: r => if (ax_kd k).1 = 1 ∧ (ax_kd k).2.1 = 3 ∧ ax_in j (ax_ln S k i) = true then some (L, r, ax_sal S k i j.toNatClampNeg x) else none
  | _ => none
def ax_len (L : AL) (st : List AV) (S : AS) : Option (AL × List AV × AS) := match st with
  | .inr (k, i) :: r => if (ax_kd k).1 = 1 ∨ (ax_kd k).1 = 2 then some (L, .inl (.int (Int32.ofNat (ax_ln S k i))) :: r, S) else none
  | _ => none
def ax_dup (L : AL) (st : List AV) (S : AS) : Option (AL × List AV × AS) := match st with
  | .inl (.int x) :: r => some (L, .inl (.int x) :: .inl (.int x) :: r, S)
  | .inr o :: r => some (L, .inr o :: .inr o :: r, S)
  | _ => none
def ax_dup2 (L : AL) (st : List AV) (S : AS) : Option (AL × List AV × AS) := match st with
  | .inl (.long x) :: r => some (L, .inl (.long x) :: .inl (.long x) :: r, S)
  | .inl (.int x) :: .inl (.int y) :: r => some (L, .inl (.int x) :: .inl (.int y) :: .inl (.int x) :: .inl (.int y) :: r, S)
  | .inl (.int x) :: .inr o :: r => some (L, .inl (.int x) :: .inr o :: .inl (.int x) :: .inr o :: r, S)
  | _ => none
def ax_pop (L : AL) (st : List AV) (S : AS) : Option (AL × List AV × AS) := match st with
  | .inl (.int _) :: r => some (L, r, S)
  | .inr _ :: r => some (L, r, S)
  | _ => none
def ax_cst (xs : List (Nat × AV)) (n : Nat) (L : AL) (st : List AV) (S : AS) : Option (AL × List AV × AS) := match ax_lk xs n with
  | some v => some (L, v :: st, S)
  | none => none
def ax_cs1 (xs : List (Nat × AV)) (n : Nat) (L : AL) (st : List AV) (S : AS) : Option (AL × List AV × AS) := match ax_lk xs n with
  | some (.inl (.int x)) => some (L, .inl (.int x) :: st, S)
  | some (.inr o) => some (L, .inr o :: st, S)
  | _ => none
def ax_cs2 (xs : List (Nat × AV)) (n : Nat) (L : AL) (st : List AV) (S : AS) : Option (AL × List AV × AS) := match ax_lk xs n with
  | some (.inl (.long x)) => some (L, .inl (.long x) :: st, S)
  | _ => none
def ax_i2l (L : AL) (st : List AV) (S : AS) : Option (AL × List AV × AS) := match st with
  | .inl (.int x) :: r => some (L, .inl (.long x.toInt64) :: r, S)
  | _ => none
def ax_l2i (L : AL) (st : List AV) (S : AS) : Option (AL × List AV × AS) := match st with
  | .inl (.long x) :: r => some (L, .inl (.int x.toInt32) :: r, S)
  | _ => none
def ax_cmp (L : AL) (st : List AV) (S : AS) : Option (AL × List AV × AS) := match st with
  | .inl (.long y) :: .inl (.long x) :: r => some (L, .inl (.int (lg_cmp x y)) :: r, S)
  | _ => none
def ax_div (f : Int32 → Int32 → Int32) (L : AL) (st : List AV) (S : AS) : Option (AL × List AV × AS) := match st with
  | .inl (.int y) :: .inl (.int x) :: r => if y = 0 then none else some (L, .inl (.int (f x y)) :: r, S)
  | _ => none
def ax_ldv (f : Int64 → Int64 → Int64) (L : AL) (st : List AV) (S : AS) : Option (AL × List AV × AS) := match st with
  | .inl (.long y) :: .inl (.long x) :: r => if y = 0 then none else some (L, .inl (.long (f x y)) :: r, S)
  | _ => none
/-- one instruction that goes on behind itself -/
def ax_one (K : AK) (i : Instr) : AL → List AV → AS → Option (AL × List AV × AS) := match i with
  | .aconst_null => ax_psh (.inl .null)
  | .aload_n n => ax_lda n.val
  | .aload n => ax_lda n
  | .astore_n n => ax_sta n.val
  | .astore n => ax_sta n
  | .iload_n n => ax_ldi n.val
  | .iload n => ax_ldi n
  | .istore_n n => ax_sti n.val
  | .istore n => ax_sti n
  | .lload_n n => ax_ldl n.val
  | .lload n => ax_ldl n
  | .lstore_n n => ax_stl n.val
  | .lstore n => ax_stl n
  | .iinc n z => ax_inc n z
  | .iconst n => ax_psh (.inl (.int (Int32.ofInt n)))
  | .bipush n => ax_psh (.inl (.int (Int8.ofInt n).toInt32))
  | .sipush n => ax_psh (.inl (.int (Int16.ofInt n).toInt32))
  | .lconst n => ax_psh (.inl (.long (Int64.ofNat n.val)))
  | .ldc n => ax_cs1 K.2.2.2.1 n
  | .ldc_w n => ax_cs1 K.2.2.2.1 n
  | .ldc2_w n => ax_cs2 K.2.2.2.1 n
  | .getstatic n => ax_cst K.2.2.2.2 n
  | .getfield n => ax_get K n
  | .putfield n => ax_put K n
  | .iaload => ax_ali
  | .baload => ax_alb
  | .laload => ax_all
  | .aaload => ax_ala
  | .iastore => ax_asi
  | .bastore => ax_asb
  | .lastore => ax_asl
  | .arraylength => ax_len
  | .dup => ax_dup
  | .dup2 => ax_dup2
  | .pop => ax_pop
  | .iadd => ax_i2 (fun x y => x + y)
  | .isub => ax_i2 (fun x y => x - y)
  | .imul => ax_i2 (fun x y => x * y)
  | .iand => ax_i2 (fun x y => x &&& y)
  | .ior => ax_i2 (fun x y => x ||| y)
  | .ixor => ax_i2 (fun x y => x ^^^ y)
  | .ishl => ax_i2 (fun x y => x <<< (y &&& 31))
  | .ishr => ax_i2 (fun x y => x >>> (y &&& 31))
  | .iushr => ax_i2 (fun x y => (x.toUInt32 >>> (y.toUInt32 &&& Int32.toUInt32 31)).toInt32)
  | .idiv => ax_div (fun x y => x / y)
  | .irem => ax_div (fun x y => x - x / y * y)
  | .ineg => ax_i1 (fun x => -x)
  | .i2b => ax_i1 (fun x => x.toInt8.toInt32)
  | .i2c => ax_i1 (fun x => (x.toUInt32 % 65536).toInt32)
  | .i2l => ax_i2l
  | .l2i => ax_l2i
  | .ladd => ax_l2 (fun x y => x + y)
  | .lsub => ax_l2 (fun x y => x - y)
  | .lmul => ax_l2 (fun x y => x * y)
  | .land => ax_l2 (fun x y => x &&& y)
  | .lor => ax_l2 (fun x y => x ||| y)
  | .ldiv => ax_ldv (fun x y => x / y)
  | .lrem => ax_ldv (fun x y => x - x / y * y)
  | .lshl => ax_ls (fun x y => x <<< (y.toInt64 &&& 63))
  | .lushr => ax_ls (fun x y => (x.toUInt64 >>> (y.toInt64.toUInt64 &&& Int64.toUInt64 63)).toInt64)
  | .lcmp => ax_cmp
  | _ => fun _ _ _ => none
def ax_il (i : Instr) : Nat := match i with
  | .aload _ => 2
  | .astore _ => 2
  | .iload _ => 2
  | .istore _ => 2
  | .lload _ => 2
  | .lstore _ => 2
  | .iinc _ _ => 3
  | .bipush _ => 2
  | .sipush _ => 3
  | .ldc _ => 2
  | .ldc_w _ => 3
  | .ldc2_w _ => 3
  | .getstatic _ => 3
  | .getfield _ => 3
  | .putfield _ => 3
  | _ => 1
def ax_many (K : AK) : List Instr → AL → List AV → AS → Option (AL × List AV × AS)
  | [], L, st, S => some (L, st, S)
  | i :: is, L, st, S => match ax_one K i L st S with
    | some (L', st', S') => ax_many K is L' st' S'
    | none => none
def ax_pcs (pc : Nat) : List Instr → Nat
  | [] => pc
  | i :: is => ax_pcs (pc + ax_il i) is
/-- the code has these instructions from pc on -/
def ax_bk (cc : ByteArray) : Nat → List Instr → Bool
  | _, [] => true
  | pc, i :: is => decide (decode cc pc = .ok (i, ax_il i)) && ax_bk cc (pc + ax_il i) is

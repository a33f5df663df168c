/-! ===== THE SMALL MACHINE: methods, cells by place, values; what an instruction does, and runs of it. A reference .ref 0 is the script, .ref 1 the text of the words, .ref (k + 2) the cell k of the heap ===== -/
abbrev z_C : Type := (FieldType × Nat × ((Nat → Int32) ⊕ ((Nat → Int64) ⊕ (Nat → Option Nat)))) ⊕ (Nat × List Value)
abbrev z_H : Type := List z_C
abbrev z_L : Type := List (Option Value)
/-- it returns; it goes on; it calls (method, arguments, what is left on the stack) -/
abbrev z_A : Type := (Option Value × z_H) ⊕ ((Nat × z_L × List Value × z_H) ⊕ (Nat × List Value × List Value))
abbrev z_S : Type := Option (Nat × (Nat → Int32))
def z_txt : List Int32 := [111, 100, 100, 115, 32, 116, 111, 108, 108, 32, 119, 97, 114, 32, 108, 105, 101, 115, 32, 99, 104, 101, 115, 116, 32, 114, 105, 103, 104, 116, 32, 119, 111, 114, 116, 104, 32, 105, 110, 32, 100, 101, 98, 116, 32, 115, 117, 109, 32, 108, 101, 102, 116, 32, 97, 115, 107, 32, 99, 108, 97, 117, 115, 101, 32, 110, 111, 116, 32, 119, 105, 116, 110, 101, 115, 115, 32, 101, 97, 115, 116, 32, 119, 101, 115, 116, 32, 104, 101, 114, 101, 32, 97, 119, 97, 121, 32, 108, 97, 116, 101, 32, 109, 111, 110, 116, 104, 32, 99, 97, 114, 114, 121, 32, 115, 119, 101, 97, 114, 32, 112, 97, 121, 32, 97, 110, 121, 32, 119, 104, 101, 110, 32, 111, 119, 101, 115, 32, 108, 111, 111, 112, 32, 101, 110, 100, 32, 115, 116, 111, 112, 32]
def z_go (pc : Nat) (ls : z_L) (st : List Value) (h : z_H) : Option z_A := some (.inr (.inl (pc, ls, st, h)))
def z_tgt (pc : Nat) (off : Int) : Option Nat := if 0 ≤ (pc : Int) + off then some ((pc : Int) + off).toNat else none
def z_jmp (pc : Nat) (off : Int) (ls : z_L) (st : List Value) (h : z_H) : Option z_A := match z_tgt pc off with
  | some t => z_go t ls st h
  | none => none
def z_br (pc : Nat) (off : Int) (c : Prop) [Decidable c] (ls : z_L) (st : List Value) (h : z_H) : Option z_A := match z_tgt pc off with
  | some t => z_go (if c then t else pc + 3) ls st h
  | none => none
def z_un (ls : z_L) (i : Nat) : z_L := match i with
  | 0 => ls
  | j + 1 => match ls[j]? with
    | some (some w) => if w.category = 2 then ls.set j none else ls
    | _ => ls
def z_st1 (ls : z_L) (i : Nat) (v : Value) : z_L := (z_un ls i).set i (some v)
def z_st2 (ls : z_L) (i : Nat) (v : Value) : z_L := ((z_un ls i).set i (some v)).set (i + 1) none
def z_ldI (pc : Nat) (ls : z_L) (k : Nat) (st : List Value) (h : z_H) : Option z_A := match ls[k]? with
  | some (some (.int x)) => z_go pc ls (.int x :: st) h
  | _ => none
def z_ldL (pc : Nat) (ls : z_L) (k : Nat) (st : List Value) (h : z_H) : Option z_A := match ls[k]? with
  | some (some (.long x)) => z_go pc ls (.long x :: st) h
  | _ => none
def z_ldA (pc : Nat) (ls : z_L) (k : Nat) (st : List Value) (h : z_H) : Option z_A := match ls[k]? with
  | some (some (.ref x)) => z_go pc ls (.ref x :: st) h
  | _ => none
def z_stI (pc : Nat) (ls : z_L) (k : Nat) (st : List Value) (h : z_H) : Option z_A := match st with
  | .int x :: r => if k < ls.length then z_go pc (z_st1 ls k (.int x)) r h else none
  | _ => none
def z_stL (pc : Nat) (ls : z_L) (k : Nat) (st : List Value) (h : z_H) : Option z_A := match st with
  | .long x :: r => if k + 1 < ls.length then z_go pc (z_st2 ls k (.long x)) r h else none
  | _ => none
def z_stA (pc : Nat) (ls : z_L) (k : Nat) (st : List Value) (h : z_H) : Option z_A := match st with
  | .ref x :: r => if k < ls.length then z_go pc (z_st1 ls k (.ref x)) r h else none
  | _ => none
def z_bi (f : Int32 → Int32 → Int32) (pc : Nat) (ls : z_L) (st : List Value) (h : z_H) : Option z_A := match st with
  | .int y :: .int x :: r => z_go (pc + 1) ls (.int (f x y) :: r) h
  | _ => none
def z_bl (f : Int64 → Int64 → Int64) (pc : Nat) (ls : z_L) (st : List Value) (h : z_H) : Option z_A := match st with
  | .long y :: .long x :: r => z_go (pc + 1) ls (.long (f x y) :: r) h
  | _ => none
def z_bi0 (f : Int32 → Int32 → Int32) (pc : Nat) (ls : z_L) (st : List Value) (h : z_H) : Option z_A := match st with
  | .int y :: .int x :: r => if y = 0 then none else z_go (pc + 1) ls (.int (f x y) :: r) h
  | _ => none
def z_bl0 (f : Int64 → Int64 → Int64) (pc : Nat) (ls : z_L) (st : List Value) (h : z_H) : Option z_A := match st with
  | .long y :: .long x :: r => if y = 0 then none else z_go (pc + 1) ls (.long (f x y) :: r) h
  | _ => none
def z_c1 (c : ClassFile.Cond) (pc : Nat) (off : Int) (ls : z_L) (st : List Value) (h : z_H) : Option z_A := match st with
  | .int x :: r => match c with
    | .eq => z_br pc off (x = 0) ls r h
    | .ne => z_br pc off (¬ x = 0) ls r h
    | .lt => z_br pc off (x < 0) ls r h
    | .ge => z_br pc off (0 ≤ x) ls r h
    | .gt => z_br pc off (0 < x) ls r h
    | .le => z_br pc off (x ≤ 0) ls r h
  | _ => none
def z_c2 (c : ClassFile.Cond) (pc : Nat) (off : Int) (ls : z_L) (st : List Value) (h : z_H) : Option z_A := match st with
  | .int y :: .int x :: r => match c with
    | .eq => z_br pc off (x = y) ls r h
    | .ne => z_br pc off (¬ x = y) ls r h
    | .lt => z_br pc off (x < y) ls r h
    | .ge => z_br pc off (y ≤ x) ls r h
    | .gt => z_br pc off (y < x) ls r h
    | .le => z_br pc off (x ≤ y) ls r h
  | _ => none
def z_tsw (pc : Nat) (dflt lo hi : Int) (offs : Array Int) (ls : z_L) (st : List Value) (h : z_H) : Option z_A := match st with
  | .int x :: r => if x.toInt < lo ∨ hi < x.toInt then z_jmp pc dflt ls r h else match offs[(x.toInt - lo).toNat]? with
    | some off => z_jmp pc off ls r h
    | none => none
  | _ => none
def z_lsw (pc : Nat) (dflt : Int) (ps : Array (Int × Int)) (ls : z_L) (st : List Value) (h : z_H) : Option z_A := match st with
  | .int x :: r => if (ps.toList.zip (ps.toList.drop 1)).all (fun (a, next) => a.1 < next.1) = true then z_jmp pc (Op.lookupswitch.offset ps.toList dflt x.toInt) ls r h else none
  | _ => none
def z_fin (c k : Nat) : Bool := match z_cl[c]? with
  | some q => (q.2.1 k).2.2.2
  | none => true
def z_decl (c k : Nat) : String := match z_cl[c]? with
  | some q => (q.2.1 k).1
  | none => ""
def z_gf (o pc ix : Nat) (ls : z_L) (st : List Value) (h : z_H) : Option z_A := match st with
  | .ref (a + 2) :: r => match z_fl o ix with
    | some (ci, k, _) => match h[a]? with
      | some (.inr (cj, fs)) => if cj = ci then (match fs[k]? with
        | some v => z_go (pc + 3) ls (v :: r) h
        | none => none) else none
      | _ => none
    | none => none
  | _ => none
def z_pf (m : z_M) (pc ix : Nat) (ls : z_L) (st : List Value) (h : z_H) : Option z_A := match st with
  | v :: .ref (a + 2) :: r => match z_fl (z_o m) ix with
    | some (ci, k, _) => match h[a]? with
      | some (.inr (cj, fs)) => if cj = ci ∧ k < fs.length ∧ narrow (z_ty ci k) v = v ∧ fits (z_ty ci k) v = true ∧ (z_fin ci k = false ∨ ((z_y m).name = "<init>" ∧ z_decl ci k = z_R (z_o m))) then z_go (pc + 3) ls r (h.set a (.inr (ci, fs.set k v))) else none
      | _ => none
    | none => none
  | _ => none
def z_def (ty : FieldType) : Value := match ty with
  | .long => .long 0
  | .object _ => .null
  | .array _ => .null
  | .float => .float 0
  | .double => .double 0
  | _ => .int 0
def z_new (o pc ix : Nat) (ls : z_L) (st : List Value) (h : z_H) : Option z_A := match z_nw o ix with
  | some (ci, _) => match z_cl[ci]? with
    | some q => z_go (pc + 3) ls (.ref (h.length + 2) :: st) (h ++ [.inr (ci, (List.range q.2.2).map (fun k => z_def (z_ty ci k)))])
    | none => none
  | none => none
def z_na (t : ArrayType) (pc : Nat) (ls : z_L) (st : List Value) (h : z_H) : Option z_A := match st with
  | .int n :: r => if n < 0 ∨ 10000 < n.toNatClampNeg then none else match t with
    | .int => z_go (pc + 2) ls (.ref (h.length + 2) :: r) (h ++ [.inl (.int, n.toNatClampNeg, .inl (fun _ => 0))])
    | .byte => z_go (pc + 2) ls (.ref (h.length + 2) :: r) (h ++ [.inl (.byte, n.toNatClampNeg, .inl (fun _ => 0))])
    | .long => z_go (pc + 2) ls (.ref (h.length + 2) :: r) (h ++ [.inl (.long, n.toNatClampNeg, .inr (.inl (fun _ => 0)))])
    | _ => none
  | _ => none
def z_aw (o pc ix : Nat) (ls : z_L) (st : List Value) (h : z_H) : Option z_A := match st with
  | .int n :: r => if n < 0 ∨ 10000 < n.toNatClampNeg then none else match z_nw o ix with
    | some (3, _) => z_go (pc + 3) ls (.ref (h.length + 2) :: r) (h ++ [.inl (.object "DitchSaint$Parish", n.toNatClampNeg, .inr (.inr (fun _ => none)))])
    | _ => none
  | _ => none
def z_ia (X : z_S) (pc : Nat) (ls : z_L) (st : List Value) (h : z_H) : Option z_A := match st with
  | .int i :: .ref 0 :: r => match X with
    | some (L, xs) => if i < 0 ∨ L ≤ i.toNatClampNeg then none else z_go (pc + 1) ls (.int (xs i.toNatClampNeg) :: r) h
    | none => none
  | .int i :: .ref (a + 2) :: r => match h[a]? with
    | some (.inl (.int, n, .inl f)) => if i < 0 ∨ n ≤ i.toNatClampNeg then none else z_go (pc + 1) ls (.int (f i.toNatClampNeg) :: r) h
    | _ => none
  | _ => none
def z_ba (pc : Nat) (ls : z_L) (st : List Value) (h : z_H) : Option z_A := match st with
  | .int i :: .ref (a + 2) :: r => match h[a]? with
    | some (.inl (.byte, n, .inl f)) => if i < 0 ∨ n ≤ i.toNatClampNeg then none else z_go (pc + 1) ls (.int (f i.toNatClampNeg) :: r) h
    | _ => none
  | _ => none
def z_la (pc : Nat) (ls : z_L) (st : List Value) (h : z_H) : Option z_A := match st with
  | .int i :: .ref (a + 2) :: r => match h[a]? with
    | some (.inl (.long, n, .inr (.inl f))) => if i < 0 ∨ n ≤ i.toNatClampNeg then none else z_go (pc + 1) ls (.long (f i.toNatClampNeg) :: r) h
    | _ => none
  | _ => none
def z_aa (pc : Nat) (ls : z_L) (st : List Value) (h : z_H) : Option z_A := match st with
  | .int i :: .ref (a + 2) :: r => match h[a]? with
    | some (.inl (.object "DitchSaint$Parish", n, .inr (.inr f))) => if i < 0 ∨ n ≤ i.toNatClampNeg then none else match f i.toNatClampNeg with
      | some b => z_go (pc + 1) ls (.ref b :: r) h
      | none => none
    | _ => none
  | _ => none
def z_is (pc : Nat) (ls : z_L) (st : List Value) (h : z_H) : Option z_A := match st with
  | .int x :: .int i :: .ref (a + 2) :: r => match h[a]? with
    | some (.inl (.int, n, .inl f)) => if i < 0 ∨ n ≤ i.toNatClampNeg then none else z_go (pc + 1) ls r (h.set a (.inl (.int, n, .inl (upd f i.toNatClampNeg x))))
    | _ => none
  | _ => none
def z_bs (pc : Nat) (ls : z_L) (st : List Value) (h : z_H) : Option z_A := match st with
  | .int x :: .int i :: .ref (a + 2) :: r => match h[a]? with
    | some (.inl (.byte, n, .inl f)) => if i < 0 ∨ n ≤ i.toNatClampNeg then none else z_go (pc + 1) ls r (h.set a (.inl (.byte, n, .inl (upd f i.toNatClampNeg (vp_nar .byte x)))))
    | _ => none
  | _ => none
def z_ls (pc : Nat) (ls : z_L) (st : List Value) (h : z_H) : Option z_A := match st with
  | .long x :: .int i :: .ref (a + 2) :: r => match h[a]? with
    | some (.inl (.long, n, .inr (.inl f))) => if i < 0 ∨ n ≤ i.toNatClampNeg then none else z_go (pc + 1) ls r (h.set a (.inl (.long, n, .inr (.inl (vp_updL f i.toNatClampNeg x)))))
    | _ => none
  | _ => none
def z_as (pc : Nat) (ls : z_L) (st : List Value) (h : z_H) : Option z_A := match st with
  | .ref (b + 2) :: .int i :: .ref (a + 2) :: r => match h[a]? with
    | some (.inl (.object "DitchSaint$Parish", n, .inr (.inr f))) => match h[b]? with
      | some (.inr (3, _)) => if i < 0 ∨ n ≤ i.toNatClampNeg then none else z_go (pc + 1) ls r (h.set a (.inl (.object "DitchSaint$Parish", n, .inr (.inr (va_up f i.toNatClampNeg (some (b + 2)))))))
      | _ => none
    | _ => none
  | _ => none
def z_al (X : z_S) (pc : Nat) (ls : z_L) (st : List Value) (h : z_H) : Option z_A := match st with
  | .ref 0 :: r => match X with
    | some (L, _) => z_go (pc + 1) ls (.int (Int32.ofNat L) :: r) h
    | none => none
  | .ref (a + 2) :: r => match h[a]? with
    | some (.inl (.int, n, .inl _)) => z_go (pc + 1) ls (.int (Int32.ofNat n) :: r) h
    | _ => none
  | _ => none
def z_isC (h : z_H) (a c : Nat) : Bool := match h[a]? with
  | some (.inr (ci, _)) => ci == c
  | _ => false
def z_inv (kd : Nat → Bool) (o pc ix : Nat) (ls : z_L) (st : List Value) (h : z_H) : Option z_A := match z_lk o ix with
  | some (k, j, _) => if kd k = true ∧ z_n (z_ms j) ≤ st.length then
      (if k = 3 then
        (if ((st.drop (z_n (z_ms j))).map fun v => v.category).sum ≤ 8 ∧ (((st.take (z_n (z_ms j))).reverse).map fun v => v.category).sum ≤ z_x (z_ms j) then some (.inr (.inr (j, (st.take (z_n (z_ms j))).reverse, st.drop (z_n (z_ms j))))) else none)
      else match st.drop (z_n (z_ms j)) with
        | .ref (a + 2) :: r => if (r.map fun v => v.category).sum ≤ 8 ∧ ((Value.ref (a + 2) :: (st.take (z_n (z_ms j))).reverse).map fun v => v.category).sum ≤ z_x (z_ms j) ∧ (¬ k = 0 ∨ z_isC h a (z_o (z_ms j)) = true) then some (.inr (.inr (j, .ref (a + 2) :: (st.take (z_n (z_ms j))).reverse, r))) else none
        | _ => none)
    else none
  | none => none
def z_acp (pc : Nat) (ls : z_L) (st : List Value) (h : z_H) : Option z_A := match st with
  | .int n :: .int dp :: .ref (a + 2) :: .int sp :: .ref (b + 2) :: r => match h[b]?, h[a]? with
    | some (.inl (.long, n0, .inr (.inl f))), some (.inl (.long, n1, .inr (.inl g))) =>
      if ¬ sp < 0 ∧ ¬ dp < 0 ∧ ¬ n < 0 ∧ sp.toNatClampNeg + n.toNatClampNeg ≤ n0 ∧ dp.toNatClampNeg + n.toNatClampNeg ≤ n1 ∧ (r.map fun v => v.category).sum ≤ 8 then
        z_go (pc + 3) ls r (h.set a (.inl (.long, n1, .inr (.inl (va_cpy f g sp.toNatClampNeg dp.toNatClampNeg n.toNatClampNeg))))) else none
    | _, _ => none
  | _ => none
def z_blt (b pc : Nat) (ls : z_L) (st : List Value) (h : z_H) : Option z_A := match b with
  | 0 => match st with
    | .ref _ :: r => if (r.map fun v => v.category).sum ≤ 8 then z_go (pc + 3) ls r h else none
    | _ => none
  | 1 => z_acp pc ls st h
  | 2 => match st with
    | .ref 1 :: r => if (r.map fun v => v.category).sum ≤ 8 then z_go (pc + 3) ls (.int 152 :: r) h else none
    | _ => none
  | 3 => match st with
    | .int i :: .ref 1 :: r => if ¬ (i < 0 ∨ 152 ≤ i.toNatClampNeg) ∧ (r.map fun v => v.category).sum ≤ 8 then z_go (pc + 3) ls (.int (z_txt.getD i.toNatClampNeg 0) :: r) h else none
    | _ => none
  | 4 => match st with
    | .int y :: .int x :: r => if (r.map fun v => v.category).sum ≤ 8 then z_go (pc + 3) ls (.int (if x < y then y else x) :: r) h else none
    | _ => none
  | 5 => match st with
    | .int y :: .int x :: r => if (r.map fun v => v.category).sum ≤ 8 then z_go (pc + 3) ls (.int (if y < x then y else x) :: r) h else none
    | _ => none
  | 6 => match st with
    | .long x :: r => if (r.map fun v => v.category).sum ≤ 8 then z_go (pc + 3) ls (.long (if 0 < x then x else -x) :: r) h else none
    | _ => none
  | _ => none
/-- which of what the machine does itself an instruction reaches: special 0, virtual 2 and 3, static the rest -/
def z_ivk (kd bd : Nat → Bool) (o pc ix : Nat) (ls : z_L) (st : List Value) (h : z_H) : Option z_A := match z_bk o ix with
  | some (b, _) => if bd b = true then z_blt b pc ls st h else none
  | none => z_inv kd o pc ix ls st h
def z_ins (X : z_S) (m : z_M) (pc : Nat) (i : Instr) (ls : z_L) (st : List Value) (h : z_H) : Option z_A := match i with
  | .iconst n => z_go (pc + 1) ls (.int (Int32.ofInt n) :: st) h
  | .bipush n => z_go (pc + 2) ls (.int (Int8.ofInt n).toInt32 :: st) h
  | .sipush n => z_go (pc + 3) ls (.int (Int16.ofInt n).toInt32 :: st) h
  | .lconst n => z_go (pc + 1) ls (.long (Int64.ofNat n.val) :: st) h
  | .iload_n k => z_ldI (pc + 1) ls k.val st h
  | .iload k => z_ldI (pc + 2) ls k st h
  | .lload_n k => z_ldL (pc + 1) ls k.val st h
  | .lload k => z_ldL (pc + 2) ls k st h
  | .aload_n k => z_ldA (pc + 1) ls k.val st h
  | .aload k => z_ldA (pc + 2) ls k st h
  | .istore_n k => z_stI (pc + 1) ls k.val st h
  | .istore k => z_stI (pc + 2) ls k st h
  | .lstore_n k => z_stL (pc + 1) ls k.val st h
  | .lstore k => z_stL (pc + 2) ls k st h
  | .astore_n k => z_stA (pc + 1) ls k.val st h
  | .astore k => z_stA (pc + 2) ls k st h
  | .iinc k n => match ls[k]? with
    | some (some (.int x)) => z_go (pc + 3) (z_st1 ls k (.int (x + Int32.ofInt n))) st h
    | _ => none
  | .iadd => z_bi (fun x y => x + y) pc ls st h
  | .isub => z_bi (fun x y => x - y) pc ls st h
  | .imul => z_bi (fun x y => x * y) pc ls st h
  | .iand => z_bi (fun x y => x &&& y) pc ls st h
  | .ior => z_bi (fun x y => x ||| y) pc ls st h
  | .ixor => z_bi (fun x y => x ^^^ y) pc ls st h
  | .ishl => z_bi (fun x y => x <<< (y &&& 31)) pc ls st h
  | .ishr => z_bi (fun x y => x >>> (y &&& 31)) pc ls st h
  | .iushr => z_bi (fun x y => (x.toUInt32 >>> (y.toUInt32 &&& Int32.toUInt32 31)).toInt32) pc ls st h
  | .idiv => z_bi0 (fun x y => x / y) pc ls st h
  | .irem => z_bi0 (fun x y => x - x / y * y) pc ls st h
  | .ladd => z_bl (fun x y => x + y) pc ls st h
  | .lsub => z_bl (fun x y => x - y) pc ls st h
  | .lmul => z_bl (fun x y => x * y) pc ls st h
  | .land => z_bl (fun x y => x &&& y) pc ls st h
  | .lor => z_bl (fun x y => x ||| y) pc ls st h
  | .ldiv => z_bl0 (fun x y => x / y) pc ls st h
  | .lrem => z_bl0 (fun x y => x - x / y * y) pc ls st h
  | .lshl => match st with
    | .int y :: .long x :: r => z_go (pc + 1) ls (.long (x <<< (y.toInt64 &&& 63)) :: r) h
    | _ => none
  | .lcmp => match st with
    | .long y :: .long x :: r => z_go (pc + 1) ls (.int (lg_cmp x y) :: r) h
    | _ => none
  | .ineg => match st with
    | .int x :: r => z_go (pc + 1) ls (.int (-x) :: r) h
    | _ => none
  | .i2l => match st with
    | .int x :: r => z_go (pc + 1) ls (.long x.toInt64 :: r) h
    | _ => none
  | .l2i => match st with
    | .long x :: r => z_go (pc + 1) ls (.int x.toInt32 :: r) h
    | _ => none
  | .i2b => match st with
    | .int x :: r => z_go (pc + 1) ls (.int x.toInt8.toInt32 :: r) h
    | _ => none
  | .i2s => match st with
    | .int x :: r => z_go (pc + 1) ls (.int x.toInt16.toInt32 :: r) h
    | _ => none
  | .dup => match st with
    | v :: r => if v.category = 1 then z_go (pc + 1) ls (v :: v :: r) h else none
    | _ => none
  | .pop => match st with
    | v :: r => if v.category = 1 then z_go (pc + 1) ls r h else none
    | _ => none
  | .dup2 => match st with
    | v :: w :: r => if v.category = 1 ∧ w.category = 1 then z_go (pc + 1) ls (v :: w :: v :: w :: r) h else none
    | _ => none
  | .ifCond c off => z_c1 c pc off ls st h
  | .if_icmp c off => z_c2 c pc off ls st h
  | .goto off => z_jmp pc off ls st h
  | .tableswitch d lo hi offs => z_tsw pc d lo hi offs ls st h
  | .lookupswitch d ps => z_lsw pc d ps ls st h
  | .ldc ix => match z_kc (z_o m) ix with
    | some (v, _) => z_go (pc + 2) ls (.int v :: st) h
    | none => if z_o m = 7 ∧ ix = 62 then z_go (pc + 2) ls (.ref 1 :: st) h else none
  | .ldc_w ix => match z_kc (z_o m) ix with
    | some (v, _) => z_go (pc + 3) ls (.int v :: st) h
    | none => none
  | .ldc2_w ix => match z_kl (z_o m) ix with
    | some (v, _) => z_go (pc + 3) ls (.long v :: st) h
    | none => none
  | .getfield ix => z_gf (z_o m) pc ix ls st h
  | .putfield ix => z_pf m pc ix ls st h
  | .new ix => z_new (z_o m) pc ix ls st h
  | .newarray t => z_na t pc ls st h
  | .anewarray ix => z_aw (z_o m) pc ix ls st h
  | .iaload => z_ia X pc ls st h
  | .baload => z_ba pc ls st h
  | .laload => z_la pc ls st h
  | .aaload => z_aa pc ls st h
  | .iastore => z_is pc ls st h
  | .bastore => z_bs pc ls st h
  | .lastore => z_ls pc ls st h
  | .aastore => z_as pc ls st h
  | .arraylength => z_al X pc ls st h
  | .invokevirtual ix => z_ivk (fun k => k == 0) (fun b => b == 2 || b == 3) (z_o m) pc ix ls st h
  | .invokespecial ix => z_ivk (fun k => k == 1 || k == 2) (fun b => b == 0) (z_o m) pc ix ls st h
  | .invokestatic ix => z_ivk (fun k => k == 3) (fun b => b == 1 || b == 4 || b == 5 || b == 6) (z_o m) pc ix ls st h
  | .ireturn => match st with
    | [.int v] => match z_r m with
      | some ty => if narrow ty (.int v) = .int v then some (.inl (some (.int v), h)) else none
      | none => none
    | _ => none
  | .lreturn => match st with
    | [.long v] => if z_r m = some .long then some (.inl (some (.long v), h)) else none
    | _ => none
  | .return_ => match st with
    | [] => if z_r m = none then some (.inl (none, h)) else none
    | _ => none
  | _ => none
/-- how long an instruction is (a switch: any) -/
def z_len (i : Instr) (len : Nat) : Bool := match i with
  | .tableswitch .. => true
  | .lookupswitch .. => true
  | .bipush _ => len == 2
  | .iload _ => len == 2
  | .lload _ => len == 2
  | .aload _ => len == 2
  | .istore _ => len == 2
  | .lstore _ => len == 2
  | .astore _ => len == 2
  | .ldc _ => len == 2
  | .newarray _ => len == 2
  | .sipush _ => len == 3
  | .iinc .. => len == 3
  | .ifCond .. => len == 3
  | .if_icmp .. => len == 3
  | .goto _ => len == 3
  | .ldc_w _ => len == 3
  | .ldc2_w _ => len == 3
  | .getfield _ => len == 3
  | .putfield _ => len == 3
  | .new _ => len == 3
  | .anewarray _ => len == 3
  | .invokevirtual _ => len == 3
  | .invokespecial _ => len == 3
  | .invokestatic _ => len == 3
  | _ => len == 1
def z_step (X : z_S) (m : z_M) (pc : Nat) (ls : z_L) (st : List Value) (h : z_H) : Option z_A := match decode (z_b m) pc with
  | .ok (i, len) => if z_len i len = true then z_ins X m pc i ls st h else none
  | .error _ => none
/-- the locals with which a method begins -/
def z_ent (m : z_M) (as : List Value) : z_L :=
  let l : z_L := as.flatMap (fun v => if v.category = 2 then [some v, none] else [some v])
  l ++ List.replicate (z_x m - l.length) none
def z_ev : Nat → z_S → Nat → z_M → Nat → z_L → List Value → z_H → Option (Option Value × z_H)
  | 0, _, _, _, _, _, _, _ => none
  | n + 1, X, d, m, pc, ls, st, h => match z_step X m pc ls st h with
    | none => none
    | some (.inl r) => some r
    | some (.inr (.inl q)) => z_ev n X d m q.1 q.2.1 q.2.2.1 q.2.2.2
    | some (.inr (.inr q)) => match d with
      | 0 => none
      | d + 1 => match z_ev n none d (z_ms q.1) 0 (z_ent (z_ms q.1) q.2.1) [] h with
        | none => none
        | some (v, h1) => z_ev n X (d + 1) m (pc + 3) ls (v.toList ++ q.2.2) h1
theorem z_ev_mono : ∀ (n : Nat) (X : z_S) (d : Nat) (m : z_M) (pc : Nat) (ls : z_L) (st : List Value) (h : z_H) (r : Option Value × z_H), z_ev n X d m pc ls st h = some r → z_ev (n + 1) X d m pc ls st h = some r := by
  intro n
  induction n with
  | zero => intro X d m pc ls st h r hr; cases hr
  | succ n ih =>
    intro X d m pc ls st h r hr
    rw [z_ev] at hr ⊢
    cases hs : z_step X m pc ls st h with
    | none => rw [hs] at hr; cases hr
    | some a =>
      rw [hs] at hr
      rcases a with a | a | a
      · exact hr
      · exact ih _ _ _ _ _ _ _ _ hr
      · cases d with
        | zero => cases hr
        | succ d =>
          dsimp only at hr ⊢
          cases hc : z_ev n none d (z_ms a.1) 0 (z_ent (z_ms a.1) a.2.1) [] h with
          | none => rw [hc] at hr; cases hr
          | some q =>
            rw [hc] at hr
            rw [ih _ _ _ _ _ _ _ _ hc]
            exact ih _ _ _ _ _ _ _ _ hr
theorem z_ev_le {n k : Nat} (hk : n ≤ k) {X : z_S} {d : Nat} {m : z_M} {pc : Nat} {ls : z_L} {st : List Value} {h : z_H} {r : Option Value × z_H} (hr : z_ev n X d m pc ls st h = some r) : z_ev k X d m pc ls st h = some r := by
  induction hk with
  | refl => exact hr
  | step _ ih => exact z_ev_mono _ _ _ _ _ _ _ _ _ ih

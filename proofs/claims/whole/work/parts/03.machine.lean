/-! THE PURE MACHINE: memory as shapes and three tables; a step as data; runs by fuel; runs without fuel, and their unfolding -/
abbrev ur_M : Type := List (Nat ⊕ (Nat × Nat)) × (Nat → Nat → Int32) × (Nat → Nat → Int64) × (Nat → Nat → Option Nat)
abbrev ur_S : Type := Nat × List (Option Value) × List Value × ur_M
abbrev ur_V : Type := Int32 × ur_M
abbrev ur_A : Type := (List (Bool × ur_S) × ur_S) ⊕ (Option ur_V) ⊕ (Nat × List Value × ur_M × (Int32 → ur_M → ur_S)) ⊕ (Option Int32 × (Int32 → ur_S)) ⊕ (Option Int64 × (Int64 → ur_S)) ⊕ (Option Nat × (Nat → ur_S)) ⊕ (Option ur_M × (ur_M → ur_S))
abbrev ur_E : Type := Nat × Instr × Nat × Nat × Int32
-- rows of tables
def ur_u {α : Type} (f : Nat → Nat → α) (a k : Nat) (v : α) : Nat → Nat → α := fun b j => if b = a then (if j = k then v else f a j) else f b j
def ur_row {α : Type} (f : Nat → Nat → α) (a : Nat) (g : Nat → α) : Nat → Nat → α := fun b => if b = a then g else f b
def ur_inb (i : Int32) (n : Nat) : Bool := !(decide (i < 0) || decide (n ≤ i.toNatClampNeg))
def ur_isO (m : ur_M) (a ci : Nat) : Bool := match m.1[a]? with
  | some (.inl c) => c == ci
  | _ => false
def ur_isA (m : ur_M) (a t : Nat) : Option Nat := match m.1[a]? with
  | some (.inr (t', n)) => bif t' == t then some n else none
  | _ => none
-- old cells: strings and their bytes
def ur_txt : List (List Nat) := [[114, 111, 111, 109, 32, 117, 110, 115, 97, 105, 100, 32, 104, 111, 108, 100, 115, 32, 100, 111, 111, 114, 32, 112, 101, 114, 115, 111, 110, 32, 97, 103, 101, 32, 105, 110, 32, 115, 116, 97, 121, 115, 32, 119, 97, 108, 107, 32, 115, 104, 111, 119, 32, 115, 112, 101, 97, 107, 32, 98, 117, 114, 110, 32, 109, 105, 110, 117, 116, 101, 32, 103, 117, 101, 115, 116, 32, 119, 105, 102, 101, 32, 99, 104, 105, 108, 100, 32, 116, 97, 120, 109, 97, 110, 32, 110, 111, 116, 32, 97, 110, 100, 32, 111, 114, 32], [40, 41, 60, 61, 43, 45, 42, 59], [109, 117, 99, 104, 32, 116, 105, 109, 101, 115, 32, 121, 101, 97, 114, 115, 32, 110, 111, 100, 115, 32]]
def ur_base : Nat := 2000
/-- a reference that isn't null, to a cell that isn't old -/
def ur_lo (o : Option Nat) : Option Nat := match o with
  | some b => bif decide (b < ur_base) then some b else none
  | none => none
-- reads of fields
def ur_fI (m : ur_M) (a ci k : Nat) : Option Int32 := bif ci == 20 then (bif decide (ur_base ≤ a ∧ a < ur_base + 3) then some 0 else none) else bif ur_isO m a ci then some (m.2.1 a k) else none
def ur_fL (m : ur_M) (a ci k : Nat) : Option Int64 := bif ur_isO m a ci then some (m.2.2.1 a k) else none
def ur_fR (m : ur_M) (a ci k : Nat) : Option Nat := bif ci == 20 then (bif decide (ur_base ≤ a ∧ a < ur_base + 3) then some (a + 10) else none) else bif ur_isO m a ci then ur_lo (m.2.2.2 a k) else none
-- writes of fields
def ur_pI (m : ur_M) (a ci k : Nat) (v : Int32) : Option ur_M := bif ur_isO m a ci then some (m.1, ur_u m.2.1 a k v, m.2.2) else none
def ur_pZ (m : ur_M) (a ci k : Nat) (v : Int32) : Option ur_M := bif v == 0 || v == 1 then ur_pI m a ci k v else none
def ur_pL (m : ur_M) (a ci k : Nat) (v : Int64) : Option ur_M := bif ur_isO m a ci then some (m.1, m.2.1, ur_u m.2.2.1 a k v, m.2.2.2) else none
def ur_pR (m : ur_M) (a ci k : Nat) (v : Nat) : Option ur_M := bif ur_isO m a ci && decide (v < ur_base) then some (m.1, m.2.1, m.2.2.1, ur_u m.2.2.2 a k (some v)) else none
-- arrays: 0 int, 1 long, 2 boolean, 3 char, 4 and 5 of references
def ur_len (m : ur_M) (a : Nat) : Option Int32 := match m.1[a]? with
  | some (.inr (t, n)) => bif Nat.blt t 6 then some (Int32.ofNat n) else none
  | some (.inl _) => none
  | none => match ur_txt[a - (ur_base + 10)]? with
    | some t => bif decide (ur_base + 10 ≤ a) then some (Int32.ofNat t.length) else none
    | none => none
def ur_aI (m : ur_M) (a t : Nat) (i : Int32) : Option Int32 := match ur_isA m a t with
  | some n => bif ur_inb i n then some (m.2.1 a i.toNatClampNeg) else none
  | none => none
def ur_aB (m : ur_M) (a : Nat) (i : Int32) : Option Int32 := bif decide (a < ur_base) then ur_aI m a 2 i else match ur_txt[a - (ur_base + 10)]? with
  | some t => bif decide (ur_base + 10 ≤ a) && ur_inb i t.length then some (nI (t.getD i.toNatClampNeg 0)) else none
  | none => none
def ur_aL (m : ur_M) (a : Nat) (i : Int32) : Option Int64 := match ur_isA m a 1 with
  | some n => bif ur_inb i n then some (m.2.2.1 a i.toNatClampNeg) else none
  | none => none
def ur_aR (m : ur_M) (a : Nat) (i : Int32) : Option Nat := match m.1[a]? with
  | some (.inr (t, n)) => bif (t == 4 || t == 5) && ur_inb i n then ur_lo (m.2.2.2 a i.toNatClampNeg) else none
  | _ => none
def ur_wI (m : ur_M) (a t : Nat) (i v : Int32) : Option ur_M := match ur_isA m a t with
  | some n => bif ur_inb i n then some (m.1, ur_u m.2.1 a i.toNatClampNeg v, m.2.2) else none
  | none => none
def ur_wL (m : ur_M) (a : Nat) (i : Int32) (v : Int64) : Option ur_M := match ur_isA m a 1 with
  | some n => bif ur_inb i n then some (m.1, m.2.1, ur_u m.2.2.1 a i.toNatClampNeg v, m.2.2.2) else none
  | none => none
def ur_wR (m : ur_M) (a : Nat) (i : Int32) (v : Nat) : Option ur_M := match m.1[a]? with
  | some (.inr (t, n)) => bif ((t == 4 && ur_isO m v 5) || (t == 5 && ur_isO m v 4)) && ur_inb i n then some (m.1, m.2.1, m.2.2.1, ur_u m.2.2.2 a i.toNatClampNeg (some v)) else none
  | _ => none
/-- System.arraycopy of ints -/
def ur_cpy (m : ur_M) (a : Nat) (i : Int32) (b : Nat) (j n : Int32) : Option ur_M := match ur_isA m a 0, ur_isA m b 0 with
  | some p, some q => bif (decide (0 ≤ i) && decide (0 ≤ j)) && (decide (0 ≤ n) && (decide (i.toNatClampNeg + n.toNatClampNeg ≤ p) && decide (j.toNatClampNeg + n.toNatClampNeg ≤ q))) then some (m.1, ur_row m.2.1 b (va_cpy (m.2.1 a) (m.2.1 b) i.toNatClampNeg j.toNatClampNeg n.toNatClampNeg), m.2.2) else none
  | _, _ => none
-- new cells
def ur_nO (m : ur_M) (ci : Nat) : Option ur_M := bif Nat.blt m.1.length 1000 then some (m.1 ++ [.inl ci], ur_row m.2.1 m.1.length (fun _ => 0), ur_row m.2.2.1 m.1.length (fun _ => 0), ur_row m.2.2.2 m.1.length (fun _ => none)) else none
def ur_nA (m : ur_M) (t : Nat) (n : Int32) : Option ur_M := bif Nat.blt m.1.length 1000 && (decide (0 ≤ n) && decide (n ≤ 65536)) then some (m.1 ++ [.inr (t, n.toNatClampNeg)], ur_row m.2.1 m.1.length (fun _ => 0), ur_row m.2.2.1 m.1.length (fun _ => 0), ur_row m.2.2.2 m.1.length (fun _ => none)) else none
-- locals
def ur_ld (ls : List (Option Value)) (j : Nat) : Option Value := match ls[j]? with
  | some o => o
  | none => none
def ur_clr (ls : List (Option Value)) (j : Nat) : List (Option Value) := match j with
  | 0 => ls
  | i + 1 => match ls[i]? with
    | some (some v) => bif v.category == 2 then ls.set i none else ls
    | _ => ls
def ur_st1 (ls : List (Option Value)) (j : Nat) (v : Value) : List (Option Value) := (ur_clr ls j).set j (some v)
def ur_st2 (ls : List (Option Value)) (j : Nat) (v : Value) : List (Option Value) := ((ur_clr ls j).set j (some v)).set (j + 1) none
def ur_slots : List Value → List (Option Value)
  | [] => []
  | v :: r => bif v.category == 2 then some v :: none :: ur_slots r else some v :: ur_slots r
def ur_pad (n : Nat) (l : List (Option Value)) : List (Option Value) := l ++ List.replicate (n - l.length) none
-- acts
abbrev ur_nx (pc : Nat) (ls : List (Option Value)) (st : List Value) (m : ur_M) : Option ur_A := some (.inl ([], (pc, ls, st, m)))
abbrev ur_br (c : Bool) (s1 s2 : ur_S) : Option ur_A := some (.inl ([(c, s1)], s2))
abbrev ur_rI (o : Option Int32) (f : Int32 → ur_S) : Option ur_A := some (.inr (.inr (.inr (.inl (o, f)))))
abbrev ur_rL (o : Option Int64) (f : Int64 → ur_S) : Option ur_A := some (.inr (.inr (.inr (.inr (.inl (o, f))))))
abbrev ur_rR (o : Option Nat) (f : Nat → ur_S) : Option ur_A := some (.inr (.inr (.inr (.inr (.inr (.inl (o, f)))))))
abbrev ur_rM (o : Option ur_M) (f : ur_M → ur_S) : Option ur_A := some (.inr (.inr (.inr (.inr (.inr (.inr (o, f)))))))
def ur_bi (f : Int32 → Int32 → Int32) (pc : Nat) (ls : List (Option Value)) (st : List Value) (m : ur_M) : Option ur_A := match st with
  | .int b :: .int a :: r => ur_nx (pc + 1) ls (.int (f a b) :: r) m
  | _ => none
def ur_bl (f : Int64 → Int64 → Int64) (pc : Nat) (ls : List (Option Value)) (st : List Value) (m : ur_M) : Option ur_A := match st with
  | .long b :: .long a :: r => ur_nx (pc + 1) ls (.long (f a b) :: r) m
  | _ => none
def ur_i1 (f : Int32 → Value) (pc : Nat) (ls : List (Option Value)) (st : List Value) (m : ur_M) : Option ur_A := match st with
  | .int a :: r => ur_nx (pc + 1) ls (f a :: r) m
  | _ => none
def ur_ldi (j n pc : Nat) (ls : List (Option Value)) (st : List Value) (m : ur_M) : Option ur_A := match ur_ld ls j with
  | some (.int v) => ur_nx (pc + n) ls (.int v :: st) m
  | _ => none
def ur_ldl (j n pc : Nat) (ls : List (Option Value)) (st : List Value) (m : ur_M) : Option ur_A := match ur_ld ls j with
  | some (.long v) => ur_nx (pc + n) ls (.long v :: st) m
  | _ => none
def ur_lda (j n pc : Nat) (ls : List (Option Value)) (st : List Value) (m : ur_M) : Option ur_A := match ur_ld ls j with
  | some (.ref v) => ur_nx (pc + n) ls (.ref v :: st) m
  | _ => none
def ur_sti (j n pc : Nat) (ls : List (Option Value)) (st : List Value) (m : ur_M) : Option ur_A := match st with
  | .int v :: r => bif Nat.blt j ls.length then ur_nx (pc + n) (ur_st1 ls j (.int v)) r m else none
  | _ => none
def ur_sta (j n pc : Nat) (ls : List (Option Value)) (st : List Value) (m : ur_M) : Option ur_A := match st with
  | .ref v :: r => bif Nat.blt j ls.length then ur_nx (pc + n) (ur_st1 ls j (.ref v)) r m else none
  | _ => none
def ur_stl (j n pc : Nat) (ls : List (Option Value)) (st : List Value) (m : ur_M) : Option ur_A := match st with
  | .long v :: r => bif Nat.blt (j + 1) ls.length then ur_nx (pc + n) (ur_st2 ls j (.long v)) r m else none
  | _ => none
def ur_cnd (c : ClassFile.Cond) (a b : Int32) : Bool := match c with
  | .eq => decide (a = b)
  | .ne => decide (a ≠ b)
  | .lt => decide (a < b)
  | .ge => decide (b ≤ a)
  | .gt => decide (b < a)
  | .le => decide (a ≤ b)
def ur_if1 (c : ClassFile.Cond) (x pc : Nat) (ls : List (Option Value)) (st : List Value) (m : ur_M) : Option ur_A := match st with
  | .int a :: r => ur_br (ur_cnd c a 0) (x, ls, r, m) (pc + 3, ls, r, m)
  | _ => none
def ur_if2 (c : ClassFile.Cond) (x pc : Nat) (ls : List (Option Value)) (st : List Value) (m : ur_M) : Option ur_A := match st with
  | .int b :: .int a :: r => ur_br (ur_cnd c a b) (x, ls, r, m) (pc + 3, ls, r, m)
  | _ => none
def ur_getf (x pc : Nat) (ls : List (Option Value)) (st : List Value) (m : ur_M) : Option ur_A := match st with
  | .ref a :: r => match x % 4 with
    | 2 => ur_rL (ur_fL m a (x / 256) (x / 4 % 64)) (fun v => (pc + 3, ls, .long v :: r, m))
    | 3 => ur_rR (ur_fR m a (x / 256) (x / 4 % 64)) (fun v => (pc + 3, ls, .ref v :: r, m))
    | _ => ur_rI (ur_fI m a (x / 256) (x / 4 % 64)) (fun v => (pc + 3, ls, .int v :: r, m))
  | _ => none
def ur_putf (x pc : Nat) (ls : List (Option Value)) (st : List Value) (m : ur_M) : Option ur_A := match x % 4 with
  | 0 => match st with
    | .int v :: .ref a :: r => ur_rM (ur_pI m a (x / 256) (x / 4 % 64) v) (fun m => (pc + 3, ls, r, m))
    | _ => none
  | 1 => match st with
    | .int v :: .ref a :: r => ur_rM (ur_pZ m a (x / 256) (x / 4 % 64) v) (fun m => (pc + 3, ls, r, m))
    | _ => none
  | 2 => match st with
    | .long v :: .ref a :: r => ur_rM (ur_pL m a (x / 256) (x / 4 % 64) v) (fun m => (pc + 3, ls, r, m))
    | _ => none
  | _ => match st with
    | .ref v :: .ref a :: r => ur_rM (ur_pR m a (x / 256) (x / 4 % 64) v) (fun m => (pc + 3, ls, r, m))
    | _ => none
def ur_ald (f : ur_M → Nat → Int32 → Option Int32) (pc : Nat) (ls : List (Option Value)) (st : List Value) (m : ur_M) : Option ur_A := match st with
  | .int i :: .ref a :: r => ur_rI (f m a i) (fun v => (pc + 1, ls, .int v :: r, m))
  | _ => none
def ur_ast (f : ur_M → Nat → Int32 → Int32 → Option ur_M) (pc : Nat) (ls : List (Option Value)) (st : List Value) (m : ur_M) : Option ur_A := match st with
  | .int v :: .int i :: .ref a :: r => ur_rM (f m a i v) (fun m => (pc + 1, ls, r, m))
  | _ => none
def ur_cs : List Value → Nat
  | [] => 0
  | v :: r => v.category + ur_cs r
/-- what a method may answer: 0 an int, 1 a boolean, 2 a char, 3 a byte -/
def ur_fit (z : Nat) (a : Int32) : Bool := match z with
  | 0 => true
  | 1 => a == 0 || a == 1
  | 2 => decide (vp_nar .char a = a)
  | _ => decide (vp_nar .byte a = a)
def ur_mx (a b : Int32) : Int32 := if a < b then b else a
def ur_mn (a b : Int32) : Int32 := if b < a then b else a
/-- calls of the library that are one step here: arraycopy, Object.<init>, Math.max, Math.min -/
def ur_lib0 (pc : Nat) (ls : List (Option Value)) (st : List Value) (m : ur_M) : Option ur_A := match st with
  | .int n :: .int j :: .ref b :: .int i :: .ref a :: r => bif Nat.ble (ur_cs r) 8 then ur_rM (ur_cpy m a i b j n) (fun m => (pc + 3, ls, r, m)) else none
  | _ => none
def ur_lib1 (pc : Nat) (ls : List (Option Value)) (st : List Value) (m : ur_M) : Option ur_A := match st with
  | .ref a :: r => bif Nat.ble (ur_cs r) 8 && decide (a < ur_base) then ur_nx (pc + 3) ls r m else none
  | _ => none
def ur_lib2 (f : Int32 → Int32 → Int32) (pc : Nat) (ls : List (Option Value)) (st : List Value) (m : ur_M) : Option ur_A := match st with
  | .int b :: .int a :: r => bif Nat.ble (ur_cs r) 8 then ur_nx (pc + 3) ls (.int (f a b) :: r) m else none
  | _ => none
def ur_lib (x pc : Nat) (ls : List (Option Value)) (st : List Value) (m : ur_M) : Option ur_A := bif Nat.beq x 9000 then ur_lib0 pc ls st m else bif Nat.beq x 9001 then ur_lib1 pc ls st m else bif Nat.beq x 9002 then ur_lib2 ur_mx pc ls st m else bif Nat.beq x 9003 then ur_lib2 ur_mn pc ls st m else none
/-- a call: x is the method's number, the number of its arguments and whether it answers; 9000 and on: the library's -/
def ur_inv (x pc : Nat) (ls : List (Option Value)) (st : List Value) (m : ur_M) : Option ur_A := bif Nat.blt x 9000 then (bif Nat.ble (x / 2 % 16) st.length && Nat.ble (ur_cs (st.drop (x / 2 % 16))) 8 then some (.inr (.inr (.inl (x / 32, (st.take (x / 2 % 16)).reverse, m, fun v m => (pc + 3, ls, bif x % 2 == 0 then st.drop (x / 2 % 16) else .int v :: st.drop (x / 2 % 16), m))))) else none) else ur_lib x pc ls st m
def ur_atc (a : ArrayType) : Option Nat := match a with
  | .int => some 0
  | .long => some 1
  | .boolean => some 2
  | .char => some 3
  | _ => none
/-- one instruction: i of length n at pc, x its operand as the tables resolve it, v its constant, sw the targets of a switch, z what the method may answer -/
def ur_one (z : Nat) (sw : List (Int32 × Nat) × Nat) (i : Instr) (n x : Nat) (v : Int32) (pc : Nat) (ls : List (Option Value)) (st : List Value) (m : ur_M) : Option ur_A := match i with
  | .iconst _ => ur_nx (pc + n) ls (.int v :: st) m
  | .bipush _ => ur_nx (pc + n) ls (.int v :: st) m
  | .sipush _ => ur_nx (pc + n) ls (.int v :: st) m
  | .ldc _ => bif x == 0 then ur_nx (pc + n) ls (.int v :: st) m else ur_nx (pc + n) ls (.ref x :: st) m
  | .ldc_w _ => ur_nx (pc + n) ls (.int v :: st) m
  | .ldc2_w _ => ur_nx (pc + n) ls (.long (Int64.ofNat x) :: st) m
  | .lconst _ => ur_nx (pc + n) ls (.long (Int64.ofNat x) :: st) m
  | .getstatic _ => bif x == 0 then ur_nx (pc + n) ls (.int v :: st) m else ur_nx (pc + n) ls (.ref x :: st) m
  | .iload_n j => ur_ldi j n pc ls st m
  | .iload j => ur_ldi j n pc ls st m
  | .lload_n j => ur_ldl j n pc ls st m
  | .lload j => ur_ldl j n pc ls st m
  | .aload_n j => ur_lda j n pc ls st m
  | .aload j => ur_lda j n pc ls st m
  | .istore_n j => ur_sti j n pc ls st m
  | .istore j => ur_sti j n pc ls st m
  | .lstore_n j => ur_stl j n pc ls st m
  | .lstore j => ur_stl j n pc ls st m
  | .astore_n j => ur_sta j n pc ls st m
  | .astore j => ur_sta j n pc ls st m
  | .iinc j _ => match ur_ld ls j with
    | some (.int a) => bif Nat.blt j ls.length then ur_nx (pc + n) (ur_st1 ls j (.int (a + v))) st m else none
    | _ => none
  | .iadd => ur_bi (fun a b => a + b) pc ls st m
  | .isub => ur_bi (fun a b => a - b) pc ls st m
  | .imul => ur_bi (fun a b => a * b) pc ls st m
  | .iand => ur_bi (fun a b => a &&& b) pc ls st m
  | .ior => ur_bi (fun a b => a ||| b) pc ls st m
  | .ixor => ur_bi (fun a b => a ^^^ b) pc ls st m
  | .ishl => ur_bi (fun a b => a <<< (b &&& 31)) pc ls st m
  | .ishr => ur_bi (fun a b => a >>> (b &&& 31)) pc ls st m
  | .iushr => ur_bi (fun a b => (a.toUInt32 >>> (b.toUInt32 &&& Int32.toUInt32 31)).toInt32) pc ls st m
  | .idiv => match st with
    | .int b :: .int a :: r => ur_rI (bif b == 0 then none else some (a / b)) (fun v => (pc + 1, ls, .int v :: r, m))
    | _ => none
  | .irem => match st with
    | .int b :: .int a :: r => ur_rI (bif b == 0 then none else some (a - a / b * b)) (fun v => (pc + 1, ls, .int v :: r, m))
    | _ => none
  | .ineg => ur_i1 (fun a => .int (-a)) pc ls st m
  | .i2l => ur_i1 (fun a => .long a.toInt64) pc ls st m
  | .i2b => ur_i1 (fun a => .int a.toInt8.toInt32) pc ls st m
  | .i2c => ur_i1 (fun a => .int (a.toUInt32 % 65536).toInt32) pc ls st m
  | .l2i => match st with
    | .long a :: r => ur_nx (pc + 1) ls (.int a.toInt32 :: r) m
    | _ => none
  | .ladd => ur_bl (fun a b => a + b) pc ls st m
  | .lsub => ur_bl (fun a b => a - b) pc ls st m
  | .lmul => ur_bl (fun a b => a * b) pc ls st m
  | .land => ur_bl (fun a b => a &&& b) pc ls st m
  | .lor => ur_bl (fun a b => a ||| b) pc ls st m
  | .ldiv => match st with
    | .long b :: .long a :: r => ur_rL (bif b == 0 then none else some (a / b)) (fun v => (pc + 1, ls, .long v :: r, m))
    | _ => none
  | .lrem => match st with
    | .long b :: .long a :: r => ur_rL (bif b == 0 then none else some (a - a / b * b)) (fun v => (pc + 1, ls, .long v :: r, m))
    | _ => none
  | .lushr => match st with
    | .int b :: .long a :: r => ur_nx (pc + 1) ls (.long (a.toUInt64 >>> (b.toInt64.toUInt64 &&& Int64.toUInt64 63)).toInt64 :: r) m
    | _ => none
  | .lcmp => match st with
    | .long b :: .long a :: r => ur_nx (pc + 1) ls (.int (lg_cmp a b) :: r) m
    | _ => none
  | .dup => match st with
    | .int a :: r => ur_nx (pc + 1) ls (.int a :: .int a :: r) m
    | .ref a :: r => ur_nx (pc + 1) ls (.ref a :: .ref a :: r) m
    | _ => none
  | .dup2 => match st with
    | .int b :: .ref a :: r => ur_nx (pc + 1) ls (.int b :: .ref a :: .int b :: .ref a :: r) m
    | _ => none
  | .pop => match st with
    | .int _ :: r => ur_nx (pc + 1) ls r m
    | .ref _ :: r => ur_nx (pc + 1) ls r m
    | _ => none
  | .goto _ => ur_nx x ls st m
  | .ifCond c _ => ur_if1 c x pc ls st m
  | .if_icmp c _ => ur_if2 c x pc ls st m
  | .tableswitch _ _ _ _ => match st with
    | .int a :: r => some (.inl (sw.1.map (fun q => (decide (a = q.1), (q.2, ls, r, m))), (sw.2, ls, r, m)))
    | _ => none
  | .lookupswitch _ _ => match st with
    | .int a :: r => some (.inl (sw.1.map (fun q => (decide (a = q.1), (q.2, ls, r, m))), (sw.2, ls, r, m)))
    | _ => none
  | .getfield _ => ur_getf x pc ls st m
  | .putfield _ => ur_putf x pc ls st m
  | .iaload => ur_ald (fun m a i => ur_aI m a 0 i) pc ls st m
  | .baload => ur_ald ur_aB pc ls st m
  | .caload => ur_ald (fun m a i => ur_aI m a 3 i) pc ls st m
  | .laload => match st with
    | .int i :: .ref a :: r => ur_rL (ur_aL m a i) (fun v => (pc + 1, ls, .long v :: r, m))
    | _ => none
  | .aaload => match st with
    | .int i :: .ref a :: r => ur_rR (ur_aR m a i) (fun v => (pc + 1, ls, .ref v :: r, m))
    | _ => none
  | .iastore => ur_ast (fun m a i v => ur_wI m a 0 i v) pc ls st m
  | .bastore => ur_ast (fun m a i v => ur_wI m a 2 i (vp_nar .boolean v)) pc ls st m
  | .castore => ur_ast (fun m a i v => ur_wI m a 3 i (vp_nar .char v)) pc ls st m
  | .lastore => match st with
    | .long v :: .int i :: .ref a :: r => ur_rM (ur_wL m a i v) (fun m => (pc + 1, ls, r, m))
    | _ => none
  | .aastore => match st with
    | .ref v :: .int i :: .ref a :: r => ur_rM (ur_wR m a i v) (fun m => (pc + 1, ls, r, m))
    | _ => none
  | .arraylength => match st with
    | .ref a :: r => ur_rI (ur_len m a) (fun v => (pc + 1, ls, .int v :: r, m))
    | _ => none
  | .newarray t => match ur_atc t, st with
    | some t, .int k :: r => ur_rM (ur_nA m t k) (fun m' => (pc + 2, ls, .ref m.1.length :: r, m'))
    | _, _ => none
  | .anewarray _ => match st with
    | .int k :: r => ur_rM (ur_nA m x k) (fun m' => (pc + 3, ls, .ref m.1.length :: r, m'))
    | _ => none
  | .new _ => ur_rM (ur_nO m x) (fun m' => (pc + 3, ls, .ref m.1.length :: st, m'))
  | .invokevirtual _ => ur_inv x pc ls st m
  | .invokestatic _ => ur_inv x pc ls st m
  | .invokespecial _ => ur_inv x pc ls st m
  | .ireturn => match st with
    | [.int a] => some (.inr (.inl (bif ur_fit z a then some (a, m) else none)))
    | _ => none
  | .return_ => match st with
    | [] => some (.inr (.inl (some (0, m))))
    | _ => none
  | _ => none
/-- what an act comes to, by a going on and by a calling -/
def ur_do (self : ur_S → Option ur_V) (call : Nat → List Value → ur_M → Option ur_V) (o : Option ur_A) : Option ur_V := match o with
  | none => none
  | some (.inl (bs, s)) => bs.foldr (fun q r => bif q.1 then self q.2 else r) (self s)
  | some (.inr (.inl r)) => r
  | some (.inr (.inr (.inl (y, as, m, f)))) => (call y as m).bind fun r => self (f r.1 r.2)
  | some (.inr (.inr (.inr (.inl (o, f))))) => o.bind fun v => self (f v)
  | some (.inr (.inr (.inr (.inr (.inl (o, f)))))) => o.bind fun v => self (f v)
  | some (.inr (.inr (.inr (.inr (.inr (.inl (o, f))))))) => o.bind fun v => self (f v)
  | some (.inr (.inr (.inr (.inr (.inr (.inr (o, f))))))) => o.bind fun v => self (f v)
def ur_lk : List ur_E → Nat → Option (Instr × Nat × Nat × Int32)
  | [], _ => none
  | e :: r, pc => bif Nat.beq e.1 pc then some e.2 else ur_lk r pc
/-- a method as the machine takes it: its rows, the targets of its switches by pc, its locals, what it may answer, the class of its receiver (30: none, 20: a text) -/
abbrev ur_P : Type := List ur_E × (Nat → List (Int32 × Nat) × Nat) × Nat × Nat × Nat
/-- a method's name, code and answer -/
abbrev ur_NI : Type := MethodName × ByteArray × Option FieldType
def ur_stp (P : ur_P) (s : ur_S) : Option ur_A := match ur_lk P.1 s.1 with
  | some (i, n, x, v) => ur_one P.2.2.2.1 (P.2.1 s.1) i n x v s.1 s.2.1 s.2.2.1 s.2.2.2
  | none => none
def ur_rcv (P : ur_P) (as : List Value) (m : ur_M) : Bool := bif P.2.2.2.2 == 30 then true else match as with
  | .ref a :: _ => bif P.2.2.2.2 == 20 then decide (ur_base ≤ a ∧ a < ur_base + 3) else ur_isO m a P.2.2.2.2
  | _ => false
def ur_ent (P : ur_P) (as : List Value) (m : ur_M) : ur_S := (0, ur_pad P.2.2.1 (ur_slots as), [], m)
def ur_ex (G : Nat → ur_P) : Nat → Nat → Nat → ur_S → Option ur_V
  | 0, _, _, _ => none
  | n + 1, d, k, s => ur_do (ur_ex G n d k) (fun y as m => match d with
    | 0 => none
    | d + 1 => bif ur_rcv (G y) as m && Nat.ble (ur_slots as).length (G y).2.2.1 then ur_ex G n d y (ur_ent (G y) as m) else none) (ur_stp (G k) s)

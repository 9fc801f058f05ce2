/-! EVERY RUN OF THE PURE MACHINE IS A RUN OF THE MACHINE -/
def ur_ktf (kd : Nat) (ty : FieldType) : Prop := (kd = 0 ∧ ty = .int) ∨ (kd = 1 ∧ ty = .boolean) ∨ (kd = 2 ∧ ty = .long) ∨ (kd = 3 ∧ ((∃ C, ty = .object C) ∨ ∃ t, ty = .array t))
/-- what the tables say of the classes -/
def ur_clsOk : Prop := ∀ (ci : Nat) (C : String) (T : u_T) (N : Nat), vwCl[ci]? = some (C, T, N) → (∀ w ∈ u_ws C T N, w ∈ ur_T) ∧ N = ur_nf ci ∧ (∀ a, a < N → ∀ b, b < N → a ≠ b → (T a).2.1 ≠ (T b).2.1) ∧ (∃ ty : Nat → FieldType, (∀ k, k < N → parseFieldDescriptor (T k).2.2.1 = some (ty k)) ∧ ∀ k, k < N → ur_ktf (ur_kd ci k) (ty k)) ∧ Cond.instantiable C N ∈ ur_T ∧ Cond.initialized C ∈ ur_T
def ur_okF (own : String) (idx x : Nat) : Prop := x / 256 < 11 ∧ ∃ (C : String) (T : u_T) (N : Nat), vwCl[x / 256]? = some (C, T, N) ∧ x / 4 % 64 < N ∧ Cond.fieldLink own idx (T (x / 4 % 64)).1 (T (x / 4 % 64)).2.1 (T (x / 4 % 64)).2.2.1 ∈ ur_T ∧ ur_kd (x / 256) (x / 4 % 64) = x % 4
def ur_strs : List (String × Nat × Nat) := [("UnsaidRoom$Tape", 54, 0), ("UnsaidRoom$Tape", 40, 1), ("UnsaidRoom$Law", 46, 2)]
/-- what the tables say of an instruction -/
def ur_okE (G : Nat → ur_P) (N : Nat → ur_NI) (own : String) (ini : Bool) (ret : Option FieldType) (sw : List (Int32 × Nat) × Nat) (pc : Nat) (i : Instr) (n x : Nat) (v : Int32) : Prop := match i with
  | .iconst k => n = 1 ∧ Int32.ofInt k = v
  | .bipush k => n = 2 ∧ (Int8.ofInt k).toInt32 = v
  | .sipush k => n = 3 ∧ (Int16.ofInt k).toInt32 = v
  | .ldc k => n = 2 ∧ ((x = 0 ∧ Cond.constant own k v ∈ ur_T) ∨ (∃ j, x = ur_base + j ∧ (own, k, j) ∈ ur_strs))
  | .ldc_w k => n = 3 ∧ Cond.constant own k v ∈ ur_T
  | .ldc2_w k => n = 3 ∧ Cond.constantLong own k (Int64.ofNat x) ∈ ur_T
  | .lconst k => n = 1 ∧ (k : Nat) = x
  | .getstatic k => n = 3 ∧ ((x = 0 ∧ v = 1 ∧ Cond.fieldLink own k "java/lang/String" "COMPACT_STRINGS" "Z" ∈ ur_T) ∨ (x = ur_base + 20 ∧ Cond.fieldLink own k "jdk/internal/util/Preconditions" "SIOOBE_FORMATTER" "Ljava/util/function/BiFunction;" ∈ ur_T))
  | .iload_n _ => n = 1
  | .lload_n _ => n = 1
  | .aload_n _ => n = 1
  | .istore_n _ => n = 1
  | .lstore_n _ => n = 1
  | .astore_n _ => n = 1
  | .iload _ => n = 2
  | .lload _ => n = 2
  | .aload _ => n = 2
  | .istore _ => n = 2
  | .lstore _ => n = 2
  | .astore _ => n = 2
  | .iinc _ k => n = 3 ∧ Int32.ofInt k = v
  | .goto o => n = 3 ∧ (pc : Int) + o = (x : Int)
  | .ifCond _ o => n = 3 ∧ (pc : Int) + o = (x : Int)
  | .if_icmp _ o => n = 3 ∧ (pc : Int) + o = (x : Int)
  | .tableswitch dflt lo hi offs => sw.1.map (fun q => (q.1.toInt, (q.2 : Int))) = (List.range offs.toList.length).map (fun (j : Nat) => (lo + (j : Int), (pc : Int) + offs.toList.getD j 0)) ∧ (pc : Int) + dflt = (sw.2 : Int) ∧ hi + 1 = lo + offs.toList.length
  | .lookupswitch dflt ps => (ps.toList.zip (ps.toList.drop 1)).all (fun (a, next) => a.1 < next.1) = true ∧ sw.1.map (fun q => (q.1.toInt, (q.2 : Int))) = ps.toList.map (fun q => (q.1, (pc : Int) + q.2)) ∧ (sw.2 : Int) = (pc : Int) + dflt
  | .getfield k => n = 3 ∧ ((x = 5123 ∧ Cond.fieldLink own k "java/lang/String" "value" "[B" ∈ ur_T) ∨ (x = 5120 ∧ Cond.fieldLink own k "java/lang/String" "coder" "B" ∈ ur_T) ∨ ur_okF own k x)
  | .putfield k => n = 3 ∧ ur_okF own k x ∧ ∀ (C : String) (T : u_T) (N : Nat), vwCl[x / 256]? = some (C, T, N) → (T (x / 4 % 64)).2.2.2 = true → ini = true ∧ (T (x / 4 % 64)).1 = own
  | .new k => n = 3 ∧ ∃ (C : String) (T : u_T) (N : Nat), vwCl[x]? = some (C, T, N) ∧ Cond.classLink own k C ∈ ur_T
  | .newarray t => n = 2 ∧ Cond.arrayClass (newarray.typeOf t) ∈ ur_T
  | .anewarray k => n = 3 ∧ ((x = 4 ∧ Cond.classLink own k "UnsaidRoom$Night" ∈ ur_T) ∨ (x = 5 ∧ Cond.classLink own k "UnsaidRoom$Mark" ∈ ur_T))
  | .invokevirtual k => n = 3 ∧ ∃ np, ur_okC G N x np ∧ x / 2 % 16 = np + 1 ∧ Cond.methodLink own k (N (x / 32)).1 ∈ ur_T ∧ Cond.instanceMethod (N (x / 32)).1 ∈ ur_T ∧ Cond.selects (N (x / 32)).1.cls (N (x / 32)).1 (N (x / 32)).1 ∈ ur_T ∧ (((G (x / 32)).2.2.2.2 = 20 ∧ (N (x / 32)).1.cls = "java/lang/String") ∨ ((G (x / 32)).2.2.2.2 < 11 ∧ ∃ q, vwCl[(G (x / 32)).2.2.2.2]? = some q ∧ q.1 = (N (x / 32)).1.cls))
  | .invokestatic k => n = 3 ∧ ((x = 9000 ∧ Cond.methodLink own k arraycopyName ∈ ur_T ∧ Cond.native arraycopyName ∈ ur_T ∧ Cond.static arraycopyName ∈ ur_T ∧ Cond.initialized "java/lang/System" ∈ ur_T) ∨ (x = 9002 ∧ Cond.methodLink own k Lib.Math.max.name ∈ ur_T ∧ Cond.static Lib.Math.max.name ∈ ur_T ∧ Cond.initialized "java/lang/Math" ∈ ur_T ∧ Cond.code Lib.Math.max.name Lib.Math.max.code 2 (some .int) ∈ ur_T) ∨ (x = 9003 ∧ Cond.methodLink own k Lib.Math.min.name ∈ ur_T ∧ Cond.static Lib.Math.min.name ∈ ur_T ∧ Cond.initialized "java/lang/Math" ∈ ur_T ∧ Cond.code Lib.Math.min.name Lib.Math.min.code 2 (some .int) ∈ ur_T) ∨ ∃ np, ur_okC G N x np ∧ x / 2 % 16 = np ∧ (Cond.methodLink own k (N (x / 32)).1 ∈ ur_T ∨ ∃ host, Cond.methodLinkNest own k (N (x / 32)).1 host ∈ ur_nest) ∧ Cond.static (N (x / 32)).1 ∈ ur_T)
  | .invokespecial k => n = 3 ∧ ((x = 9001 ∧ Cond.methodLink own k Lib.objectInit ∈ ur_T ∧ Cond.instanceMethod Lib.objectInit ∈ ur_T ∧ Cond.code Lib.objectInit ⟨#[0xb1]⟩ 1 none ∈ ur_T) ∨ ∃ np, ur_okC G N x np ∧ x / 2 % 16 = np + 1 ∧ (Cond.methodLink own k (N (x / 32)).1 ∈ ur_T ∨ ∃ host, Cond.methodLinkNest own k (N (x / 32)).1 host ∈ ur_nest) ∧ Cond.instanceMethod (N (x / 32)).1 ∈ ur_T ∧ (N (x / 32)).1.name = "<init>" ∧ (N (x / 32)).2.2 = none ∧ (G (x / 32)).2.2.2.2 < 11)
  | .ireturn => n = 1 ∧ ∃ ty, ret = some ty
  | .return_ => n = 1 ∧ ret = none
  | _ => n = 1

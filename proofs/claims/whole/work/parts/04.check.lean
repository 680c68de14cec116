def xa_pc (M : xa_M) (ip : Nat) : Nat := match (xa_rows M)[ip]? with
  | some q => q.1
  | none => 0
def xa_tt (t : FieldType) : Nat := match t with
  | .int => 0
  | .long => 2
  | .boolean => 3
  | .object _ => 1
  | .array _ => 1
  | _ => 9
def xa_ta (t : Jvm.ClassFile.ArrayType) : Nat := match t with
  | .int => 0
  | .boolean => 1
  | .long => 2
  | _ => 9
def xa_ckF (cl : List vw_C) (r q : Nat) (k : String → u_T → Nat → Bool) : Bool := match cl[r]? with
  | some (C, T, N) => decide (q < N) && k C T N
  | none => false
def xa_tyD (d : String) : Nat := match parseFieldDescriptor d with
  | some t => xa_tt t
  | none => 9
def xa_ck (cl : List vw_C) (Ts : List Jvm.Cond) (M : xa_M) (pc : Nat) (i : Jvm.ClassFile.Instr) (len nip r q : Nat) (ts : List Nat) : Bool :=
  decide (decode (xa_by M) pc = .ok (i, len)) && match i with
  | .iconst n => decide (len = 1) && (decide (xa_pc M nip = pc + 1) && (decide (Int32.ofInt n = xa_con r q)))
  | .bipush n => decide (len = 2) && (decide (xa_pc M nip = pc + 2) && (decide ((Int8.ofInt n).toInt32 = xa_con r q)))
  | .sipush n => decide (len = 3) && (decide (xa_pc M nip = pc + 3) && (decide ((Int16.ofInt n).toInt32 = xa_con r q)))
  | .ldc x => decide (len = 2) && (decide (xa_pc M nip = pc + 2) && (decide (Jvm.Cond.constant (xa_nm M).cls x (xa_con r q) ∈ Ts)))
  | .ldc_w x => decide (len = 3) && (decide (xa_pc M nip = pc + 3) && (decide (Jvm.Cond.constant (xa_nm M).cls x (xa_con r q) ∈ Ts)))
  | .lconst n => decide (len = 1) && (decide (xa_pc M nip = pc + 1) && (decide (Int64.ofNat (n : Nat) = lN r)))
  | .ldc2_w x => decide (len = 3) && (decide (xa_pc M nip = pc + 3) && (decide (Jvm.Cond.constantLong (xa_nm M).cls x (lN r) ∈ Ts)))
  | .iload_n n => decide (len = 1) && (decide (xa_pc M nip = pc + 1) && (decide ((n : Nat) = r)))
  | .iload n => decide (len = 2) && (decide (xa_pc M nip = pc + 2) && (decide (n = r)))
  | .lload_n n => decide (len = 1) && (decide (xa_pc M nip = pc + 1) && (decide ((n : Nat) = r)))
  | .lload n => decide (len = 2) && (decide (xa_pc M nip = pc + 2) && (decide (n = r)))
  | .aload_n n => decide (len = 1) && (decide (xa_pc M nip = pc + 1) && (decide ((n : Nat) = r)))
  | .aload n => decide (len = 2) && (decide (xa_pc M nip = pc + 2) && (decide (n = r)))
  | .istore_n n => decide (len = 1) && (decide (xa_pc M nip = pc + 1) && (decide ((n : Nat) = r) && (decide (r < xa_mL M))))
  | .istore n => decide (len = 2) && (decide (xa_pc M nip = pc + 2) && (decide (n = r) && (decide (r < xa_mL M))))
  | .astore_n n => decide (len = 1) && (decide (xa_pc M nip = pc + 1) && (decide ((n : Nat) = r) && (decide (r < xa_mL M))))
  | .astore n => decide (len = 2) && (decide (xa_pc M nip = pc + 2) && (decide (n = r) && (decide (r < xa_mL M))))
  | .lstore_n n => decide (len = 1) && (decide (xa_pc M nip = pc + 1) && (decide ((n : Nat) = r) && (decide (r + 1 < xa_mL M))))
  | .lstore n => decide (len = 2) && (decide (xa_pc M nip = pc + 2) && (decide (n = r) && (decide (r + 1 < xa_mL M))))
  | .iinc n c => decide (len = 3) && (decide (xa_pc M nip = pc + 3) && (decide (n = r) && (decide (Int32.ofInt c = xa_con q ts.length) && (decide (r < xa_mL M)))))
  | .iadd => decide (len = 1) && (decide (xa_pc M nip = pc + 1))
  | .isub => decide (len = 1) && (decide (xa_pc M nip = pc + 1))
  | .imul => decide (len = 1) && (decide (xa_pc M nip = pc + 1))
  | .iand => decide (len = 1) && (decide (xa_pc M nip = pc + 1))
  | .idiv => decide (len = 1) && (decide (xa_pc M nip = pc + 1))
  | .irem => decide (len = 1) && (decide (xa_pc M nip = pc + 1))
  | .ineg => decide (len = 1) && (decide (xa_pc M nip = pc + 1))
  | .ladd => decide (len = 1) && (decide (xa_pc M nip = pc + 1))
  | .lsub => decide (len = 1) && (decide (xa_pc M nip = pc + 1))
  | .lmul => decide (len = 1) && (decide (xa_pc M nip = pc + 1))
  | .ldiv => decide (len = 1) && (decide (xa_pc M nip = pc + 1))
  | .lrem => decide (len = 1) && (decide (xa_pc M nip = pc + 1))
  | .lcmp => decide (len = 1) && (decide (xa_pc M nip = pc + 1))
  | .i2l => decide (len = 1) && (decide (xa_pc M nip = pc + 1))
  | .l2i => decide (len = 1) && (decide (xa_pc M nip = pc + 1))
  | .dup => decide (len = 1) && (decide (xa_pc M nip = pc + 1))
  | .pop => decide (len = 1) && (decide (xa_pc M nip = pc + 1))
  | .dup2 => decide (len = 1) && (decide (xa_pc M nip = pc + 1))
  | .arraylength => decide (len = 1) && (decide (xa_pc M nip = pc + 1))
  | .iaload => decide (len = 1) && (decide (xa_pc M nip = pc + 1))
  | .baload => decide (len = 1) && (decide (xa_pc M nip = pc + 1))
  | .laload => decide (len = 1) && (decide (xa_pc M nip = pc + 1))
  | .iastore => decide (len = 1) && (decide (xa_pc M nip = pc + 1))
  | .bastore => decide (len = 1) && (decide (xa_pc M nip = pc + 1))
  | .lastore => decide (len = 1) && (decide (xa_pc M nip = pc + 1))
  | .ifCond _ off => decide (len = 3) && (decide (xa_pc M nip = pc + 3) && (decide ((pc : Int) + off = (xa_pc M r : Int))))
  | .if_icmp _ off => decide (len = 3) && (decide (xa_pc M nip = pc + 3) && (decide ((pc : Int) + off = (xa_pc M r : Int))))
  | .goto off => decide (len = 3) && (decide ((pc : Int) + off = (xa_pc M r : Int)))
  | .tableswitch df lo hi offs => decide (lo = (r : Int)) && (decide (hi = (q : Int)) && (decide (q < 1000) && (decide (r ≤ q) && (decide ((pc : Int) + df = (xa_pc M (ts.headD 0) : Int)) && ((List.range (q - r + 1)).all (fun j => match offs[j]? with
    | some off => decide ((pc : Int) + off = (xa_pc M (ts.getD (j + 1) 0) : Int))
    | none => false))))))
  | .getfield x => decide (len = 3) && (decide (xa_pc M nip = pc + 3) && (xa_ckF cl r q (fun _ T _ => decide (Jvm.Cond.fieldLink (xa_nm M).cls x (T q).1 (T q).2.1 (T q).2.2.1 ∈ Ts))))
  | .putfield x => decide (len = 3) && (decide (xa_pc M nip = pc + 3) && (xa_ckF cl r q (fun _ T _ => decide (Jvm.Cond.fieldLink (xa_nm M).cls x (T q).1 (T q).2.1 (T q).2.2.1 ∈ Ts) && (decide (xa_tyD (T q).2.2.1 = ts.headD 9) && (!(T q).2.2.2 || (decide ((xa_nm M).name = "<init>") && decide ((T q).1 = (xa_nm M).cls)))))))
  | .newarray t => decide (len = 2) && (decide (xa_pc M nip = pc + 2) && (decide (xa_ta t = r) && (decide (r < 3) && (decide (Jvm.Cond.arrayClass (newarray.typeOf t) ∈ Ts)))))
  | .new x => decide (len = 3) && (decide (xa_pc M nip = pc + 3) && ((match cl[r]? with
    | some (C, T, N) => decide (N = ts.length) && (decide (Jvm.Cond.classLink (xa_nm M).cls x C ∈ Ts) && (decide (Jvm.Cond.instantiable C N ∈ Ts) && (decide (Jvm.Cond.initialized C ∈ Ts) && (List.range N).all (fun j => decide (xa_tyD (T j).2.2.1 = ts.getD j 9) && decide (xa_tyD (T j).2.2.1 < 4)))))
    | none => false)))
  | .invokespecial x => decide (len = 3) && (decide (xa_pc M nip = pc + 3) && (decide (r = 1000) && (decide (Jvm.Cond.methodLink (xa_nm M).cls x Lib.objectInit ∈ Ts) && (decide (Jvm.Cond.instanceMethod Lib.objectInit ∈ Ts) && (decide (Jvm.Cond.code Lib.objectInit ⟨#[0xb1]⟩ 1 none ∈ Ts))))))
  | .invokestatic x => decide (len = 3) && (decide (xa_pc M nip = pc + 3) && (match r with
    | 1001 => decide (Jvm.Cond.methodLink (xa_nm M).cls x Lib.Math.abs.name ∈ Ts) && (decide (Jvm.Cond.static Lib.Math.abs.name ∈ Ts) && (decide (Jvm.Cond.initialized "java/lang/Math" ∈ Ts) && decide (Jvm.Cond.code Lib.Math.abs.name Lib.Math.abs.code 1 (some .int) ∈ Ts)))
    | 1002 => decide (Jvm.Cond.methodLink (xa_nm M).cls x arraycopyName ∈ Ts) && (decide (Jvm.Cond.native arraycopyName ∈ Ts) && (decide (Jvm.Cond.static arraycopyName ∈ Ts) && decide (Jvm.Cond.initialized "java/lang/System" ∈ Ts)))
    | _ => false))
  | _ => false
def xa_ckC (cl : List vw_C) (Ts : List Jvm.Cond) : Bool := cl.all fun q => (List.range q.2.2).all fun k => decide (u_lay q.1 q.2.1 k ∈ Ts) && ((parseFieldDescriptor (q.2.1 k).2.2.1).isSome && (List.range q.2.2).all fun j => decide (k = j) || !decide ((q.2.1 k).2.1 = (q.2.1 j).2.1))
def xa_ty0 (T : u_T) (k : Nat) : FieldType := (parseFieldDescriptor (T k).2.2.1).getD .int
theorem xa_ckC_in {cl : List vw_C} {Ts : List Jvm.Cond} (h : xa_ckC cl Ts = true) {r : Nat} {C : String} {T : u_T} {N : Nat} (hr : cl[r]? = some (C, T, N)) : (∀ w ∈ u_ws C T N, w ∈ Ts) ∧ (∀ k, k < N → parseFieldDescriptor (T k).2.2.1 = some (xa_ty0 T k)) ∧ (∀ a, a < N → ∀ b, b < N → a ≠ b → (T a).2.1 ≠ (T b).2.1) := by
  have h1 := List.all_eq_true.mp h _ (List.mem_of_getElem? hr)
  have h2 : ∀ k, k < N → u_lay C T k ∈ Ts ∧ (parseFieldDescriptor (T k).2.2.1).isSome = true ∧ ∀ j, j < N → k = j ∨ ¬ (T k).2.1 = (T j).2.1 := by
    intro k hk
    have h3 := List.all_eq_true.mp h1 k (List.mem_range.mpr hk)
    simp only [Bool.and_eq_true, decide_eq_true_eq] at h3
    refine ⟨h3.1, h3.2.1, fun j hj => ?_⟩
    have h4 := List.all_eq_true.mp h3.2.2 j (List.mem_range.mpr hj)
    simpa using h4
  refine ⟨fun w hw => ?_, fun k hk => ?_, fun a ha b hb hab => ?_⟩
  · obtain ⟨k, hk, rfl⟩ := List.mem_map.mp hw
    exact (h2 k (List.mem_range.mp hk)).1
  · obtain ⟨t, ht⟩ := Option.isSome_iff_exists.mp (h2 k hk).2.1
    rw [xa_ty0, ht]; rfl
  · exact ((h2 a ha).2.2 b hb).resolve_left hab

section
-- ===== PART A: goes FIRST, ahead of the names: the tables' words, and 'selects' of the private methods out of them =====
/-- a private method of a class that the tables say can be made, by its rows of tables_1 -/
def lw_okq (q : MethodName × Nat) : Prop := (q.1.cls ≠ "java/lang/invoke/MethodHandle" ∧ q.1.cls ≠ "java/lang/invoke/VarHandle") ∧ Cond.instantiable q.1.cls q.2 ∈ tables_1 ∧ Cond.privateMethod q.1 ∈ tables_1 ∧ Cond.instanceMethod q.1 ∈ tables_1
theorem lw_p0 : lw_okq (⟨"java/lang/Throwable", "fillInStackTrace", "(I)Ljava/lang/Throwable;"⟩, 6) := ⟨⟨by decide +kernel, by decide +kernel⟩, List.mem_of_getElem? (i := 225) (by decide +kernel), List.mem_of_getElem? (i := 223) (by decide +kernel), List.mem_of_getElem? (i := 224) (by decide +kernel)⟩
theorem lw_p1 : lw_okq (⟨"ServiceRows", "leftBy", "(III)I"⟩, 9) := ⟨⟨by decide +kernel, by decide +kernel⟩, List.mem_of_getElem? (i := 19) (by decide +kernel), List.mem_of_getElem? (i := 399) (by decide +kernel), List.mem_of_getElem? (i := 400) (by decide +kernel)⟩
theorem lw_p2 : lw_okq (⟨"ServiceRows", "nowOf", "(II)I"⟩, 9) := ⟨⟨by decide +kernel, by decide +kernel⟩, List.mem_of_getElem? (i := 19) (by decide +kernel), List.mem_of_getElem? (i := 403) (by decide +kernel), List.mem_of_getElem? (i := 404) (by decide +kernel)⟩
theorem lw_p3 : lw_okq (⟨"ServiceRows", "listDueRows", "()V"⟩, 9) := ⟨⟨by decide +kernel, by decide +kernel⟩, List.mem_of_getElem? (i := 19) (by decide +kernel), List.mem_of_getElem? (i := 420) (by decide +kernel), List.mem_of_getElem? (i := 421) (by decide +kernel)⟩
theorem lw_p4 : lw_okq (⟨"ServiceRows", "leastBy", "(II)I"⟩, 9) := ⟨⟨by decide +kernel, by decide +kernel⟩, List.mem_of_getElem? (i := 19) (by decide +kernel), List.mem_of_getElem? (i := 428) (by decide +kernel), List.mem_of_getElem? (i := 429) (by decide +kernel)⟩
theorem lw_p5 : lw_okq (⟨"ServiceRows$DueRows", "placeOf", "(II)I"⟩, 4) := ⟨⟨by decide +kernel, by decide +kernel⟩, List.mem_of_getElem? (i := 126) (by decide +kernel), List.mem_of_getElem? (i := 439) (by decide +kernel), List.mem_of_getElem? (i := 440) (by decide +kernel)⟩
theorem lw_p6 : lw_okq (⟨"ServiceRows$DueRows", "isBefore", "(III)Z"⟩, 4) := ⟨⟨by decide +kernel, by decide +kernel⟩, List.mem_of_getElem? (i := 126) (by decide +kernel), List.mem_of_getElem? (i := 443) (by decide +kernel), List.mem_of_getElem? (i := 444) (by decide +kernel)⟩
theorem lw_p7 : lw_okq (⟨"ServiceRows", "needOpen", "(I)V"⟩, 9) := ⟨⟨by decide +kernel, by decide +kernel⟩, List.mem_of_getElem? (i := 19) (by decide +kernel), List.mem_of_getElem? (i := 516) (by decide +kernel), List.mem_of_getElem? (i := 517) (by decide +kernel)⟩
theorem lw_p8 : lw_okq (⟨"ServiceRows", "takeRule", "(II)V"⟩, 9) := ⟨⟨by decide +kernel, by decide +kernel⟩, List.mem_of_getElem? (i := 19) (by decide +kernel), List.mem_of_getElem? (i := 525) (by decide +kernel), List.mem_of_getElem? (i := 526) (by decide +kernel)⟩
theorem lw_p9 : lw_okq (⟨"ServiceRows", "takeDefect", "(II)V"⟩, 9) := ⟨⟨by decide +kernel, by decide +kernel⟩, List.mem_of_getElem? (i := 19) (by decide +kernel), List.mem_of_getElem? (i := 538) (by decide +kernel), List.mem_of_getElem? (i := 539) (by decide +kernel)⟩
theorem lw_p10 : lw_okq (⟨"ServiceRows", "isUnderWarranty", "(II)Z"⟩, 9) := ⟨⟨by decide +kernel, by decide +kernel⟩, List.mem_of_getElem? (i := 19) (by decide +kernel), List.mem_of_getElem? (i := 580) (by decide +kernel), List.mem_of_getElem? (i := 581) (by decide +kernel)⟩
theorem lw_p11 : lw_okq (⟨"ServiceRows", "serveRules", "(I)V"⟩, 9) := ⟨⟨by decide +kernel, by decide +kernel⟩, List.mem_of_getElem? (i := 19) (by decide +kernel), List.mem_of_getElem? (i := 625) (by decide +kernel), List.mem_of_getElem? (i := 626) (by decide +kernel)⟩
theorem lw_p12 : lw_okq (⟨"ServiceRows", "reasonOf", "(I)I"⟩, 9) := ⟨⟨by decide +kernel, by decide +kernel⟩, List.mem_of_getElem? (i := 19) (by decide +kernel), List.mem_of_getElem? (i := 649) (by decide +kernel), List.mem_of_getElem? (i := 650) (by decide +kernel)⟩
theorem lw_p13 : lw_okq (⟨"ServiceRows", "hasOverdueRule", "(I)Z"⟩, 9) := ⟨⟨by decide +kernel, by decide +kernel⟩, List.mem_of_getElem? (i := 19) (by decide +kernel), List.mem_of_getElem? (i := 665) (by decide +kernel), List.mem_of_getElem? (i := 666) (by decide +kernel)⟩
theorem lw_p14 : lw_okq (⟨"ServiceRows", "barredOnes", "()I"⟩, 9) := ⟨⟨by decide +kernel, by decide +kernel⟩, List.mem_of_getElem? (i := 19) (by decide +kernel), List.mem_of_getElem? (i := 754) (by decide +kernel), List.mem_of_getElem? (i := 755) (by decide +kernel)⟩
theorem lw_p15 : lw_okq (⟨"ServiceRowsModel", "throwing", "(ZZZZ)Z"⟩, 27) := ⟨⟨by decide +kernel, by decide +kernel⟩, List.mem_of_getElem? (i := 758) (by decide +kernel), List.mem_of_getElem? (i := 857) (by decide +kernel), List.mem_of_getElem? (i := 858) (by decide +kernel)⟩
def lw_privs_1 : List (MethodName × Nat) := [(⟨"java/lang/Throwable", "fillInStackTrace", "(I)Ljava/lang/Throwable;"⟩, 6), (⟨"ServiceRows", "leftBy", "(III)I"⟩, 9), (⟨"ServiceRows", "nowOf", "(II)I"⟩, 9), (⟨"ServiceRows", "listDueRows", "()V"⟩, 9), (⟨"ServiceRows", "leastBy", "(II)I"⟩, 9), (⟨"ServiceRows$DueRows", "placeOf", "(II)I"⟩, 4), (⟨"ServiceRows$DueRows", "isBefore", "(III)Z"⟩, 4), (⟨"ServiceRows", "needOpen", "(I)V"⟩, 9), (⟨"ServiceRows", "takeRule", "(II)V"⟩, 9), (⟨"ServiceRows", "takeDefect", "(II)V"⟩, 9), (⟨"ServiceRows", "isUnderWarranty", "(II)Z"⟩, 9), (⟨"ServiceRows", "serveRules", "(I)V"⟩, 9), (⟨"ServiceRows", "reasonOf", "(I)I"⟩, 9), (⟨"ServiceRows", "hasOverdueRule", "(I)Z"⟩, 9), (⟨"ServiceRows", "barredOnes", "()I"⟩, 9), (⟨"ServiceRowsModel", "throwing", "(ZZZZ)Z"⟩, 27)]
theorem lw_r1 : ∀ q ∈ lw_privs_1, lw_okq q := List.forall_mem_cons.mpr ⟨lw_p0, List.forall_mem_cons.mpr ⟨lw_p1, List.forall_mem_cons.mpr ⟨lw_p2, List.forall_mem_cons.mpr ⟨lw_p3, List.forall_mem_cons.mpr ⟨lw_p4, List.forall_mem_cons.mpr ⟨lw_p5, List.forall_mem_cons.mpr ⟨lw_p6, List.forall_mem_cons.mpr ⟨lw_p7, List.forall_mem_cons.mpr ⟨lw_p8, List.forall_mem_cons.mpr ⟨lw_p9, List.forall_mem_cons.mpr ⟨lw_p10, List.forall_mem_cons.mpr ⟨lw_p11, List.forall_mem_cons.mpr ⟨lw_p12, List.forall_mem_cons.mpr ⟨lw_p13, List.forall_mem_cons.mpr ⟨lw_p14, List.forall_mem_cons.mpr ⟨lw_p15, fun _ h => absurd h List.not_mem_nil⟩⟩⟩⟩⟩⟩⟩⟩⟩⟩⟩⟩⟩⟩⟩⟩
theorem lw_p16 : lw_okq (⟨"ServiceRowsModel", "isVehicle", "(I)Z"⟩, 27) := ⟨⟨by decide +kernel, by decide +kernel⟩, List.mem_of_getElem? (i := 758) (by decide +kernel), List.mem_of_getElem? (i := 879) (by decide +kernel), List.mem_of_getElem? (i := 880) (by decide +kernel)⟩
theorem lw_p17 : lw_okq (⟨"ServiceRowsModel", "isRule", "(I)Z"⟩, 27) := ⟨⟨by decide +kernel, by decide +kernel⟩, List.mem_of_getElem? (i := 758) (by decide +kernel), List.mem_of_getElem? (i := 888) (by decide +kernel), List.mem_of_getElem? (i := 889) (by decide +kernel)⟩
theorem lw_p18 : lw_okq (⟨"ServiceRowsModel", "leftOf", "(III)I"⟩, 27) := ⟨⟨by decide +kernel, by decide +kernel⟩, List.mem_of_getElem? (i := 758) (by decide +kernel), List.mem_of_getElem? (i := 892) (by decide +kernel), List.mem_of_getElem? (i := 893) (by decide +kernel)⟩
theorem lw_p19 : lw_okq (⟨"ServiceRowsModel", "now", "(II)I"⟩, 27) := ⟨⟨by decide +kernel, by decide +kernel⟩, List.mem_of_getElem? (i := 758) (by decide +kernel), List.mem_of_getElem? (i := 896) (by decide +kernel), List.mem_of_getElem? (i := 897) (by decide +kernel)⟩
theorem lw_p20 : lw_okq (⟨"ServiceRowsModel", "isDue", "(II)Z"⟩, 27) := ⟨⟨by decide +kernel, by decide +kernel⟩, List.mem_of_getElem? (i := 758) (by decide +kernel), List.mem_of_getElem? (i := 904) (by decide +kernel), List.mem_of_getElem? (i := 905) (by decide +kernel)⟩
theorem lw_p21 : lw_okq (⟨"ServiceRowsModel", "isAhead", "(IIII)Z"⟩, 27) := ⟨⟨by decide +kernel, by decide +kernel⟩, List.mem_of_getElem? (i := 758) (by decide +kernel), List.mem_of_getElem? (i := 908) (by decide +kernel), List.mem_of_getElem? (i := 909) (by decide +kernel)⟩
theorem lw_p22 : lw_okq (⟨"ServiceRowsModel", "leastOf", "(II)I"⟩, 27) := ⟨⟨by decide +kernel, by decide +kernel⟩, List.mem_of_getElem? (i := 758) (by decide +kernel), List.mem_of_getElem? (i := 912) (by decide +kernel), List.mem_of_getElem? (i := 913) (by decide +kernel)⟩
theorem lw_p23 : lw_okq (⟨"ServiceRowsModel", "openOrder", "(I)I"⟩, 27) := ⟨⟨by decide +kernel, by decide +kernel⟩, List.mem_of_getElem? (i := 758) (by decide +kernel), List.mem_of_getElem? (i := 932) (by decide +kernel), List.mem_of_getElem? (i := 933) (by decide +kernel)⟩
theorem lw_p24 : lw_okq (⟨"ServiceRowsModel", "isOrder", "(I)Z"⟩, 27) := ⟨⟨by decide +kernel, by decide +kernel⟩, List.mem_of_getElem? (i := 758) (by decide +kernel), List.mem_of_getElem? (i := 940) (by decide +kernel), List.mem_of_getElem? (i := 941) (by decide +kernel)⟩
theorem lw_p25 : lw_okq (⟨"ServiceRowsModel", "worksOf", "(I)I"⟩, 27) := ⟨⟨by decide +kernel, by decide +kernel⟩, List.mem_of_getElem? (i := 758) (by decide +kernel), List.mem_of_getElem? (i := 944) (by decide +kernel), List.mem_of_getElem? (i := 945) (by decide +kernel)⟩
theorem lw_p26 : lw_okq (⟨"ServiceRowsModel", "reason", "(I)I"⟩, 27) := ⟨⟨by decide +kernel, by decide +kernel⟩, List.mem_of_getElem? (i := 758) (by decide +kernel), List.mem_of_getElem? (i := 970) (by decide +kernel), List.mem_of_getElem? (i := 971) (by decide +kernel)⟩
def lw_privs_2 : List (MethodName × Nat) := [(⟨"ServiceRowsModel", "isVehicle", "(I)Z"⟩, 27), (⟨"ServiceRowsModel", "isRule", "(I)Z"⟩, 27), (⟨"ServiceRowsModel", "leftOf", "(III)I"⟩, 27), (⟨"ServiceRowsModel", "now", "(II)I"⟩, 27), (⟨"ServiceRowsModel", "isDue", "(II)Z"⟩, 27), (⟨"ServiceRowsModel", "isAhead", "(IIII)Z"⟩, 27), (⟨"ServiceRowsModel", "leastOf", "(II)I"⟩, 27), (⟨"ServiceRowsModel", "openOrder", "(I)I"⟩, 27), (⟨"ServiceRowsModel", "isOrder", "(I)Z"⟩, 27), (⟨"ServiceRowsModel", "worksOf", "(I)I"⟩, 27), (⟨"ServiceRowsModel", "reason", "(I)I"⟩, 27)]
theorem lw_r2 : ∀ q ∈ lw_privs_2, lw_okq q := List.forall_mem_cons.mpr ⟨lw_p16, List.forall_mem_cons.mpr ⟨lw_p17, List.forall_mem_cons.mpr ⟨lw_p18, List.forall_mem_cons.mpr ⟨lw_p19, List.forall_mem_cons.mpr ⟨lw_p20, List.forall_mem_cons.mpr ⟨lw_p21, List.forall_mem_cons.mpr ⟨lw_p22, List.forall_mem_cons.mpr ⟨lw_p23, List.forall_mem_cons.mpr ⟨lw_p24, List.forall_mem_cons.mpr ⟨lw_p25, List.forall_mem_cons.mpr ⟨lw_p26, fun _ h => absurd h List.not_mem_nil⟩⟩⟩⟩⟩⟩⟩⟩⟩⟩⟩
def lw_privs : List (MethodName × Nat) := lw_privs_1 ++ (lw_privs_2)
def lw_tbl : List Cond := k2_sels lw_privs ++ tables_1
theorem lw_privs_ok : ∀ q ∈ lw_privs, lw_okq q := by
  show ∀ q ∈ lw_privs_1 ++ (lw_privs_2), lw_okq q
  exact List.forall_mem_append.mpr ⟨lw_r1, lw_r2⟩
end
section
/-! THE PURE MACHINE: the program's own bytecode, over a list of cells; a reference is a cell's number + 1, 0 is the script -/
/-- a row: pc, instruction, length, the row behind it, two numbers resolved ahead (slot, target, class, field, callee ..), a list of targets -/
abbrev xa_R : Type := Nat × Jvm.ClassFile.Instr × Nat × Nat × Nat × Nat × List Nat
/-- a method: name, bytes, maxLocals, return type, handlers (as the file has them; class number, row), rows -/
abbrev xa_M : Type := MethodName × ByteArray × Nat × Option FieldType × List ((Nat × Nat × Nat × Nat) × Nat × Nat) × List xa_R
abbrev xa_nm (M : xa_M) : MethodName := M.1
abbrev xa_by (M : xa_M) : ByteArray := M.2.1
abbrev xa_mL (M : xa_M) : Nat := M.2.2.1
abbrev xa_rt (M : xa_M) : Option FieldType := M.2.2.2.1
abbrev xa_hz (M : xa_M) : List ((Nat × Nat × Nat × Nat) × Nat × Nat) := M.2.2.2.2.1
abbrev xa_hh (M : xa_M) : List (Nat × Nat × Nat × Nat) := (xa_hz M).map fun z => z.1
abbrev xa_hd (M : xa_M) : List (Nat × Nat) := (xa_hz M).map fun z => z.2
abbrev xa_rows (M : xa_M) : List xa_R := M.2.2.2.2.2
/-- a number from its size and its sign -/
def xa_con (r q : Nat) : Int32 := bif Nat.beq q 0 then nI r else - nI r
def xa_cat2 (v : Value) : Bool := match v with
  | .long _ => true
  | .double _ => true
  | _ => false
def xa_put1 (lv : List (Nat × Value)) (i : Nat) (v : Value) : List (Nat × Value) := (i, v) :: lv.filter (fun q => !(Nat.beq q.1 i) && !(Nat.beq (q.1 + 1) i && xa_cat2 q.2))
def xa_put2 (lv : List (Nat × Value)) (i : Nat) (v : Value) : List (Nat × Value) := (i, v) :: lv.filter (fun q => !(Nat.beq q.1 i) && (!(Nat.beq q.1 (i + 1)) && !(Nat.beq (q.1 + 1) i && xa_cat2 q.2)))
def xa_get (i : Nat) : List (Nat × Value) → Option Value
  | [] => none
  | q :: l => bif Nat.beq q.1 i then some q.2 else xa_get i l
def xa_cmp (c : Jvm.ClassFile.Cond) (x y : Int32) : Bool := match c with
  | .eq => decide (x = y)
  | .ne => !decide (x = y)
  | .lt => decide (x < y)
  | .ge => decide (y ≤ x)
  | .gt => decide (y < x)
  | .le => decide (x ≤ y)
/-- what a plain instruction does: the next row, locals, stack, cells; how many cells and slots it made -/
abbrev xa_N : Type := Nat × List (Nat × Value) × List Value × List va_E × Nat × Nat
abbrev xa_go (ip : Nat) (lv : List (Nat × Value)) (st : List Value) (h : List va_E) : Option xa_N := some (ip, lv, st, h, 0, 0)
def xa_inB (i : Int32) (n : Nat) : Bool := !(decide (i < 0) || decide (n ≤ i.toNatClampNeg))
/-- taking a value off the stack, out of a variable -/
def xa_pi {α : Type} (st : List Value) (k : Int32 → List Value → Option α) : Option α := match st with
  | .int x :: st => k x st
  | _ => none
def xa_pl {α : Type} (st : List Value) (k : Int64 → List Value → Option α) : Option α := match st with
  | .long x :: st => k x st
  | _ => none
def xa_pr {α : Type} (st : List Value) (k : Nat → List Value → Option α) : Option α := match st with
  | .ref x :: st => k x st
  | _ => none
def xa_p1 {α : Type} (st : List Value) (k : Value → List Value → Option α) : Option α := match st with
  | v :: st => bif xa_cat2 v then none else k v st
  | _ => none
def xa_li {α : Type} (r : Nat) (lv : List (Nat × Value)) (k : Int32 → Option α) : Option α := match xa_get r lv with
  | some (.int x) => k x
  | _ => none
def xa_ll {α : Type} (r : Nat) (lv : List (Nat × Value)) (k : Int64 → Option α) : Option α := match xa_get r lv with
  | some (.long x) => k x
  | _ => none
def xa_lr {α : Type} (r : Nat) (lv : List (Nat × Value)) (k : Nat → Option α) : Option α := match xa_get r lv with
  | some (.ref x) => k x
  | _ => none
/-- only where a test says so -/
def xa_if {α : Type} (c : Bool) (k : Option α) : Option α := match c with
  | true => k
  | false => none
/-- the array of a tag (0 int, 1 boolean) at a reference, the long array, the object of a class -/
def xa_ai {α : Type} (h : List va_E) (a t : Nat) (k : Nat → Nat → (Nat → Int32) → Option α) : Option α := match a with
  | 0 => none
  | j + 1 => match h[j]? with
    | some (.inl (t', n, .inl f)) => xa_if (Nat.beq t' t) (k j n f)
    | _ => none
def xa_al {α : Type} (h : List va_E) (a : Nat) (k : Nat → Nat → (Nat → Int64) → Option α) : Option α := match a with
  | 0 => none
  | j + 1 => match h[j]? with
    | some (.inl (t', n, .inr (.inl f))) => xa_if (Nat.beq t' 2) (k j n f)
    | _ => none
def xa_ob {α : Type} (h : List va_E) (a ci : Nat) (k : Nat → List Value → Option α) : Option α := match a with
  | 0 => none
  | j + 1 => match h[j]? with
    | some (.inr (c, fs)) => xa_if (Nat.beq c ci) (k j fs)
    | _ => none
/-- an array's length, the script's too; an int array's contents, the script's too; a new array -/
def xa_ln {α : Type} (L : Nat) (h : List va_E) (a : Nat) (k : Nat → Option α) : Option α := match a with
  | 0 => k L
  | j + 1 => match h[j]? with
    | some (.inl (_, n, _)) => k n
    | _ => none
def xa_is {α : Type} (L : Nat) (xs : Nat → Int32) (h : List va_E) (a : Nat) (k : Nat → (Nat → Int32) → Option α) : Option α := match a with
  | 0 => k L xs
  | j + 1 => xa_ai h (j + 1) 0 fun _ n f => k n f
def xa_z (r n : Nat) : va_E := match r with
  | 2 => .inl (2, n, .inr (.inl fun _ => 0))
  | r => .inl (r, n, .inl fun _ => 0)
def xa_fd {α : Type} (fs : List Value) (q : Nat) (k : Value → Option α) : Option α := match fs[q]? with
  | some v => k v
  | none => none
/-- a value for a field of a type (0 int, 1 reference, 2 long, 3 boolean) -/
def xa_fit (t : Nat) (v : Value) : Bool := match t, v with
  | 0, .int _ => true
  | 1, .ref _ => true
  | 2, .long _ => true
  | 3, .int x => decide (x = 0) || decide (x = 1)
  | _, _ => false
def xa_dflt (t : Nat) : Value := match t with
  | 1 => .null
  | 2 => .long 0
  | _ => .int 0
def xa_pv {α : Type} (st : List Value) (k : Value → List Value → Option α) : Option α := match st with
  | v :: st => k v st
  | _ => none
def xa_abs (x : Int32) : Int32 := if 0 ≤ x then x else 0 - x
def xa_cats (st : List Value) : Nat := (st.map fun v => v.category).sum
/-- a call that is no call of the program's own: Object's constructor, Math.abs, System.arraycopy -/
def xa_own (r nip : Nat) (lv : List (Nat × Value)) (st : List Value) (h : List va_E) : Option xa_N := match r with
  | 1000 => xa_pr st fun _ st => xa_if (Nat.ble (xa_cats st) 8) (xa_go nip lv st h)
  | 1001 => xa_pi st fun x st => xa_if (Nat.ble (xa_cats st) 8) (xa_go nip lv (.int (xa_abs x) :: st) h)
  | 1002 => xa_pi st fun n st => xa_pi st fun dp st => xa_pr st fun a st => xa_pi st fun sp st => xa_pr st fun a0 st => xa_ai h a0 0 fun _ n0 f => xa_ai h a 0 fun j n1 g =>
      xa_if (Nat.ble (xa_cats st) 8 && !(decide (sp < 0)) && !(decide (dp < 0)) && !(decide (n < 0)) && decide (sp.toNatClampNeg + n.toNatClampNeg ≤ n0) && decide (dp.toNatClampNeg + n.toNatClampNeg ≤ n1))
        (xa_go nip lv st (h.set j (.inl (0, n1, .inl (va_cpy f g sp.toNatClampNeg dp.toNatClampNeg n.toNatClampNeg)))))
  | _ => none
/-- plain instructions: constants, variables, stack, arithmetic, branches; fields and arrays -/
def xa_nx (L : Nat) (xs : Nat → Int32) (i : Jvm.ClassFile.Instr) (nip r q : Nat) (ts : List Nat) (lv : List (Nat × Value)) (st : List Value) (h : List va_E) : Option xa_N := match i with
  | .iconst _ => xa_go nip lv (.int (xa_con r q) :: st) h
  | .bipush _ => xa_go nip lv (.int (xa_con r q) :: st) h
  | .sipush _ => xa_go nip lv (.int (xa_con r q) :: st) h
  | .ldc _ => xa_go nip lv (.int (xa_con r q) :: st) h
  | .ldc_w _ => xa_go nip lv (.int (xa_con r q) :: st) h
  | .lconst _ => xa_go nip lv (.long (lN r) :: st) h
  | .ldc2_w _ => xa_go nip lv (.long (lN r) :: st) h
  | .iload_n _ => xa_li r lv fun x => xa_go nip lv (.int x :: st) h
  | .iload _ => xa_li r lv fun x => xa_go nip lv (.int x :: st) h
  | .lload_n _ => xa_ll r lv fun x => xa_go nip lv (.long x :: st) h
  | .lload _ => xa_ll r lv fun x => xa_go nip lv (.long x :: st) h
  | .aload_n _ => xa_lr r lv fun x => xa_go nip lv (.ref x :: st) h
  | .aload _ => xa_lr r lv fun x => xa_go nip lv (.ref x :: st) h
  | .istore_n _ => xa_pi st fun x st => xa_go nip (xa_put1 lv r (.int x)) st h
  | .istore _ => xa_pi st fun x st => xa_go nip (xa_put1 lv r (.int x)) st h
  | .astore_n _ => xa_pr st fun x st => xa_go nip (xa_put1 lv r (.ref x)) st h
  | .astore _ => xa_pr st fun x st => xa_go nip (xa_put1 lv r (.ref x)) st h
  | .lstore_n _ => xa_pl st fun x st => xa_go nip (xa_put2 lv r (.long x)) st h
  | .lstore _ => xa_pl st fun x st => xa_go nip (xa_put2 lv r (.long x)) st h
  | .iinc _ _ => xa_li r lv fun x => xa_go nip (xa_put1 lv r (.int (x + xa_con q ts.length))) st h
  | .iadd => xa_pi st fun y st => xa_pi st fun x st => xa_go nip lv (.int (x + y) :: st) h
  | .isub => xa_pi st fun y st => xa_pi st fun x st => xa_go nip lv (.int (x - y) :: st) h
  | .imul => xa_pi st fun y st => xa_pi st fun x st => xa_go nip lv (.int (x * y) :: st) h
  | .iand => xa_pi st fun y st => xa_pi st fun x st => xa_go nip lv (.int (x &&& y) :: st) h
  | .idiv => xa_pi st fun y st => xa_pi st fun x st => xa_if (!decide (y = 0)) (xa_go nip lv (.int (x / y) :: st) h)
  | .irem => xa_pi st fun y st => xa_pi st fun x st => xa_if (!decide (y = 0)) (xa_go nip lv (.int (x - x / y * y) :: st) h)
  | .ineg => xa_pi st fun x st => xa_go nip lv (.int (-x) :: st) h
  | .ladd => xa_pl st fun y st => xa_pl st fun x st => xa_go nip lv (.long (x + y) :: st) h
  | .lsub => xa_pl st fun y st => xa_pl st fun x st => xa_go nip lv (.long (x - y) :: st) h
  | .lmul => xa_pl st fun y st => xa_pl st fun x st => xa_go nip lv (.long (x * y) :: st) h
  | .ldiv => xa_pl st fun y st => xa_pl st fun x st => xa_if (!decide (y = 0)) (xa_go nip lv (.long (x / y) :: st) h)
  | .lrem => xa_pl st fun y st => xa_pl st fun x st => xa_if (!decide (y = 0)) (xa_go nip lv (.long (x - x / y * y) :: st) h)
  | .lcmp => xa_pl st fun y st => xa_pl st fun x st => xa_go nip lv (.int (lg_cmp x y) :: st) h
  | .i2l => xa_pi st fun x st => xa_go nip lv (.long x.toInt64 :: st) h
  | .l2i => xa_pl st fun x st => xa_go nip lv (.int x.toInt32 :: st) h
  | .dup => xa_p1 st fun v st => xa_go nip lv (v :: v :: st) h
  | .pop => xa_p1 st fun _ st => xa_go nip lv st h
  | .dup2 => xa_p1 st fun v st => xa_p1 st fun w st => xa_go nip lv (v :: w :: v :: w :: st) h
  | .ifCond c _ => xa_pi st fun x st => xa_go (bif xa_cmp c x 0 then r else nip) lv st h
  | .if_icmp c _ => xa_pi st fun y st => xa_pi st fun x st => xa_go (bif xa_cmp c x y then r else nip) lv st h
  | .goto _ => xa_go r lv st h
  | .tableswitch _ _ _ _ => xa_pi st fun x st => xa_go (bif decide (x < xa_con r 0) || decide (xa_con q 0 < x) then ts.headD 0 else ts.getD ((x.toNatClampNeg - r) + 1) 0) lv st h
  | .getfield _ => xa_pr st fun a st => xa_ob h a r fun _ fs => xa_fd fs q fun v => xa_go nip lv (v :: st) h
  | .putfield _ => xa_pv st fun v st => xa_pr st fun a st => xa_ob h a r fun j fs => xa_if (xa_fit (ts.headD 9) v && decide (q < fs.length)) (xa_go nip lv st (h.set j (.inr (r, fs.set q v))))
  | .arraylength => xa_pr st fun a st => xa_ln L h a fun n => xa_go nip lv (.int (nI n) :: st) h
  | .iaload => xa_pi st fun i st => xa_pr st fun a st => xa_is L xs h a fun n f => xa_if (xa_inB i n) (xa_go nip lv (.int (f i.toNatClampNeg) :: st) h)
  | .baload => xa_pi st fun i st => xa_pr st fun a st => xa_ai h a 1 fun _ n f => xa_if (xa_inB i n) (xa_go nip lv (.int (f i.toNatClampNeg) :: st) h)
  | .laload => xa_pi st fun i st => xa_pr st fun a st => xa_al h a fun _ n f => xa_if (xa_inB i n) (xa_go nip lv (.long (f i.toNatClampNeg) :: st) h)
  | .iastore => xa_pi st fun x st => xa_pi st fun i st => xa_pr st fun a st => xa_ai h a 0 fun j n f => xa_if (xa_inB i n) (xa_go nip lv st (h.set j (.inl (0, n, .inl (upd f i.toNatClampNeg x)))))
  | .bastore => xa_pi st fun x st => xa_pi st fun i st => xa_pr st fun a st => xa_ai h a 1 fun j n f => xa_if (xa_inB i n) (xa_go nip lv st (h.set j (.inl (1, n, .inl (upd f i.toNatClampNeg (vp_nar .boolean x))))))
  | .lastore => xa_pl st fun x st => xa_pi st fun i st => xa_pr st fun a st => xa_al h a fun j n f => xa_if (xa_inB i n) (xa_go nip lv st (h.set j (.inl (2, n, .inr (.inl (vp_updL f i.toNatClampNeg x))))))
  | .newarray _ => xa_pi st fun n st => xa_if (!(decide (n < 0)) && decide (n.toNatClampNeg ≤ 100000)) (some (nip, lv, .ref (h.length + 1) :: st, h ++ [xa_z r n.toNatClampNeg], 1, n.toNatClampNeg))
  | .new _ => some (nip, lv, .ref (h.length + 1) :: st, h ++ [.inr (r, ts.map xa_dflt)], 1, ts.length)
  | .invokespecial _ => xa_own r nip lv st h
  | .invokestatic _ => xa_own r nip lv st h
  | _ => none
/-- 0 plain, 1 a return, 2 'throw new', 3 a call of the program's own, 4 a call of the JDK's -/
def xa_kind (i : Jvm.ClassFile.Instr) (r q : Nat) : Nat := match i with
  | .ireturn => 1
  | .lreturn => 1
  | .return_ => 1
  | .new _ => bif Nat.beq q 99 then 2 else 0
  | .invokevirtual _ => 3
  | .invokespecial _ => bif Nat.blt r 1000 then 3 else 4
  | .invokestatic _ => bif Nat.blt r 1000 then 3 else 4
  | _ => 0
abbrev xa_O : Type := Outcome × List va_E × Nat × Nat
def xa_ret (rt : Option FieldType) (i : Jvm.ClassFile.Instr) (st : List Value) (h : List va_E) : Option xa_O := match i with
  | .ireturn => match st with
    | [.int x] => match rt with
      | some .int => some (.returned (some (.int x)), h, 0, 0)
      | some .boolean => some (.returned (some (.int (vp_nar .boolean x))), h, 0, 0)
      | _ => none
    | _ => none
  | .lreturn => match st with
    | [.long x] => match rt with
      | some .long => some (.returned (some (.long x)), h, 0, 0)
      | _ => none
    | _ => none
  | .return_ => match st with
    | [] => match rt with
      | none => some (.returned none, h, 0, 0)
      | _ => none
    | _ => none
  | _ => none
def xa_add (k z : Nat) (o : Option xa_O) : Option xa_O := match o with
  | some (o, h, k', z') => some (o, h, k + k', z + z')
  | none => none
/-- the receiver is an object of the class -/
def xa_rec (i : Jvm.ClassFile.Instr) (st : List Value) (h : List va_E) (q ci : Nat) : Bool := match i with
  | .invokevirtual _ => match st[q - 1]? with
    | some (.ref (j + 1)) => match h[j]? with
      | some (.inr (c, _)) => Nat.beq c ci
      | _ => false
    | _ => false
  | .invokespecial _ => match st[q - 1]? with
    | some (.ref _) => true
    | _ => false
  | _ => true
def xa_cok (i : Jvm.ClassFile.Instr) (mL q : Nat) (ts : List Nat) (st : List Value) (h : List va_E) : Bool :=
  Nat.ble q st.length && (Nat.ble (xa_cats (st.drop q) + mL + 11) (ts.getD 1 0) && (Nat.ble (xa_cats (st.take q)) mL && xa_rec i st h q (ts.headD 999)))
/-- the first handler for the object's class -/
def xa_hnd (hs : List (Nat × Nat)) (h : List va_E) (a : Nat) : Option Nat := match a with
  | 0 => none
  | j + 1 => match h[j]? with
    | some (.inr (c, _)) => (hs.find? (fun q => Nat.beq q.1 c)).map (fun q => q.2)
    | _ => none
theorem xa_hnd_nil (h : List va_E) (a : Nat) : xa_hnd [] h a = none := by
  unfold xa_hnd
  split
  · rfl
  · split <;> rfl
/-- one row, with what is said of the rest; d, w: frames and words that are left -/
abbrev xa_K : Type := Nat → Nat → Nat → Nat → List (Nat × Value) → List Value → List va_E → Option xa_O
def xa_stp (mt : Nat → xa_M) (L : Nat) (xs : Nat → Int32) (rc : xa_K) : xa_K := fun d w y ip lv st h => match (xa_rows (mt y))[ip]? with
  | none => none
  | some (_, i, _, nip, r, q, ts) => match xa_kind i r q with
    | 0 => match xa_nx L xs i nip r q ts lv st h with
      | none => none
      | some (ip', lv', st', h', k, z) => xa_add k z (rc d w y ip' lv' st' h')
    | 1 => xa_ret (xa_rt (mt y)) i st h
    | 2 => xa_if (Nat.ble (xa_cats st) 8 && (Nat.ble 6 d && Nat.ble 100 w)) (some (.threw (h.length + 1), h ++ [.inr (r, [])], 1, 6))
    | 3 => xa_if (xa_cok i (xa_mL (mt r)) q ts st h && (Nat.ble 1 d && Nat.ble (ts.getD 1 0) w)) (match rc (d - 1) (w - ts.getD 1 0) r 0 (lv_args 0 (st.take q).reverse) [] h with
      | none => none
      | some (.returned v, h1, k1, z1) => xa_add k1 z1 (rc d w y nip lv (v.toList ++ st.drop q) h1)
      | some (.threw x, h1, k1, z1) => match xa_hnd (xa_hd (mt y)) h1 x with
        | none => xa_if (xa_hd (mt y)).isEmpty (some (.threw x, h1, k1, z1))
        | some ip' => xa_add k1 z1 (rc d w y ip' lv [.ref x] h1))
    | _ => xa_if (Nat.ble 1 d && Nat.ble 30 w) (match xa_nx L xs i nip r q ts lv st h with
      | none => none
      | some (ip', lv', st', h', k, z) => xa_add k z (rc d w y ip' lv' st' h'))
def xa_ev (mt : Nat → xa_M) (L : Nat) (xs : Nat → Int32) : Nat → xa_K
  | 0 => fun _ _ _ _ _ _ _ => none
  | n + 1 => xa_stp mt L xs (xa_ev mt L xs n)
theorem xa_add_some {k z : Nat} {o : Option xa_O} {o' : Outcome} {h : List va_E} {k' z' : Nat} (e : xa_add k z o = some (o', h, k', z')) : ∃ k1 z1, o = some (o', h, k1, z1) ∧ k' = k + k1 ∧ z' = z + z1 := by
  unfold xa_add at e
  split at e
  · cases e; exact ⟨_, _, rfl, rfl, rfl⟩
  · cases e
theorem xa_add_mono {k z : Nat} {o o2 : Option xa_O} (h : ∀ r, o = some r → o2 = some r) {r : xa_O} (e : xa_add k z o = some r) : xa_add k z o2 = some r := by
  unfold xa_add at e
  split at e
  · rw [h _ rfl]; exact e
  · cases e
theorem xa_ifs {α : Type} {c : Bool} {k : Option α} {o : α} (h : xa_if c k = some o) : c = true ∧ k = some o := by
  cases c with
  | true => exact ⟨rfl, h⟩
  | false => cases h
theorem xa_ift {α : Type} {c : Bool} {k : Option α} (h : c = true) : xa_if c k = k := by subst h; rfl
theorem xa_stp_mono {mt : Nat → xa_M} {L : Nat} {xs : Nat → Int32} {rc rc2 : xa_K} (hr : ∀ d w y ip lv st h r, rc d w y ip lv st h = some r → rc2 d w y ip lv st h = some r) {d w y ip : Nat} {lv : List (Nat × Value)} {st : List Value} {h : List va_E} {r : xa_O} (e : xa_stp mt L xs rc d w y ip lv st h = some r) : xa_stp mt L xs rc2 d w y ip lv st h = some r := by
  unfold xa_stp at e ⊢
  (try dsimp only at e ⊢)
  split at e
  · cases e
  · rename_i pc i len nip r' q ts hrow
    split at e
    · split at e
      · cases e
      · rename_i ip' lv' st' h' k z hnx
        exact xa_add_mono (fun r hh => hr _ _ _ _ _ _ _ _ hh) e
    · exact e
    · exact e
    · obtain ⟨hc, e⟩ := xa_ifs e
      rw [xa_ift hc]
      split at e
      · cases e
      · rename_i v h1 k1 z1 hcal
        rw [hr _ _ _ _ _ _ _ _ hcal]
        exact xa_add_mono (fun r hh => hr _ _ _ _ _ _ _ _ hh) e
      · rename_i x h1 k1 z1 hcal
        rw [hr _ _ _ _ _ _ _ _ hcal]
        dsimp only
        split at e
        · exact e
        · exact xa_add_mono (fun r hh => hr _ _ _ _ _ _ _ _ hh) e
    · obtain ⟨hc, e⟩ := xa_ifs e
      rw [xa_ift hc]
      split at e
      · cases e
      · rename_i ip' lv' st' h' k z hnx
        exact xa_add_mono (fun r hh => hr _ _ _ _ _ _ _ _ hh) e
theorem xa_ev_up {mt : Nat → xa_M} {L : Nat} {xs : Nat → Int32} : ∀ (n d w y ip : Nat) (lv : List (Nat × Value)) (st : List Value) (h : List va_E) (r : xa_O), xa_ev mt L xs n d w y ip lv st h = some r → xa_ev mt L xs (n + 1) d w y ip lv st h = some r
  | 0, _, _, _, _, _, _, _, _, e => by cases e
  | n + 1, _, _, _, _, _, _, _, _, e => xa_stp_mono (xa_ev_up n) e
theorem xa_ev_le {mt : Nat → xa_M} {L : Nat} {xs : Nat → Int32} {n n2 : Nat} (hn : n ≤ n2) {d w y ip : Nat} {lv : List (Nat × Value)} {st : List Value} {h : List va_E} {r : xa_O} (e : xa_ev mt L xs n d w y ip lv st h = some r) : xa_ev mt L xs n2 d w y ip lv st h = some r := by
  induction hn with
  | refl => exact e
  | step _ ih => exact xa_ev_up _ _ _ _ _ _ _ _ _ ih
end
section
/-! THE REAL MACHINE DOES WHAT THE PURE ONE SAYS -/
/-- a pure reference as an address: the script's, or so many behind the base -/
def xa_rv (b base : Nat) (v : Value) : Value := match v with
  | .ref 0 => .ref b
  | .ref (k + 1) => .ref (base + k)
  | v => v
def xa_tag (cs : ClassId × ClassId × ClassId) (t : Nat) : ClassId := match t with
  | 0 => cs.1
  | 1 => cs.2.1
  | _ => cs.2.2
def xa_re (cs : ClassId × ClassId × ClassId) (b base : Nat) (e : va_E) : va_E := match e with
  | .inl (t, x) => .inl (xa_tag cs t, x)
  | .inr (c, fs) => .inr (c, fs.map (xa_rv b base))
def xa_W (cs : ClassId × ClassId × ClassId) (b base : Nat) (h : List va_E) : va_W := h.mapIdx fun k e => (base + k, xa_re cs b base e)
def xa_lv (b base : Nat) (lv : List (Nat × Value)) : List (Nat × Value) := lv.map fun q => (q.1, xa_rv b base q.2)
def xa_tys (cs : ClassId × ClassId × ClassId) : List (ClassId × FieldType) := [(cs.1, .int), (cs.2.1, .boolean), (cs.2.2, .long)]
/-- the heap holds the pure cells, all from the base on, and nothing else there -/
def xa_Mt (D : va_G) (cl : List vw_C) (cs : ClassId × ClassId × ClassId) (b base : Nat) (h : List va_E) (H : Heap) : Prop := base + h.length ≤ H.size ∧ va_P D cl (xa_W cs b base h) H
abbrev xa_A (base : Nat) : Nat → Prop := fun q => base ≤ q
theorem xa_rv_cat (b base : Nat) (v : Value) : (xa_rv b base v).category = v.category := by
  cases v with
  | ref a => cases a <;> rfl
  | _ => rfl
theorem xa_cat2_iff (v : Value) : (v.category == 2) = xa_cat2 v := by cases v <;> rfl
theorem xa_cat2_iff' (v : Value) : Nat.beq v.category 2 = xa_cat2 v := by cases v <;> rfl
theorem xa_cat1 {v : Value} (h : xa_cat2 v = false) : v.category = 1 := by cases v <;> first | rfl | (simp [xa_cat2] at h)
theorem xa_cats_rv (b base : Nat) (st : List Value) : ((st.map (xa_rv b base)).map fun v => v.category).sum = xa_cats st := by
  induction st with
  | nil => rfl
  | cons v st ih =>
    simp only [List.map_cons, List.sum_cons, xa_cats] at ih ⊢
    rw [ih, xa_rv_cat]
theorem xa_W_get (cs : ClassId × ClassId × ClassId) (b base : Nat) (h : List va_E) (k : Nat) : (xa_W cs b base h)[k]? = (h[k]?).map fun e => (base + k, xa_re cs b base e) := by
  simp [xa_W]
theorem xa_W_at {cs : ClassId × ClassId × ClassId} {b base : Nat} {h : List va_E} {k : Nat} {e : va_E} (hk : h[k]? = some e) : (xa_W cs b base h)[k]? = some (base + k, xa_re cs b base e) := by
  rw [xa_W_get, hk]; rfl
theorem xa_W_len (cs : ClassId × ClassId × ClassId) (b base : Nat) (h : List va_E) : (xa_W cs b base h).length = h.length := by simp [xa_W]
theorem xa_W_set (cs : ClassId × ClassId × ClassId) (b base : Nat) (h : List va_E) (k : Nat) (e : va_E) : xa_W cs b base (h.set k e) = (xa_W cs b base h).set k (base + k, xa_re cs b base e) := by
  apply List.ext_getElem?
  intro i
  rw [xa_W_get, List.getElem?_set, List.getElem?_set, xa_W_len]
  by_cases hik : k = i
  · subst hik
    by_cases hl : k < h.length
    · simp [hl]
    · simp [hl]
  · simp [hik, xa_W_get]
theorem xa_W_push (cs : ClassId × ClassId × ClassId) (b base : Nat) (h : List va_E) (e : va_E) : xa_W cs b base (h ++ [e]) = xa_W cs b base h ++ [(base + h.length, xa_re cs b base e)] := by
  simp [xa_W, List.mapIdx_append]
theorem xa_W_D (cs : ClassId × ClassId × ClassId) (b base : Nat) (h : List va_E) : va_D (xa_A base) (xa_W cs b base h) := by
  have key : ∀ (k : Nat) (q : Nat × va_E), (xa_W cs b base h)[k]? = some q → q.1 = base + k := by
    intro k q hq
    rw [xa_W_get] at hq
    cases hk : h[k]? with
    | none => rw [hk] at hq; cases hq
    | some e => rw [hk] at hq; cases hq; rfl
  refine ⟨fun i j p q hi hj hpq => ?_, fun k q hk => ?_⟩
  · have h1 := key i p hi
    have h2 := key j q hj
    omega
  · have h1 := key k q hk
    show base ≤ q.1
    omega
theorem xa_lv_get {b base : Nat} {lv : List (Nat × Value)} {i : Nat} {v : Value} (h : xa_get i lv = some v) : (i, xa_rv b base v) ∈ xa_lv b base lv := by
  induction lv with
  | nil => cases h
  | cons q l ih =>
    unfold xa_get at h
    cases hb : Nat.beq q.1 i with
    | true =>
      rw [hb] at h
      have h1 : q.1 = i := Nat.eq_of_beq_eq_true hb
      have h2 : q.2 = v := Option.some.inj h
      subst h1; subst h2
      exact List.mem_cons_self
    | false =>
      rw [hb] at h
      exact List.mem_cons_of_mem _ (ih h)
theorem xa_slot {ls : Array Slot} {n b base : Nat} {lv : List (Nat × Value)} (hl : lv_has ls n (xa_lv b base lv)) {i : Nat} {v : Value} (h : xa_get i lv = some v) : ls[i]? = some (.val (xa_rv b base v)) := hl.2.2 _ (xa_lv_get h)
theorem xa_place {ls : Array Slot} {n b base : Nat} {lv : List (Nat × Value)} (hl : lv_has ls n (xa_lv b base lv)) {i : Nat} {v : Value} (h : xa_get i lv = some v) : ∃ k : Nat, (xa_lv b base lv)[k]? = some (i, xa_rv b base v) := List.getElem?_of_mem (xa_lv_get h)
theorem xa_beq (a b : Nat) : (a == b) = Nat.beq a b := by
  rw [Bool.eq_iff_iff, beq_iff_eq, Nat.beq_eq]
theorem xa_lv_put1 (b base : Nat) (lv : List (Nat × Value)) (i : Nat) (v : Value) : (i, xa_rv b base v) :: (xa_lv b base lv).filter (fun q => !(q.1 == i) && !(q.1 + 1 == i && q.2.category == 2)) = xa_lv b base (xa_put1 lv i v) := by
  simp only [xa_put1, xa_lv, List.map_cons, List.filter_map]
  congr 2
  apply List.filter_congr
  intro q _
  simp only [Function.comp, xa_rv_cat, xa_beq, xa_cat2_iff']
theorem xa_lv_put2 (b base : Nat) (lv : List (Nat × Value)) (i : Nat) (v : Value) : (i, xa_rv b base v) :: (xa_lv b base lv).filter (fun q => !(q.1 == i) && (!(q.1 == i + 1) && !(q.1 + 1 == i && q.2.category == 2))) = xa_lv b base (xa_put2 lv i v) := by
  simp only [xa_put2, xa_lv, List.map_cons, List.filter_map]
  congr 2
  apply List.filter_congr
  intro q _
  simp only [Function.comp, xa_rv_cat, xa_beq, xa_cat2_iff']
/-! what a successful take says -/
theorem xa_pi_some {α : Type} {st : List Value} {k : Int32 → List Value → Option α} {o : α} (h : xa_pi st k = some o) : ∃ x st', st = .int x :: st' ∧ k x st' = some o := by
  unfold xa_pi at h
  split at h
  · exact ⟨_, _, rfl, h⟩
  · cases h
theorem xa_pl_some {α : Type} {st : List Value} {k : Int64 → List Value → Option α} {o : α} (h : xa_pl st k = some o) : ∃ x st', st = .long x :: st' ∧ k x st' = some o := by
  unfold xa_pl at h
  split at h
  · exact ⟨_, _, rfl, h⟩
  · cases h
theorem xa_pr_some {α : Type} {st : List Value} {k : Nat → List Value → Option α} {o : α} (h : xa_pr st k = some o) : ∃ x st', st = .ref x :: st' ∧ k x st' = some o := by
  unfold xa_pr at h
  split at h
  · exact ⟨_, _, rfl, h⟩
  · cases h
theorem xa_p1_some {α : Type} {st : List Value} {k : Value → List Value → Option α} {o : α} (h : xa_p1 st k = some o) : ∃ v st', st = v :: st' ∧ xa_cat2 v = false ∧ k v st' = some o := by
  unfold xa_p1 at h
  split at h
  · rename_i v st
    cases hc : xa_cat2 v with
    | true => rw [hc] at h; cases h
    | false => rw [hc] at h; exact ⟨v, st, rfl, hc, h⟩
  · cases h
theorem xa_pv_some {α : Type} {st : List Value} {k : Value → List Value → Option α} {o : α} (h : xa_pv st k = some o) : ∃ v st', st = v :: st' ∧ k v st' = some o := by
  unfold xa_pv at h
  split at h
  · exact ⟨_, _, rfl, h⟩
  · cases h
theorem xa_li_some {α : Type} {r : Nat} {lv : List (Nat × Value)} {k : Int32 → Option α} {o : α} (h : xa_li r lv k = some o) : ∃ x, xa_get r lv = some (.int x) ∧ k x = some o := by
  unfold xa_li at h
  split at h
  · exact ⟨_, by assumption, h⟩
  · cases h
theorem xa_ll_some {α : Type} {r : Nat} {lv : List (Nat × Value)} {k : Int64 → Option α} {o : α} (h : xa_ll r lv k = some o) : ∃ x, xa_get r lv = some (.long x) ∧ k x = some o := by
  unfold xa_ll at h
  split at h
  · exact ⟨_, by assumption, h⟩
  · cases h
theorem xa_lr_some {α : Type} {r : Nat} {lv : List (Nat × Value)} {k : Nat → Option α} {o : α} (h : xa_lr r lv k = some o) : ∃ x, xa_get r lv = some (.ref x) ∧ k x = some o := by
  unfold xa_lr at h
  split at h
  · exact ⟨_, by assumption, h⟩
  · cases h
theorem xa_if_some {α : Type} {c : Bool} {k : Option α} {o : α} (h : xa_if c k = some o) : c = true ∧ k = some o := by
  cases c with
  | true => exact ⟨rfl, h⟩
  | false => cases h
theorem xa_ai_some {α : Type} {h : List va_E} {a t : Nat} {k : Nat → Nat → (Nat → Int32) → Option α} {o : α} (e : xa_ai h a t k = some o) : ∃ j n f, a = j + 1 ∧ h[j]? = some (.inl (t, n, .inl f)) ∧ k j n f = some o := by
  unfold xa_ai at e
  split at e
  · cases e
  · split at e
    · rename_i t' n f hj
      obtain ⟨h1, h2⟩ := xa_if_some e
      have h3 : t' = t := Nat.eq_of_beq_eq_true h1
      subst h3
      exact ⟨_, n, f, rfl, hj, h2⟩
    · cases e
theorem xa_al_some {α : Type} {h : List va_E} {a : Nat} {k : Nat → Nat → (Nat → Int64) → Option α} {o : α} (e : xa_al h a k = some o) : ∃ j n f, a = j + 1 ∧ h[j]? = some (.inl (2, n, .inr (.inl f))) ∧ k j n f = some o := by
  unfold xa_al at e
  split at e
  · cases e
  · split at e
    · rename_i t' n f hj
      obtain ⟨h1, h2⟩ := xa_if_some e
      have h3 : t' = 2 := Nat.eq_of_beq_eq_true h1
      subst h3
      exact ⟨_, n, f, rfl, hj, h2⟩
    · cases e
theorem xa_ob_some {α : Type} {h : List va_E} {a ci : Nat} {k : Nat → List Value → Option α} {o : α} (e : xa_ob h a ci k = some o) : ∃ j fs, a = j + 1 ∧ h[j]? = some (.inr (ci, fs)) ∧ k j fs = some o := by
  unfold xa_ob at e
  split at e
  · cases e
  · split at e
    · rename_i c fs hj
      obtain ⟨h1, h2⟩ := xa_if_some e
      have h3 : c = ci := Nat.eq_of_beq_eq_true h1
      subst h3
      exact ⟨_, fs, rfl, hj, h2⟩
    · cases e
theorem xa_ln_some {α : Type} {L : Nat} {h : List va_E} {a : Nat} {k : Nat → Option α} {o : α} (e : xa_ln L h a k = some o) : (a = 0 ∧ k L = some o) ∨ ∃ (j t n : Nat) (y : (Nat → Int32) ⊕ (Nat → Int64) ⊕ (Nat → UInt32) ⊕ (Nat → UInt64) ⊕ (Nat → Option Nat)), a = j + 1 ∧ h[j]? = some (.inl (t, n, y)) ∧ k n = some o := by
  unfold xa_ln at e
  split at e
  · exact Or.inl ⟨rfl, e⟩
  · split at e
    · rename_i hj
      exact Or.inr ⟨_, _, _, _, rfl, hj, e⟩
    · cases e
theorem xa_is_some {α : Type} {L : Nat} {xs : Nat → Int32} {h : List va_E} {a : Nat} {k : Nat → (Nat → Int32) → Option α} {o : α} (e : xa_is L xs h a k = some o) : (a = 0 ∧ k L xs = some o) ∨ ∃ j n f, a = j + 1 ∧ h[j]? = some (.inl (0, n, .inl f)) ∧ k n f = some o := by
  unfold xa_is at e
  split at e
  · exact Or.inl ⟨rfl, e⟩
  · obtain ⟨j, n, f, h1, h2, h3⟩ := xa_ai_some e
    exact Or.inr ⟨j, n, f, h1, h2, h3⟩
theorem xa_fd_some {α : Type} {fs : List Value} {q : Nat} {k : Value → Option α} {o : α} (e : xa_fd fs q k = some o) : ∃ v, fs[q]? = some v ∧ k v = some o := by
  unfold xa_fd at e
  split at e
  · exact ⟨_, by assumption, e⟩
  · cases e
theorem xa_go_some {ip ip' : Nat} {lv lv' : List (Nat × Value)} {st st' : List Value} {h h' : List va_E} {k z : Nat} (e : xa_go ip lv st h = some (ip', lv', st', h', k, z)) : ip = ip' ∧ lv = lv' ∧ st = st' ∧ h = h' ∧ k = 0 ∧ z = 0 := by
  cases e
  exact ⟨rfl, rfl, rfl, rfl, rfl, rfl⟩
theorem xa_inB_vp {i : Int32} {n : Nat} (h : xa_inB i n = true) : vp_in i n := by
  unfold xa_inB at h
  intro hc
  simp only [Bool.not_eq_true', Bool.or_eq_false_iff, decide_eq_false_iff_not] at h
  exact hc.elim h.1 h.2
end
section
/-! THE ROWS ARE TRUE: what is checked of each row (by the kernel, once) -/
def xa_pc (M : xa_M) (ip : Nat) : Nat := match (xa_rows M)[ip]? with
  | some q => q.1
  | none => 0
def xa_tt (t : FieldType) : Nat := match t with
  | .int => 0
  | .long => 2
  | .boolean => 3
  | .object _ => 1
  | .array _ => 1
  | _ => 9
def xa_ta (t : Jvm.ClassFile.ArrayType) : Nat := match t with
  | .int => 0
  | .boolean => 1
  | .long => 2
  | _ => 9
def xa_ckF (cl : List vw_C) (r q : Nat) (k : String → u_T → Nat → Bool) : Bool := match cl[r]? with
  | some (C, T, N) => decide (q < N) && k C T N
  | none => false
def xa_tyD (d : String) : Nat := match parseFieldDescriptor d with
  | some t => xa_tt t
  | none => 9
def xa_ck (cl : List vw_C) (Ts : List Jvm.Cond) (M : xa_M) (pc : Nat) (i : Jvm.ClassFile.Instr) (len nip r q : Nat) (ts : List Nat) : Bool :=
  decide (decode (xa_by M) pc = .ok (i, len)) && match i with
  | .iconst n => decide (len = 1) && (decide (xa_pc M nip = pc + 1) && (decide (Int32.ofInt n = xa_con r q)))
  | .bipush n => decide (len = 2) && (decide (xa_pc M nip = pc + 2) && (decide ((Int8.ofInt n).toInt32 = xa_con r q)))
  | .sipush n => decide (len = 3) && (decide (xa_pc M nip = pc + 3) && (decide ((Int16.ofInt n).toInt32 = xa_con r q)))
  | .ldc x => decide (len = 2) && (decide (xa_pc M nip = pc + 2) && (decide (Jvm.Cond.constant (xa_nm M).cls x (xa_con r q) ∈ Ts)))
  | .ldc_w x => decide (len = 3) && (decide (xa_pc M nip = pc + 3) && (decide (Jvm.Cond.constant (xa_nm M).cls x (xa_con r q) ∈ Ts)))
  | .lconst n => decide (len = 1) && (decide (xa_pc M nip = pc + 1) && (decide (Int64.ofNat (n : Nat) = lN r)))
  | .ldc2_w x => decide (len = 3) && (decide (xa_pc M nip = pc + 3) && (decide (Jvm.Cond.constantLong (xa_nm M).cls x (lN r) ∈ Ts)))
  | .iload_n n => decide (len = 1) && (decide (xa_pc M nip = pc + 1) && (decide ((n : Nat) = r)))
  | .iload n => decide (len = 2) && (decide (xa_pc M nip = pc + 2) && (decide (n = r)))
  | .lload_n n => decide (len = 1) && (decide (xa_pc M nip = pc + 1) && (decide ((n : Nat) = r)))
  | .lload n => decide (len = 2) && (decide (xa_pc M nip = pc + 2) && (decide (n = r)))
  | .aload_n n => decide (len = 1) && (decide (xa_pc M nip = pc + 1) && (decide ((n : Nat) = r)))
  | .aload n => decide (len = 2) && (decide (xa_pc M nip = pc + 2) && (decide (n = r)))
  | .istore_n n => decide (len = 1) && (decide (xa_pc M nip = pc + 1) && (decide ((n : Nat) = r) && (decide (r < xa_mL M))))
  | .istore n => decide (len = 2) && (decide (xa_pc M nip = pc + 2) && (decide (n = r) && (decide (r < xa_mL M))))
  | .astore_n n => decide (len = 1) && (decide (xa_pc M nip = pc + 1) && (decide ((n : Nat) = r) && (decide (r < xa_mL M))))
  | .astore n => decide (len = 2) && (decide (xa_pc M nip = pc + 2) && (decide (n = r) && (decide (r < xa_mL M))))
  | .lstore_n n => decide (len = 1) && (decide (xa_pc M nip = pc + 1) && (decide ((n : Nat) = r) && (decide (r + 1 < xa_mL M))))
  | .lstore n => decide (len = 2) && (decide (xa_pc M nip = pc + 2) && (decide (n = r) && (decide (r + 1 < xa_mL M))))
  | .iinc n c => decide (len = 3) && (decide (xa_pc M nip = pc + 3) && (decide (n = r) && (decide (Int32.ofInt c = xa_con q ts.length) && (decide (r < xa_mL M)))))
  | .iadd => decide (len = 1) && (decide (xa_pc M nip = pc + 1))
  | .isub => decide (len = 1) && (decide (xa_pc M nip = pc + 1))
  | .imul => decide (len = 1) && (decide (xa_pc M nip = pc + 1))
  | .iand => decide (len = 1) && (decide (xa_pc M nip = pc + 1))
  | .idiv => decide (len = 1) && (decide (xa_pc M nip = pc + 1))
  | .irem => decide (len = 1) && (decide (xa_pc M nip = pc + 1))
  | .ineg => decide (len = 1) && (decide (xa_pc M nip = pc + 1))
  | .ladd => decide (len = 1) && (decide (xa_pc M nip = pc + 1))
  | .lsub => decide (len = 1) && (decide (xa_pc M nip = pc + 1))
  | .lmul => decide (len = 1) && (decide (xa_pc M nip = pc + 1))
  | .ldiv => decide (len = 1) && (decide (xa_pc M nip = pc + 1))
  | .lrem => decide (len = 1) && (decide (xa_pc M nip = pc + 1))
  | .lcmp => decide (len = 1) && (decide (xa_pc M nip = pc + 1))
  | .i2l => decide (len = 1) && (decide (xa_pc M nip = pc + 1))
  | .l2i => decide (len = 1) && (decide (xa_pc M nip = pc + 1))
  | .dup => decide (len = 1) && (decide (xa_pc M nip = pc + 1))
  | .pop => decide (len = 1) && (decide (xa_pc M nip = pc + 1))
  | .dup2 => decide (len = 1) && (decide (xa_pc M nip = pc + 1))
  | .arraylength => decide (len = 1) && (decide (xa_pc M nip = pc + 1))
  | .iaload => decide (len = 1) && (decide (xa_pc M nip = pc + 1))
  | .baload => decide (len = 1) && (decide (xa_pc M nip = pc + 1))
  | .laload => decide (len = 1) && (decide (xa_pc M nip = pc + 1))
  | .iastore => decide (len = 1) && (decide (xa_pc M nip = pc + 1))
  | .bastore => decide (len = 1) && (decide (xa_pc M nip = pc + 1))
  | .lastore => decide (len = 1) && (decide (xa_pc M nip = pc + 1))
  | .ifCond _ off => decide (len = 3) && (decide (xa_pc M nip = pc + 3) && (decide ((pc : Int) + off = (xa_pc M r : Int))))
  | .if_icmp _ off => decide (len = 3) && (decide (xa_pc M nip = pc + 3) && (decide ((pc : Int) + off = (xa_pc M r : Int))))
  | .goto off => decide (len = 3) && (decide ((pc : Int) + off = (xa_pc M r : Int)))
  | .tableswitch df lo hi offs => decide (lo = (r : Int)) && (decide (hi = (q : Int)) && (decide (q < 1000) && (decide (r ≤ q) && (decide ((pc : Int) + df = (xa_pc M (ts.headD 0) : Int)) && ((List.range (q - r + 1)).all (fun j => match offs[j]? with
    | some off => decide ((pc : Int) + off = (xa_pc M (ts.getD (j + 1) 0) : Int))
    | none => false))))))
  | .getfield x => decide (len = 3) && (decide (xa_pc M nip = pc + 3) && (xa_ckF cl r q (fun _ T _ => decide (Jvm.Cond.fieldLink (xa_nm M).cls x (T q).1 (T q).2.1 (T q).2.2.1 ∈ Ts))))
  | .putfield x => decide (len = 3) && (decide (xa_pc M nip = pc + 3) && (xa_ckF cl r q (fun _ T _ => decide (Jvm.Cond.fieldLink (xa_nm M).cls x (T q).1 (T q).2.1 (T q).2.2.1 ∈ Ts) && (decide (xa_tyD (T q).2.2.1 = ts.headD 9) && (!(T q).2.2.2 || (decide ((xa_nm M).name = "<init>") && decide ((T q).1 = (xa_nm M).cls)))))))
  | .newarray t => decide (len = 2) && (decide (xa_pc M nip = pc + 2) && (decide (xa_ta t = r) && (decide (r < 3) && (decide (Jvm.Cond.arrayClass (newarray.typeOf t) ∈ Ts)))))
  | .new x => decide (len = 3) && (decide (xa_pc M nip = pc + 3) && ((match cl[r]? with
    | some (C, T, N) => decide (N = ts.length) && (decide (Jvm.Cond.classLink (xa_nm M).cls x C ∈ Ts) && (decide (Jvm.Cond.instantiable C N ∈ Ts) && (decide (Jvm.Cond.initialized C ∈ Ts) && (List.range N).all (fun j => decide (xa_tyD (T j).2.2.1 = ts.getD j 9) && decide (xa_tyD (T j).2.2.1 < 4)))))
    | none => false)))
  | .invokespecial x => decide (len = 3) && (decide (xa_pc M nip = pc + 3) && (decide (r = 1000) && (decide (Jvm.Cond.methodLink (xa_nm M).cls x Lib.objectInit ∈ Ts) && (decide (Jvm.Cond.instanceMethod Lib.objectInit ∈ Ts) && (decide (Jvm.Cond.code Lib.objectInit ⟨#[0xb1]⟩ 1 none ∈ Ts))))))
  | .invokestatic x => decide (len = 3) && (decide (xa_pc M nip = pc + 3) && (match r with
    | 1001 => decide (Jvm.Cond.methodLink (xa_nm M).cls x Lib.Math.abs.name ∈ Ts) && (decide (Jvm.Cond.static Lib.Math.abs.name ∈ Ts) && (decide (Jvm.Cond.initialized "java/lang/Math" ∈ Ts) && decide (Jvm.Cond.code Lib.Math.abs.name Lib.Math.abs.code 1 (some .int) ∈ Ts)))
    | 1002 => decide (Jvm.Cond.methodLink (xa_nm M).cls x arraycopyName ∈ Ts) && (decide (Jvm.Cond.native arraycopyName ∈ Ts) && (decide (Jvm.Cond.static arraycopyName ∈ Ts) && decide (Jvm.Cond.initialized "java/lang/System" ∈ Ts)))
    | _ => false))
  | _ => false
/-- of the classes: their fields' words are there, their types are types, their names differ -/
def xa_ckC (cl : List vw_C) (Ts : List Jvm.Cond) : Bool := cl.all fun q => (List.range q.2.2).all fun k => decide (u_lay q.1 q.2.1 k ∈ Ts) && ((parseFieldDescriptor (q.2.1 k).2.2.1).isSome && (List.range q.2.2).all fun j => decide (k = j) || !decide ((q.2.1 k).2.1 = (q.2.1 j).2.1))
def xa_ty0 (T : u_T) (k : Nat) : FieldType := (parseFieldDescriptor (T k).2.2.1).getD .int
theorem xa_ckC_in {cl : List vw_C} {Ts : List Jvm.Cond} (h : xa_ckC cl Ts = true) {r : Nat} {C : String} {T : u_T} {N : Nat} (hr : cl[r]? = some (C, T, N)) : (∀ w ∈ u_ws C T N, w ∈ Ts) ∧ (∀ k, k < N → parseFieldDescriptor (T k).2.2.1 = some (xa_ty0 T k)) ∧ (∀ a, a < N → ∀ b, b < N → a ≠ b → (T a).2.1 ≠ (T b).2.1) := by
  have h1 := List.all_eq_true.mp h _ (List.mem_of_getElem? hr)
  have h2 : ∀ k, k < N → u_lay C T k ∈ Ts ∧ (parseFieldDescriptor (T k).2.2.1).isSome = true ∧ ∀ j, j < N → k = j ∨ ¬ (T k).2.1 = (T j).2.1 := by
    intro k hk
    have h3 := List.all_eq_true.mp h1 k (List.mem_range.mpr hk)
    simp only [Bool.and_eq_true, decide_eq_true_eq] at h3
    refine ⟨h3.1, h3.2.1, fun j hj => ?_⟩
    have h4 := List.all_eq_true.mp h3.2.2 j (List.mem_range.mpr hj)
    simpa using h4
  refine ⟨fun w hw => ?_, fun k hk => ?_, fun a ha b hb hab => ?_⟩
  · obtain ⟨k, hk, rfl⟩ := List.mem_map.mp hw
    exact (h2 k (List.mem_range.mp hk)).1
  · obtain ⟨t, ht⟩ := Option.isSome_iff_exists.mp (h2 k hk).2.1
    rw [xa_ty0, ht]; rfl
  · exact ((h2 a ha).2.2 b hb).resolve_left hab
end
section
/-! A PLAIN ROW: the real machine follows -/
/-- what holds in a frame of the method M -/
def xa_Fr (D : va_G) (cl : List vw_C) (Ts : List Jvm.Cond) (cs : ClassId × ClassId × ClassId) (b base L : Nat) (xs : Nat → Int32) (M : xa_M) (p : Program) (s : State) (m : MethodId) (args : Array Value) (meth : Method) (c : Code) : Prop :=
  p.tables.exec = Jvm.exec ∧ c.code = xa_by M ∧ c.maxLocals = xa_mL M ∧ s.vm.findClass (xa_nm M).cls = some m.cls ∧ (∀ w ∈ Ts, w.before args s = true) ∧ va_K D cl (xa_tys cs) s ∧ va_X b L xs s s.heap ∧ b < base ∧ base ≤ s.heap.size ∧ meth.locks = false ∧ meth.sig.returnType = xa_rt M ∧ meth.name = (xa_nm M).name ∧ c.exceptionTable.toList = tableOf (xa_hh M)
section XSim
variable {p : Program} {l : Launch} {e : Env} {R : Room} {s : State} {m : MethodId} {args : Array Value} {below : List Frame} {meth : Method} {c : Code} {H : Heap} {locs : List Loc} {cells slots : Nat} {Q : State → Prop}
variable {D : va_G} {cl : List vw_C} {Ts : List Jvm.Cond} {cs : ClassId × ClassId × ClassId} {b base L : Nat} {xs : Nat → Int32} {M : xa_M} {ls : Array Slot} {pc : Nat} {rest : List Value}
theorem xa_ldcw {own : String} {index : Nat} {v : Int32} (hx : p.tables.exec = Jvm.exec) (hb : c.code = xa_by M) (hown : s.vm.findClass own = some m.cls) (hconst : (Jvm.Cond.constant own index v).before args s = true) (hd : decode (xa_by M) pc = .ok (.ldc_w index, 3))
    (k : W p l e R s m args below meth c H locs cells slots Q (F0 m (pc + 3) ls (.int v :: rest))) : W p l e R s m args below meth c H locs cells slots Q (F0 m pc ls rest) := by
  intro T hT X
  obtain ⟨t, a, h⟩ := k T hT X
  exact ⟨t, va_ldcwI X hx hown hconst (g := F0 m pc ls rest) rfl (by rw [hb]; exact hd) t a, h⟩
theorem xa_Mt.set {h : List va_E} {H H1 : Heap} {k : Nat} {e : va_E} (hM : xa_Mt D cl cs b base h H) (hP : va_P D cl ((xa_W cs b base h).set k (base + k, xa_re cs b base e)) H1) (hz : H.size ≤ H1.size) : xa_Mt D cl cs b base (h.set k e) H1 := by
  refine ⟨by rw [List.length_set]; exact Nat.le_trans hM.1 hz, ?_⟩
  rw [xa_W_set]
  exact hP
theorem xa_Mt.push {h : List va_E} {H H1 : Heap} {e : va_E} (hM : xa_Mt D cl cs b base h H) (hz : H1.size = base + h.length + 1) (ho : ∀ q, q < H.size → H1[q]? = H[q]?) (he : va_at D cl (base + h.length, xa_re cs b base e) H1) : xa_Mt D cl cs b base (h ++ [e]) H1 := by
  refine ⟨by rw [hz, List.length_append]; exact Nat.le_refl _, ?_⟩
  rw [xa_W_push]
  refine va_P.app (hM.2.kept fun k q hk => ho q.1 (hM.2 k q hk).lt) (fun k q hk => ?_)
  have h1 : k < 1 := (List.getElem?_eq_some_iff.mp hk).1
  rw [show k = 0 by omega] at hk
  cases hk
  exact he
theorem xa_S.two {A : Nat → Prop} {H0 H H1 : Heap} {locs locs1 : List Loc} (h : va_S A H0 H locs) (h1 : va_S A H H1 locs1) : va_S A H0 H1 locs1 :=
  ⟨Nat.le_trans h.1 h1.1, fun q hq hA => (h1.2.1 q (Nat.lt_of_lt_of_le hq h.1) hA).trans (h.2.1 q hq hA), h1.2.2⟩
theorem xa_S.now {A : Nat → Prop} {H0 H : Heap} {locs : List Loc} (h : va_S A H0 H locs) : va_S A H H locs := ⟨Nat.le_refl _, fun _ _ _ => rfl, h.2.2⟩
theorem xa_S.push {A : Nat → Prop} {H0 H H1 : Heap} {locs : List Loc} (h : va_S A H0 H locs) (hz : H.size ≤ H1.size) (ho : ∀ q, q < H.size → H1[q]? = H[q]?) : va_S A H0 H1 locs :=
  ⟨Nat.le_trans h.1 hz, fun q hq hA => (ho q (Nat.lt_of_lt_of_le hq h.1)).trans (h.2.1 q hq hA), h.2.2⟩
theorem xa_tys_at (cs : ClassId × ClassId × ClassId) (t : Nat) : ∃ (t0 : Nat) (ty : FieldType), (xa_tys cs)[t0]? = some (xa_tag cs t, ty) := by
  match t with
  | 0 => exact ⟨0, _, rfl⟩
  | 1 => exact ⟨1, _, rfl⟩
  | _ + 2 => exact ⟨2, _, rfl⟩
theorem xa_fits {d : String} {ty : FieldType} {t : Nat} {v : Value} (hp : parseFieldDescriptor d = some ty) (ht : xa_tyD d = t) (hf : xa_fit t v = true) : narrow ty (xa_rv b base v) = xa_rv b base v ∧ fits ty (xa_rv b base v) = true := by
  have h1 : xa_tt ty = t := by rw [xa_tyD, hp] at ht; exact ht
  subst h1
  cases v with
  | int x => cases ty <;> first
    | exact ⟨rfl, rfl⟩
    | (simp [xa_tt, xa_fit] at hf; done)
    | (have hx : x = 0 ∨ x = 1 := by simpa [xa_tt, xa_fit] using hf
       rcases hx with rfl | rfl <;> exact ⟨rfl, rfl⟩)
  | long x => cases ty <;> first
    | exact ⟨rfl, rfl⟩
    | (simp [xa_tt, xa_fit] at hf; done)
  | ref a => cases ty <;> first
    | (simp [xa_tt, xa_fit] at hf; done)
    | (cases a <;> exact ⟨rfl, rfl⟩)
  | _ => cases ty <;> (simp [xa_tt, xa_fit] at hf)

theorem xa_con0 {r : Nat} (h : r < 2 ^ 31) : (xa_con r 0).toInt = (r : Int) := nI_toInt h
theorem xa_sw_out {r q : Nat} {x : Int32} (hr : r < 2 ^ 31) (hq : q < 2 ^ 31) (h : x < xa_con r 0 ∨ xa_con q 0 < x) : x.toInt < (r : Int) ∨ (q : Int) < x.toInt := by
  rcases h with h | h
  · have := Int32.lt_iff_toInt_lt.mp h
    rw [xa_con0 hr] at this
    exact Or.inl this
  · have := Int32.lt_iff_toInt_lt.mp h
    rw [xa_con0 hq] at this
    exact Or.inr this
theorem xa_sw_in {r q : Nat} {x : Int32} (hr : r < 2 ^ 31) (hq : q < 2 ^ 31) (h : ¬ (x < xa_con r 0 ∨ xa_con q 0 < x)) : ¬ x.toInt < (r : Int) ∧ ¬ (q : Int) < x.toInt ∧ (x.toInt - (r : Int)).toNat = x.toNatClampNeg - r ∧ x.toNatClampNeg - r < q - r + 1 := by
  have h1 : ¬ x.toInt < (r : Int) := fun hc => h (Or.inl (Int32.lt_iff_toInt_lt.mpr (by rw [xa_con0 hr]; exact hc)))
  have h2 : ¬ (q : Int) < x.toInt := fun hc => h (Or.inr (Int32.lt_iff_toInt_lt.mpr (by rw [xa_con0 hq]; exact hc)))
  have h3 : x.toNatClampNeg = x.toInt.toNat := rfl
  refine ⟨h1, h2, ?_, ?_⟩
  · rw [h3]; omega
  · rw [h3]; omega
theorem xa_dflt_ok {d : String} {ty : FieldType} {ts : List Nat} {k : Nat} (hp : parseFieldDescriptor d = some ty) (ht : xa_tyD d = ts.getD k 9) (h4 : xa_tyD d < 4) (hk : k < ts.length) : defaultValue ty = vp_V ((ts.map xa_dflt).map (xa_rv b base)) k := by
  have h1 : xa_tt ty = ts.getD k 9 := by rw [xa_tyD, hp] at ht; exact ht
  have h2 : xa_tt ty < 4 := by rw [xa_tyD, hp] at h4; exact h4
  have h3 : vp_V ((ts.map xa_dflt).map (xa_rv b base)) k = xa_rv b base (xa_dflt (ts.getD k 9)) := by
    simp [vp_V, hk]
  rw [h3, ← h1]
  cases ty <;> first | rfl | (simp [xa_tt] at h2)

set_option maxHeartbeats 1000000 in
theorem xs_iconst {n : Int} {len nip r q : Nat} {ts : List Nat} {lv lv' : List (Nat × Value)} {st st' : List Value} {h h' : List va_E} {ip' k z : Nat} (hC : xa_ckC cl Ts = true)
    (F : xa_Fr D cl Ts cs b base L xs M p s m args meth c) (hck : xa_ck cl Ts M pc (.iconst n) len nip r q ts = true) (hn : xa_nx L xs (.iconst n) nip r q ts lv st h = some (ip', lv', st', h', k, z))
    (hl : lv_has ls (xa_mL M) (xa_lv b base lv)) (hM : xa_Mt D cl cs b base h H) (hS : va_S (xa_A base) s.heap H locs) (hcs : s.heap.size + cells ≤ base + h.length) (hc : cells + k ≤ R.cells) (hz : slots + z ≤ R.slots) (hro : xa_kind (.iconst n) r q = 4 → 1 ≤ R.frames ∧ 30 ≤ R.locals)
    (kk : ∀ (pc' : Nat) (ls' : Array Slot) (H' : Heap) (locs' : List Loc), xa_pc M ip' = pc' → lv_has ls' (xa_mL M) (xa_lv b base lv') → xa_Mt D cl cs b base h' H' → va_S (xa_A base) s.heap H' locs' →
      W p l e R s m args below meth c H' locs' (cells + k) (slots + z) Q (F0 m pc' ls' (st'.map (xa_rv b base)))) :
    W p l e R s m args below meth c H locs cells slots Q (F0 m pc ls (st.map (xa_rv b base))) := by
  obtain ⟨hx, hb, hml, hown, hts, hK, hX, hbb, hbs, hlk, hrt, hnm, hxt⟩ := F
  have hD := xa_W_D cs b base h
  have hA : ∀ q, s.heap.size ≤ q → xa_A base q := fun q hq => Nat.le_trans hbs hq
  have hbA : ¬ xa_A base b := Nat.not_le.mpr hbb
  have hbl : b < s.heap.size := Nat.lt_of_lt_of_le hbb hbs
  unfold xa_ck at hck
  rw [Bool.and_eq_true, decide_eq_true_eq] at hck
  obtain ⟨hd, hck⟩ := hck
  simp only [Bool.and_eq_true, decide_eq_true_eq] at hck
  obtain ⟨rfl, hp, hv⟩ := hck
  obtain ⟨rfl, rfl, rfl, rfl, rfl, rfl⟩ := xa_go_some hn
  refine lv_iconst hx hb hd hv ?_
  exact kk _ ls H locs hp hl hM hS
set_option maxHeartbeats 1000000 in
theorem xs_bipush {n : Int} {len nip r q : Nat} {ts : List Nat} {lv lv' : List (Nat × Value)} {st st' : List Value} {h h' : List va_E} {ip' k z : Nat} (hC : xa_ckC cl Ts = true)
    (F : xa_Fr D cl Ts cs b base L xs M p s m args meth c) (hck : xa_ck cl Ts M pc (.bipush n) len nip r q ts = true) (hn : xa_nx L xs (.bipush n) nip r q ts lv st h = some (ip', lv', st', h', k, z))
    (hl : lv_has ls (xa_mL M) (xa_lv b base lv)) (hM : xa_Mt D cl cs b base h H) (hS : va_S (xa_A base) s.heap H locs) (hcs : s.heap.size + cells ≤ base + h.length) (hc : cells + k ≤ R.cells) (hz : slots + z ≤ R.slots) (hro : xa_kind (.bipush n) r q = 4 → 1 ≤ R.frames ∧ 30 ≤ R.locals)
    (kk : ∀ (pc' : Nat) (ls' : Array Slot) (H' : Heap) (locs' : List Loc), xa_pc M ip' = pc' → lv_has ls' (xa_mL M) (xa_lv b base lv') → xa_Mt D cl cs b base h' H' → va_S (xa_A base) s.heap H' locs' →
      W p l e R s m args below meth c H' locs' (cells + k) (slots + z) Q (F0 m pc' ls' (st'.map (xa_rv b base)))) :
    W p l e R s m args below meth c H locs cells slots Q (F0 m pc ls (st.map (xa_rv b base))) := by
  obtain ⟨hx, hb, hml, hown, hts, hK, hX, hbb, hbs, hlk, hrt, hnm, hxt⟩ := F
  have hD := xa_W_D cs b base h
  have hA : ∀ q, s.heap.size ≤ q → xa_A base q := fun q hq => Nat.le_trans hbs hq
  have hbA : ¬ xa_A base b := Nat.not_le.mpr hbb
  have hbl : b < s.heap.size := Nat.lt_of_lt_of_le hbb hbs
  unfold xa_ck at hck
  rw [Bool.and_eq_true, decide_eq_true_eq] at hck
  obtain ⟨hd, hck⟩ := hck
  simp only [Bool.and_eq_true, decide_eq_true_eq] at hck
  obtain ⟨rfl, hp, hv⟩ := hck
  obtain ⟨rfl, rfl, rfl, rfl, rfl, rfl⟩ := xa_go_some hn
  refine lv_bipush hx hb hd hv ?_
  exact kk _ ls H locs hp hl hM hS
set_option maxHeartbeats 1000000 in
theorem xs_sipush {n : Int} {len nip r q : Nat} {ts : List Nat} {lv lv' : List (Nat × Value)} {st st' : List Value} {h h' : List va_E} {ip' k z : Nat} (hC : xa_ckC cl Ts = true)
    (F : xa_Fr D cl Ts cs b base L xs M p s m args meth c) (hck : xa_ck cl Ts M pc (.sipush n) len nip r q ts = true) (hn : xa_nx L xs (.sipush n) nip r q ts lv st h = some (ip', lv', st', h', k, z))
    (hl : lv_has ls (xa_mL M) (xa_lv b base lv)) (hM : xa_Mt D cl cs b base h H) (hS : va_S (xa_A base) s.heap H locs) (hcs : s.heap.size + cells ≤ base + h.length) (hc : cells + k ≤ R.cells) (hz : slots + z ≤ R.slots) (hro : xa_kind (.sipush n) r q = 4 → 1 ≤ R.frames ∧ 30 ≤ R.locals)
    (kk : ∀ (pc' : Nat) (ls' : Array Slot) (H' : Heap) (locs' : List Loc), xa_pc M ip' = pc' → lv_has ls' (xa_mL M) (xa_lv b base lv') → xa_Mt D cl cs b base h' H' → va_S (xa_A base) s.heap H' locs' →
      W p l e R s m args below meth c H' locs' (cells + k) (slots + z) Q (F0 m pc' ls' (st'.map (xa_rv b base)))) :
    W p l e R s m args below meth c H locs cells slots Q (F0 m pc ls (st.map (xa_rv b base))) := by
  obtain ⟨hx, hb, hml, hown, hts, hK, hX, hbb, hbs, hlk, hrt, hnm, hxt⟩ := F
  have hD := xa_W_D cs b base h
  have hA : ∀ q, s.heap.size ≤ q → xa_A base q := fun q hq => Nat.le_trans hbs hq
  have hbA : ¬ xa_A base b := Nat.not_le.mpr hbb
  have hbl : b < s.heap.size := Nat.lt_of_lt_of_le hbb hbs
  unfold xa_ck at hck
  rw [Bool.and_eq_true, decide_eq_true_eq] at hck
  obtain ⟨hd, hck⟩ := hck
  simp only [Bool.and_eq_true, decide_eq_true_eq] at hck
  obtain ⟨rfl, hp, hv⟩ := hck
  obtain ⟨rfl, rfl, rfl, rfl, rfl, rfl⟩ := xa_go_some hn
  refine lv_sipush hx hb hd hv ?_
  exact kk _ ls H locs hp hl hM hS
set_option maxHeartbeats 1000000 in
theorem xs_ldc {x : Nat} {len nip r q : Nat} {ts : List Nat} {lv lv' : List (Nat × Value)} {st st' : List Value} {h h' : List va_E} {ip' k z : Nat} (hC : xa_ckC cl Ts = true)
    (F : xa_Fr D cl Ts cs b base L xs M p s m args meth c) (hck : xa_ck cl Ts M pc (.ldc x) len nip r q ts = true) (hn : xa_nx L xs (.ldc x) nip r q ts lv st h = some (ip', lv', st', h', k, z))
    (hl : lv_has ls (xa_mL M) (xa_lv b base lv)) (hM : xa_Mt D cl cs b base h H) (hS : va_S (xa_A base) s.heap H locs) (hcs : s.heap.size + cells ≤ base + h.length) (hc : cells + k ≤ R.cells) (hz : slots + z ≤ R.slots) (hro : xa_kind (.ldc x) r q = 4 → 1 ≤ R.frames ∧ 30 ≤ R.locals)
    (kk : ∀ (pc' : Nat) (ls' : Array Slot) (H' : Heap) (locs' : List Loc), xa_pc M ip' = pc' → lv_has ls' (xa_mL M) (xa_lv b base lv') → xa_Mt D cl cs b base h' H' → va_S (xa_A base) s.heap H' locs' →
      W p l e R s m args below meth c H' locs' (cells + k) (slots + z) Q (F0 m pc' ls' (st'.map (xa_rv b base)))) :
    W p l e R s m args below meth c H locs cells slots Q (F0 m pc ls (st.map (xa_rv b base))) := by
  obtain ⟨hx, hb, hml, hown, hts, hK, hX, hbb, hbs, hlk, hrt, hnm, hxt⟩ := F
  have hD := xa_W_D cs b base h
  have hA : ∀ q, s.heap.size ≤ q → xa_A base q := fun q hq => Nat.le_trans hbs hq
  have hbA : ¬ xa_A base b := Nat.not_le.mpr hbb
  have hbl : b < s.heap.size := Nat.lt_of_lt_of_le hbb hbs
  unfold xa_ck at hck
  rw [Bool.and_eq_true, decide_eq_true_eq] at hck
  obtain ⟨hd, hck⟩ := hck
  simp only [Bool.and_eq_true, decide_eq_true_eq] at hck
  obtain ⟨rfl, hp, hv⟩ := hck
  obtain ⟨rfl, rfl, rfl, rfl, rfl, rfl⟩ := xa_go_some hn
  refine W.ldc hx hb hown (hts _ hv) rfl hd ?_
  exact kk _ ls H locs hp hl hM hS
set_option maxHeartbeats 1000000 in
theorem xs_ldc_w {x : Nat} {len nip r q : Nat} {ts : List Nat} {lv lv' : List (Nat × Value)} {st st' : List Value} {h h' : List va_E} {ip' k z : Nat} (hC : xa_ckC cl Ts = true)
    (F : xa_Fr D cl Ts cs b base L xs M p s m args meth c) (hck : xa_ck cl Ts M pc (.ldc_w x) len nip r q ts = true) (hn : xa_nx L xs (.ldc_w x) nip r q ts lv st h = some (ip', lv', st', h', k, z))
    (hl : lv_has ls (xa_mL M) (xa_lv b base lv)) (hM : xa_Mt D cl cs b base h H) (hS : va_S (xa_A base) s.heap H locs) (hcs : s.heap.size + cells ≤ base + h.length) (hc : cells + k ≤ R.cells) (hz : slots + z ≤ R.slots) (hro : xa_kind (.ldc_w x) r q = 4 → 1 ≤ R.frames ∧ 30 ≤ R.locals)
    (kk : ∀ (pc' : Nat) (ls' : Array Slot) (H' : Heap) (locs' : List Loc), xa_pc M ip' = pc' → lv_has ls' (xa_mL M) (xa_lv b base lv') → xa_Mt D cl cs b base h' H' → va_S (xa_A base) s.heap H' locs' →
      W p l e R s m args below meth c H' locs' (cells + k) (slots + z) Q (F0 m pc' ls' (st'.map (xa_rv b base)))) :
    W p l e R s m args below meth c H locs cells slots Q (F0 m pc ls (st.map (xa_rv b base))) := by
  obtain ⟨hx, hb, hml, hown, hts, hK, hX, hbb, hbs, hlk, hrt, hnm, hxt⟩ := F
  have hD := xa_W_D cs b base h
  have hA : ∀ q, s.heap.size ≤ q → xa_A base q := fun q hq => Nat.le_trans hbs hq
  have hbA : ¬ xa_A base b := Nat.not_le.mpr hbb
  have hbl : b < s.heap.size := Nat.lt_of_lt_of_le hbb hbs
  unfold xa_ck at hck
  rw [Bool.and_eq_true, decide_eq_true_eq] at hck
  obtain ⟨hd, hck⟩ := hck
  simp only [Bool.and_eq_true, decide_eq_true_eq] at hck
  obtain ⟨rfl, hp, hv⟩ := hck
  obtain ⟨rfl, rfl, rfl, rfl, rfl, rfl⟩ := xa_go_some hn
  refine xa_ldcw hx hb hown (hts _ hv) hd ?_
  exact kk _ ls H locs hp hl hM hS
set_option maxHeartbeats 1000000 in
theorem xs_lconst {n : Fin 2} {len nip r q : Nat} {ts : List Nat} {lv lv' : List (Nat × Value)} {st st' : List Value} {h h' : List va_E} {ip' k z : Nat} (hC : xa_ckC cl Ts = true)
    (F : xa_Fr D cl Ts cs b base L xs M p s m args meth c) (hck : xa_ck cl Ts M pc (.lconst n) len nip r q ts = true) (hn : xa_nx L xs (.lconst n) nip r q ts lv st h = some (ip', lv', st', h', k, z))
    (hl : lv_has ls (xa_mL M) (xa_lv b base lv)) (hM : xa_Mt D cl cs b base h H) (hS : va_S (xa_A base) s.heap H locs) (hcs : s.heap.size + cells ≤ base + h.length) (hc : cells + k ≤ R.cells) (hz : slots + z ≤ R.slots) (hro : xa_kind (.lconst n) r q = 4 → 1 ≤ R.frames ∧ 30 ≤ R.locals)
    (kk : ∀ (pc' : Nat) (ls' : Array Slot) (H' : Heap) (locs' : List Loc), xa_pc M ip' = pc' → lv_has ls' (xa_mL M) (xa_lv b base lv') → xa_Mt D cl cs b base h' H' → va_S (xa_A base) s.heap H' locs' →
      W p l e R s m args below meth c H' locs' (cells + k) (slots + z) Q (F0 m pc' ls' (st'.map (xa_rv b base)))) :
    W p l e R s m args below meth c H locs cells slots Q (F0 m pc ls (st.map (xa_rv b base))) := by
  obtain ⟨hx, hb, hml, hown, hts, hK, hX, hbb, hbs, hlk, hrt, hnm, hxt⟩ := F
  have hD := xa_W_D cs b base h
  have hA : ∀ q, s.heap.size ≤ q → xa_A base q := fun q hq => Nat.le_trans hbs hq
  have hbA : ¬ xa_A base b := Nat.not_le.mpr hbb
  have hbl : b < s.heap.size := Nat.lt_of_lt_of_le hbb hbs
  unfold xa_ck at hck
  rw [Bool.and_eq_true, decide_eq_true_eq] at hck
  obtain ⟨hd, hck⟩ := hck
  simp only [Bool.and_eq_true, decide_eq_true_eq] at hck
  obtain ⟨rfl, hp, hv⟩ := hck
  obtain ⟨rfl, rfl, rfl, rfl, rfl, rfl⟩ := xa_go_some hn
  refine lv_lconst hx hb hd hv ?_
  exact kk _ ls H locs hp hl hM hS
set_option maxHeartbeats 1000000 in
theorem xs_ldc2_w {x : Nat} {len nip r q : Nat} {ts : List Nat} {lv lv' : List (Nat × Value)} {st st' : List Value} {h h' : List va_E} {ip' k z : Nat} (hC : xa_ckC cl Ts = true)
    (F : xa_Fr D cl Ts cs b base L xs M p s m args meth c) (hck : xa_ck cl Ts M pc (.ldc2_w x) len nip r q ts = true) (hn : xa_nx L xs (.ldc2_w x) nip r q ts lv st h = some (ip', lv', st', h', k, z))
    (hl : lv_has ls (xa_mL M) (xa_lv b base lv)) (hM : xa_Mt D cl cs b base h H) (hS : va_S (xa_A base) s.heap H locs) (hcs : s.heap.size + cells ≤ base + h.length) (hc : cells + k ≤ R.cells) (hz : slots + z ≤ R.slots) (hro : xa_kind (.ldc2_w x) r q = 4 → 1 ≤ R.frames ∧ 30 ≤ R.locals)
    (kk : ∀ (pc' : Nat) (ls' : Array Slot) (H' : Heap) (locs' : List Loc), xa_pc M ip' = pc' → lv_has ls' (xa_mL M) (xa_lv b base lv') → xa_Mt D cl cs b base h' H' → va_S (xa_A base) s.heap H' locs' →
      W p l e R s m args below meth c H' locs' (cells + k) (slots + z) Q (F0 m pc' ls' (st'.map (xa_rv b base)))) :
    W p l e R s m args below meth c H locs cells slots Q (F0 m pc ls (st.map (xa_rv b base))) := by
  obtain ⟨hx, hb, hml, hown, hts, hK, hX, hbb, hbs, hlk, hrt, hnm, hxt⟩ := F
  have hD := xa_W_D cs b base h
  have hA : ∀ q, s.heap.size ≤ q → xa_A base q := fun q hq => Nat.le_trans hbs hq
  have hbA : ¬ xa_A base b := Nat.not_le.mpr hbb
  have hbl : b < s.heap.size := Nat.lt_of_lt_of_le hbb hbs
  unfold xa_ck at hck
  rw [Bool.and_eq_true, decide_eq_true_eq] at hck
  obtain ⟨hd, hck⟩ := hck
  simp only [Bool.and_eq_true, decide_eq_true_eq] at hck
  obtain ⟨rfl, hp, hv⟩ := hck
  obtain ⟨rfl, rfl, rfl, rfl, rfl, rfl⟩ := xa_go_some hn
  refine W.ldc2 hx hb hown (hts _ hv) rfl hd ?_
  exact kk _ ls H locs hp hl hM hS
set_option maxHeartbeats 1000000 in
theorem xs_iload_n {n : Fin 4} {len nip r q : Nat} {ts : List Nat} {lv lv' : List (Nat × Value)} {st st' : List Value} {h h' : List va_E} {ip' k z : Nat} (hC : xa_ckC cl Ts = true)
    (F : xa_Fr D cl Ts cs b base L xs M p s m args meth c) (hck : xa_ck cl Ts M pc (.iload_n n) len nip r q ts = true) (hn : xa_nx L xs (.iload_n n) nip r q ts lv st h = some (ip', lv', st', h', k, z))
    (hl : lv_has ls (xa_mL M) (xa_lv b base lv)) (hM : xa_Mt D cl cs b base h H) (hS : va_S (xa_A base) s.heap H locs) (hcs : s.heap.size + cells ≤ base + h.length) (hc : cells + k ≤ R.cells) (hz : slots + z ≤ R.slots) (hro : xa_kind (.iload_n n) r q = 4 → 1 ≤ R.frames ∧ 30 ≤ R.locals)
    (kk : ∀ (pc' : Nat) (ls' : Array Slot) (H' : Heap) (locs' : List Loc), xa_pc M ip' = pc' → lv_has ls' (xa_mL M) (xa_lv b base lv') → xa_Mt D cl cs b base h' H' → va_S (xa_A base) s.heap H' locs' →
      W p l e R s m args below meth c H' locs' (cells + k) (slots + z) Q (F0 m pc' ls' (st'.map (xa_rv b base)))) :
    W p l e R s m args below meth c H locs cells slots Q (F0 m pc ls (st.map (xa_rv b base))) := by
  obtain ⟨hx, hb, hml, hown, hts, hK, hX, hbb, hbs, hlk, hrt, hnm, hxt⟩ := F
  have hD := xa_W_D cs b base h
  have hA : ∀ q, s.heap.size ≤ q → xa_A base q := fun q hq => Nat.le_trans hbs hq
  have hbA : ¬ xa_A base b := Nat.not_le.mpr hbb
  have hbl : b < s.heap.size := Nat.lt_of_lt_of_le hbb hbs
  unfold xa_ck at hck
  rw [Bool.and_eq_true, decide_eq_true_eq] at hck
  obtain ⟨hd, hck⟩ := hck
  simp only [Bool.and_eq_true, decide_eq_true_eq] at hck
  obtain ⟨rfl, hp, hv⟩ := hck
  obtain ⟨x, hg, hn⟩ := xa_li_some hn
  obtain ⟨rfl, rfl, rfl, rfl, rfl, rfl⟩ := xa_go_some hn
  refine lv_iload_n hx hb hd hv (xa_slot hl hg) ?_
  exact kk _ ls H locs hp hl hM hS
set_option maxHeartbeats 1000000 in
theorem xs_iload {n : Nat} {len nip r q : Nat} {ts : List Nat} {lv lv' : List (Nat × Value)} {st st' : List Value} {h h' : List va_E} {ip' k z : Nat} (hC : xa_ckC cl Ts = true)
    (F : xa_Fr D cl Ts cs b base L xs M p s m args meth c) (hck : xa_ck cl Ts M pc (.iload n) len nip r q ts = true) (hn : xa_nx L xs (.iload n) nip r q ts lv st h = some (ip', lv', st', h', k, z))
    (hl : lv_has ls (xa_mL M) (xa_lv b base lv)) (hM : xa_Mt D cl cs b base h H) (hS : va_S (xa_A base) s.heap H locs) (hcs : s.heap.size + cells ≤ base + h.length) (hc : cells + k ≤ R.cells) (hz : slots + z ≤ R.slots) (hro : xa_kind (.iload n) r q = 4 → 1 ≤ R.frames ∧ 30 ≤ R.locals)
    (kk : ∀ (pc' : Nat) (ls' : Array Slot) (H' : Heap) (locs' : List Loc), xa_pc M ip' = pc' → lv_has ls' (xa_mL M) (xa_lv b base lv') → xa_Mt D cl cs b base h' H' → va_S (xa_A base) s.heap H' locs' →
      W p l e R s m args below meth c H' locs' (cells + k) (slots + z) Q (F0 m pc' ls' (st'.map (xa_rv b base)))) :
    W p l e R s m args below meth c H locs cells slots Q (F0 m pc ls (st.map (xa_rv b base))) := by
  obtain ⟨hx, hb, hml, hown, hts, hK, hX, hbb, hbs, hlk, hrt, hnm, hxt⟩ := F
  have hD := xa_W_D cs b base h
  have hA : ∀ q, s.heap.size ≤ q → xa_A base q := fun q hq => Nat.le_trans hbs hq
  have hbA : ¬ xa_A base b := Nat.not_le.mpr hbb
  have hbl : b < s.heap.size := Nat.lt_of_lt_of_le hbb hbs
  unfold xa_ck at hck
  rw [Bool.and_eq_true, decide_eq_true_eq] at hck
  obtain ⟨hd, hck⟩ := hck
  simp only [Bool.and_eq_true, decide_eq_true_eq] at hck
  obtain ⟨rfl, hp, rfl⟩ := hck
  obtain ⟨x, hg, hn⟩ := xa_li_some hn
  obtain ⟨rfl, rfl, rfl, rfl, rfl, rfl⟩ := xa_go_some hn
  refine lv_iload hx hb hd (xa_slot hl hg) ?_
  exact kk _ ls H locs hp hl hM hS
set_option maxHeartbeats 1000000 in
theorem xs_lload_n {n : Fin 4} {len nip r q : Nat} {ts : List Nat} {lv lv' : List (Nat × Value)} {st st' : List Value} {h h' : List va_E} {ip' k z : Nat} (hC : xa_ckC cl Ts = true)
    (F : xa_Fr D cl Ts cs b base L xs M p s m args meth c) (hck : xa_ck cl Ts M pc (.lload_n n) len nip r q ts = true) (hn : xa_nx L xs (.lload_n n) nip r q ts lv st h = some (ip', lv', st', h', k, z))
    (hl : lv_has ls (xa_mL M) (xa_lv b base lv)) (hM : xa_Mt D cl cs b base h H) (hS : va_S (xa_A base) s.heap H locs) (hcs : s.heap.size + cells ≤ base + h.length) (hc : cells + k ≤ R.cells) (hz : slots + z ≤ R.slots) (hro : xa_kind (.lload_n n) r q = 4 → 1 ≤ R.frames ∧ 30 ≤ R.locals)
    (kk : ∀ (pc' : Nat) (ls' : Array Slot) (H' : Heap) (locs' : List Loc), xa_pc M ip' = pc' → lv_has ls' (xa_mL M) (xa_lv b base lv') → xa_Mt D cl cs b base h' H' → va_S (xa_A base) s.heap H' locs' →
      W p l e R s m args below meth c H' locs' (cells + k) (slots + z) Q (F0 m pc' ls' (st'.map (xa_rv b base)))) :
    W p l e R s m args below meth c H locs cells slots Q (F0 m pc ls (st.map (xa_rv b base))) := by
  obtain ⟨hx, hb, hml, hown, hts, hK, hX, hbb, hbs, hlk, hrt, hnm, hxt⟩ := F
  have hD := xa_W_D cs b base h
  have hA : ∀ q, s.heap.size ≤ q → xa_A base q := fun q hq => Nat.le_trans hbs hq
  have hbA : ¬ xa_A base b := Nat.not_le.mpr hbb
  have hbl : b < s.heap.size := Nat.lt_of_lt_of_le hbb hbs
  unfold xa_ck at hck
  rw [Bool.and_eq_true, decide_eq_true_eq] at hck
  obtain ⟨hd, hck⟩ := hck
  simp only [Bool.and_eq_true, decide_eq_true_eq] at hck
  obtain ⟨rfl, hp, hv⟩ := hck
  obtain ⟨x, hg, hn⟩ := xa_ll_some hn
  obtain ⟨rfl, rfl, rfl, rfl, rfl, rfl⟩ := xa_go_some hn
  refine lv_lload_n hx hb hd hv (xa_slot hl hg) ?_
  exact kk _ ls H locs hp hl hM hS
set_option maxHeartbeats 1000000 in
theorem xs_lload {n : Nat} {len nip r q : Nat} {ts : List Nat} {lv lv' : List (Nat × Value)} {st st' : List Value} {h h' : List va_E} {ip' k z : Nat} (hC : xa_ckC cl Ts = true)
    (F : xa_Fr D cl Ts cs b base L xs M p s m args meth c) (hck : xa_ck cl Ts M pc (.lload n) len nip r q ts = true) (hn : xa_nx L xs (.lload n) nip r q ts lv st h = some (ip', lv', st', h', k, z))
    (hl : lv_has ls (xa_mL M) (xa_lv b base lv)) (hM : xa_Mt D cl cs b base h H) (hS : va_S (xa_A base) s.heap H locs) (hcs : s.heap.size + cells ≤ base + h.length) (hc : cells + k ≤ R.cells) (hz : slots + z ≤ R.slots) (hro : xa_kind (.lload n) r q = 4 → 1 ≤ R.frames ∧ 30 ≤ R.locals)
    (kk : ∀ (pc' : Nat) (ls' : Array Slot) (H' : Heap) (locs' : List Loc), xa_pc M ip' = pc' → lv_has ls' (xa_mL M) (xa_lv b base lv') → xa_Mt D cl cs b base h' H' → va_S (xa_A base) s.heap H' locs' →
      W p l e R s m args below meth c H' locs' (cells + k) (slots + z) Q (F0 m pc' ls' (st'.map (xa_rv b base)))) :
    W p l e R s m args below meth c H locs cells slots Q (F0 m pc ls (st.map (xa_rv b base))) := by
  obtain ⟨hx, hb, hml, hown, hts, hK, hX, hbb, hbs, hlk, hrt, hnm, hxt⟩ := F
  have hD := xa_W_D cs b base h
  have hA : ∀ q, s.heap.size ≤ q → xa_A base q := fun q hq => Nat.le_trans hbs hq
  have hbA : ¬ xa_A base b := Nat.not_le.mpr hbb
  have hbl : b < s.heap.size := Nat.lt_of_lt_of_le hbb hbs
  unfold xa_ck at hck
  rw [Bool.and_eq_true, decide_eq_true_eq] at hck
  obtain ⟨hd, hck⟩ := hck
  simp only [Bool.and_eq_true, decide_eq_true_eq] at hck
  obtain ⟨rfl, hp, rfl⟩ := hck
  obtain ⟨x, hg, hn⟩ := xa_ll_some hn
  obtain ⟨rfl, rfl, rfl, rfl, rfl, rfl⟩ := xa_go_some hn
  refine lv_lload hx hb hd (xa_slot hl hg) ?_
  exact kk _ ls H locs hp hl hM hS
set_option maxHeartbeats 1000000 in
theorem xs_aload_n {n : Fin 4} {len nip r q : Nat} {ts : List Nat} {lv lv' : List (Nat × Value)} {st st' : List Value} {h h' : List va_E} {ip' k z : Nat} (hC : xa_ckC cl Ts = true)
    (F : xa_Fr D cl Ts cs b base L xs M p s m args meth c) (hck : xa_ck cl Ts M pc (.aload_n n) len nip r q ts = true) (hn : xa_nx L xs (.aload_n n) nip r q ts lv st h = some (ip', lv', st', h', k, z))
    (hl : lv_has ls (xa_mL M) (xa_lv b base lv)) (hM : xa_Mt D cl cs b base h H) (hS : va_S (xa_A base) s.heap H locs) (hcs : s.heap.size + cells ≤ base + h.length) (hc : cells + k ≤ R.cells) (hz : slots + z ≤ R.slots) (hro : xa_kind (.aload_n n) r q = 4 → 1 ≤ R.frames ∧ 30 ≤ R.locals)
    (kk : ∀ (pc' : Nat) (ls' : Array Slot) (H' : Heap) (locs' : List Loc), xa_pc M ip' = pc' → lv_has ls' (xa_mL M) (xa_lv b base lv') → xa_Mt D cl cs b base h' H' → va_S (xa_A base) s.heap H' locs' →
      W p l e R s m args below meth c H' locs' (cells + k) (slots + z) Q (F0 m pc' ls' (st'.map (xa_rv b base)))) :
    W p l e R s m args below meth c H locs cells slots Q (F0 m pc ls (st.map (xa_rv b base))) := by
  obtain ⟨hx, hb, hml, hown, hts, hK, hX, hbb, hbs, hlk, hrt, hnm, hxt⟩ := F
  have hD := xa_W_D cs b base h
  have hA : ∀ q, s.heap.size ≤ q → xa_A base q := fun q hq => Nat.le_trans hbs hq
  have hbA : ¬ xa_A base b := Nat.not_le.mpr hbb
  have hbl : b < s.heap.size := Nat.lt_of_lt_of_le hbb hbs
  unfold xa_ck at hck
  rw [Bool.and_eq_true, decide_eq_true_eq] at hck
  obtain ⟨hd, hck⟩ := hck
  simp only [Bool.and_eq_true, decide_eq_true_eq] at hck
  obtain ⟨rfl, hp, hv⟩ := hck
  obtain ⟨x, hg, hn⟩ := xa_lr_some hn
  obtain ⟨rfl, rfl, rfl, rfl, rfl, rfl⟩ := xa_go_some hn
  cases x with
  | zero => refine lv_aload_n hx hb hd hv (xa_slot hl hg) ?_; exact kk _ ls H locs hp hl hM hS
  | succ x => refine lv_aload_n hx hb hd hv (xa_slot hl hg) ?_; exact kk _ ls H locs hp hl hM hS
set_option maxHeartbeats 1000000 in
theorem xs_aload {n : Nat} {len nip r q : Nat} {ts : List Nat} {lv lv' : List (Nat × Value)} {st st' : List Value} {h h' : List va_E} {ip' k z : Nat} (hC : xa_ckC cl Ts = true)
    (F : xa_Fr D cl Ts cs b base L xs M p s m args meth c) (hck : xa_ck cl Ts M pc (.aload n) len nip r q ts = true) (hn : xa_nx L xs (.aload n) nip r q ts lv st h = some (ip', lv', st', h', k, z))
    (hl : lv_has ls (xa_mL M) (xa_lv b base lv)) (hM : xa_Mt D cl cs b base h H) (hS : va_S (xa_A base) s.heap H locs) (hcs : s.heap.size + cells ≤ base + h.length) (hc : cells + k ≤ R.cells) (hz : slots + z ≤ R.slots) (hro : xa_kind (.aload n) r q = 4 → 1 ≤ R.frames ∧ 30 ≤ R.locals)
    (kk : ∀ (pc' : Nat) (ls' : Array Slot) (H' : Heap) (locs' : List Loc), xa_pc M ip' = pc' → lv_has ls' (xa_mL M) (xa_lv b base lv') → xa_Mt D cl cs b base h' H' → va_S (xa_A base) s.heap H' locs' →
      W p l e R s m args below meth c H' locs' (cells + k) (slots + z) Q (F0 m pc' ls' (st'.map (xa_rv b base)))) :
    W p l e R s m args below meth c H locs cells slots Q (F0 m pc ls (st.map (xa_rv b base))) := by
  obtain ⟨hx, hb, hml, hown, hts, hK, hX, hbb, hbs, hlk, hrt, hnm, hxt⟩ := F
  have hD := xa_W_D cs b base h
  have hA : ∀ q, s.heap.size ≤ q → xa_A base q := fun q hq => Nat.le_trans hbs hq
  have hbA : ¬ xa_A base b := Nat.not_le.mpr hbb
  have hbl : b < s.heap.size := Nat.lt_of_lt_of_le hbb hbs
  unfold xa_ck at hck
  rw [Bool.and_eq_true, decide_eq_true_eq] at hck
  obtain ⟨hd, hck⟩ := hck
  simp only [Bool.and_eq_true, decide_eq_true_eq] at hck
  obtain ⟨rfl, hp, rfl⟩ := hck
  obtain ⟨x, hg, hn⟩ := xa_lr_some hn
  obtain ⟨rfl, rfl, rfl, rfl, rfl, rfl⟩ := xa_go_some hn
  cases x with
  | zero => refine lv_aload hx hb hd (xa_slot hl hg) ?_; exact kk _ ls H locs hp hl hM hS
  | succ x => refine lv_aload hx hb hd (xa_slot hl hg) ?_; exact kk _ ls H locs hp hl hM hS
set_option maxHeartbeats 1000000 in
theorem xs_istore_n {n : Fin 4} {len nip r q : Nat} {ts : List Nat} {lv lv' : List (Nat × Value)} {st st' : List Value} {h h' : List va_E} {ip' k z : Nat} (hC : xa_ckC cl Ts = true)
    (F : xa_Fr D cl Ts cs b base L xs M p s m args meth c) (hck : xa_ck cl Ts M pc (.istore_n n) len nip r q ts = true) (hn : xa_nx L xs (.istore_n n) nip r q ts lv st h = some (ip', lv', st', h', k, z))
    (hl : lv_has ls (xa_mL M) (xa_lv b base lv)) (hM : xa_Mt D cl cs b base h H) (hS : va_S (xa_A base) s.heap H locs) (hcs : s.heap.size + cells ≤ base + h.length) (hc : cells + k ≤ R.cells) (hz : slots + z ≤ R.slots) (hro : xa_kind (.istore_n n) r q = 4 → 1 ≤ R.frames ∧ 30 ≤ R.locals)
    (kk : ∀ (pc' : Nat) (ls' : Array Slot) (H' : Heap) (locs' : List Loc), xa_pc M ip' = pc' → lv_has ls' (xa_mL M) (xa_lv b base lv') → xa_Mt D cl cs b base h' H' → va_S (xa_A base) s.heap H' locs' →
      W p l e R s m args below meth c H' locs' (cells + k) (slots + z) Q (F0 m pc' ls' (st'.map (xa_rv b base)))) :
    W p l e R s m args below meth c H locs cells slots Q (F0 m pc ls (st.map (xa_rv b base))) := by
  obtain ⟨hx, hb, hml, hown, hts, hK, hX, hbb, hbs, hlk, hrt, hnm, hxt⟩ := F
  have hD := xa_W_D cs b base h
  have hA : ∀ q, s.heap.size ≤ q → xa_A base q := fun q hq => Nat.le_trans hbs hq
  have hbA : ¬ xa_A base b := Nat.not_le.mpr hbb
  have hbl : b < s.heap.size := Nat.lt_of_lt_of_le hbb hbs
  unfold xa_ck at hck
  rw [Bool.and_eq_true, decide_eq_true_eq] at hck
  obtain ⟨hd, hck⟩ := hck
  simp only [Bool.and_eq_true, decide_eq_true_eq] at hck
  obtain ⟨rfl, hp, hv, hr⟩ := hck
  obtain ⟨x, st, rfl, hn⟩ := xa_pi_some hn
  obtain ⟨rfl, rfl, rfl, rfl, rfl, rfl⟩ := xa_go_some hn
  refine lv_istore_n hx hb hd hv hl hr (xa_lv_put1 b base lv _ (.int x)) (fun ls1 hl1 => ?_)
  exact kk _ ls1 H locs hp hl1 hM hS
set_option maxHeartbeats 1000000 in
theorem xs_istore {n : Nat} {len nip r q : Nat} {ts : List Nat} {lv lv' : List (Nat × Value)} {st st' : List Value} {h h' : List va_E} {ip' k z : Nat} (hC : xa_ckC cl Ts = true)
    (F : xa_Fr D cl Ts cs b base L xs M p s m args meth c) (hck : xa_ck cl Ts M pc (.istore n) len nip r q ts = true) (hn : xa_nx L xs (.istore n) nip r q ts lv st h = some (ip', lv', st', h', k, z))
    (hl : lv_has ls (xa_mL M) (xa_lv b base lv)) (hM : xa_Mt D cl cs b base h H) (hS : va_S (xa_A base) s.heap H locs) (hcs : s.heap.size + cells ≤ base + h.length) (hc : cells + k ≤ R.cells) (hz : slots + z ≤ R.slots) (hro : xa_kind (.istore n) r q = 4 → 1 ≤ R.frames ∧ 30 ≤ R.locals)
    (kk : ∀ (pc' : Nat) (ls' : Array Slot) (H' : Heap) (locs' : List Loc), xa_pc M ip' = pc' → lv_has ls' (xa_mL M) (xa_lv b base lv') → xa_Mt D cl cs b base h' H' → va_S (xa_A base) s.heap H' locs' →
      W p l e R s m args below meth c H' locs' (cells + k) (slots + z) Q (F0 m pc' ls' (st'.map (xa_rv b base)))) :
    W p l e R s m args below meth c H locs cells slots Q (F0 m pc ls (st.map (xa_rv b base))) := by
  obtain ⟨hx, hb, hml, hown, hts, hK, hX, hbb, hbs, hlk, hrt, hnm, hxt⟩ := F
  have hD := xa_W_D cs b base h
  have hA : ∀ q, s.heap.size ≤ q → xa_A base q := fun q hq => Nat.le_trans hbs hq
  have hbA : ¬ xa_A base b := Nat.not_le.mpr hbb
  have hbl : b < s.heap.size := Nat.lt_of_lt_of_le hbb hbs
  unfold xa_ck at hck
  rw [Bool.and_eq_true, decide_eq_true_eq] at hck
  obtain ⟨hd, hck⟩ := hck
  simp only [Bool.and_eq_true, decide_eq_true_eq] at hck
  obtain ⟨rfl, hp, rfl, hr⟩ := hck
  obtain ⟨x, st, rfl, hn⟩ := xa_pi_some hn
  obtain ⟨rfl, rfl, rfl, rfl, rfl, rfl⟩ := xa_go_some hn
  refine lv_istore hx hb hd hl hr (xa_lv_put1 b base lv _ (.int x)) (fun ls1 hl1 => ?_)
  exact kk _ ls1 H locs hp hl1 hM hS
set_option maxHeartbeats 1000000 in
theorem xs_lstore_n {n : Fin 4} {len nip r q : Nat} {ts : List Nat} {lv lv' : List (Nat × Value)} {st st' : List Value} {h h' : List va_E} {ip' k z : Nat} (hC : xa_ckC cl Ts = true)
    (F : xa_Fr D cl Ts cs b base L xs M p s m args meth c) (hck : xa_ck cl Ts M pc (.lstore_n n) len nip r q ts = true) (hn : xa_nx L xs (.lstore_n n) nip r q ts lv st h = some (ip', lv', st', h', k, z))
    (hl : lv_has ls (xa_mL M) (xa_lv b base lv)) (hM : xa_Mt D cl cs b base h H) (hS : va_S (xa_A base) s.heap H locs) (hcs : s.heap.size + cells ≤ base + h.length) (hc : cells + k ≤ R.cells) (hz : slots + z ≤ R.slots) (hro : xa_kind (.lstore_n n) r q = 4 → 1 ≤ R.frames ∧ 30 ≤ R.locals)
    (kk : ∀ (pc' : Nat) (ls' : Array Slot) (H' : Heap) (locs' : List Loc), xa_pc M ip' = pc' → lv_has ls' (xa_mL M) (xa_lv b base lv') → xa_Mt D cl cs b base h' H' → va_S (xa_A base) s.heap H' locs' →
      W p l e R s m args below meth c H' locs' (cells + k) (slots + z) Q (F0 m pc' ls' (st'.map (xa_rv b base)))) :
    W p l e R s m args below meth c H locs cells slots Q (F0 m pc ls (st.map (xa_rv b base))) := by
  obtain ⟨hx, hb, hml, hown, hts, hK, hX, hbb, hbs, hlk, hrt, hnm, hxt⟩ := F
  have hD := xa_W_D cs b base h
  have hA : ∀ q, s.heap.size ≤ q → xa_A base q := fun q hq => Nat.le_trans hbs hq
  have hbA : ¬ xa_A base b := Nat.not_le.mpr hbb
  have hbl : b < s.heap.size := Nat.lt_of_lt_of_le hbb hbs
  unfold xa_ck at hck
  rw [Bool.and_eq_true, decide_eq_true_eq] at hck
  obtain ⟨hd, hck⟩ := hck
  simp only [Bool.and_eq_true, decide_eq_true_eq] at hck
  obtain ⟨rfl, hp, hv, hr⟩ := hck
  obtain ⟨x, st, rfl, hn⟩ := xa_pl_some hn
  obtain ⟨rfl, rfl, rfl, rfl, rfl, rfl⟩ := xa_go_some hn
  refine lv_lstore_n hx hb hd hv hl hr (xa_lv_put2 b base lv _ (.long x)) (fun ls1 hl1 => ?_)
  exact kk _ ls1 H locs hp hl1 hM hS
set_option maxHeartbeats 1000000 in
theorem xs_lstore {n : Nat} {len nip r q : Nat} {ts : List Nat} {lv lv' : List (Nat × Value)} {st st' : List Value} {h h' : List va_E} {ip' k z : Nat} (hC : xa_ckC cl Ts = true)
    (F : xa_Fr D cl Ts cs b base L xs M p s m args meth c) (hck : xa_ck cl Ts M pc (.lstore n) len nip r q ts = true) (hn : xa_nx L xs (.lstore n) nip r q ts lv st h = some (ip', lv', st', h', k, z))
    (hl : lv_has ls (xa_mL M) (xa_lv b base lv)) (hM : xa_Mt D cl cs b base h H) (hS : va_S (xa_A base) s.heap H locs) (hcs : s.heap.size + cells ≤ base + h.length) (hc : cells + k ≤ R.cells) (hz : slots + z ≤ R.slots) (hro : xa_kind (.lstore n) r q = 4 → 1 ≤ R.frames ∧ 30 ≤ R.locals)
    (kk : ∀ (pc' : Nat) (ls' : Array Slot) (H' : Heap) (locs' : List Loc), xa_pc M ip' = pc' → lv_has ls' (xa_mL M) (xa_lv b base lv') → xa_Mt D cl cs b base h' H' → va_S (xa_A base) s.heap H' locs' →
      W p l e R s m args below meth c H' locs' (cells + k) (slots + z) Q (F0 m pc' ls' (st'.map (xa_rv b base)))) :
    W p l e R s m args below meth c H locs cells slots Q (F0 m pc ls (st.map (xa_rv b base))) := by
  obtain ⟨hx, hb, hml, hown, hts, hK, hX, hbb, hbs, hlk, hrt, hnm, hxt⟩ := F
  have hD := xa_W_D cs b base h
  have hA : ∀ q, s.heap.size ≤ q → xa_A base q := fun q hq => Nat.le_trans hbs hq
  have hbA : ¬ xa_A base b := Nat.not_le.mpr hbb
  have hbl : b < s.heap.size := Nat.lt_of_lt_of_le hbb hbs
  unfold xa_ck at hck
  rw [Bool.and_eq_true, decide_eq_true_eq] at hck
  obtain ⟨hd, hck⟩ := hck
  simp only [Bool.and_eq_true, decide_eq_true_eq] at hck
  obtain ⟨rfl, hp, rfl, hr⟩ := hck
  obtain ⟨x, st, rfl, hn⟩ := xa_pl_some hn
  obtain ⟨rfl, rfl, rfl, rfl, rfl, rfl⟩ := xa_go_some hn
  refine lv_lstore hx hb hd hl hr (xa_lv_put2 b base lv _ (.long x)) (fun ls1 hl1 => ?_)
  exact kk _ ls1 H locs hp hl1 hM hS
set_option maxHeartbeats 1000000 in
theorem xs_astore_n {n : Fin 4} {len nip r q : Nat} {ts : List Nat} {lv lv' : List (Nat × Value)} {st st' : List Value} {h h' : List va_E} {ip' k z : Nat} (hC : xa_ckC cl Ts = true)
    (F : xa_Fr D cl Ts cs b base L xs M p s m args meth c) (hck : xa_ck cl Ts M pc (.astore_n n) len nip r q ts = true) (hn : xa_nx L xs (.astore_n n) nip r q ts lv st h = some (ip', lv', st', h', k, z))
    (hl : lv_has ls (xa_mL M) (xa_lv b base lv)) (hM : xa_Mt D cl cs b base h H) (hS : va_S (xa_A base) s.heap H locs) (hcs : s.heap.size + cells ≤ base + h.length) (hc : cells + k ≤ R.cells) (hz : slots + z ≤ R.slots) (hro : xa_kind (.astore_n n) r q = 4 → 1 ≤ R.frames ∧ 30 ≤ R.locals)
    (kk : ∀ (pc' : Nat) (ls' : Array Slot) (H' : Heap) (locs' : List Loc), xa_pc M ip' = pc' → lv_has ls' (xa_mL M) (xa_lv b base lv') → xa_Mt D cl cs b base h' H' → va_S (xa_A base) s.heap H' locs' →
      W p l e R s m args below meth c H' locs' (cells + k) (slots + z) Q (F0 m pc' ls' (st'.map (xa_rv b base)))) :
    W p l e R s m args below meth c H locs cells slots Q (F0 m pc ls (st.map (xa_rv b base))) := by
  obtain ⟨hx, hb, hml, hown, hts, hK, hX, hbb, hbs, hlk, hrt, hnm, hxt⟩ := F
  have hD := xa_W_D cs b base h
  have hA : ∀ q, s.heap.size ≤ q → xa_A base q := fun q hq => Nat.le_trans hbs hq
  have hbA : ¬ xa_A base b := Nat.not_le.mpr hbb
  have hbl : b < s.heap.size := Nat.lt_of_lt_of_le hbb hbs
  unfold xa_ck at hck
  rw [Bool.and_eq_true, decide_eq_true_eq] at hck
  obtain ⟨hd, hck⟩ := hck
  simp only [Bool.and_eq_true, decide_eq_true_eq] at hck
  obtain ⟨rfl, hp, hv, hr⟩ := hck
  obtain ⟨x, st, rfl, hn⟩ := xa_pr_some hn
  obtain ⟨rfl, rfl, rfl, rfl, rfl, rfl⟩ := xa_go_some hn
  cases x with
  | zero => refine lv_astore_n hx hb hd hv hl hr (xa_lv_put1 b base lv _ (.ref 0)) (fun ls1 hl1 => ?_); exact kk _ ls1 H locs hp hl1 hM hS
  | succ x => refine lv_astore_n hx hb hd hv hl hr (xa_lv_put1 b base lv _ (.ref (x + 1))) (fun ls1 hl1 => ?_); exact kk _ ls1 H locs hp hl1 hM hS
set_option maxHeartbeats 1000000 in
theorem xs_astore {n : Nat} {len nip r q : Nat} {ts : List Nat} {lv lv' : List (Nat × Value)} {st st' : List Value} {h h' : List va_E} {ip' k z : Nat} (hC : xa_ckC cl Ts = true)
    (F : xa_Fr D cl Ts cs b base L xs M p s m args meth c) (hck : xa_ck cl Ts M pc (.astore n) len nip r q ts = true) (hn : xa_nx L xs (.astore n) nip r q ts lv st h = some (ip', lv', st', h', k, z))
    (hl : lv_has ls (xa_mL M) (xa_lv b base lv)) (hM : xa_Mt D cl cs b base h H) (hS : va_S (xa_A base) s.heap H locs) (hcs : s.heap.size + cells ≤ base + h.length) (hc : cells + k ≤ R.cells) (hz : slots + z ≤ R.slots) (hro : xa_kind (.astore n) r q = 4 → 1 ≤ R.frames ∧ 30 ≤ R.locals)
    (kk : ∀ (pc' : Nat) (ls' : Array Slot) (H' : Heap) (locs' : List Loc), xa_pc M ip' = pc' → lv_has ls' (xa_mL M) (xa_lv b base lv') → xa_Mt D cl cs b base h' H' → va_S (xa_A base) s.heap H' locs' →
      W p l e R s m args below meth c H' locs' (cells + k) (slots + z) Q (F0 m pc' ls' (st'.map (xa_rv b base)))) :
    W p l e R s m args below meth c H locs cells slots Q (F0 m pc ls (st.map (xa_rv b base))) := by
  obtain ⟨hx, hb, hml, hown, hts, hK, hX, hbb, hbs, hlk, hrt, hnm, hxt⟩ := F
  have hD := xa_W_D cs b base h
  have hA : ∀ q, s.heap.size ≤ q → xa_A base q := fun q hq => Nat.le_trans hbs hq
  have hbA : ¬ xa_A base b := Nat.not_le.mpr hbb
  have hbl : b < s.heap.size := Nat.lt_of_lt_of_le hbb hbs
  unfold xa_ck at hck
  rw [Bool.and_eq_true, decide_eq_true_eq] at hck
  obtain ⟨hd, hck⟩ := hck
  simp only [Bool.and_eq_true, decide_eq_true_eq] at hck
  obtain ⟨rfl, hp, rfl, hr⟩ := hck
  obtain ⟨x, st, rfl, hn⟩ := xa_pr_some hn
  obtain ⟨rfl, rfl, rfl, rfl, rfl, rfl⟩ := xa_go_some hn
  cases x with
  | zero => refine lv_astore hx hb hd hl hr (xa_lv_put1 b base lv _ (.ref 0)) (fun ls1 hl1 => ?_); exact kk _ ls1 H locs hp hl1 hM hS
  | succ x => refine lv_astore hx hb hd hl hr (xa_lv_put1 b base lv _ (.ref (x + 1))) (fun ls1 hl1 => ?_); exact kk _ ls1 H locs hp hl1 hM hS
set_option maxHeartbeats 1000000 in
theorem xs_iinc {n : Nat} {cc : Int} {len nip r q : Nat} {ts : List Nat} {lv lv' : List (Nat × Value)} {st st' : List Value} {h h' : List va_E} {ip' k z : Nat} (hC : xa_ckC cl Ts = true)
    (F : xa_Fr D cl Ts cs b base L xs M p s m args meth c) (hck : xa_ck cl Ts M pc (.iinc n cc) len nip r q ts = true) (hn : xa_nx L xs (.iinc n cc) nip r q ts lv st h = some (ip', lv', st', h', k, z))
    (hl : lv_has ls (xa_mL M) (xa_lv b base lv)) (hM : xa_Mt D cl cs b base h H) (hS : va_S (xa_A base) s.heap H locs) (hcs : s.heap.size + cells ≤ base + h.length) (hc : cells + k ≤ R.cells) (hz : slots + z ≤ R.slots) (hro : xa_kind (.iinc n cc) r q = 4 → 1 ≤ R.frames ∧ 30 ≤ R.locals)
    (kk : ∀ (pc' : Nat) (ls' : Array Slot) (H' : Heap) (locs' : List Loc), xa_pc M ip' = pc' → lv_has ls' (xa_mL M) (xa_lv b base lv') → xa_Mt D cl cs b base h' H' → va_S (xa_A base) s.heap H' locs' →
      W p l e R s m args below meth c H' locs' (cells + k) (slots + z) Q (F0 m pc' ls' (st'.map (xa_rv b base)))) :
    W p l e R s m args below meth c H locs cells slots Q (F0 m pc ls (st.map (xa_rv b base))) := by
  obtain ⟨hx, hb, hml, hown, hts, hK, hX, hbb, hbs, hlk, hrt, hnm, hxt⟩ := F
  have hD := xa_W_D cs b base h
  have hA : ∀ q, s.heap.size ≤ q → xa_A base q := fun q hq => Nat.le_trans hbs hq
  have hbA : ¬ xa_A base b := Nat.not_le.mpr hbb
  have hbl : b < s.heap.size := Nat.lt_of_lt_of_le hbb hbs
  unfold xa_ck at hck
  rw [Bool.and_eq_true, decide_eq_true_eq] at hck
  obtain ⟨hd, hck⟩ := hck
  simp only [Bool.and_eq_true, decide_eq_true_eq] at hck
  obtain ⟨rfl, hp, rfl, hv, hr⟩ := hck
  obtain ⟨x, hg, hn⟩ := xa_li_some hn
  obtain ⟨rfl, rfl, rfl, rfl, rfl, rfl⟩ := xa_go_some hn
  obtain ⟨kq, hkq⟩ := xa_place hl hg
  refine lv_iinc hx hb hd hl hkq (by rw [hv]) hr (xa_lv_put1 b base lv _ (.int (x + xa_con q ts.length))) (fun ls1 hl1 => ?_)
  exact kk _ ls1 H locs hp hl1 hM hS
set_option maxHeartbeats 1000000 in
theorem xs_iadd {len nip r q : Nat} {ts : List Nat} {lv lv' : List (Nat × Value)} {st st' : List Value} {h h' : List va_E} {ip' k z : Nat} (hC : xa_ckC cl Ts = true)
    (F : xa_Fr D cl Ts cs b base L xs M p s m args meth c) (hck : xa_ck cl Ts M pc .iadd len nip r q ts = true) (hn : xa_nx L xs .iadd nip r q ts lv st h = some (ip', lv', st', h', k, z))
    (hl : lv_has ls (xa_mL M) (xa_lv b base lv)) (hM : xa_Mt D cl cs b base h H) (hS : va_S (xa_A base) s.heap H locs) (hcs : s.heap.size + cells ≤ base + h.length) (hc : cells + k ≤ R.cells) (hz : slots + z ≤ R.slots) (hro : xa_kind .iadd r q = 4 → 1 ≤ R.frames ∧ 30 ≤ R.locals)
    (kk : ∀ (pc' : Nat) (ls' : Array Slot) (H' : Heap) (locs' : List Loc), xa_pc M ip' = pc' → lv_has ls' (xa_mL M) (xa_lv b base lv') → xa_Mt D cl cs b base h' H' → va_S (xa_A base) s.heap H' locs' →
      W p l e R s m args below meth c H' locs' (cells + k) (slots + z) Q (F0 m pc' ls' (st'.map (xa_rv b base)))) :
    W p l e R s m args below meth c H locs cells slots Q (F0 m pc ls (st.map (xa_rv b base))) := by
  obtain ⟨hx, hb, hml, hown, hts, hK, hX, hbb, hbs, hlk, hrt, hnm, hxt⟩ := F
  have hD := xa_W_D cs b base h
  have hA : ∀ q, s.heap.size ≤ q → xa_A base q := fun q hq => Nat.le_trans hbs hq
  have hbA : ¬ xa_A base b := Nat.not_le.mpr hbb
  have hbl : b < s.heap.size := Nat.lt_of_lt_of_le hbb hbs
  unfold xa_ck at hck
  rw [Bool.and_eq_true, decide_eq_true_eq] at hck
  obtain ⟨hd, hck⟩ := hck
  simp only [Bool.and_eq_true, decide_eq_true_eq] at hck
  obtain ⟨rfl, hp⟩ := hck
  obtain ⟨y, st, rfl, hn⟩ := xa_pi_some hn
  obtain ⟨x, st, rfl, hn⟩ := xa_pi_some hn
  obtain ⟨rfl, rfl, rfl, rfl, rfl, rfl⟩ := xa_go_some hn
  refine lv_iadd hx hb hd ?_
  exact kk _ ls H locs hp hl hM hS
set_option maxHeartbeats 1000000 in
theorem xs_isub {len nip r q : Nat} {ts : List Nat} {lv lv' : List (Nat × Value)} {st st' : List Value} {h h' : List va_E} {ip' k z : Nat} (hC : xa_ckC cl Ts = true)
    (F : xa_Fr D cl Ts cs b base L xs M p s m args meth c) (hck : xa_ck cl Ts M pc .isub len nip r q ts = true) (hn : xa_nx L xs .isub nip r q ts lv st h = some (ip', lv', st', h', k, z))
    (hl : lv_has ls (xa_mL M) (xa_lv b base lv)) (hM : xa_Mt D cl cs b base h H) (hS : va_S (xa_A base) s.heap H locs) (hcs : s.heap.size + cells ≤ base + h.length) (hc : cells + k ≤ R.cells) (hz : slots + z ≤ R.slots) (hro : xa_kind .isub r q = 4 → 1 ≤ R.frames ∧ 30 ≤ R.locals)
    (kk : ∀ (pc' : Nat) (ls' : Array Slot) (H' : Heap) (locs' : List Loc), xa_pc M ip' = pc' → lv_has ls' (xa_mL M) (xa_lv b base lv') → xa_Mt D cl cs b base h' H' → va_S (xa_A base) s.heap H' locs' →
      W p l e R s m args below meth c H' locs' (cells + k) (slots + z) Q (F0 m pc' ls' (st'.map (xa_rv b base)))) :
    W p l e R s m args below meth c H locs cells slots Q (F0 m pc ls (st.map (xa_rv b base))) := by
  obtain ⟨hx, hb, hml, hown, hts, hK, hX, hbb, hbs, hlk, hrt, hnm, hxt⟩ := F
  have hD := xa_W_D cs b base h
  have hA : ∀ q, s.heap.size ≤ q → xa_A base q := fun q hq => Nat.le_trans hbs hq
  have hbA : ¬ xa_A base b := Nat.not_le.mpr hbb
  have hbl : b < s.heap.size := Nat.lt_of_lt_of_le hbb hbs
  unfold xa_ck at hck
  rw [Bool.and_eq_true, decide_eq_true_eq] at hck
  obtain ⟨hd, hck⟩ := hck
  simp only [Bool.and_eq_true, decide_eq_true_eq] at hck
  obtain ⟨rfl, hp⟩ := hck
  obtain ⟨y, st, rfl, hn⟩ := xa_pi_some hn
  obtain ⟨x, st, rfl, hn⟩ := xa_pi_some hn
  obtain ⟨rfl, rfl, rfl, rfl, rfl, rfl⟩ := xa_go_some hn
  refine lv_isub hx hb hd ?_
  exact kk _ ls H locs hp hl hM hS
set_option maxHeartbeats 1000000 in
theorem xs_imul {len nip r q : Nat} {ts : List Nat} {lv lv' : List (Nat × Value)} {st st' : List Value} {h h' : List va_E} {ip' k z : Nat} (hC : xa_ckC cl Ts = true)
    (F : xa_Fr D cl Ts cs b base L xs M p s m args meth c) (hck : xa_ck cl Ts M pc .imul len nip r q ts = true) (hn : xa_nx L xs .imul nip r q ts lv st h = some (ip', lv', st', h', k, z))
    (hl : lv_has ls (xa_mL M) (xa_lv b base lv)) (hM : xa_Mt D cl cs b base h H) (hS : va_S (xa_A base) s.heap H locs) (hcs : s.heap.size + cells ≤ base + h.length) (hc : cells + k ≤ R.cells) (hz : slots + z ≤ R.slots) (hro : xa_kind .imul r q = 4 → 1 ≤ R.frames ∧ 30 ≤ R.locals)
    (kk : ∀ (pc' : Nat) (ls' : Array Slot) (H' : Heap) (locs' : List Loc), xa_pc M ip' = pc' → lv_has ls' (xa_mL M) (xa_lv b base lv') → xa_Mt D cl cs b base h' H' → va_S (xa_A base) s.heap H' locs' →
      W p l e R s m args below meth c H' locs' (cells + k) (slots + z) Q (F0 m pc' ls' (st'.map (xa_rv b base)))) :
    W p l e R s m args below meth c H locs cells slots Q (F0 m pc ls (st.map (xa_rv b base))) := by
  obtain ⟨hx, hb, hml, hown, hts, hK, hX, hbb, hbs, hlk, hrt, hnm, hxt⟩ := F
  have hD := xa_W_D cs b base h
  have hA : ∀ q, s.heap.size ≤ q → xa_A base q := fun q hq => Nat.le_trans hbs hq
  have hbA : ¬ xa_A base b := Nat.not_le.mpr hbb
  have hbl : b < s.heap.size := Nat.lt_of_lt_of_le hbb hbs
  unfold xa_ck at hck
  rw [Bool.and_eq_true, decide_eq_true_eq] at hck
  obtain ⟨hd, hck⟩ := hck
  simp only [Bool.and_eq_true, decide_eq_true_eq] at hck
  obtain ⟨rfl, hp⟩ := hck
  obtain ⟨y, st, rfl, hn⟩ := xa_pi_some hn
  obtain ⟨x, st, rfl, hn⟩ := xa_pi_some hn
  obtain ⟨rfl, rfl, rfl, rfl, rfl, rfl⟩ := xa_go_some hn
  refine lv_imul hx hb hd ?_
  exact kk _ ls H locs hp hl hM hS
set_option maxHeartbeats 1000000 in
theorem xs_iand {len nip r q : Nat} {ts : List Nat} {lv lv' : List (Nat × Value)} {st st' : List Value} {h h' : List va_E} {ip' k z : Nat} (hC : xa_ckC cl Ts = true)
    (F : xa_Fr D cl Ts cs b base L xs M p s m args meth c) (hck : xa_ck cl Ts M pc .iand len nip r q ts = true) (hn : xa_nx L xs .iand nip r q ts lv st h = some (ip', lv', st', h', k, z))
    (hl : lv_has ls (xa_mL M) (xa_lv b base lv)) (hM : xa_Mt D cl cs b base h H) (hS : va_S (xa_A base) s.heap H locs) (hcs : s.heap.size + cells ≤ base + h.length) (hc : cells + k ≤ R.cells) (hz : slots + z ≤ R.slots) (hro : xa_kind .iand r q = 4 → 1 ≤ R.frames ∧ 30 ≤ R.locals)
    (kk : ∀ (pc' : Nat) (ls' : Array Slot) (H' : Heap) (locs' : List Loc), xa_pc M ip' = pc' → lv_has ls' (xa_mL M) (xa_lv b base lv') → xa_Mt D cl cs b base h' H' → va_S (xa_A base) s.heap H' locs' →
      W p l e R s m args below meth c H' locs' (cells + k) (slots + z) Q (F0 m pc' ls' (st'.map (xa_rv b base)))) :
    W p l e R s m args below meth c H locs cells slots Q (F0 m pc ls (st.map (xa_rv b base))) := by
  obtain ⟨hx, hb, hml, hown, hts, hK, hX, hbb, hbs, hlk, hrt, hnm, hxt⟩ := F
  have hD := xa_W_D cs b base h
  have hA : ∀ q, s.heap.size ≤ q → xa_A base q := fun q hq => Nat.le_trans hbs hq
  have hbA : ¬ xa_A base b := Nat.not_le.mpr hbb
  have hbl : b < s.heap.size := Nat.lt_of_lt_of_le hbb hbs
  unfold xa_ck at hck
  rw [Bool.and_eq_true, decide_eq_true_eq] at hck
  obtain ⟨hd, hck⟩ := hck
  simp only [Bool.and_eq_true, decide_eq_true_eq] at hck
  obtain ⟨rfl, hp⟩ := hck
  obtain ⟨y, st, rfl, hn⟩ := xa_pi_some hn
  obtain ⟨x, st, rfl, hn⟩ := xa_pi_some hn
  obtain ⟨rfl, rfl, rfl, rfl, rfl, rfl⟩ := xa_go_some hn
  refine lv_iand hx hb hd ?_
  exact kk _ ls H locs hp hl hM hS
set_option maxHeartbeats 1000000 in
theorem xs_ladd {len nip r q : Nat} {ts : List Nat} {lv lv' : List (Nat × Value)} {st st' : List Value} {h h' : List va_E} {ip' k z : Nat} (hC : xa_ckC cl Ts = true)
    (F : xa_Fr D cl Ts cs b base L xs M p s m args meth c) (hck : xa_ck cl Ts M pc .ladd len nip r q ts = true) (hn : xa_nx L xs .ladd nip r q ts lv st h = some (ip', lv', st', h', k, z))
    (hl : lv_has ls (xa_mL M) (xa_lv b base lv)) (hM : xa_Mt D cl cs b base h H) (hS : va_S (xa_A base) s.heap H locs) (hcs : s.heap.size + cells ≤ base + h.length) (hc : cells + k ≤ R.cells) (hz : slots + z ≤ R.slots) (hro : xa_kind .ladd r q = 4 → 1 ≤ R.frames ∧ 30 ≤ R.locals)
    (kk : ∀ (pc' : Nat) (ls' : Array Slot) (H' : Heap) (locs' : List Loc), xa_pc M ip' = pc' → lv_has ls' (xa_mL M) (xa_lv b base lv') → xa_Mt D cl cs b base h' H' → va_S (xa_A base) s.heap H' locs' →
      W p l e R s m args below meth c H' locs' (cells + k) (slots + z) Q (F0 m pc' ls' (st'.map (xa_rv b base)))) :
    W p l e R s m args below meth c H locs cells slots Q (F0 m pc ls (st.map (xa_rv b base))) := by
  obtain ⟨hx, hb, hml, hown, hts, hK, hX, hbb, hbs, hlk, hrt, hnm, hxt⟩ := F
  have hD := xa_W_D cs b base h
  have hA : ∀ q, s.heap.size ≤ q → xa_A base q := fun q hq => Nat.le_trans hbs hq
  have hbA : ¬ xa_A base b := Nat.not_le.mpr hbb
  have hbl : b < s.heap.size := Nat.lt_of_lt_of_le hbb hbs
  unfold xa_ck at hck
  rw [Bool.and_eq_true, decide_eq_true_eq] at hck
  obtain ⟨hd, hck⟩ := hck
  simp only [Bool.and_eq_true, decide_eq_true_eq] at hck
  obtain ⟨rfl, hp⟩ := hck
  obtain ⟨y, st, rfl, hn⟩ := xa_pl_some hn
  obtain ⟨x, st, rfl, hn⟩ := xa_pl_some hn
  obtain ⟨rfl, rfl, rfl, rfl, rfl, rfl⟩ := xa_go_some hn
  refine lv_ladd hx hb hd ?_
  exact kk _ ls H locs hp hl hM hS
set_option maxHeartbeats 1000000 in
theorem xs_lsub {len nip r q : Nat} {ts : List Nat} {lv lv' : List (Nat × Value)} {st st' : List Value} {h h' : List va_E} {ip' k z : Nat} (hC : xa_ckC cl Ts = true)
    (F : xa_Fr D cl Ts cs b base L xs M p s m args meth c) (hck : xa_ck cl Ts M pc .lsub len nip r q ts = true) (hn : xa_nx L xs .lsub nip r q ts lv st h = some (ip', lv', st', h', k, z))
    (hl : lv_has ls (xa_mL M) (xa_lv b base lv)) (hM : xa_Mt D cl cs b base h H) (hS : va_S (xa_A base) s.heap H locs) (hcs : s.heap.size + cells ≤ base + h.length) (hc : cells + k ≤ R.cells) (hz : slots + z ≤ R.slots) (hro : xa_kind .lsub r q = 4 → 1 ≤ R.frames ∧ 30 ≤ R.locals)
    (kk : ∀ (pc' : Nat) (ls' : Array Slot) (H' : Heap) (locs' : List Loc), xa_pc M ip' = pc' → lv_has ls' (xa_mL M) (xa_lv b base lv') → xa_Mt D cl cs b base h' H' → va_S (xa_A base) s.heap H' locs' →
      W p l e R s m args below meth c H' locs' (cells + k) (slots + z) Q (F0 m pc' ls' (st'.map (xa_rv b base)))) :
    W p l e R s m args below meth c H locs cells slots Q (F0 m pc ls (st.map (xa_rv b base))) := by
  obtain ⟨hx, hb, hml, hown, hts, hK, hX, hbb, hbs, hlk, hrt, hnm, hxt⟩ := F
  have hD := xa_W_D cs b base h
  have hA : ∀ q, s.heap.size ≤ q → xa_A base q := fun q hq => Nat.le_trans hbs hq
  have hbA : ¬ xa_A base b := Nat.not_le.mpr hbb
  have hbl : b < s.heap.size := Nat.lt_of_lt_of_le hbb hbs
  unfold xa_ck at hck
  rw [Bool.and_eq_true, decide_eq_true_eq] at hck
  obtain ⟨hd, hck⟩ := hck
  simp only [Bool.and_eq_true, decide_eq_true_eq] at hck
  obtain ⟨rfl, hp⟩ := hck
  obtain ⟨y, st, rfl, hn⟩ := xa_pl_some hn
  obtain ⟨x, st, rfl, hn⟩ := xa_pl_some hn
  obtain ⟨rfl, rfl, rfl, rfl, rfl, rfl⟩ := xa_go_some hn
  refine lv_lsub hx hb hd ?_
  exact kk _ ls H locs hp hl hM hS
set_option maxHeartbeats 1000000 in
theorem xs_lmul {len nip r q : Nat} {ts : List Nat} {lv lv' : List (Nat × Value)} {st st' : List Value} {h h' : List va_E} {ip' k z : Nat} (hC : xa_ckC cl Ts = true)
    (F : xa_Fr D cl Ts cs b base L xs M p s m args meth c) (hck : xa_ck cl Ts M pc .lmul len nip r q ts = true) (hn : xa_nx L xs .lmul nip r q ts lv st h = some (ip', lv', st', h', k, z))
    (hl : lv_has ls (xa_mL M) (xa_lv b base lv)) (hM : xa_Mt D cl cs b base h H) (hS : va_S (xa_A base) s.heap H locs) (hcs : s.heap.size + cells ≤ base + h.length) (hc : cells + k ≤ R.cells) (hz : slots + z ≤ R.slots) (hro : xa_kind .lmul r q = 4 → 1 ≤ R.frames ∧ 30 ≤ R.locals)
    (kk : ∀ (pc' : Nat) (ls' : Array Slot) (H' : Heap) (locs' : List Loc), xa_pc M ip' = pc' → lv_has ls' (xa_mL M) (xa_lv b base lv') → xa_Mt D cl cs b base h' H' → va_S (xa_A base) s.heap H' locs' →
      W p l e R s m args below meth c H' locs' (cells + k) (slots + z) Q (F0 m pc' ls' (st'.map (xa_rv b base)))) :
    W p l e R s m args below meth c H locs cells slots Q (F0 m pc ls (st.map (xa_rv b base))) := by
  obtain ⟨hx, hb, hml, hown, hts, hK, hX, hbb, hbs, hlk, hrt, hnm, hxt⟩ := F
  have hD := xa_W_D cs b base h
  have hA : ∀ q, s.heap.size ≤ q → xa_A base q := fun q hq => Nat.le_trans hbs hq
  have hbA : ¬ xa_A base b := Nat.not_le.mpr hbb
  have hbl : b < s.heap.size := Nat.lt_of_lt_of_le hbb hbs
  unfold xa_ck at hck
  rw [Bool.and_eq_true, decide_eq_true_eq] at hck
  obtain ⟨hd, hck⟩ := hck
  simp only [Bool.and_eq_true, decide_eq_true_eq] at hck
  obtain ⟨rfl, hp⟩ := hck
  obtain ⟨y, st, rfl, hn⟩ := xa_pl_some hn
  obtain ⟨x, st, rfl, hn⟩ := xa_pl_some hn
  obtain ⟨rfl, rfl, rfl, rfl, rfl, rfl⟩ := xa_go_some hn
  refine lv_lmul hx hb hd ?_
  exact kk _ ls H locs hp hl hM hS
set_option maxHeartbeats 1000000 in
theorem xs_idiv {len nip r q : Nat} {ts : List Nat} {lv lv' : List (Nat × Value)} {st st' : List Value} {h h' : List va_E} {ip' k z : Nat} (hC : xa_ckC cl Ts = true)
    (F : xa_Fr D cl Ts cs b base L xs M p s m args meth c) (hck : xa_ck cl Ts M pc .idiv len nip r q ts = true) (hn : xa_nx L xs .idiv nip r q ts lv st h = some (ip', lv', st', h', k, z))
    (hl : lv_has ls (xa_mL M) (xa_lv b base lv)) (hM : xa_Mt D cl cs b base h H) (hS : va_S (xa_A base) s.heap H locs) (hcs : s.heap.size + cells ≤ base + h.length) (hc : cells + k ≤ R.cells) (hz : slots + z ≤ R.slots) (hro : xa_kind .idiv r q = 4 → 1 ≤ R.frames ∧ 30 ≤ R.locals)
    (kk : ∀ (pc' : Nat) (ls' : Array Slot) (H' : Heap) (locs' : List Loc), xa_pc M ip' = pc' → lv_has ls' (xa_mL M) (xa_lv b base lv') → xa_Mt D cl cs b base h' H' → va_S (xa_A base) s.heap H' locs' →
      W p l e R s m args below meth c H' locs' (cells + k) (slots + z) Q (F0 m pc' ls' (st'.map (xa_rv b base)))) :
    W p l e R s m args below meth c H locs cells slots Q (F0 m pc ls (st.map (xa_rv b base))) := by
  obtain ⟨hx, hb, hml, hown, hts, hK, hX, hbb, hbs, hlk, hrt, hnm, hxt⟩ := F
  have hD := xa_W_D cs b base h
  have hA : ∀ q, s.heap.size ≤ q → xa_A base q := fun q hq => Nat.le_trans hbs hq
  have hbA : ¬ xa_A base b := Nat.not_le.mpr hbb
  have hbl : b < s.heap.size := Nat.lt_of_lt_of_le hbb hbs
  unfold xa_ck at hck
  rw [Bool.and_eq_true, decide_eq_true_eq] at hck
  obtain ⟨hd, hck⟩ := hck
  simp only [Bool.and_eq_true, decide_eq_true_eq] at hck
  obtain ⟨rfl, hp⟩ := hck
  obtain ⟨y, st, rfl, hn⟩ := xa_pi_some hn
  obtain ⟨x, st, rfl, hn⟩ := xa_pi_some hn
  obtain ⟨hy, hn⟩ := xa_if_some hn
  obtain ⟨rfl, rfl, rfl, rfl, rfl, rfl⟩ := xa_go_some hn
  refine lv_idiv hx hb hd (by simpa using hy) ?_
  exact kk _ ls H locs hp hl hM hS
set_option maxHeartbeats 1000000 in
theorem xs_irem {len nip r q : Nat} {ts : List Nat} {lv lv' : List (Nat × Value)} {st st' : List Value} {h h' : List va_E} {ip' k z : Nat} (hC : xa_ckC cl Ts = true)
    (F : xa_Fr D cl Ts cs b base L xs M p s m args meth c) (hck : xa_ck cl Ts M pc .irem len nip r q ts = true) (hn : xa_nx L xs .irem nip r q ts lv st h = some (ip', lv', st', h', k, z))
    (hl : lv_has ls (xa_mL M) (xa_lv b base lv)) (hM : xa_Mt D cl cs b base h H) (hS : va_S (xa_A base) s.heap H locs) (hcs : s.heap.size + cells ≤ base + h.length) (hc : cells + k ≤ R.cells) (hz : slots + z ≤ R.slots) (hro : xa_kind .irem r q = 4 → 1 ≤ R.frames ∧ 30 ≤ R.locals)
    (kk : ∀ (pc' : Nat) (ls' : Array Slot) (H' : Heap) (locs' : List Loc), xa_pc M ip' = pc' → lv_has ls' (xa_mL M) (xa_lv b base lv') → xa_Mt D cl cs b base h' H' → va_S (xa_A base) s.heap H' locs' →
      W p l e R s m args below meth c H' locs' (cells + k) (slots + z) Q (F0 m pc' ls' (st'.map (xa_rv b base)))) :
    W p l e R s m args below meth c H locs cells slots Q (F0 m pc ls (st.map (xa_rv b base))) := by
  obtain ⟨hx, hb, hml, hown, hts, hK, hX, hbb, hbs, hlk, hrt, hnm, hxt⟩ := F
  have hD := xa_W_D cs b base h
  have hA : ∀ q, s.heap.size ≤ q → xa_A base q := fun q hq => Nat.le_trans hbs hq
  have hbA : ¬ xa_A base b := Nat.not_le.mpr hbb
  have hbl : b < s.heap.size := Nat.lt_of_lt_of_le hbb hbs
  unfold xa_ck at hck
  rw [Bool.and_eq_true, decide_eq_true_eq] at hck
  obtain ⟨hd, hck⟩ := hck
  simp only [Bool.and_eq_true, decide_eq_true_eq] at hck
  obtain ⟨rfl, hp⟩ := hck
  obtain ⟨y, st, rfl, hn⟩ := xa_pi_some hn
  obtain ⟨x, st, rfl, hn⟩ := xa_pi_some hn
  obtain ⟨hy, hn⟩ := xa_if_some hn
  obtain ⟨rfl, rfl, rfl, rfl, rfl, rfl⟩ := xa_go_some hn
  refine lv_irem hx hb hd (by simpa using hy) ?_
  exact kk _ ls H locs hp hl hM hS
set_option maxHeartbeats 1000000 in
theorem xs_ldiv {len nip r q : Nat} {ts : List Nat} {lv lv' : List (Nat × Value)} {st st' : List Value} {h h' : List va_E} {ip' k z : Nat} (hC : xa_ckC cl Ts = true)
    (F : xa_Fr D cl Ts cs b base L xs M p s m args meth c) (hck : xa_ck cl Ts M pc .ldiv len nip r q ts = true) (hn : xa_nx L xs .ldiv nip r q ts lv st h = some (ip', lv', st', h', k, z))
    (hl : lv_has ls (xa_mL M) (xa_lv b base lv)) (hM : xa_Mt D cl cs b base h H) (hS : va_S (xa_A base) s.heap H locs) (hcs : s.heap.size + cells ≤ base + h.length) (hc : cells + k ≤ R.cells) (hz : slots + z ≤ R.slots) (hro : xa_kind .ldiv r q = 4 → 1 ≤ R.frames ∧ 30 ≤ R.locals)
    (kk : ∀ (pc' : Nat) (ls' : Array Slot) (H' : Heap) (locs' : List Loc), xa_pc M ip' = pc' → lv_has ls' (xa_mL M) (xa_lv b base lv') → xa_Mt D cl cs b base h' H' → va_S (xa_A base) s.heap H' locs' →
      W p l e R s m args below meth c H' locs' (cells + k) (slots + z) Q (F0 m pc' ls' (st'.map (xa_rv b base)))) :
    W p l e R s m args below meth c H locs cells slots Q (F0 m pc ls (st.map (xa_rv b base))) := by
  obtain ⟨hx, hb, hml, hown, hts, hK, hX, hbb, hbs, hlk, hrt, hnm, hxt⟩ := F
  have hD := xa_W_D cs b base h
  have hA : ∀ q, s.heap.size ≤ q → xa_A base q := fun q hq => Nat.le_trans hbs hq
  have hbA : ¬ xa_A base b := Nat.not_le.mpr hbb
  have hbl : b < s.heap.size := Nat.lt_of_lt_of_le hbb hbs
  unfold xa_ck at hck
  rw [Bool.and_eq_true, decide_eq_true_eq] at hck
  obtain ⟨hd, hck⟩ := hck
  simp only [Bool.and_eq_true, decide_eq_true_eq] at hck
  obtain ⟨rfl, hp⟩ := hck
  obtain ⟨y, st, rfl, hn⟩ := xa_pl_some hn
  obtain ⟨x, st, rfl, hn⟩ := xa_pl_some hn
  obtain ⟨hy, hn⟩ := xa_if_some hn
  obtain ⟨rfl, rfl, rfl, rfl, rfl, rfl⟩ := xa_go_some hn
  refine lv_ldiv hx hb hd (by simpa using hy) ?_
  exact kk _ ls H locs hp hl hM hS
set_option maxHeartbeats 1000000 in
theorem xs_lrem {len nip r q : Nat} {ts : List Nat} {lv lv' : List (Nat × Value)} {st st' : List Value} {h h' : List va_E} {ip' k z : Nat} (hC : xa_ckC cl Ts = true)
    (F : xa_Fr D cl Ts cs b base L xs M p s m args meth c) (hck : xa_ck cl Ts M pc .lrem len nip r q ts = true) (hn : xa_nx L xs .lrem nip r q ts lv st h = some (ip', lv', st', h', k, z))
    (hl : lv_has ls (xa_mL M) (xa_lv b base lv)) (hM : xa_Mt D cl cs b base h H) (hS : va_S (xa_A base) s.heap H locs) (hcs : s.heap.size + cells ≤ base + h.length) (hc : cells + k ≤ R.cells) (hz : slots + z ≤ R.slots) (hro : xa_kind .lrem r q = 4 → 1 ≤ R.frames ∧ 30 ≤ R.locals)
    (kk : ∀ (pc' : Nat) (ls' : Array Slot) (H' : Heap) (locs' : List Loc), xa_pc M ip' = pc' → lv_has ls' (xa_mL M) (xa_lv b base lv') → xa_Mt D cl cs b base h' H' → va_S (xa_A base) s.heap H' locs' →
      W p l e R s m args below meth c H' locs' (cells + k) (slots + z) Q (F0 m pc' ls' (st'.map (xa_rv b base)))) :
    W p l e R s m args below meth c H locs cells slots Q (F0 m pc ls (st.map (xa_rv b base))) := by
  obtain ⟨hx, hb, hml, hown, hts, hK, hX, hbb, hbs, hlk, hrt, hnm, hxt⟩ := F
  have hD := xa_W_D cs b base h
  have hA : ∀ q, s.heap.size ≤ q → xa_A base q := fun q hq => Nat.le_trans hbs hq
  have hbA : ¬ xa_A base b := Nat.not_le.mpr hbb
  have hbl : b < s.heap.size := Nat.lt_of_lt_of_le hbb hbs
  unfold xa_ck at hck
  rw [Bool.and_eq_true, decide_eq_true_eq] at hck
  obtain ⟨hd, hck⟩ := hck
  simp only [Bool.and_eq_true, decide_eq_true_eq] at hck
  obtain ⟨rfl, hp⟩ := hck
  obtain ⟨y, st, rfl, hn⟩ := xa_pl_some hn
  obtain ⟨x, st, rfl, hn⟩ := xa_pl_some hn
  obtain ⟨hy, hn⟩ := xa_if_some hn
  obtain ⟨rfl, rfl, rfl, rfl, rfl, rfl⟩ := xa_go_some hn
  refine lv_lrem hx hb hd (by simpa using hy) ?_
  exact kk _ ls H locs hp hl hM hS
set_option maxHeartbeats 1000000 in
theorem xs_ineg {len nip r q : Nat} {ts : List Nat} {lv lv' : List (Nat × Value)} {st st' : List Value} {h h' : List va_E} {ip' k z : Nat} (hC : xa_ckC cl Ts = true)
    (F : xa_Fr D cl Ts cs b base L xs M p s m args meth c) (hck : xa_ck cl Ts M pc .ineg len nip r q ts = true) (hn : xa_nx L xs .ineg nip r q ts lv st h = some (ip', lv', st', h', k, z))
    (hl : lv_has ls (xa_mL M) (xa_lv b base lv)) (hM : xa_Mt D cl cs b base h H) (hS : va_S (xa_A base) s.heap H locs) (hcs : s.heap.size + cells ≤ base + h.length) (hc : cells + k ≤ R.cells) (hz : slots + z ≤ R.slots) (hro : xa_kind .ineg r q = 4 → 1 ≤ R.frames ∧ 30 ≤ R.locals)
    (kk : ∀ (pc' : Nat) (ls' : Array Slot) (H' : Heap) (locs' : List Loc), xa_pc M ip' = pc' → lv_has ls' (xa_mL M) (xa_lv b base lv') → xa_Mt D cl cs b base h' H' → va_S (xa_A base) s.heap H' locs' →
      W p l e R s m args below meth c H' locs' (cells + k) (slots + z) Q (F0 m pc' ls' (st'.map (xa_rv b base)))) :
    W p l e R s m args below meth c H locs cells slots Q (F0 m pc ls (st.map (xa_rv b base))) := by
  obtain ⟨hx, hb, hml, hown, hts, hK, hX, hbb, hbs, hlk, hrt, hnm, hxt⟩ := F
  have hD := xa_W_D cs b base h
  have hA : ∀ q, s.heap.size ≤ q → xa_A base q := fun q hq => Nat.le_trans hbs hq
  have hbA : ¬ xa_A base b := Nat.not_le.mpr hbb
  have hbl : b < s.heap.size := Nat.lt_of_lt_of_le hbb hbs
  unfold xa_ck at hck
  rw [Bool.and_eq_true, decide_eq_true_eq] at hck
  obtain ⟨hd, hck⟩ := hck
  simp only [Bool.and_eq_true, decide_eq_true_eq] at hck
  obtain ⟨rfl, hp⟩ := hck
  obtain ⟨x, st, rfl, hn⟩ := xa_pi_some hn
  obtain ⟨rfl, rfl, rfl, rfl, rfl, rfl⟩ := xa_go_some hn
  refine lv_ineg hx hb hd ?_
  exact kk _ ls H locs hp hl hM hS
set_option maxHeartbeats 1000000 in
theorem xs_lcmp {len nip r q : Nat} {ts : List Nat} {lv lv' : List (Nat × Value)} {st st' : List Value} {h h' : List va_E} {ip' k z : Nat} (hC : xa_ckC cl Ts = true)
    (F : xa_Fr D cl Ts cs b base L xs M p s m args meth c) (hck : xa_ck cl Ts M pc .lcmp len nip r q ts = true) (hn : xa_nx L xs .lcmp nip r q ts lv st h = some (ip', lv', st', h', k, z))
    (hl : lv_has ls (xa_mL M) (xa_lv b base lv)) (hM : xa_Mt D cl cs b base h H) (hS : va_S (xa_A base) s.heap H locs) (hcs : s.heap.size + cells ≤ base + h.length) (hc : cells + k ≤ R.cells) (hz : slots + z ≤ R.slots) (hro : xa_kind .lcmp r q = 4 → 1 ≤ R.frames ∧ 30 ≤ R.locals)
    (kk : ∀ (pc' : Nat) (ls' : Array Slot) (H' : Heap) (locs' : List Loc), xa_pc M ip' = pc' → lv_has ls' (xa_mL M) (xa_lv b base lv') → xa_Mt D cl cs b base h' H' → va_S (xa_A base) s.heap H' locs' →
      W p l e R s m args below meth c H' locs' (cells + k) (slots + z) Q (F0 m pc' ls' (st'.map (xa_rv b base)))) :
    W p l e R s m args below meth c H locs cells slots Q (F0 m pc ls (st.map (xa_rv b base))) := by
  obtain ⟨hx, hb, hml, hown, hts, hK, hX, hbb, hbs, hlk, hrt, hnm, hxt⟩ := F
  have hD := xa_W_D cs b base h
  have hA : ∀ q, s.heap.size ≤ q → xa_A base q := fun q hq => Nat.le_trans hbs hq
  have hbA : ¬ xa_A base b := Nat.not_le.mpr hbb
  have hbl : b < s.heap.size := Nat.lt_of_lt_of_le hbb hbs
  unfold xa_ck at hck
  rw [Bool.and_eq_true, decide_eq_true_eq] at hck
  obtain ⟨hd, hck⟩ := hck
  simp only [Bool.and_eq_true, decide_eq_true_eq] at hck
  obtain ⟨rfl, hp⟩ := hck
  obtain ⟨y, st, rfl, hn⟩ := xa_pl_some hn
  obtain ⟨x, st, rfl, hn⟩ := xa_pl_some hn
  obtain ⟨rfl, rfl, rfl, rfl, rfl, rfl⟩ := xa_go_some hn
  refine W.lcmp hx hb hd ?_
  exact kk _ ls H locs hp hl hM hS
set_option maxHeartbeats 1000000 in
theorem xs_i2l {len nip r q : Nat} {ts : List Nat} {lv lv' : List (Nat × Value)} {st st' : List Value} {h h' : List va_E} {ip' k z : Nat} (hC : xa_ckC cl Ts = true)
    (F : xa_Fr D cl Ts cs b base L xs M p s m args meth c) (hck : xa_ck cl Ts M pc .i2l len nip r q ts = true) (hn : xa_nx L xs .i2l nip r q ts lv st h = some (ip', lv', st', h', k, z))
    (hl : lv_has ls (xa_mL M) (xa_lv b base lv)) (hM : xa_Mt D cl cs b base h H) (hS : va_S (xa_A base) s.heap H locs) (hcs : s.heap.size + cells ≤ base + h.length) (hc : cells + k ≤ R.cells) (hz : slots + z ≤ R.slots) (hro : xa_kind .i2l r q = 4 → 1 ≤ R.frames ∧ 30 ≤ R.locals)
    (kk : ∀ (pc' : Nat) (ls' : Array Slot) (H' : Heap) (locs' : List Loc), xa_pc M ip' = pc' → lv_has ls' (xa_mL M) (xa_lv b base lv') → xa_Mt D cl cs b base h' H' → va_S (xa_A base) s.heap H' locs' →
      W p l e R s m args below meth c H' locs' (cells + k) (slots + z) Q (F0 m pc' ls' (st'.map (xa_rv b base)))) :
    W p l e R s m args below meth c H locs cells slots Q (F0 m pc ls (st.map (xa_rv b base))) := by
  obtain ⟨hx, hb, hml, hown, hts, hK, hX, hbb, hbs, hlk, hrt, hnm, hxt⟩ := F
  have hD := xa_W_D cs b base h
  have hA : ∀ q, s.heap.size ≤ q → xa_A base q := fun q hq => Nat.le_trans hbs hq
  have hbA : ¬ xa_A base b := Nat.not_le.mpr hbb
  have hbl : b < s.heap.size := Nat.lt_of_lt_of_le hbb hbs
  unfold xa_ck at hck
  rw [Bool.and_eq_true, decide_eq_true_eq] at hck
  obtain ⟨hd, hck⟩ := hck
  simp only [Bool.and_eq_true, decide_eq_true_eq] at hck
  obtain ⟨rfl, hp⟩ := hck
  obtain ⟨x, st, rfl, hn⟩ := xa_pi_some hn
  obtain ⟨rfl, rfl, rfl, rfl, rfl, rfl⟩ := xa_go_some hn
  refine lv_i2l hx hb hd rfl ?_
  exact kk _ ls H locs hp hl hM hS
set_option maxHeartbeats 1000000 in
theorem xs_l2i {len nip r q : Nat} {ts : List Nat} {lv lv' : List (Nat × Value)} {st st' : List Value} {h h' : List va_E} {ip' k z : Nat} (hC : xa_ckC cl Ts = true)
    (F : xa_Fr D cl Ts cs b base L xs M p s m args meth c) (hck : xa_ck cl Ts M pc .l2i len nip r q ts = true) (hn : xa_nx L xs .l2i nip r q ts lv st h = some (ip', lv', st', h', k, z))
    (hl : lv_has ls (xa_mL M) (xa_lv b base lv)) (hM : xa_Mt D cl cs b base h H) (hS : va_S (xa_A base) s.heap H locs) (hcs : s.heap.size + cells ≤ base + h.length) (hc : cells + k ≤ R.cells) (hz : slots + z ≤ R.slots) (hro : xa_kind .l2i r q = 4 → 1 ≤ R.frames ∧ 30 ≤ R.locals)
    (kk : ∀ (pc' : Nat) (ls' : Array Slot) (H' : Heap) (locs' : List Loc), xa_pc M ip' = pc' → lv_has ls' (xa_mL M) (xa_lv b base lv') → xa_Mt D cl cs b base h' H' → va_S (xa_A base) s.heap H' locs' →
      W p l e R s m args below meth c H' locs' (cells + k) (slots + z) Q (F0 m pc' ls' (st'.map (xa_rv b base)))) :
    W p l e R s m args below meth c H locs cells slots Q (F0 m pc ls (st.map (xa_rv b base))) := by
  obtain ⟨hx, hb, hml, hown, hts, hK, hX, hbb, hbs, hlk, hrt, hnm, hxt⟩ := F
  have hD := xa_W_D cs b base h
  have hA : ∀ q, s.heap.size ≤ q → xa_A base q := fun q hq => Nat.le_trans hbs hq
  have hbA : ¬ xa_A base b := Nat.not_le.mpr hbb
  have hbl : b < s.heap.size := Nat.lt_of_lt_of_le hbb hbs
  unfold xa_ck at hck
  rw [Bool.and_eq_true, decide_eq_true_eq] at hck
  obtain ⟨hd, hck⟩ := hck
  simp only [Bool.and_eq_true, decide_eq_true_eq] at hck
  obtain ⟨rfl, hp⟩ := hck
  obtain ⟨x, st, rfl, hn⟩ := xa_pl_some hn
  obtain ⟨rfl, rfl, rfl, rfl, rfl, rfl⟩ := xa_go_some hn
  refine lv_l2i hx hb hd rfl ?_
  exact kk _ ls H locs hp hl hM hS
set_option maxHeartbeats 1000000 in
theorem xs_dup {len nip r q : Nat} {ts : List Nat} {lv lv' : List (Nat × Value)} {st st' : List Value} {h h' : List va_E} {ip' k z : Nat} (hC : xa_ckC cl Ts = true)
    (F : xa_Fr D cl Ts cs b base L xs M p s m args meth c) (hck : xa_ck cl Ts M pc .dup len nip r q ts = true) (hn : xa_nx L xs .dup nip r q ts lv st h = some (ip', lv', st', h', k, z))
    (hl : lv_has ls (xa_mL M) (xa_lv b base lv)) (hM : xa_Mt D cl cs b base h H) (hS : va_S (xa_A base) s.heap H locs) (hcs : s.heap.size + cells ≤ base + h.length) (hc : cells + k ≤ R.cells) (hz : slots + z ≤ R.slots) (hro : xa_kind .dup r q = 4 → 1 ≤ R.frames ∧ 30 ≤ R.locals)
    (kk : ∀ (pc' : Nat) (ls' : Array Slot) (H' : Heap) (locs' : List Loc), xa_pc M ip' = pc' → lv_has ls' (xa_mL M) (xa_lv b base lv') → xa_Mt D cl cs b base h' H' → va_S (xa_A base) s.heap H' locs' →
      W p l e R s m args below meth c H' locs' (cells + k) (slots + z) Q (F0 m pc' ls' (st'.map (xa_rv b base)))) :
    W p l e R s m args below meth c H locs cells slots Q (F0 m pc ls (st.map (xa_rv b base))) := by
  obtain ⟨hx, hb, hml, hown, hts, hK, hX, hbb, hbs, hlk, hrt, hnm, hxt⟩ := F
  have hD := xa_W_D cs b base h
  have hA : ∀ q, s.heap.size ≤ q → xa_A base q := fun q hq => Nat.le_trans hbs hq
  have hbA : ¬ xa_A base b := Nat.not_le.mpr hbb
  have hbl : b < s.heap.size := Nat.lt_of_lt_of_le hbb hbs
  unfold xa_ck at hck
  rw [Bool.and_eq_true, decide_eq_true_eq] at hck
  obtain ⟨hd, hck⟩ := hck
  simp only [Bool.and_eq_true, decide_eq_true_eq] at hck
  obtain ⟨rfl, hp⟩ := hck
  obtain ⟨v, st, rfl, hv, hn⟩ := xa_p1_some hn
  obtain ⟨rfl, rfl, rfl, rfl, rfl, rfl⟩ := xa_go_some hn
  refine lv_dup hx hb hd (by rw [xa_rv_cat]; exact xa_cat1 hv) ?_
  exact kk _ ls H locs hp hl hM hS
set_option maxHeartbeats 1000000 in
theorem xs_pop {len nip r q : Nat} {ts : List Nat} {lv lv' : List (Nat × Value)} {st st' : List Value} {h h' : List va_E} {ip' k z : Nat} (hC : xa_ckC cl Ts = true)
    (F : xa_Fr D cl Ts cs b base L xs M p s m args meth c) (hck : xa_ck cl Ts M pc .pop len nip r q ts = true) (hn : xa_nx L xs .pop nip r q ts lv st h = some (ip', lv', st', h', k, z))
    (hl : lv_has ls (xa_mL M) (xa_lv b base lv)) (hM : xa_Mt D cl cs b base h H) (hS : va_S (xa_A base) s.heap H locs) (hcs : s.heap.size + cells ≤ base + h.length) (hc : cells + k ≤ R.cells) (hz : slots + z ≤ R.slots) (hro : xa_kind .pop r q = 4 → 1 ≤ R.frames ∧ 30 ≤ R.locals)
    (kk : ∀ (pc' : Nat) (ls' : Array Slot) (H' : Heap) (locs' : List Loc), xa_pc M ip' = pc' → lv_has ls' (xa_mL M) (xa_lv b base lv') → xa_Mt D cl cs b base h' H' → va_S (xa_A base) s.heap H' locs' →
      W p l e R s m args below meth c H' locs' (cells + k) (slots + z) Q (F0 m pc' ls' (st'.map (xa_rv b base)))) :
    W p l e R s m args below meth c H locs cells slots Q (F0 m pc ls (st.map (xa_rv b base))) := by
  obtain ⟨hx, hb, hml, hown, hts, hK, hX, hbb, hbs, hlk, hrt, hnm, hxt⟩ := F
  have hD := xa_W_D cs b base h
  have hA : ∀ q, s.heap.size ≤ q → xa_A base q := fun q hq => Nat.le_trans hbs hq
  have hbA : ¬ xa_A base b := Nat.not_le.mpr hbb
  have hbl : b < s.heap.size := Nat.lt_of_lt_of_le hbb hbs
  unfold xa_ck at hck
  rw [Bool.and_eq_true, decide_eq_true_eq] at hck
  obtain ⟨hd, hck⟩ := hck
  simp only [Bool.and_eq_true, decide_eq_true_eq] at hck
  obtain ⟨rfl, hp⟩ := hck
  obtain ⟨v, st, rfl, hv, hn⟩ := xa_p1_some hn
  obtain ⟨rfl, rfl, rfl, rfl, rfl, rfl⟩ := xa_go_some hn
  refine lv_pop hx hb hd (by rw [xa_rv_cat]; exact xa_cat1 hv) ?_
  exact kk _ ls H locs hp hl hM hS
set_option maxHeartbeats 1000000 in
theorem xs_dup2 {len nip r q : Nat} {ts : List Nat} {lv lv' : List (Nat × Value)} {st st' : List Value} {h h' : List va_E} {ip' k z : Nat} (hC : xa_ckC cl Ts = true)
    (F : xa_Fr D cl Ts cs b base L xs M p s m args meth c) (hck : xa_ck cl Ts M pc .dup2 len nip r q ts = true) (hn : xa_nx L xs .dup2 nip r q ts lv st h = some (ip', lv', st', h', k, z))
    (hl : lv_has ls (xa_mL M) (xa_lv b base lv)) (hM : xa_Mt D cl cs b base h H) (hS : va_S (xa_A base) s.heap H locs) (hcs : s.heap.size + cells ≤ base + h.length) (hc : cells + k ≤ R.cells) (hz : slots + z ≤ R.slots) (hro : xa_kind .dup2 r q = 4 → 1 ≤ R.frames ∧ 30 ≤ R.locals)
    (kk : ∀ (pc' : Nat) (ls' : Array Slot) (H' : Heap) (locs' : List Loc), xa_pc M ip' = pc' → lv_has ls' (xa_mL M) (xa_lv b base lv') → xa_Mt D cl cs b base h' H' → va_S (xa_A base) s.heap H' locs' →
      W p l e R s m args below meth c H' locs' (cells + k) (slots + z) Q (F0 m pc' ls' (st'.map (xa_rv b base)))) :
    W p l e R s m args below meth c H locs cells slots Q (F0 m pc ls (st.map (xa_rv b base))) := by
  obtain ⟨hx, hb, hml, hown, hts, hK, hX, hbb, hbs, hlk, hrt, hnm, hxt⟩ := F
  have hD := xa_W_D cs b base h
  have hA : ∀ q, s.heap.size ≤ q → xa_A base q := fun q hq => Nat.le_trans hbs hq
  have hbA : ¬ xa_A base b := Nat.not_le.mpr hbb
  have hbl : b < s.heap.size := Nat.lt_of_lt_of_le hbb hbs
  unfold xa_ck at hck
  rw [Bool.and_eq_true, decide_eq_true_eq] at hck
  obtain ⟨hd, hck⟩ := hck
  simp only [Bool.and_eq_true, decide_eq_true_eq] at hck
  obtain ⟨rfl, hp⟩ := hck
  obtain ⟨v, st, rfl, hv, hn⟩ := xa_p1_some hn
  obtain ⟨u, st, rfl, hu, hn⟩ := xa_p1_some hn
  obtain ⟨rfl, rfl, rfl, rfl, rfl, rfl⟩ := xa_go_some hn
  refine lv_dup2_11 hx hb hd (by rw [xa_rv_cat]; exact xa_cat1 hv) (by rw [xa_rv_cat]; exact xa_cat1 hu) ?_
  exact kk _ ls H locs hp hl hM hS
set_option maxHeartbeats 1000000 in
theorem xs_ifCond {cd : Jvm.ClassFile.Cond} {off : Int} {len nip r q : Nat} {ts : List Nat} {lv lv' : List (Nat × Value)} {st st' : List Value} {h h' : List va_E} {ip' k z : Nat} (hC : xa_ckC cl Ts = true)
    (F : xa_Fr D cl Ts cs b base L xs M p s m args meth c) (hck : xa_ck cl Ts M pc (.ifCond cd off) len nip r q ts = true) (hn : xa_nx L xs (.ifCond cd off) nip r q ts lv st h = some (ip', lv', st', h', k, z))
    (hl : lv_has ls (xa_mL M) (xa_lv b base lv)) (hM : xa_Mt D cl cs b base h H) (hS : va_S (xa_A base) s.heap H locs) (hcs : s.heap.size + cells ≤ base + h.length) (hc : cells + k ≤ R.cells) (hz : slots + z ≤ R.slots) (hro : xa_kind (.ifCond cd off) r q = 4 → 1 ≤ R.frames ∧ 30 ≤ R.locals)
    (kk : ∀ (pc' : Nat) (ls' : Array Slot) (H' : Heap) (locs' : List Loc), xa_pc M ip' = pc' → lv_has ls' (xa_mL M) (xa_lv b base lv') → xa_Mt D cl cs b base h' H' → va_S (xa_A base) s.heap H' locs' →
      W p l e R s m args below meth c H' locs' (cells + k) (slots + z) Q (F0 m pc' ls' (st'.map (xa_rv b base)))) :
    W p l e R s m args below meth c H locs cells slots Q (F0 m pc ls (st.map (xa_rv b base))) := by
  obtain ⟨hx, hb, hml, hown, hts, hK, hX, hbb, hbs, hlk, hrt, hnm, hxt⟩ := F
  have hD := xa_W_D cs b base h
  have hA : ∀ q, s.heap.size ≤ q → xa_A base q := fun q hq => Nat.le_trans hbs hq
  have hbA : ¬ xa_A base b := Nat.not_le.mpr hbb
  have hbl : b < s.heap.size := Nat.lt_of_lt_of_le hbb hbs
  unfold xa_ck at hck
  rw [Bool.and_eq_true, decide_eq_true_eq] at hck
  obtain ⟨hd, hck⟩ := hck
  simp only [Bool.and_eq_true, decide_eq_true_eq] at hck
  obtain ⟨rfl, hp, ht⟩ := hck
  obtain ⟨x, st, rfl, hn⟩ := xa_pi_some hn
  obtain ⟨rfl, rfl, rfl, rfl, rfl, rfl⟩ := xa_go_some hn
  cases cd with
  | eq => exact lv_if_eq hx hb hd ht (fun hh => kk _ ls H locs (by simp [xa_cmp, hh]) hl hM hS) (fun hh => kk _ ls H locs (by simpa [xa_cmp, hh] using hp) hl hM hS)
  | ne => exact lv_if_ne hx hb hd ht (fun hh => kk _ ls H locs (by simp [xa_cmp, hh]) hl hM hS) (fun hh => kk _ ls H locs (by simpa [xa_cmp, hh] using hp) hl hM hS)
  | lt => exact lv_if_lt hx hb hd ht (fun hh => kk _ ls H locs (by simp [xa_cmp, hh]) hl hM hS) (fun hh => kk _ ls H locs (by simpa [xa_cmp, hh] using hp) hl hM hS)
  | ge => exact lv_if_ge hx hb hd ht (fun hh => kk _ ls H locs (by simp [xa_cmp, hh]) hl hM hS) (fun hh => kk _ ls H locs (by simpa [xa_cmp, hh] using hp) hl hM hS)
  | gt => exact lv_if_gt hx hb hd ht (fun hh => kk _ ls H locs (by simp [xa_cmp, hh]) hl hM hS) (fun hh => kk _ ls H locs (by simpa [xa_cmp, hh] using hp) hl hM hS)
  | le => exact lv_if_le hx hb hd ht (fun hh => kk _ ls H locs (by simp [xa_cmp, hh]) hl hM hS) (fun hh => kk _ ls H locs (by simpa [xa_cmp, hh] using hp) hl hM hS)
set_option maxHeartbeats 1000000 in
theorem xs_if_icmp {cd : Jvm.ClassFile.Cond} {off : Int} {len nip r q : Nat} {ts : List Nat} {lv lv' : List (Nat × Value)} {st st' : List Value} {h h' : List va_E} {ip' k z : Nat} (hC : xa_ckC cl Ts = true)
    (F : xa_Fr D cl Ts cs b base L xs M p s m args meth c) (hck : xa_ck cl Ts M pc (.if_icmp cd off) len nip r q ts = true) (hn : xa_nx L xs (.if_icmp cd off) nip r q ts lv st h = some (ip', lv', st', h', k, z))
    (hl : lv_has ls (xa_mL M) (xa_lv b base lv)) (hM : xa_Mt D cl cs b base h H) (hS : va_S (xa_A base) s.heap H locs) (hcs : s.heap.size + cells ≤ base + h.length) (hc : cells + k ≤ R.cells) (hz : slots + z ≤ R.slots) (hro : xa_kind (.if_icmp cd off) r q = 4 → 1 ≤ R.frames ∧ 30 ≤ R.locals)
    (kk : ∀ (pc' : Nat) (ls' : Array Slot) (H' : Heap) (locs' : List Loc), xa_pc M ip' = pc' → lv_has ls' (xa_mL M) (xa_lv b base lv') → xa_Mt D cl cs b base h' H' → va_S (xa_A base) s.heap H' locs' →
      W p l e R s m args below meth c H' locs' (cells + k) (slots + z) Q (F0 m pc' ls' (st'.map (xa_rv b base)))) :
    W p l e R s m args below meth c H locs cells slots Q (F0 m pc ls (st.map (xa_rv b base))) := by
  obtain ⟨hx, hb, hml, hown, hts, hK, hX, hbb, hbs, hlk, hrt, hnm, hxt⟩ := F
  have hD := xa_W_D cs b base h
  have hA : ∀ q, s.heap.size ≤ q → xa_A base q := fun q hq => Nat.le_trans hbs hq
  have hbA : ¬ xa_A base b := Nat.not_le.mpr hbb
  have hbl : b < s.heap.size := Nat.lt_of_lt_of_le hbb hbs
  unfold xa_ck at hck
  rw [Bool.and_eq_true, decide_eq_true_eq] at hck
  obtain ⟨hd, hck⟩ := hck
  simp only [Bool.and_eq_true, decide_eq_true_eq] at hck
  obtain ⟨rfl, hp, ht⟩ := hck
  obtain ⟨y, st, rfl, hn⟩ := xa_pi_some hn
  obtain ⟨x, st, rfl, hn⟩ := xa_pi_some hn
  obtain ⟨rfl, rfl, rfl, rfl, rfl, rfl⟩ := xa_go_some hn
  cases cd with
  | eq => exact lv_icmp_eq hx hb hd ht (fun hh => kk _ ls H locs (by simp [xa_cmp, hh]) hl hM hS) (fun hh => kk _ ls H locs (by simpa [xa_cmp, hh] using hp) hl hM hS)
  | ne => exact lv_icmp_ne hx hb hd ht (fun hh => kk _ ls H locs (by simp [xa_cmp, hh]) hl hM hS) (fun hh => kk _ ls H locs (by simpa [xa_cmp, hh] using hp) hl hM hS)
  | lt => exact lv_icmp_lt hx hb hd ht (fun hh => kk _ ls H locs (by simp [xa_cmp, hh]) hl hM hS) (fun hh => kk _ ls H locs (by simpa [xa_cmp, hh] using hp) hl hM hS)
  | ge => exact lv_icmp_ge hx hb hd ht (fun hh => kk _ ls H locs (by simp [xa_cmp, hh]) hl hM hS) (fun hh => kk _ ls H locs (by simpa [xa_cmp, hh] using hp) hl hM hS)
  | gt => exact lv_icmp_gt hx hb hd ht (fun hh => kk _ ls H locs (by simp [xa_cmp, hh]) hl hM hS) (fun hh => kk _ ls H locs (by simpa [xa_cmp, hh] using hp) hl hM hS)
  | le => exact lv_icmp_le hx hb hd ht (fun hh => kk _ ls H locs (by simp [xa_cmp, hh]) hl hM hS) (fun hh => kk _ ls H locs (by simpa [xa_cmp, hh] using hp) hl hM hS)
set_option maxHeartbeats 1000000 in
theorem xs_goto {off : Int} {len nip r q : Nat} {ts : List Nat} {lv lv' : List (Nat × Value)} {st st' : List Value} {h h' : List va_E} {ip' k z : Nat} (hC : xa_ckC cl Ts = true)
    (F : xa_Fr D cl Ts cs b base L xs M p s m args meth c) (hck : xa_ck cl Ts M pc (.goto off) len nip r q ts = true) (hn : xa_nx L xs (.goto off) nip r q ts lv st h = some (ip', lv', st', h', k, z))
    (hl : lv_has ls (xa_mL M) (xa_lv b base lv)) (hM : xa_Mt D cl cs b base h H) (hS : va_S (xa_A base) s.heap H locs) (hcs : s.heap.size + cells ≤ base + h.length) (hc : cells + k ≤ R.cells) (hz : slots + z ≤ R.slots) (hro : xa_kind (.goto off) r q = 4 → 1 ≤ R.frames ∧ 30 ≤ R.locals)
    (kk : ∀ (pc' : Nat) (ls' : Array Slot) (H' : Heap) (locs' : List Loc), xa_pc M ip' = pc' → lv_has ls' (xa_mL M) (xa_lv b base lv') → xa_Mt D cl cs b base h' H' → va_S (xa_A base) s.heap H' locs' →
      W p l e R s m args below meth c H' locs' (cells + k) (slots + z) Q (F0 m pc' ls' (st'.map (xa_rv b base)))) :
    W p l e R s m args below meth c H locs cells slots Q (F0 m pc ls (st.map (xa_rv b base))) := by
  obtain ⟨hx, hb, hml, hown, hts, hK, hX, hbb, hbs, hlk, hrt, hnm, hxt⟩ := F
  have hD := xa_W_D cs b base h
  have hA : ∀ q, s.heap.size ≤ q → xa_A base q := fun q hq => Nat.le_trans hbs hq
  have hbA : ¬ xa_A base b := Nat.not_le.mpr hbb
  have hbl : b < s.heap.size := Nat.lt_of_lt_of_le hbb hbs
  unfold xa_ck at hck
  rw [Bool.and_eq_true, decide_eq_true_eq] at hck
  obtain ⟨hd, hck⟩ := hck
  simp only [Bool.and_eq_true, decide_eq_true_eq] at hck
  obtain ⟨rfl, ht⟩ := hck
  obtain ⟨rfl, rfl, rfl, rfl, rfl, rfl⟩ := xa_go_some hn
  exact lv_goto hx hb hd ht (kk _ ls H locs rfl hl hM hS)
set_option maxHeartbeats 1000000 in
theorem xs_getfield {x : Nat} {len nip r q : Nat} {ts : List Nat} {lv lv' : List (Nat × Value)} {st st' : List Value} {h h' : List va_E} {ip' k z : Nat} (hC : xa_ckC cl Ts = true)
    (F : xa_Fr D cl Ts cs b base L xs M p s m args meth c) (hck : xa_ck cl Ts M pc (.getfield x) len nip r q ts = true) (hn : xa_nx L xs (.getfield x) nip r q ts lv st h = some (ip', lv', st', h', k, z))
    (hl : lv_has ls (xa_mL M) (xa_lv b base lv)) (hM : xa_Mt D cl cs b base h H) (hS : va_S (xa_A base) s.heap H locs) (hcs : s.heap.size + cells ≤ base + h.length) (hc : cells + k ≤ R.cells) (hz : slots + z ≤ R.slots) (hro : xa_kind (.getfield x) r q = 4 → 1 ≤ R.frames ∧ 30 ≤ R.locals)
    (kk : ∀ (pc' : Nat) (ls' : Array Slot) (H' : Heap) (locs' : List Loc), xa_pc M ip' = pc' → lv_has ls' (xa_mL M) (xa_lv b base lv') → xa_Mt D cl cs b base h' H' → va_S (xa_A base) s.heap H' locs' →
      W p l e R s m args below meth c H' locs' (cells + k) (slots + z) Q (F0 m pc' ls' (st'.map (xa_rv b base)))) :
    W p l e R s m args below meth c H locs cells slots Q (F0 m pc ls (st.map (xa_rv b base))) := by
  obtain ⟨hx, hb, hml, hown, hts, hK, hX, hbb, hbs, hlk, hrt, hnm, hxt⟩ := F
  have hD := xa_W_D cs b base h
  have hA : ∀ q, s.heap.size ≤ q → xa_A base q := fun q hq => Nat.le_trans hbs hq
  have hbA : ¬ xa_A base b := Nat.not_le.mpr hbb
  have hbl : b < s.heap.size := Nat.lt_of_lt_of_le hbb hbs
  unfold xa_ck at hck
  rw [Bool.and_eq_true, decide_eq_true_eq] at hck
  obtain ⟨hd, hck⟩ := hck
  simp only [Bool.and_eq_true, decide_eq_true_eq] at hck
  obtain ⟨rfl, hp, hv⟩ := hck
  obtain ⟨a, st, rfl, hn⟩ := xa_pr_some hn
  obtain ⟨j, fs, rfl, hj, hn⟩ := xa_ob_some hn
  obtain ⟨v, hfv, hn⟩ := xa_fd_some hn
  obtain ⟨rfl, rfl, rfl, rfl, rfl, rfl⟩ := xa_go_some hn
  unfold xa_ckF at hv
  split at hv
  · rename_i C T N hcl
    rw [Bool.and_eq_true, decide_eq_true_eq, decide_eq_true_eq] at hv
    refine va_get hx hb hts (xa_ckC_in hC hcl).1 hown hK hM.2 j (xa_W_at hj) hcl q hv.1 (hts _ hv.2) (fun _ hh => hh) (v := xa_rv b base v) (by rw [List.getElem?_map, hfv]; rfl) hd ?_
    exact kk _ ls H locs hp hl hM hS
  · cases hv
set_option maxHeartbeats 1000000 in
theorem xs_putfield {x : Nat} {len nip r q : Nat} {ts : List Nat} {lv lv' : List (Nat × Value)} {st st' : List Value} {h h' : List va_E} {ip' k z : Nat} (hC : xa_ckC cl Ts = true)
    (F : xa_Fr D cl Ts cs b base L xs M p s m args meth c) (hck : xa_ck cl Ts M pc (.putfield x) len nip r q ts = true) (hn : xa_nx L xs (.putfield x) nip r q ts lv st h = some (ip', lv', st', h', k, z))
    (hl : lv_has ls (xa_mL M) (xa_lv b base lv)) (hM : xa_Mt D cl cs b base h H) (hS : va_S (xa_A base) s.heap H locs) (hcs : s.heap.size + cells ≤ base + h.length) (hc : cells + k ≤ R.cells) (hz : slots + z ≤ R.slots) (hro : xa_kind (.putfield x) r q = 4 → 1 ≤ R.frames ∧ 30 ≤ R.locals)
    (kk : ∀ (pc' : Nat) (ls' : Array Slot) (H' : Heap) (locs' : List Loc), xa_pc M ip' = pc' → lv_has ls' (xa_mL M) (xa_lv b base lv') → xa_Mt D cl cs b base h' H' → va_S (xa_A base) s.heap H' locs' →
      W p l e R s m args below meth c H' locs' (cells + k) (slots + z) Q (F0 m pc' ls' (st'.map (xa_rv b base)))) :
    W p l e R s m args below meth c H locs cells slots Q (F0 m pc ls (st.map (xa_rv b base))) := by
  obtain ⟨hx, hb, hml, hown, hts, hK, hX, hbb, hbs, hlk, hrt, hnm, hxt⟩ := F
  have hD := xa_W_D cs b base h
  have hA : ∀ q, s.heap.size ≤ q → xa_A base q := fun q hq => Nat.le_trans hbs hq
  have hbA : ¬ xa_A base b := Nat.not_le.mpr hbb
  have hbl : b < s.heap.size := Nat.lt_of_lt_of_le hbb hbs
  unfold xa_ck at hck
  rw [Bool.and_eq_true, decide_eq_true_eq] at hck
  obtain ⟨hd, hck⟩ := hck
  simp only [Bool.and_eq_true, decide_eq_true_eq] at hck
  obtain ⟨rfl, hp, hv⟩ := hck
  obtain ⟨v, st, rfl, hn⟩ := xa_pv_some hn
  obtain ⟨a, st, rfl, hn⟩ := xa_pr_some hn
  obtain ⟨j, fs, rfl, hj, hn⟩ := xa_ob_some hn
  obtain ⟨hf, hn⟩ := xa_if_some hn
  obtain ⟨rfl, rfl, rfl, rfl, rfl, rfl⟩ := xa_go_some hn
  unfold xa_ckF at hv
  split at hv
  · rename_i C T N hcl
    simp only [Bool.and_eq_true, decide_eq_true_eq] at hv hf
    obtain ⟨hq, hlk, hty, hfin⟩ := hv
    obtain ⟨hfit, hqf⟩ := hf
    obtain ⟨c1, c2, c3⟩ := xa_ckC_in hC hcl
    have hnf := xa_fits (b := b) (base := base) (c2 q hq) hty hfit
    have key : ∀ (H1 : Heap) (locs1 : List Loc), va_P D cl ((xa_W cs b base h).set j (base + j, .inr (r, (fs.map (xa_rv b base)).set q (xa_rv b base v)))) H1 → va_D (xa_A base) ((xa_W cs b base h).set j (base + j, .inr (r, (fs.map (xa_rv b base)).set q (xa_rv b base v)))) → va_S (xa_A base) H H1 locs1 → W p l e R s m args below meth c H1 locs1 cells slots Q (F0 m (pc + 3) ls (st.map (xa_rv b base))) := fun H1 locs1 hP1 _ hS1 => kk _ ls H1 locs1 hp hl (hM.set (by rw [show xa_re cs b base (.inr (r, fs.set q v)) = .inr (r, (fs.map (xa_rv b base)).set q (xa_rv b base v)) by simp [xa_re, List.map_set]]; exact hP1) hS1.1) (xa_S.two hS hS1)
    cases hfl : (T q).2.2.2 with
    | false => exact va_put hx hb hts c1 _ c2 c3 hown hK hM.2 hD (xa_S.now hS) j (xa_W_at hj) hcl q hq (hts _ hlk) (fun _ hh => hh) hfl (c2 q hq) hnf.1 hnf.2 (by rw [List.length_map]; exact hqf) hd key
    | true =>
      rw [hfl] at hfin
      simp only [Bool.not_true, Bool.false_or, Bool.and_eq_true, decide_eq_true_eq] at hfin
      exact va_putF hx hb hts c1 _ c2 c3 hown hK hM.2 hD (xa_S.now hS) j (xa_W_at hj) hcl q hq (hts _ hlk) (fun _ hh => hh) hfl (hnm.trans hfin.1) hfin.2 (c2 q hq) hnf.1 hnf.2 (by rw [List.length_map]; exact hqf) hd key
  · cases hv
set_option maxHeartbeats 1000000 in
theorem xs_arraylength {len nip r q : Nat} {ts : List Nat} {lv lv' : List (Nat × Value)} {st st' : List Value} {h h' : List va_E} {ip' k z : Nat} (hC : xa_ckC cl Ts = true)
    (F : xa_Fr D cl Ts cs b base L xs M p s m args meth c) (hck : xa_ck cl Ts M pc .arraylength len nip r q ts = true) (hn : xa_nx L xs .arraylength nip r q ts lv st h = some (ip', lv', st', h', k, z))
    (hl : lv_has ls (xa_mL M) (xa_lv b base lv)) (hM : xa_Mt D cl cs b base h H) (hS : va_S (xa_A base) s.heap H locs) (hcs : s.heap.size + cells ≤ base + h.length) (hc : cells + k ≤ R.cells) (hz : slots + z ≤ R.slots) (hro : xa_kind .arraylength r q = 4 → 1 ≤ R.frames ∧ 30 ≤ R.locals)
    (kk : ∀ (pc' : Nat) (ls' : Array Slot) (H' : Heap) (locs' : List Loc), xa_pc M ip' = pc' → lv_has ls' (xa_mL M) (xa_lv b base lv') → xa_Mt D cl cs b base h' H' → va_S (xa_A base) s.heap H' locs' →
      W p l e R s m args below meth c H' locs' (cells + k) (slots + z) Q (F0 m pc' ls' (st'.map (xa_rv b base)))) :
    W p l e R s m args below meth c H locs cells slots Q (F0 m pc ls (st.map (xa_rv b base))) := by
  obtain ⟨hx, hb, hml, hown, hts, hK, hX, hbb, hbs, hlk, hrt, hnm, hxt⟩ := F
  have hD := xa_W_D cs b base h
  have hA : ∀ q, s.heap.size ≤ q → xa_A base q := fun q hq => Nat.le_trans hbs hq
  have hbA : ¬ xa_A base b := Nat.not_le.mpr hbb
  have hbl : b < s.heap.size := Nat.lt_of_lt_of_le hbb hbs
  unfold xa_ck at hck
  rw [Bool.and_eq_true, decide_eq_true_eq] at hck
  obtain ⟨hd, hck⟩ := hck
  simp only [Bool.and_eq_true, decide_eq_true_eq] at hck
  obtain ⟨rfl, hp⟩ := hck
  obtain ⟨a, st, rfl, hn1⟩ := xa_pr_some hn
  rcases xa_ln_some hn1 with ⟨rfl, hn⟩ | ⟨j, t, n, y, rfl, hj, hn⟩
  · obtain ⟨rfl, rfl, rfl, rfl, rfl, rfl⟩ := xa_go_some hn
    refine va_slen hx hb hX hbl hbA hS hd ?_
    exact kk _ ls H locs hp hl hM hS
  · obtain ⟨rfl, rfl, rfl, rfl, rfl, rfl⟩ := xa_go_some hn
    obtain ⟨t0, ty, ht0⟩ := xa_tys_at cs t
    refine va_alen hx hb hK hM.2 j t0 (xa_W_at hj) ht0 rfl hd ?_
    exact kk _ ls H locs hp hl hM hS
set_option maxHeartbeats 1000000 in
theorem xs_iaload {len nip r q : Nat} {ts : List Nat} {lv lv' : List (Nat × Value)} {st st' : List Value} {h h' : List va_E} {ip' k z : Nat} (hC : xa_ckC cl Ts = true)
    (F : xa_Fr D cl Ts cs b base L xs M p s m args meth c) (hck : xa_ck cl Ts M pc .iaload len nip r q ts = true) (hn : xa_nx L xs .iaload nip r q ts lv st h = some (ip', lv', st', h', k, z))
    (hl : lv_has ls (xa_mL M) (xa_lv b base lv)) (hM : xa_Mt D cl cs b base h H) (hS : va_S (xa_A base) s.heap H locs) (hcs : s.heap.size + cells ≤ base + h.length) (hc : cells + k ≤ R.cells) (hz : slots + z ≤ R.slots) (hro : xa_kind .iaload r q = 4 → 1 ≤ R.frames ∧ 30 ≤ R.locals)
    (kk : ∀ (pc' : Nat) (ls' : Array Slot) (H' : Heap) (locs' : List Loc), xa_pc M ip' = pc' → lv_has ls' (xa_mL M) (xa_lv b base lv') → xa_Mt D cl cs b base h' H' → va_S (xa_A base) s.heap H' locs' →
      W p l e R s m args below meth c H' locs' (cells + k) (slots + z) Q (F0 m pc' ls' (st'.map (xa_rv b base)))) :
    W p l e R s m args below meth c H locs cells slots Q (F0 m pc ls (st.map (xa_rv b base))) := by
  obtain ⟨hx, hb, hml, hown, hts, hK, hX, hbb, hbs, hlk, hrt, hnm, hxt⟩ := F
  have hD := xa_W_D cs b base h
  have hA : ∀ q, s.heap.size ≤ q → xa_A base q := fun q hq => Nat.le_trans hbs hq
  have hbA : ¬ xa_A base b := Nat.not_le.mpr hbb
  have hbl : b < s.heap.size := Nat.lt_of_lt_of_le hbb hbs
  unfold xa_ck at hck
  rw [Bool.and_eq_true, decide_eq_true_eq] at hck
  obtain ⟨hd, hck⟩ := hck
  simp only [Bool.and_eq_true, decide_eq_true_eq] at hck
  obtain ⟨rfl, hp⟩ := hck
  obtain ⟨i, st, rfl, hn1⟩ := xa_pi_some hn
  obtain ⟨a, st, rfl, hn2⟩ := xa_pr_some hn1
  rcases xa_is_some hn2 with ⟨rfl, hn⟩ | ⟨j, n, f, rfl, hj, hn⟩
  · obtain ⟨hi, hn⟩ := xa_if_some hn
    obtain ⟨rfl, rfl, rfl, rfl, rfl, rfl⟩ := xa_go_some hn
    refine va_sld hx hb hX hbl hbA hS (xa_inB_vp hi) hd ?_
    exact kk _ ls H locs hp hl hM hS
  · obtain ⟨hi, hn⟩ := xa_if_some hn
    obtain ⟨rfl, rfl, rfl, rfl, rfl, rfl⟩ := xa_go_some hn
    refine va_iald hx hb hK hM.2 j 0 (xa_W_at hj) rfl (xa_inB_vp hi) hd ?_
    exact kk _ ls H locs hp hl hM hS
set_option maxHeartbeats 1000000 in
theorem xs_baload {len nip r q : Nat} {ts : List Nat} {lv lv' : List (Nat × Value)} {st st' : List Value} {h h' : List va_E} {ip' k z : Nat} (hC : xa_ckC cl Ts = true)
    (F : xa_Fr D cl Ts cs b base L xs M p s m args meth c) (hck : xa_ck cl Ts M pc .baload len nip r q ts = true) (hn : xa_nx L xs .baload nip r q ts lv st h = some (ip', lv', st', h', k, z))
    (hl : lv_has ls (xa_mL M) (xa_lv b base lv)) (hM : xa_Mt D cl cs b base h H) (hS : va_S (xa_A base) s.heap H locs) (hcs : s.heap.size + cells ≤ base + h.length) (hc : cells + k ≤ R.cells) (hz : slots + z ≤ R.slots) (hro : xa_kind .baload r q = 4 → 1 ≤ R.frames ∧ 30 ≤ R.locals)
    (kk : ∀ (pc' : Nat) (ls' : Array Slot) (H' : Heap) (locs' : List Loc), xa_pc M ip' = pc' → lv_has ls' (xa_mL M) (xa_lv b base lv') → xa_Mt D cl cs b base h' H' → va_S (xa_A base) s.heap H' locs' →
      W p l e R s m args below meth c H' locs' (cells + k) (slots + z) Q (F0 m pc' ls' (st'.map (xa_rv b base)))) :
    W p l e R s m args below meth c H locs cells slots Q (F0 m pc ls (st.map (xa_rv b base))) := by
  obtain ⟨hx, hb, hml, hown, hts, hK, hX, hbb, hbs, hlk, hrt, hnm, hxt⟩ := F
  have hD := xa_W_D cs b base h
  have hA : ∀ q, s.heap.size ≤ q → xa_A base q := fun q hq => Nat.le_trans hbs hq
  have hbA : ¬ xa_A base b := Nat.not_le.mpr hbb
  have hbl : b < s.heap.size := Nat.lt_of_lt_of_le hbb hbs
  unfold xa_ck at hck
  rw [Bool.and_eq_true, decide_eq_true_eq] at hck
  obtain ⟨hd, hck⟩ := hck
  simp only [Bool.and_eq_true, decide_eq_true_eq] at hck
  obtain ⟨rfl, hp⟩ := hck
  obtain ⟨i, st, rfl, hn⟩ := xa_pi_some hn
  obtain ⟨a, st, rfl, hn⟩ := xa_pr_some hn
  obtain ⟨j, n, f, rfl, hj, hn⟩ := xa_ai_some hn
  obtain ⟨hi, hn⟩ := xa_if_some hn
  obtain ⟨rfl, rfl, rfl, rfl, rfl, rfl⟩ := xa_go_some hn
  refine va_zald hx hb hK hM.2 j 1 (xa_W_at hj) rfl (xa_inB_vp hi) hd ?_
  exact kk _ ls H locs hp hl hM hS
set_option maxHeartbeats 1000000 in
theorem xs_laload {len nip r q : Nat} {ts : List Nat} {lv lv' : List (Nat × Value)} {st st' : List Value} {h h' : List va_E} {ip' k z : Nat} (hC : xa_ckC cl Ts = true)
    (F : xa_Fr D cl Ts cs b base L xs M p s m args meth c) (hck : xa_ck cl Ts M pc .laload len nip r q ts = true) (hn : xa_nx L xs .laload nip r q ts lv st h = some (ip', lv', st', h', k, z))
    (hl : lv_has ls (xa_mL M) (xa_lv b base lv)) (hM : xa_Mt D cl cs b base h H) (hS : va_S (xa_A base) s.heap H locs) (hcs : s.heap.size + cells ≤ base + h.length) (hc : cells + k ≤ R.cells) (hz : slots + z ≤ R.slots) (hro : xa_kind .laload r q = 4 → 1 ≤ R.frames ∧ 30 ≤ R.locals)
    (kk : ∀ (pc' : Nat) (ls' : Array Slot) (H' : Heap) (locs' : List Loc), xa_pc M ip' = pc' → lv_has ls' (xa_mL M) (xa_lv b base lv') → xa_Mt D cl cs b base h' H' → va_S (xa_A base) s.heap H' locs' →
      W p l e R s m args below meth c H' locs' (cells + k) (slots + z) Q (F0 m pc' ls' (st'.map (xa_rv b base)))) :
    W p l e R s m args below meth c H locs cells slots Q (F0 m pc ls (st.map (xa_rv b base))) := by
  obtain ⟨hx, hb, hml, hown, hts, hK, hX, hbb, hbs, hlk, hrt, hnm, hxt⟩ := F
  have hD := xa_W_D cs b base h
  have hA : ∀ q, s.heap.size ≤ q → xa_A base q := fun q hq => Nat.le_trans hbs hq
  have hbA : ¬ xa_A base b := Nat.not_le.mpr hbb
  have hbl : b < s.heap.size := Nat.lt_of_lt_of_le hbb hbs
  unfold xa_ck at hck
  rw [Bool.and_eq_true, decide_eq_true_eq] at hck
  obtain ⟨hd, hck⟩ := hck
  simp only [Bool.and_eq_true, decide_eq_true_eq] at hck
  obtain ⟨rfl, hp⟩ := hck
  obtain ⟨i, st, rfl, hn⟩ := xa_pi_some hn
  obtain ⟨a, st, rfl, hn⟩ := xa_pr_some hn
  obtain ⟨j, n, f, rfl, hj, hn⟩ := xa_al_some hn
  obtain ⟨hi, hn⟩ := xa_if_some hn
  obtain ⟨rfl, rfl, rfl, rfl, rfl, rfl⟩ := xa_go_some hn
  refine va_lald hx hb hK hM.2 j 2 (xa_W_at hj) rfl (xa_inB_vp hi) hd ?_
  exact kk _ ls H locs hp hl hM hS
set_option maxHeartbeats 1000000 in
theorem xs_iastore {len nip r q : Nat} {ts : List Nat} {lv lv' : List (Nat × Value)} {st st' : List Value} {h h' : List va_E} {ip' k z : Nat} (hC : xa_ckC cl Ts = true)
    (F : xa_Fr D cl Ts cs b base L xs M p s m args meth c) (hck : xa_ck cl Ts M pc .iastore len nip r q ts = true) (hn : xa_nx L xs .iastore nip r q ts lv st h = some (ip', lv', st', h', k, z))
    (hl : lv_has ls (xa_mL M) (xa_lv b base lv)) (hM : xa_Mt D cl cs b base h H) (hS : va_S (xa_A base) s.heap H locs) (hcs : s.heap.size + cells ≤ base + h.length) (hc : cells + k ≤ R.cells) (hz : slots + z ≤ R.slots) (hro : xa_kind .iastore r q = 4 → 1 ≤ R.frames ∧ 30 ≤ R.locals)
    (kk : ∀ (pc' : Nat) (ls' : Array Slot) (H' : Heap) (locs' : List Loc), xa_pc M ip' = pc' → lv_has ls' (xa_mL M) (xa_lv b base lv') → xa_Mt D cl cs b base h' H' → va_S (xa_A base) s.heap H' locs' →
      W p l e R s m args below meth c H' locs' (cells + k) (slots + z) Q (F0 m pc' ls' (st'.map (xa_rv b base)))) :
    W p l e R s m args below meth c H locs cells slots Q (F0 m pc ls (st.map (xa_rv b base))) := by
  obtain ⟨hx, hb, hml, hown, hts, hK, hX, hbb, hbs, hlk, hrt, hnm, hxt⟩ := F
  have hD := xa_W_D cs b base h
  have hA : ∀ q, s.heap.size ≤ q → xa_A base q := fun q hq => Nat.le_trans hbs hq
  have hbA : ¬ xa_A base b := Nat.not_le.mpr hbb
  have hbl : b < s.heap.size := Nat.lt_of_lt_of_le hbb hbs
  unfold xa_ck at hck
  rw [Bool.and_eq_true, decide_eq_true_eq] at hck
  obtain ⟨hd, hck⟩ := hck
  simp only [Bool.and_eq_true, decide_eq_true_eq] at hck
  obtain ⟨rfl, hp⟩ := hck
  obtain ⟨x, st, rfl, hn⟩ := xa_pi_some hn
  obtain ⟨i, st, rfl, hn⟩ := xa_pi_some hn
  obtain ⟨a, st, rfl, hn⟩ := xa_pr_some hn
  obtain ⟨j, n, f, rfl, hj, hn⟩ := xa_ai_some hn
  obtain ⟨hi, hn⟩ := xa_if_some hn
  obtain ⟨rfl, rfl, rfl, rfl, rfl, rfl⟩ := xa_go_some hn
  refine va_iast hx hb hK hM.2 hD (xa_S.now hS) j 0 (xa_W_at hj) rfl (xa_inB_vp hi) hd (fun H1 locs1 hP1 _ hS1 => ?_)
  exact kk _ ls H1 locs1 hp hl (hM.set hP1 hS1.1) (xa_S.two hS hS1)
set_option maxHeartbeats 1000000 in
theorem xs_bastore {len nip r q : Nat} {ts : List Nat} {lv lv' : List (Nat × Value)} {st st' : List Value} {h h' : List va_E} {ip' k z : Nat} (hC : xa_ckC cl Ts = true)
    (F : xa_Fr D cl Ts cs b base L xs M p s m args meth c) (hck : xa_ck cl Ts M pc .bastore len nip r q ts = true) (hn : xa_nx L xs .bastore nip r q ts lv st h = some (ip', lv', st', h', k, z))
    (hl : lv_has ls (xa_mL M) (xa_lv b base lv)) (hM : xa_Mt D cl cs b base h H) (hS : va_S (xa_A base) s.heap H locs) (hcs : s.heap.size + cells ≤ base + h.length) (hc : cells + k ≤ R.cells) (hz : slots + z ≤ R.slots) (hro : xa_kind .bastore r q = 4 → 1 ≤ R.frames ∧ 30 ≤ R.locals)
    (kk : ∀ (pc' : Nat) (ls' : Array Slot) (H' : Heap) (locs' : List Loc), xa_pc M ip' = pc' → lv_has ls' (xa_mL M) (xa_lv b base lv') → xa_Mt D cl cs b base h' H' → va_S (xa_A base) s.heap H' locs' →
      W p l e R s m args below meth c H' locs' (cells + k) (slots + z) Q (F0 m pc' ls' (st'.map (xa_rv b base)))) :
    W p l e R s m args below meth c H locs cells slots Q (F0 m pc ls (st.map (xa_rv b base))) := by
  obtain ⟨hx, hb, hml, hown, hts, hK, hX, hbb, hbs, hlk, hrt, hnm, hxt⟩ := F
  have hD := xa_W_D cs b base h
  have hA : ∀ q, s.heap.size ≤ q → xa_A base q := fun q hq => Nat.le_trans hbs hq
  have hbA : ¬ xa_A base b := Nat.not_le.mpr hbb
  have hbl : b < s.heap.size := Nat.lt_of_lt_of_le hbb hbs
  unfold xa_ck at hck
  rw [Bool.and_eq_true, decide_eq_true_eq] at hck
  obtain ⟨hd, hck⟩ := hck
  simp only [Bool.and_eq_true, decide_eq_true_eq] at hck
  obtain ⟨rfl, hp⟩ := hck
  obtain ⟨x, st, rfl, hn⟩ := xa_pi_some hn
  obtain ⟨i, st, rfl, hn⟩ := xa_pi_some hn
  obtain ⟨a, st, rfl, hn⟩ := xa_pr_some hn
  obtain ⟨j, n, f, rfl, hj, hn⟩ := xa_ai_some hn
  obtain ⟨hi, hn⟩ := xa_if_some hn
  obtain ⟨rfl, rfl, rfl, rfl, rfl, rfl⟩ := xa_go_some hn
  refine va_zast hx hb hK hM.2 hD (xa_S.now hS) j 1 (xa_W_at hj) rfl (xa_inB_vp hi) hd (fun H1 locs1 hP1 _ hS1 => ?_)
  exact kk _ ls H1 locs1 hp hl (hM.set hP1 hS1.1) (xa_S.two hS hS1)
set_option maxHeartbeats 1000000 in
theorem xs_lastore {len nip r q : Nat} {ts : List Nat} {lv lv' : List (Nat × Value)} {st st' : List Value} {h h' : List va_E} {ip' k z : Nat} (hC : xa_ckC cl Ts = true)
    (F : xa_Fr D cl Ts cs b base L xs M p s m args meth c) (hck : xa_ck cl Ts M pc .lastore len nip r q ts = true) (hn : xa_nx L xs .lastore nip r q ts lv st h = some (ip', lv', st', h', k, z))
    (hl : lv_has ls (xa_mL M) (xa_lv b base lv)) (hM : xa_Mt D cl cs b base h H) (hS : va_S (xa_A base) s.heap H locs) (hcs : s.heap.size + cells ≤ base + h.length) (hc : cells + k ≤ R.cells) (hz : slots + z ≤ R.slots) (hro : xa_kind .lastore r q = 4 → 1 ≤ R.frames ∧ 30 ≤ R.locals)
    (kk : ∀ (pc' : Nat) (ls' : Array Slot) (H' : Heap) (locs' : List Loc), xa_pc M ip' = pc' → lv_has ls' (xa_mL M) (xa_lv b base lv') → xa_Mt D cl cs b base h' H' → va_S (xa_A base) s.heap H' locs' →
      W p l e R s m args below meth c H' locs' (cells + k) (slots + z) Q (F0 m pc' ls' (st'.map (xa_rv b base)))) :
    W p l e R s m args below meth c H locs cells slots Q (F0 m pc ls (st.map (xa_rv b base))) := by
  obtain ⟨hx, hb, hml, hown, hts, hK, hX, hbb, hbs, hlk, hrt, hnm, hxt⟩ := F
  have hD := xa_W_D cs b base h
  have hA : ∀ q, s.heap.size ≤ q → xa_A base q := fun q hq => Nat.le_trans hbs hq
  have hbA : ¬ xa_A base b := Nat.not_le.mpr hbb
  have hbl : b < s.heap.size := Nat.lt_of_lt_of_le hbb hbs
  unfold xa_ck at hck
  rw [Bool.and_eq_true, decide_eq_true_eq] at hck
  obtain ⟨hd, hck⟩ := hck
  simp only [Bool.and_eq_true, decide_eq_true_eq] at hck
  obtain ⟨rfl, hp⟩ := hck
  obtain ⟨x, st, rfl, hn⟩ := xa_pl_some hn
  obtain ⟨i, st, rfl, hn⟩ := xa_pi_some hn
  obtain ⟨a, st, rfl, hn⟩ := xa_pr_some hn
  obtain ⟨j, n, f, rfl, hj, hn⟩ := xa_al_some hn
  obtain ⟨hi, hn⟩ := xa_if_some hn
  obtain ⟨rfl, rfl, rfl, rfl, rfl, rfl⟩ := xa_go_some hn
  refine va_last hx hb hK hM.2 hD (xa_S.now hS) j 2 (xa_W_at hj) rfl (xa_inB_vp hi) hd (fun H1 locs1 hP1 _ hS1 => ?_)
  exact kk _ ls H1 locs1 hp hl (hM.set hP1 hS1.1) (xa_S.two hS hS1)
set_option maxHeartbeats 1000000 in
theorem xs_tableswitch {df : Int} {lo : Int} {hi : Int} {offs : Array Int} {len nip r q : Nat} {ts : List Nat} {lv lv' : List (Nat × Value)} {st st' : List Value} {h h' : List va_E} {ip' k z : Nat} (hC : xa_ckC cl Ts = true)
    (F : xa_Fr D cl Ts cs b base L xs M p s m args meth c) (hck : xa_ck cl Ts M pc (.tableswitch df lo hi offs) len nip r q ts = true) (hn : xa_nx L xs (.tableswitch df lo hi offs) nip r q ts lv st h = some (ip', lv', st', h', k, z))
    (hl : lv_has ls (xa_mL M) (xa_lv b base lv)) (hM : xa_Mt D cl cs b base h H) (hS : va_S (xa_A base) s.heap H locs) (hcs : s.heap.size + cells ≤ base + h.length) (hc : cells + k ≤ R.cells) (hz : slots + z ≤ R.slots) (hro : xa_kind (.tableswitch df lo hi offs) r q = 4 → 1 ≤ R.frames ∧ 30 ≤ R.locals)
    (kk : ∀ (pc' : Nat) (ls' : Array Slot) (H' : Heap) (locs' : List Loc), xa_pc M ip' = pc' → lv_has ls' (xa_mL M) (xa_lv b base lv') → xa_Mt D cl cs b base h' H' → va_S (xa_A base) s.heap H' locs' →
      W p l e R s m args below meth c H' locs' (cells + k) (slots + z) Q (F0 m pc' ls' (st'.map (xa_rv b base)))) :
    W p l e R s m args below meth c H locs cells slots Q (F0 m pc ls (st.map (xa_rv b base))) := by
  obtain ⟨hx, hb, hml, hown, hts, hK, hX, hbb, hbs, hlk, hrt, hnm, hxt⟩ := F
  have hD := xa_W_D cs b base h
  have hA : ∀ q, s.heap.size ≤ q → xa_A base q := fun q hq => Nat.le_trans hbs hq
  have hbA : ¬ xa_A base b := Nat.not_le.mpr hbb
  have hbl : b < s.heap.size := Nat.lt_of_lt_of_le hbb hbs
  unfold xa_ck at hck
  rw [Bool.and_eq_true, decide_eq_true_eq] at hck
  obtain ⟨hd, hck⟩ := hck
  simp only [Bool.and_eq_true, decide_eq_true_eq] at hck
  obtain ⟨rfl, rfl, hq, hrq, hdf, hall⟩ := hck
  obtain ⟨x, st, rfl, hn⟩ := xa_pi_some hn
  obtain ⟨rfl, rfl, rfl, rfl, rfl, rfl⟩ := xa_go_some hn
  by_cases hin : x < xa_con r 0 ∨ xa_con q 0 < x
  · refine lv_tableOut hx hb hd (xa_sw_out (by omega) (by omega) hin) hdf ?_
    refine kk _ ls H locs ?_ hl hM hS
    rw [show (decide (x < xa_con r 0) || decide (xa_con q 0 < x)) = true by simpa using hin]; rfl
  · obtain ⟨g1, g2, g3, g4⟩ := xa_sw_in (r := r) (q := q) (x := x) (by omega) (by omega) hin
    have h1 := List.all_eq_true.mp hall _ (List.mem_range.mpr g4)
    split at h1
    · rename_i off hoff
      refine lv_tableIn hx hb hd g1 g2 (by rw [g3]; exact hoff) (of_decide_eq_true h1) ?_
      refine kk _ ls H locs ?_ hl hM hS
      rw [show (decide (x < xa_con r 0) || decide (xa_con q 0 < x)) = false by simpa using hin]; rfl
    · cases h1
set_option maxHeartbeats 1000000 in
theorem xs_new {x : Nat} {len nip r q : Nat} {ts : List Nat} {lv lv' : List (Nat × Value)} {st st' : List Value} {h h' : List va_E} {ip' k z : Nat} (hC : xa_ckC cl Ts = true)
    (F : xa_Fr D cl Ts cs b base L xs M p s m args meth c) (hck : xa_ck cl Ts M pc (.new x) len nip r q ts = true) (hn : xa_nx L xs (.new x) nip r q ts lv st h = some (ip', lv', st', h', k, z))
    (hl : lv_has ls (xa_mL M) (xa_lv b base lv)) (hM : xa_Mt D cl cs b base h H) (hS : va_S (xa_A base) s.heap H locs) (hcs : s.heap.size + cells ≤ base + h.length) (hc : cells + k ≤ R.cells) (hz : slots + z ≤ R.slots) (hro : xa_kind (.new x) r q = 4 → 1 ≤ R.frames ∧ 30 ≤ R.locals)
    (kk : ∀ (pc' : Nat) (ls' : Array Slot) (H' : Heap) (locs' : List Loc), xa_pc M ip' = pc' → lv_has ls' (xa_mL M) (xa_lv b base lv') → xa_Mt D cl cs b base h' H' → va_S (xa_A base) s.heap H' locs' →
      W p l e R s m args below meth c H' locs' (cells + k) (slots + z) Q (F0 m pc' ls' (st'.map (xa_rv b base)))) :
    W p l e R s m args below meth c H locs cells slots Q (F0 m pc ls (st.map (xa_rv b base))) := by
  obtain ⟨hx, hb, hml, hown, hts, hK, hX, hbb, hbs, hlk, hrt, hnm, hxt⟩ := F
  have hD := xa_W_D cs b base h
  have hA : ∀ q, s.heap.size ≤ q → xa_A base q := fun q hq => Nat.le_trans hbs hq
  have hbA : ¬ xa_A base b := Nat.not_le.mpr hbb
  have hbl : b < s.heap.size := Nat.lt_of_lt_of_le hbb hbs
  unfold xa_ck at hck
  rw [Bool.and_eq_true, decide_eq_true_eq] at hck
  obtain ⟨hd, hck⟩ := hck
  rw [Bool.and_eq_true, Bool.and_eq_true, decide_eq_true_eq, decide_eq_true_eq] at hck
  obtain ⟨rfl, hp, hv⟩ := hck
  cases hn
  split at hv
  · rename_i C T N hcl
    simp only [Bool.and_eq_true, decide_eq_true_eq] at hv
    obtain ⟨rfl, v1, v2, v3, v4⟩ := hv
    obtain ⟨c1, c2, c3⟩ := xa_ckC_in hC hcl
    have hKn := hK.1 r _ hcl
    have K : H.size = base + h.length → W p l e R s m args below meth c H locs cells slots Q (F0 m pc ls (st.map (xa_rv b base))) := by
      intro hsz
      refine W.newcK (g := F0 m pc ls (st.map (xa_rv b base))) hx hb hown (hts _ v1) (hts _ v2) (hts _ v3) rfl hd hc hz hKn.2.1 hsz (fun H1 kC hkC e1 z1 o1 => ?_)
      refine kk (pc + 3) ls H1 locs hp hl (hM.push z1 (fun q hq => o1 q (by omega)) ⟨_, hcl, (u_born _ hts c1 hKn hkC e1 c2).to (fun k hk => ?_)⟩) (xa_S.push hS (by omega) (fun q hq => o1 q (by omega)))
      have h1 := List.all_eq_true.mp v4 k (List.mem_range.mpr hk)
      simp only [Bool.and_eq_true, decide_eq_true_eq] at h1
      exact xa_dflt_ok (c2 k hk) h1.1 h1.2 hk
    exact fun TT hT X => K (by have h1 := X.heapSize; rw [hT] at h1; have h2 := hM.1; omega) TT hT X
  · cases hv
set_option maxHeartbeats 1000000 in
theorem xs_newarray {t : Jvm.ClassFile.ArrayType} {len nip r q : Nat} {ts : List Nat} {lv lv' : List (Nat × Value)} {st st' : List Value} {h h' : List va_E} {ip' k z : Nat} (hC : xa_ckC cl Ts = true)
    (F : xa_Fr D cl Ts cs b base L xs M p s m args meth c) (hck : xa_ck cl Ts M pc (.newarray t) len nip r q ts = true) (hn : xa_nx L xs (.newarray t) nip r q ts lv st h = some (ip', lv', st', h', k, z))
    (hl : lv_has ls (xa_mL M) (xa_lv b base lv)) (hM : xa_Mt D cl cs b base h H) (hS : va_S (xa_A base) s.heap H locs) (hcs : s.heap.size + cells ≤ base + h.length) (hc : cells + k ≤ R.cells) (hz : slots + z ≤ R.slots) (hro : xa_kind (.newarray t) r q = 4 → 1 ≤ R.frames ∧ 30 ≤ R.locals)
    (kk : ∀ (pc' : Nat) (ls' : Array Slot) (H' : Heap) (locs' : List Loc), xa_pc M ip' = pc' → lv_has ls' (xa_mL M) (xa_lv b base lv') → xa_Mt D cl cs b base h' H' → va_S (xa_A base) s.heap H' locs' →
      W p l e R s m args below meth c H' locs' (cells + k) (slots + z) Q (F0 m pc' ls' (st'.map (xa_rv b base)))) :
    W p l e R s m args below meth c H locs cells slots Q (F0 m pc ls (st.map (xa_rv b base))) := by
  obtain ⟨hx, hb, hml, hown, hts, hK, hX, hbb, hbs, hlk, hrt, hnm, hxt⟩ := F
  have hD := xa_W_D cs b base h
  have hA : ∀ q, s.heap.size ≤ q → xa_A base q := fun q hq => Nat.le_trans hbs hq
  have hbA : ¬ xa_A base b := Nat.not_le.mpr hbb
  have hbl : b < s.heap.size := Nat.lt_of_lt_of_le hbb hbs
  unfold xa_ck at hck
  rw [Bool.and_eq_true, decide_eq_true_eq] at hck
  obtain ⟨hd, hck⟩ := hck
  simp only [Bool.and_eq_true, decide_eq_true_eq] at hck
  obtain ⟨rfl, hp, hta, hr3, hw⟩ := hck
  obtain ⟨n, st, rfl, hn⟩ := xa_pi_some hn
  obtain ⟨hi, hn⟩ := xa_if_some hn
  simp only [Bool.and_eq_true, Bool.not_eq_true', decide_eq_false_iff_not, decide_eq_true_eq] at hi
  cases hn
  have K : H.size = base + h.length → W p l e R s m args below meth c H locs cells slots Q (F0 m pc ls ((.int n :: st).map (xa_rv b base))) := by
    intro hsz
    cases t
    case int =>
      subst hta
      refine va_newaK (g := F0 m pc ls (.int n :: st.map (xa_rv b base))) hx hb (hts _ hw) rfl hd rfl hi.1 rfl (by show _ * 4 ≤ _; omega) hc hz hsz (fun H1 cA e1 z1 o1 _ hNm => ?_)
      have hcA : cA = cs.1 := Option.some.inj (hNm.symm.trans (hK.2 0 _ rfl).2)
      subst hcA
      exact kk (pc + 2) ls H1 locs hp hl (hM.push z1 (fun q hq => o1 q (by omega)) e1) (xa_S.push hS (by omega) (fun q hq => o1 q (by omega)))
    case boolean =>
      subst hta
      refine va_newaK (g := F0 m pc ls (.int n :: st.map (xa_rv b base))) hx hb (hts _ hw) rfl hd rfl hi.1 rfl (by show _ * 1 ≤ _; omega) hc hz hsz (fun H1 cA e1 z1 o1 _ hNm => ?_)
      have hcA : cA = cs.2.1 := Option.some.inj (hNm.symm.trans (hK.2 1 _ rfl).2)
      subst hcA
      exact kk (pc + 2) ls H1 locs hp hl (hM.push z1 (fun q hq => o1 q (by omega)) e1) (xa_S.push hS (by omega) (fun q hq => o1 q (by omega)))
    case long =>
      subst hta
      refine va_newaK (g := F0 m pc ls (.int n :: st.map (xa_rv b base))) hx hb (hts _ hw) rfl hd rfl hi.1 rfl (by show _ * 8 ≤ _; omega) hc hz hsz (fun H1 cA e1 z1 o1 _ hNm => ?_)
      have hcA : cA = cs.2.2 := Option.some.inj (hNm.symm.trans (hK.2 2 _ rfl).2)
      subst hcA
      exact kk (pc + 2) ls H1 locs hp hl (hM.push z1 (fun q hq => o1 q (by omega)) e1) (xa_S.push hS (by omega) (fun q hq => o1 q (by omega)))
    all_goals (exfalso; simp only [xa_ta] at hta; omega)
  exact fun TT hT X => K (by have h1 := X.heapSize; rw [hT] at h1; have h2 := hM.1; omega) TT hT X
set_option maxHeartbeats 1000000 in
theorem xs_invokespecial {x : Nat} {len nip r q : Nat} {ts : List Nat} {lv lv' : List (Nat × Value)} {st st' : List Value} {h h' : List va_E} {ip' k z : Nat} (hC : xa_ckC cl Ts = true)
    (F : xa_Fr D cl Ts cs b base L xs M p s m args meth c) (hck : xa_ck cl Ts M pc (.invokespecial x) len nip r q ts = true) (hn : xa_nx L xs (.invokespecial x) nip r q ts lv st h = some (ip', lv', st', h', k, z))
    (hl : lv_has ls (xa_mL M) (xa_lv b base lv)) (hM : xa_Mt D cl cs b base h H) (hS : va_S (xa_A base) s.heap H locs) (hcs : s.heap.size + cells ≤ base + h.length) (hc : cells + k ≤ R.cells) (hz : slots + z ≤ R.slots) (hro : xa_kind (.invokespecial x) r q = 4 → 1 ≤ R.frames ∧ 30 ≤ R.locals)
    (kk : ∀ (pc' : Nat) (ls' : Array Slot) (H' : Heap) (locs' : List Loc), xa_pc M ip' = pc' → lv_has ls' (xa_mL M) (xa_lv b base lv') → xa_Mt D cl cs b base h' H' → va_S (xa_A base) s.heap H' locs' →
      W p l e R s m args below meth c H' locs' (cells + k) (slots + z) Q (F0 m pc' ls' (st'.map (xa_rv b base)))) :
    W p l e R s m args below meth c H locs cells slots Q (F0 m pc ls (st.map (xa_rv b base))) := by
  obtain ⟨hx, hb, hml, hown, hts, hK, hX, hbb, hbs, hlk, hrt, hnm, hxt⟩ := F
  have hD := xa_W_D cs b base h
  have hA : ∀ q, s.heap.size ≤ q → xa_A base q := fun q hq => Nat.le_trans hbs hq
  have hbA : ¬ xa_A base b := Nat.not_le.mpr hbb
  have hbl : b < s.heap.size := Nat.lt_of_lt_of_le hbb hbs
  unfold xa_ck at hck
  rw [Bool.and_eq_true, decide_eq_true_eq] at hck
  obtain ⟨hd, hck⟩ := hck
  simp only [Bool.and_eq_true, decide_eq_true_eq] at hck
  obtain ⟨rfl, hp, rfl, v1, v2, v3⟩ := hck
  obtain ⟨a, st, rfl, hn⟩ := xa_pr_some hn
  obtain ⟨hi, hn⟩ := xa_if_some hn
  obtain ⟨rfl, rfl, rfl, rfl, rfl, rfl⟩ := xa_go_some hn
  have hcat := Nat.le_of_ble_eq_true hi
  obtain ⟨hfr, hlo⟩ := hro rfl
  cases a with
  | zero => exact W.objInit hx hb hown (hts _ v1) (hts _ v2) (hts _ v3) rfl (hl.1.trans hml.symm) rfl hd (by omega) (by rw [xa_cats_rv]; show 2 * 0 + _ + _ ≤ _; omega) (kk _ ls H locs hp hl hM hS)
  | succ a => exact W.objInit hx hb hown (hts _ v1) (hts _ v2) (hts _ v3) rfl (hl.1.trans hml.symm) rfl hd (by omega) (by rw [xa_cats_rv]; show 2 * 0 + _ + _ ≤ _; omega) (kk _ ls H locs hp hl hM hS)
set_option maxHeartbeats 1000000 in
theorem xs_invokestatic {x : Nat} {len nip r q : Nat} {ts : List Nat} {lv lv' : List (Nat × Value)} {st st' : List Value} {h h' : List va_E} {ip' k z : Nat} (hC : xa_ckC cl Ts = true)
    (F : xa_Fr D cl Ts cs b base L xs M p s m args meth c) (hck : xa_ck cl Ts M pc (.invokestatic x) len nip r q ts = true) (hn : xa_nx L xs (.invokestatic x) nip r q ts lv st h = some (ip', lv', st', h', k, z))
    (hl : lv_has ls (xa_mL M) (xa_lv b base lv)) (hM : xa_Mt D cl cs b base h H) (hS : va_S (xa_A base) s.heap H locs) (hcs : s.heap.size + cells ≤ base + h.length) (hc : cells + k ≤ R.cells) (hz : slots + z ≤ R.slots) (hro : xa_kind (.invokestatic x) r q = 4 → 1 ≤ R.frames ∧ 30 ≤ R.locals)
    (kk : ∀ (pc' : Nat) (ls' : Array Slot) (H' : Heap) (locs' : List Loc), xa_pc M ip' = pc' → lv_has ls' (xa_mL M) (xa_lv b base lv') → xa_Mt D cl cs b base h' H' → va_S (xa_A base) s.heap H' locs' →
      W p l e R s m args below meth c H' locs' (cells + k) (slots + z) Q (F0 m pc' ls' (st'.map (xa_rv b base)))) :
    W p l e R s m args below meth c H locs cells slots Q (F0 m pc ls (st.map (xa_rv b base))) := by
  obtain ⟨hx, hb, hml, hown, hts, hK, hX, hbb, hbs, hlk, hrt, hnm, hxt⟩ := F
  have hD := xa_W_D cs b base h
  have hA : ∀ q, s.heap.size ≤ q → xa_A base q := fun q hq => Nat.le_trans hbs hq
  have hbA : ¬ xa_A base b := Nat.not_le.mpr hbb
  have hbl : b < s.heap.size := Nat.lt_of_lt_of_le hbb hbs
  unfold xa_ck at hck
  rw [Bool.and_eq_true, decide_eq_true_eq] at hck
  obtain ⟨hd, hck⟩ := hck
  rw [Bool.and_eq_true, Bool.and_eq_true, decide_eq_true_eq, decide_eq_true_eq] at hck
  obtain ⟨rfl, hp, hv⟩ := hck
  split at hv
  · simp only [Bool.and_eq_true, decide_eq_true_eq] at hv
    obtain ⟨v1, v2, v3, v4⟩ := hv
    obtain ⟨y, st, rfl, hn⟩ := xa_pi_some hn
    obtain ⟨hi, hn⟩ := xa_if_some hn
    obtain ⟨rfl, rfl, rfl, rfl, rfl, rfl⟩ := xa_go_some hn
    have hcat := Nat.le_of_ble_eq_true hi
    obtain ⟨hfr, hlo⟩ := hro rfl
    exact va_mabs hx hb (hml.trans hl.1.symm) hown (hts _ v1) (hts _ v2) (hts _ v3) (hts _ v4) (by omega) (by rw [xa_cats_rv]; omega) hc hz hd (kk _ ls H locs hp hl hM hS)
  · simp only [Bool.and_eq_true, decide_eq_true_eq] at hv
    obtain ⟨v1, v2, v3, v4⟩ := hv
    obtain ⟨n, st, rfl, hn⟩ := xa_pi_some hn
    obtain ⟨dp, st, rfl, hn⟩ := xa_pi_some hn
    obtain ⟨a, st, rfl, hn⟩ := xa_pr_some hn
    obtain ⟨sp, st, rfl, hn⟩ := xa_pi_some hn
    obtain ⟨a0, st, rfl, hn⟩ := xa_pr_some hn
    obtain ⟨j0, n0, f, rfl, hj0, hn⟩ := xa_ai_some hn
    obtain ⟨j, n1, g, rfl, hj, hn⟩ := xa_ai_some hn
    obtain ⟨hi, hn⟩ := xa_if_some hn
    obtain ⟨rfl, rfl, rfl, rfl, rfl, rfl⟩ := xa_go_some hn
    simp only [Bool.and_eq_true, Bool.not_eq_true', decide_eq_false_iff_not, decide_eq_true_eq] at hi
    obtain ⟨⟨⟨⟨⟨i0, i1⟩, i2⟩, i3⟩, i4⟩, i5⟩ := hi
    have hcat := Nat.le_of_ble_eq_true i0
    obtain ⟨hfr, hlo⟩ := hro rfl
    refine va_copyi hx hb (hml.trans hl.1.symm) hown (hts _ v1) (hts _ v2) (hts _ v3) (hts _ v4) hK hM.2 hD (xa_S.now hS) j0 j 0 0 (xa_W_at hj0) (xa_W_at hj) rfl rfl rfl i1 i2 i3 i4 i5 (fun _ _ => rfl) (by omega) (by rw [xa_cats_rv]; have h1 : nativeFrameWords "java/lang/System" "arraycopy" 5 = 7 := (by decide); omega) hd (fun H1 locs1 hP1 _ hS1 => ?_)
    exact kk _ ls H1 locs1 hp hl (hM.set hP1 hS1.1) (xa_S.two hS hS1)
  · cases hv
set_option maxHeartbeats 4000000 in
theorem xa_sim_nx {i : Jvm.ClassFile.Instr} {len nip r q : Nat} {ts : List Nat} {lv lv' : List (Nat × Value)} {st st' : List Value} {h h' : List va_E} {ip' k z : Nat} (hC : xa_ckC cl Ts = true)
    (F : xa_Fr D cl Ts cs b base L xs M p s m args meth c) (hck : xa_ck cl Ts M pc i len nip r q ts = true) (hn : xa_nx L xs i nip r q ts lv st h = some (ip', lv', st', h', k, z))
    (hl : lv_has ls (xa_mL M) (xa_lv b base lv)) (hM : xa_Mt D cl cs b base h H) (hS : va_S (xa_A base) s.heap H locs) (hcs : s.heap.size + cells ≤ base + h.length) (hc : cells + k ≤ R.cells) (hz : slots + z ≤ R.slots) (hro : xa_kind i r q = 4 → 1 ≤ R.frames ∧ 30 ≤ R.locals)
    (kk : ∀ (pc' : Nat) (ls' : Array Slot) (H' : Heap) (locs' : List Loc), xa_pc M ip' = pc' → lv_has ls' (xa_mL M) (xa_lv b base lv') → xa_Mt D cl cs b base h' H' → va_S (xa_A base) s.heap H' locs' →
      W p l e R s m args below meth c H' locs' (cells + k) (slots + z) Q (F0 m pc' ls' (st'.map (xa_rv b base)))) :
    W p l e R s m args below meth c H locs cells slots Q (F0 m pc ls (st.map (xa_rv b base))) := by
  cases i
  case iconst n => exact xs_iconst hC F hck hn hl hM hS hcs hc hz hro kk
  case bipush n => exact xs_bipush hC F hck hn hl hM hS hcs hc hz hro kk
  case sipush n => exact xs_sipush hC F hck hn hl hM hS hcs hc hz hro kk
  case ldc x => exact xs_ldc hC F hck hn hl hM hS hcs hc hz hro kk
  case ldc_w x => exact xs_ldc_w hC F hck hn hl hM hS hcs hc hz hro kk
  case lconst n => exact xs_lconst hC F hck hn hl hM hS hcs hc hz hro kk
  case ldc2_w x => exact xs_ldc2_w hC F hck hn hl hM hS hcs hc hz hro kk
  case iload_n n => exact xs_iload_n hC F hck hn hl hM hS hcs hc hz hro kk
  case iload n => exact xs_iload hC F hck hn hl hM hS hcs hc hz hro kk
  case lload_n n => exact xs_lload_n hC F hck hn hl hM hS hcs hc hz hro kk
  case lload n => exact xs_lload hC F hck hn hl hM hS hcs hc hz hro kk
  case aload_n n => exact xs_aload_n hC F hck hn hl hM hS hcs hc hz hro kk
  case aload n => exact xs_aload hC F hck hn hl hM hS hcs hc hz hro kk
  case istore_n n => exact xs_istore_n hC F hck hn hl hM hS hcs hc hz hro kk
  case istore n => exact xs_istore hC F hck hn hl hM hS hcs hc hz hro kk
  case lstore_n n => exact xs_lstore_n hC F hck hn hl hM hS hcs hc hz hro kk
  case lstore n => exact xs_lstore hC F hck hn hl hM hS hcs hc hz hro kk
  case astore_n n => exact xs_astore_n hC F hck hn hl hM hS hcs hc hz hro kk
  case astore n => exact xs_astore hC F hck hn hl hM hS hcs hc hz hro kk
  case iinc n cc => exact xs_iinc hC F hck hn hl hM hS hcs hc hz hro kk
  case iadd => exact xs_iadd hC F hck hn hl hM hS hcs hc hz hro kk
  case isub => exact xs_isub hC F hck hn hl hM hS hcs hc hz hro kk
  case imul => exact xs_imul hC F hck hn hl hM hS hcs hc hz hro kk
  case iand => exact xs_iand hC F hck hn hl hM hS hcs hc hz hro kk
  case ladd => exact xs_ladd hC F hck hn hl hM hS hcs hc hz hro kk
  case lsub => exact xs_lsub hC F hck hn hl hM hS hcs hc hz hro kk
  case lmul => exact xs_lmul hC F hck hn hl hM hS hcs hc hz hro kk
  case idiv => exact xs_idiv hC F hck hn hl hM hS hcs hc hz hro kk
  case irem => exact xs_irem hC F hck hn hl hM hS hcs hc hz hro kk
  case ldiv => exact xs_ldiv hC F hck hn hl hM hS hcs hc hz hro kk
  case lrem => exact xs_lrem hC F hck hn hl hM hS hcs hc hz hro kk
  case ineg => exact xs_ineg hC F hck hn hl hM hS hcs hc hz hro kk
  case lcmp => exact xs_lcmp hC F hck hn hl hM hS hcs hc hz hro kk
  case i2l => exact xs_i2l hC F hck hn hl hM hS hcs hc hz hro kk
  case l2i => exact xs_l2i hC F hck hn hl hM hS hcs hc hz hro kk
  case dup => exact xs_dup hC F hck hn hl hM hS hcs hc hz hro kk
  case pop => exact xs_pop hC F hck hn hl hM hS hcs hc hz hro kk
  case dup2 => exact xs_dup2 hC F hck hn hl hM hS hcs hc hz hro kk
  case ifCond cd off => exact xs_ifCond hC F hck hn hl hM hS hcs hc hz hro kk
  case if_icmp cd off => exact xs_if_icmp hC F hck hn hl hM hS hcs hc hz hro kk
  case goto off => exact xs_goto hC F hck hn hl hM hS hcs hc hz hro kk
  case getfield x => exact xs_getfield hC F hck hn hl hM hS hcs hc hz hro kk
  case putfield x => exact xs_putfield hC F hck hn hl hM hS hcs hc hz hro kk
  case arraylength => exact xs_arraylength hC F hck hn hl hM hS hcs hc hz hro kk
  case iaload => exact xs_iaload hC F hck hn hl hM hS hcs hc hz hro kk
  case baload => exact xs_baload hC F hck hn hl hM hS hcs hc hz hro kk
  case laload => exact xs_laload hC F hck hn hl hM hS hcs hc hz hro kk
  case iastore => exact xs_iastore hC F hck hn hl hM hS hcs hc hz hro kk
  case bastore => exact xs_bastore hC F hck hn hl hM hS hcs hc hz hro kk
  case lastore => exact xs_lastore hC F hck hn hl hM hS hcs hc hz hro kk
  case tableswitch df lo hi offs => exact xs_tableswitch hC F hck hn hl hM hS hcs hc hz hro kk
  case new x => exact xs_new hC F hck hn hl hM hS hcs hc hz hro kk
  case newarray t => exact xs_newarray hC F hck hn hl hM hS hcs hc hz hro kk
  case invokespecial x => exact xs_invokespecial hC F hck hn hl hM hS hcs hc hz hro kk
  case invokestatic x => exact xs_invokestatic hC F hck hn hl hM hS hcs hc hz hro kk
  all_goals exact nomatch (show (none : Option xa_N) = some _ from hn)
end XSim
end
section
/-! A CONTRACT OF A METHOD THAT MAY THROW, and a call by it -/
def xb_E (first t : State) (L : List Loc) (k n : Nat) : Prop := first.WarmedH t.vm ∧ first.sameButNew ({ t with vm := first.vm } : State) L k n
def xb_Q (Qc : Array Value → State → Outcome → State → Prop) (mc ms : Nat) (free : Addr → Prop) : Array Value → State → Outcome → State → Prop := fun a st o t => Qc a st o t ∧ ∃ L, xb_E st t L mc ms ∧ ∀ q ∈ L, free q.base
def xb_Met (l : Launch) (y : MethodName) (ws : List Jvm.Cond) (rm : Room) (Pc : Array Value → State → Prop) (Qc : Array Value → State → Outcome → State → Prop) (mc ms : Nat) (free : Addr → Prop) : Prop :=
  MetFree l y (headSpec ws rm) Pc (fun _ _ _ _ _ => True) (xb_Q Qc mc ms free)
def xb_MQ (below : List Frame) (Qc : Array Value → State → Outcome → State → Prop) (a : Array Value) (s : State) (mc ms : Nat) (free : Addr → Prop) : State → Prop := fun t =>
  ∃ o, t.status = .running ∧ Ended t below o ∧ xb_Q Qc mc ms free a s o t
/-- a method's code word, with or without handlers -/
def xb_cw (y : MethodName) (cc : ByteArray) (maxL : Nat) (ret : Option FieldType) (hh : List (Nat × Nat × Nat × Nat)) : Jvm.Cond := match hh with
  | [] => .code y cc maxL ret
  | hh => .codeWith y cc maxL ret hh
theorem xb_cw_spec {y : MethodName} {cc : ByteArray} {maxL : Nat} {ret : Option FieldType} {hh : List (Nat × Nat × Nat × Nat)} {args : Array Value} {s : State} {m : MethodId} (hn : s.methodNamed? y = some m) (h : (xb_cw y cc maxL ret hh).before args s = true) :
    ∃ meth c, s.vm.method? m = some meth ∧ meth.code = some c ∧ c.code = cc ∧ c.maxLocals = maxL ∧ meth.sig.returnType = ret ∧ meth.locks = false ∧ c.exceptionTable.toList = tableOf hh ∧ parseMethodDescriptor y.desc = some meth.sig := by
  cases hh with
  | nil =>
    obtain ⟨meth, c, h1, h2, h3, h4, h5, h6, h7, h8⟩ := Cond.code_spec hn h
    refine ⟨meth, c, h1, h2, h3, h4, h5, h6, ?_, h8⟩
    have h0 : c.exceptionTable.size = 0 := by simpa [Array.isEmpty] using h7
    exact List.eq_nil_of_length_eq_zero (by simpa using h0)
  | cons q t =>
    obtain ⟨m9, meth, c, hn9, h1, h2, h3, h4, ht, h5, h6, h8⟩ := Cond.codeWith_spec h
    cases hn.symm.trans hn9
    exact ⟨meth, c, h1, h2, h3, h4, h5, h6, by rw [← ht, table_eq], h8⟩
section XB
variable {l : Launch}
theorem xb_ofW {y : MethodName} {ws : List Jvm.Cond} {rm : Room} {Pc : Array Value → State → Prop} {Qc : Array Value → State → Outcome → State → Prop} {mc ms : Nat} {free : Addr → Prop} {cc : ByteArray} {maxL : Nat} {ret : Option FieldType} {hh : List (Nat × Nat × Nat × Nat)}
    (hy : plainName y.cls = true) (hw : xb_cw y cc maxL ret hh ∈ ws)
    (body : ∀ p e s m args below meth c s₁, BodyLoose p l y (headSpec ws rm) cc maxL ret e s m args below meth c s₁ → c.maxLocals = maxL → c.exceptionTable.toList = tableOf hh → Pc args s →
      W p l e rm s m args below meth c s.heap [] 0 0 (xb_MQ below Qc args s mc ms free) (entryFrame m args maxL)) : xb_Met l y ws rm Pc Qc mc ms free := by
  refine MetFree.of_bodyS (code := cc) (maxLocals := maxL) (ret := ret) hy ?_ ?_
  · intro args s m h hn
    obtain ⟨meth, c, h1, h2, h3, h4, h5, h6, -⟩ := xb_cw_spec hn (atoms_spec (ws := ws) h _ hw)
    exact ⟨meth, c, h1, h2, h3, h4, h5, h6⟩
  · intro p e s m args below meth c s₁ B hml hP _
    have hh0 : s₁.heap = s.heap := by rw [B.state]; rfl
    have X := Stand.of_body B
    obtain ⟨meth', c', h1, h2, -, -, -, -, h7, -⟩ := xb_cw_spec B.named (atoms_spec (ws := ws) B.pre _ hw)
    cases B.method.symm.trans h1
    cases X.code.symm.trans h2
    obtain ⟨t, a1, o, b1, b2, b3⟩ := body p e s m args below meth c s₁ B hml h7 hP s₁ hh0 X
    exact ⟨t, o, a1, b1, b2, b3⟩
end XB
section XC
variable {p : Program} {l : Launch} {e : Env} {R : Room} {s : State} {m : MethodId} {args : Array Value} {below : List Frame} {meth : Method} {c : Code} {U : State} {locs : List Loc} {cells slots : Nat}
set_option maxHeartbeats 2000000 in
/-- behind the invoking instruction's own step: the callee comes back, or throws -/
theorem xb_call {y : MethodName} {ws : List Jvm.Cond} {rm : Room} {Pc : Array Value → State → Prop} {Qc : Array Value → State → Outcome → State → Prop} {mc ms : Nat} {free : Addr → Prop} {cc : ByteArray} {maxL : Nat} {ret : Option FieldType} {hh : List (Nat × Nat × Nat × Nat)}
    (X : Stand p l e R s m args below meth c U locs cells slots) (hM : xb_Met l y ws rm Pc Qc mc ms free) {mk : MethodId} (hn : U.methodNamed? y = some mk) {g : JFrame} (hg : g.method = m) (hsize : g.locals.size = c.maxLocals) {ig : Jvm.ClassFile.Instr} (hdg : decode c.code g.pc = .ok (ig, 3))
    (hws : ∀ w ∈ ws, ∀ a' : Array Value, w.before a' U = true) (hcw : xb_cw y cc maxL ret hh ∈ ws) (hini : ∀ a' : Array Value, (Jvm.Cond.initialized y.cls).before a' U = true)
    (hframes : rm.frames + 1 ≤ R.frames) (hlocals : 2 * g.monitorRoom + (g.stack.map fun v => v.category).sum + (maxL + 11) + rm.locals ≤ R.locals) (hcells : cells + rm.cells ≤ R.cells) (hslots : slots + rm.slots ≤ R.slots)
    {a : Array Value} (hP : Pc a (U.calling g mk a)) :
    (∃ (v : Option Value) (t B : State) (L : List Loc), Stand p l e R s m args below meth c B (locs ++ L) (cells + mc) (slots + ms) ∧ (∀ q ∈ L, free q.base) ∧ B.heap = t.heap ∧ B.vm = t.vm ∧ Qc a (U.calling g mk a) (.returned v) t ∧ Steps p.tables e below (doInvoke e (U.setTop g) [] mk a).1 (B.setTop { g with pc := g.pc + 3, stack := v.toList ++ g.stack })) ∨
    (∃ (x : Addr) (t B : State) (L : List Loc), Stand p l e R s m args below meth c B (locs ++ L) (cells + mc) (slots + ms) ∧ (∀ q ∈ L, free q.base) ∧ B.heap = t.heap ∧ B.vm = t.vm ∧ Qc a (U.calling g mk a) (.threw x) t ∧ Steps p.tables e below (doInvoke e (U.setTop g) [] mk a).1 ((B.setTop g).pushFrame (.throwing x))) := by
  subst hg
  obtain ⟨methY, cY, hmY, hcY, -, hlY, -, -, -, -⟩ := xb_cw_spec (args := a) hn (hws _ hcw a)
  obtain ⟨kY, hkY, -⟩ := className_of_methodNamed hn
  have hinitY : kY.init = .initialized := Cond.initialized_spec (findClass_of_methodNamed hn) hkY (hini a)
  have h : At U g.method c below := X.here
  have happ : (headSpec ws rm).appliesLoose y e.platform (U.calling g mk a) = true :=
    Spec.appliesLoose_calling (g := g) h hdg hn hkY hinitY
      (X.room_calling (g := g) (R' := rm) hsize hmY hcY hframes (by rw [hlY]; exact hlocals) hcells hslots) (atoms_intro fun w hw => hws w hw a)
  obtain ⟨mid, hmid⟩ := h.above
  have hfr : (U.setTop g).frames = (.java g :: mid) ++ below := by rw [State.frames_setTop' g h.top, hmid]; rfl
  obtain ⟨o, s₂, hsteps, -, hend, hq⟩ := Steps.callFree hM p X.admits X.cas X.clock (acts := []) hfr happ hP trivial
  have hq' : xb_Q Qc mc ms free a (U.calling g mk a) o s₂ := hq
  rw [State.frames_setTop' g h.top] at hend
  obtain ⟨hqc, L, ⟨hW₂, hsm⟩, hL⟩ := hq'
  obtain ⟨e2, q2, q3, q4, q5, q6⟩ := id hsm
  have e3 : s₂ = ({ (U.calling g mk a).setFrames s₂.frames with heap := s₂.heap, slotsUsed := s₂.slotsUsed } : State).setVm s₂.vm := by
    have : s₂ = ({ s₂ with vm := (U.calling g mk a).vm } : State).setVm s₂.vm := rfl
    rw [e2] at this
    exact this
  have hW' : U.WarmedH s₂.vm := hW₂
  obtain ⟨g₀, hg0⟩ := Option.isSome_iff_exists.mp h.top
  obtain ⟨r, hr⟩ := State.topJava?_eq_some.mp hg0
  have hsame : U.sameButNew ({ U with heap := s₂.heap, slotsUsed := s₂.slotsUsed } : State) L mc ms := by
    refine ⟨?_, q2, q3, q4, q5, q6⟩
    obtain ⟨t, ht, -⟩ := State.frames_cons hr
    show ({ U with heap := s₂.heap, slotsUsed := s₂.slotsUsed } : State) = { U.setFrames U.frames with heap := s₂.heap, slotsUsed := s₂.slotsUsed }
    rw [State.setFrames_self ht]
  have hr' : (({ U with heap := s₂.heap, slotsUsed := s₂.slotsUsed } : State).setVm s₂.vm).frames = .java g₀ :: r := hr
  have XB : Stand p l e R s g.method args below meth c (({ U with heap := s₂.heap, slotsUsed := s₂.slotsUsed } : State).setVm s₂.vm) (locs ++ L) (cells + mc) (slots + ms) :=
    ⟨X.admits, X.cas, X.clock, X.frames, X.room, X.hears, X.method, X.code, (X.here.setHeapUsed s₂.heap s₂.slotsUsed).setVm hW'.alike, X.tail, State.WarmedH.trans X.warmed hW', X.limits, X.bytes, X.same.trans (hsame.setVm s.vm)⟩
  cases o with
  | returned v =>
    left
    obtain ⟨c₂, i₂, len₂, hc₂, hd₂, hf₂⟩ := hend
    have hcc : c₂ = c := by
      have h1 : s₂.code? g.method = U.code? g.method := by
        rw [State.code?_eq, State.code?_eq, hW'.alike.method?]
      exact Option.some.inj (hc₂.symm.trans (h1.trans h.code))
    subst hcc
    have hlen : len₂ = 3 := by rw [hdg] at hd₂; cases hd₂; rfl
    subst hlen
    have hs₂ : s₂ = (({ U with heap := s₂.heap, slotsUsed := s₂.slotsUsed } : State).setVm s₂.vm).setTop { g with pc := g.pc + 3, stack := v.toList ++ g.stack } := by
      refine e3.trans ?_
      rw [hf₂, State.calling_eq h.top, State.setFrames_setFrames, State.setTop_of_frames _ hr', hr]
      rfl
    refine ⟨v, s₂, _, L, XB, hL, rfl, rfl, hqc, ?_⟩
    rw [← hs₂]
    exact hsteps
  | threw x =>
    right
    have hf₂ : s₂.frames = .throwing x :: .java g :: U.frames.tail := hend
    have hs₂ : s₂ = ((({ U with heap := s₂.heap, slotsUsed := s₂.slotsUsed } : State).setVm s₂.vm).setTop g).pushFrame (.throwing x) := by
      refine e3.trans ?_
      rw [hf₂, State.calling_eq h.top, State.setFrames_setFrames, State.pushFrame, State.frames_setTop _ hr', State.setTop_of_frames _ hr', State.setFrames_setFrames, hr]
      rfl
    refine ⟨x, s₂, _, L, XB, hL, rfl, rfl, hqc, ?_⟩
    rw [← hs₂]
    exact hsteps
end XC
end
section
/-! THE WHOLE RUN OF A METHOD -/
theorem xl_go {ip ip' : Nat} {lv lv' : List (Nat × Value)} {st st' : List Value} {h h1 h' : List va_E} {k z : Nat} (hl : h1.length = h.length) (e : xa_go ip lv st h1 = some (ip', lv', st', h', k, z)) : h'.length = h.length + k := by
  obtain ⟨-, -, -, rfl, rfl, -⟩ := xa_go_some e
  exact hl
set_option maxHeartbeats 4000000 in
theorem xa_nx_len {L : Nat} {xs : Nat → Int32} {i : Jvm.ClassFile.Instr} {nip r q : Nat} {ts : List Nat} {lv lv' : List (Nat × Value)} {st st' : List Value} {h h' : List va_E} {ip' k z : Nat} (hn : xa_nx L xs i nip r q ts lv st h = some (ip', lv', st', h', k, z)) : h'.length = h.length + k := by
  cases i
  case iconst _ =>
    exact xl_go rfl hn
  case bipush _ =>
    exact xl_go rfl hn
  case sipush _ =>
    exact xl_go rfl hn
  case ldc _ =>
    exact xl_go rfl hn
  case ldc_w _ =>
    exact xl_go rfl hn
  case lconst _ =>
    exact xl_go rfl hn
  case ldc2_w _ =>
    exact xl_go rfl hn
  case iload_n _ =>
    obtain ⟨_, _, h0⟩ := xa_li_some hn
    exact xl_go rfl h0
  case iload _ =>
    obtain ⟨_, _, h0⟩ := xa_li_some hn
    exact xl_go rfl h0
  case lload_n _ =>
    obtain ⟨_, _, h0⟩ := xa_ll_some hn
    exact xl_go rfl h0
  case lload _ =>
    obtain ⟨_, _, h0⟩ := xa_ll_some hn
    exact xl_go rfl h0
  case aload_n _ =>
    obtain ⟨_, _, h0⟩ := xa_lr_some hn
    exact xl_go rfl h0
  case aload _ =>
    obtain ⟨_, _, h0⟩ := xa_lr_some hn
    exact xl_go rfl h0
  case istore_n _ =>
    obtain ⟨_, _, _, h0⟩ := xa_pi_some hn
    exact xl_go rfl h0
  case istore _ =>
    obtain ⟨_, _, _, h0⟩ := xa_pi_some hn
    exact xl_go rfl h0
  case astore_n _ =>
    obtain ⟨_, _, _, h0⟩ := xa_pr_some hn
    exact xl_go rfl h0
  case astore _ =>
    obtain ⟨_, _, _, h0⟩ := xa_pr_some hn
    exact xl_go rfl h0
  case lstore_n _ =>
    obtain ⟨_, _, _, h0⟩ := xa_pl_some hn
    exact xl_go rfl h0
  case lstore _ =>
    obtain ⟨_, _, _, h0⟩ := xa_pl_some hn
    exact xl_go rfl h0
  case iinc _ _ =>
    obtain ⟨_, _, h0⟩ := xa_li_some hn
    exact xl_go rfl h0
  case iadd =>
    obtain ⟨_, _, _, h0⟩ := xa_pi_some hn
    obtain ⟨_, _, _, h1⟩ := xa_pi_some h0
    exact xl_go rfl h1
  case isub =>
    obtain ⟨_, _, _, h0⟩ := xa_pi_some hn
    obtain ⟨_, _, _, h1⟩ := xa_pi_some h0
    exact xl_go rfl h1
  case imul =>
    obtain ⟨_, _, _, h0⟩ := xa_pi_some hn
    obtain ⟨_, _, _, h1⟩ := xa_pi_some h0
    exact xl_go rfl h1
  case iand =>
    obtain ⟨_, _, _, h0⟩ := xa_pi_some hn
    obtain ⟨_, _, _, h1⟩ := xa_pi_some h0
    exact xl_go rfl h1
  case idiv =>
    obtain ⟨_, _, _, h0⟩ := xa_pi_some hn
    obtain ⟨_, _, _, h1⟩ := xa_pi_some h0
    obtain ⟨_, h2⟩ := xa_if_some h1
    exact xl_go rfl h2
  case irem =>
    obtain ⟨_, _, _, h0⟩ := xa_pi_some hn
    obtain ⟨_, _, _, h1⟩ := xa_pi_some h0
    obtain ⟨_, h2⟩ := xa_if_some h1
    exact xl_go rfl h2
  case ineg =>
    obtain ⟨_, _, _, h0⟩ := xa_pi_some hn
    exact xl_go rfl h0
  case ladd =>
    obtain ⟨_, _, _, h0⟩ := xa_pl_some hn
    obtain ⟨_, _, _, h1⟩ := xa_pl_some h0
    exact xl_go rfl h1
  case lsub =>
    obtain ⟨_, _, _, h0⟩ := xa_pl_some hn
    obtain ⟨_, _, _, h1⟩ := xa_pl_some h0
    exact xl_go rfl h1
  case lmul =>
    obtain ⟨_, _, _, h0⟩ := xa_pl_some hn
    obtain ⟨_, _, _, h1⟩ := xa_pl_some h0
    exact xl_go rfl h1
  case ldiv =>
    obtain ⟨_, _, _, h0⟩ := xa_pl_some hn
    obtain ⟨_, _, _, h1⟩ := xa_pl_some h0
    obtain ⟨_, h2⟩ := xa_if_some h1
    exact xl_go rfl h2
  case lrem =>
    obtain ⟨_, _, _, h0⟩ := xa_pl_some hn
    obtain ⟨_, _, _, h1⟩ := xa_pl_some h0
    obtain ⟨_, h2⟩ := xa_if_some h1
    exact xl_go rfl h2
  case lcmp =>
    obtain ⟨_, _, _, h0⟩ := xa_pl_some hn
    obtain ⟨_, _, _, h1⟩ := xa_pl_some h0
    exact xl_go rfl h1
  case i2l =>
    obtain ⟨_, _, _, h0⟩ := xa_pi_some hn
    exact xl_go rfl h0
  case l2i =>
    obtain ⟨_, _, _, h0⟩ := xa_pl_some hn
    exact xl_go rfl h0
  case dup =>
    obtain ⟨_, _, _, _, h0⟩ := xa_p1_some hn
    exact xl_go rfl h0
  case pop =>
    obtain ⟨_, _, _, _, h0⟩ := xa_p1_some hn
    exact xl_go rfl h0
  case dup2 =>
    obtain ⟨_, _, _, _, h0⟩ := xa_p1_some hn
    obtain ⟨_, _, _, _, h1⟩ := xa_p1_some h0
    exact xl_go rfl h1
  case ifCond _ _ =>
    obtain ⟨_, _, _, h0⟩ := xa_pi_some hn
    exact xl_go rfl h0
  case if_icmp _ _ =>
    obtain ⟨_, _, _, h0⟩ := xa_pi_some hn
    obtain ⟨_, _, _, h1⟩ := xa_pi_some h0
    exact xl_go rfl h1
  case goto _ =>
    exact xl_go rfl hn
  case tableswitch _ _ _ _ =>
    obtain ⟨_, _, _, h0⟩ := xa_pi_some hn
    exact xl_go rfl h0
  case getfield _ =>
    obtain ⟨_, _, _, h0⟩ := xa_pr_some hn
    obtain ⟨_, _, _, _, h1⟩ := xa_ob_some h0
    obtain ⟨_, _, h2⟩ := xa_fd_some h1
    exact xl_go rfl h2
  case putfield _ =>
    obtain ⟨_, _, _, h0⟩ := xa_pv_some hn
    obtain ⟨_, _, _, h1⟩ := xa_pr_some h0
    obtain ⟨_, _, _, _, h2⟩ := xa_ob_some h1
    obtain ⟨_, h3⟩ := xa_if_some h2
    exact xl_go (List.length_set ..) h3
  case arraylength =>
    obtain ⟨_, _, _, h0⟩ := xa_pr_some hn
    rcases xa_ln_some h0 with ⟨_, h9⟩ | ⟨_, _, _, _, _, _, h9⟩ <;> exact xl_go rfl h9
  case iaload =>
    obtain ⟨_, _, _, h0⟩ := xa_pi_some hn
    obtain ⟨_, _, _, h1⟩ := xa_pr_some h0
    rcases xa_is_some h1 with ⟨_, h9⟩ | ⟨_, _, _, _, _, h9⟩ <;> exact xl_go rfl (xa_if_some h9).2
  case baload =>
    obtain ⟨_, _, _, h0⟩ := xa_pi_some hn
    obtain ⟨_, _, _, h1⟩ := xa_pr_some h0
    obtain ⟨_, _, _, _, _, h2⟩ := xa_ai_some h1
    obtain ⟨_, h3⟩ := xa_if_some h2
    exact xl_go rfl h3
  case laload =>
    obtain ⟨_, _, _, h0⟩ := xa_pi_some hn
    obtain ⟨_, _, _, h1⟩ := xa_pr_some h0
    obtain ⟨_, _, _, _, _, h2⟩ := xa_al_some h1
    obtain ⟨_, h3⟩ := xa_if_some h2
    exact xl_go rfl h3
  case iastore =>
    obtain ⟨_, _, _, h0⟩ := xa_pi_some hn
    obtain ⟨_, _, _, h1⟩ := xa_pi_some h0
    obtain ⟨_, _, _, h2⟩ := xa_pr_some h1
    obtain ⟨_, _, _, _, _, h3⟩ := xa_ai_some h2
    obtain ⟨_, h4⟩ := xa_if_some h3
    exact xl_go (List.length_set ..) h4
  case bastore =>
    obtain ⟨_, _, _, h0⟩ := xa_pi_some hn
    obtain ⟨_, _, _, h1⟩ := xa_pi_some h0
    obtain ⟨_, _, _, h2⟩ := xa_pr_some h1
    obtain ⟨_, _, _, _, _, h3⟩ := xa_ai_some h2
    obtain ⟨_, h4⟩ := xa_if_some h3
    exact xl_go (List.length_set ..) h4
  case lastore =>
    obtain ⟨_, _, _, h0⟩ := xa_pl_some hn
    obtain ⟨_, _, _, h1⟩ := xa_pi_some h0
    obtain ⟨_, _, _, h2⟩ := xa_pr_some h1
    obtain ⟨_, _, _, _, _, h3⟩ := xa_al_some h2
    obtain ⟨_, h4⟩ := xa_if_some h3
    exact xl_go (List.length_set ..) h4
  case newarray _ =>
    obtain ⟨_, _, _, h0⟩ := xa_pi_some hn
    obtain ⟨_, h1⟩ := xa_if_some h0
    cases h1; simp
  case new _ =>
    cases hn; simp
  case invokespecial _ =>
    replace hn : xa_own r nip lv st h = some (ip', lv', st', h', k, z) := hn
    unfold xa_own at hn
    split at hn
    · obtain ⟨_, _, _, h0⟩ := xa_pr_some hn
      exact xl_go rfl (xa_if_some h0).2
    · obtain ⟨_, _, _, h0⟩ := xa_pi_some hn
      exact xl_go rfl (xa_if_some h0).2
    · obtain ⟨_, _, _, h0⟩ := xa_pi_some hn
      obtain ⟨_, _, _, h1⟩ := xa_pi_some h0
      obtain ⟨_, _, _, h2⟩ := xa_pr_some h1
      obtain ⟨_, _, _, h3⟩ := xa_pi_some h2
      obtain ⟨_, _, _, h4⟩ := xa_pr_some h3
      obtain ⟨_, _, _, _, _, h5⟩ := xa_ai_some h4
      obtain ⟨_, _, _, _, _, h6⟩ := xa_ai_some h5
      exact xl_go (List.length_set ..) (xa_if_some h6).2
    · cases hn
  case invokestatic _ =>
    replace hn : xa_own r nip lv st h = some (ip', lv', st', h', k, z) := hn
    unfold xa_own at hn
    split at hn
    · obtain ⟨_, _, _, h0⟩ := xa_pr_some hn
      exact xl_go rfl (xa_if_some h0).2
    · obtain ⟨_, _, _, h0⟩ := xa_pi_some hn
      exact xl_go rfl (xa_if_some h0).2
    · obtain ⟨_, _, _, h0⟩ := xa_pi_some hn
      obtain ⟨_, _, _, h1⟩ := xa_pi_some h0
      obtain ⟨_, _, _, h2⟩ := xa_pr_some h1
      obtain ⟨_, _, _, h3⟩ := xa_pi_some h2
      obtain ⟨_, _, _, h4⟩ := xa_pr_some h3
      obtain ⟨_, _, _, _, _, h5⟩ := xa_ai_some h4
      obtain ⟨_, _, _, _, _, h6⟩ := xa_ai_some h5
      exact xl_go (List.length_set ..) (xa_if_some h6).2
    · cases hn
  all_goals exact nomatch (show (none : Option xa_N) = some _ from hn)
theorem xa_lv_args (b base : Nat) : ∀ (vs : List Value) (i : Nat), xa_lv b base (lv_args i vs) = lv_args i (vs.map (xa_rv b base))
  | [], _ => rfl
  | v :: vs, i => by
    show (i, xa_rv b base v) :: xa_lv b base (lv_args _ vs) = _
    rw [xa_lv_args b base vs]
    simp only [List.map_cons, lv_args, xa_rv_cat]
theorem xa_sl_len (vs : List Value) : (lg_sl vs).length = xa_cats vs := by
  induction vs with
  | nil => rfl
  | cons v vs ih =>
    have h1 : lg_sl (v :: vs) = (if v.category = 2 then [.val v, .second] else [.val v]) ++ lg_sl vs := rfl
    rw [h1, List.length_append, ih]
    show _ = v.category + xa_cats vs
    cases v <;> rfl
/-- an outcome with addresses -/
def xa_ad (b base a : Nat) : Nat := match a with
  | 0 => b
  | k + 1 => base + k
theorem xa_rv_ref (b base a : Nat) : xa_rv b base (.ref a) = .ref (xa_ad b base a) := by cases a <;> rfl
def xa_oc (b base : Nat) (o : Outcome) : Outcome := match o with
  | .returned v => .returned (v.map (xa_rv b base))
  | .threw a => .threw (xa_ad b base a)
/-- a state of the run: the tables warmer than at the start, the old cells as they were -/
def xa_Rl (s0 : State) (base : Nat) (U : State) : Prop := s0.WarmedH U.vm ∧ base ≤ U.heap.size ∧ ∀ q, q < base → U.heap[q]? = s0.heap[q]?
def xa_Pc (D : va_G) (cl : List vw_C) (cs : ClassId × ClassId × ClassId) (b base : Nat) (s0 : State) (vs : List Value) (h : List va_E) : Array Value → State → Prop := fun a U => a = (vs.map (xa_rv b base)).toArray ∧ xa_Rl s0 base U ∧ xa_Mt D cl cs b base h U.heap ∧ U.heap.size ≤ base + h.length
def xa_Qc (D : va_G) (cl : List vw_C) (cs : ClassId × ClassId × ClassId) (b base : Nat) (s0 : State) (o : Outcome) (h' : List va_E) : Array Value → State → Outcome → State → Prop := fun _ _ o' t => o' = xa_oc b base o ∧ xa_Rl s0 base t ∧ xa_Mt D cl cs b base h' t.heap
end
section
/-! RULES OVER THE PURE MACHINE: 'xv': it comes to an end with the outcome o, the cells h', so many cells and slots more -/
def xv (mt : Nat → xa_M) (L : Nat) (xs : Nat → Int32) (d w y ip : Nat) (lv : List (Nat × Value)) (st : List Value) (h : List va_E) (o : Outcome) (h' : List va_E) (k z : Nat) : Prop := ∃ n, xa_ev mt L xs n d w y ip lv st h = some (o, h', k, z)
/-- one plain row -/
def xa_1 (mt : Nat → xa_M) (L : Nat) (xs : Nat → Int32) (y ip : Nat) (lv : List (Nat × Value)) (st : List Value) (h : List va_E) : Option xa_N := match (xa_rows (mt y))[ip]? with
  | none => none
  | some (_, i, _, nip, r, q, ts) => match xa_kind i r q with
    | 0 => xa_nx L xs i nip r q ts lv st h
    | _ => none
/-- n plain rows that make nothing -/
def xa_m (mt : Nat → xa_M) (L : Nat) (xs : Nat → Int32) (y : Nat) : Nat → Nat → List (Nat × Value) → List Value → List va_E → Option (Nat × List (Nat × Value) × List Value × List va_E)
  | 0, ip, lv, st, h => some (ip, lv, st, h)
  | n + 1, ip, lv, st, h => match xa_1 mt L xs y ip lv st h with
    | some (ip', lv', st', h', 0, 0) => xa_m mt L xs y n ip' lv' st' h'
    | _ => none
/-- a call of the JDK's; a return; a 'throw new'; a call -/
def xa_o (mt : Nat → xa_M) (L : Nat) (xs : Nat → Int32) (y ip : Nat) (lv : List (Nat × Value)) (st : List Value) (h : List va_E) : Option xa_N := match (xa_rows (mt y))[ip]? with
  | none => none
  | some (_, i, _, nip, r, q, ts) => match xa_kind i r q with
    | 4 => xa_nx L xs i nip r q ts lv st h
    | _ => none
def xa_r (mt : Nat → xa_M) (y ip : Nat) (st : List Value) (h : List va_E) : Option xa_O := match (xa_rows (mt y))[ip]? with
  | none => none
  | some (_, i, _, _, r, q, _) => match xa_kind i r q with
    | 1 => xa_ret (xa_rt (mt y)) i st h
    | _ => none
def xa_th (mt : Nat → xa_M) (y ip : Nat) (st : List Value) : Option Nat := match (xa_rows (mt y))[ip]? with
  | none => none
  | some (_, i, _, _, r, q, _) => match xa_kind i r q with
    | 2 => xa_if (Nat.ble (xa_cats st) 8) (some r)
    | _ => none
def xa_cl (mt : Nat → xa_M) (y ip : Nat) (st : List Value) (h : List va_E) : Option (Nat × Nat × Nat × List (Nat × Value) × List Value) := match (xa_rows (mt y))[ip]? with
  | none => none
  | some (_, i, _, nip, r, q, ts) => match xa_kind i r q with
    | 3 => xa_if (xa_cok i (xa_mL (mt r)) q ts st h) (some (r, nip, ts.getD 1 0, lv_args 0 (st.take q).reverse, st.drop q))
    | _ => none
section XV
variable {mt : Nat → xa_M} {L : Nat} {xs : Nat → Int32} {d w y ip : Nat} {lv : List (Nat × Value)} {st : List Value} {h : List va_E} {o : Outcome} {h' : List va_E} {k z : Nat}
theorem xa_1_spec {nn : xa_N} (hn : xa_1 mt L xs y ip lv st h = some nn) : ∃ pc i len nip r q ts, (xa_rows (mt y))[ip]? = some (pc, i, len, nip, r, q, ts) ∧ xa_kind i r q = 0 ∧ xa_nx L xs i nip r q ts lv st h = some nn := by
  unfold xa_1 at hn
  split at hn
  · cases hn
  · rename_i hrow
    split at hn
    · rename_i hk
      exact ⟨_, _, _, _, _, _, _, hrow, hk, hn⟩
    · cases hn
theorem xv_1 {ip' k1 z1 : Nat} {lv' : List (Nat × Value)} {st' : List Value} {h1 : List va_E} (hn : xa_1 mt L xs y ip lv st h = some (ip', lv', st', h1, k1, z1)) (he : xv mt L xs d w y ip' lv' st' h1 o h' k z) : xv mt L xs d w y ip lv st h o h' (k1 + k) (z1 + z) := by
  obtain ⟨n, he⟩ := he
  obtain ⟨pc, i, len, nip, r, q, ts, hrow, hk, hn⟩ := xa_1_spec hn
  refine ⟨n + 1, ?_⟩
  show xa_stp mt L xs (xa_ev mt L xs n) d w y ip lv st h = _
  unfold xa_stp
  simp only [hrow, hk, hn, he, xa_add]
theorem xv_s {ip' : Nat} {lv' : List (Nat × Value)} {st' : List Value} {h1 : List va_E} (hn : xa_1 mt L xs y ip lv st h = some (ip', lv', st', h1, 0, 0)) (he : xv mt L xs d w y ip' lv' st' h1 o h' k z) : xv mt L xs d w y ip lv st h o h' k z := by
  have h1 := xv_1 hn he
  rw [Nat.zero_add, Nat.zero_add] at h1
  exact h1
theorem xv_m (n : Nat) {ip' : Nat} {lv' : List (Nat × Value)} {st' : List Value} {h1 : List va_E} (hn : xa_m mt L xs y n ip lv st h = some (ip', lv', st', h1)) (he : xv mt L xs d w y ip' lv' st' h1 o h' k z) : xv mt L xs d w y ip lv st h o h' k z := by
  induction n generalizing ip lv st h with
  | zero => cases hn; exact he
  | succ n ih =>
    unfold xa_m at hn
    split at hn
    · rename_i hh
      exact xv_s hh (ih hn)
    · cases hn
theorem xv_o {ip' : Nat} {lv' : List (Nat × Value)} {st' : List Value} {h1 : List va_E} (hn : xa_o mt L xs y ip lv st h = some (ip', lv', st', h1, 0, 0)) (hd : 1 ≤ d) (hw : 30 ≤ w) (he : xv mt L xs d w y ip' lv' st' h1 o h' k z) : xv mt L xs d w y ip lv st h o h' k z := by
  obtain ⟨n, he⟩ := he
  refine ⟨n + 1, ?_⟩
  show xa_stp mt L xs (xa_ev mt L xs n) d w y ip lv st h = _
  unfold xa_o at hn
  split at hn
  · cases hn
  · rename_i hrow
    split at hn
    · rename_i hk
      unfold xa_stp
      simp only [hrow, hk, hn, he, xa_add, Nat.zero_add]
      rw [xa_ift]
      simp [hd, hw]
    · cases hn
theorem xv_r (hn : xa_r mt y ip st h = some (o, h', k, z)) : xv mt L xs d w y ip lv st h o h' k z := by
  refine ⟨1, ?_⟩
  show xa_stp mt L xs (xa_ev mt L xs 0) d w y ip lv st h = _
  unfold xa_r at hn
  split at hn
  · cases hn
  · rename_i hrow
    split at hn
    · rename_i hk
      unfold xa_stp
      simp only [hrow, hk, hn]
    · cases hn
theorem xv_t {r : Nat} (hn : xa_th mt y ip st = some r) (hd : 6 ≤ d) (hw : 100 ≤ w) : xv mt L xs d w y ip lv st h (.threw (h.length + 1)) (h ++ [.inr (r, [])]) 1 6 := by
  refine ⟨1, ?_⟩
  show xa_stp mt L xs (xa_ev mt L xs 0) d w y ip lv st h = _
  unfold xa_th at hn
  split at hn
  · cases hn
  · rename_i hrow
    split at hn
    · rename_i hk
      obtain ⟨hc, hn⟩ := xa_ifs hn
      cases hn
      unfold xa_stp
      simp only [hrow, hk]
      rw [xa_ift]
      simp only [Bool.and_eq_true]
      exact ⟨hc, Nat.ble_eq_true_of_le hd, Nat.ble_eq_true_of_le hw⟩
    · cases hn
theorem xa_cl_spec {r nip cost : Nat} {lc : List (Nat × Value)} {rest : List Value} (hc : xa_cl mt y ip st h = some (r, nip, cost, lc, rest)) : ∃ pc i len q ts, (xa_rows (mt y))[ip]? = some (pc, i, len, nip, r, q, ts) ∧ xa_kind i r q = 3 ∧ xa_cok i (xa_mL (mt r)) q ts st h = true ∧ cost = ts.getD 1 0 ∧ lc = lv_args 0 (st.take q).reverse ∧ rest = st.drop q := by
  unfold xa_cl at hc
  split at hc
  · cases hc
  · rename_i hrow
    split at hc
    · rename_i hk
      obtain ⟨h1, hc⟩ := xa_ifs hc
      cases hc
      exact ⟨_, _, _, _, _, hrow, hk, h1, rfl, rfl, rfl⟩
    · cases hc
theorem xv_c {r nip cost k1 z1 : Nat} {lc : List (Nat × Value)} {rest : List Value} {v : Option Value} {h1 : List va_E} (hc : xa_cl mt y ip st h = some (r, nip, cost, lc, rest)) (hd : 1 ≤ d) (hw : cost ≤ w) (hcal : xv mt L xs (d - 1) (w - cost) r 0 lc [] h (.returned v) h1 k1 z1) (he : xv mt L xs d w y nip lv (v.toList ++ rest) h1 o h' k z) : xv mt L xs d w y ip lv st h o h' (k1 + k) (z1 + z) := by
  obtain ⟨n1, hcal⟩ := hcal
  obtain ⟨n2, he⟩ := he
  refine ⟨n1 + n2 + 1, ?_⟩
  have e1 := xa_ev_le (n2 := n1 + n2) (by omega) hcal
  have e2 := xa_ev_le (n2 := n1 + n2) (by omega) he
  obtain ⟨pc, i, len, q, ts, hrow, hk, hcok, rfl, rfl, rfl⟩ := xa_cl_spec hc
  show xa_stp mt L xs (xa_ev mt L xs (n1 + n2)) d w y ip lv st h = _
  unfold xa_stp
  simp only [hrow, hk]
  rw [xa_ift]
  · simp only [e1, e2, xa_add]
  · simp only [Bool.and_eq_true]
    exact ⟨hcok, Nat.ble_eq_true_of_le hd, Nat.ble_eq_true_of_le hw⟩
theorem xv_c0 {r nip cost : Nat} {lc : List (Nat × Value)} {rest : List Value} {v : Option Value} {h1 : List va_E} (hc : xa_cl mt y ip st h = some (r, nip, cost, lc, rest)) (hd : 1 ≤ d) (hw : cost ≤ w) (hcal : xv mt L xs (d - 1) (w - cost) r 0 lc [] h (.returned v) h1 0 0) (he : xv mt L xs d w y nip lv (v.toList ++ rest) h1 o h' k z) : xv mt L xs d w y ip lv st h o h' k z := by
  have h1 := xv_c hc hd hw hcal he
  rw [Nat.zero_add, Nat.zero_add] at h1
  exact h1
/-- the callee throws, nobody here catches -/
theorem xv_ct {r nip cost x : Nat} {lc : List (Nat × Value)} {rest : List Value} (hc : xa_cl mt y ip st h = some (r, nip, cost, lc, rest)) (hd : 1 ≤ d) (hw : cost ≤ w) (hn : xa_hd (mt y) = []) (hcal : xv mt L xs (d - 1) (w - cost) r 0 lc [] h (.threw x) h' k z) : xv mt L xs d w y ip lv st h (.threw x) h' k z := by
  obtain ⟨n1, hcal⟩ := hcal
  refine ⟨n1 + 1, ?_⟩
  obtain ⟨pc, i, len, q, ts, hrow, hk, hcok, rfl, rfl, rfl⟩ := xa_cl_spec hc
  show xa_stp mt L xs (xa_ev mt L xs n1) d w y ip lv st h = _
  unfold xa_stp
  simp only [hrow, hk]
  rw [xa_ift]
  · simp only [hcal, hn, xa_hnd_nil]
    rfl
  · simp only [Bool.and_eq_true]
    exact ⟨hcok, Nat.ble_eq_true_of_le hd, Nat.ble_eq_true_of_le hw⟩
/-- the callee throws, and it is caught here -/
theorem xv_cc {r nip cost x ip' k1 z1 : Nat} {lc : List (Nat × Value)} {rest : List Value} {h1 : List va_E} (hc : xa_cl mt y ip st h = some (r, nip, cost, lc, rest)) (hd : 1 ≤ d) (hw : cost ≤ w) (hcal : xv mt L xs (d - 1) (w - cost) r 0 lc [] h (.threw x) h1 k1 z1) (hn : xa_hnd (xa_hd (mt y)) h1 x = some ip') (he : xv mt L xs d w y ip' lv [.ref x] h1 o h' k z) : xv mt L xs d w y ip lv st h o h' (k1 + k) (z1 + z) := by
  obtain ⟨n1, hcal⟩ := hcal
  obtain ⟨n2, he⟩ := he
  refine ⟨n1 + n2 + 1, ?_⟩
  have e1 := xa_ev_le (n2 := n1 + n2) (by omega) hcal
  have e2 := xa_ev_le (n2 := n1 + n2) (by omega) he
  obtain ⟨pc, i, len, q, ts, hrow, hk, hcok, rfl, rfl, rfl⟩ := xa_cl_spec hc
  show xa_stp mt L xs (xa_ev mt L xs (n1 + n2)) d w y ip lv st h = _
  unfold xa_stp
  simp only [hrow, hk]
  rw [xa_ift]
  · simp only [e1, hn, e2, xa_add]
  · simp only [Bool.and_eq_true]
    exact ⟨hcok, Nat.ble_eq_true_of_le hd, Nat.ble_eq_true_of_le hw⟩
/-- a branch -/
theorem xv_b {ip1 ip2 : Nat} {c : Bool} {lv' : List (Nat × Value)} {st' : List Value} {h1 : List va_E} (hn : xa_1 mt L xs y ip lv st h = some (bif c then ip1 else ip2, lv', st', h1, 0, 0)) (ht : c = true → xv mt L xs d w y ip1 lv' st' h1 o h' k z) (hf : c = false → xv mt L xs d w y ip2 lv' st' h1 o h' k z) : xv mt L xs d w y ip lv st h o h' k z := by
  cases c with
  | true => exact xv_s hn (ht rfl)
  | false => exact xv_s hn (hf rfl)
end XV
end
section
/-! 'throw new E("..")', and a search through a handler table -/
section XT
variable {p : Program} {l : Launch} {e : Env} {R : Room} {s : State} {m : MethodId} {args : Array Value} {below : List Frame} {meth : Method} {c : Code} {T : State} {locs : List Loc} {cells slots : Nat}
/-- nothing old has moved: each old cell is the same cell -/
theorem xt_old {s t : State} {cells slots : Nat} (h : s.sameButNew t [] cells slots) {q : Nat} (hq : q < s.heap.size) : t.heap[q]? = s.heap[q]? := by
  obtain ⟨c0, hc⟩ : ∃ c0, s.heap[q]? = some c0 := ⟨_, Array.getElem?_eq_getElem hq⟩
  obtain ⟨c', h1, h2, h3, h4⟩ := h.2.2.2.2.2 q c0 hc
  rw [h1, hc]
  have h5 : c'.slots = c0.slots := by
    apply Array.ext_getElem?
    intro i
    exact h4 i (by simp)
  rw [h2, h5]
/-- the start of the road, laid where the walk stands -/
def xt_s (s T : State) : State := { s with heap := T.heap, slotsUsed := T.slotsUsed }
theorem xt_same (X : Stand p l e R s m args below meth c T locs cells slots) : T.setVm s.vm = (xt_s s T).setFrames T.frames := by
  have h1 := X.same.1
  exact h1
theorem xt_stand (X : Stand p l e R s m args below meth c T locs cells slots) (hc : cells ≤ R.cells) (hz : slots ≤ R.slots) : Stand p l e { frames := R.frames, cells := R.cells - cells, slots := R.slots - slots, locals := R.locals } (xt_s s T) m args below meth c T [] 0 0 := by
  have hf : (xt_s s T).frames = .invoking m args :: below := X.frames
  obtain ⟨t, ht, -⟩ := State.frames_cons hf
  refine ⟨X.admits, X.cas, X.clock, hf, ?_, X.hears, X.method, X.code, X.here, X.tail, X.warmed, X.limits, X.bytes, ?_⟩
  · have h1 := X.room
    have h2 := X.heapSize
    have h3 := X.used
    have h4 := X.book
    unfold State.hasRoom at h1 ⊢
    simp only [Bool.and_eq_true, decide_eq_true_eq] at h1 ⊢
    obtain ⟨⟨⟨⟨a1, a2⟩, a3⟩, a4⟩, -⟩ := h1
    refine ⟨⟨⟨⟨a1, a2⟩, ?_⟩, ?_⟩, h4⟩
    · show T.heap.size + (R.cells - cells) ≤ _
      omega
    · show T.slotsUsed + (R.slots - slots) ≤ _
      omega
  · have h := (State.sameButNew.refl (xt_s s T) ht).setFrames T.frames (State.cur_lt_of_frames hf)
    show (xt_s s T).sameButNew (T.setVm s.vm) [] 0 0
    rw [xt_same X]
    exact h
theorem xt_join (X : Stand p l e R s m args below meth c T locs cells slots) {U : State} {k n : Nat} (h : (xt_s s T).sameButNew ({ U with vm := s.vm } : State) [] k n) : s.sameButNew ({ U with vm := s.vm } : State) locs (cells + k) (slots + n) := by
  have h1 : (T.setVm s.vm).sameButNew ({ U with vm := s.vm } : State) [] k n := by
    obtain ⟨a1, a2⟩ := h
    refine ⟨?_, a2⟩
    rw [xt_same X, State.setFrames_setFrames]
    exact a1
  have h2 := X.same.trans h1
  rw [List.append_nil] at h2
  exact h2
theorem xt_ldcwS (X : Stand p l e R s m args below meth c T locs cells slots) (hexec : p.tables.exec = Jvm.exec) {own text : String} {index : Nat} {a : Addr} (hown : s.vm.findClass own = some m.cls)
    (hconst : (Jvm.Cond.stringRef own index text).before args s = true) (hev : (Term.string own index).eval args s none [] s = some (.ref a)) {g : JFrame} (hg : g.method = m) (hdg : decode c.code g.pc = .ok (.ldc_w index, 3)) :
    ∀ target, Steps p.tables e below (T.setTop { g with pc := g.pc + 3, stack := .ref a :: g.stack }) target → Steps p.tables e below (T.setTop g) target := by
  obtain ⟨k, cf, i, a', hk, hcf, hcp, -, hr, hev'⟩ := Cond.stringRef_spec hown hconst
  cases hev.symm.trans hev'
  obtain ⟨k', hk', he⟩ := X.warmed.alike.2.2 _ _ hk
  have hr' : k'.resolved[index]? = some (some (.string a)) := by
    rcases X.warmed.entry hk hk' index with h | ⟨h, -⟩
    · rw [h]; exact hr
    · rw [hr] at h; cases h
  intro target hrest
  subst hg
  jvm_step X.here [hexec, hdg, ldc_w.wp_string (e := e) (s := T) (f := g) X.here.top hk' (by rw [he]; exact hcf) hcp hr']
  exact hrest
set_option maxHeartbeats 2000000 in
/-- the five instructions of 'throw new E("..")' where no handler covers them -/
theorem xt_throw (X : Stand p l e R s m args below meth c T locs cells slots) (hexec : p.tables.exec = Jvm.exec) (htr : e.platform.stackTraces = false) {own E text : String} {names : List String} {ci sx ic w : Nat}
    (hown : s.vm.findClass own = some m.cls) (hE : Bundle.fit E = true) (hnames : ∀ n ∈ names, Bundle.fit n = true)
    (h : ∀ a ∈ Bundle.ownAtoms own ic E names, a.before args (xt_s s T) = true) (hcl : (Jvm.Cond.classLink own ci E).before args s = true) (hini : (Jvm.Cond.initialized E).before args s = true) (hins : (Jvm.Cond.instantiable E 6).before args s = true) (hstr : (Jvm.Cond.stringRef own sx text).before args s = true)
    {pc : Nat} {ls : Array Slot} {st : List Value} (hsize : ls.size = c.maxLocals) (d0 : decode c.code pc = .ok (.new ci, 3)) (d3 : decode c.code (pc + 3) = .ok (.dup, 1)) (d4 : decode c.code (pc + 4) = .ok (.ldc sx, 2) ∧ w = 2 ∨ decode c.code (pc + 4) = .ok (.ldc_w sx, 3) ∧ w = 3)
    (d6 : decode c.code (pc + 4 + w) = .ok (.invokespecial ic, 3)) (d9 : decode c.code (pc + 4 + w + 3) = .ok (.athrow, 1)) (hout : ∀ x ∈ c.exceptionTable.toList, covers x (pc + 4 + w + 3) = false)
    (hfr : names.length + 3 < R.frames) (hlo : (st.map fun v => v.category).sum + 1 + (13 * (names.length + 1) + 42) ≤ R.locals) (hc : cells + 1 ≤ R.cells) (hz : slots + 6 ≤ R.slots) (hlocks : meth.locks = false) :
    ∃ U : State, Steps p.tables e below (T.setTop (F0 m pc ls st)) U ∧ U.status = .running ∧ Ended U below (.threw T.heap.size) ∧ s.WarmedH U.vm ∧ s.sameButNew ({ U with vm := s.vm } : State) locs (cells + 1) (slots + 6) ∧
      (∀ q, q < T.heap.size → U.heap[q]? = T.heap[q]?) ∧ ∃ ce, U.heap[T.heap.size]? = some ce ∧ s.vm.findClass E = some ce.cls ∧ ce.vm = .none := by
  have X0 := xt_stand X (by omega) (by omega)
  have hown0 : (xt_s s T).vm.findClass own = some m.cls := hown
  obtain ⟨vm₁, cX, kX, hfX, hkX, -, -, X₁, st1⟩ := X0.newCold hexec (own := own) (C := E) (index := ci) (n := 6) hown0 hcl hins hini (g := F0 m pc ls st) rfl d0 (by show 0 + 1 ≤ R.cells - cells; omega) (by show 0 + 6 ≤ R.slots - slots; omega)
  generalize hT : (T.setVm vm₁).pushCell { cls := cX, slots := kX.instanceTypes.map defaultValue, vm := .none } = T1 at X₁ st1
  have hcellA : T1.heap[T.heap.size]? = some (freshCell cX kX) := by rw [← hT]; exact State.heap_pushCell_size _ _
  have hstr0 : (Jvm.Cond.stringRef own sx text).before args (xt_s s T) = true := hstr
  obtain ⟨-, -, -, sa, -, -, -, -, -, hev⟩ := Cond.stringRef_spec hown0 hstr0
  obtain ⟨U, hsteps, hrun, hend, hW, hsame, ce, hce, K⟩ := X₁.ctorThrowS hexec htr (own := own) (cls := E) (names := names) (ic := ic) hown0 hE hnames h (fun y hy => by cases hy) hfX hkX hcellA (by exact Nat.le_refl _) (msg := .ref sa) rfl
    (g := F0 m (pc + 4 + w) ls (.ref sa :: .ref T.heap.size :: .ref T.heap.size :: st)) rfl hsize rfl rfl (rest := st) rfl d6 d9 hout hfr (by rw [List.map_cons, List.sum_cons]; show 2 * 0 + (1 + _) + _ ≤ R.locals; omega) hlocks
  refine ⟨U, ?_, hrun, hend, hW, xt_join X hsame, fun q hq => xt_old hsame hq, ce, hce, K.cls, K.vm⟩
  refine st1 _ ?_
  show Steps p.tables e below (T1.setTop (F0 m (pc + 3) ls (.ref T.heap.size :: st))) _
  jvm_step X₁.here [X₁.here.top, hexec, d3, Value.category]
  rcases d4 with ⟨d4, rfl⟩ | ⟨d4, rfl⟩
  · exact X₁.ldcString hexec (own := own) (text := text) (index := sx) (a := sa) hown0 hstr0 hev (g := F0 m (pc + 4) ls (.ref T.heap.size :: .ref T.heap.size :: st)) rfl d4 _ hsteps
  · exact xt_ldcwS X₁ hexec (own := own) (text := text) (index := sx) (a := sa) hown0 hstr0 hev (g := F0 m (pc + 4) ls (.ref T.heap.size :: .ref T.heap.size :: st)) rfl d4 _ hsteps
end XT
/-! the search -/
def xt_Fd (e : Env) (s : State) (f : JFrame) (a : Addr) (h : Handler) (vm' : Vm) : Prop :=
  ∀ (Q : Handler → Jvm.Pre) (E : Jvm.CtlPost) (d : Bool) (acts : List Action), Jvm.Sem.wp (findHandler f a) Q E e d acts s ↔ Q h d acts (s.setVm vm')
section XG
variable {Q : Handler → Jvm.Pre} {E : Jvm.CtlPost} {e : Env} {d : Bool} {acts : List Action} {s : State} {f : JFrame} {a : Addr}
/-- one row of the table that covers the pc: its class is resolved, then asked -/
theorem xt_row {x : ExceptionTableEntry} {t : List ExceptionTableEntry} {c : ClassId} {cell : Cell} (hx : covers x f.pc = true) (h0 : x.catchType ≠ 0)
    (hl : s.vm.ClassLinks e.platform f.method.cls x.catchType c) (hcell : s.heap[a]? = some cell) (hobj : ∀ k, cell.vm ≠ .statics k)
    (hk : ∃ k, s.vm.classes[cell.cls]? = some k) (hc : ∃ k, s.vm.classes[c]? = some k) :
    Jvm.Sem.wp (findHandler.go f a (x :: t)) Q E e d acts s ↔ (if s.vm.assignable cell.cls c = true then Q (.found x.handlerPc) d acts (s.setVm (s.vm.noted f.method.cls x.catchType (.cls c))) else Jvm.Sem.wp (findHandler.go f a t) Q E e d acts (s.setVm (s.vm.noted f.method.cls x.catchType (.cls c)))) := by
  simp only [covers] at hx
  obtain ⟨ha, ht⟩ := (resolveClass_links e.toSetting hl).op (op := VmOp.resolveClass f.method.cls x.catchType) rfl
  have hal : s.vm.Alike (s.vm.noted f.method.cls x.catchType (.cls c)) := (Vm.Alike.refl s.vm).noted _ _ _
  obtain ⟨k1, hk1⟩ := hk
  obtain ⟨k2, hk2⟩ := hc
  obtain ⟨k1', hk1', -⟩ := hal.2.2 _ _ hk1
  obtain ⟨k2', hk2', -⟩ := hal.2.2 _ _ hk2
  have hfit : (s.vm.noted f.method.cls x.catchType (.cls c)).assignable cell.cls c = s.vm.assignable cell.cls c := hal.assignable ..
  cases hb : s.vm.assignable cell.cls c with
  | true =>
    rw [hb] at hfit
    simp [findHandler.go, hx, h0, ha, ht, hcell, hobj, hk1', hk2', hfit, VmOp.dirties, VmOp.acts]
  | false =>
    rw [hb] at hfit
    simp [findHandler.go, hx, h0, ha, ht, hcell, hobj, hk1', hk2', hfit, VmOp.dirties, VmOp.acts]
def xt_res (zs : List (ExceptionTableEntry × Bool)) : Handler := match zs.find? (fun z => z.2) with
  | some z => .found z.1.handlerPc
  | none => .none
theorem xt_go {s₀ : State} {cell : Cell} (hobj : ∀ k, cell.vm ≠ .statics k) (hk0 : ∃ k, s₀.vm.classes[cell.cls]? = some k) :
    ∀ (zs : List (ExceptionTableEntry × Bool)) (S : State), s₀.WarmedH S.vm → S.heap[a]? = some cell → (∀ z ∈ zs, covers z.1 f.pc = true ∧ z.1.catchType ≠ 0 ∧ ∃ c, s₀.vm.ClassLinks e.platform f.method.cls z.1.catchType c ∧ s₀.vm.assignable cell.cls c = z.2) →
      ∃ vm', s₀.WarmedH vm' ∧ ∀ (Q : Handler → Jvm.Pre) (E : Jvm.CtlPost) (d : Bool) (acts : List Action), Jvm.Sem.wp (findHandler.go f a (zs.map fun z => z.1)) Q E e d acts S ↔ Q (xt_res zs) d acts (S.setVm vm') := by
  obtain ⟨k0, hk0⟩ := hk0
  intro zs
  induction zs with
  | nil =>
    intro S hW _ _
    exact ⟨S.vm, hW, fun Q E d acts => by rw [List.map_nil, W.findHandler_go_nil, State.setVm_self]; rfl⟩
  | cons y ys ih =>
    intro S hW hcell hes
    obtain ⟨hcov, h0, c, hl, has⟩ := hes y List.mem_cons_self
    obtain ⟨k0', hk0', -⟩ := hW.alike.2.2 _ _ hk0
    obtain ⟨dk, _, _, kt, hd, _, _, _, _, hkt, _, hopen⟩ := hl.here
    obtain ⟨kt', hkt', -⟩ := hW.alike.2.2 _ _ hkt
    have hW1 := hW.noted hd hopen (State.rightAt_cls hl)
    have hrow := fun Q E d acts => xt_row (Q := Q) (E := E) (e := e) (d := d) (acts := acts) (s := S) (f := f) (a := a) (x := y.1) (t := ys.map fun z => z.1) hcov h0 (hW.classLinks hl) hcell hobj ⟨k0', hk0'⟩ ⟨kt', hkt'⟩
    have has' : S.vm.assignable cell.cls c = y.2 := by rw [hW.alike.assignable]; exact has
    cases ht : y.2 with
    | true =>
      refine ⟨_, hW1, fun Q E d acts => ?_⟩
      rw [List.map_cons, hrow, has', ht, if_pos rfl]
      simp [xt_res, List.find?_cons, ht]
    | false =>
      obtain ⟨vm', hW', hq⟩ := ih (S.setVm (S.vm.noted f.method.cls y.1.catchType (.cls c))) hW1 hcell (fun z hz => hes z (List.mem_cons_of_mem _ hz))
      refine ⟨vm', hW', fun Q E d acts => ?_⟩
      rw [List.map_cons, hrow, has', ht, if_neg (by decide), hq, State.setVm_twice]
      simp [xt_res, List.find?_cons, ht]
theorem xt_step {r : List Frame} {pc : Nat} {vm' : Vm} (hfind : xt_Fd e s f a (.found pc) vm') :
    (stepThrowing e s a (.java f :: r)).Is ((s.setVm vm').setFrames (.java { f with pc := pc, stack := [.ref a] } :: r)) [] := by
  simp only [stepThrowing, searchFrame, vmDo]
  generalize hr : Sem.go _ e false [] s = res
  obtain ⟨as, rfl, ha⟩ := Sem.eq_ok_of hr (a := Handler.found pc) (s' := s.setVm vm') (acts' := []) (by simp [hfind _ _ _ _])
  exact ⟨rfl, ha⟩
end XG
section XH
variable {p : Program} {l : Launch} {e : Env} {R : Room} {s : State} {m : MethodId} {args : Array Value} {below : List Frame} {meth : Method} {c : Code} {T : State} {locs : List Loc} {cells slots : Nat}
/-- the note lies over the frame g: the search takes the first row that fits, the walk goes on there -/
theorem xt_caught (X : Stand p l e R s m args below meth c T locs cells slots) {a : Addr} {g : JFrame} (hg : g.method = m) {cell : Cell} (hcell : T.heap[a]? = some cell) (hobj : cell.vm.isStatics = false) (hk0 : ∃ k, s.vm.classes[cell.cls]? = some k)
    {zs : List (ExceptionTableEntry × Bool)} (htab : c.exceptionTable.toList = zs.map fun z => z.1) (hes : ∀ z ∈ zs, covers z.1 g.pc = true ∧ z.1.catchType ≠ 0 ∧ ∃ cc, s.vm.ClassLinks e.platform m.cls z.1.catchType cc ∧ s.vm.assignable cell.cls cc = z.2) {x : ExceptionTableEntry × Bool} (hx : zs.find? (fun z => z.2) = some x) :
    ∃ vm', Stand p l e R s m args below meth c (T.setVm vm') locs cells slots ∧ ∀ target, Steps p.tables e below ((T.setVm vm').setTop { g with pc := x.1.handlerPc, stack := [.ref a] }) target → Steps p.tables e below ((T.setTop g).pushFrame (.throwing a)) target := by
  subst hg
  obtain ⟨vm', hW', hq⟩ := xt_go (e := e) (f := g) (a := a) (s₀ := s) (VmData.ne_statics_of hobj) hk0 zs ((T.setTop g).pushFrame (.throwing a)) X.warmed hcell hes
  have hf : xt_Fd e ((T.setTop g).pushFrame (.throwing a)) g a (.found x.1.handlerPc) vm' := by
    intro Q E d acts
    rw [W.findHandler_eq (s := (T.setTop g).pushFrame (.throwing a)) (meth := meth) (code := c) X.method' X.code, htab, hq]
    rw [xt_res, hx]
  refine ⟨vm', X.noted hW', fun target hrest => ?_⟩
  have h : At T g.method c below := X.here
  obtain ⟨hgo, hw⟩ := h.throwing a
  refine Steps.head hgo hw ?_
  rw [stepThread_throwing (frames_entered h.top _), (xt_step (s := (T.setTop g).pushFrame (.throwing a)) hf).1]
  obtain ⟨g₀, hg⟩ := Option.isSome_iff_exists.mp h.top
  obtain ⟨r, hr⟩ := State.topJava?_eq_some.mp hg
  have hr' : (T.setVm vm').frames = .java g₀ :: r := hr
  rw [State.setTop_of_frames _ hr'] at hrest
  have key : ∀ (u : State) (F G : List Frame), ((u.setFrames F).setVm vm').setFrames G = (u.setVm vm').setFrames G := fun u F G => by
    have h1 : (u.setFrames F).setVm vm' = (u.setVm vm').setFrames F := rfl
    rw [h1, State.setFrames_setFrames]
  rw [hr, List.tail_cons, State.pushFrame, key, State.setTop_of_frames _ hr, key]
  exact hrest
end XH
end
section
/-! THE INVOKING INSTRUCTIONS' OWN STEPS -/
section XI
variable {p : Program} {l : Launch} {e : Env} {R : Room} {s : State} {m : MethodId} {args : Array Value} {below : List Frame} {meth : Method} {c : Code} {T : State} {locs : List Loc} {cells slots : Nat}
def xc_lk (own : String) (idx : Nat) (y : MethodName) (args : Array Value) (s : State) : Prop := (Jvm.Cond.methodLink own idx y).before args s = true ∨ ∃ host, (Jvm.Cond.methodLinkNest own idx y host).before args s = true
/-- where the machine goes: into the callee y, the arguments vs off the stack -/
def xc_In (p : Program) (l : Launch) (e : Env) (R : Room) (s : State) (m : MethodId) (args : Array Value) (below : List Frame) (meth : Method) (c : Code) (T : State) (locs : List Loc) (cells slots : Nat) (y : MethodName) (g : JFrame) (rest : List Value) (vs : List Value) : Prop :=
  ∃ (mk : MethodId) (vm₁ : Vm), s.methodNamed? y = some mk ∧ Stand p l e R s m args below meth c (T.setVm vm₁) locs cells slots ∧ ∀ target, Steps p.tables e below (doInvoke e ((T.setVm vm₁).setTop { g with stack := rest }) [] mk vs.toArray).1 target → Steps p.tables e below (T.setTop g) target
theorem xc_V (X : Stand p l e R s m args below meth c T locs cells slots) (hexec : p.tables.exec = Jvm.exec) {own C : String} {index : Nat} {y : MethodName}
    (hown : s.vm.findClass own = some m.cls) (hlink : xc_lk own index y args s) (hinst : (Jvm.Cond.instanceMethod y).before args s = true) (hsel : (Jvm.Cond.selects C y y).before args s = true)
    (hy : y.cls ≠ "java/lang/invoke/MethodHandle" ∧ y.cls ≠ "java/lang/invoke/VarHandle")
    {b : Addr} {cellB : Cell} (hcell : T.heap[b]? = some cellB) (hobj : cellB.vm.isStatics = false) (hcls : s.vm.findClass C = some cellB.cls)
    {cc : ByteArray} {maxL : Nat} {ret : Option FieldType} {hh : List (Nat × Nat × Nat × Nat)} (hcode : (xb_cw y cc maxL ret hh).before args s = true)
    {g : JFrame} (hg : g.method = m) {argsL rest : List Value} (hlen : ∀ sig, parseMethodDescriptor y.desc = some sig → argsL.length = sig.parameters.length)
    (hstack : g.stack = argsL.reverse ++ .ref b :: rest) (hdg : decode c.code g.pc = .ok (.invokevirtual index, 3)) :
    xc_In p l e R s m args below meth c T locs cells slots y g rest (.ref b :: argsL) := by
  obtain ⟨mk, methM, hnamed, hmethM, hstM, habM⟩ := Cond.instanceMethod_spec hinst
  obtain ⟨methM', cM, hmethM', -, -, -, -, -, -, hsigM⟩ := xb_cw_spec hnamed hcode
  cases hmethM.symm.trans hmethM'
  obtain ⟨c2, r2, m2, q1, q2, q3, q4, kP, hkP, hkPi⟩ := Cond.selects_spec hsel
  cases hcls.symm.trans q1
  cases (State.methodFound?_of_named hnamed hy).symm.trans q2
  cases hnamed.symm.trans q3
  have hselP : selectMethod e.platform s.vm cellB.cls mk = .method mk := by rw [Launch.admits_selectMethod X.admits]; exact q4
  rcases hlink with hlink | ⟨host, hlink⟩
  · obtain ⟨vm₁, X₁, hstep₁⟩ := X.invokevirtual hexec hown hlink hnamed hmethM hstM hkP hkPi hy (a := b) (cell := cellB) hcell
      (fun z h => by rw [h] at hobj; cases hobj) hselP hmethM habM hkP hkPi (g := g) hg (argsL := argsL) (rest := rest) (hlen _ hsigM) hstack hdg
    exact ⟨mk, vm₁, hnamed, X₁, fun target h => hstep₁ _ fun acts => by rw [doInvoke_state]; exact h⟩
  · obtain ⟨vm₁, X₁, hstep₁⟩ := X.invokevirtualNest hexec hown hlink hnamed hmethM hstM hkP hkPi hy (a := b) (cell := cellB) hcell
      (fun z h => by rw [h] at hobj; cases hobj) hselP hmethM habM hkP hkPi (g := g) hg (argsL := argsL) (rest := rest) (hlen _ hsigM) hstack hdg
    exact ⟨mk, vm₁, hnamed, X₁, fun target h => hstep₁ _ fun acts => by rw [doInvoke_state]; exact h⟩
theorem xc_S (X : Stand p l e R s m args below meth c T locs cells slots) (hexec : p.tables.exec = Jvm.exec) {own : String} {index : Nat} {y : MethodName}
    (hown : s.vm.findClass own = some m.cls) (hlink : xc_lk own index y args s) (hstat : (Jvm.Cond.static y).before args s = true) (hinit : (Jvm.Cond.initialized y.cls).before args s = true)
    (hy : y.cls ≠ "java/lang/invoke/MethodHandle" ∧ y.cls ≠ "java/lang/invoke/VarHandle")
    {cc : ByteArray} {maxL : Nat} {ret : Option FieldType} {hh : List (Nat × Nat × Nat × Nat)} (hcode : (xb_cw y cc maxL ret hh).before args s = true) {mk : MethodId} (hnamed : s.methodNamed? y = some mk)
    {g : JFrame} (hg : g.method = m) {argsL rest : List Value} (hlen : ∀ sig, parseMethodDescriptor y.desc = some sig → argsL.length = sig.parameters.length)
    (hstack : g.stack = argsL.reverse ++ rest) (hdg : decode c.code g.pc = .ok (.invokestatic index, 3)) :
    xc_In p l e R s m args below meth c T locs cells slots y g rest argsL := by
  obtain ⟨methM, cM, hmethM, -, -, -, -, -, -, hsigM⟩ := xb_cw_spec hnamed hcode
  have hstatic : methM.isStatic = true := Cond.static_spec hnamed hmethM hstat
  obtain ⟨kP, hkP, -⟩ := className_of_methodNamed hnamed
  have hinitP : kP.init = .initialized := Cond.initialized_spec (findClass_of_methodNamed hnamed) hkP hinit
  rcases hlink with hlink | ⟨host, hlink⟩
  · obtain ⟨vm₁, X₁, hstep₁⟩ := X.invokestatic hexec hown hlink hnamed hmethM hstatic hkP hinitP hy (g := g) hg (argsL := argsL) (rest := rest) (hlen _ hsigM) hstack hdg
    exact ⟨mk, vm₁, hnamed, X₁, fun target h => hstep₁ _ fun acts => by rw [doInvoke_state]; exact h⟩
  · obtain ⟨vm₁, X₁, hstep₁⟩ := X.invokestaticNest hexec hown hlink hnamed hmethM hstatic hkP hinitP hy (g := g) hg (argsL := argsL) (rest := rest) (hlen _ hsigM) hstack hdg
    exact ⟨mk, vm₁, hnamed, X₁, fun target h => hstep₁ _ fun acts => by rw [doInvoke_state]; exact h⟩
theorem xc_I (X : Stand p l e R s m args below meth c T locs cells slots) (hexec : p.tables.exec = Jvm.exec) {own : String} {index : Nat} {y : MethodName}
    (hown : s.vm.findClass own = some m.cls) (hy1 : y.name = "<init>") (hlink : xc_lk own index y args s) (hinst : (Jvm.Cond.instanceMethod y).before args s = true)
    (hy : y.cls ≠ "java/lang/invoke/MethodHandle" ∧ y.cls ≠ "java/lang/invoke/VarHandle")
    {cc : ByteArray} {maxL : Nat} (hcode : (Jvm.Cond.code y cc maxL none).before args s = true)
    {g : JFrame} (hg : g.method = m) {a : Addr} {argsL rest : List Value} (hlen : ∀ sig, parseMethodDescriptor y.desc = some sig → argsL.length = sig.parameters.length)
    (hstack : g.stack = argsL.reverse ++ .ref a :: rest) (hdg : decode c.code g.pc = .ok (.invokespecial index, 3)) :
    xc_In p l e R s m args below meth c T locs cells slots y g rest (.ref a :: argsL) := by
  subst hg
  have hpl : e.platform.magicAccessors = ({} : Platform).magicAccessors := by rw [X.admits.platform]
  rcases hlink with hlink | ⟨host, hlink⟩
  · obtain ⟨mk, methM, cM, kP, vm₁, hnamed, hmethM, hcodeM, -, hlocalsM, -, hkP, -, hW₁, hstep₁⟩ := Steps.initColdArgs (e := e) X.here hexec X.warmed hpl hown hy1 hy hlink hinst hcode (f := g) rfl hlen hstack hdg
    exact ⟨mk, vm₁, hnamed, X.noted hW₁, fun target h => hstep₁ _ fun acts => by rw [doInvoke_state]; exact h⟩
  · obtain ⟨mk, methM, cM, kP, vm₁, hnamed, hmethM, hcodeM, -, hlocalsM, -, hkP, -, hW₁, hstep₁⟩ := Steps.initColdArgsNest (e := e) X.here hexec X.warmed hpl hown hy1 hy hlink hinst hcode (f := g) rfl hlen hstack hdg
    exact ⟨mk, vm₁, hnamed, X.noted hW₁, fun target h => hstep₁ _ fun acts => by rw [doInvoke_state]; exact h⟩
end XI
end
section
/-! THE RUN OF THE REAL MACHINE OUT OF THE RUN OF THE PURE ONE -/
theorem xd_mono {p : Program} {l : Launch} {e : Env} {R : Room} {s : State} {m : MethodId} {args : Array Value} {below : List Frame} {meth : Method} {c : Code} {H : Heap} {locs : List Loc} {cells slots : Nat} {Q Q' : State → Prop} {g : JFrame} (h : ∀ t, Q t → Q' t) (k : W p l e R s m args below meth c H locs cells slots Q g) : W p l e R s m args below meth c H locs cells slots Q' g := by
  intro T hT X
  obtain ⟨t, a, b⟩ := k T hT X
  exact ⟨t, a, h t b⟩
theorem xd_MQ {below : List Frame} {Qc : Array Value → State → Outcome → State → Prop} {a : Array Value} {s : State} {mc ms : Nat} {free : Addr → Prop} (t : State) (h : MQ below Qc a s mc ms free t) : xb_MQ below Qc a s mc ms free t := by
  obtain ⟨o, h1, h2, h3, L, h4, h5⟩ := h
  exact ⟨o, h1, h2, h3, L, h4.2, h5⟩
def xe_names : List String := ["java/lang/RuntimeException", "java/lang/Exception"]
def xa_ckR (M : xa_M) (pc : Nat) (i : Jvm.ClassFile.Instr) (len : Nat) : Bool := decide (decode (xa_by M) pc = .ok (i, len)) && decide (len = 1)
def xa_ckT (cl : List vw_C) (Ts Th : List Jvm.Cond) (M : xa_M) (pc : Nat) (i : Jvm.ClassFile.Instr) (r : Nat) (ts : List Nat) : Bool := match i, ts, cl[r]? with
  | .new ci, [sx, ic, w], some (E, _, 0) => decide (decode (xa_by M) pc = .ok (.new ci, 3)) && ((xa_hz M).isEmpty && (decide (decode (xa_by M) (pc + 3) = .ok (.dup, 1)) && ((decide (decode (xa_by M) (pc + 4) = .ok (.ldc sx, 2)) && decide (w = 2) || decide (decode (xa_by M) (pc + 4) = .ok (.ldc_w sx, 3)) && decide (w = 3)) &&
    (decide (decode (xa_by M) (pc + 4 + w) = .ok (.invokespecial ic, 3)) && (decide (decode (xa_by M) (pc + 4 + w + 3) = .ok (.athrow, 1)) && (decide (Jvm.Cond.classLink (xa_nm M).cls ci E ∈ Ts) && (decide (Jvm.Cond.initialized E ∈ Ts) && (decide (Jvm.Cond.instantiable E 6 ∈ Ts) &&
    (Ts.any (fun q => match q with
      | .stringRef o x _ => decide (o = (xa_nm M).cls) && decide (x = sx)
      | _ => false) && (Bundle.fit E && (Bundle.ownAtoms (xa_nm M).cls ic E xe_names).all (fun q => decide (q ∈ Ts) || decide (q ∈ Th))))))))))))
  | _, _, _ => false
def xa_lk (Ts : List Jvm.Cond) (own : String) (x : Nat) (y : MethodName) : Bool := decide (Jvm.Cond.methodLink own x y ∈ Ts) || Ts.any (fun q => match q with
  | .methodLinkNest o i z _ => decide (o = own) && (decide (i = x) && decide (z = y))
  | _ => false)
def xa_cwM (M : xa_M) : Jvm.Cond := xb_cw (xa_nm M) (xa_by M) (xa_mL M) (xa_rt M) (xa_hh M)
def xa_ckH (cl : List vw_C) (Ts : List Jvm.Cond) (M : xa_M) (pc : Nat) : Bool := (xa_hz M).all fun z => decide (z.1.1 ≤ pc) && (decide (pc < z.1.2.1) && (!decide (z.1.2.2.2 = 0) && (decide (xa_pc M z.2.2 = z.1.2.2.1) && match cl[z.2.1]? with
  | some (E, _, _) => decide (Jvm.Cond.classLink (xa_nm M).cls z.1.2.2.2 E ∈ Ts) && (xa_hz M).all (fun u => Nat.beq u.2.1 z.2.1 || match cl[u.2.1]? with
    | some (E2, _, _) => decide (Jvm.Cond.not (.castable E2 E) ∈ Ts)
    | none => false)
  | none => false)))
def xa_ckK (cl : List vw_C) (Ts : List Jvm.Cond) (mt : Nat → xa_M) (NY : Nat) (M : xa_M) (pc : Nat) (i : Jvm.ClassFile.Instr) (len nip r q : Nat) (ts : List Nat) : Bool :=
  decide (decode (xa_by M) pc = .ok (i, len)) && (decide (len = 3) && (decide (xa_pc M nip = pc + 3) && (decide (r < NY) && (decide (xa_mL (mt r) ≤ 40) && (decide ((xa_nm (mt r)).cls ≠ "java/lang/invoke/MethodHandle") && (decide ((xa_nm (mt r)).cls ≠ "java/lang/invoke/VarHandle") && (decide (Jvm.Cond.initialized (xa_nm (mt r)).cls ∈ Ts) && (decide (xa_cwM (mt r) ∈ Ts) && (xa_ckH cl Ts M pc && match i with
  | .invokevirtual x => xa_lk Ts (xa_nm M).cls x (xa_nm (mt r)) && (decide (Jvm.Cond.instanceMethod (xa_nm (mt r)) ∈ Ts) && (decide (Jvm.Cond.selects (xa_nm (mt r)).cls (xa_nm (mt r)) (xa_nm (mt r)) ∈ Ts) && (decide (1 ≤ q) && (decide ((parseMethodDescriptor (xa_nm (mt r)).desc).map (fun d => d.parameters.length) = some (q - 1)) && decide ((cl[ts.headD 999]?).map (fun w => w.1) = some (xa_nm (mt r)).cls)))))
  | .invokestatic x => xa_lk Ts (xa_nm M).cls x (xa_nm (mt r)) && (decide (Jvm.Cond.static (xa_nm (mt r)) ∈ Ts) && decide ((parseMethodDescriptor (xa_nm (mt r)).desc).map (fun d => d.parameters.length) = some q))
  | .invokespecial x => xa_lk Ts (xa_nm M).cls x (xa_nm (mt r)) && (decide (Jvm.Cond.instanceMethod (xa_nm (mt r)) ∈ Ts) && (decide ((xa_nm (mt r)).name = "<init>") && (decide (1 ≤ q) && (decide ((parseMethodDescriptor (xa_nm (mt r)).desc).map (fun d => d.parameters.length) = some (q - 1)) && ((xa_hz (mt r)).isEmpty && decide (xa_rt (mt r) = none))))))
  | _ => false)))))))))
def xa_ckW (cl : List vw_C) (Ts Th : List Jvm.Cond) (mt : Nat → xa_M) (NY : Nat) (M : xa_M) (w : xa_R) : Bool := match w with
  | (pc, i, len, nip, r, q, ts) => match xa_kind i r q with
    | 0 => xa_ck cl Ts M pc i len nip r q ts
    | 1 => xa_ckR M pc i len
    | 2 => xa_ckT cl Ts Th M pc i r ts
    | 4 => xa_ck cl Ts M pc i len nip r q ts
    | _ => xa_ckK cl Ts mt NY M pc i len nip r q ts
def xa_ckM (cl : List vw_C) (Ts Th : List Jvm.Cond) (mt : Nat → xa_M) (NY : Nat) (M : xa_M) : Bool := decide (xa_pc M 0 = 0) && (plainName (xa_nm M).cls && (xa_rows M).all (xa_ckW cl Ts Th mt NY M))
/-- what is given, once, of the run's start -/
def xa_G (l : Launch) (D : va_G) (cl : List vw_C) (Ts Th : List Jvm.Cond) (cs : ClassId × ClassId × ClassId) (b base L : Nat) (xs : Nat → Int32) (s0 : State) (mt : Nat → xa_M) (NY : Nat) : Prop :=
  xa_ckC cl Ts = true ∧ (∀ y, y < NY → xa_ckM cl Ts Th mt NY (mt y) = true) ∧ (∀ w ∈ Ts, ∀ (U : State) (a : Array Value), s0.WarmedH U.vm → w.before a U = true) ∧ (∀ w ∈ Th, ∀ (U : State) (a : Array Value), xa_Rl s0 base U → w.before a U = true) ∧ va_K D cl (xa_tys cs) s0 ∧ va_X b L xs s0 s0.heap ∧ b < base ∧ (∀ e : Env, l.admits e → e.platform.stackTraces = false)
section XZ
variable {l : Launch} {D : va_G} {cl : List vw_C} {Ts Th : List Jvm.Cond} {cs : ClassId × ClassId × ClassId} {b base L : Nat} {xs : Nat → Int32} {s0 : State} {mt : Nat → xa_M} {NY : Nat}
variable {p : Program} {e : Env} {R : Room} {s : State} {m : MethodId} {args : Array Value} {below : List Frame} {meth : Method} {c : Code} {H : Heap} {locs : List Loc} {cells slots : Nat}
theorem xd_Fr (G : xa_G l D cl Ts Th cs b base L xs s0 mt NY) {M : xa_M} (hR : xa_Rl s0 base s) (hx : p.tables.exec = Jvm.exec) (hb : c.code = xa_by M) (hml : c.maxLocals = xa_mL M) (hown : s.vm.findClass (xa_nm M).cls = some m.cls) (hlk : meth.locks = false) (hrt : meth.sig.returnType = xa_rt M) (hnm : meth.name = (xa_nm M).name) (hxt : c.exceptionTable.toList = tableOf (xa_hh M)) : xa_Fr D cl Ts cs b base L xs M p s m args meth c := by
  obtain ⟨-, -, g3, -, g5, g6, g7, -⟩ := G
  refine ⟨hx, hb, hml, hown, fun w hw => g3 w hw s args hR.1, va_K.moved hR.1.alike g5, ?_, g7, hR.2.1, hlk, hrt, hnm, hxt⟩
  exact va_X.moved hR.1.alike (va_X.kept g6 (hR.2.2 b g7))
theorem xd_S {H1 : Heap} {L1 : List Loc} (hR : xa_Rl s0 base s) (hS : va_S (xa_A base) s.heap H locs) {t : State} (ht : t.heap = H1) (hRt : xa_Rl s0 base t) (hz : H.size ≤ H1.size) (hL : ∀ q ∈ L1, xa_A base q.base) : va_S (xa_A base) s.heap H1 (locs ++ L1) := by
  refine ⟨Nat.le_trans hS.1 hz, fun q h1 h2 => ?_, fun q hq => ?_⟩
  · have hq : q < base := Nat.not_le.mp h2
    rw [← ht, hRt.2.2 q hq, hR.2.2 q hq]
  · rcases List.mem_append.mp hq with h | h
    · exact hS.2.2 q h
    · exact hL q h
/-- the return -/
theorem xd_ret {M : xa_M} (F : xa_Fr D cl Ts cs b base L xs M p s m args meth c) (hR : xa_Rl s0 base s) {pc : Nat} {i : Jvm.ClassFile.Instr} {len : Nat} (hck : xa_ckR M pc i len = true) {st : List Value} {h h' : List va_E} {o : Outcome} {k z : Nat} (hn : xa_ret (xa_rt M) i st h = some (o, h', k, z))
    (hM : xa_Mt D cl cs b base h H) (hS : va_S (xa_A base) s.heap H locs) {ls : Array Slot} : W p l e R s m args below meth c H locs cells slots (xb_MQ below (xa_Qc D cl cs b base s0 o h') args s (cells + k) (slots + z) (xa_A base)) (F0 m pc ls (st.map (xa_rv b base))) := by
  obtain ⟨hx, hb, hml, hown, hts, hK, hX, hbb, hbs, hlk, hrt, hnm, hxt⟩ := F
  unfold xa_ckR at hck
  simp only [Bool.and_eq_true, decide_eq_true_eq] at hck
  obtain ⟨hd, rfl⟩ := hck
  have hQ : ∀ t : State, t.heap = H → s.WarmedH t.vm → xa_Rl s0 base t ∧ xa_Mt D cl cs b base h t.heap := fun t ht hW =>
    ⟨⟨State.WarmedH.trans hR.1 hW, by rw [ht]; exact Nat.le_trans hR.2.1 hS.1, fun q hq => by rw [ht, hS.2.1 q (Nat.lt_of_lt_of_le hq hR.2.1) (Nat.not_le.mpr hq)]; exact hR.2.2 q hq⟩, by rw [ht]; exact hM⟩
  unfold xa_ret at hn
  split at hn
  · split at hn
    · split at hn
      · rename_i hr
        cases hn
        exact xd_mono xd_MQ (W.iret hx hb (hrt.trans hr) (fun t ht hW => ⟨rfl, hQ t ht hW⟩) (fun q hq => hS.2.2 q hq) hd hlk)
      · rename_i x _ hr
        cases hn
        intro T hT X
        obtain ⟨fs, hret, hrun, hended, hW, hframe⟩ := X.leave (v := some (.int (vp_nar .boolean x))) (fun h => by rw [hrt, hr] at h; cases h) hlk
        have hmeth' : T.vm.method? m = some meth := X.method'
        refine ⟨T.setFrames fs, ?_, .returned (some (.int (vp_nar .boolean x))), hrun, hended, ⟨rfl, hQ _ hT hW⟩, locs, ⟨hW, hframe⟩, fun q hq => hS.2.2 q hq⟩
        have hr' : meth.sig.returnType = some .boolean := hrt.trans hr
        have hnr : narrow .boolean (.int x) = .int (vp_nar .boolean x) := rfl
        show Steps p.tables e below (T.setTop (F0 m pc ls [.int x])) _
        jvm_step X.here [X.here.top, hx, hb, hd, hmeth', hr', hnr]
        (try refine ⟨rfl, ?_⟩); (try refine ⟨rfl, ?_⟩)
        first | (intro acts; rw [hret _ acts rfl rfl rfl]) | rw [hret _ _ rfl rfl rfl]
        exact Steps.refl _
      · cases hn
    · cases hn
  · split at hn
    · split at hn
      · rename_i hr
        cases hn
        exact xd_mono xd_MQ (W.lret hx hb (hrt.trans hr) (fun t ht hW => ⟨rfl, hQ t ht hW⟩) (fun q hq => hS.2.2 q hq) hd hlk)
      · cases hn
    · cases hn
  · split at hn
    · split at hn
      · rename_i hr
        cases hn
        exact xd_mono xd_MQ (W.vret hx hb (hrt.trans hr) (fun t ht hW => ⟨rfl, hQ t ht hW⟩) (fun q hq => hS.2.2 q hq) hd hlk)
      · cases hn
    · cases hn
  · cases hn
set_option maxHeartbeats 2000000 in
/-- 'throw new' -/
theorem xd_thr (G : xa_G l D cl Ts Th cs b base L xs s0 mt NY) {M : xa_M} (F : xa_Fr D cl Ts cs b base L xs M p s m args meth c) (hR : xa_Rl s0 base s) {pc : Nat} {i : Jvm.ClassFile.Instr} {r : Nat} {ts : List Nat} (hck : xa_ckT cl Ts Th M pc i r ts = true) {st : List Value} {h : List va_E}
    (hM : xa_Mt D cl cs b base h H) (hS : va_S (xa_A base) s.heap H locs) (hcs : s.heap.size + cells ≤ base + h.length) (hc : cells + 1 ≤ R.cells) (hz : slots + 6 ≤ R.slots) (hfr : 6 ≤ R.frames) (hlo : 100 ≤ R.locals) (hcat : xa_cats st ≤ 8) {ls : Array Slot} (hls : ls.size = xa_mL M) :
    W p l e R s m args below meth c H locs cells slots (xb_MQ below (xa_Qc D cl cs b base s0 (.threw (h.length + 1)) (h ++ [.inr (r, [])])) args s (cells + 1) (slots + 6) (xa_A base)) (F0 m pc ls (st.map (xa_rv b base))) := by
  obtain ⟨hx, hb, hml, hown, hts, hK, hX, hbb, hbs, hlk, hrt, hnm, hxt⟩ := F
  obtain ⟨-, -, g3, g4, -, -, -, g8⟩ := G
  unfold xa_ckT at hck
  split at hck
  · rename_i ci sx ic w E T0 hcl
    simp only [Bool.and_eq_true, Bool.or_eq_true, decide_eq_true_eq] at hck
    obtain ⟨d0, hhz, d3, d4, d6, d9, w1, w2, w3, w4, w5, w6⟩ := hck
    have htab : c.exceptionTable.toList = [] := by
      rw [hxt, xa_hh, List.isEmpty_iff.mp hhz]; rfl
    obtain ⟨q, hq, hqm⟩ := List.any_eq_true.mp w4
    split at hqm
    · rename_i o x text
      simp only [Bool.and_eq_true, decide_eq_true_eq] at hqm
      obtain ⟨rfl, rfl⟩ := hqm
      intro T hT X
      have hsz : T.heap.size = base + h.length := by have h1 := X.heapSize; have h2 := hM.1; rw [← hT] at h2; omega
      have hRx : xa_Rl s0 base (xt_s s T) := ⟨hR.1, by show base ≤ T.heap.size; omega, fun q hq => by
        show T.heap[q]? = _
        rw [hT, hS.2.1 q (Nat.lt_of_lt_of_le hq hR.2.1) (Nat.not_le.mpr hq)]
        exact hR.2.2 q hq⟩
      obtain ⟨U, u1, u2, u3, u4, u5, u6, ce, u7, u8, u9⟩ := xt_throw X hx (g8 e X.admits) (own := (xa_nm M).cls) (E := E) (text := text) (names := xe_names) (ci := ci) (sx := x) (ic := ic) (w := w) hown w5 (by decide)
        (fun a ha => by
          have h1 := List.all_eq_true.mp w6 a ha
          simp only [Bool.or_eq_true, decide_eq_true_eq] at h1
          rcases h1 with h1 | h1
          · exact g3 a h1 _ _ hRx.1
          · exact g4 a h1 _ _ hRx)
        (hts _ w1) (hts _ w2) (hts _ w3) (hts _ hq) (pc := pc) (ls := ls) (st := st.map (xa_rv b base)) (hls.trans hml.symm) (by rw [hb]; exact d0) (by rw [hb]; exact d3) (by rw [hb]; exact d4) (by rw [hb]; exact d6) (by rw [hb]; exact d9) (by rw [htab]; intro y hy; cases hy)
        (by show 2 + 3 < R.frames; omega) (by rw [xa_cats_rv]; show _ + 1 + (13 * (2 + 1) + 42) ≤ R.locals; omega) hc hz hlk
      refine ⟨U, u1, .threw T.heap.size, u2, u3, ⟨by rw [hsz]; rfl, ⟨State.WarmedH.trans hR.1 u4, ?_, fun q hq => ?_⟩, ?_⟩, locs, ⟨u4, u5⟩, fun q hq => hS.2.2 q hq⟩
      · have := (Array.getElem?_eq_some_iff.mp u7).1
        omega
      · rw [u6 q (by omega)]
        exact hRx.2.2 q hq
      · have hMT : xa_Mt D cl cs b base h T.heap := by rw [hT]; exact hM
        refine ⟨?_, ?_⟩
        · have := (Array.getElem?_eq_some_iff.mp u7).1
          rw [List.length_append]
          show base + (h.length + 1) ≤ _
          omega
        · rw [xa_W_push]
          refine va_P.app (hMT.2.kept fun k q hk => u6 q.1 (hMT.2 k q hk).lt) (fun k q hk => ?_)
          have h1 : k < 1 := (List.getElem?_eq_some_iff.mp hk).1
          rw [show k = 0 by omega] at hk
          cases hk
          refine ⟨_, hcl, ce, by rw [← hsz]; exact u7, ?_, u9, fun k hk => absurd hk (Nat.not_lt_zero k)⟩
          exact Option.some.inj (u8.symm.trans (hK.1 r _ hcl).2.1)
    · cases hqm
  · cases hck
end XZ
/-- the induction's statement -/
def xa_I (l : Launch) (D : va_G) (cl : List vw_C) (Ts : List Jvm.Cond) (cs : ClassId × ClassId × ClassId) (b base L : Nat) (xs : Nat → Int32) (s0 : State) (mt : Nat → xa_M) (NY n : Nat) : Prop :=
  ∀ (d w y ip : Nat) (lv : List (Nat × Value)) (st : List Value) (h : List va_E) (o : Outcome) (h' : List va_E) (k z : Nat), y < NY → xa_ev mt L xs n d w y ip lv st h = some (o, h', k, z) →
    ∀ (p : Program) (e : Env) (R : Room) (s : State) (m : MethodId) (args : Array Value) (below : List Frame) (meth : Method) (c : Code) (H : Heap) (locs : List Loc) (cells slots : Nat) (ls : Array Slot),
      xa_Fr D cl Ts cs b base L xs (mt y) p s m args meth c → xa_Rl s0 base s → lv_has ls (xa_mL (mt y)) (xa_lv b base lv) → xa_Mt D cl cs b base h H → va_S (xa_A base) s.heap H locs → s.heap.size + cells ≤ base + h.length → cells + k ≤ R.cells → slots + z ≤ R.slots → d ≤ R.frames → w ≤ R.locals →
      W p l e R s m args below meth c H locs cells slots (xb_MQ below (xa_Qc D cl cs b base s0 o h') args s (cells + k) (slots + z) (xa_A base)) (F0 m (xa_pc (mt y) ip) ls (st.map (xa_rv b base)))
theorem xa_ev_len {mt : Nat → xa_M} {L : Nat} {xs : Nat → Int32} : ∀ (n d w y ip : Nat) (lv : List (Nat × Value)) (st : List Value) (h : List va_E) (o : Outcome) (h' : List va_E) (k z : Nat), xa_ev mt L xs n d w y ip lv st h = some (o, h', k, z) → h'.length = h.length + k := by
  intro n
  induction n with
  | zero => intro d w y ip lv st h o h' k z e; cases e
  | succ n ih =>
    intro d w y ip lv st h o h' k z e
    replace e : xa_stp mt L xs (xa_ev mt L xs n) d w y ip lv st h = some (o, h', k, z) := e
    unfold xa_stp at e
    (try dsimp only at e)
    split at e
    · cases e
    · split at e
      · split at e
        · cases e
        · rename_i hnx
          obtain ⟨k1, z1, e1, rfl, rfl⟩ := xa_add_some e
          have h1 := xa_nx_len hnx
          have h2 := ih _ _ _ _ _ _ _ _ _ _ _ e1
          omega
      · unfold xa_ret at e
        repeat' (first | (cases e; rfl) | (cases e; done) | (split at e))
      · obtain ⟨-, e⟩ := xa_if_some e
        cases e
        rw [List.length_append]; rfl
      · obtain ⟨-, e⟩ := xa_if_some e
        split at e
        · cases e
        · rename_i hc
          obtain ⟨k1, z1, e1, rfl, rfl⟩ := xa_add_some e
          have h1 := ih _ _ _ _ _ _ _ _ _ _ _ hc
          have h2 := ih _ _ _ _ _ _ _ _ _ _ _ e1
          omega
        · rename_i hc
          have h1 := ih _ _ _ _ _ _ _ _ _ _ _ hc
          split at e
          · obtain ⟨-, e⟩ := xa_if_some e
            cases e
            exact h1
          · obtain ⟨k1, z1, e1, rfl, rfl⟩ := xa_add_some e
            have h2 := ih _ _ _ _ _ _ _ _ _ _ _ e1
            omega
      · obtain ⟨-, e⟩ := xa_if_some e
        split at e
        · cases e
        · rename_i hnx
          obtain ⟨k1, z1, e1, rfl, rfl⟩ := xa_add_some e
          have h1 := xa_nx_len hnx
          have h2 := ih _ _ _ _ _ _ _ _ _ _ _ e1
          omega
section XY
variable {l : Launch} {D : va_G} {cl : List vw_C} {Ts Th : List Jvm.Cond} {cs : ClassId × ClassId × ClassId} {b base L : Nat} {xs : Nat → Int32} {s0 : State} {mt : Nat → xa_M} {NY : Nat}
theorem xd_met (G : xa_G l D cl Ts Th cs b base L xs s0 mt NY) {n : Nat} (IH : xa_I l D cl Ts cs b base L xs s0 mt NY n) {d w y : Nat} {vs : List Value} {h : List va_E} {o : Outcome} {h' : List va_E} {k z : Nat} (hy : y < NY) (hev : xa_ev mt L xs n d w y 0 (lv_args 0 vs) [] h = some (o, h', k, z)) (hcat : xa_cats vs ≤ xa_mL (mt y)) :
    xb_Met l (xa_nm (mt y)) [xa_cwM (mt y)] { frames := d, cells := k, slots := z, locals := w } (xa_Pc D cl cs b base s0 vs h) (xa_Qc D cl cs b base s0 o h') k z (xa_A base) := by
  have hck := G.2.1 y hy
  unfold xa_ckM at hck
  simp only [Bool.and_eq_true, decide_eq_true_eq] at hck
  refine xb_ofW (cc := xa_by (mt y)) (maxL := xa_mL (mt y)) (ret := xa_rt (mt y)) (hh := xa_hh (mt y)) hck.2.1 (List.mem_singleton.mpr rfl) ?_
  intro p e s m args below meth c s₁ B hml hxt hP
  obtain ⟨rfl, hR, hM, hz⟩ := hP
  have F := xd_Fr (args := (vs.map (xa_rv b base)).toArray) G hR B.exec B.bytes hml (findClass_of_methodNamed B.named) B.notSynchronized B.returns (name_of_methodNamed B.named B.method).1 hxt
  have hl := lv_entry (vs.map (xa_rv b base)) (n := xa_mL (mt y)) (by rw [xa_sl_len]; unfold xa_cats; rw [xa_cats_rv]; exact hcat)
  rw [lg_entry_eq]
  have h1 := IH d w y 0 (lv_args 0 vs) [] h o h' k z hy hev p e { frames := d, cells := k, slots := z, locals := w } s m _ below meth c s.heap [] 0 0 _ F hR (by rw [xa_lv_args]; exact hl) hM va_S.rf (by omega) (by show 0 + k ≤ k; omega) (by show 0 + z ≤ z; omega) (Nat.le_refl _) (Nat.le_refl _)
  rw [hck.1, Nat.zero_add, Nat.zero_add] at h1
  exact h1
end XY
end
section
/-! THE CALL, AND THE INDUCTION -/
theorem xa_kind_in (i : Jvm.ClassFile.Instr) (r q : Nat) : xa_kind i r q = 0 ∨ xa_kind i r q = 1 ∨ xa_kind i r q = 2 ∨ xa_kind i r q = 3 ∨ xa_kind i r q = 4 := by
  unfold xa_kind
  split
  · exact Or.inr (Or.inl rfl)
  · exact Or.inr (Or.inl rfl)
  · exact Or.inr (Or.inl rfl)
  · cases Nat.beq q 99
    · exact Or.inl rfl
    · exact Or.inr (Or.inr (Or.inl rfl))
  · exact Or.inr (Or.inr (Or.inr (Or.inl rfl)))
  · cases Nat.blt r 1000
    · exact Or.inr (Or.inr (Or.inr (Or.inr rfl)))
    · exact Or.inr (Or.inr (Or.inr (Or.inl rfl)))
  · cases Nat.blt r 1000
    · exact Or.inr (Or.inr (Or.inr (Or.inr rfl)))
    · exact Or.inr (Or.inr (Or.inr (Or.inl rfl)))
  · exact Or.inl rfl
theorem xd_lk {Ts : List Jvm.Cond} {own : String} {x : Nat} {y : MethodName} {args : Array Value} {s : State} (h : xa_lk Ts own x y = true) (hts : ∀ w ∈ Ts, w.before args s = true) : xc_lk own x y args s := by
  unfold xa_lk at h
  rw [Bool.or_eq_true, decide_eq_true_eq] at h
  rcases h with h | h
  · exact Or.inl (hts _ h)
  · obtain ⟨q, hq, hm⟩ := List.any_eq_true.mp h
    split at hm
    · rename_i o i z hst
      simp only [Bool.and_eq_true, decide_eq_true_eq] at hm
      obtain ⟨rfl, rfl, rfl⟩ := hm
      exact Or.inr ⟨hst, hts _ hq⟩
    · cases hm
theorem xd_split {st : List Value} {q : Nat} (hq : 1 ≤ q) (hl : q ≤ st.length) {v : Value} (hv : st[q - 1]? = some v) : st = (st.take (q - 1)) ++ v :: st.drop q ∧ (st.take q).reverse = v :: (st.take (q - 1)).reverse := by
  obtain ⟨j, rfl⟩ : ∃ j, q = j + 1 := ⟨q - 1, by omega⟩
  rw [Nat.add_sub_cancel] at hv ⊢
  have h1 : st.take (j + 1) = st.take j ++ [v] := by rw [List.take_add_one, hv]; rfl
  refine ⟨?_, by rw [h1, List.reverse_append]; rfl⟩
  conv => lhs; rw [← List.take_append_drop (j + 1) st, h1]
  simp
section XK
variable {l : Launch} {D : va_G} {cl : List vw_C} {Ts Th : List Jvm.Cond} {cs : ClassId × ClassId × ClassId} {b base L : Nat} {xs : Nat → Int32} {s0 : State} {mt : Nat → xa_M} {NY : Nat}
variable {p : Program} {e : Env} {R : Room} {s : State} {m : MethodId} {args : Array Value} {below : List Frame} {meth : Method} {c : Code} {T : State} {locs : List Loc} {cells slots : Nat}
set_option maxHeartbeats 2000000 in
/-- the invoking instruction, by its row -/
theorem xd_inv {M : xa_M} (F : xa_Fr D cl Ts cs b base L xs M p s m args meth c) {pc : Nat} {i : Jvm.ClassFile.Instr} {len nip r q : Nat} {ts : List Nat} (hck : xa_ckK cl Ts mt NY M pc i len nip r q ts = true) {st : List Value} {h : List va_E} (hcok : xa_cok i (xa_mL (mt r)) q ts st h = true)
    (X : Stand p l e R s m args below meth c T locs cells slots) (hM : xa_Mt D cl cs b base h T.heap) {ls : Array Slot} :
    xc_In p l e R s m args below meth c T locs cells slots (xa_nm (mt r)) (F0 m pc ls (st.map (xa_rv b base))) ((st.drop q).map (xa_rv b base)) (((st.take q).reverse).map (xa_rv b base)) := by
  obtain ⟨hx, hb, hml, hown, hts, hK, hX, hbb, hbs, hlk, hrt, hnm, hxt⟩ := F
  unfold xa_ckK at hck
  unfold xa_cok at hcok
  simp only [Bool.and_eq_true, decide_eq_true_eq] at hck hcok
  obtain ⟨hd, rfl, hp, hrN, hmL, n1, n2, w1, w2, -, hck⟩ := hck
  obtain ⟨c1, c2, c3, c4⟩ := hcok
  have hq := Nat.le_of_ble_eq_true c1
  have hpar : ∀ {j : Nat}, (parseMethodDescriptor (xa_nm (mt r)).desc).map (fun d => d.parameters.length) = some j → ∀ sig, parseMethodDescriptor (xa_nm (mt r)).desc = some sig → j = sig.parameters.length := by
    intro j h1 sig h2
    rw [h2] at h1
    exact (Option.some.inj h1).symm
  cases i
  case invokevirtual x =>
    simp only [Bool.and_eq_true, decide_eq_true_eq] at hck
    obtain ⟨k1, k2, k3, k4, k5, k6⟩ := hck
    unfold xa_rec at c4
    dsimp only at c4
    split at c4
    · rename_i j hj
      split at c4
      · rename_i c0 fs hjh
        have hc0 : c0 = ts.headD 999 := Nat.eq_of_beq_eq_true c4
        subst hc0
        cases hcl : cl[ts.headD 999]? with
        | none => rw [hcl] at k6; cases k6
        | some w =>
          rw [hcl] at k6
          have hw : w.1 = (xa_nm (mt r)).cls := Option.some.inj k6
          obtain ⟨s1, s2⟩ := xd_split k4 hq hj
          obtain ⟨cellB, q1, q2, q3⟩ := va_recv hK hM.2 hcl (xa_W_at hjh)
          rw [hw] at q3
          rw [s2]
          refine xc_V X hx (C := (xa_nm (mt r)).cls) hown (xd_lk k1 hts) (hts _ k2) (hts _ k3) ⟨n1, n2⟩ q1 q2 q3 (hts _ w2) (g := F0 m pc ls (st.map (xa_rv b base))) rfl (argsL := ((st.take (q - 1)).reverse).map (xa_rv b base)) (fun sig h2 => ?_) ?_ (by rw [hb]; exact hd)
          · rw [List.length_map, List.length_reverse, List.length_take]
            rw [← hpar k5 sig h2]
            omega
          · show st.map (xa_rv b base) = _
            rw [List.map_reverse, List.reverse_reverse]
            conv => lhs; rw [s1]
            rw [List.map_append]
            rfl
      · cases c4
    · cases c4
  case invokestatic x =>
    simp only [Bool.and_eq_true, decide_eq_true_eq] at hck
    obtain ⟨k1, k2, k3⟩ := hck
    have hcode := hts _ w2
    obtain ⟨mk, hnamed⟩ : ∃ mk, s.methodNamed? (xa_nm (mt r)) = some mk := by
      unfold xa_cwM xb_cw at hcode
      split at hcode
      · exact Cond.code_named hcode
      · obtain ⟨m9, _, _, hn9, _⟩ := Cond.codeWith_spec hcode
        exact ⟨m9, hn9⟩
    refine xc_S X hx hown (xd_lk k1 hts) (hts _ k2) (hts _ w1) ⟨n1, n2⟩ (hts _ w2) hnamed (g := F0 m pc ls (st.map (xa_rv b base))) rfl (fun sig h2 => ?_) ?_ (by rw [hb]; exact hd)
    · rw [List.length_map, List.length_reverse, List.length_take]
      rw [← hpar k3 sig h2]
      omega
    · show st.map (xa_rv b base) = _
      rw [List.map_reverse, List.reverse_reverse, ← List.map_append, List.take_append_drop]
  case invokespecial x =>
    simp only [Bool.and_eq_true, decide_eq_true_eq] at hck
    obtain ⟨k1, k2, k3, k4, k5, k6, k7⟩ := hck
    unfold xa_rec at c4
    dsimp only at c4
    split at c4
    · rename_i a hj
      obtain ⟨s1, s2⟩ := xd_split k4 hq hj
      rw [s2, List.map_cons, xa_rv_ref]
      have hcode : (Jvm.Cond.code (xa_nm (mt r)) (xa_by (mt r)) (xa_mL (mt r)) none).before args s = true := by
        have h1 := hts _ w2
        unfold xa_cwM at h1
        rw [k7, xa_hh, List.isEmpty_iff.mp k6] at h1
        exact h1
      refine xc_I X hx hown k3 (xd_lk k1 hts) (hts _ k2) ⟨n1, n2⟩ hcode (g := F0 m pc ls (st.map (xa_rv b base))) rfl (fun sig h2 => ?_) ?_ (by rw [hb]; exact hd)
      · rw [List.length_map, List.length_reverse, List.length_take]
        rw [← hpar k5 sig h2]
        omega
      · show st.map (xa_rv b base) = _
        rw [List.map_reverse, List.reverse_reverse]
        conv => lhs; rw [s1]
        rw [List.map_append, List.map_cons, xa_rv_ref]
    · cases c4
  all_goals (cases hck)
set_option maxHeartbeats 4000000 in
theorem xa_sim (G : xa_G l D cl Ts Th cs b base L xs s0 mt NY) : ∀ n, xa_I l D cl Ts cs b base L xs s0 mt NY n := by
  intro n
  induction n with
  | zero => intro d w y ip lv st h o h' k z _ e; cases e
  | succ n ih =>
    intro d w y ip lv st h o h' k z hy hev p e R s m args below meth c H locs cells slots ls F hR hl hM hS hcs hc hz hfr hlo
    have hckM := G.2.1 y hy
    unfold xa_ckM at hckM
    simp only [Bool.and_eq_true, decide_eq_true_eq] at hckM
    replace hev : xa_stp mt L xs (xa_ev mt L xs n) d w y ip lv st h = some (o, h', k, z) := hev
    unfold xa_stp at hev
    (try dsimp only at hev)
    split at hev
    · cases hev
    · rename_i pc i len nip r q ts hrow
      have hpc : xa_pc (mt y) ip = pc := by unfold xa_pc; rw [hrow]
      rw [hpc]
      have hckw := List.all_eq_true.mp hckM.2.2 _ (List.mem_of_getElem? hrow)
      unfold xa_ckW at hckw
      (try dsimp only at hckw)
      split at hev
      · rename_i hk
        rw [hk] at hckw
        split at hev
        · cases hev
        · rename_i ip' lv' st' h1 k1 z1 hnx
          obtain ⟨k2, z2, e1, rfl, rfl⟩ := xa_add_some hev
          have hlen := xa_nx_len hnx
          refine xa_sim_nx G.1 F hckw hnx hl hM hS hcs (by omega) (by omega) (fun h4 => by rw [hk] at h4; cases h4) ?_
          intro pc' ls' H1 locs1 hpc1 hl1 hM1 hS1
          have h2 := ih d w y ip' lv' st' h1 o h' k2 z2 hy e1 p e R s m args below meth c H1 locs1 (cells + k1) (slots + z1) ls' F hR hl1 hM1 hS1 (by omega) (by omega) (by omega) hfr hlo
          rw [hpc1, Nat.add_assoc, Nat.add_assoc] at h2
          exact h2
      · rename_i hk
        rw [hk] at hckw
        exact xd_ret F hR hckw hev hM hS
      · rename_i hk
        rw [hk] at hckw
        obtain ⟨hcat, hev⟩ := xa_if_some hev
        cases hev
        simp only [Bool.and_eq_true] at hcat
        obtain ⟨hc8, hd6, hw1⟩ := hcat
        have hd6' := Nat.le_of_ble_eq_true hd6
        have hw1' := Nat.le_of_ble_eq_true hw1
        exact xd_thr G F hR hckw hM hS hcs hc hz (by omega) (by omega) (Nat.le_of_ble_eq_true hc8) hl.1
      · rename_i hk
        rw [hk] at hckw
        have hckK : xa_ckK cl Ts mt NY (mt y) pc i len nip r q ts = true := hckw
        · obtain ⟨hcok3, hev⟩ := xa_if_some hev
          rw [Bool.and_eq_true, Bool.and_eq_true] at hcok3
          obtain ⟨hcok, hd1, hcw⟩ := hcok3
          have hd1' := Nat.le_of_ble_eq_true hd1
          have hcw' := Nat.le_of_ble_eq_true hcw
          have hck2 := hckK
          unfold xa_ckK at hck2
          simp only [Bool.and_eq_true, decide_eq_true_eq] at hck2
          obtain ⟨hd, rfl, hp, hrN, hmL, n1, n2, w1, w2, hH, -⟩ := hck2
          have hcok2 := hcok
          unfold xa_cok at hcok2
          simp only [Bool.and_eq_true] at hcok2
          obtain ⟨c1, c2, c3, -⟩ := hcok2
          have c2' := Nat.le_of_ble_eq_true c2
          have c3' := Nat.le_of_ble_eq_true c3
          have c3r : xa_cats (st.take q).reverse ≤ xa_mL (mt r) := by
            have h1 : xa_cats (st.take q).reverse = xa_cats (st.take q) := by
              unfold xa_cats
              rw [List.map_reverse, List.sum_reverse]
            rw [h1]; exact c3'
          -- the callee's own run, whatever it ends in
          have step : ∀ (oc : Outcome) (h1 : List va_E) (k1 z1 : Nat), xa_ev mt L xs n (d - 1) (w - ts.getD 1 0) r 0 (lv_args 0 (st.take q).reverse) [] h = some (oc, h1, k1, z1) → cells + k1 ≤ R.cells → slots + z1 ≤ R.slots → ∀ T : State, T.heap = H → Stand p l e R s m args below meth c T locs cells slots →
              (∃ (v : Option Value) (B : State) (L1 : List Loc), oc = .returned v ∧ Stand p l e R s m args below meth c B (locs ++ L1) (cells + k1) (slots + z1) ∧ xa_Mt D cl cs b base h1 B.heap ∧ va_S (xa_A base) s.heap B.heap (locs ++ L1) ∧ ∀ t, Steps p.tables e below (B.setTop (F0 m (pc + 3) ls ((v.toList ++ st.drop q).map (xa_rv b base)))) t → Steps p.tables e below (T.setTop (F0 m pc ls (st.map (xa_rv b base)))) t) ∨
              (∃ (x : Nat) (B : State) (L1 : List Loc), oc = .threw x ∧ Stand p l e R s m args below meth c B (locs ++ L1) (cells + k1) (slots + z1) ∧ xa_Rl s0 base B ∧ xa_Mt D cl cs b base h1 B.heap ∧ va_S (xa_A base) s.heap B.heap (locs ++ L1) ∧ ∀ t, Steps p.tables e below ((B.setTop (F0 m pc ls ((st.drop q).map (xa_rv b base)))).pushFrame (.throwing (xa_ad b base x))) t → Steps p.tables e below (T.setTop (F0 m pc ls (st.map (xa_rv b base)))) t) := by
            intro oc h1 k1 z1 hcal hk1 hz1 T hT X
            have hlen := xa_ev_len _ _ _ _ _ _ _ _ _ _ _ _ hcal
            have hMT : xa_Mt D cl cs b base h T.heap := by rw [hT]; exact hM
            have hsz : T.heap.size = base + h.length := by have g1 := X.heapSize; have g2 := hMT.1; omega
            obtain ⟨mk, vm₁, hnamed, X₁, hstep⟩ := xd_inv F hckK hcok X hMT (ls := ls)
            have hmet := xd_met G ih hrN hcal c3r
            have hx := F.1
            have hb := F.2.1
            have hml := F.2.2.1
            have hts := F.2.2.2.2.1
            have hwm : ∀ w ∈ Ts, ∀ a' : Array Value, w.before a' (T.setVm vm₁) = true := fun w hw a' => G.2.2.1 w hw _ a' (State.WarmedH.trans hR.1 X₁.warmed)
            have hRx : xa_Rl s0 base (T.setVm vm₁) := ⟨State.WarmedH.trans hR.1 X₁.warmed, by show base ≤ T.heap.size; omega, fun q hq => by
              show T.heap[q]? = _
              rw [hT, hS.2.1 q (Nat.lt_of_lt_of_le hq hR.2.1) (Nat.not_le.mpr hq)]
              exact hR.2.2 q hq⟩
            have hcall := xb_call (cc := xa_by (mt r)) (maxL := xa_mL (mt r)) (ret := xa_rt (mt r)) (hh := xa_hh (mt r)) X₁ hmet (X₁.named hnamed) (g := F0 m pc ls ((st.drop q).map (xa_rv b base))) rfl (hl.1.trans hml.symm) (ig := i) (by rw [hb]; exact hd)
              (fun w hw a' => by rw [List.mem_singleton.mp hw]; exact hwm _ w2 a') (List.mem_singleton.mpr rfl) (fun a' => hwm _ w1 a') (by show d - 1 + 1 ≤ _; omega)
              (by rw [xa_cats_rv]; show 2 * 0 + _ + _ + (w - ts.getD 1 0) ≤ _; omega) hk1 hz1 (a := (((st.take q).reverse).map (xa_rv b base)).toArray) ⟨rfl, hRx, hMT, by show T.heap.size ≤ _; omega⟩
            rcases hcall with ⟨v, t, B, L1, XB, hL1, hBt, hBv, hq, hsteps⟩ | ⟨x, t, B, L1, XB, hL1, hBt, hBv, hq, hsteps⟩
            · obtain ⟨ho, hRt, hMt⟩ := hq
              cases oc with
              | threw x => cases ho
              | returned v0 =>
                left
                have hv : v = v0.map (xa_rv b base) := by cases ho; rfl
                subst hv
                refine ⟨v0, B, L1, rfl, XB, by rw [hBt]; exact hMt, xd_S hR hS hBt.symm hRt (by rw [hBt, ← hT]; have g1 := hMt.1; omega) hL1, fun t' ht' => hstep _ (hsteps.trans ?_)⟩
                have hst : (v0.map (xa_rv b base)).toList ++ (st.drop q).map (xa_rv b base) = (v0.toList ++ st.drop q).map (xa_rv b base) := by cases v0 <;> simp
                show Steps p.tables e below (B.setTop (F0 m (pc + 3) ls ((v0.map (xa_rv b base)).toList ++ (st.drop q).map (xa_rv b base)))) t'
                rw [hst]
                exact ht'
            · obtain ⟨ho, hRt, hMt⟩ := hq
              cases oc with
              | returned v0 => cases ho
              | threw x0 =>
                right
                have hv : x = xa_ad b base x0 := by cases ho; rfl
                subst hv
                refine ⟨x0, B, L1, rfl, XB, ⟨by rw [hBv]; exact hRt.1, by rw [hBt]; exact hRt.2.1, fun q hq => by rw [hBt]; exact hRt.2.2 q hq⟩, by rw [hBt]; exact hMt, xd_S hR hS hBt.symm hRt (by rw [hBt, ← hT]; have g1 := hMt.1; omega) hL1, fun t' ht' => hstep _ (hsteps.trans ht')⟩
          split at hev
          · cases hev
          · rename_i v h1 k1 z1 hcal
            obtain ⟨k2, z2, e1, rfl, rfl⟩ := xa_add_some hev
            have hlen := xa_ev_len _ _ _ _ _ _ _ _ _ _ _ _ hcal
            intro T hT X
            rcases step _ _ _ _ hcal (by omega) (by omega) T hT X with ⟨v', B, L1, ho, XB, hMB, hSB, hgo⟩ | ⟨x, B, L1, ho, _⟩
            · cases ho
              have h2 := ih d w y nip lv (v.toList ++ st.drop q) h1 o h' k2 z2 hy e1 p e R s m args below meth c B.heap (locs ++ L1) (cells + k1) (slots + z1) ls F hR hl hMB hSB (by omega) (by omega) (by omega) hfr hlo
              rw [hp, Nat.add_assoc, Nat.add_assoc] at h2
              obtain ⟨t, a1, b1⟩ := h2 B rfl XB
              exact ⟨t, hgo t a1, b1⟩
            · cases ho
          · rename_i x h1 k1 z1 hcal
            have hlen := xa_ev_len _ _ _ _ _ _ _ _ _ _ _ _ hcal
            split at hev
            · obtain ⟨hemp, hev⟩ := xa_if_some hev
              cases hev
              intro T hT X
              rcases step _ _ _ _ hcal hc hz T hT X with ⟨v', B, L1, ho, _⟩ | ⟨x', B, L1, ho, XB, hRB, hMB, hSB, hgo⟩
              · cases ho
              · cases ho
                have htab : c.exceptionTable.toList = [] := by
                  rw [F.2.2.2.2.2.2.2.2.2.2.2.2]
                  have h3 : xa_hz (mt y) = [] := by
                    have h4 := List.isEmpty_iff.mp hemp
                    exact List.map_eq_nil_iff.mp h4
                  rw [xa_hh, h3]; rfl
                obtain ⟨l1, l2, l3, l4, l5⟩ := XB.leaveThrown (xa_ad b base x) (g := F0 m pc ls ((st.drop q).map (xa_rv b base))) rfl rfl rfl (by rw [htab]; intro y hy; cases hy) F.2.2.2.2.2.2.2.2.2.1
                refine ⟨_, hgo _ l1, .threw (xa_ad b base x), l2, l3, ⟨rfl, ?_, hMB⟩, _, ⟨l4, l5⟩, fun q hq => hSB.2.2 q hq⟩
                exact hRB
            · rename_i ip' hfound
              obtain ⟨k2, z2, e1, rfl, rfl⟩ := xa_add_some hev
              intro T hT X
              rcases step _ _ _ _ hcal (by omega) (by omega) T hT X with ⟨v', B, L1, ho, _⟩ | ⟨x', B, L1, ho, XB, hRB, hMB, hSB, hgo⟩
              · cases ho
              · cases ho
                unfold xa_hnd at hfound
                split at hfound
                · cases hfound
                · rename_i j
                  split at hfound
                  · rename_i cx fs hj
                    rw [xa_hd, List.find?_map] at hfound
                    cases hzf : (xa_hz (mt y)).find? ((fun q => Nat.beq q.1 cx) ∘ fun z => z.2) with
                    | none => rw [hzf] at hfound; cases hfound
                    | some z =>
                      rw [hzf] at hfound
                      have hip : z.2.2 = ip' := Option.some.inj hfound
                      have hzm := List.mem_of_find?_eq_some hzf
                      have hz9 : ((fun q : Nat × Nat => Nat.beq q.1 cx) ∘ fun z : (Nat × Nat × Nat × Nat) × Nat × Nat => z.2) z = true := List.find?_some hzf
                      have hzc : z.2.1 = cx := Nat.eq_of_beq_eq_true hz9
                      have hK := F.2.2.2.2.2.1
                      have hts := F.2.2.2.2.1
                      have hown := F.2.2.2.1
                      obtain ⟨r0, hr0, cell, hcell, hcls, hvm, -⟩ := hMB.2 j _ (xa_W_at hj)
                      have hadx : xa_ad b base (j + 1) = base + j := rfl
                      have hClx := (hK.1 cx _ hr0).2
                      have hHz := List.all_eq_true.mp hH
                      have hpl : e.platform.magicAccessors = ({} : Platform).magicAccessors := by rw [XB.admits.platform]
                      obtain ⟨vm', XC, hgo2⟩ := xt_caught XB (a := xa_ad b base (j + 1)) (g := F0 m pc ls ((st.drop q).map (xa_rv b base))) rfl (cell := cell) (by rw [hadx]; exact hcell) (by rw [hvm]; rfl) (by rw [hcls]; obtain ⟨-, kC, hkC, -⟩ := hClx; exact ⟨kC, hkC⟩)
                        (zs := (xa_hz (mt y)).map fun u => ((⟨u.1.1, u.1.2.1, u.1.2.2.1, u.1.2.2.2⟩ : ExceptionTableEntry), Nat.beq u.2.1 cx))
                        (by rw [F.2.2.2.2.2.2.2.2.2.2.2.2, xa_hh, tableOf, List.map_map, List.map_map]; rfl)
                        (fun u hu => by
                          obtain ⟨w, hw, rfl⟩ := List.mem_map.mp hu
                          have h3 := hHz w hw
                          simp only [Bool.and_eq_true, decide_eq_true_eq] at h3
                          obtain ⟨t1, t2, t3, t4, t5⟩ := h3
                          refine ⟨by simp [covers, t1, t2], by simpa using t3, ?_⟩
                          split at t5
                          · rename_i E T0 N0 hclw
                            rw [Bool.and_eq_true, decide_eq_true_eq] at t5
                            obtain ⟨c', hc', hcl'⟩ := Cond.classLink_spec hown (hts _ t5.1) e.platform hpl
                            refine ⟨c', hcl', ?_⟩
                            have hcw : c' = D.1 w.2.1 := Option.some.inj (hc'.symm.trans (hK.1 w.2.1 _ hclw).2.1)
                            dsimp only
                            cases hbq : Nat.beq w.2.1 cx with
                            | true =>
                              have h5 : w.2.1 = cx := Nat.eq_of_beq_eq_true hbq
                              rw [hcls, hcw, h5]
                              show s.vm.assignableAux (255 + 1) _ _ = true
                              rw [Vm.assignableAux]
                              simp
                            | false =>
                              have h6 := List.all_eq_true.mp t5.2 z hzm
                              rw [hzc] at h6
                              have h7 : Nat.beq cx w.2.1 = false := by
                                cases h8 : Nat.beq cx w.2.1 with
                                | true =>
                                  have h9 := Nat.eq_of_beq_eq_true h8
                                  rw [h9, Nat.beq_refl] at hbq
                                  cases hbq
                                | false => rfl
                              rw [h7, Bool.false_or] at h6
                              split at h6
                              · rename_i E2 T2 N2 hclx
                                have hno := hts _ (of_decide_eq_true h6)
                                have hv := Cond.holds_not_iff.mp hno
                                have e2 : s.vm.findClass E2 = some (D.1 cx) := (hK.1 cx _ hclx).2.1
                                simp only [Cond.value, e2, hc'] at hv
                                rw [hcls]
                                exact Option.some.inj hv
                              · cases h6
                          · cases t5)
                        (x := (⟨z.1.1, z.1.2.1, z.1.2.2.1, z.1.2.2.2⟩, Nat.beq z.2.1 cx)) (by rw [List.find?_map]; show Option.map _ ((xa_hz (mt y)).find? (fun u => Nat.beq u.2.1 cx)) = _; rw [show (xa_hz (mt y)).find? (fun u => Nat.beq u.2.1 cx) = some z from hzf]; rfl)
                      have h3 := hHz z hzm
                      simp only [Bool.and_eq_true, decide_eq_true_eq] at h3
                      have h2 := ih d w y ip' lv [.ref (j + 1)] h1 o h' k2 z2 hy e1 p e R s m args below meth c B.heap (locs ++ L1) (cells + k1) (slots + z1) ls F hR hl hMB hSB (by omega) (by omega) (by omega) hfr hlo
                      rw [← hip, h3.2.2.2.1, Nat.add_assoc, Nat.add_assoc] at h2
                      obtain ⟨t, a1, b1⟩ := h2 (B.setVm vm') rfl XC
                      exact ⟨t, hgo t (hgo2 t a1), b1⟩
                  · cases hfound
      · rename_i hk0 hk1 hk2 hk3
        obtain ⟨hb4, hev⟩ := xa_if_some hev
        rw [Bool.and_eq_true] at hb4
        have hd1 := Nat.le_of_ble_eq_true hb4.1
        have hw30 := Nat.le_of_ble_eq_true hb4.2
        split at hev
        · cases hev
        · rename_i ip' lv' st' h1 k1 z1 hnx
          have hck4 : xa_ck cl Ts (mt y) pc i len nip r q ts = true := by
            split at hckw
            · exact hckw
            · rename_i hk; exact absurd hk hk1
            · rename_i hk; exact absurd hk hk2
            · exact hckw
            · rename_i hk4
              exfalso
              rcases xa_kind_in i r q with hh | hh | hh | hh | hh
              · exact hk0 hh
              · exact hk1 hh
              · exact hk2 hh
              · exact hk3 hh
              · exact hk4 hh
          obtain ⟨k2, z2, e1, rfl, rfl⟩ := xa_add_some hev
          have hlen := xa_nx_len hnx
          refine xa_sim_nx G.1 F hck4 hnx hl hM hS hcs (by omega) (by omega) (fun _ => ⟨by omega, by omega⟩) ?_
          intro pc' ls' H1 locs1 hpc1 hl1 hM1 hS1
          have h2 := ih d w y ip' lv' st' h1 o h' k2 z2 hy e1 p e R s m args below meth c H1 locs1 (cells + k1) (slots + z1) ls' F hR hl1 hM1 hS1 (by omega) (by omega) (by omega) hfr hlo
          rw [hpc1, Nat.add_assoc, Nat.add_assoc] at h2
          exact h2
end XK
end
section
/-! WORDS THAT STAY -/
def xw_ok (w : Jvm.Cond) : Bool := match w with
  | .castable _ _ => true
  | .declares _ => true
  | .stringRef _ _ _ => true
  | .not (.castable _ _) => true
  | w => goodWord w || (w.onTables && w.keepsH)
theorem xw_at {w : Jvm.Cond} (h : xw_ok w = true) {s U : State} (hW : s.WarmedH U.vm) {a a' : Array Value} (hb : w.before a s = true) : w.before a' U = true := by
  unfold xw_ok at h
  split at h
  · rename_i c1 c2
    have h1 : (Jvm.Cond.castable c1 c2).before a (s.setVm U.vm) = true := by rw [Cond.castable_setVm hW.alike]; exact hb
    exact va_tabs rfl (rfl : (s.setVm U.vm).vm = U.vm) h1
  · rename_i c1
    have h1 : (Jvm.Cond.declares c1).before a (s.setVm U.vm) = true := by rw [Cond.declares_setVm hW.alike]; exact hb
    exact va_tabs rfl (rfl : (s.setVm U.vm).vm = U.vm) h1
  · exact Cond.stringRef_warmed hW hb
  · exact Cond.castAtom_setVm hW.alike (.not (.castable _ _)) rfl hb
  · rw [Bool.or_eq_true, Bool.and_eq_true] at h
    rcases h with h | ⟨h1, h2⟩
    · exact word_at hW (good_of_word h) hb
    · have h3 : w.before a (s.setVm U.vm) = true := Spec.cold_of_keepsH (S := { pre := w, room := {}, post := .tt, changes := none }) h2 a s (s.setVm U.vm) hb (Or.inr (State.WarmerH.of_warmed rfl hW))
      exact va_tabs h1 (rfl : (s.setVm U.vm).vm = U.vm) h3
/-- a static reference, where the old cells are as they were -/
theorem xh_ref {C f d : String} {s0 U : State} {base : Nat} (hbase : s0.heap.size = base) (hR : xa_Rl s0 base U) {a a' : Array Value} (h : (Jvm.Cond.isRef (.static C f d)).before a s0 = true) : (Jvm.Cond.isRef (.static C f d)).before a' U = true := by
  have h1 : (Jvm.Cond.isRef (.static C f d)).before a (s0.setVm U.vm) = true := by
    unfold Cond.before Cond.holds at h ⊢
    rw [Cond.value_setVm hR.1.alike _ _ rfl]
    exact h
  unfold Cond.before Cond.holds at h1 ⊢
  have e : (Term.static C f d).eval a' U none [] U = (Term.static C f d).eval a (s0.setVm U.vm) none [] (s0.setVm U.vm) := by
    have h2 : ((Jvm.Cond.isRef (.static C f d)).value a (s0.setVm U.vm) none (s0.setVm U.vm) []) = some true := by simpa using h1
    unfold Cond.value at h2
    cases hev : (Term.static C f d).eval a (s0.setVm U.vm) none [] (s0.setVm U.vm) with
    | none => simp [hev] at h2
    | some v =>
      rw [← hev]
      unfold Term.eval at hev ⊢
      have hfn : U.fieldNamed? C f d true = (s0.setVm U.vm).fieldNamed? C f d true := rfl
      rw [hfn]
      cases hq : (s0.setVm U.vm).fieldNamed? C f d true with
      | none => rfl
      | some q =>
        obtain ⟨q1, k, slot⟩ := q
        rw [hq] at hev
        cases hs : k.statics with
        | none => simp [hs]
        | some ad =>
          have hlt : ad < base := by
            cases hc : s0.heap[ad]? with
            | none =>
              exfalso
              simp [hs, hc, State.setVm] at hev
            | some cc => rw [← hbase]; exact (Array.getElem?_eq_some_iff.mp hc).1
          have hh : U.heap[ad]? = s0.heap[ad]? := hR.2.2 ad hlt
          simp [hs, hh, State.setVm]
  unfold Cond.value at h1 ⊢
  rw [e]
  exact h1
theorem xh_lays {C f d : String} {s0 U : State} {base : Nat} (hbase : s0.heap.size = base) (hR : xa_Rl s0 base U) {a a' : Array Value} (h : (Jvm.Cond.laysStatic C f d).before a s0 = true) : (Jvm.Cond.laysStatic C f d).before a' U = true := by
  have h1 : (Jvm.Cond.laysStatic C f d).before a (s0.setVm U.vm) = true := by
    unfold Cond.before Cond.holds at h ⊢
    rw [Cond.value_setVm hR.1.alike _ _ rfl]
    exact h
  unfold Cond.before Cond.holds at h1 ⊢
  unfold Cond.value at h1 ⊢
  have hf1 : U.vm.findClass C = (s0.setVm U.vm).vm.findClass C := rfl
  have hf2 : U.fieldFound? C f d = (s0.setVm U.vm).fieldFound? C f d := rfl
  rw [hf1, hf2]
  cases hc : (s0.setVm U.vm).vm.findClass C with
  | none => rw [hc] at h1; exact h1
  | some c =>
    cases hq : (s0.setVm U.vm).fieldFound? C f d with
    | none => rw [hc, hq] at h1; exact h1
    | some q =>
      obtain ⟨c', k, i, fd⟩ := q
      rw [hc, hq] at h1
      dsimp only at h1 ⊢
      cases hs : k.statics with
      | none => rw [hs] at h1; exact h1
      | some ad =>
        rw [hs] at h1
        have hlt : ad < base := by
          cases hcc : s0.heap[ad]? with
          | none =>
            exfalso
            simp [hcc, State.setVm] at h1
          | some cc => rw [← hbase]; exact (Array.getElem?_eq_some_iff.mp hcc).1
        have hh : U.heap[ad]? = s0.heap[ad]? := hR.2.2 ad hlt
        simp only [Option.bind_some] at h1 ⊢
        rw [hh]
        exact h1
end
section
/-! THE PROGRAM AS TABLES: written by a program out of the claim's own words and javap's listing; the kernel checks each row (below) -/
def xF_0 : u_T := fun k => match k with
  | 0 => ("ServiceRows", "fleet", "LServiceRows$Fleet;", true)
  | 1 => ("ServiceRows", "rules", "LServiceRows$RuleRows;", true)
  | 2 => ("ServiceRows", "defects", "LServiceRows$DefectRows;", true)
  | 3 => ("ServiceRows", "orders", "LServiceRows$OrderRows;", true)
  | 4 => ("ServiceRows", "dueRows", "LServiceRows$DueRows;", true)
  | 5 => ("ServiceRows", "today", "I", false)
  | 6 => ("ServiceRows", "money", "I", false)
  | 7 => ("ServiceRows", "smallLimit", "I", false)
  | _ => ("ServiceRows", "lowerReadings", "I", false)
def xF_1 : u_T := fun k => match k with
  | 0 => ("ServiceRows$Fleet", "stations", "[I", true)
  | 1 => ("ServiceRows$Fleet", "spares", "[Z", true)
  | 2 => ("ServiceRows$Fleet", "kilometres", "[I", true)
  | 3 => ("ServiceRows$Fleet", "hours", "[I", true)
  | 4 => ("ServiceRows$Fleet", "oils", "[I", true)
  | 5 => ("ServiceRows$Fleet", "certificates", "[I", true)
  | 6 => ("ServiceRows$Fleet", "warranties", "[I", true)
  | _ => ("ServiceRows$Fleet", "size", "I", false)
def xF_2 : u_T := fun k => match k with
  | 0 => ("ServiceRows$RuleRows", "intervals", "[I", true)
  | 1 => ("ServiceRows$RuleRows", "starts", "[I", true)
  | _ => ("ServiceRows$RuleRows", "size", "I", false)
def xF_3 : u_T := fun k => match k with
  | 0 => ("ServiceRows$DefectRows", "vehicles", "[I", true)
  | 1 => ("ServiceRows$DefectRows", "severe", "[Z", true)
  | 2 => ("ServiceRows$DefectRows", "states", "[I", true)
  | 3 => ("ServiceRows$DefectRows", "orders", "[I", true)
  | _ => ("ServiceRows$DefectRows", "size", "I", false)
def xF_4 : u_T := fun k => match k with
  | 0 => ("ServiceRows$OrderRows", "vehicles", "[I", true)
  | 1 => ("ServiceRows$OrderRows", "open", "[Z", true)
  | 2 => ("ServiceRows$OrderRows", "ruleMarks", "[Z", true)
  | 3 => ("ServiceRows$OrderRows", "works", "[I", true)
  | 4 => ("ServiceRows$OrderRows", "costs", "[I", true)
  | 5 => ("ServiceRows$OrderRows", "size", "I", false)
  | _ => ("ServiceRows$OrderRows", "parts", "I", false)
def xF_5 : u_T := fun k => match k with
  | 0 => ("ServiceRows$DueRows", "slots", "[I", true)
  | 1 => ("ServiceRows$DueRows", "uppers", "[I", true)
  | 2 => ("ServiceRows$DueRows", "lowers", "[I", true)
  | _ => ("ServiceRows$DueRows", "size", "I", false)
def xF_6 : u_T := fun k => match k with
  | 0 => ("ServiceRowsModel", "thrown", "I", false)
  | 1 => ("ServiceRowsModel", "day", "I", false)
  | 2 => ("ServiceRowsModel", "budget", "I", false)
  | 3 => ("ServiceRowsModel", "lower", "I", false)
  | 4 => ("ServiceRowsModel", "small", "I", false)
  | 5 => ("ServiceRowsModel", "vehicles", "I", false)
  | 6 => ("ServiceRowsModel", "station", "[I", true)
  | 7 => ("ServiceRowsModel", "isSpare", "[Z", true)
  | 8 => ("ServiceRowsModel", "kilometres", "[I", true)
  | 9 => ("ServiceRowsModel", "hours", "[I", true)
  | 10 => ("ServiceRowsModel", "oil", "[I", true)
  | 11 => ("ServiceRowsModel", "rules", "I", false)
  | 12 => ("ServiceRowsModel", "interval", "[I", true)
  | 13 => ("ServiceRowsModel", "served", "[I", true)
  | 14 => ("ServiceRowsModel", "ends", "[I", true)
  | 15 => ("ServiceRowsModel", "warranty", "[I", true)
  | 16 => ("ServiceRowsModel", "defects", "I", false)
  | 17 => ("ServiceRowsModel", "defectVehicle", "[I", true)
  | 18 => ("ServiceRowsModel", "severe", "[Z", true)
  | 19 => ("ServiceRowsModel", "defectState", "[I", true)
  | 20 => ("ServiceRowsModel", "orders", "I", false)
  | 21 => ("ServiceRowsModel", "orderVehicle", "[I", true)
  | 22 => ("ServiceRowsModel", "orderDone", "[Z", true)
  | 23 => ("ServiceRowsModel", "orderCost", "[I", true)
  | 24 => ("ServiceRowsModel", "orderRule", "[Z", true)
  | 25 => ("ServiceRowsModel", "orderDefect", "[Z", true)
  | _ => ("ServiceRowsModel", "parts", "I", false)
def xF_E : u_T := fun _ => ("", "", "I", false)
def xcl : List vw_C := [("ServiceRows", xF_0, 9), ("ServiceRows$Fleet", xF_1, 8), ("ServiceRows$RuleRows", xF_2, 3), ("ServiceRows$DefectRows", xF_3, 5), ("ServiceRows$OrderRows", xF_4, 7), ("ServiceRows$DueRows", xF_5, 4), ("ServiceRowsModel", xF_6, 27), ("java/lang/IllegalArgumentException", xF_E, 0), ("java/lang/IndexOutOfBoundsException", xF_E, 0), ("java/lang/IllegalStateException", xF_E, 0), ("java/lang/UnsupportedOperationException", xF_E, 0), ("java/lang/ArithmeticException", xF_E, 0)]
def xnc : List Jvm.Cond := [(Jvm.Cond.not (Jvm.Cond.castable "java/lang/ArithmeticException" "java/lang/IllegalArgumentException")), (Jvm.Cond.not (Jvm.Cond.castable "java/lang/IllegalArgumentException" "java/lang/ArithmeticException")), (Jvm.Cond.not (Jvm.Cond.castable "java/lang/IllegalArgumentException" "java/lang/IllegalStateException")), (Jvm.Cond.not (Jvm.Cond.castable "java/lang/IllegalArgumentException" "java/lang/IndexOutOfBoundsException")), (Jvm.Cond.not (Jvm.Cond.castable "java/lang/IllegalArgumentException" "java/lang/UnsupportedOperationException")), (Jvm.Cond.not (Jvm.Cond.castable "java/lang/IllegalStateException" "java/lang/IllegalArgumentException")), (Jvm.Cond.not (Jvm.Cond.castable "java/lang/IllegalStateException" "java/lang/IndexOutOfBoundsException")), (Jvm.Cond.not (Jvm.Cond.castable "java/lang/IllegalStateException" "java/lang/UnsupportedOperationException")), (Jvm.Cond.not (Jvm.Cond.castable "java/lang/IndexOutOfBoundsException" "java/lang/IllegalArgumentException")), (Jvm.Cond.not (Jvm.Cond.castable "java/lang/IndexOutOfBoundsException" "java/lang/IllegalStateException")), (Jvm.Cond.not (Jvm.Cond.castable "java/lang/IndexOutOfBoundsException" "java/lang/UnsupportedOperationException")), (Jvm.Cond.not (Jvm.Cond.castable "java/lang/UnsupportedOperationException" "java/lang/IllegalArgumentException")), (Jvm.Cond.not (Jvm.Cond.castable "java/lang/UnsupportedOperationException" "java/lang/IllegalStateException")), (Jvm.Cond.not (Jvm.Cond.castable "java/lang/UnsupportedOperationException" "java/lang/IndexOutOfBoundsException"))]
def xts_0 : List Jvm.Cond := [(Jvm.Cond.selects "java/lang/Throwable" ({ cls := "java/lang/Throwable", name := "fillInStackTrace", desc := "(I)Ljava/lang/Throwable;" } : Jvm.MethodName) ({ cls := "java/lang/Throwable", name := "fillInStackTrace", desc := "(I)Ljava/lang/Throwable;" } : Jvm.MethodName)), (Jvm.Cond.selects "ServiceRows" ({ cls := "ServiceRows", name := "leftBy", desc := "(III)I" } : Jvm.MethodName) ({ cls := "ServiceRows", name := "leftBy", desc := "(III)I" } : Jvm.MethodName)), (Jvm.Cond.selects "ServiceRows" ({ cls := "ServiceRows", name := "nowOf", desc := "(II)I" } : Jvm.MethodName) ({ cls := "ServiceRows", name := "nowOf", desc := "(II)I" } : Jvm.MethodName)), (Jvm.Cond.selects "ServiceRows" ({ cls := "ServiceRows", name := "listDueRows", desc := "()V" } : Jvm.MethodName) ({ cls := "ServiceRows", name := "listDueRows", desc := "()V" } : Jvm.MethodName)), (Jvm.Cond.selects "ServiceRows" ({ cls := "ServiceRows", name := "leastBy", desc := "(II)I" } : Jvm.MethodName) ({ cls := "ServiceRows", name := "leastBy", desc := "(II)I" } : Jvm.MethodName)), (Jvm.Cond.selects "ServiceRows$DueRows" ({ cls := "ServiceRows$DueRows", name := "placeOf", desc := "(II)I" } : Jvm.MethodName) ({ cls := "ServiceRows$DueRows", name := "placeOf", desc := "(II)I" } : Jvm.MethodName)), (Jvm.Cond.selects "ServiceRows$DueRows" ({ cls := "ServiceRows$DueRows", name := "isBefore", desc := "(III)Z" } : Jvm.MethodName) ({ cls := "ServiceRows$DueRows", name := "isBefore", desc := "(III)Z" } : Jvm.MethodName)), (Jvm.Cond.selects "ServiceRows" ({ cls := "ServiceRows", name := "needOpen", desc := "(I)V" } : Jvm.MethodName) ({ cls := "ServiceRows", name := "needOpen", desc := "(I)V" } : Jvm.MethodName)), (Jvm.Cond.selects "ServiceRows" ({ cls := "ServiceRows", name := "takeRule", desc := "(II)V" } : Jvm.MethodName) ({ cls := "ServiceRows", name := "takeRule", desc := "(II)V" } : Jvm.MethodName)), (Jvm.Cond.selects "ServiceRows" ({ cls := "ServiceRows", name := "takeDefect", desc := "(II)V" } : Jvm.MethodName) ({ cls := "ServiceRows", name := "takeDefect", desc := "(II)V" } : Jvm.MethodName)), (Jvm.Cond.selects "ServiceRows" ({ cls := "ServiceRows", name := "isUnderWarranty", desc := "(II)Z" } : Jvm.MethodName) ({ cls := "ServiceRows", name := "isUnderWarranty", desc := "(II)Z" } : Jvm.MethodName)), (Jvm.Cond.selects "ServiceRows" ({ cls := "ServiceRows", name := "serveRules", desc := "(I)V" } : Jvm.MethodName) ({ cls := "ServiceRows", name := "serveRules", desc := "(I)V" } : Jvm.MethodName)), (Jvm.Cond.selects "ServiceRows" ({ cls := "ServiceRows", name := "reasonOf", desc := "(I)I" } : Jvm.MethodName) ({ cls := "ServiceRows", name := "reasonOf", desc := "(I)I" } : Jvm.MethodName)), (Jvm.Cond.selects "ServiceRows" ({ cls := "ServiceRows", name := "hasOverdueRule", desc := "(I)Z" } : Jvm.MethodName) ({ cls := "ServiceRows", name := "hasOverdueRule", desc := "(I)Z" } : Jvm.MethodName)), (Jvm.Cond.selects "ServiceRows" ({ cls := "ServiceRows", name := "barredOnes", desc := "()I" } : Jvm.MethodName) ({ cls := "ServiceRows", name := "barredOnes", desc := "()I" } : Jvm.MethodName)), (Jvm.Cond.selects "ServiceRowsModel" ({ cls := "ServiceRowsModel", name := "throwing", desc := "(ZZZZ)Z" } : Jvm.MethodName) ({ cls := "ServiceRowsModel", name := "throwing", desc := "(ZZZZ)Z" } : Jvm.MethodName)), (Jvm.Cond.selects "ServiceRowsModel" ({ cls := "ServiceRowsModel", name := "isVehicle", desc := "(I)Z" } : Jvm.MethodName) ({ cls := "ServiceRowsModel", name := "isVehicle", desc := "(I)Z" } : Jvm.MethodName)), (Jvm.Cond.selects "ServiceRowsModel" ({ cls := "ServiceRowsModel", name := "isRule", desc := "(I)Z" } : Jvm.MethodName) ({ cls := "ServiceRowsModel", name := "isRule", desc := "(I)Z" } : Jvm.MethodName)), (Jvm.Cond.selects "ServiceRowsModel" ({ cls := "ServiceRowsModel", name := "leftOf", desc := "(III)I" } : Jvm.MethodName) ({ cls := "ServiceRowsModel", name := "leftOf", desc := "(III)I" } : Jvm.MethodName)), (Jvm.Cond.selects "ServiceRowsModel" ({ cls := "ServiceRowsModel", name := "now", desc := "(II)I" } : Jvm.MethodName) ({ cls := "ServiceRowsModel", name := "now", desc := "(II)I" } : Jvm.MethodName)), (Jvm.Cond.selects "ServiceRowsModel" ({ cls := "ServiceRowsModel", name := "isDue", desc := "(II)Z" } : Jvm.MethodName) ({ cls := "ServiceRowsModel", name := "isDue", desc := "(II)Z" } : Jvm.MethodName)), (Jvm.Cond.selects "ServiceRowsModel" ({ cls := "ServiceRowsModel", name := "isAhead", desc := "(IIII)Z" } : Jvm.MethodName) ({ cls := "ServiceRowsModel", name := "isAhead", desc := "(IIII)Z" } : Jvm.MethodName)), (Jvm.Cond.selects "ServiceRowsModel" ({ cls := "ServiceRowsModel", name := "leastOf", desc := "(II)I" } : Jvm.MethodName) ({ cls := "ServiceRowsModel", name := "leastOf", desc := "(II)I" } : Jvm.MethodName)), (Jvm.Cond.selects "ServiceRowsModel" ({ cls := "ServiceRowsModel", name := "openOrder", desc := "(I)I" } : Jvm.MethodName) ({ cls := "ServiceRowsModel", name := "openOrder", desc := "(I)I" } : Jvm.MethodName)), (Jvm.Cond.selects "ServiceRowsModel" ({ cls := "ServiceRowsModel", name := "isOrder", desc := "(I)Z" } : Jvm.MethodName) ({ cls := "ServiceRowsModel", name := "isOrder", desc := "(I)Z" } : Jvm.MethodName)), (Jvm.Cond.selects "ServiceRowsModel" ({ cls := "ServiceRowsModel", name := "worksOf", desc := "(I)I" } : Jvm.MethodName) ({ cls := "ServiceRowsModel", name := "worksOf", desc := "(I)I" } : Jvm.MethodName)), (Jvm.Cond.selects "ServiceRowsModel" ({ cls := "ServiceRowsModel", name := "reason", desc := "(I)I" } : Jvm.MethodName) ({ cls := "ServiceRowsModel", name := "reason", desc := "(I)I" } : Jvm.MethodName)), (Jvm.Cond.initialized "ServiceRowsLaw"), (Jvm.Cond.initialized "ServiceRows"), (Jvm.Cond.initialized "ServiceRows$Fleet"), (Jvm.Cond.initialized "ServiceRows$RuleRows"), (Jvm.Cond.initialized "ServiceRows$DefectRows"), (Jvm.Cond.initialized "ServiceRows$OrderRows"), (Jvm.Cond.initialized "ServiceRows$DueRows"), (Jvm.Cond.initialized "ServiceRowsModel"), (Jvm.Cond.initialized "java/lang/Throwable"), (Jvm.Cond.initialized "java/lang/Exception"), (Jvm.Cond.initialized "java/lang/RuntimeException"), (Jvm.Cond.initialized "java/lang/IndexOutOfBoundsException"), (Jvm.Cond.initialized "java/lang/UnsupportedOperationException"), (Jvm.Cond.initialized "java/lang/IllegalArgumentException"), (Jvm.Cond.initialized "java/lang/IllegalStateException"), (Jvm.Cond.initialized "java/lang/System"), (Jvm.Cond.initialized "java/lang/Math"), (Jvm.Cond.initialized "java/lang/ArithmeticException"), (Jvm.Cond.classLink "ServiceRowsLaw" (8 : Nat) "ServiceRows"), (Jvm.Cond.instantiable "ServiceRows" (9 : Nat)), (Jvm.Cond.methodLink "ServiceRowsLaw" (95 : Nat) ({ cls := "ServiceRows", name := "<init>", desc := "()V" } : Jvm.MethodName)), (Jvm.Cond.instanceMethod ({ cls := "ServiceRows", name := "<init>", desc := "()V" } : Jvm.MethodName)), (Jvm.Cond.code ({ cls := "ServiceRows", name := "<init>", desc := "()V" } : Jvm.MethodName) prog_1_method_1_code (1 : Nat) (Option.none : Option Jvm.ClassFile.FieldType)), (Jvm.Cond.methodLink "ServiceRows" (1 : Nat) ({ cls := "java/lang/Object", name := "<init>", desc := "()V" } : Jvm.MethodName)), (Jvm.Cond.instanceMethod ({ cls := "java/lang/Object", name := "<init>", desc := "()V" } : Jvm.MethodName)), (Jvm.Cond.code ({ cls := "java/lang/Object", name := "<init>", desc := "()V" } : Jvm.MethodName) object_method_1_code (1 : Nat) (Option.none : Option Jvm.ClassFile.FieldType)), (Jvm.Cond.classLink "ServiceRows" (7 : Nat) "ServiceRows$Fleet"), (Jvm.Cond.instantiable "ServiceRows$Fleet" (8 : Nat)), (Jvm.Cond.methodLinkNest "ServiceRows" (9 : Nat) ({ cls := "ServiceRows$Fleet", name := "<init>", desc := "()V" } : Jvm.MethodName) "ServiceRows"), (Jvm.Cond.instanceMethod ({ cls := "ServiceRows$Fleet", name := "<init>", desc := "()V" } : Jvm.MethodName)), (Jvm.Cond.code ({ cls := "ServiceRows$Fleet", name := "<init>", desc := "()V" } : Jvm.MethodName) prog_4_method_1_code (1 : Nat) (Option.none : Option Jvm.ClassFile.FieldType)), (Jvm.Cond.methodLink "ServiceRows$Fleet" (3 : Nat) ({ cls := "java/lang/Object", name := "<init>", desc := "()V" } : Jvm.MethodName)), (Jvm.Cond.fieldLink "ServiceRows$Fleet" (9 : Nat) "ServiceRows$Fleet" "stations" "[I")]
def xts_1 : List Jvm.Cond := [(Jvm.Cond.fieldLink "ServiceRows$Fleet" (15 : Nat) "ServiceRows$Fleet" "spares" "[Z"), (Jvm.Cond.fieldLink "ServiceRows$Fleet" (19 : Nat) "ServiceRows$Fleet" "kilometres" "[I"), (Jvm.Cond.fieldLink "ServiceRows$Fleet" (22 : Nat) "ServiceRows$Fleet" "hours" "[I"), (Jvm.Cond.fieldLink "ServiceRows$Fleet" (25 : Nat) "ServiceRows$Fleet" "oils" "[I"), (Jvm.Cond.fieldLink "ServiceRows$Fleet" (28 : Nat) "ServiceRows$Fleet" "certificates" "[I"), (Jvm.Cond.fieldLink "ServiceRows$Fleet" (31 : Nat) "ServiceRows$Fleet" "warranties" "[I"), (Jvm.Cond.fieldLink "ServiceRows$Fleet" (34 : Nat) "ServiceRows$Fleet" "size" "I"), (Jvm.Cond.laysFinal "ServiceRows$Fleet" "ServiceRows$Fleet" "stations" "[I"), (Jvm.Cond.laysFinal "ServiceRows$Fleet" "ServiceRows$Fleet" "spares" "[Z"), (Jvm.Cond.laysFinal "ServiceRows$Fleet" "ServiceRows$Fleet" "kilometres" "[I"), (Jvm.Cond.laysFinal "ServiceRows$Fleet" "ServiceRows$Fleet" "hours" "[I"), (Jvm.Cond.laysFinal "ServiceRows$Fleet" "ServiceRows$Fleet" "oils" "[I"), (Jvm.Cond.laysFinal "ServiceRows$Fleet" "ServiceRows$Fleet" "certificates" "[I"), (Jvm.Cond.laysFinal "ServiceRows$Fleet" "ServiceRows$Fleet" "warranties" "[I"), (Jvm.Cond.lays "ServiceRows$Fleet" "ServiceRows$Fleet" "size" "I"), (Jvm.Cond.superclass "ServiceRows$Fleet" "java/lang/Object"), (Jvm.Cond.arrayClass Jvm.ClassFile.FieldType.int), (Jvm.Cond.arrayClass Jvm.ClassFile.FieldType.boolean), (Jvm.Cond.classLink "ServiceRows" (16 : Nat) "ServiceRows$RuleRows"), (Jvm.Cond.instantiable "ServiceRows$RuleRows" (3 : Nat)), (Jvm.Cond.methodLinkNest "ServiceRows" (18 : Nat) ({ cls := "ServiceRows$RuleRows", name := "<init>", desc := "()V" } : Jvm.MethodName) "ServiceRows"), (Jvm.Cond.instanceMethod ({ cls := "ServiceRows$RuleRows", name := "<init>", desc := "()V" } : Jvm.MethodName)), (Jvm.Cond.code ({ cls := "ServiceRows$RuleRows", name := "<init>", desc := "()V" } : Jvm.MethodName) prog_6_method_1_code (1 : Nat) (Option.none : Option Jvm.ClassFile.FieldType)), (Jvm.Cond.methodLink "ServiceRows$RuleRows" (3 : Nat) ({ cls := "java/lang/Object", name := "<init>", desc := "()V" } : Jvm.MethodName)), (Jvm.Cond.fieldLink "ServiceRows$RuleRows" (9 : Nat) "ServiceRows$RuleRows" "intervals" "[I"), (Jvm.Cond.fieldLink "ServiceRows$RuleRows" (15 : Nat) "ServiceRows$RuleRows" "starts" "[I"), (Jvm.Cond.fieldLink "ServiceRows$RuleRows" (18 : Nat) "ServiceRows$RuleRows" "size" "I"), (Jvm.Cond.laysFinal "ServiceRows$RuleRows" "ServiceRows$RuleRows" "intervals" "[I"), (Jvm.Cond.laysFinal "ServiceRows$RuleRows" "ServiceRows$RuleRows" "starts" "[I"), (Jvm.Cond.lays "ServiceRows$RuleRows" "ServiceRows$RuleRows" "size" "I"), (Jvm.Cond.superclass "ServiceRows$RuleRows" "java/lang/Object"), (Jvm.Cond.classLink "ServiceRows" (23 : Nat) "ServiceRows$DefectRows"), (Jvm.Cond.instantiable "ServiceRows$DefectRows" (5 : Nat)), (Jvm.Cond.methodLinkNest "ServiceRows" (25 : Nat) ({ cls := "ServiceRows$DefectRows", name := "<init>", desc := "()V" } : Jvm.MethodName) "ServiceRows"), (Jvm.Cond.instanceMethod ({ cls := "ServiceRows$DefectRows", name := "<init>", desc := "()V" } : Jvm.MethodName)), (Jvm.Cond.code ({ cls := "ServiceRows$DefectRows", name := "<init>", desc := "()V" } : Jvm.MethodName) prog_2_method_1_code (1 : Nat) (Option.none : Option Jvm.ClassFile.FieldType)), (Jvm.Cond.methodLink "ServiceRows$DefectRows" (3 : Nat) ({ cls := "java/lang/Object", name := "<init>", desc := "()V" } : Jvm.MethodName)), (Jvm.Cond.fieldLink "ServiceRows$DefectRows" (9 : Nat) "ServiceRows$DefectRows" "vehicles" "[I"), (Jvm.Cond.fieldLink "ServiceRows$DefectRows" (15 : Nat) "ServiceRows$DefectRows" "severe" "[Z"), (Jvm.Cond.fieldLink "ServiceRows$DefectRows" (19 : Nat) "ServiceRows$DefectRows" "states" "[I"), (Jvm.Cond.fieldLink "ServiceRows$DefectRows" (22 : Nat) "ServiceRows$DefectRows" "orders" "[I"), (Jvm.Cond.fieldLink "ServiceRows$DefectRows" (25 : Nat) "ServiceRows$DefectRows" "size" "I"), (Jvm.Cond.laysFinal "ServiceRows$DefectRows" "ServiceRows$DefectRows" "vehicles" "[I"), (Jvm.Cond.laysFinal "ServiceRows$DefectRows" "ServiceRows$DefectRows" "severe" "[Z"), (Jvm.Cond.laysFinal "ServiceRows$DefectRows" "ServiceRows$DefectRows" "states" "[I"), (Jvm.Cond.laysFinal "ServiceRows$DefectRows" "ServiceRows$DefectRows" "orders" "[I"), (Jvm.Cond.lays "ServiceRows$DefectRows" "ServiceRows$DefectRows" "size" "I"), (Jvm.Cond.superclass "ServiceRows$DefectRows" "java/lang/Object"), (Jvm.Cond.classLink "ServiceRows" (30 : Nat) "ServiceRows$OrderRows"), (Jvm.Cond.instantiable "ServiceRows$OrderRows" (7 : Nat)), (Jvm.Cond.methodLinkNest "ServiceRows" (32 : Nat) ({ cls := "ServiceRows$OrderRows", name := "<init>", desc := "()V" } : Jvm.MethodName) "ServiceRows"), (Jvm.Cond.instanceMethod ({ cls := "ServiceRows$OrderRows", name := "<init>", desc := "()V" } : Jvm.MethodName)), (Jvm.Cond.code ({ cls := "ServiceRows$OrderRows", name := "<init>", desc := "()V" } : Jvm.MethodName) prog_5_method_1_code (1 : Nat) (Option.none : Option Jvm.ClassFile.FieldType)), (Jvm.Cond.methodLink "ServiceRows$OrderRows" (3 : Nat) ({ cls := "java/lang/Object", name := "<init>", desc := "()V" } : Jvm.MethodName)), (Jvm.Cond.fieldLink "ServiceRows$OrderRows" (9 : Nat) "ServiceRows$OrderRows" "vehicles" "[I"), (Jvm.Cond.fieldLink "ServiceRows$OrderRows" (15 : Nat) "ServiceRows$OrderRows" "open" "[Z"), (Jvm.Cond.fieldLink "ServiceRows$OrderRows" (19 : Nat) "ServiceRows$OrderRows" "ruleMarks" "[Z"), (Jvm.Cond.fieldLink "ServiceRows$OrderRows" (22 : Nat) "ServiceRows$OrderRows" "works" "[I"), (Jvm.Cond.fieldLink "ServiceRows$OrderRows" (25 : Nat) "ServiceRows$OrderRows" "costs" "[I"), (Jvm.Cond.fieldLink "ServiceRows$OrderRows" (28 : Nat) "ServiceRows$OrderRows" "size" "I")]
def xts_2 : List Jvm.Cond := [(Jvm.Cond.fieldLink "ServiceRows$OrderRows" (32 : Nat) "ServiceRows$OrderRows" "parts" "I"), (Jvm.Cond.laysFinal "ServiceRows$OrderRows" "ServiceRows$OrderRows" "vehicles" "[I"), (Jvm.Cond.laysFinal "ServiceRows$OrderRows" "ServiceRows$OrderRows" "open" "[Z"), (Jvm.Cond.laysFinal "ServiceRows$OrderRows" "ServiceRows$OrderRows" "ruleMarks" "[Z"), (Jvm.Cond.laysFinal "ServiceRows$OrderRows" "ServiceRows$OrderRows" "works" "[I"), (Jvm.Cond.laysFinal "ServiceRows$OrderRows" "ServiceRows$OrderRows" "costs" "[I"), (Jvm.Cond.lays "ServiceRows$OrderRows" "ServiceRows$OrderRows" "size" "I"), (Jvm.Cond.lays "ServiceRows$OrderRows" "ServiceRows$OrderRows" "parts" "I"), (Jvm.Cond.superclass "ServiceRows$OrderRows" "java/lang/Object"), (Jvm.Cond.classLink "ServiceRows" (37 : Nat) "ServiceRows$DueRows"), (Jvm.Cond.instantiable "ServiceRows$DueRows" (4 : Nat)), (Jvm.Cond.methodLinkNest "ServiceRows" (39 : Nat) ({ cls := "ServiceRows$DueRows", name := "<init>", desc := "()V" } : Jvm.MethodName) "ServiceRows"), (Jvm.Cond.instanceMethod ({ cls := "ServiceRows$DueRows", name := "<init>", desc := "()V" } : Jvm.MethodName)), (Jvm.Cond.code ({ cls := "ServiceRows$DueRows", name := "<init>", desc := "()V" } : Jvm.MethodName) prog_3_method_1_code (1 : Nat) (Option.none : Option Jvm.ClassFile.FieldType)), (Jvm.Cond.methodLink "ServiceRows$DueRows" (3 : Nat) ({ cls := "java/lang/Object", name := "<init>", desc := "()V" } : Jvm.MethodName)), (Jvm.Cond.fieldLink "ServiceRows$DueRows" (9 : Nat) "ServiceRows$DueRows" "slots" "[I"), (Jvm.Cond.fieldLink "ServiceRows$DueRows" (15 : Nat) "ServiceRows$DueRows" "uppers" "[I"), (Jvm.Cond.fieldLink "ServiceRows$DueRows" (18 : Nat) "ServiceRows$DueRows" "lowers" "[I"), (Jvm.Cond.fieldLink "ServiceRows$DueRows" (21 : Nat) "ServiceRows$DueRows" "size" "I"), (Jvm.Cond.laysFinal "ServiceRows$DueRows" "ServiceRows$DueRows" "slots" "[I"), (Jvm.Cond.laysFinal "ServiceRows$DueRows" "ServiceRows$DueRows" "uppers" "[I"), (Jvm.Cond.laysFinal "ServiceRows$DueRows" "ServiceRows$DueRows" "lowers" "[I"), (Jvm.Cond.lays "ServiceRows$DueRows" "ServiceRows$DueRows" "size" "I"), (Jvm.Cond.superclass "ServiceRows$DueRows" "java/lang/Object"), (Jvm.Cond.fieldLink "ServiceRows" (10 : Nat) "ServiceRows" "fleet" "LServiceRows$Fleet;"), (Jvm.Cond.fieldLink "ServiceRows" (19 : Nat) "ServiceRows" "rules" "LServiceRows$RuleRows;"), (Jvm.Cond.fieldLink "ServiceRows" (26 : Nat) "ServiceRows" "defects" "LServiceRows$DefectRows;"), (Jvm.Cond.fieldLink "ServiceRows" (33 : Nat) "ServiceRows" "orders" "LServiceRows$OrderRows;"), (Jvm.Cond.fieldLink "ServiceRows" (40 : Nat) "ServiceRows" "dueRows" "LServiceRows$DueRows;"), (Jvm.Cond.fieldLink "ServiceRows" (44 : Nat) "ServiceRows" "today" "I"), (Jvm.Cond.fieldLink "ServiceRows" (48 : Nat) "ServiceRows" "money" "I"), (Jvm.Cond.fieldLink "ServiceRows" (51 : Nat) "ServiceRows" "smallLimit" "I"), (Jvm.Cond.fieldLink "ServiceRows" (54 : Nat) "ServiceRows" "lowerReadings" "I"), (Jvm.Cond.laysFinal "ServiceRows" "ServiceRows" "fleet" "LServiceRows$Fleet;"), (Jvm.Cond.laysFinal "ServiceRows" "ServiceRows" "rules" "LServiceRows$RuleRows;"), (Jvm.Cond.laysFinal "ServiceRows" "ServiceRows" "defects" "LServiceRows$DefectRows;"), (Jvm.Cond.laysFinal "ServiceRows" "ServiceRows" "orders" "LServiceRows$OrderRows;"), (Jvm.Cond.laysFinal "ServiceRows" "ServiceRows" "dueRows" "LServiceRows$DueRows;"), (Jvm.Cond.lays "ServiceRows" "ServiceRows" "today" "I"), (Jvm.Cond.lays "ServiceRows" "ServiceRows" "money" "I"), (Jvm.Cond.lays "ServiceRows" "ServiceRows" "smallLimit" "I"), (Jvm.Cond.lays "ServiceRows" "ServiceRows" "lowerReadings" "I"), (Jvm.Cond.superclass "ServiceRows" "java/lang/Object"), (Jvm.Cond.methodLink "ServiceRowsLaw" (99 : Nat) ({ cls := "ServiceRowsLaw", name := "vehicle", desc := "(LServiceRows;IZ[J)I" } : Jvm.MethodName)), (Jvm.Cond.static ({ cls := "ServiceRowsLaw", name := "vehicle", desc := "(LServiceRows;IZ[J)I" } : Jvm.MethodName)), (Jvm.Cond.codeWith ({ cls := "ServiceRowsLaw", name := "vehicle", desc := "(LServiceRows;IZ[J)I" } : Jvm.MethodName) method_3_code (5 : Nat) (Option.some Jvm.ClassFile.FieldType.int) [((0 : Nat), (10 : Nat), (13 : Nat), (13 : Nat)), ((0 : Nat), (10 : Nat), (17 : Nat), (15 : Nat))]), (Jvm.Cond.classLink "ServiceRowsLaw" (13 : Nat) "java/lang/IndexOutOfBoundsException"), (Jvm.Cond.classLink "ServiceRowsLaw" (15 : Nat) "java/lang/UnsupportedOperationException"), (Jvm.Cond.methodLink "ServiceRowsLaw" (7 : Nat) ({ cls := "ServiceRows", name := "vehicle", desc := "(IZ)I" } : Jvm.MethodName)), (Jvm.Cond.instanceMethod ({ cls := "ServiceRows", name := "vehicle", desc := "(IZ)I" } : Jvm.MethodName)), (Jvm.Cond.selects "ServiceRows" ({ cls := "ServiceRows", name := "vehicle", desc := "(IZ)I" } : Jvm.MethodName) ({ cls := "ServiceRows", name := "vehicle", desc := "(IZ)I" } : Jvm.MethodName)), (Jvm.Cond.code ({ cls := "ServiceRows", name := "vehicle", desc := "(IZ)I" } : Jvm.MethodName) prog_1_method_2_code (4 : Nat) (Option.some Jvm.ClassFile.FieldType.int)), (Jvm.Cond.methodLink "ServiceRows" (57 : Nat) ({ cls := "ServiceRows", name := "needRange", desc := "(III)V" } : Jvm.MethodName)), (Jvm.Cond.static ({ cls := "ServiceRows", name := "needRange", desc := "(III)V" } : Jvm.MethodName)), (Jvm.Cond.code ({ cls := "ServiceRows", name := "needRange", desc := "(III)V" } : Jvm.MethodName) prog_1_method_25_code (3 : Nat) (Option.none : Option Jvm.ClassFile.FieldType)), (Jvm.Cond.classLink "ServiceRows" (77 : Nat) "java/lang/IndexOutOfBoundsException"), (Jvm.Cond.instantiable "java/lang/IndexOutOfBoundsException" (6 : Nat)), (Jvm.Cond.castable "java/lang/IndexOutOfBoundsException" "java/lang/IndexOutOfBoundsException"), (Jvm.Cond.declares ({ cls := "java/lang/RuntimeException", name := "<init>", desc := "()V" } : Jvm.MethodName)), (Jvm.Cond.declares ({ cls := "java/lang/RuntimeException", name := "<init>", desc := "(Ljava/lang/String;)V" } : Jvm.MethodName))]
def xts_3 : List Jvm.Cond := [(Jvm.Cond.declares ({ cls := "java/lang/Exception", name := "<init>", desc := "()V" } : Jvm.MethodName)), (Jvm.Cond.declares ({ cls := "java/lang/Exception", name := "<init>", desc := "(Ljava/lang/String;)V" } : Jvm.MethodName)), (Jvm.Cond.declares ({ cls := "java/lang/Throwable", name := "<init>", desc := "()V" } : Jvm.MethodName)), (Jvm.Cond.declares ({ cls := "java/lang/Throwable", name := "<init>", desc := "(Ljava/lang/String;)V" } : Jvm.MethodName)), (Jvm.Cond.selects "java/lang/IndexOutOfBoundsException" ({ cls := "java/lang/Throwable", name := "fillInStackTrace", desc := "(I)Ljava/lang/Throwable;" } : Jvm.MethodName) ({ cls := "java/lang/Throwable", name := "fillInStackTrace", desc := "(I)Ljava/lang/Throwable;" } : Jvm.MethodName)), (Jvm.Cond.selects "java/lang/IndexOutOfBoundsException" ({ cls := "java/lang/Throwable", name := "fillInStackTrace", desc := "()Ljava/lang/Throwable;" } : Jvm.MethodName) ({ cls := "java/lang/Throwable", name := "fillInStackTrace", desc := "()Ljava/lang/Throwable;" } : Jvm.MethodName)), (Jvm.Cond.lays "java/lang/IndexOutOfBoundsException" "java/lang/Throwable" "cause" "Ljava/lang/Throwable;"), (Jvm.Cond.lays "java/lang/Throwable" "java/lang/Throwable" "cause" "Ljava/lang/Throwable;"), (Jvm.Cond.lays "java/lang/IndexOutOfBoundsException" "java/lang/Throwable" "stackTrace" "[Ljava/lang/StackTraceElement;"), (Jvm.Cond.lays "java/lang/Throwable" "java/lang/Throwable" "stackTrace" "[Ljava/lang/StackTraceElement;"), (Jvm.Cond.lays "java/lang/IndexOutOfBoundsException" "java/lang/Throwable" "suppressedExceptions" "Ljava/util/List;"), (Jvm.Cond.lays "java/lang/Throwable" "java/lang/Throwable" "suppressedExceptions" "Ljava/util/List;"), (Jvm.Cond.lays "java/lang/IndexOutOfBoundsException" "java/lang/Throwable" "detailMessage" "Ljava/lang/String;"), (Jvm.Cond.lays "java/lang/Throwable" "java/lang/Throwable" "detailMessage" "Ljava/lang/String;"), (Jvm.Cond.lays "java/lang/IndexOutOfBoundsException" "java/lang/Throwable" "backtrace" "Ljava/lang/Object;"), (Jvm.Cond.lays "java/lang/Throwable" "java/lang/Throwable" "backtrace" "Ljava/lang/Object;"), (Jvm.Cond.fieldLink "java/lang/Throwable" (198 : Nat) "java/lang/Throwable" "backtrace" "Ljava/lang/Object;"), (Jvm.Cond.superclass "java/lang/Throwable" "java/lang/Object"), (Jvm.Cond.instanceMethod ({ cls := "java/lang/Throwable", name := "<init>", desc := "()V" } : Jvm.MethodName)), (Jvm.Cond.code ({ cls := "java/lang/Throwable", name := "<init>", desc := "()V" } : Jvm.MethodName) prog_18_method_1_code (1 : Nat) (Option.none : Option Jvm.ClassFile.FieldType)), (Jvm.Cond.methodLink "java/lang/Throwable" (1 : Nat) ({ cls := "java/lang/Object", name := "<init>", desc := "()V" } : Jvm.MethodName)), (Jvm.Cond.fieldLink "java/lang/Throwable" (13 : Nat) "java/lang/Throwable" "UNASSIGNED_STACK" "[Ljava/lang/StackTraceElement;"), (Jvm.Cond.fieldLink "java/lang/Throwable" (20 : Nat) "java/lang/Throwable" "SUPPRESSED_SENTINEL" "Ljava/util/List;"), (Jvm.Cond.methodLink "java/lang/Throwable" (27 : Nat) ({ cls := "java/lang/Throwable", name := "fillInStackTrace", desc := "()Ljava/lang/Throwable;" } : Jvm.MethodName)), (Jvm.Cond.instanceMethod ({ cls := "java/lang/Throwable", name := "fillInStackTrace", desc := "()Ljava/lang/Throwable;" } : Jvm.MethodName)), (Jvm.Cond.selects "java/lang/ArithmeticException" ({ cls := "java/lang/Throwable", name := "fillInStackTrace", desc := "()Ljava/lang/Throwable;" } : Jvm.MethodName) ({ cls := "java/lang/Throwable", name := "fillInStackTrace", desc := "()Ljava/lang/Throwable;" } : Jvm.MethodName)), (Jvm.Cond.selects "java/lang/IllegalArgumentException" ({ cls := "java/lang/Throwable", name := "fillInStackTrace", desc := "()Ljava/lang/Throwable;" } : Jvm.MethodName) ({ cls := "java/lang/Throwable", name := "fillInStackTrace", desc := "()Ljava/lang/Throwable;" } : Jvm.MethodName)), (Jvm.Cond.selects "java/lang/IllegalStateException" ({ cls := "java/lang/Throwable", name := "fillInStackTrace", desc := "()Ljava/lang/Throwable;" } : Jvm.MethodName) ({ cls := "java/lang/Throwable", name := "fillInStackTrace", desc := "()Ljava/lang/Throwable;" } : Jvm.MethodName)), (Jvm.Cond.selects "java/lang/UnsupportedOperationException" ({ cls := "java/lang/Throwable", name := "fillInStackTrace", desc := "()Ljava/lang/Throwable;" } : Jvm.MethodName) ({ cls := "java/lang/Throwable", name := "fillInStackTrace", desc := "()Ljava/lang/Throwable;" } : Jvm.MethodName)), (Jvm.Cond.codeSync ({ cls := "java/lang/Throwable", name := "fillInStackTrace", desc := "()Ljava/lang/Throwable;" } : Jvm.MethodName) prog_18_method_18_code (1 : Nat) (Option.some (Jvm.ClassFile.FieldType.object "java/lang/Throwable"))), (Jvm.Cond.methodLink "java/lang/Throwable" (202 : Nat) ({ cls := "java/lang/Throwable", name := "fillInStackTrace", desc := "(I)Ljava/lang/Throwable;" } : Jvm.MethodName)), (Jvm.Cond.instanceMethod ({ cls := "java/lang/Throwable", name := "fillInStackTrace", desc := "(I)Ljava/lang/Throwable;" } : Jvm.MethodName)), (Jvm.Cond.instantiable "java/lang/Throwable" (6 : Nat)), (Jvm.Cond.native ({ cls := "java/lang/Throwable", name := "fillInStackTrace", desc := "(I)Ljava/lang/Throwable;" } : Jvm.MethodName)), (Jvm.Cond.stringRef "ServiceRows" (240 : Nat) "a number outside its range"), (Jvm.Cond.methodLink "ServiceRows" (81 : Nat) ({ cls := "java/lang/IndexOutOfBoundsException", name := "<init>", desc := "(Ljava/lang/String;)V" } : Jvm.MethodName)), (Jvm.Cond.instanceMethod ({ cls := "java/lang/IndexOutOfBoundsException", name := "<init>", desc := "(Ljava/lang/String;)V" } : Jvm.MethodName)), (Jvm.Cond.code ({ cls := "java/lang/IndexOutOfBoundsException", name := "<init>", desc := "(Ljava/lang/String;)V" } : Jvm.MethodName) prog_13_method_2_code (2 : Nat) (Option.none : Option Jvm.ClassFile.FieldType)), (Jvm.Cond.methodLink "java/lang/IndexOutOfBoundsException" (7 : Nat) ({ cls := "java/lang/RuntimeException", name := "<init>", desc := "(Ljava/lang/String;)V" } : Jvm.MethodName)), (Jvm.Cond.instanceMethod ({ cls := "java/lang/RuntimeException", name := "<init>", desc := "(Ljava/lang/String;)V" } : Jvm.MethodName)), (Jvm.Cond.code ({ cls := "java/lang/RuntimeException", name := "<init>", desc := "(Ljava/lang/String;)V" } : Jvm.MethodName) prog_15_method_2_code (2 : Nat) (Option.none : Option Jvm.ClassFile.FieldType)), (Jvm.Cond.methodLink "java/lang/RuntimeException" (7 : Nat) ({ cls := "java/lang/Exception", name := "<init>", desc := "(Ljava/lang/String;)V" } : Jvm.MethodName)), (Jvm.Cond.instanceMethod ({ cls := "java/lang/Exception", name := "<init>", desc := "(Ljava/lang/String;)V" } : Jvm.MethodName)), (Jvm.Cond.code ({ cls := "java/lang/Exception", name := "<init>", desc := "(Ljava/lang/String;)V" } : Jvm.MethodName) prog_10_method_2_code (2 : Nat) (Option.none : Option Jvm.ClassFile.FieldType)), (Jvm.Cond.methodLink "java/lang/Exception" (7 : Nat) ({ cls := "java/lang/Throwable", name := "<init>", desc := "(Ljava/lang/String;)V" } : Jvm.MethodName)), (Jvm.Cond.instanceMethod ({ cls := "java/lang/Throwable", name := "<init>", desc := "(Ljava/lang/String;)V" } : Jvm.MethodName)), (Jvm.Cond.code ({ cls := "java/lang/Throwable", name := "<init>", desc := "(Ljava/lang/String;)V" } : Jvm.MethodName) prog_18_method_2_code (2 : Nat) (Option.none : Option Jvm.ClassFile.FieldType)), (Jvm.Cond.fieldLink "java/lang/Throwable" (198 : Nat) "java/lang/Throwable" "backtrace" "Ljava/lang/Object;"), (Jvm.Cond.fieldLink "java/lang/Throwable" (31 : Nat) "java/lang/Throwable" "detailMessage" "Ljava/lang/String;"), (Jvm.Cond.fieldLink "java/lang/Throwable" (7 : Nat) "java/lang/Throwable" "cause" "Ljava/lang/Throwable;"), (Jvm.Cond.fieldLink "java/lang/Throwable" (17 : Nat) "java/lang/Throwable" "stackTrace" "[Ljava/lang/StackTraceElement;"), (Jvm.Cond.fieldLink "java/lang/Throwable" (24 : Nat) "java/lang/Throwable" "suppressedExceptions" "Ljava/util/List;"), (Jvm.Cond.lays "java/lang/IndexOutOfBoundsException" "java/lang/Throwable" "depth" "I"), (Jvm.Cond.superclass "java/lang/IndexOutOfBoundsException" "java/lang/RuntimeException"), (Jvm.Cond.arrayClass Jvm.ClassFile.FieldType.byte), (Jvm.Cond.methodLink "ServiceRows" (61 : Nat) ({ cls := "ServiceRows$Fleet", name := "size", desc := "()I" } : Jvm.MethodName)), (Jvm.Cond.instanceMethod ({ cls := "ServiceRows$Fleet", name := "size", desc := "()I" } : Jvm.MethodName)), (Jvm.Cond.selects "ServiceRows$Fleet" ({ cls := "ServiceRows$Fleet", name := "size", desc := "()I" } : Jvm.MethodName) ({ cls := "ServiceRows$Fleet", name := "size", desc := "()I" } : Jvm.MethodName)), (Jvm.Cond.code ({ cls := "ServiceRows$Fleet", name := "size", desc := "()I" } : Jvm.MethodName) prog_4_method_2_code (1 : Nat) (Option.some Jvm.ClassFile.FieldType.int)), (Jvm.Cond.methodLink "ServiceRows" (65 : Nat) ({ cls := "ServiceRows", name := "needRoom", desc := "(II)V" } : Jvm.MethodName))]
def xts_4 : List Jvm.Cond := [(Jvm.Cond.static ({ cls := "ServiceRows", name := "needRoom", desc := "(II)V" } : Jvm.MethodName)), (Jvm.Cond.code ({ cls := "ServiceRows", name := "needRoom", desc := "(II)V" } : Jvm.MethodName) prog_1_method_26_code (2 : Nat) (Option.none : Option Jvm.ClassFile.FieldType)), (Jvm.Cond.classLink "ServiceRows" (173 : Nat) "java/lang/UnsupportedOperationException"), (Jvm.Cond.instantiable "java/lang/UnsupportedOperationException" (6 : Nat)), (Jvm.Cond.castable "java/lang/UnsupportedOperationException" "java/lang/UnsupportedOperationException"), (Jvm.Cond.selects "java/lang/UnsupportedOperationException" ({ cls := "java/lang/Throwable", name := "fillInStackTrace", desc := "(I)Ljava/lang/Throwable;" } : Jvm.MethodName) ({ cls := "java/lang/Throwable", name := "fillInStackTrace", desc := "(I)Ljava/lang/Throwable;" } : Jvm.MethodName)), (Jvm.Cond.lays "java/lang/UnsupportedOperationException" "java/lang/Throwable" "cause" "Ljava/lang/Throwable;"), (Jvm.Cond.lays "java/lang/UnsupportedOperationException" "java/lang/Throwable" "stackTrace" "[Ljava/lang/StackTraceElement;"), (Jvm.Cond.lays "java/lang/UnsupportedOperationException" "java/lang/Throwable" "suppressedExceptions" "Ljava/util/List;"), (Jvm.Cond.lays "java/lang/UnsupportedOperationException" "java/lang/Throwable" "detailMessage" "Ljava/lang/String;"), (Jvm.Cond.lays "java/lang/UnsupportedOperationException" "java/lang/Throwable" "backtrace" "Ljava/lang/Object;"), (Jvm.Cond.stringRef "ServiceRows" (242 : Nat) "no room"), (Jvm.Cond.methodLink "ServiceRows" (177 : Nat) ({ cls := "java/lang/UnsupportedOperationException", name := "<init>", desc := "(Ljava/lang/String;)V" } : Jvm.MethodName)), (Jvm.Cond.instanceMethod ({ cls := "java/lang/UnsupportedOperationException", name := "<init>", desc := "(Ljava/lang/String;)V" } : Jvm.MethodName)), (Jvm.Cond.code ({ cls := "java/lang/UnsupportedOperationException", name := "<init>", desc := "(Ljava/lang/String;)V" } : Jvm.MethodName) prog_19_method_2_code (2 : Nat) (Option.none : Option Jvm.ClassFile.FieldType)), (Jvm.Cond.methodLink "java/lang/UnsupportedOperationException" (7 : Nat) ({ cls := "java/lang/RuntimeException", name := "<init>", desc := "(Ljava/lang/String;)V" } : Jvm.MethodName)), (Jvm.Cond.lays "java/lang/UnsupportedOperationException" "java/lang/Throwable" "depth" "I"), (Jvm.Cond.superclass "java/lang/UnsupportedOperationException" "java/lang/RuntimeException"), (Jvm.Cond.methodLink "ServiceRows" (69 : Nat) ({ cls := "ServiceRows$Fleet", name := "add", desc := "(IZ)I" } : Jvm.MethodName)), (Jvm.Cond.instanceMethod ({ cls := "ServiceRows$Fleet", name := "add", desc := "(IZ)I" } : Jvm.MethodName)), (Jvm.Cond.selects "ServiceRows$Fleet" ({ cls := "ServiceRows$Fleet", name := "add", desc := "(IZ)I" } : Jvm.MethodName) ({ cls := "ServiceRows$Fleet", name := "add", desc := "(IZ)I" } : Jvm.MethodName)), (Jvm.Cond.code ({ cls := "ServiceRows$Fleet", name := "add", desc := "(IZ)I" } : Jvm.MethodName) prog_4_method_3_code (4 : Nat) (Option.some Jvm.ClassFile.FieldType.int)), (Jvm.Cond.methodLink "ServiceRows$Fleet" (38 : Nat) ({ cls := "ServiceRows$Fleet", name := "setCertificate", desc := "(III)V" } : Jvm.MethodName)), (Jvm.Cond.instanceMethod ({ cls := "ServiceRows$Fleet", name := "setCertificate", desc := "(III)V" } : Jvm.MethodName)), (Jvm.Cond.selects "ServiceRows$Fleet" ({ cls := "ServiceRows$Fleet", name := "setCertificate", desc := "(III)V" } : Jvm.MethodName) ({ cls := "ServiceRows$Fleet", name := "setCertificate", desc := "(III)V" } : Jvm.MethodName)), (Jvm.Cond.code ({ cls := "ServiceRows$Fleet", name := "setCertificate", desc := "(III)V" } : Jvm.MethodName) prog_4_method_11_code (4 : Nat) (Option.none : Option Jvm.ClassFile.FieldType)), (Jvm.Cond.methodLink "ServiceRows" (73 : Nat) ({ cls := "ServiceRows$RuleRows", name := "startVehicle", desc := "(II)V" } : Jvm.MethodName)), (Jvm.Cond.instanceMethod ({ cls := "ServiceRows$RuleRows", name := "startVehicle", desc := "(II)V" } : Jvm.MethodName)), (Jvm.Cond.selects "ServiceRows$RuleRows" ({ cls := "ServiceRows$RuleRows", name := "startVehicle", desc := "(II)V" } : Jvm.MethodName) ({ cls := "ServiceRows$RuleRows", name := "startVehicle", desc := "(II)V" } : Jvm.MethodName)), (Jvm.Cond.code ({ cls := "ServiceRows$RuleRows", name := "startVehicle", desc := "(II)V" } : Jvm.MethodName) prog_6_method_4_code (4 : Nat) (Option.none : Option Jvm.ClassFile.FieldType)), (Jvm.Cond.methodLink "ServiceRows$RuleRows" (22 : Nat) ({ cls := "ServiceRows$RuleRows", name := "setSince", desc := "(IIII)V" } : Jvm.MethodName)), (Jvm.Cond.instanceMethod ({ cls := "ServiceRows$RuleRows", name := "setSince", desc := "(IIII)V" } : Jvm.MethodName)), (Jvm.Cond.selects "ServiceRows$RuleRows" ({ cls := "ServiceRows$RuleRows", name := "setSince", desc := "(IIII)V" } : Jvm.MethodName) ({ cls := "ServiceRows$RuleRows", name := "setSince", desc := "(IIII)V" } : Jvm.MethodName)), (Jvm.Cond.code ({ cls := "ServiceRows$RuleRows", name := "setSince", desc := "(IIII)V" } : Jvm.MethodName) prog_6_method_8_code (5 : Nat) (Option.none : Option Jvm.ClassFile.FieldType)), (Jvm.Cond.methodLink "ServiceRowsLaw" (109 : Nat) ({ cls := "ServiceRowsLaw", name := "rule", desc := "(LServiceRows;III[J)I" } : Jvm.MethodName)), (Jvm.Cond.static ({ cls := "ServiceRowsLaw", name := "rule", desc := "(LServiceRows;III[J)I" } : Jvm.MethodName)), (Jvm.Cond.codeWith ({ cls := "ServiceRowsLaw", name := "rule", desc := "(LServiceRows;III[J)I" } : Jvm.MethodName) method_4_code (6 : Nat) (Option.some Jvm.ClassFile.FieldType.int) [((0 : Nat), (12 : Nat), (15 : Nat), (13 : Nat)), ((0 : Nat), (12 : Nat), (19 : Nat), (15 : Nat))]), (Jvm.Cond.methodLink "ServiceRowsLaw" (17 : Nat) ({ cls := "ServiceRows", name := "rule", desc := "(III)I" } : Jvm.MethodName)), (Jvm.Cond.instanceMethod ({ cls := "ServiceRows", name := "rule", desc := "(III)I" } : Jvm.MethodName)), (Jvm.Cond.selects "ServiceRows" ({ cls := "ServiceRows", name := "rule", desc := "(III)I" } : Jvm.MethodName) ({ cls := "ServiceRows", name := "rule", desc := "(III)I" } : Jvm.MethodName)), (Jvm.Cond.code ({ cls := "ServiceRows", name := "rule", desc := "(III)I" } : Jvm.MethodName) prog_1_method_3_code (4 : Nat) (Option.some Jvm.ClassFile.FieldType.int)), (Jvm.Cond.constant "ServiceRows" (76 : Nat) (100000 : Int32)), (Jvm.Cond.stringRef "ServiceRows" (79 : Nat) "a rule needs an interval"), (Jvm.Cond.methodLink "ServiceRows" (84 : Nat) ({ cls := "ServiceRows$RuleRows", name := "size", desc := "()I" } : Jvm.MethodName)), (Jvm.Cond.instanceMethod ({ cls := "ServiceRows$RuleRows", name := "size", desc := "()I" } : Jvm.MethodName)), (Jvm.Cond.selects "ServiceRows$RuleRows" ({ cls := "ServiceRows$RuleRows", name := "size", desc := "()I" } : Jvm.MethodName) ({ cls := "ServiceRows$RuleRows", name := "size", desc := "()I" } : Jvm.MethodName)), (Jvm.Cond.code ({ cls := "ServiceRows$RuleRows", name := "size", desc := "()I" } : Jvm.MethodName) prog_6_method_2_code (1 : Nat) (Option.some Jvm.ClassFile.FieldType.int)), (Jvm.Cond.methodLink "ServiceRows" (85 : Nat) ({ cls := "ServiceRows$RuleRows", name := "add", desc := "(III)I" } : Jvm.MethodName)), (Jvm.Cond.instanceMethod ({ cls := "ServiceRows$RuleRows", name := "add", desc := "(III)I" } : Jvm.MethodName)), (Jvm.Cond.selects "ServiceRows$RuleRows" ({ cls := "ServiceRows$RuleRows", name := "add", desc := "(III)I" } : Jvm.MethodName) ({ cls := "ServiceRows$RuleRows", name := "add", desc := "(III)I" } : Jvm.MethodName)), (Jvm.Cond.code ({ cls := "ServiceRows$RuleRows", name := "add", desc := "(III)I" } : Jvm.MethodName) prog_6_method_3_code (4 : Nat) (Option.some Jvm.ClassFile.FieldType.int)), (Jvm.Cond.methodLink "ServiceRowsLaw" (113 : Nat) ({ cls := "ServiceRowsLaw", name := "small", desc := "(LServiceRows;I)I" } : Jvm.MethodName)), (Jvm.Cond.static ({ cls := "ServiceRowsLaw", name := "small", desc := "(LServiceRows;I)I" } : Jvm.MethodName)), (Jvm.Cond.codeWith ({ cls := "ServiceRowsLaw", name := "small", desc := "(LServiceRows;I)I" } : Jvm.MethodName) method_5_code (3 : Nat) (Option.some Jvm.ClassFile.FieldType.int) [((0 : Nat), (5 : Nat), (8 : Nat), (13 : Nat))]), (Jvm.Cond.methodLink "ServiceRowsLaw" (21 : Nat) ({ cls := "ServiceRows", name := "small", desc := "(I)V" } : Jvm.MethodName)), (Jvm.Cond.instanceMethod ({ cls := "ServiceRows", name := "small", desc := "(I)V" } : Jvm.MethodName)), (Jvm.Cond.selects "ServiceRows" ({ cls := "ServiceRows", name := "small", desc := "(I)V" } : Jvm.MethodName) ({ cls := "ServiceRows", name := "small", desc := "(I)V" } : Jvm.MethodName)), (Jvm.Cond.code ({ cls := "ServiceRows", name := "small", desc := "(I)V" } : Jvm.MethodName) prog_1_method_4_code (2 : Nat) (Option.none : Option Jvm.ClassFile.FieldType)), (Jvm.Cond.methodLink "ServiceRowsLaw" (117 : Nat) ({ cls := "ServiceRowsLaw", name := "day", desc := "(LServiceRows;I)I" } : Jvm.MethodName)), (Jvm.Cond.static ({ cls := "ServiceRowsLaw", name := "day", desc := "(LServiceRows;I)I" } : Jvm.MethodName))]
def xts_5 : List Jvm.Cond := [(Jvm.Cond.codeWith ({ cls := "ServiceRowsLaw", name := "day", desc := "(LServiceRows;I)I" } : Jvm.MethodName) method_6_code (3 : Nat) (Option.some Jvm.ClassFile.FieldType.int) [((0 : Nat), (5 : Nat), (8 : Nat), (13 : Nat))]), (Jvm.Cond.methodLink "ServiceRowsLaw" (25 : Nat) ({ cls := "ServiceRows", name := "day", desc := "(I)V" } : Jvm.MethodName)), (Jvm.Cond.instanceMethod ({ cls := "ServiceRows", name := "day", desc := "(I)V" } : Jvm.MethodName)), (Jvm.Cond.selects "ServiceRows" ({ cls := "ServiceRows", name := "day", desc := "(I)V" } : Jvm.MethodName) ({ cls := "ServiceRows", name := "day", desc := "(I)V" } : Jvm.MethodName)), (Jvm.Cond.code ({ cls := "ServiceRows", name := "day", desc := "(I)V" } : Jvm.MethodName) prog_1_method_5_code (2 : Nat) (Option.none : Option Jvm.ClassFile.FieldType)), (Jvm.Cond.constant "ServiceRows" (88 : Nat) (99999 : Int32)), (Jvm.Cond.methodLink "ServiceRowsLaw" (120 : Nat) ({ cls := "ServiceRowsLaw", name := "read", desc := "(LServiceRows;III)I" } : Jvm.MethodName)), (Jvm.Cond.static ({ cls := "ServiceRowsLaw", name := "read", desc := "(LServiceRows;III)I" } : Jvm.MethodName)), (Jvm.Cond.codeWith ({ cls := "ServiceRowsLaw", name := "read", desc := "(LServiceRows;III)I" } : Jvm.MethodName) method_7_code (5 : Nat) (Option.some Jvm.ClassFile.FieldType.int) [((0 : Nat), (7 : Nat), (10 : Nat), (32 : Nat)), ((0 : Nat), (7 : Nat), (14 : Nat), (13 : Nat)), ((0 : Nat), (7 : Nat), (18 : Nat), (34 : Nat))]), (Jvm.Cond.classLink "ServiceRowsLaw" (32 : Nat) "java/lang/IllegalArgumentException"), (Jvm.Cond.classLink "ServiceRowsLaw" (34 : Nat) "java/lang/IllegalStateException"), (Jvm.Cond.methodLink "ServiceRowsLaw" (28 : Nat) ({ cls := "ServiceRows", name := "read", desc := "(III)V" } : Jvm.MethodName)), (Jvm.Cond.instanceMethod ({ cls := "ServiceRows", name := "read", desc := "(III)V" } : Jvm.MethodName)), (Jvm.Cond.selects "ServiceRows" ({ cls := "ServiceRows", name := "read", desc := "(III)V" } : Jvm.MethodName) ({ cls := "ServiceRows", name := "read", desc := "(III)V" } : Jvm.MethodName)), (Jvm.Cond.code ({ cls := "ServiceRows", name := "read", desc := "(III)V" } : Jvm.MethodName) prog_1_method_6_code (4 : Nat) (Option.none : Option Jvm.ClassFile.FieldType)), (Jvm.Cond.methodLink "ServiceRows" (89 : Nat) ({ cls := "ServiceRows", name := "needKnown", desc := "(II)V" } : Jvm.MethodName)), (Jvm.Cond.static ({ cls := "ServiceRows", name := "needKnown", desc := "(II)V" } : Jvm.MethodName)), (Jvm.Cond.code ({ cls := "ServiceRows", name := "needKnown", desc := "(II)V" } : Jvm.MethodName) prog_1_method_24_code (2 : Nat) (Option.none : Option Jvm.ClassFile.FieldType)), (Jvm.Cond.classLink "ServiceRows" (227 : Nat) "java/lang/IllegalArgumentException"), (Jvm.Cond.instantiable "java/lang/IllegalArgumentException" (6 : Nat)), (Jvm.Cond.castable "java/lang/IllegalArgumentException" "java/lang/IllegalArgumentException"), (Jvm.Cond.selects "java/lang/IllegalArgumentException" ({ cls := "java/lang/Throwable", name := "fillInStackTrace", desc := "(I)Ljava/lang/Throwable;" } : Jvm.MethodName) ({ cls := "java/lang/Throwable", name := "fillInStackTrace", desc := "(I)Ljava/lang/Throwable;" } : Jvm.MethodName)), (Jvm.Cond.lays "java/lang/IllegalArgumentException" "java/lang/Throwable" "cause" "Ljava/lang/Throwable;"), (Jvm.Cond.lays "java/lang/IllegalArgumentException" "java/lang/Throwable" "stackTrace" "[Ljava/lang/StackTraceElement;"), (Jvm.Cond.lays "java/lang/IllegalArgumentException" "java/lang/Throwable" "suppressedExceptions" "Ljava/util/List;"), (Jvm.Cond.lays "java/lang/IllegalArgumentException" "java/lang/Throwable" "detailMessage" "Ljava/lang/String;"), (Jvm.Cond.lays "java/lang/IllegalArgumentException" "java/lang/Throwable" "backtrace" "Ljava/lang/Object;"), (Jvm.Cond.stringRef "ServiceRows" (238 : Nat) "an unknown number"), (Jvm.Cond.methodLink "ServiceRows" (231 : Nat) ({ cls := "java/lang/IllegalArgumentException", name := "<init>", desc := "(Ljava/lang/String;)V" } : Jvm.MethodName)), (Jvm.Cond.instanceMethod ({ cls := "java/lang/IllegalArgumentException", name := "<init>", desc := "(Ljava/lang/String;)V" } : Jvm.MethodName)), (Jvm.Cond.code ({ cls := "java/lang/IllegalArgumentException", name := "<init>", desc := "(Ljava/lang/String;)V" } : Jvm.MethodName) prog_11_method_2_code (2 : Nat) (Option.none : Option Jvm.ClassFile.FieldType)), (Jvm.Cond.methodLink "java/lang/IllegalArgumentException" (7 : Nat) ({ cls := "java/lang/RuntimeException", name := "<init>", desc := "(Ljava/lang/String;)V" } : Jvm.MethodName)), (Jvm.Cond.lays "java/lang/IllegalArgumentException" "java/lang/Throwable" "depth" "I"), (Jvm.Cond.superclass "java/lang/IllegalArgumentException" "java/lang/RuntimeException"), (Jvm.Cond.constant "ServiceRows" (92 : Nat) (1000000 : Int32)), (Jvm.Cond.methodLink "ServiceRows" (93 : Nat) ({ cls := "ServiceRows$Fleet", name := "kilometresOf", desc := "(I)I" } : Jvm.MethodName)), (Jvm.Cond.instanceMethod ({ cls := "ServiceRows$Fleet", name := "kilometresOf", desc := "(I)I" } : Jvm.MethodName)), (Jvm.Cond.selects "ServiceRows$Fleet" ({ cls := "ServiceRows$Fleet", name := "kilometresOf", desc := "(I)I" } : Jvm.MethodName) ({ cls := "ServiceRows$Fleet", name := "kilometresOf", desc := "(I)I" } : Jvm.MethodName)), (Jvm.Cond.code ({ cls := "ServiceRows$Fleet", name := "kilometresOf", desc := "(I)I" } : Jvm.MethodName) prog_4_method_6_code (2 : Nat) (Option.some Jvm.ClassFile.FieldType.int)), (Jvm.Cond.methodLink "ServiceRows" (97 : Nat) ({ cls := "ServiceRows$Fleet", name := "hoursOf", desc := "(I)I" } : Jvm.MethodName)), (Jvm.Cond.instanceMethod ({ cls := "ServiceRows$Fleet", name := "hoursOf", desc := "(I)I" } : Jvm.MethodName)), (Jvm.Cond.selects "ServiceRows$Fleet" ({ cls := "ServiceRows$Fleet", name := "hoursOf", desc := "(I)I" } : Jvm.MethodName) ({ cls := "ServiceRows$Fleet", name := "hoursOf", desc := "(I)I" } : Jvm.MethodName)), (Jvm.Cond.code ({ cls := "ServiceRows$Fleet", name := "hoursOf", desc := "(I)I" } : Jvm.MethodName) prog_4_method_7_code (2 : Nat) (Option.some Jvm.ClassFile.FieldType.int)), (Jvm.Cond.classLink "ServiceRows" (100 : Nat) "java/lang/IllegalStateException"), (Jvm.Cond.instantiable "java/lang/IllegalStateException" (6 : Nat)), (Jvm.Cond.castable "java/lang/IllegalStateException" "java/lang/IllegalStateException"), (Jvm.Cond.selects "java/lang/IllegalStateException" ({ cls := "java/lang/Throwable", name := "fillInStackTrace", desc := "(I)Ljava/lang/Throwable;" } : Jvm.MethodName) ({ cls := "java/lang/Throwable", name := "fillInStackTrace", desc := "(I)Ljava/lang/Throwable;" } : Jvm.MethodName)), (Jvm.Cond.lays "java/lang/IllegalStateException" "java/lang/Throwable" "cause" "Ljava/lang/Throwable;"), (Jvm.Cond.lays "java/lang/IllegalStateException" "java/lang/Throwable" "stackTrace" "[Ljava/lang/StackTraceElement;"), (Jvm.Cond.lays "java/lang/IllegalStateException" "java/lang/Throwable" "suppressedExceptions" "Ljava/util/List;"), (Jvm.Cond.lays "java/lang/IllegalStateException" "java/lang/Throwable" "detailMessage" "Ljava/lang/String;"), (Jvm.Cond.lays "java/lang/IllegalStateException" "java/lang/Throwable" "backtrace" "Ljava/lang/Object;"), (Jvm.Cond.stringRef "ServiceRows" (102 : Nat) "a reading is lower than the last"), (Jvm.Cond.methodLink "ServiceRows" (104 : Nat) ({ cls := "java/lang/IllegalStateException", name := "<init>", desc := "(Ljava/lang/String;)V" } : Jvm.MethodName)), (Jvm.Cond.instanceMethod ({ cls := "java/lang/IllegalStateException", name := "<init>", desc := "(Ljava/lang/String;)V" } : Jvm.MethodName)), (Jvm.Cond.code ({ cls := "java/lang/IllegalStateException", name := "<init>", desc := "(Ljava/lang/String;)V" } : Jvm.MethodName) prog_12_method_2_code (2 : Nat) (Option.none : Option Jvm.ClassFile.FieldType)), (Jvm.Cond.methodLink "java/lang/IllegalStateException" (7 : Nat) ({ cls := "java/lang/RuntimeException", name := "<init>", desc := "(Ljava/lang/String;)V" } : Jvm.MethodName)), (Jvm.Cond.lays "java/lang/IllegalStateException" "java/lang/Throwable" "depth" "I"), (Jvm.Cond.superclass "java/lang/IllegalStateException" "java/lang/RuntimeException"), (Jvm.Cond.methodLink "ServiceRows" (105 : Nat) ({ cls := "ServiceRows$Fleet", name := "setReadings", desc := "(III)V" } : Jvm.MethodName))]
def xts_6 : List Jvm.Cond := [(Jvm.Cond.instanceMethod ({ cls := "ServiceRows$Fleet", name := "setReadings", desc := "(III)V" } : Jvm.MethodName)), (Jvm.Cond.selects "ServiceRows$Fleet" ({ cls := "ServiceRows$Fleet", name := "setReadings", desc := "(III)V" } : Jvm.MethodName) ({ cls := "ServiceRows$Fleet", name := "setReadings", desc := "(III)V" } : Jvm.MethodName)), (Jvm.Cond.code ({ cls := "ServiceRows$Fleet", name := "setReadings", desc := "(III)V" } : Jvm.MethodName) prog_4_method_8_code (4 : Nat) (Option.none : Option Jvm.ClassFile.FieldType)), (Jvm.Cond.methodLink "ServiceRowsLaw" (124 : Nat) ({ cls := "ServiceRowsLaw", name := "left", desc := "(LServiceRows;III[J)I" } : Jvm.MethodName)), (Jvm.Cond.static ({ cls := "ServiceRowsLaw", name := "left", desc := "(LServiceRows;III[J)I" } : Jvm.MethodName)), (Jvm.Cond.codeWith ({ cls := "ServiceRowsLaw", name := "left", desc := "(LServiceRows;III[J)I" } : Jvm.MethodName) method_8_code (6 : Nat) (Option.some Jvm.ClassFile.FieldType.int) [((0 : Nat), (12 : Nat), (15 : Nat), (32 : Nat)), ((0 : Nat), (12 : Nat), (19 : Nat), (34 : Nat))]), (Jvm.Cond.methodLink "ServiceRowsLaw" (36 : Nat) ({ cls := "ServiceRows", name := "left", desc := "(III)I" } : Jvm.MethodName)), (Jvm.Cond.instanceMethod ({ cls := "ServiceRows", name := "left", desc := "(III)I" } : Jvm.MethodName)), (Jvm.Cond.selects "ServiceRows" ({ cls := "ServiceRows", name := "left", desc := "(III)I" } : Jvm.MethodName) ({ cls := "ServiceRows", name := "left", desc := "(III)I" } : Jvm.MethodName)), (Jvm.Cond.code ({ cls := "ServiceRows", name := "left", desc := "(III)I" } : Jvm.MethodName) prog_1_method_7_code (4 : Nat) (Option.some Jvm.ClassFile.FieldType.int)), (Jvm.Cond.methodLink "ServiceRows" (108 : Nat) ({ cls := "ServiceRows$RuleRows", name := "isBy", desc := "(II)Z" } : Jvm.MethodName)), (Jvm.Cond.instanceMethod ({ cls := "ServiceRows$RuleRows", name := "isBy", desc := "(II)Z" } : Jvm.MethodName)), (Jvm.Cond.selects "ServiceRows$RuleRows" ({ cls := "ServiceRows$RuleRows", name := "isBy", desc := "(II)Z" } : Jvm.MethodName) ({ cls := "ServiceRows$RuleRows", name := "isBy", desc := "(II)Z" } : Jvm.MethodName)), (Jvm.Cond.code ({ cls := "ServiceRows$RuleRows", name := "isBy", desc := "(II)Z" } : Jvm.MethodName) prog_6_method_6_code (3 : Nat) (Option.some Jvm.ClassFile.FieldType.boolean)), (Jvm.Cond.methodLink "ServiceRows$RuleRows" (26 : Nat) ({ cls := "ServiceRows$RuleRows", name := "interval", desc := "(II)I" } : Jvm.MethodName)), (Jvm.Cond.instanceMethod ({ cls := "ServiceRows$RuleRows", name := "interval", desc := "(II)I" } : Jvm.MethodName)), (Jvm.Cond.selects "ServiceRows$RuleRows" ({ cls := "ServiceRows$RuleRows", name := "interval", desc := "(II)I" } : Jvm.MethodName) ({ cls := "ServiceRows$RuleRows", name := "interval", desc := "(II)I" } : Jvm.MethodName)), (Jvm.Cond.code ({ cls := "ServiceRows$RuleRows", name := "interval", desc := "(II)I" } : Jvm.MethodName) prog_6_method_5_code (3 : Nat) (Option.some Jvm.ClassFile.FieldType.int)), (Jvm.Cond.stringRef "ServiceRows" (112 : Nat) "the rule is not by that"), (Jvm.Cond.methodLink "ServiceRows" (114 : Nat) ({ cls := "ServiceRows", name := "leftBy", desc := "(III)I" } : Jvm.MethodName)), (Jvm.Cond.instanceMethod ({ cls := "ServiceRows", name := "leftBy", desc := "(III)I" } : Jvm.MethodName)), (Jvm.Cond.code ({ cls := "ServiceRows", name := "leftBy", desc := "(III)I" } : Jvm.MethodName) prog_1_method_29_code (5 : Nat) (Option.some Jvm.ClassFile.FieldType.int)), (Jvm.Cond.methodLink "ServiceRows" (249 : Nat) ({ cls := "ServiceRows", name := "nowOf", desc := "(II)I" } : Jvm.MethodName)), (Jvm.Cond.instanceMethod ({ cls := "ServiceRows", name := "nowOf", desc := "(II)I" } : Jvm.MethodName)), (Jvm.Cond.code ({ cls := "ServiceRows", name := "nowOf", desc := "(II)I" } : Jvm.MethodName) prog_1_method_28_code (3 : Nat) (Option.some Jvm.ClassFile.FieldType.int)), (Jvm.Cond.methodLink "ServiceRows" (253 : Nat) ({ cls := "ServiceRows$RuleRows", name := "since", desc := "(III)I" } : Jvm.MethodName)), (Jvm.Cond.instanceMethod ({ cls := "ServiceRows$RuleRows", name := "since", desc := "(III)I" } : Jvm.MethodName)), (Jvm.Cond.selects "ServiceRows$RuleRows" ({ cls := "ServiceRows$RuleRows", name := "since", desc := "(III)I" } : Jvm.MethodName) ({ cls := "ServiceRows$RuleRows", name := "since", desc := "(III)I" } : Jvm.MethodName)), (Jvm.Cond.code ({ cls := "ServiceRows$RuleRows", name := "since", desc := "(III)I" } : Jvm.MethodName) prog_6_method_7_code (4 : Nat) (Option.some Jvm.ClassFile.FieldType.int)), (Jvm.Cond.methodLink "ServiceRows" (256 : Nat) ({ cls := "ServiceRows$RuleRows", name := "interval", desc := "(II)I" } : Jvm.MethodName)), (Jvm.Cond.methodLink "ServiceRowsLaw" (127 : Nat) ({ cls := "ServiceRowsLaw", name := "due", desc := "(LServiceRows;I[J)I" } : Jvm.MethodName)), (Jvm.Cond.static ({ cls := "ServiceRowsLaw", name := "due", desc := "(LServiceRows;I[J)I" } : Jvm.MethodName)), (Jvm.Cond.codeWith ({ cls := "ServiceRowsLaw", name := "due", desc := "(LServiceRows;I[J)I" } : Jvm.MethodName) method_9_code (4 : Nat) (Option.some Jvm.ClassFile.FieldType.int) [((0 : Nat), (9 : Nat), (12 : Nat), (13 : Nat))]), (Jvm.Cond.methodLink "ServiceRowsLaw" (39 : Nat) ({ cls := "ServiceRows", name := "due", desc := "(I)I" } : Jvm.MethodName)), (Jvm.Cond.instanceMethod ({ cls := "ServiceRows", name := "due", desc := "(I)I" } : Jvm.MethodName)), (Jvm.Cond.selects "ServiceRows" ({ cls := "ServiceRows", name := "due", desc := "(I)I" } : Jvm.MethodName) ({ cls := "ServiceRows", name := "due", desc := "(I)I" } : Jvm.MethodName)), (Jvm.Cond.code ({ cls := "ServiceRows", name := "due", desc := "(I)I" } : Jvm.MethodName) prog_1_method_8_code (2 : Nat) (Option.some Jvm.ClassFile.FieldType.int)), (Jvm.Cond.stringRef "ServiceRows" (117 : Nat) "rows are counted from 0 on"), (Jvm.Cond.methodLink "ServiceRows" (119 : Nat) ({ cls := "ServiceRows", name := "listDueRows", desc := "()V" } : Jvm.MethodName)), (Jvm.Cond.instanceMethod ({ cls := "ServiceRows", name := "listDueRows", desc := "()V" } : Jvm.MethodName)), (Jvm.Cond.code ({ cls := "ServiceRows", name := "listDueRows", desc := "()V" } : Jvm.MethodName) prog_1_method_32_code (5 : Nat) (Option.none : Option Jvm.ClassFile.FieldType)), (Jvm.Cond.methodLink "ServiceRows" (263 : Nat) ({ cls := "ServiceRows$DueRows", name := "clear", desc := "()V" } : Jvm.MethodName)), (Jvm.Cond.instanceMethod ({ cls := "ServiceRows$DueRows", name := "clear", desc := "()V" } : Jvm.MethodName)), (Jvm.Cond.selects "ServiceRows$DueRows" ({ cls := "ServiceRows$DueRows", name := "clear", desc := "()V" } : Jvm.MethodName) ({ cls := "ServiceRows$DueRows", name := "clear", desc := "()V" } : Jvm.MethodName)), (Jvm.Cond.code ({ cls := "ServiceRows$DueRows", name := "clear", desc := "()V" } : Jvm.MethodName) prog_3_method_2_code (1 : Nat) (Option.none : Option Jvm.ClassFile.FieldType)), (Jvm.Cond.methodLink "ServiceRows" (266 : Nat) ({ cls := "ServiceRows", name := "leastBy", desc := "(II)I" } : Jvm.MethodName)), (Jvm.Cond.instanceMethod ({ cls := "ServiceRows", name := "leastBy", desc := "(II)I" } : Jvm.MethodName)), (Jvm.Cond.code ({ cls := "ServiceRows", name := "leastBy", desc := "(II)I" } : Jvm.MethodName) prog_1_method_30_code (5 : Nat) (Option.some Jvm.ClassFile.FieldType.int)), (Jvm.Cond.methodLink "ServiceRows" (259 : Nat) ({ cls := "ServiceRows", name := "isBelow", desc := "(IIII)Z" } : Jvm.MethodName)), (Jvm.Cond.static ({ cls := "ServiceRows", name := "isBelow", desc := "(IIII)Z" } : Jvm.MethodName)), (Jvm.Cond.code ({ cls := "ServiceRows", name := "isBelow", desc := "(IIII)Z" } : Jvm.MethodName) prog_1_method_31_code (4 : Nat) (Option.some Jvm.ClassFile.FieldType.boolean)), (Jvm.Cond.methodLink "ServiceRows" (269 : Nat) ({ cls := "ServiceRows$DueRows", name := "insert", desc := "(IIII)V" } : Jvm.MethodName)), (Jvm.Cond.instanceMethod ({ cls := "ServiceRows$DueRows", name := "insert", desc := "(IIII)V" } : Jvm.MethodName)), (Jvm.Cond.selects "ServiceRows$DueRows" ({ cls := "ServiceRows$DueRows", name := "insert", desc := "(IIII)V" } : Jvm.MethodName) ({ cls := "ServiceRows$DueRows", name := "insert", desc := "(IIII)V" } : Jvm.MethodName)), (Jvm.Cond.code ({ cls := "ServiceRows$DueRows", name := "insert", desc := "(IIII)V" } : Jvm.MethodName) prog_3_method_3_code (7 : Nat) (Option.none : Option Jvm.ClassFile.FieldType)), (Jvm.Cond.methodLink "ServiceRows$DueRows" (25 : Nat) ({ cls := "ServiceRows$DueRows", name := "placeOf", desc := "(II)I" } : Jvm.MethodName)), (Jvm.Cond.instanceMethod ({ cls := "ServiceRows$DueRows", name := "placeOf", desc := "(II)I" } : Jvm.MethodName)), (Jvm.Cond.code ({ cls := "ServiceRows$DueRows", name := "placeOf", desc := "(II)I" } : Jvm.MethodName) prog_3_method_4_code (5 : Nat) (Option.some Jvm.ClassFile.FieldType.int)), (Jvm.Cond.methodLink "ServiceRows$DueRows" (35 : Nat) ({ cls := "ServiceRows$DueRows", name := "isBefore", desc := "(III)Z" } : Jvm.MethodName)), (Jvm.Cond.instanceMethod ({ cls := "ServiceRows$DueRows", name := "isBefore", desc := "(III)Z" } : Jvm.MethodName))]
def xts_7 : List Jvm.Cond := [(Jvm.Cond.code ({ cls := "ServiceRows$DueRows", name := "isBefore", desc := "(III)Z" } : Jvm.MethodName) prog_3_method_5_code (4 : Nat) (Option.some Jvm.ClassFile.FieldType.boolean)), (Jvm.Cond.methodLinkNest "ServiceRows$DueRows" (39 : Nat) ({ cls := "ServiceRows", name := "isBelow", desc := "(IIII)Z" } : Jvm.MethodName) "ServiceRows"), (Jvm.Cond.methodLink "ServiceRows$DueRows" (29 : Nat) ({ cls := "java/lang/System", name := "arraycopy", desc := "(Ljava/lang/Object;ILjava/lang/Object;II)V" } : Jvm.MethodName)), (Jvm.Cond.static ({ cls := "java/lang/System", name := "arraycopy", desc := "(Ljava/lang/Object;ILjava/lang/Object;II)V" } : Jvm.MethodName)), (Jvm.Cond.native ({ cls := "java/lang/System", name := "arraycopy", desc := "(Ljava/lang/Object;ILjava/lang/Object;II)V" } : Jvm.MethodName)), (Jvm.Cond.methodLink "ServiceRows" (122 : Nat) ({ cls := "ServiceRows$DueRows", name := "rowAt", desc := "(I)I" } : Jvm.MethodName)), (Jvm.Cond.instanceMethod ({ cls := "ServiceRows$DueRows", name := "rowAt", desc := "(I)I" } : Jvm.MethodName)), (Jvm.Cond.selects "ServiceRows$DueRows" ({ cls := "ServiceRows$DueRows", name := "rowAt", desc := "(I)I" } : Jvm.MethodName) ({ cls := "ServiceRows$DueRows", name := "rowAt", desc := "(I)I" } : Jvm.MethodName)), (Jvm.Cond.code ({ cls := "ServiceRows$DueRows", name := "rowAt", desc := "(I)I" } : Jvm.MethodName) prog_3_method_6_code (2 : Nat) (Option.some Jvm.ClassFile.FieldType.int)), (Jvm.Cond.methodLink "ServiceRowsLaw" (131 : Nat) ({ cls := "ServiceRowsLaw", name := "defect", desc := "(LServiceRows;IZ[J)I" } : Jvm.MethodName)), (Jvm.Cond.static ({ cls := "ServiceRowsLaw", name := "defect", desc := "(LServiceRows;IZ[J)I" } : Jvm.MethodName)), (Jvm.Cond.codeWith ({ cls := "ServiceRowsLaw", name := "defect", desc := "(LServiceRows;IZ[J)I" } : Jvm.MethodName) method_10_code (5 : Nat) (Option.some Jvm.ClassFile.FieldType.int) [((0 : Nat), (10 : Nat), (13 : Nat), (32 : Nat)), ((0 : Nat), (10 : Nat), (17 : Nat), (15 : Nat))]), (Jvm.Cond.methodLink "ServiceRowsLaw" (43 : Nat) ({ cls := "ServiceRows", name := "defect", desc := "(IZ)I" } : Jvm.MethodName)), (Jvm.Cond.instanceMethod ({ cls := "ServiceRows", name := "defect", desc := "(IZ)I" } : Jvm.MethodName)), (Jvm.Cond.selects "ServiceRows" ({ cls := "ServiceRows", name := "defect", desc := "(IZ)I" } : Jvm.MethodName) ({ cls := "ServiceRows", name := "defect", desc := "(IZ)I" } : Jvm.MethodName)), (Jvm.Cond.code ({ cls := "ServiceRows", name := "defect", desc := "(IZ)I" } : Jvm.MethodName) prog_1_method_9_code (3 : Nat) (Option.some Jvm.ClassFile.FieldType.int)), (Jvm.Cond.methodLink "ServiceRows" (125 : Nat) ({ cls := "ServiceRows$DefectRows", name := "size", desc := "()I" } : Jvm.MethodName)), (Jvm.Cond.instanceMethod ({ cls := "ServiceRows$DefectRows", name := "size", desc := "()I" } : Jvm.MethodName)), (Jvm.Cond.selects "ServiceRows$DefectRows" ({ cls := "ServiceRows$DefectRows", name := "size", desc := "()I" } : Jvm.MethodName) ({ cls := "ServiceRows$DefectRows", name := "size", desc := "()I" } : Jvm.MethodName)), (Jvm.Cond.code ({ cls := "ServiceRows$DefectRows", name := "size", desc := "()I" } : Jvm.MethodName) prog_2_method_2_code (1 : Nat) (Option.some Jvm.ClassFile.FieldType.int)), (Jvm.Cond.methodLink "ServiceRows" (126 : Nat) ({ cls := "ServiceRows$DefectRows", name := "add", desc := "(IZ)I" } : Jvm.MethodName)), (Jvm.Cond.instanceMethod ({ cls := "ServiceRows$DefectRows", name := "add", desc := "(IZ)I" } : Jvm.MethodName)), (Jvm.Cond.selects "ServiceRows$DefectRows" ({ cls := "ServiceRows$DefectRows", name := "add", desc := "(IZ)I" } : Jvm.MethodName) ({ cls := "ServiceRows$DefectRows", name := "add", desc := "(IZ)I" } : Jvm.MethodName)), (Jvm.Cond.code ({ cls := "ServiceRows$DefectRows", name := "add", desc := "(IZ)I" } : Jvm.MethodName) prog_2_method_3_code (3 : Nat) (Option.some Jvm.ClassFile.FieldType.int)), (Jvm.Cond.methodLink "ServiceRowsLaw" (134 : Nat) ({ cls := "ServiceRowsLaw", name := "test", desc := "(LServiceRows;IIII[J)I" } : Jvm.MethodName)), (Jvm.Cond.static ({ cls := "ServiceRowsLaw", name := "test", desc := "(LServiceRows;IIII[J)I" } : Jvm.MethodName)), (Jvm.Cond.codeWith ({ cls := "ServiceRowsLaw", name := "test", desc := "(LServiceRows;IIII[J)I" } : Jvm.MethodName) method_11_code (7 : Nat) (Option.some Jvm.ClassFile.FieldType.int) [((0 : Nat), (21 : Nat), (24 : Nat), (32 : Nat)), ((0 : Nat), (21 : Nat), (28 : Nat), (13 : Nat))]), (Jvm.Cond.methodLink "ServiceRowsLaw" (46 : Nat) ({ cls := "ServiceRows", name := "test", desc := "(IIII)Z" } : Jvm.MethodName)), (Jvm.Cond.instanceMethod ({ cls := "ServiceRows", name := "test", desc := "(IIII)Z" } : Jvm.MethodName)), (Jvm.Cond.selects "ServiceRows" ({ cls := "ServiceRows", name := "test", desc := "(IIII)Z" } : Jvm.MethodName) ({ cls := "ServiceRows", name := "test", desc := "(IIII)Z" } : Jvm.MethodName)), (Jvm.Cond.code ({ cls := "ServiceRows", name := "test", desc := "(IIII)Z" } : Jvm.MethodName) prog_1_method_10_code (6 : Nat) (Option.some Jvm.ClassFile.FieldType.boolean)), (Jvm.Cond.stringRef "ServiceRows" (127 : Nat) "low is above high"), (Jvm.Cond.methodLink "ServiceRows" (129 : Nat) ({ cls := "ServiceRows$DefectRows", name := "clearRepaired", desc := "(I)V" } : Jvm.MethodName)), (Jvm.Cond.instanceMethod ({ cls := "ServiceRows$DefectRows", name := "clearRepaired", desc := "(I)V" } : Jvm.MethodName)), (Jvm.Cond.selects "ServiceRows$DefectRows" ({ cls := "ServiceRows$DefectRows", name := "clearRepaired", desc := "(I)V" } : Jvm.MethodName) ({ cls := "ServiceRows$DefectRows", name := "clearRepaired", desc := "(I)V" } : Jvm.MethodName)), (Jvm.Cond.code ({ cls := "ServiceRows$DefectRows", name := "clearRepaired", desc := "(I)V" } : Jvm.MethodName) prog_2_method_10_code (3 : Nat) (Option.none : Option Jvm.ClassFile.FieldType)), (Jvm.Cond.methodLink "ServiceRowsLaw" (138 : Nat) ({ cls := "ServiceRowsLaw", name := "certificate", desc := "(LServiceRows;III)I" } : Jvm.MethodName)), (Jvm.Cond.static ({ cls := "ServiceRowsLaw", name := "certificate", desc := "(LServiceRows;III)I" } : Jvm.MethodName)), (Jvm.Cond.codeWith ({ cls := "ServiceRowsLaw", name := "certificate", desc := "(LServiceRows;III)I" } : Jvm.MethodName) method_12_code (5 : Nat) (Option.some Jvm.ClassFile.FieldType.int) [((0 : Nat), (7 : Nat), (10 : Nat), (32 : Nat)), ((0 : Nat), (7 : Nat), (14 : Nat), (13 : Nat))]), (Jvm.Cond.methodLink "ServiceRowsLaw" (50 : Nat) ({ cls := "ServiceRows", name := "certificate", desc := "(III)V" } : Jvm.MethodName)), (Jvm.Cond.instanceMethod ({ cls := "ServiceRows", name := "certificate", desc := "(III)V" } : Jvm.MethodName)), (Jvm.Cond.selects "ServiceRows" ({ cls := "ServiceRows", name := "certificate", desc := "(III)V" } : Jvm.MethodName) ({ cls := "ServiceRows", name := "certificate", desc := "(III)V" } : Jvm.MethodName)), (Jvm.Cond.code ({ cls := "ServiceRows", name := "certificate", desc := "(III)V" } : Jvm.MethodName) prog_1_method_11_code (4 : Nat) (Option.none : Option Jvm.ClassFile.FieldType)), (Jvm.Cond.methodLink "ServiceRows" (133 : Nat) ({ cls := "ServiceRows$Fleet", name := "setCertificate", desc := "(III)V" } : Jvm.MethodName)), (Jvm.Cond.methodLink "ServiceRowsLaw" (141 : Nat) ({ cls := "ServiceRowsLaw", name := "order", desc := "(LServiceRows;I[J)I" } : Jvm.MethodName)), (Jvm.Cond.static ({ cls := "ServiceRowsLaw", name := "order", desc := "(LServiceRows;I[J)I" } : Jvm.MethodName)), (Jvm.Cond.codeWith ({ cls := "ServiceRowsLaw", name := "order", desc := "(LServiceRows;I[J)I" } : Jvm.MethodName) method_13_code (4 : Nat) (Option.some Jvm.ClassFile.FieldType.int) [((0 : Nat), (9 : Nat), (12 : Nat), (32 : Nat)), ((0 : Nat), (9 : Nat), (15 : Nat), (15 : Nat))]), (Jvm.Cond.methodLink "ServiceRowsLaw" (53 : Nat) ({ cls := "ServiceRows", name := "order", desc := "(I)I" } : Jvm.MethodName)), (Jvm.Cond.instanceMethod ({ cls := "ServiceRows", name := "order", desc := "(I)I" } : Jvm.MethodName)), (Jvm.Cond.selects "ServiceRows" ({ cls := "ServiceRows", name := "order", desc := "(I)I" } : Jvm.MethodName) ({ cls := "ServiceRows", name := "order", desc := "(I)I" } : Jvm.MethodName)), (Jvm.Cond.code ({ cls := "ServiceRows", name := "order", desc := "(I)I" } : Jvm.MethodName) prog_1_method_12_code (3 : Nat) (Option.some Jvm.ClassFile.FieldType.int)), (Jvm.Cond.methodLink "ServiceRows" (136 : Nat) ({ cls := "ServiceRows$OrderRows", name := "openOf", desc := "(I)I" } : Jvm.MethodName)), (Jvm.Cond.instanceMethod ({ cls := "ServiceRows$OrderRows", name := "openOf", desc := "(I)I" } : Jvm.MethodName)), (Jvm.Cond.selects "ServiceRows$OrderRows" ({ cls := "ServiceRows$OrderRows", name := "openOf", desc := "(I)I" } : Jvm.MethodName) ({ cls := "ServiceRows$OrderRows", name := "openOf", desc := "(I)I" } : Jvm.MethodName)), (Jvm.Cond.code ({ cls := "ServiceRows$OrderRows", name := "openOf", desc := "(I)I" } : Jvm.MethodName) prog_5_method_7_code (3 : Nat) (Option.some Jvm.ClassFile.FieldType.int)), (Jvm.Cond.methodLink "ServiceRows" (139 : Nat) ({ cls := "ServiceRows$OrderRows", name := "size", desc := "()I" } : Jvm.MethodName)), (Jvm.Cond.instanceMethod ({ cls := "ServiceRows$OrderRows", name := "size", desc := "()I" } : Jvm.MethodName)), (Jvm.Cond.selects "ServiceRows$OrderRows" ({ cls := "ServiceRows$OrderRows", name := "size", desc := "()I" } : Jvm.MethodName) ({ cls := "ServiceRows$OrderRows", name := "size", desc := "()I" } : Jvm.MethodName)), (Jvm.Cond.code ({ cls := "ServiceRows$OrderRows", name := "size", desc := "()I" } : Jvm.MethodName) prog_5_method_2_code (1 : Nat) (Option.some Jvm.ClassFile.FieldType.int)), (Jvm.Cond.methodLink "ServiceRows" (140 : Nat) ({ cls := "ServiceRows$OrderRows", name := "add", desc := "(I)I" } : Jvm.MethodName))]
def xts_8 : List Jvm.Cond := [(Jvm.Cond.instanceMethod ({ cls := "ServiceRows$OrderRows", name := "add", desc := "(I)I" } : Jvm.MethodName)), (Jvm.Cond.selects "ServiceRows$OrderRows" ({ cls := "ServiceRows$OrderRows", name := "add", desc := "(I)I" } : Jvm.MethodName) ({ cls := "ServiceRows$OrderRows", name := "add", desc := "(I)I" } : Jvm.MethodName)), (Jvm.Cond.code ({ cls := "ServiceRows$OrderRows", name := "add", desc := "(I)I" } : Jvm.MethodName) prog_5_method_4_code (2 : Nat) (Option.some Jvm.ClassFile.FieldType.int)), (Jvm.Cond.methodLink "ServiceRowsLaw" (144 : Nat) ({ cls := "ServiceRowsLaw", name := "work", desc := "(LServiceRows;IZI[J)I" } : Jvm.MethodName)), (Jvm.Cond.static ({ cls := "ServiceRowsLaw", name := "work", desc := "(LServiceRows;IZI[J)I" } : Jvm.MethodName)), (Jvm.Cond.codeWith ({ cls := "ServiceRowsLaw", name := "work", desc := "(LServiceRows;IZI[J)I" } : Jvm.MethodName) method_14_code (6 : Nat) (Option.some Jvm.ClassFile.FieldType.int) [((0 : Nat), (12 : Nat), (15 : Nat), (32 : Nat)), ((0 : Nat), (12 : Nat), (19 : Nat), (34 : Nat))]), (Jvm.Cond.methodLink "ServiceRowsLaw" (56 : Nat) ({ cls := "ServiceRows", name := "work", desc := "(IZI)I" } : Jvm.MethodName)), (Jvm.Cond.instanceMethod ({ cls := "ServiceRows", name := "work", desc := "(IZI)I" } : Jvm.MethodName)), (Jvm.Cond.selects "ServiceRows" ({ cls := "ServiceRows", name := "work", desc := "(IZI)I" } : Jvm.MethodName) ({ cls := "ServiceRows", name := "work", desc := "(IZI)I" } : Jvm.MethodName)), (Jvm.Cond.code ({ cls := "ServiceRows", name := "work", desc := "(IZI)I" } : Jvm.MethodName) prog_1_method_13_code (4 : Nat) (Option.some Jvm.ClassFile.FieldType.int)), (Jvm.Cond.methodLink "ServiceRows" (142 : Nat) ({ cls := "ServiceRows", name := "needOpen", desc := "(I)V" } : Jvm.MethodName)), (Jvm.Cond.instanceMethod ({ cls := "ServiceRows", name := "needOpen", desc := "(I)V" } : Jvm.MethodName)), (Jvm.Cond.code ({ cls := "ServiceRows", name := "needOpen", desc := "(I)V" } : Jvm.MethodName) prog_1_method_27_code (2 : Nat) (Option.none : Option Jvm.ClassFile.FieldType)), (Jvm.Cond.methodLink "ServiceRows" (244 : Nat) ({ cls := "ServiceRows$OrderRows", name := "isOpen", desc := "(I)Z" } : Jvm.MethodName)), (Jvm.Cond.instanceMethod ({ cls := "ServiceRows$OrderRows", name := "isOpen", desc := "(I)Z" } : Jvm.MethodName)), (Jvm.Cond.selects "ServiceRows$OrderRows" ({ cls := "ServiceRows$OrderRows", name := "isOpen", desc := "(I)Z" } : Jvm.MethodName) ({ cls := "ServiceRows$OrderRows", name := "isOpen", desc := "(I)Z" } : Jvm.MethodName)), (Jvm.Cond.code ({ cls := "ServiceRows$OrderRows", name := "isOpen", desc := "(I)Z" } : Jvm.MethodName) prog_5_method_6_code (2 : Nat) (Option.some Jvm.ClassFile.FieldType.boolean)), (Jvm.Cond.stringRef "ServiceRows" (247 : Nat) "the order is done"), (Jvm.Cond.methodLink "ServiceRows" (145 : Nat) ({ cls := "ServiceRows", name := "takeRule", desc := "(II)V" } : Jvm.MethodName)), (Jvm.Cond.instanceMethod ({ cls := "ServiceRows", name := "takeRule", desc := "(II)V" } : Jvm.MethodName)), (Jvm.Cond.code ({ cls := "ServiceRows", name := "takeRule", desc := "(II)V" } : Jvm.MethodName) prog_1_method_33_code (3 : Nat) (Option.none : Option Jvm.ClassFile.FieldType)), (Jvm.Cond.methodLink "ServiceRows" (273 : Nat) ({ cls := "ServiceRows$OrderRows", name := "hasRule", desc := "(II)Z" } : Jvm.MethodName)), (Jvm.Cond.instanceMethod ({ cls := "ServiceRows$OrderRows", name := "hasRule", desc := "(II)Z" } : Jvm.MethodName)), (Jvm.Cond.selects "ServiceRows$OrderRows" ({ cls := "ServiceRows$OrderRows", name := "hasRule", desc := "(II)Z" } : Jvm.MethodName) ({ cls := "ServiceRows$OrderRows", name := "hasRule", desc := "(II)Z" } : Jvm.MethodName)), (Jvm.Cond.code ({ cls := "ServiceRows$OrderRows", name := "hasRule", desc := "(II)Z" } : Jvm.MethodName) prog_5_method_9_code (3 : Nat) (Option.some Jvm.ClassFile.FieldType.boolean)), (Jvm.Cond.stringRef "ServiceRows" (276 : Nat) "the order has the rule already"), (Jvm.Cond.methodLink "ServiceRows" (278 : Nat) ({ cls := "ServiceRows$OrderRows", name := "addRule", desc := "(II)V" } : Jvm.MethodName)), (Jvm.Cond.instanceMethod ({ cls := "ServiceRows$OrderRows", name := "addRule", desc := "(II)V" } : Jvm.MethodName)), (Jvm.Cond.selects "ServiceRows$OrderRows" ({ cls := "ServiceRows$OrderRows", name := "addRule", desc := "(II)V" } : Jvm.MethodName) ({ cls := "ServiceRows$OrderRows", name := "addRule", desc := "(II)V" } : Jvm.MethodName)), (Jvm.Cond.code ({ cls := "ServiceRows$OrderRows", name := "addRule", desc := "(II)V" } : Jvm.MethodName) prog_5_method_10_code (3 : Nat) (Option.none : Option Jvm.ClassFile.FieldType)), (Jvm.Cond.methodLink "ServiceRows" (148 : Nat) ({ cls := "ServiceRows", name := "takeDefect", desc := "(II)V" } : Jvm.MethodName)), (Jvm.Cond.instanceMethod ({ cls := "ServiceRows", name := "takeDefect", desc := "(II)V" } : Jvm.MethodName)), (Jvm.Cond.code ({ cls := "ServiceRows", name := "takeDefect", desc := "(II)V" } : Jvm.MethodName) prog_1_method_34_code (3 : Nat) (Option.none : Option Jvm.ClassFile.FieldType)), (Jvm.Cond.methodLink "ServiceRows" (223 : Nat) ({ cls := "ServiceRows$DefectRows", name := "vehicleOf", desc := "(I)I" } : Jvm.MethodName)), (Jvm.Cond.instanceMethod ({ cls := "ServiceRows$DefectRows", name := "vehicleOf", desc := "(I)I" } : Jvm.MethodName)), (Jvm.Cond.selects "ServiceRows$DefectRows" ({ cls := "ServiceRows$DefectRows", name := "vehicleOf", desc := "(I)I" } : Jvm.MethodName) ({ cls := "ServiceRows$DefectRows", name := "vehicleOf", desc := "(I)I" } : Jvm.MethodName)), (Jvm.Cond.code ({ cls := "ServiceRows$DefectRows", name := "vehicleOf", desc := "(I)I" } : Jvm.MethodName) prog_2_method_4_code (2 : Nat) (Option.some Jvm.ClassFile.FieldType.int)), (Jvm.Cond.methodLink "ServiceRows" (154 : Nat) ({ cls := "ServiceRows$OrderRows", name := "vehicleOf", desc := "(I)I" } : Jvm.MethodName)), (Jvm.Cond.instanceMethod ({ cls := "ServiceRows$OrderRows", name := "vehicleOf", desc := "(I)I" } : Jvm.MethodName)), (Jvm.Cond.selects "ServiceRows$OrderRows" ({ cls := "ServiceRows$OrderRows", name := "vehicleOf", desc := "(I)I" } : Jvm.MethodName) ({ cls := "ServiceRows$OrderRows", name := "vehicleOf", desc := "(I)I" } : Jvm.MethodName)), (Jvm.Cond.code ({ cls := "ServiceRows$OrderRows", name := "vehicleOf", desc := "(I)I" } : Jvm.MethodName) prog_5_method_5_code (2 : Nat) (Option.some Jvm.ClassFile.FieldType.int)), (Jvm.Cond.stringRef "ServiceRows" (281 : Nat) "the defect is another vehicle's"), (Jvm.Cond.methodLink "ServiceRows" (220 : Nat) ({ cls := "ServiceRows$DefectRows", name := "stateOf", desc := "(I)I" } : Jvm.MethodName)), (Jvm.Cond.instanceMethod ({ cls := "ServiceRows$DefectRows", name := "stateOf", desc := "(I)I" } : Jvm.MethodName)), (Jvm.Cond.selects "ServiceRows$DefectRows" ({ cls := "ServiceRows$DefectRows", name := "stateOf", desc := "(I)I" } : Jvm.MethodName) ({ cls := "ServiceRows$DefectRows", name := "stateOf", desc := "(I)I" } : Jvm.MethodName)), (Jvm.Cond.code ({ cls := "ServiceRows$DefectRows", name := "stateOf", desc := "(I)I" } : Jvm.MethodName) prog_2_method_6_code (2 : Nat) (Option.some Jvm.ClassFile.FieldType.int)), (Jvm.Cond.stringRef "ServiceRows" (283 : Nat) "the defect is not open"), (Jvm.Cond.methodLink "ServiceRows" (285 : Nat) ({ cls := "ServiceRows$DefectRows", name := "orderOf", desc := "(I)I" } : Jvm.MethodName)), (Jvm.Cond.instanceMethod ({ cls := "ServiceRows$DefectRows", name := "orderOf", desc := "(I)I" } : Jvm.MethodName)), (Jvm.Cond.selects "ServiceRows$DefectRows" ({ cls := "ServiceRows$DefectRows", name := "orderOf", desc := "(I)I" } : Jvm.MethodName) ({ cls := "ServiceRows$DefectRows", name := "orderOf", desc := "(I)I" } : Jvm.MethodName)), (Jvm.Cond.code ({ cls := "ServiceRows$DefectRows", name := "orderOf", desc := "(I)I" } : Jvm.MethodName) prog_2_method_7_code (2 : Nat) (Option.some Jvm.ClassFile.FieldType.int)), (Jvm.Cond.stringRef "ServiceRows" (288 : Nat) "the order has the defect already"), (Jvm.Cond.methodLink "ServiceRows" (290 : Nat) ({ cls := "ServiceRows$DefectRows", name := "setOrder", desc := "(II)V" } : Jvm.MethodName)), (Jvm.Cond.instanceMethod ({ cls := "ServiceRows$DefectRows", name := "setOrder", desc := "(II)V" } : Jvm.MethodName)), (Jvm.Cond.selects "ServiceRows$DefectRows" ({ cls := "ServiceRows$DefectRows", name := "setOrder", desc := "(II)V" } : Jvm.MethodName) ({ cls := "ServiceRows$DefectRows", name := "setOrder", desc := "(II)V" } : Jvm.MethodName)), (Jvm.Cond.code ({ cls := "ServiceRows$DefectRows", name := "setOrder", desc := "(II)V" } : Jvm.MethodName) prog_2_method_8_code (3 : Nat) (Option.none : Option Jvm.ClassFile.FieldType)), (Jvm.Cond.methodLink "ServiceRows" (293 : Nat) ({ cls := "ServiceRows$OrderRows", name := "addDefect", desc := "(I)V" } : Jvm.MethodName)), (Jvm.Cond.instanceMethod ({ cls := "ServiceRows$OrderRows", name := "addDefect", desc := "(I)V" } : Jvm.MethodName)), (Jvm.Cond.selects "ServiceRows$OrderRows" ({ cls := "ServiceRows$OrderRows", name := "addDefect", desc := "(I)V" } : Jvm.MethodName) ({ cls := "ServiceRows$OrderRows", name := "addDefect", desc := "(I)V" } : Jvm.MethodName)), (Jvm.Cond.code ({ cls := "ServiceRows$OrderRows", name := "addDefect", desc := "(I)V" } : Jvm.MethodName) prog_5_method_11_code (2 : Nat) (Option.none : Option Jvm.ClassFile.FieldType))]
def xts_9 : List Jvm.Cond := [(Jvm.Cond.methodLink "ServiceRows" (151 : Nat) ({ cls := "ServiceRows$OrderRows", name := "worksOf", desc := "(I)I" } : Jvm.MethodName)), (Jvm.Cond.instanceMethod ({ cls := "ServiceRows$OrderRows", name := "worksOf", desc := "(I)I" } : Jvm.MethodName)), (Jvm.Cond.selects "ServiceRows$OrderRows" ({ cls := "ServiceRows$OrderRows", name := "worksOf", desc := "(I)I" } : Jvm.MethodName) ({ cls := "ServiceRows$OrderRows", name := "worksOf", desc := "(I)I" } : Jvm.MethodName)), (Jvm.Cond.code ({ cls := "ServiceRows$OrderRows", name := "worksOf", desc := "(I)I" } : Jvm.MethodName) prog_5_method_12_code (2 : Nat) (Option.some Jvm.ClassFile.FieldType.int)), (Jvm.Cond.methodLink "ServiceRowsLaw" (148 : Nat) ({ cls := "ServiceRowsLaw", name := "part", desc := "(LServiceRows;IIII[J)I" } : Jvm.MethodName)), (Jvm.Cond.static ({ cls := "ServiceRowsLaw", name := "part", desc := "(LServiceRows;IIII[J)I" } : Jvm.MethodName)), (Jvm.Cond.codeWith ({ cls := "ServiceRowsLaw", name := "part", desc := "(LServiceRows;IIII[J)I" } : Jvm.MethodName) method_15_code (7 : Nat) (Option.some Jvm.ClassFile.FieldType.int) [((0 : Nat), (14 : Nat), (17 : Nat), (32 : Nat)), ((0 : Nat), (14 : Nat), (21 : Nat), (13 : Nat)), ((0 : Nat), (14 : Nat), (25 : Nat), (34 : Nat)), ((0 : Nat), (14 : Nat), (29 : Nat), (15 : Nat))]), (Jvm.Cond.methodLink "ServiceRowsLaw" (60 : Nat) ({ cls := "ServiceRows", name := "part", desc := "(IIII)I" } : Jvm.MethodName)), (Jvm.Cond.instanceMethod ({ cls := "ServiceRows", name := "part", desc := "(IIII)I" } : Jvm.MethodName)), (Jvm.Cond.selects "ServiceRows" ({ cls := "ServiceRows", name := "part", desc := "(IIII)I" } : Jvm.MethodName) ({ cls := "ServiceRows", name := "part", desc := "(IIII)I" } : Jvm.MethodName)), (Jvm.Cond.code ({ cls := "ServiceRows", name := "part", desc := "(IIII)I" } : Jvm.MethodName) prog_1_method_14_code (6 : Nat) (Option.some Jvm.ClassFile.FieldType.int)), (Jvm.Cond.methodLink "ServiceRows" (157 : Nat) ({ cls := "ServiceRows", name := "isUnderWarranty", desc := "(II)Z" } : Jvm.MethodName)), (Jvm.Cond.instanceMethod ({ cls := "ServiceRows", name := "isUnderWarranty", desc := "(II)Z" } : Jvm.MethodName)), (Jvm.Cond.code ({ cls := "ServiceRows", name := "isUnderWarranty", desc := "(II)Z" } : Jvm.MethodName) prog_1_method_35_code (3 : Nat) (Option.some Jvm.ClassFile.FieldType.boolean)), (Jvm.Cond.methodLink "ServiceRows" (296 : Nat) ({ cls := "ServiceRows$Fleet", name := "warrantyOf", desc := "(II)I" } : Jvm.MethodName)), (Jvm.Cond.instanceMethod ({ cls := "ServiceRows$Fleet", name := "warrantyOf", desc := "(II)I" } : Jvm.MethodName)), (Jvm.Cond.selects "ServiceRows$Fleet" ({ cls := "ServiceRows$Fleet", name := "warrantyOf", desc := "(II)I" } : Jvm.MethodName) ({ cls := "ServiceRows$Fleet", name := "warrantyOf", desc := "(II)I" } : Jvm.MethodName)), (Jvm.Cond.code ({ cls := "ServiceRows$Fleet", name := "warrantyOf", desc := "(II)I" } : Jvm.MethodName) prog_4_method_13_code (3 : Nat) (Option.some Jvm.ClassFile.FieldType.int)), (Jvm.Cond.stringRef "ServiceRows" (160 : Nat) "it costs more than the budget has"), (Jvm.Cond.methodLink "ServiceRows" (162 : Nat) ({ cls := "ServiceRows$OrderRows", name := "parts", desc := "()I" } : Jvm.MethodName)), (Jvm.Cond.instanceMethod ({ cls := "ServiceRows$OrderRows", name := "parts", desc := "()I" } : Jvm.MethodName)), (Jvm.Cond.selects "ServiceRows$OrderRows" ({ cls := "ServiceRows$OrderRows", name := "parts", desc := "()I" } : Jvm.MethodName) ({ cls := "ServiceRows$OrderRows", name := "parts", desc := "()I" } : Jvm.MethodName)), (Jvm.Cond.code ({ cls := "ServiceRows$OrderRows", name := "parts", desc := "()I" } : Jvm.MethodName) prog_5_method_3_code (1 : Nat) (Option.some Jvm.ClassFile.FieldType.int)), (Jvm.Cond.methodLink "ServiceRows" (165 : Nat) ({ cls := "ServiceRows$OrderRows", name := "addPart", desc := "(II)V" } : Jvm.MethodName)), (Jvm.Cond.instanceMethod ({ cls := "ServiceRows$OrderRows", name := "addPart", desc := "(II)V" } : Jvm.MethodName)), (Jvm.Cond.selects "ServiceRows$OrderRows" ({ cls := "ServiceRows$OrderRows", name := "addPart", desc := "(II)V" } : Jvm.MethodName) ({ cls := "ServiceRows$OrderRows", name := "addPart", desc := "(II)V" } : Jvm.MethodName)), (Jvm.Cond.code ({ cls := "ServiceRows$OrderRows", name := "addPart", desc := "(II)V" } : Jvm.MethodName) prog_5_method_13_code (3 : Nat) (Option.none : Option Jvm.ClassFile.FieldType)), (Jvm.Cond.methodLink "ServiceRowsLaw" (151 : Nat) ({ cls := "ServiceRowsLaw", name := "warranty", desc := "(LServiceRows;III)I" } : Jvm.MethodName)), (Jvm.Cond.static ({ cls := "ServiceRowsLaw", name := "warranty", desc := "(LServiceRows;III)I" } : Jvm.MethodName)), (Jvm.Cond.codeWith ({ cls := "ServiceRowsLaw", name := "warranty", desc := "(LServiceRows;III)I" } : Jvm.MethodName) method_16_code (5 : Nat) (Option.some Jvm.ClassFile.FieldType.int) [((0 : Nat), (7 : Nat), (10 : Nat), (32 : Nat)), ((0 : Nat), (7 : Nat), (14 : Nat), (13 : Nat))]), (Jvm.Cond.methodLink "ServiceRowsLaw" (64 : Nat) ({ cls := "ServiceRows", name := "warranty", desc := "(III)V" } : Jvm.MethodName)), (Jvm.Cond.instanceMethod ({ cls := "ServiceRows", name := "warranty", desc := "(III)V" } : Jvm.MethodName)), (Jvm.Cond.selects "ServiceRows" ({ cls := "ServiceRows", name := "warranty", desc := "(III)V" } : Jvm.MethodName) ({ cls := "ServiceRows", name := "warranty", desc := "(III)V" } : Jvm.MethodName)), (Jvm.Cond.code ({ cls := "ServiceRows", name := "warranty", desc := "(III)V" } : Jvm.MethodName) prog_1_method_15_code (4 : Nat) (Option.none : Option Jvm.ClassFile.FieldType)), (Jvm.Cond.methodLink "ServiceRows" (168 : Nat) ({ cls := "ServiceRows$Fleet", name := "setWarranty", desc := "(III)V" } : Jvm.MethodName)), (Jvm.Cond.instanceMethod ({ cls := "ServiceRows$Fleet", name := "setWarranty", desc := "(III)V" } : Jvm.MethodName)), (Jvm.Cond.selects "ServiceRows$Fleet" ({ cls := "ServiceRows$Fleet", name := "setWarranty", desc := "(III)V" } : Jvm.MethodName) ({ cls := "ServiceRows$Fleet", name := "setWarranty", desc := "(III)V" } : Jvm.MethodName)), (Jvm.Cond.code ({ cls := "ServiceRows$Fleet", name := "setWarranty", desc := "(III)V" } : Jvm.MethodName) prog_4_method_14_code (4 : Nat) (Option.none : Option Jvm.ClassFile.FieldType)), (Jvm.Cond.methodLink "ServiceRowsLaw" (154 : Nat) ({ cls := "ServiceRowsLaw", name := "budget", desc := "(LServiceRows;I[J)I" } : Jvm.MethodName)), (Jvm.Cond.static ({ cls := "ServiceRowsLaw", name := "budget", desc := "(LServiceRows;I[J)I" } : Jvm.MethodName)), (Jvm.Cond.codeWith ({ cls := "ServiceRowsLaw", name := "budget", desc := "(LServiceRows;I[J)I" } : Jvm.MethodName) method_17_code (4 : Nat) (Option.some Jvm.ClassFile.FieldType.int) [((0 : Nat), (9 : Nat), (12 : Nat), (13 : Nat)), ((0 : Nat), (9 : Nat), (15 : Nat), (15 : Nat))]), (Jvm.Cond.methodLink "ServiceRowsLaw" (67 : Nat) ({ cls := "ServiceRows", name := "budget", desc := "(I)I" } : Jvm.MethodName)), (Jvm.Cond.instanceMethod ({ cls := "ServiceRows", name := "budget", desc := "(I)I" } : Jvm.MethodName)), (Jvm.Cond.selects "ServiceRows" ({ cls := "ServiceRows", name := "budget", desc := "(I)I" } : Jvm.MethodName) ({ cls := "ServiceRows", name := "budget", desc := "(I)I" } : Jvm.MethodName)), (Jvm.Cond.code ({ cls := "ServiceRows", name := "budget", desc := "(I)I" } : Jvm.MethodName) prog_1_method_16_code (2 : Nat) (Option.some Jvm.ClassFile.FieldType.int)), (Jvm.Cond.constant "ServiceRows" (171 : Nat) (100000000 : Int32)), (Jvm.Cond.constant "ServiceRows" (172 : Nat) (1000000000 : Int32)), (Jvm.Cond.stringRef "ServiceRows" (175 : Nat) "the budget would be too large"), (Jvm.Cond.methodLink "ServiceRowsLaw" (157 : Nat) ({ cls := "ServiceRowsLaw", name := "done", desc := "(LServiceRows;I[J)I" } : Jvm.MethodName)), (Jvm.Cond.static ({ cls := "ServiceRowsLaw", name := "done", desc := "(LServiceRows;I[J)I" } : Jvm.MethodName)), (Jvm.Cond.codeWith ({ cls := "ServiceRowsLaw", name := "done", desc := "(LServiceRows;I[J)I" } : Jvm.MethodName) method_18_code (4 : Nat) (Option.some Jvm.ClassFile.FieldType.int) [((0 : Nat), (9 : Nat), (12 : Nat), (32 : Nat)), ((0 : Nat), (9 : Nat), (15 : Nat), (34 : Nat))]), (Jvm.Cond.methodLink "ServiceRowsLaw" (70 : Nat) ({ cls := "ServiceRows", name := "done", desc := "(I)I" } : Jvm.MethodName)), (Jvm.Cond.instanceMethod ({ cls := "ServiceRows", name := "done", desc := "(I)I" } : Jvm.MethodName)), (Jvm.Cond.selects "ServiceRows" ({ cls := "ServiceRows", name := "done", desc := "(I)I" } : Jvm.MethodName) ({ cls := "ServiceRows", name := "done", desc := "(I)I" } : Jvm.MethodName)), (Jvm.Cond.code ({ cls := "ServiceRows", name := "done", desc := "(I)I" } : Jvm.MethodName) prog_1_method_17_code (2 : Nat) (Option.some Jvm.ClassFile.FieldType.int)), (Jvm.Cond.methodLink "ServiceRows" (178 : Nat) ({ cls := "ServiceRows", name := "serveRules", desc := "(I)V" } : Jvm.MethodName)), (Jvm.Cond.instanceMethod ({ cls := "ServiceRows", name := "serveRules", desc := "(I)V" } : Jvm.MethodName)), (Jvm.Cond.code ({ cls := "ServiceRows", name := "serveRules", desc := "(I)V" } : Jvm.MethodName) prog_1_method_36_code (5 : Nat) (Option.none : Option Jvm.ClassFile.FieldType)), (Jvm.Cond.methodLink "ServiceRows" (299 : Nat) ({ cls := "ServiceRows$RuleRows", name := "setSince", desc := "(IIII)V" } : Jvm.MethodName)), (Jvm.Cond.methodLink "ServiceRows" (181 : Nat) ({ cls := "ServiceRows$DefectRows", name := "repair", desc := "(I)V" } : Jvm.MethodName))]
def xts_10 : List Jvm.Cond := [(Jvm.Cond.instanceMethod ({ cls := "ServiceRows$DefectRows", name := "repair", desc := "(I)V" } : Jvm.MethodName)), (Jvm.Cond.selects "ServiceRows$DefectRows" ({ cls := "ServiceRows$DefectRows", name := "repair", desc := "(I)V" } : Jvm.MethodName) ({ cls := "ServiceRows$DefectRows", name := "repair", desc := "(I)V" } : Jvm.MethodName)), (Jvm.Cond.code ({ cls := "ServiceRows$DefectRows", name := "repair", desc := "(I)V" } : Jvm.MethodName) prog_2_method_9_code (3 : Nat) (Option.none : Option Jvm.ClassFile.FieldType)), (Jvm.Cond.methodLink "ServiceRows" (184 : Nat) ({ cls := "ServiceRows$OrderRows", name := "close", desc := "(I)V" } : Jvm.MethodName)), (Jvm.Cond.instanceMethod ({ cls := "ServiceRows$OrderRows", name := "close", desc := "(I)V" } : Jvm.MethodName)), (Jvm.Cond.selects "ServiceRows$OrderRows" ({ cls := "ServiceRows$OrderRows", name := "close", desc := "(I)V" } : Jvm.MethodName) ({ cls := "ServiceRows$OrderRows", name := "close", desc := "(I)V" } : Jvm.MethodName)), (Jvm.Cond.code ({ cls := "ServiceRows$OrderRows", name := "close", desc := "(I)V" } : Jvm.MethodName) prog_5_method_15_code (2 : Nat) (Option.none : Option Jvm.ClassFile.FieldType)), (Jvm.Cond.methodLink "ServiceRows" (187 : Nat) ({ cls := "ServiceRows$OrderRows", name := "costOf", desc := "(I)I" } : Jvm.MethodName)), (Jvm.Cond.instanceMethod ({ cls := "ServiceRows$OrderRows", name := "costOf", desc := "(I)I" } : Jvm.MethodName)), (Jvm.Cond.selects "ServiceRows$OrderRows" ({ cls := "ServiceRows$OrderRows", name := "costOf", desc := "(I)I" } : Jvm.MethodName) ({ cls := "ServiceRows$OrderRows", name := "costOf", desc := "(I)I" } : Jvm.MethodName)), (Jvm.Cond.code ({ cls := "ServiceRows$OrderRows", name := "costOf", desc := "(I)I" } : Jvm.MethodName) prog_5_method_14_code (2 : Nat) (Option.some Jvm.ClassFile.FieldType.int)), (Jvm.Cond.methodLink "ServiceRowsLaw" (160 : Nat) ({ cls := "ServiceRowsLaw", name := "barred", desc := "(LServiceRows;I[J)I" } : Jvm.MethodName)), (Jvm.Cond.static ({ cls := "ServiceRowsLaw", name := "barred", desc := "(LServiceRows;I[J)I" } : Jvm.MethodName)), (Jvm.Cond.codeWith ({ cls := "ServiceRowsLaw", name := "barred", desc := "(LServiceRows;I[J)I" } : Jvm.MethodName) method_19_code (4 : Nat) (Option.some Jvm.ClassFile.FieldType.int) [((0 : Nat), (9 : Nat), (12 : Nat), (32 : Nat))]), (Jvm.Cond.methodLink "ServiceRowsLaw" (73 : Nat) ({ cls := "ServiceRows", name := "barred", desc := "(I)I" } : Jvm.MethodName)), (Jvm.Cond.instanceMethod ({ cls := "ServiceRows", name := "barred", desc := "(I)I" } : Jvm.MethodName)), (Jvm.Cond.selects "ServiceRows" ({ cls := "ServiceRows", name := "barred", desc := "(I)I" } : Jvm.MethodName) ({ cls := "ServiceRows", name := "barred", desc := "(I)I" } : Jvm.MethodName)), (Jvm.Cond.code ({ cls := "ServiceRows", name := "barred", desc := "(I)I" } : Jvm.MethodName) prog_1_method_18_code (2 : Nat) (Option.some Jvm.ClassFile.FieldType.int)), (Jvm.Cond.methodLink "ServiceRows" (190 : Nat) ({ cls := "ServiceRows", name := "reasonOf", desc := "(I)I" } : Jvm.MethodName)), (Jvm.Cond.instanceMethod ({ cls := "ServiceRows", name := "reasonOf", desc := "(I)I" } : Jvm.MethodName)), (Jvm.Cond.code ({ cls := "ServiceRows", name := "reasonOf", desc := "(I)I" } : Jvm.MethodName) prog_1_method_37_code (2 : Nat) (Option.some Jvm.ClassFile.FieldType.int)), (Jvm.Cond.methodLink "ServiceRows" (302 : Nat) ({ cls := "ServiceRows$DefectRows", name := "hasSevere", desc := "(I)Z" } : Jvm.MethodName)), (Jvm.Cond.instanceMethod ({ cls := "ServiceRows$DefectRows", name := "hasSevere", desc := "(I)Z" } : Jvm.MethodName)), (Jvm.Cond.selects "ServiceRows$DefectRows" ({ cls := "ServiceRows$DefectRows", name := "hasSevere", desc := "(I)Z" } : Jvm.MethodName) ({ cls := "ServiceRows$DefectRows", name := "hasSevere", desc := "(I)Z" } : Jvm.MethodName)), (Jvm.Cond.code ({ cls := "ServiceRows$DefectRows", name := "hasSevere", desc := "(I)Z" } : Jvm.MethodName) prog_2_method_11_code (3 : Nat) (Option.some Jvm.ClassFile.FieldType.boolean)), (Jvm.Cond.methodLink "ServiceRows" (305 : Nat) ({ cls := "ServiceRows$DefectRows", name := "openSmallOnes", desc := "(I)I" } : Jvm.MethodName)), (Jvm.Cond.instanceMethod ({ cls := "ServiceRows$DefectRows", name := "openSmallOnes", desc := "(I)I" } : Jvm.MethodName)), (Jvm.Cond.selects "ServiceRows$DefectRows" ({ cls := "ServiceRows$DefectRows", name := "openSmallOnes", desc := "(I)I" } : Jvm.MethodName) ({ cls := "ServiceRows$DefectRows", name := "openSmallOnes", desc := "(I)I" } : Jvm.MethodName)), (Jvm.Cond.code ({ cls := "ServiceRows$DefectRows", name := "openSmallOnes", desc := "(I)I" } : Jvm.MethodName) prog_2_method_12_code (4 : Nat) (Option.some Jvm.ClassFile.FieldType.int)), (Jvm.Cond.methodLink "ServiceRows" (308 : Nat) ({ cls := "ServiceRows$Fleet", name := "hasPastCertificate", desc := "(II)Z" } : Jvm.MethodName)), (Jvm.Cond.instanceMethod ({ cls := "ServiceRows$Fleet", name := "hasPastCertificate", desc := "(II)Z" } : Jvm.MethodName)), (Jvm.Cond.selects "ServiceRows$Fleet" ({ cls := "ServiceRows$Fleet", name := "hasPastCertificate", desc := "(II)Z" } : Jvm.MethodName) ({ cls := "ServiceRows$Fleet", name := "hasPastCertificate", desc := "(II)Z" } : Jvm.MethodName)), (Jvm.Cond.code ({ cls := "ServiceRows$Fleet", name := "hasPastCertificate", desc := "(II)Z" } : Jvm.MethodName) prog_4_method_12_code (5 : Nat) (Option.some Jvm.ClassFile.FieldType.boolean)), (Jvm.Cond.methodLink "ServiceRows" (311 : Nat) ({ cls := "ServiceRows", name := "hasOverdueRule", desc := "(I)Z" } : Jvm.MethodName)), (Jvm.Cond.instanceMethod ({ cls := "ServiceRows", name := "hasOverdueRule", desc := "(I)Z" } : Jvm.MethodName)), (Jvm.Cond.code ({ cls := "ServiceRows", name := "hasOverdueRule", desc := "(I)Z" } : Jvm.MethodName) prog_1_method_38_code (4 : Nat) (Option.some Jvm.ClassFile.FieldType.boolean)), (Jvm.Cond.methodLink "ServiceRowsLaw" (163 : Nat) ({ cls := "ServiceRowsLaw", name := "spare", desc := "(LServiceRows;I[J)I" } : Jvm.MethodName)), (Jvm.Cond.static ({ cls := "ServiceRowsLaw", name := "spare", desc := "(LServiceRows;I[J)I" } : Jvm.MethodName)), (Jvm.Cond.codeWith ({ cls := "ServiceRowsLaw", name := "spare", desc := "(LServiceRows;I[J)I" } : Jvm.MethodName) method_20_code (4 : Nat) (Option.some Jvm.ClassFile.FieldType.int) [((0 : Nat), (9 : Nat), (12 : Nat), (32 : Nat))]), (Jvm.Cond.methodLink "ServiceRowsLaw" (76 : Nat) ({ cls := "ServiceRows", name := "spare", desc := "(I)I" } : Jvm.MethodName)), (Jvm.Cond.instanceMethod ({ cls := "ServiceRows", name := "spare", desc := "(I)I" } : Jvm.MethodName)), (Jvm.Cond.selects "ServiceRows" ({ cls := "ServiceRows", name := "spare", desc := "(I)I" } : Jvm.MethodName) ({ cls := "ServiceRows", name := "spare", desc := "(I)I" } : Jvm.MethodName)), (Jvm.Cond.code ({ cls := "ServiceRows", name := "spare", desc := "(I)I" } : Jvm.MethodName) prog_1_method_19_code (4 : Nat) (Option.some Jvm.ClassFile.FieldType.int)), (Jvm.Cond.methodLink "ServiceRows" (193 : Nat) ({ cls := "ServiceRows$Fleet", name := "isSpare", desc := "(I)Z" } : Jvm.MethodName)), (Jvm.Cond.instanceMethod ({ cls := "ServiceRows$Fleet", name := "isSpare", desc := "(I)Z" } : Jvm.MethodName)), (Jvm.Cond.selects "ServiceRows$Fleet" ({ cls := "ServiceRows$Fleet", name := "isSpare", desc := "(I)Z" } : Jvm.MethodName) ({ cls := "ServiceRows$Fleet", name := "isSpare", desc := "(I)Z" } : Jvm.MethodName)), (Jvm.Cond.code ({ cls := "ServiceRows$Fleet", name := "isSpare", desc := "(I)Z" } : Jvm.MethodName) prog_4_method_4_code (2 : Nat) (Option.some Jvm.ClassFile.FieldType.boolean)), (Jvm.Cond.methodLink "ServiceRows" (197 : Nat) ({ cls := "ServiceRows$Fleet", name := "isNearer", desc := "(III)Z" } : Jvm.MethodName)), (Jvm.Cond.instanceMethod ({ cls := "ServiceRows$Fleet", name := "isNearer", desc := "(III)Z" } : Jvm.MethodName)), (Jvm.Cond.selects "ServiceRows$Fleet" ({ cls := "ServiceRows$Fleet", name := "isNearer", desc := "(III)Z" } : Jvm.MethodName) ({ cls := "ServiceRows$Fleet", name := "isNearer", desc := "(III)Z" } : Jvm.MethodName)), (Jvm.Cond.code ({ cls := "ServiceRows$Fleet", name := "isNearer", desc := "(III)Z" } : Jvm.MethodName) prog_4_method_5_code (6 : Nat) (Option.some Jvm.ClassFile.FieldType.boolean)), (Jvm.Cond.methodLink "ServiceRows$Fleet" (42 : Nat) ({ cls := "java/lang/Math", name := "abs", desc := "(I)I" } : Jvm.MethodName)), (Jvm.Cond.static ({ cls := "java/lang/Math", name := "abs", desc := "(I)I" } : Jvm.MethodName)), (Jvm.Cond.code ({ cls := "java/lang/Math", name := "abs", desc := "(I)I" } : Jvm.MethodName) prog_14_method_59_code (1 : Nat) (Option.some Jvm.ClassFile.FieldType.int)), (Jvm.Cond.methodLink "ServiceRowsLaw" (166 : Nat) ({ cls := "ServiceRowsLaw", name := "oil", desc := "(LServiceRows;II[J)I" } : Jvm.MethodName)), (Jvm.Cond.static ({ cls := "ServiceRowsLaw", name := "oil", desc := "(LServiceRows;II[J)I" } : Jvm.MethodName)), (Jvm.Cond.codeWith ({ cls := "ServiceRowsLaw", name := "oil", desc := "(LServiceRows;II[J)I" } : Jvm.MethodName) method_21_code (5 : Nat) (Option.some Jvm.ClassFile.FieldType.int) [((0 : Nat), (10 : Nat), (13 : Nat), (32 : Nat)), ((0 : Nat), (10 : Nat), (17 : Nat), (13 : Nat)), ((0 : Nat), (10 : Nat), (21 : Nat), (15 : Nat))]), (Jvm.Cond.methodLink "ServiceRowsLaw" (79 : Nat) ({ cls := "ServiceRows", name := "oil", desc := "(II)I" } : Jvm.MethodName)), (Jvm.Cond.instanceMethod ({ cls := "ServiceRows", name := "oil", desc := "(II)I" } : Jvm.MethodName)), (Jvm.Cond.selects "ServiceRows" ({ cls := "ServiceRows", name := "oil", desc := "(II)I" } : Jvm.MethodName) ({ cls := "ServiceRows", name := "oil", desc := "(II)I" } : Jvm.MethodName))]
def xts_11 : List Jvm.Cond := [(Jvm.Cond.code ({ cls := "ServiceRows", name := "oil", desc := "(II)I" } : Jvm.MethodName) prog_1_method_20_code (3 : Nat) (Option.some Jvm.ClassFile.FieldType.int)), (Jvm.Cond.methodLink "ServiceRows" (201 : Nat) ({ cls := "ServiceRows$Fleet", name := "oilOf", desc := "(I)I" } : Jvm.MethodName)), (Jvm.Cond.instanceMethod ({ cls := "ServiceRows$Fleet", name := "oilOf", desc := "(I)I" } : Jvm.MethodName)), (Jvm.Cond.selects "ServiceRows$Fleet" ({ cls := "ServiceRows$Fleet", name := "oilOf", desc := "(I)I" } : Jvm.MethodName) ({ cls := "ServiceRows$Fleet", name := "oilOf", desc := "(I)I" } : Jvm.MethodName)), (Jvm.Cond.code ({ cls := "ServiceRows$Fleet", name := "oilOf", desc := "(I)I" } : Jvm.MethodName) prog_4_method_9_code (2 : Nat) (Option.some Jvm.ClassFile.FieldType.int)), (Jvm.Cond.stringRef "ServiceRows" (204 : Nat) "too much oil"), (Jvm.Cond.methodLink "ServiceRows" (206 : Nat) ({ cls := "ServiceRows$Fleet", name := "addOil", desc := "(II)V" } : Jvm.MethodName)), (Jvm.Cond.instanceMethod ({ cls := "ServiceRows$Fleet", name := "addOil", desc := "(II)V" } : Jvm.MethodName)), (Jvm.Cond.selects "ServiceRows$Fleet" ({ cls := "ServiceRows$Fleet", name := "addOil", desc := "(II)V" } : Jvm.MethodName) ({ cls := "ServiceRows$Fleet", name := "addOil", desc := "(II)V" } : Jvm.MethodName)), (Jvm.Cond.code ({ cls := "ServiceRows$Fleet", name := "addOil", desc := "(II)V" } : Jvm.MethodName) prog_4_method_10_code (3 : Nat) (Option.none : Option Jvm.ClassFile.FieldType)), (Jvm.Cond.methodLink "ServiceRowsLaw" (170 : Nat) ({ cls := "ServiceRowsLaw", name := "oilPer", desc := "(LServiceRows;II[J)I" } : Jvm.MethodName)), (Jvm.Cond.static ({ cls := "ServiceRowsLaw", name := "oilPer", desc := "(LServiceRows;II[J)I" } : Jvm.MethodName)), (Jvm.Cond.codeWith ({ cls := "ServiceRowsLaw", name := "oilPer", desc := "(LServiceRows;II[J)I" } : Jvm.MethodName) method_22_code (5 : Nat) (Option.some Jvm.ClassFile.FieldType.int) [((0 : Nat), (9 : Nat), (12 : Nat), (32 : Nat)), ((0 : Nat), (9 : Nat), (16 : Nat), (87 : Nat))]), (Jvm.Cond.classLink "ServiceRowsLaw" (87 : Nat) "java/lang/ArithmeticException"), (Jvm.Cond.methodLink "ServiceRowsLaw" (83 : Nat) ({ cls := "ServiceRows", name := "oilPer", desc := "(II)J" } : Jvm.MethodName)), (Jvm.Cond.instanceMethod ({ cls := "ServiceRows", name := "oilPer", desc := "(II)J" } : Jvm.MethodName)), (Jvm.Cond.selects "ServiceRows" ({ cls := "ServiceRows", name := "oilPer", desc := "(II)J" } : Jvm.MethodName) ({ cls := "ServiceRows", name := "oilPer", desc := "(II)J" } : Jvm.MethodName)), (Jvm.Cond.code ({ cls := "ServiceRows", name := "oilPer", desc := "(II)J" } : Jvm.MethodName) prog_1_method_21_code (9 : Nat) (Option.some Jvm.ClassFile.FieldType.long)), (Jvm.Cond.classLink "ServiceRows" (209 : Nat) "java/lang/ArithmeticException"), (Jvm.Cond.instantiable "java/lang/ArithmeticException" (6 : Nat)), (Jvm.Cond.castable "java/lang/ArithmeticException" "java/lang/ArithmeticException"), (Jvm.Cond.selects "java/lang/ArithmeticException" ({ cls := "java/lang/Throwable", name := "fillInStackTrace", desc := "(I)Ljava/lang/Throwable;" } : Jvm.MethodName) ({ cls := "java/lang/Throwable", name := "fillInStackTrace", desc := "(I)Ljava/lang/Throwable;" } : Jvm.MethodName)), (Jvm.Cond.lays "java/lang/ArithmeticException" "java/lang/Throwable" "cause" "Ljava/lang/Throwable;"), (Jvm.Cond.lays "java/lang/ArithmeticException" "java/lang/Throwable" "stackTrace" "[Ljava/lang/StackTraceElement;"), (Jvm.Cond.lays "java/lang/ArithmeticException" "java/lang/Throwable" "suppressedExceptions" "Ljava/util/List;"), (Jvm.Cond.lays "java/lang/ArithmeticException" "java/lang/Throwable" "detailMessage" "Ljava/lang/String;"), (Jvm.Cond.lays "java/lang/ArithmeticException" "java/lang/Throwable" "backtrace" "Ljava/lang/Object;"), (Jvm.Cond.stringRef "ServiceRows" (211 : Nat) "it has no kilometres"), (Jvm.Cond.methodLink "ServiceRows" (213 : Nat) ({ cls := "java/lang/ArithmeticException", name := "<init>", desc := "(Ljava/lang/String;)V" } : Jvm.MethodName)), (Jvm.Cond.instanceMethod ({ cls := "java/lang/ArithmeticException", name := "<init>", desc := "(Ljava/lang/String;)V" } : Jvm.MethodName)), (Jvm.Cond.code ({ cls := "java/lang/ArithmeticException", name := "<init>", desc := "(Ljava/lang/String;)V" } : Jvm.MethodName) prog_9_method_2_code (2 : Nat) (Option.none : Option Jvm.ClassFile.FieldType)), (Jvm.Cond.methodLink "java/lang/ArithmeticException" (7 : Nat) ({ cls := "java/lang/RuntimeException", name := "<init>", desc := "(Ljava/lang/String;)V" } : Jvm.MethodName)), (Jvm.Cond.lays "java/lang/ArithmeticException" "java/lang/Throwable" "depth" "I"), (Jvm.Cond.superclass "java/lang/ArithmeticException" "java/lang/RuntimeException"), (Jvm.Cond.constantLong "ServiceRows" (214 : Nat) (100 : Int64)), (Jvm.Cond.methodLink "ServiceRows" (216 : Nat) ({ cls := "ServiceRows", name := "commonDivisor", desc := "(JJ)J" } : Jvm.MethodName)), (Jvm.Cond.static ({ cls := "ServiceRows", name := "commonDivisor", desc := "(JJ)J" } : Jvm.MethodName)), (Jvm.Cond.code ({ cls := "ServiceRows", name := "commonDivisor", desc := "(JJ)J" } : Jvm.MethodName) prog_1_method_40_code (11 : Nat) (Option.some Jvm.ClassFile.FieldType.long)), (Jvm.Cond.methodLink "ServiceRowsLaw" (173 : Nat) ({ cls := "ServiceRowsLaw", name := "defectAt", desc := "(LServiceRows;II[J)I" } : Jvm.MethodName)), (Jvm.Cond.static ({ cls := "ServiceRowsLaw", name := "defectAt", desc := "(LServiceRows;II[J)I" } : Jvm.MethodName)), (Jvm.Cond.codeWith ({ cls := "ServiceRowsLaw", name := "defectAt", desc := "(LServiceRows;II[J)I" } : Jvm.MethodName) method_23_code (5 : Nat) (Option.some Jvm.ClassFile.FieldType.int) [((0 : Nat), (10 : Nat), (13 : Nat), (32 : Nat))]), (Jvm.Cond.methodLink "ServiceRowsLaw" (89 : Nat) ({ cls := "ServiceRows", name := "defectAt", desc := "(II)I" } : Jvm.MethodName)), (Jvm.Cond.instanceMethod ({ cls := "ServiceRows", name := "defectAt", desc := "(II)I" } : Jvm.MethodName)), (Jvm.Cond.selects "ServiceRows" ({ cls := "ServiceRows", name := "defectAt", desc := "(II)I" } : Jvm.MethodName) ({ cls := "ServiceRows", name := "defectAt", desc := "(II)I" } : Jvm.MethodName)), (Jvm.Cond.code ({ cls := "ServiceRows", name := "defectAt", desc := "(II)I" } : Jvm.MethodName) prog_1_method_22_code (3 : Nat) (Option.some Jvm.ClassFile.FieldType.int)), (Jvm.Cond.methodLink "ServiceRows" (224 : Nat) ({ cls := "ServiceRows$DefectRows", name := "isSevere", desc := "(I)Z" } : Jvm.MethodName)), (Jvm.Cond.instanceMethod ({ cls := "ServiceRows$DefectRows", name := "isSevere", desc := "(I)Z" } : Jvm.MethodName)), (Jvm.Cond.selects "ServiceRows$DefectRows" ({ cls := "ServiceRows$DefectRows", name := "isSevere", desc := "(I)Z" } : Jvm.MethodName) ({ cls := "ServiceRows$DefectRows", name := "isSevere", desc := "(I)Z" } : Jvm.MethodName)), (Jvm.Cond.code ({ cls := "ServiceRows$DefectRows", name := "isSevere", desc := "(I)Z" } : Jvm.MethodName) prog_2_method_5_code (2 : Nat) (Option.some Jvm.ClassFile.FieldType.boolean)), (Jvm.Cond.stringRef "ServiceRows" (229 : Nat) "no such what"), (Jvm.Cond.methodLink "ServiceRowsLaw" (176 : Nat) ({ cls := "ServiceRowsLaw", name := "count", desc := "(LServiceRows;I[J)I" } : Jvm.MethodName)), (Jvm.Cond.static ({ cls := "ServiceRowsLaw", name := "count", desc := "(LServiceRows;I[J)I" } : Jvm.MethodName)), (Jvm.Cond.codeWith ({ cls := "ServiceRowsLaw", name := "count", desc := "(LServiceRows;I[J)I" } : Jvm.MethodName) method_24_code (4 : Nat) (Option.some Jvm.ClassFile.FieldType.int) [((0 : Nat), (9 : Nat), (12 : Nat), (32 : Nat))]), (Jvm.Cond.methodLink "ServiceRowsLaw" (92 : Nat) ({ cls := "ServiceRows", name := "count", desc := "(I)I" } : Jvm.MethodName)), (Jvm.Cond.instanceMethod ({ cls := "ServiceRows", name := "count", desc := "(I)I" } : Jvm.MethodName)), (Jvm.Cond.selects "ServiceRows" ({ cls := "ServiceRows", name := "count", desc := "(I)I" } : Jvm.MethodName) ({ cls := "ServiceRows", name := "count", desc := "(I)I" } : Jvm.MethodName)), (Jvm.Cond.code ({ cls := "ServiceRows", name := "count", desc := "(I)I" } : Jvm.MethodName) prog_1_method_23_code (2 : Nat) (Option.some Jvm.ClassFile.FieldType.int)), (Jvm.Cond.methodLink "ServiceRows" (232 : Nat) ({ cls := "ServiceRows$OrderRows", name := "openOnes", desc := "()I" } : Jvm.MethodName)), (Jvm.Cond.instanceMethod ({ cls := "ServiceRows$OrderRows", name := "openOnes", desc := "()I" } : Jvm.MethodName)), (Jvm.Cond.selects "ServiceRows$OrderRows" ({ cls := "ServiceRows$OrderRows", name := "openOnes", desc := "()I" } : Jvm.MethodName) ({ cls := "ServiceRows$OrderRows", name := "openOnes", desc := "()I" } : Jvm.MethodName))]
def xts_12 : List Jvm.Cond := [(Jvm.Cond.code ({ cls := "ServiceRows$OrderRows", name := "openOnes", desc := "()I" } : Jvm.MethodName) prog_5_method_8_code (3 : Nat) (Option.some Jvm.ClassFile.FieldType.int)), (Jvm.Cond.methodLink "ServiceRows" (235 : Nat) ({ cls := "ServiceRows", name := "barredOnes", desc := "()I" } : Jvm.MethodName)), (Jvm.Cond.instanceMethod ({ cls := "ServiceRows", name := "barredOnes", desc := "()I" } : Jvm.MethodName)), (Jvm.Cond.code ({ cls := "ServiceRows", name := "barredOnes", desc := "()I" } : Jvm.MethodName) prog_1_method_39_code (3 : Nat) (Option.some Jvm.ClassFile.FieldType.int)), (Jvm.Cond.classLink "ServiceRowsLaw" (96 : Nat) "ServiceRowsModel"), (Jvm.Cond.instantiable "ServiceRowsModel" (27 : Nat)), (Jvm.Cond.methodLink "ServiceRowsLaw" (98 : Nat) ({ cls := "ServiceRowsModel", name := "<init>", desc := "()V" } : Jvm.MethodName)), (Jvm.Cond.instanceMethod ({ cls := "ServiceRowsModel", name := "<init>", desc := "()V" } : Jvm.MethodName)), (Jvm.Cond.code ({ cls := "ServiceRowsModel", name := "<init>", desc := "()V" } : Jvm.MethodName) prog_8_method_1_code (1 : Nat) (Option.none : Option Jvm.ClassFile.FieldType)), (Jvm.Cond.methodLink "ServiceRowsModel" (1 : Nat) ({ cls := "java/lang/Object", name := "<init>", desc := "()V" } : Jvm.MethodName)), (Jvm.Cond.fieldLink "ServiceRowsModel" (66 : Nat) "ServiceRowsModel" "thrown" "I"), (Jvm.Cond.fieldLink "ServiceRowsModel" (86 : Nat) "ServiceRowsModel" "day" "I"), (Jvm.Cond.fieldLink "ServiceRowsModel" (134 : Nat) "ServiceRowsModel" "budget" "I"), (Jvm.Cond.fieldLink "ServiceRowsModel" (96 : Nat) "ServiceRowsModel" "lower" "I"), (Jvm.Cond.fieldLink "ServiceRowsModel" (7 : Nat) "ServiceRowsModel" "small" "I"), (Jvm.Cond.fieldLink "ServiceRowsModel" (69 : Nat) "ServiceRowsModel" "vehicles" "I"), (Jvm.Cond.fieldLink "ServiceRowsModel" (13 : Nat) "ServiceRowsModel" "station" "[I"), (Jvm.Cond.fieldLink "ServiceRowsModel" (17 : Nat) "ServiceRowsModel" "isSpare" "[Z"), (Jvm.Cond.fieldLink "ServiceRowsModel" (21 : Nat) "ServiceRowsModel" "kilometres" "[I"), (Jvm.Cond.fieldLink "ServiceRowsModel" (24 : Nat) "ServiceRowsModel" "hours" "[I"), (Jvm.Cond.fieldLink "ServiceRowsModel" (27 : Nat) "ServiceRowsModel" "oil" "[I"), (Jvm.Cond.fieldLink "ServiceRowsModel" (76 : Nat) "ServiceRowsModel" "rules" "I"), (Jvm.Cond.fieldLink "ServiceRowsModel" (30 : Nat) "ServiceRowsModel" "interval" "[I"), (Jvm.Cond.fieldLink "ServiceRowsModel" (33 : Nat) "ServiceRowsModel" "served" "[I"), (Jvm.Cond.fieldLink "ServiceRowsModel" (36 : Nat) "ServiceRowsModel" "ends" "[I"), (Jvm.Cond.fieldLink "ServiceRowsModel" (39 : Nat) "ServiceRowsModel" "warranty" "[I"), (Jvm.Cond.fieldLink "ServiceRowsModel" (121 : Nat) "ServiceRowsModel" "defects" "I"), (Jvm.Cond.fieldLink "ServiceRowsModel" (42 : Nat) "ServiceRowsModel" "defectVehicle" "[I"), (Jvm.Cond.fieldLink "ServiceRowsModel" (45 : Nat) "ServiceRowsModel" "severe" "[Z"), (Jvm.Cond.fieldLink "ServiceRowsModel" (48 : Nat) "ServiceRowsModel" "defectState" "[I"), (Jvm.Cond.fieldLink "ServiceRowsModel" (79 : Nat) "ServiceRowsModel" "orders" "I"), (Jvm.Cond.fieldLink "ServiceRowsModel" (51 : Nat) "ServiceRowsModel" "orderVehicle" "[I"), (Jvm.Cond.fieldLink "ServiceRowsModel" (54 : Nat) "ServiceRowsModel" "orderDone" "[Z"), (Jvm.Cond.fieldLink "ServiceRowsModel" (57 : Nat) "ServiceRowsModel" "orderCost" "[I"), (Jvm.Cond.fieldLink "ServiceRowsModel" (60 : Nat) "ServiceRowsModel" "orderRule" "[Z"), (Jvm.Cond.fieldLink "ServiceRowsModel" (63 : Nat) "ServiceRowsModel" "orderDefect" "[Z"), (Jvm.Cond.fieldLink "ServiceRowsModel" (137 : Nat) "ServiceRowsModel" "parts" "I"), (Jvm.Cond.lays "ServiceRowsModel" "ServiceRowsModel" "thrown" "I"), (Jvm.Cond.lays "ServiceRowsModel" "ServiceRowsModel" "day" "I"), (Jvm.Cond.lays "ServiceRowsModel" "ServiceRowsModel" "budget" "I"), (Jvm.Cond.lays "ServiceRowsModel" "ServiceRowsModel" "lower" "I"), (Jvm.Cond.lays "ServiceRowsModel" "ServiceRowsModel" "small" "I"), (Jvm.Cond.lays "ServiceRowsModel" "ServiceRowsModel" "vehicles" "I"), (Jvm.Cond.laysFinal "ServiceRowsModel" "ServiceRowsModel" "station" "[I"), (Jvm.Cond.laysFinal "ServiceRowsModel" "ServiceRowsModel" "isSpare" "[Z"), (Jvm.Cond.laysFinal "ServiceRowsModel" "ServiceRowsModel" "kilometres" "[I"), (Jvm.Cond.laysFinal "ServiceRowsModel" "ServiceRowsModel" "hours" "[I"), (Jvm.Cond.laysFinal "ServiceRowsModel" "ServiceRowsModel" "oil" "[I"), (Jvm.Cond.lays "ServiceRowsModel" "ServiceRowsModel" "rules" "I"), (Jvm.Cond.laysFinal "ServiceRowsModel" "ServiceRowsModel" "interval" "[I"), (Jvm.Cond.laysFinal "ServiceRowsModel" "ServiceRowsModel" "served" "[I"), (Jvm.Cond.laysFinal "ServiceRowsModel" "ServiceRowsModel" "ends" "[I"), (Jvm.Cond.laysFinal "ServiceRowsModel" "ServiceRowsModel" "warranty" "[I"), (Jvm.Cond.lays "ServiceRowsModel" "ServiceRowsModel" "defects" "I"), (Jvm.Cond.laysFinal "ServiceRowsModel" "ServiceRowsModel" "defectVehicle" "[I"), (Jvm.Cond.laysFinal "ServiceRowsModel" "ServiceRowsModel" "severe" "[Z"), (Jvm.Cond.laysFinal "ServiceRowsModel" "ServiceRowsModel" "defectState" "[I"), (Jvm.Cond.lays "ServiceRowsModel" "ServiceRowsModel" "orders" "I"), (Jvm.Cond.laysFinal "ServiceRowsModel" "ServiceRowsModel" "orderVehicle" "[I"), (Jvm.Cond.laysFinal "ServiceRowsModel" "ServiceRowsModel" "orderDone" "[Z")]
def xts_13 : List Jvm.Cond := [(Jvm.Cond.laysFinal "ServiceRowsModel" "ServiceRowsModel" "orderCost" "[I"), (Jvm.Cond.laysFinal "ServiceRowsModel" "ServiceRowsModel" "orderRule" "[Z"), (Jvm.Cond.laysFinal "ServiceRowsModel" "ServiceRowsModel" "orderDefect" "[Z"), (Jvm.Cond.lays "ServiceRowsModel" "ServiceRowsModel" "parts" "I"), (Jvm.Cond.superclass "ServiceRowsModel" "java/lang/Object"), (Jvm.Cond.methodLink "ServiceRowsLaw" (105 : Nat) ({ cls := "ServiceRowsModel", name := "thrown", desc := "()I" } : Jvm.MethodName)), (Jvm.Cond.instanceMethod ({ cls := "ServiceRowsModel", name := "thrown", desc := "()I" } : Jvm.MethodName)), (Jvm.Cond.selects "ServiceRowsModel" ({ cls := "ServiceRowsModel", name := "thrown", desc := "()I" } : Jvm.MethodName) ({ cls := "ServiceRowsModel", name := "thrown", desc := "()I" } : Jvm.MethodName)), (Jvm.Cond.code ({ cls := "ServiceRowsModel", name := "thrown", desc := "()I" } : Jvm.MethodName) prog_8_method_2_code (1 : Nat) (Option.some Jvm.ClassFile.FieldType.int)), (Jvm.Cond.methodLink "ServiceRowsLaw" (104 : Nat) ({ cls := "ServiceRowsModel", name := "vehicle", desc := "(IZ)I" } : Jvm.MethodName)), (Jvm.Cond.instanceMethod ({ cls := "ServiceRowsModel", name := "vehicle", desc := "(IZ)I" } : Jvm.MethodName)), (Jvm.Cond.selects "ServiceRowsModel" ({ cls := "ServiceRowsModel", name := "vehicle", desc := "(IZ)I" } : Jvm.MethodName) ({ cls := "ServiceRowsModel", name := "vehicle", desc := "(IZ)I" } : Jvm.MethodName)), (Jvm.Cond.code ({ cls := "ServiceRowsModel", name := "vehicle", desc := "(IZ)I" } : Jvm.MethodName) prog_8_method_8_code (4 : Nat) (Option.some Jvm.ClassFile.FieldType.int)), (Jvm.Cond.methodLink "ServiceRowsModel" (72 : Nat) ({ cls := "ServiceRowsModel", name := "in", desc := "(III)Z" } : Jvm.MethodName)), (Jvm.Cond.static ({ cls := "ServiceRowsModel", name := "in", desc := "(III)Z" } : Jvm.MethodName)), (Jvm.Cond.code ({ cls := "ServiceRowsModel", name := "in", desc := "(III)Z" } : Jvm.MethodName) prog_8_method_4_code (3 : Nat) (Option.some Jvm.ClassFile.FieldType.boolean)), (Jvm.Cond.methodLink "ServiceRowsModel" (82 : Nat) ({ cls := "ServiceRowsModel", name := "throwing", desc := "(ZZZZ)Z" } : Jvm.MethodName)), (Jvm.Cond.instanceMethod ({ cls := "ServiceRowsModel", name := "throwing", desc := "(ZZZZ)Z" } : Jvm.MethodName)), (Jvm.Cond.code ({ cls := "ServiceRowsModel", name := "throwing", desc := "(ZZZZ)Z" } : Jvm.MethodName) prog_8_method_3_code (5 : Nat) (Option.some Jvm.ClassFile.FieldType.boolean)), (Jvm.Cond.methodLink "ServiceRowsLaw" (112 : Nat) ({ cls := "ServiceRowsModel", name := "rule", desc := "(III)I" } : Jvm.MethodName)), (Jvm.Cond.instanceMethod ({ cls := "ServiceRowsModel", name := "rule", desc := "(III)I" } : Jvm.MethodName)), (Jvm.Cond.selects "ServiceRowsModel" ({ cls := "ServiceRowsModel", name := "rule", desc := "(III)I" } : Jvm.MethodName) ({ cls := "ServiceRowsModel", name := "rule", desc := "(III)I" } : Jvm.MethodName)), (Jvm.Cond.code ({ cls := "ServiceRowsModel", name := "rule", desc := "(III)I" } : Jvm.MethodName) prog_8_method_9_code (5 : Nat) (Option.some Jvm.ClassFile.FieldType.int)), (Jvm.Cond.constant "ServiceRowsModel" (89 : Nat) (100000 : Int32)), (Jvm.Cond.methodLink "ServiceRowsLaw" (116 : Nat) ({ cls := "ServiceRowsModel", name := "small", desc := "(I)V" } : Jvm.MethodName)), (Jvm.Cond.instanceMethod ({ cls := "ServiceRowsModel", name := "small", desc := "(I)V" } : Jvm.MethodName)), (Jvm.Cond.selects "ServiceRowsModel" ({ cls := "ServiceRowsModel", name := "small", desc := "(I)V" } : Jvm.MethodName) ({ cls := "ServiceRowsModel", name := "small", desc := "(I)V" } : Jvm.MethodName)), (Jvm.Cond.code ({ cls := "ServiceRowsModel", name := "small", desc := "(I)V" } : Jvm.MethodName) prog_8_method_10_code (2 : Nat) (Option.none : Option Jvm.ClassFile.FieldType)), (Jvm.Cond.methodLink "ServiceRowsLaw" (119 : Nat) ({ cls := "ServiceRowsModel", name := "day", desc := "(I)V" } : Jvm.MethodName)), (Jvm.Cond.instanceMethod ({ cls := "ServiceRowsModel", name := "day", desc := "(I)V" } : Jvm.MethodName)), (Jvm.Cond.selects "ServiceRowsModel" ({ cls := "ServiceRowsModel", name := "day", desc := "(I)V" } : Jvm.MethodName) ({ cls := "ServiceRowsModel", name := "day", desc := "(I)V" } : Jvm.MethodName)), (Jvm.Cond.code ({ cls := "ServiceRowsModel", name := "day", desc := "(I)V" } : Jvm.MethodName) prog_8_method_11_code (2 : Nat) (Option.none : Option Jvm.ClassFile.FieldType)), (Jvm.Cond.constant "ServiceRowsModel" (90 : Nat) (99999 : Int32)), (Jvm.Cond.methodLink "ServiceRowsLaw" (123 : Nat) ({ cls := "ServiceRowsModel", name := "read", desc := "(III)V" } : Jvm.MethodName)), (Jvm.Cond.instanceMethod ({ cls := "ServiceRowsModel", name := "read", desc := "(III)V" } : Jvm.MethodName)), (Jvm.Cond.selects "ServiceRowsModel" ({ cls := "ServiceRowsModel", name := "read", desc := "(III)V" } : Jvm.MethodName) ({ cls := "ServiceRowsModel", name := "read", desc := "(III)V" } : Jvm.MethodName)), (Jvm.Cond.code ({ cls := "ServiceRowsModel", name := "read", desc := "(III)V" } : Jvm.MethodName) prog_8_method_12_code (7 : Nat) (Option.none : Option Jvm.ClassFile.FieldType)), (Jvm.Cond.methodLink "ServiceRowsModel" (91 : Nat) ({ cls := "ServiceRowsModel", name := "isVehicle", desc := "(I)Z" } : Jvm.MethodName)), (Jvm.Cond.instanceMethod ({ cls := "ServiceRowsModel", name := "isVehicle", desc := "(I)Z" } : Jvm.MethodName)), (Jvm.Cond.code ({ cls := "ServiceRowsModel", name := "isVehicle", desc := "(I)Z" } : Jvm.MethodName) prog_8_method_5_code (2 : Nat) (Option.some Jvm.ClassFile.FieldType.boolean)), (Jvm.Cond.constant "ServiceRowsModel" (95 : Nat) (1000000 : Int32)), (Jvm.Cond.methodLink "ServiceRowsLaw" (126 : Nat) ({ cls := "ServiceRowsModel", name := "left", desc := "(III)I" } : Jvm.MethodName)), (Jvm.Cond.instanceMethod ({ cls := "ServiceRowsModel", name := "left", desc := "(III)I" } : Jvm.MethodName)), (Jvm.Cond.selects "ServiceRowsModel" ({ cls := "ServiceRowsModel", name := "left", desc := "(III)I" } : Jvm.MethodName) ({ cls := "ServiceRowsModel", name := "left", desc := "(III)I" } : Jvm.MethodName)), (Jvm.Cond.code ({ cls := "ServiceRowsModel", name := "left", desc := "(III)I" } : Jvm.MethodName) prog_8_method_15_code (5 : Nat) (Option.some Jvm.ClassFile.FieldType.int)), (Jvm.Cond.methodLink "ServiceRowsModel" (103 : Nat) ({ cls := "ServiceRowsModel", name := "isRule", desc := "(I)Z" } : Jvm.MethodName)), (Jvm.Cond.instanceMethod ({ cls := "ServiceRowsModel", name := "isRule", desc := "(I)Z" } : Jvm.MethodName)), (Jvm.Cond.code ({ cls := "ServiceRowsModel", name := "isRule", desc := "(I)Z" } : Jvm.MethodName) prog_8_method_6_code (2 : Nat) (Option.some Jvm.ClassFile.FieldType.boolean)), (Jvm.Cond.methodLink "ServiceRowsModel" (106 : Nat) ({ cls := "ServiceRowsModel", name := "leftOf", desc := "(III)I" } : Jvm.MethodName)), (Jvm.Cond.instanceMethod ({ cls := "ServiceRowsModel", name := "leftOf", desc := "(III)I" } : Jvm.MethodName)), (Jvm.Cond.code ({ cls := "ServiceRowsModel", name := "leftOf", desc := "(III)I" } : Jvm.MethodName) prog_8_method_14_code (4 : Nat) (Option.some Jvm.ClassFile.FieldType.int)), (Jvm.Cond.methodLink "ServiceRowsModel" (99 : Nat) ({ cls := "ServiceRowsModel", name := "now", desc := "(II)I" } : Jvm.MethodName)), (Jvm.Cond.instanceMethod ({ cls := "ServiceRowsModel", name := "now", desc := "(II)I" } : Jvm.MethodName)), (Jvm.Cond.code ({ cls := "ServiceRowsModel", name := "now", desc := "(II)I" } : Jvm.MethodName) prog_8_method_13_code (3 : Nat) (Option.some Jvm.ClassFile.FieldType.int)), (Jvm.Cond.methodLink "ServiceRowsLaw" (130 : Nat) ({ cls := "ServiceRowsModel", name := "due", desc := "(I)I" } : Jvm.MethodName)), (Jvm.Cond.instanceMethod ({ cls := "ServiceRowsModel", name := "due", desc := "(I)I" } : Jvm.MethodName)), (Jvm.Cond.selects "ServiceRowsModel" ({ cls := "ServiceRowsModel", name := "due", desc := "(I)I" } : Jvm.MethodName) ({ cls := "ServiceRowsModel", name := "due", desc := "(I)I" } : Jvm.MethodName)), (Jvm.Cond.code ({ cls := "ServiceRowsModel", name := "due", desc := "(I)I" } : Jvm.MethodName) prog_8_method_19_code (7 : Nat) (Option.some Jvm.ClassFile.FieldType.int)), (Jvm.Cond.methodLink "ServiceRowsModel" (113 : Nat) ({ cls := "ServiceRowsModel", name := "isDue", desc := "(II)Z" } : Jvm.MethodName)), (Jvm.Cond.instanceMethod ({ cls := "ServiceRowsModel", name := "isDue", desc := "(II)Z" } : Jvm.MethodName))]
def xts_14 : List Jvm.Cond := [(Jvm.Cond.code ({ cls := "ServiceRowsModel", name := "isDue", desc := "(II)Z" } : Jvm.MethodName) prog_8_method_16_code (5 : Nat) (Option.some Jvm.ClassFile.FieldType.boolean)), (Jvm.Cond.methodLink "ServiceRowsModel" (117 : Nat) ({ cls := "ServiceRowsModel", name := "isAhead", desc := "(IIII)Z" } : Jvm.MethodName)), (Jvm.Cond.instanceMethod ({ cls := "ServiceRowsModel", name := "isAhead", desc := "(IIII)Z" } : Jvm.MethodName)), (Jvm.Cond.code ({ cls := "ServiceRowsModel", name := "isAhead", desc := "(IIII)Z" } : Jvm.MethodName) prog_8_method_18_code (11 : Nat) (Option.some Jvm.ClassFile.FieldType.boolean)), (Jvm.Cond.methodLink "ServiceRowsModel" (110 : Nat) ({ cls := "ServiceRowsModel", name := "leastOf", desc := "(II)I" } : Jvm.MethodName)), (Jvm.Cond.instanceMethod ({ cls := "ServiceRowsModel", name := "leastOf", desc := "(II)I" } : Jvm.MethodName)), (Jvm.Cond.code ({ cls := "ServiceRowsModel", name := "leastOf", desc := "(II)I" } : Jvm.MethodName) prog_8_method_17_code (8 : Nat) (Option.some Jvm.ClassFile.FieldType.int)), (Jvm.Cond.methodLink "ServiceRowsLaw" (133 : Nat) ({ cls := "ServiceRowsModel", name := "defect", desc := "(IZ)I" } : Jvm.MethodName)), (Jvm.Cond.instanceMethod ({ cls := "ServiceRowsModel", name := "defect", desc := "(IZ)I" } : Jvm.MethodName)), (Jvm.Cond.selects "ServiceRowsModel" ({ cls := "ServiceRowsModel", name := "defect", desc := "(IZ)I" } : Jvm.MethodName) ({ cls := "ServiceRowsModel", name := "defect", desc := "(IZ)I" } : Jvm.MethodName)), (Jvm.Cond.code ({ cls := "ServiceRowsModel", name := "defect", desc := "(IZ)I" } : Jvm.MethodName) prog_8_method_20_code (3 : Nat) (Option.some Jvm.ClassFile.FieldType.int)), (Jvm.Cond.methodLink "ServiceRowsLaw" (137 : Nat) ({ cls := "ServiceRowsModel", name := "test", desc := "(IIII)Z" } : Jvm.MethodName)), (Jvm.Cond.instanceMethod ({ cls := "ServiceRowsModel", name := "test", desc := "(IIII)Z" } : Jvm.MethodName)), (Jvm.Cond.selects "ServiceRowsModel" ({ cls := "ServiceRowsModel", name := "test", desc := "(IIII)Z" } : Jvm.MethodName) ({ cls := "ServiceRowsModel", name := "test", desc := "(IIII)Z" } : Jvm.MethodName)), (Jvm.Cond.code ({ cls := "ServiceRowsModel", name := "test", desc := "(IIII)Z" } : Jvm.MethodName) prog_8_method_21_code (7 : Nat) (Option.some Jvm.ClassFile.FieldType.boolean)), (Jvm.Cond.methodLink "ServiceRowsLaw" (140 : Nat) ({ cls := "ServiceRowsModel", name := "certificate", desc := "(III)V" } : Jvm.MethodName)), (Jvm.Cond.instanceMethod ({ cls := "ServiceRowsModel", name := "certificate", desc := "(III)V" } : Jvm.MethodName)), (Jvm.Cond.selects "ServiceRowsModel" ({ cls := "ServiceRowsModel", name := "certificate", desc := "(III)V" } : Jvm.MethodName) ({ cls := "ServiceRowsModel", name := "certificate", desc := "(III)V" } : Jvm.MethodName)), (Jvm.Cond.code ({ cls := "ServiceRowsModel", name := "certificate", desc := "(III)V" } : Jvm.MethodName) prog_8_method_22_code (4 : Nat) (Option.none : Option Jvm.ClassFile.FieldType)), (Jvm.Cond.methodLink "ServiceRowsLaw" (143 : Nat) ({ cls := "ServiceRowsModel", name := "order", desc := "(I)I" } : Jvm.MethodName)), (Jvm.Cond.instanceMethod ({ cls := "ServiceRowsModel", name := "order", desc := "(I)I" } : Jvm.MethodName)), (Jvm.Cond.selects "ServiceRowsModel" ({ cls := "ServiceRowsModel", name := "order", desc := "(I)I" } : Jvm.MethodName) ({ cls := "ServiceRowsModel", name := "order", desc := "(I)I" } : Jvm.MethodName)), (Jvm.Cond.code ({ cls := "ServiceRowsModel", name := "order", desc := "(I)I" } : Jvm.MethodName) prog_8_method_24_code (4 : Nat) (Option.some Jvm.ClassFile.FieldType.int)), (Jvm.Cond.methodLink "ServiceRowsModel" (124 : Nat) ({ cls := "ServiceRowsModel", name := "openOrder", desc := "(I)I" } : Jvm.MethodName)), (Jvm.Cond.instanceMethod ({ cls := "ServiceRowsModel", name := "openOrder", desc := "(I)I" } : Jvm.MethodName)), (Jvm.Cond.code ({ cls := "ServiceRowsModel", name := "openOrder", desc := "(I)I" } : Jvm.MethodName) prog_8_method_23_code (4 : Nat) (Option.some Jvm.ClassFile.FieldType.int)), (Jvm.Cond.methodLink "ServiceRowsLaw" (147 : Nat) ({ cls := "ServiceRowsModel", name := "work", desc := "(IZI)I" } : Jvm.MethodName)), (Jvm.Cond.instanceMethod ({ cls := "ServiceRowsModel", name := "work", desc := "(IZI)I" } : Jvm.MethodName)), (Jvm.Cond.selects "ServiceRowsModel" ({ cls := "ServiceRowsModel", name := "work", desc := "(IZI)I" } : Jvm.MethodName) ({ cls := "ServiceRowsModel", name := "work", desc := "(IZI)I" } : Jvm.MethodName)), (Jvm.Cond.code ({ cls := "ServiceRowsModel", name := "work", desc := "(IZI)I" } : Jvm.MethodName) prog_8_method_26_code (6 : Nat) (Option.some Jvm.ClassFile.FieldType.int)), (Jvm.Cond.methodLink "ServiceRowsModel" (128 : Nat) ({ cls := "ServiceRowsModel", name := "isOrder", desc := "(I)Z" } : Jvm.MethodName)), (Jvm.Cond.instanceMethod ({ cls := "ServiceRowsModel", name := "isOrder", desc := "(I)Z" } : Jvm.MethodName)), (Jvm.Cond.code ({ cls := "ServiceRowsModel", name := "isOrder", desc := "(I)Z" } : Jvm.MethodName) prog_8_method_7_code (2 : Nat) (Option.some Jvm.ClassFile.FieldType.boolean)), (Jvm.Cond.methodLink "ServiceRowsModel" (131 : Nat) ({ cls := "ServiceRowsModel", name := "worksOf", desc := "(I)I" } : Jvm.MethodName)), (Jvm.Cond.instanceMethod ({ cls := "ServiceRowsModel", name := "worksOf", desc := "(I)I" } : Jvm.MethodName)), (Jvm.Cond.code ({ cls := "ServiceRowsModel", name := "worksOf", desc := "(I)I" } : Jvm.MethodName) prog_8_method_25_code (4 : Nat) (Option.some Jvm.ClassFile.FieldType.int)), (Jvm.Cond.methodLink "ServiceRowsLaw" (150 : Nat) ({ cls := "ServiceRowsModel", name := "part", desc := "(IIII)I" } : Jvm.MethodName)), (Jvm.Cond.instanceMethod ({ cls := "ServiceRowsModel", name := "part", desc := "(IIII)I" } : Jvm.MethodName)), (Jvm.Cond.selects "ServiceRowsModel" ({ cls := "ServiceRowsModel", name := "part", desc := "(IIII)I" } : Jvm.MethodName) ({ cls := "ServiceRowsModel", name := "part", desc := "(IIII)I" } : Jvm.MethodName)), (Jvm.Cond.code ({ cls := "ServiceRowsModel", name := "part", desc := "(IIII)I" } : Jvm.MethodName) prog_8_method_27_code (9 : Nat) (Option.some Jvm.ClassFile.FieldType.int)), (Jvm.Cond.methodLink "ServiceRowsLaw" (153 : Nat) ({ cls := "ServiceRowsModel", name := "warranty", desc := "(III)V" } : Jvm.MethodName)), (Jvm.Cond.instanceMethod ({ cls := "ServiceRowsModel", name := "warranty", desc := "(III)V" } : Jvm.MethodName)), (Jvm.Cond.selects "ServiceRowsModel" ({ cls := "ServiceRowsModel", name := "warranty", desc := "(III)V" } : Jvm.MethodName) ({ cls := "ServiceRowsModel", name := "warranty", desc := "(III)V" } : Jvm.MethodName)), (Jvm.Cond.code ({ cls := "ServiceRowsModel", name := "warranty", desc := "(III)V" } : Jvm.MethodName) prog_8_method_28_code (4 : Nat) (Option.none : Option Jvm.ClassFile.FieldType)), (Jvm.Cond.methodLink "ServiceRowsLaw" (156 : Nat) ({ cls := "ServiceRowsModel", name := "budget", desc := "(I)I" } : Jvm.MethodName)), (Jvm.Cond.instanceMethod ({ cls := "ServiceRowsModel", name := "budget", desc := "(I)I" } : Jvm.MethodName)), (Jvm.Cond.selects "ServiceRowsModel" ({ cls := "ServiceRowsModel", name := "budget", desc := "(I)I" } : Jvm.MethodName) ({ cls := "ServiceRowsModel", name := "budget", desc := "(I)I" } : Jvm.MethodName)), (Jvm.Cond.code ({ cls := "ServiceRowsModel", name := "budget", desc := "(I)I" } : Jvm.MethodName) prog_8_method_29_code (3 : Nat) (Option.some Jvm.ClassFile.FieldType.int)), (Jvm.Cond.constant "ServiceRowsModel" (140 : Nat) (100000000 : Int32)), (Jvm.Cond.constant "ServiceRowsModel" (141 : Nat) (1000000000 : Int32)), (Jvm.Cond.methodLink "ServiceRowsLaw" (159 : Nat) ({ cls := "ServiceRowsModel", name := "done", desc := "(I)I" } : Jvm.MethodName)), (Jvm.Cond.instanceMethod ({ cls := "ServiceRowsModel", name := "done", desc := "(I)I" } : Jvm.MethodName)), (Jvm.Cond.selects "ServiceRowsModel" ({ cls := "ServiceRowsModel", name := "done", desc := "(I)I" } : Jvm.MethodName) ({ cls := "ServiceRowsModel", name := "done", desc := "(I)I" } : Jvm.MethodName)), (Jvm.Cond.code ({ cls := "ServiceRowsModel", name := "done", desc := "(I)I" } : Jvm.MethodName) prog_8_method_30_code (6 : Nat) (Option.some Jvm.ClassFile.FieldType.int)), (Jvm.Cond.methodLink "ServiceRowsLaw" (162 : Nat) ({ cls := "ServiceRowsModel", name := "barred", desc := "(I)I" } : Jvm.MethodName)), (Jvm.Cond.instanceMethod ({ cls := "ServiceRowsModel", name := "barred", desc := "(I)I" } : Jvm.MethodName)), (Jvm.Cond.selects "ServiceRowsModel" ({ cls := "ServiceRowsModel", name := "barred", desc := "(I)I" } : Jvm.MethodName) ({ cls := "ServiceRowsModel", name := "barred", desc := "(I)I" } : Jvm.MethodName)), (Jvm.Cond.code ({ cls := "ServiceRowsModel", name := "barred", desc := "(I)I" } : Jvm.MethodName) prog_8_method_32_code (2 : Nat) (Option.some Jvm.ClassFile.FieldType.int)), (Jvm.Cond.methodLink "ServiceRowsModel" (144 : Nat) ({ cls := "ServiceRowsModel", name := "reason", desc := "(I)I" } : Jvm.MethodName)), (Jvm.Cond.instanceMethod ({ cls := "ServiceRowsModel", name := "reason", desc := "(I)I" } : Jvm.MethodName))]
def xts_15 : List Jvm.Cond := [(Jvm.Cond.code ({ cls := "ServiceRowsModel", name := "reason", desc := "(I)I" } : Jvm.MethodName) prog_8_method_31_code (7 : Nat) (Option.some Jvm.ClassFile.FieldType.int)), (Jvm.Cond.constantLong "ServiceRowsModel" (142 : Nat) (10 : Int64)), (Jvm.Cond.methodLink "ServiceRowsLaw" (165 : Nat) ({ cls := "ServiceRowsModel", name := "spare", desc := "(I)I" } : Jvm.MethodName)), (Jvm.Cond.instanceMethod ({ cls := "ServiceRowsModel", name := "spare", desc := "(I)I" } : Jvm.MethodName)), (Jvm.Cond.selects "ServiceRowsModel" ({ cls := "ServiceRowsModel", name := "spare", desc := "(I)I" } : Jvm.MethodName) ({ cls := "ServiceRowsModel", name := "spare", desc := "(I)I" } : Jvm.MethodName)), (Jvm.Cond.code ({ cls := "ServiceRowsModel", name := "spare", desc := "(I)I" } : Jvm.MethodName) prog_8_method_33_code (7 : Nat) (Option.some Jvm.ClassFile.FieldType.int)), (Jvm.Cond.methodLink "ServiceRowsLaw" (169 : Nat) ({ cls := "ServiceRowsModel", name := "oil", desc := "(II)I" } : Jvm.MethodName)), (Jvm.Cond.instanceMethod ({ cls := "ServiceRowsModel", name := "oil", desc := "(II)I" } : Jvm.MethodName)), (Jvm.Cond.selects "ServiceRowsModel" ({ cls := "ServiceRowsModel", name := "oil", desc := "(II)I" } : Jvm.MethodName) ({ cls := "ServiceRowsModel", name := "oil", desc := "(II)I" } : Jvm.MethodName)), (Jvm.Cond.code ({ cls := "ServiceRowsModel", name := "oil", desc := "(II)I" } : Jvm.MethodName) prog_8_method_34_code (5 : Nat) (Option.some Jvm.ClassFile.FieldType.int)), (Jvm.Cond.methodLink "ServiceRowsLaw" (172 : Nat) ({ cls := "ServiceRowsModel", name := "oilPer", desc := "(II)J" } : Jvm.MethodName)), (Jvm.Cond.instanceMethod ({ cls := "ServiceRowsModel", name := "oilPer", desc := "(II)J" } : Jvm.MethodName)), (Jvm.Cond.selects "ServiceRowsModel" ({ cls := "ServiceRowsModel", name := "oilPer", desc := "(II)J" } : Jvm.MethodName) ({ cls := "ServiceRowsModel", name := "oilPer", desc := "(II)J" } : Jvm.MethodName)), (Jvm.Cond.code ({ cls := "ServiceRowsModel", name := "oilPer", desc := "(II)J" } : Jvm.MethodName) prog_8_method_35_code (14 : Nat) (Option.some Jvm.ClassFile.FieldType.long)), (Jvm.Cond.constantLong "ServiceRowsModel" (147 : Nat) (100 : Int64)), (Jvm.Cond.methodLink "ServiceRowsLaw" (175 : Nat) ({ cls := "ServiceRowsModel", name := "defectAt", desc := "(II)I" } : Jvm.MethodName)), (Jvm.Cond.instanceMethod ({ cls := "ServiceRowsModel", name := "defectAt", desc := "(II)I" } : Jvm.MethodName)), (Jvm.Cond.selects "ServiceRowsModel" ({ cls := "ServiceRowsModel", name := "defectAt", desc := "(II)I" } : Jvm.MethodName) ({ cls := "ServiceRowsModel", name := "defectAt", desc := "(II)I" } : Jvm.MethodName)), (Jvm.Cond.code ({ cls := "ServiceRowsModel", name := "defectAt", desc := "(II)I" } : Jvm.MethodName) prog_8_method_36_code (3 : Nat) (Option.some Jvm.ClassFile.FieldType.int)), (Jvm.Cond.methodLink "ServiceRowsLaw" (178 : Nat) ({ cls := "ServiceRowsModel", name := "count", desc := "(I)I" } : Jvm.MethodName)), (Jvm.Cond.instanceMethod ({ cls := "ServiceRowsModel", name := "count", desc := "(I)I" } : Jvm.MethodName)), (Jvm.Cond.selects "ServiceRowsModel" ({ cls := "ServiceRowsModel", name := "count", desc := "(I)I" } : Jvm.MethodName) ({ cls := "ServiceRowsModel", name := "count", desc := "(I)I" } : Jvm.MethodName)), (Jvm.Cond.code ({ cls := "ServiceRowsModel", name := "count", desc := "(I)I" } : Jvm.MethodName) prog_8_method_37_code (4 : Nat) (Option.some Jvm.ClassFile.FieldType.int)), (Jvm.Cond.arrayClass Jvm.ClassFile.FieldType.long), (Jvm.Cond.not (Jvm.Cond.castable "java/lang/ArithmeticException" "java/lang/IllegalArgumentException")), (Jvm.Cond.not (Jvm.Cond.castable "java/lang/IllegalArgumentException" "java/lang/ArithmeticException")), (Jvm.Cond.not (Jvm.Cond.castable "java/lang/IllegalArgumentException" "java/lang/IllegalStateException")), (Jvm.Cond.not (Jvm.Cond.castable "java/lang/IllegalArgumentException" "java/lang/IndexOutOfBoundsException")), (Jvm.Cond.not (Jvm.Cond.castable "java/lang/IllegalArgumentException" "java/lang/UnsupportedOperationException")), (Jvm.Cond.not (Jvm.Cond.castable "java/lang/IllegalStateException" "java/lang/IllegalArgumentException")), (Jvm.Cond.not (Jvm.Cond.castable "java/lang/IllegalStateException" "java/lang/IndexOutOfBoundsException")), (Jvm.Cond.not (Jvm.Cond.castable "java/lang/IllegalStateException" "java/lang/UnsupportedOperationException")), (Jvm.Cond.not (Jvm.Cond.castable "java/lang/IndexOutOfBoundsException" "java/lang/IllegalArgumentException")), (Jvm.Cond.not (Jvm.Cond.castable "java/lang/IndexOutOfBoundsException" "java/lang/IllegalStateException")), (Jvm.Cond.not (Jvm.Cond.castable "java/lang/IndexOutOfBoundsException" "java/lang/UnsupportedOperationException")), (Jvm.Cond.not (Jvm.Cond.castable "java/lang/UnsupportedOperationException" "java/lang/IllegalArgumentException")), (Jvm.Cond.not (Jvm.Cond.castable "java/lang/UnsupportedOperationException" "java/lang/IllegalStateException")), (Jvm.Cond.not (Jvm.Cond.castable "java/lang/UnsupportedOperationException" "java/lang/IndexOutOfBoundsException"))]
def xts : List Jvm.Cond := xts_0 ++ (xts_1 ++ (xts_2 ++ (xts_3 ++ (xts_4 ++ (xts_5 ++ (xts_6 ++ (xts_7 ++ (xts_8 ++ (xts_9 ++ (xts_10 ++ (xts_11 ++ (xts_12 ++ (xts_13 ++ (xts_14 ++ (xts_15)))))))))))))))
def xbig : List Jvm.Cond := lw_tbl ++ xnc
set_option maxRecDepth 100000 in
theorem xts_in_0 : ∀ w ∈ xts_0, w ∈ xbig := by
  intro w hw
  have h : xts_0 = [0, 1, 2, 3, 4, 5, 6, 7, 8, 9, 10, 11, 12, 13, 14, 15, 16, 17, 18, 19, 20, 21, 22, 23, 24, 25, 26, 27, 28, 29, 30, 31, 32, 33, 34, 35, 36, 37, 38, 39, 40, 41, 42, 43, 44, 45, 46, 47, 48, 49, 50, 51, 52, 53, 54, 55, 56, 57, 58, 59].filterMap (fun i => xbig[i]?) := by rfl
  rw [h] at hw
  obtain ⟨i, -, hi⟩ := List.mem_filterMap.mp hw
  exact List.mem_of_getElem? hi
set_option maxRecDepth 100000 in
theorem xts_in_1 : ∀ w ∈ xts_1, w ∈ xbig := by
  intro w hw
  have h : xts_1 = [60, 61, 62, 63, 64, 65, 66, 67, 69, 71, 73, 75, 77, 79, 81, 83, 84, 85, 86, 87, 88, 89, 90, 91, 92, 93, 94, 95, 97, 99, 101, 102, 103, 104, 105, 106, 107, 108, 109, 110, 111, 112, 113, 115, 117, 119, 121, 123, 124, 125, 126, 127, 128, 129, 130, 131, 132, 133, 134, 135].filterMap (fun i => xbig[i]?) := by rfl
  rw [h] at hw
  obtain ⟨i, -, hi⟩ := List.mem_filterMap.mp hw
  exact List.mem_of_getElem? hi
set_option maxRecDepth 100000 in
theorem xts_in_2 : ∀ w ∈ xts_2, w ∈ xbig := by
  intro w hw
  have h : xts_2 = [136, 137, 139, 141, 143, 145, 147, 149, 151, 152, 153, 154, 155, 156, 157, 158, 159, 160, 161, 162, 164, 166, 168, 170, 171, 172, 173, 174, 175, 176, 177, 178, 179, 180, 182, 184, 186, 188, 190, 192, 194, 196, 198, 199, 200, 201, 202, 203, 204, 205, 206, 207, 208, 209, 210, 211, 212, 213, 214, 215].filterMap (fun i => xbig[i]?) := by rfl
  rw [h] at hw
  obtain ⟨i, -, hi⟩ := List.mem_filterMap.mp hw
  exact List.mem_of_getElem? hi
set_option maxRecDepth 100000 in
theorem xts_in_3 : ∀ w ∈ xts_3, w ∈ xbig := by
  intro w hw
  have h : xts_3 = [216, 217, 218, 219, 220, 221, 222, 223, 224, 225, 226, 227, 228, 229, 230, 231, 232, 233, 234, 235, 236, 237, 239, 241, 242, 244, 245, 246, 247, 248, 249, 251, 252, 253, 254, 255, 256, 257, 258, 259, 260, 261, 262, 263, 264, 265, 266, 267, 268, 269, 270, 271, 276, 279, 280, 281, 282, 283, 284, 285].filterMap (fun i => xbig[i]?) := by rfl
  rw [h] at hw
  obtain ⟨i, -, hi⟩ := List.mem_filterMap.mp hw
  exact List.mem_of_getElem? hi
set_option maxRecDepth 100000 in
theorem xts_in_4 : ∀ w ∈ xts_4, w ∈ xbig := by
  intro w hw
  have h : xts_4 = [286, 287, 288, 289, 290, 291, 292, 293, 294, 295, 296, 297, 298, 299, 300, 301, 302, 303, 304, 305, 306, 307, 308, 309, 310, 311, 312, 313, 314, 315, 316, 317, 318, 319, 320, 321, 322, 323, 324, 325, 326, 327, 328, 329, 330, 331, 332, 333, 334, 335, 336, 337, 338, 339, 340, 341, 342, 343, 344, 345].filterMap (fun i => xbig[i]?) := by rfl
  rw [h] at hw
  obtain ⟨i, -, hi⟩ := List.mem_filterMap.mp hw
  exact List.mem_of_getElem? hi
set_option maxRecDepth 100000 in
theorem xts_in_5 : ∀ w ∈ xts_5, w ∈ xbig := by
  intro w hw
  have h : xts_5 = [346, 347, 348, 349, 350, 351, 352, 353, 354, 355, 356, 357, 358, 359, 360, 361, 362, 363, 364, 365, 366, 367, 368, 369, 370, 371, 372, 373, 374, 375, 376, 377, 378, 379, 380, 381, 382, 383, 384, 385, 386, 387, 388, 389, 390, 391, 392, 393, 394, 395, 396, 397, 398, 399, 400, 401, 402, 403, 404, 405].filterMap (fun i => xbig[i]?) := by rfl
  rw [h] at hw
  obtain ⟨i, -, hi⟩ := List.mem_filterMap.mp hw
  exact List.mem_of_getElem? hi
set_option maxRecDepth 100000 in
theorem xts_in_6 : ∀ w ∈ xts_6, w ∈ xbig := by
  intro w hw
  have h : xts_6 = [406, 407, 408, 409, 410, 411, 412, 413, 414, 415, 416, 417, 418, 419, 420, 421, 422, 423, 424, 425, 427, 428, 429, 431, 432, 433, 434, 435, 436, 437, 438, 439, 440, 441, 442, 443, 444, 445, 446, 448, 449, 450, 451, 452, 453, 454, 456, 457, 458, 459, 460, 461, 462, 463, 464, 465, 467, 468, 469, 471].filterMap (fun i => xbig[i]?) := by rfl
  rw [h] at hw
  obtain ⟨i, -, hi⟩ := List.mem_filterMap.mp hw
  exact List.mem_of_getElem? hi
set_option maxRecDepth 100000 in
theorem xts_in_7 : ∀ w ∈ xts_7, w ∈ xbig := by
  intro w hw
  have h : xts_7 = [472, 473, 474, 475, 476, 477, 478, 479, 480, 481, 482, 483, 484, 485, 486, 487, 488, 489, 490, 491, 492, 493, 494, 495, 496, 497, 498, 499, 500, 501, 502, 503, 504, 505, 506, 507, 508, 509, 510, 511, 512, 513, 514, 515, 516, 517, 518, 519, 520, 521, 522, 523, 524, 525, 526, 527, 528, 529, 530, 531].filterMap (fun i => xbig[i]?) := by rfl
  rw [h] at hw
  obtain ⟨i, -, hi⟩ := List.mem_filterMap.mp hw
  exact List.mem_of_getElem? hi
set_option maxRecDepth 100000 in
theorem xts_in_8 : ∀ w ∈ xts_8, w ∈ xbig := by
  intro w hw
  have h : xts_8 = [532, 533, 534, 535, 536, 537, 538, 539, 540, 541, 542, 544, 545, 546, 547, 548, 549, 550, 551, 553, 554, 555, 556, 557, 558, 559, 560, 561, 562, 563, 564, 566, 567, 568, 569, 570, 571, 572, 573, 574, 575, 576, 577, 578, 579, 580, 581, 582, 583, 584, 585, 586, 587, 588, 589, 590, 591, 592, 593, 594].filterMap (fun i => xbig[i]?) := by rfl
  rw [h] at hw
  obtain ⟨i, -, hi⟩ := List.mem_filterMap.mp hw
  exact List.mem_of_getElem? hi
set_option maxRecDepth 100000 in
theorem xts_in_9 : ∀ w ∈ xts_9, w ∈ xbig := by
  intro w hw
  have h : xts_9 = [595, 596, 597, 598, 599, 600, 601, 602, 603, 604, 605, 606, 608, 609, 610, 611, 612, 613, 614, 615, 616, 617, 618, 619, 620, 621, 622, 623, 624, 625, 626, 627, 628, 629, 630, 631, 632, 633, 634, 635, 636, 637, 638, 639, 640, 641, 642, 643, 644, 645, 646, 647, 648, 649, 650, 651, 653, 654, 655, 656].filterMap (fun i => xbig[i]?) := by rfl
  rw [h] at hw
  obtain ⟨i, -, hi⟩ := List.mem_filterMap.mp hw
  exact List.mem_of_getElem? hi
set_option maxRecDepth 100000 in
theorem xts_in_10 : ∀ w ∈ xts_10, w ∈ xbig := by
  intro w hw
  have h : xts_10 = [657, 658, 659, 660, 661, 662, 663, 664, 665, 666, 667, 668, 669, 670, 671, 672, 673, 674, 675, 677, 678, 679, 680, 681, 682, 683, 684, 685, 686, 687, 688, 689, 690, 691, 693, 694, 695, 696, 697, 698, 699, 700, 701, 702, 703, 704, 705, 706, 707, 708, 709, 710, 711, 712, 713, 714, 715, 716, 717, 718].filterMap (fun i => xbig[i]?) := by rfl
  rw [h] at hw
  obtain ⟨i, -, hi⟩ := List.mem_filterMap.mp hw
  exact List.mem_of_getElem? hi
set_option maxRecDepth 100000 in
theorem xts_in_11 : ∀ w ∈ xts_11, w ∈ xbig := by
  intro w hw
  have h : xts_11 = [719, 720, 721, 722, 723, 724, 725, 726, 727, 728, 729, 730, 731, 732, 733, 734, 735, 736, 737, 738, 739, 740, 741, 742, 743, 744, 745, 746, 747, 748, 749, 750, 751, 752, 753, 754, 755, 756, 757, 758, 759, 760, 761, 762, 763, 764, 765, 766, 767, 768, 769, 770, 771, 772, 773, 774, 775, 776, 777, 778].filterMap (fun i => xbig[i]?) := by rfl
  rw [h] at hw
  obtain ⟨i, -, hi⟩ := List.mem_filterMap.mp hw
  exact List.mem_of_getElem? hi
set_option maxRecDepth 100000 in
theorem xts_in_12 : ∀ w ∈ xts_12, w ∈ xbig := by
  intro w hw
  have h : xts_12 = [779, 780, 782, 783, 784, 785, 786, 787, 788, 789, 790, 791, 792, 793, 794, 795, 796, 797, 798, 799, 800, 801, 802, 803, 804, 805, 806, 807, 808, 809, 810, 811, 812, 813, 814, 815, 816, 817, 819, 821, 823, 825, 827, 829, 831, 833, 835, 837, 839, 841, 843, 845, 847, 849, 851, 853, 855, 857, 859, 861].filterMap (fun i => xbig[i]?) := by rfl
  rw [h] at hw
  obtain ⟨i, -, hi⟩ := List.mem_filterMap.mp hw
  exact List.mem_of_getElem? hi
set_option maxRecDepth 100000 in
theorem xts_in_13 : ∀ w ∈ xts_13, w ∈ xbig := by
  intro w hw
  have h : xts_13 = [863, 865, 867, 869, 871, 872, 873, 874, 875, 876, 877, 878, 879, 880, 881, 882, 883, 885, 886, 887, 888, 889, 890, 891, 892, 893, 894, 895, 896, 897, 898, 899, 900, 901, 902, 903, 904, 905, 907, 908, 909, 910, 911, 912, 913, 914, 916, 917, 918, 920, 921, 922, 924, 925, 926, 927, 928, 929, 930, 932].filterMap (fun i => xbig[i]?) := by rfl
  rw [h] at hw
  obtain ⟨i, -, hi⟩ := List.mem_filterMap.mp hw
  exact List.mem_of_getElem? hi
set_option maxRecDepth 100000 in
theorem xts_in_14 : ∀ w ∈ xts_14, w ∈ xbig := by
  intro w hw
  have h : xts_14 = [933, 934, 936, 937, 938, 940, 941, 942, 943, 944, 945, 946, 947, 948, 949, 950, 951, 952, 953, 954, 955, 956, 957, 958, 960, 961, 962, 963, 964, 965, 966, 968, 969, 970, 972, 973, 974, 975, 976, 977, 978, 979, 980, 981, 982, 983, 984, 985, 986, 987, 988, 989, 990, 991, 992, 993, 994, 995, 996, 998].filterMap (fun i => xbig[i]?) := by rfl
  rw [h] at hw
  obtain ⟨i, -, hi⟩ := List.mem_filterMap.mp hw
  exact List.mem_of_getElem? hi
set_option maxRecDepth 100000 in
theorem xts_in_15 : ∀ w ∈ xts_15, w ∈ xbig := by
  intro w hw
  have h : xts_15 = [999, 1000, 1001, 1002, 1003, 1004, 1005, 1006, 1007, 1008, 1009, 1010, 1011, 1012, 1013, 1014, 1015, 1016, 1017, 1018, 1019, 1020, 1021, 1022, 1024, 1025, 1026, 1027, 1028, 1029, 1030, 1031, 1032, 1033, 1034, 1035, 1036, 1037].filterMap (fun i => xbig[i]?) := by rfl
  rw [h] at hw
  obtain ⟨i, -, hi⟩ := List.mem_filterMap.mp hw
  exact List.mem_of_getElem? hi
theorem xts_in : ∀ w ∈ xts, w ∈ xbig := by
  intro w hw
  simp only [xts, List.mem_append] at hw
  rcases hw with hw | hw | hw | hw | hw | hw | hw | hw | hw | hw | hw | hw | hw | hw | hw | hw
  · exact xts_in_0 w hw
  · exact xts_in_1 w hw
  · exact xts_in_2 w hw
  · exact xts_in_3 w hw
  · exact xts_in_4 w hw
  · exact xts_in_5 w hw
  · exact xts_in_6 w hw
  · exact xts_in_7 w hw
  · exact xts_in_8 w hw
  · exact xts_in_9 w hw
  · exact xts_in_10 w hw
  · exact xts_in_11 w hw
  · exact xts_in_12 w hw
  · exact xts_in_13 w hw
  · exact xts_in_14 w hw
  · exact xts_in_15 w hw
set_option maxRecDepth 100000 in
theorem xts_good : xts.all xw_ok = true := by decide +kernel
def xth : List Jvm.Cond := [.laysStatic "java/lang/Throwable" "UNASSIGNED_STACK" "[Ljava/lang/StackTraceElement;", .laysStatic "java/lang/Throwable" "SUPPRESSED_SENTINEL" "Ljava/util/List;", .isRef (.static "java/lang/Throwable" "UNASSIGNED_STACK" "[Ljava/lang/StackTraceElement;"), .isRef (.static "java/lang/Throwable" "SUPPRESSED_SENTINEL" "Ljava/util/List;")]
def xR_0 : List xa_R := [(0, .aload_n 0, 1, 1, 0, 0, []), (1, .invokespecial 1, 3, 2, 1000, 0, []), (4, .aload_n 0, 1, 3, 0, 0, []), (5, .new 7, 3, 4, 1, 0, [1, 1, 1, 1, 1, 1, 1, 0]), (8, .dup, 1, 5, 0, 0, []), (9, .invokespecial 9, 3, 6, 40, 1, [1, 14]), (12, .putfield 10, 3, 7, 0, 0, [1]), (15, .aload_n 0, 1, 8, 0, 0, []), (16, .new 16, 3, 9, 2, 0, [1, 1, 0]), (19, .dup, 1, 10, 0, 0, []), (20, .invokespecial 18, 3, 11, 54, 1, [2, 14]), (23, .putfield 19, 3, 12, 0, 1, [1]), (26, .aload_n 0, 1, 13, 0, 0, []), (27, .new 23, 3, 14, 3, 0, [1, 1, 1, 1, 0]), (30, .dup, 1, 15, 0, 0, []), (31, .invokespecial 25, 3, 16, 62, 1, [3, 14]), (34, .putfield 26, 3, 17, 0, 2, [1]), (37, .aload_n 0, 1, 18, 0, 0, []), (38, .new 30, 3, 19, 4, 0, [1, 1, 1, 1, 1, 0, 0]), (41, .dup, 1, 20, 0, 0, []), (42, .invokespecial 32, 3, 21, 74, 1, [4, 14]), (45, .putfield 33, 3, 22, 0, 3, [1]), (48, .aload_n 0, 1, 23, 0, 0, []), (49, .new 37, 3, 24, 5, 0, [1, 1, 1, 0]), (52, .dup, 1, 25, 0, 0, []), (53, .invokespecial 39, 3, 26, 89, 1, [5, 14]), (56, .putfield 40, 3, 27, 0, 4, [1]), (59, .aload_n 0, 1, 28, 0, 0, []), (60, .iconst 0, 1, 29, 0, 0, []), (61, .putfield 44, 3, 30, 0, 5, [0]), (64, .aload_n 0, 1, 31, 0, 0, []), (65, .iconst 0, 1, 32, 0, 0, []), (66, .putfield 48, 3, 33, 0, 6, [0]), (69, .aload_n 0, 1, 34, 0, 0, []), (70, .iconst 5, 1, 35, 5, 0, []), (71, .putfield 51, 3, 36, 0, 7, [0]), (74, .aload_n 0, 1, 37, 0, 0, []), (75, .iconst 0, 1, 38, 0, 0, []), (76, .putfield 54, 3, 39, 0, 8, [0]), (79, .return_, 1, 40, 0, 0, [])]
def xM_0 : xa_M := (⟨"ServiceRows", "<init>", "()V"⟩, prog_1_method_1_code, 1, none, [], xR_0)
def xR_1 : List xa_R := [(0, .iload_n 1, 1, 1, 1, 0, []), (1, .iconst 0, 1, 2, 0, 0, []), (2, .bipush 9, 2, 3, 9, 0, []), (4, .invokestatic 57, 3, 4, 24, 3, [999, 14]), (7, .aload_n 0, 1, 5, 0, 0, []), (8, .getfield 10, 3, 6, 0, 0, []), (11, .invokevirtual 61, 3, 7, 41, 1, [1, 12]), (14, .bipush 30, 2, 8, 30, 0, []), (16, .invokestatic 65, 3, 9, 25, 2, [999, 13]), (19, .aload_n 0, 1, 10, 0, 0, []), (20, .getfield 10, 3, 11, 0, 0, []), (23, .iload_n 1, 1, 12, 1, 0, []), (24, .iload_n 2, 1, 13, 2, 0, []), (25, .invokevirtual 69, 3, 14, 42, 3, [1, 15]), (28, .istore_n 3, 1, 15, 3, 0, []), (29, .aload_n 0, 1, 16, 0, 0, []), (30, .getfield 19, 3, 17, 0, 1, []), (33, .iload_n 3, 1, 18, 3, 0, []), (34, .aload_n 0, 1, 19, 0, 0, []), (35, .getfield 44, 3, 20, 0, 5, []), (38, .invokevirtual 73, 3, 21, 57, 3, [2, 15]), (41, .iload_n 3, 1, 22, 3, 0, []), (42, .ireturn, 1, 23, 0, 0, [])]
def xM_1 : xa_M := (⟨"ServiceRows", "vehicle", "(IZ)I"⟩, prog_1_method_2_code, 4, some .int, [], xR_1)
def xR_2 : List xa_R := [(0, .iload_n 1, 1, 1, 1, 0, []), (1, .iconst 0, 1, 2, 0, 0, []), (2, .ldc 76, 2, 3, 100000, 0, []), (4, .invokestatic 57, 3, 4, 24, 3, [999, 14]), (7, .iload_n 2, 1, 5, 2, 0, []), (8, .iconst 0, 1, 6, 0, 0, []), (9, .ldc 76, 2, 7, 100000, 0, []), (11, .invokestatic 57, 3, 8, 24, 3, [999, 14]), (14, .iload_n 3, 1, 9, 3, 0, []), (15, .iconst 0, 1, 10, 0, 0, []), (16, .ldc 76, 2, 11, 100000, 0, []), (18, .invokestatic 57, 3, 12, 24, 3, [999, 14]), (21, .iload_n 1, 1, 13, 1, 0, []), (22, .ifCond .ne 21, 3, 14, 19, 0, []), (25, .iload_n 2, 1, 15, 2, 0, []), (26, .ifCond .ne 17, 3, 16, 19, 0, []), (29, .iload_n 3, 1, 17, 3, 0, []), (30, .ifCond .ne 13, 3, 18, 19, 0, []), (33, .new 77, 3, 19, 8, 99, [79, 81, 2]), (43, .aload_n 0, 1, 20, 0, 0, []), (44, .getfield 19, 3, 21, 0, 1, []), (47, .invokevirtual 84, 3, 22, 55, 1, [2, 12]), (50, .bipush 10, 2, 23, 10, 0, []), (52, .invokestatic 65, 3, 24, 25, 2, [999, 13]), (55, .aload_n 0, 1, 25, 0, 0, []), (56, .getfield 19, 3, 26, 0, 1, []), (59, .iload_n 1, 1, 27, 1, 0, []), (60, .iload_n 2, 1, 28, 2, 0, []), (61, .iload_n 3, 1, 29, 3, 0, []), (62, .invokevirtual 85, 3, 30, 56, 4, [2, 15]), (65, .ireturn, 1, 31, 0, 0, [])]
def xM_2 : xa_M := (⟨"ServiceRows", "rule", "(III)I"⟩, prog_1_method_3_code, 4, some .int, [], xR_2)
def xR_3 : List xa_R := [(0, .iload_n 1, 1, 1, 1, 0, []), (1, .iconst 1, 1, 2, 1, 0, []), (2, .bipush 100, 2, 3, 100, 0, []), (4, .invokestatic 57, 3, 4, 24, 3, [999, 14]), (7, .aload_n 0, 1, 5, 0, 0, []), (8, .iload_n 1, 1, 6, 1, 0, []), (9, .putfield 51, 3, 7, 0, 7, [0]), (12, .return_, 1, 8, 0, 0, [])]
def xM_3 : xa_M := (⟨"ServiceRows", "small", "(I)V"⟩, prog_1_method_4_code, 2, none, [], xR_3)
def xR_4 : List xa_R := [(0, .iload_n 1, 1, 1, 1, 0, []), (1, .aload_n 0, 1, 2, 0, 0, []), (2, .getfield 44, 3, 3, 0, 5, []), (5, .ldc 88, 2, 4, 99999, 0, []), (7, .invokestatic 57, 3, 5, 24, 3, [999, 14]), (10, .aload_n 0, 1, 6, 0, 0, []), (11, .iload_n 1, 1, 7, 1, 0, []), (12, .putfield 44, 3, 8, 0, 5, [0]), (15, .return_, 1, 9, 0, 0, [])]
def xM_4 : xa_M := (⟨"ServiceRows", "day", "(I)V"⟩, prog_1_method_5_code, 2, none, [], xR_4)
def xR_5 : List xa_R := [(0, .iload_n 1, 1, 1, 1, 0, []), (1, .aload_n 0, 1, 2, 0, 0, []), (2, .getfield 10, 3, 3, 0, 0, []), (5, .invokevirtual 61, 3, 4, 41, 1, [1, 13]), (8, .invokestatic 89, 3, 5, 23, 2, [999, 13]), (11, .iload_n 2, 1, 6, 2, 0, []), (12, .iconst 0, 1, 7, 0, 0, []), (13, .ldc 92, 2, 8, 1000000, 0, []), (15, .invokestatic 57, 3, 9, 24, 3, [999, 14]), (18, .iload_n 3, 1, 10, 3, 0, []), (19, .iconst 0, 1, 11, 0, 0, []), (20, .ldc 92, 2, 12, 1000000, 0, []), (22, .invokestatic 57, 3, 13, 24, 3, [999, 14]), (25, .iload_n 2, 1, 14, 2, 0, []), (26, .aload_n 0, 1, 15, 0, 0, []), (27, .getfield 10, 3, 16, 0, 0, []), (30, .iload_n 1, 1, 17, 1, 0, []), (31, .invokevirtual 93, 3, 18, 45, 2, [1, 14]), (34, .if_icmp .lt 15, 3, 19, 25, 0, []), (37, .iload_n 3, 1, 20, 3, 0, []), (38, .aload_n 0, 1, 21, 0, 0, []), (39, .getfield 10, 3, 22, 0, 0, []), (42, .iload_n 1, 1, 23, 1, 0, []), (43, .invokevirtual 97, 3, 24, 46, 2, [1, 14]), (46, .if_icmp .ge 23, 3, 25, 32, 0, []), (49, .aload_n 0, 1, 26, 0, 0, []), (50, .dup, 1, 27, 0, 0, []), (51, .getfield 54, 3, 28, 0, 8, []), (54, .iconst 1, 1, 29, 1, 0, []), (55, .iadd, 1, 30, 0, 0, []), (56, .putfield 54, 3, 31, 0, 8, [0]), (59, .new 100, 3, 32, 9, 99, [102, 104, 2]), (69, .aload_n 0, 1, 33, 0, 0, []), (70, .getfield 10, 3, 34, 0, 0, []), (73, .iload_n 1, 1, 35, 1, 0, []), (74, .iload_n 2, 1, 36, 2, 0, []), (75, .iload_n 3, 1, 37, 3, 0, []), (76, .invokevirtual 105, 3, 38, 47, 4, [1, 15]), (79, .return_, 1, 39, 0, 0, [])]
def xM_5 : xa_M := (⟨"ServiceRows", "read", "(III)V"⟩, prog_1_method_6_code, 4, none, [], xR_5)
def xR_6 : List xa_R := [(0, .iload_n 1, 1, 1, 1, 0, []), (1, .aload_n 0, 1, 2, 0, 0, []), (2, .getfield 10, 3, 3, 0, 0, []), (5, .invokevirtual 61, 3, 4, 41, 1, [1, 13]), (8, .invokestatic 89, 3, 5, 23, 2, [999, 13]), (11, .iload_n 2, 1, 6, 2, 0, []), (12, .aload_n 0, 1, 7, 0, 0, []), (13, .getfield 19, 3, 8, 0, 1, []), (16, .invokevirtual 84, 3, 9, 55, 1, [2, 13]), (19, .invokestatic 89, 3, 10, 23, 2, [999, 13]), (22, .iload_n 3, 1, 11, 3, 0, []), (23, .iconst 3, 1, 12, 3, 0, []), (24, .invokestatic 89, 3, 13, 23, 2, [999, 13]), (27, .aload_n 0, 1, 14, 0, 0, []), (28, .getfield 19, 3, 15, 0, 1, []), (31, .iload_n 2, 1, 16, 2, 0, []), (32, .iload_n 3, 1, 17, 3, 0, []), (33, .invokevirtual 108, 3, 18, 59, 3, [2, 14]), (36, .ifCond .ne 13, 3, 19, 20, 0, []), (39, .new 100, 3, 20, 9, 99, [112, 104, 2]), (49, .aload_n 0, 1, 21, 0, 0, []), (50, .iload_n 1, 1, 22, 1, 0, []), (51, .iload_n 2, 1, 23, 2, 0, []), (52, .iload_n 3, 1, 24, 3, 0, []), (53, .invokevirtual 114, 3, 25, 28, 4, [0, 16]), (56, .ireturn, 1, 26, 0, 0, [])]
def xM_6 : xa_M := (⟨"ServiceRows", "left", "(III)I"⟩, prog_1_method_7_code, 4, some .int, [], xR_6)
def xR_7 : List xa_R := [(0, .iload_n 1, 1, 1, 1, 0, []), (1, .ifCond .ge 13, 3, 2, 3, 0, []), (4, .new 77, 3, 3, 8, 99, [117, 81, 2]), (14, .aload_n 0, 1, 4, 0, 0, []), (15, .invokevirtual 119, 3, 5, 31, 1, [0, 16]), (18, .aload_n 0, 1, 6, 0, 0, []), (19, .getfield 40, 3, 7, 0, 4, []), (22, .iload_n 1, 1, 8, 1, 0, []), (23, .invokevirtual 122, 3, 9, 94, 2, [5, 13]), (26, .ireturn, 1, 10, 0, 0, [])]
def xM_7 : xa_M := (⟨"ServiceRows", "due", "(I)I"⟩, prog_1_method_8_code, 2, some .int, [], xR_7)
def xR_8 : List xa_R := [(0, .iload_n 1, 1, 1, 1, 0, []), (1, .aload_n 0, 1, 2, 0, 0, []), (2, .getfield 10, 3, 3, 0, 0, []), (5, .invokevirtual 61, 3, 4, 41, 1, [1, 13]), (8, .invokestatic 89, 3, 5, 23, 2, [999, 13]), (11, .aload_n 0, 1, 6, 0, 0, []), (12, .getfield 26, 3, 7, 0, 2, []), (15, .invokevirtual 125, 3, 8, 63, 1, [3, 12]), (18, .bipush 100, 2, 9, 100, 0, []), (20, .invokestatic 65, 3, 10, 25, 2, [999, 13]), (23, .aload_n 0, 1, 11, 0, 0, []), (24, .getfield 26, 3, 12, 0, 2, []), (27, .iload_n 1, 1, 13, 1, 0, []), (28, .iload_n 2, 1, 14, 2, 0, []), (29, .invokevirtual 126, 3, 15, 64, 3, [3, 14]), (32, .ireturn, 1, 16, 0, 0, [])]
def xM_8 : xa_M := (⟨"ServiceRows", "defect", "(IZ)I"⟩, prog_1_method_9_code, 3, some .int, [], xR_8)
def xR_9 : List xa_R := [(0, .iload_n 1, 1, 1, 1, 0, []), (1, .aload_n 0, 1, 2, 0, 0, []), (2, .getfield 10, 3, 3, 0, 0, []), (5, .invokevirtual 61, 3, 4, 41, 1, [1, 13]), (8, .invokestatic 89, 3, 5, 23, 2, [999, 13]), (11, .iload_n 3, 1, 6, 3, 0, []), (12, .iload 4, 2, 7, 4, 0, []), (14, .if_icmp .le 13, 3, 8, 9, 0, []), (17, .new 77, 3, 9, 8, 99, [127, 81, 2]), (27, .iload_n 3, 1, 10, 3, 0, []), (28, .iload_n 2, 1, 11, 2, 0, []), (29, .if_icmp .gt 13, 3, 12, 17, 0, []), (32, .iload_n 2, 1, 13, 2, 0, []), (33, .iload 4, 2, 14, 4, 0, []), (35, .if_icmp .gt 7, 3, 15, 17, 0, []), (38, .iconst 1, 1, 16, 1, 0, []), (39, .goto 4, 3, 17, 18, 0, []), (42, .iconst 0, 1, 18, 0, 0, []), (43, .istore 5, 2, 19, 5, 0, []), (45, .iload 5, 2, 20, 5, 0, []), (47, .ifCond .eq 11, 3, 21, 25, 0, []), (50, .aload_n 0, 1, 22, 0, 0, []), (51, .getfield 26, 3, 23, 0, 2, []), (54, .iload_n 1, 1, 24, 1, 0, []), (55, .invokevirtual 129, 3, 25, 71, 2, [3, 14]), (58, .iload 5, 2, 26, 5, 0, []), (60, .ireturn, 1, 27, 0, 0, [])]
def xM_9 : xa_M := (⟨"ServiceRows", "test", "(IIII)Z"⟩, prog_1_method_10_code, 6, some .boolean, [], xR_9)
def xR_10 : List xa_R := [(0, .iload_n 1, 1, 1, 1, 0, []), (1, .aload_n 0, 1, 2, 0, 0, []), (2, .getfield 10, 3, 3, 0, 0, []), (5, .invokevirtual 61, 3, 4, 41, 1, [1, 13]), (8, .invokestatic 89, 3, 5, 23, 2, [999, 13]), (11, .iload_n 2, 1, 6, 2, 0, []), (12, .iconst 5, 1, 7, 5, 0, []), (13, .invokestatic 89, 3, 8, 23, 2, [999, 13]), (16, .iload_n 3, 1, 9, 3, 0, []), (17, .iconst (-1), 1, 10, 1, 1, []), (18, .ldc 88, 2, 11, 99999, 0, []), (20, .invokestatic 57, 3, 12, 24, 3, [999, 14]), (23, .aload_n 0, 1, 13, 0, 0, []), (24, .getfield 10, 3, 14, 0, 0, []), (27, .iload_n 1, 1, 15, 1, 0, []), (28, .iload_n 2, 1, 16, 2, 0, []), (29, .iload_n 3, 1, 17, 3, 0, []), (30, .invokevirtual 133, 3, 18, 50, 4, [1, 15]), (33, .return_, 1, 19, 0, 0, [])]
def xM_10 : xa_M := (⟨"ServiceRows", "certificate", "(III)V"⟩, prog_1_method_11_code, 4, none, [], xR_10)
def xR_11 : List xa_R := [(0, .iload_n 1, 1, 1, 1, 0, []), (1, .aload_n 0, 1, 2, 0, 0, []), (2, .getfield 10, 3, 3, 0, 0, []), (5, .invokevirtual 61, 3, 4, 41, 1, [1, 13]), (8, .invokestatic 89, 3, 5, 23, 2, [999, 13]), (11, .aload_n 0, 1, 6, 0, 0, []), (12, .getfield 33, 3, 7, 0, 3, []), (15, .iload_n 1, 1, 8, 1, 0, []), (16, .invokevirtual 136, 3, 9, 80, 2, [4, 14]), (19, .istore_n 2, 1, 10, 2, 0, []), (20, .iload_n 2, 1, 11, 2, 0, []), (21, .iconst (-1), 1, 12, 1, 1, []), (22, .if_icmp .eq 5, 3, 13, 15, 0, []), (25, .iload_n 2, 1, 14, 2, 0, []), (26, .ireturn, 1, 15, 0, 0, []), (27, .aload_n 0, 1, 16, 0, 0, []), (28, .getfield 33, 3, 17, 0, 3, []), (31, .invokevirtual 139, 3, 18, 75, 1, [4, 12]), (34, .bipush 60, 2, 19, 60, 0, []), (36, .invokestatic 65, 3, 20, 25, 2, [999, 13]), (39, .aload_n 0, 1, 21, 0, 0, []), (40, .getfield 33, 3, 22, 0, 3, []), (43, .iload_n 1, 1, 23, 1, 0, []), (44, .invokevirtual 140, 3, 24, 77, 2, [4, 13]), (47, .ireturn, 1, 25, 0, 0, [])]
def xM_11 : xa_M := (⟨"ServiceRows", "order", "(I)I"⟩, prog_1_method_12_code, 3, some .int, [], xR_11)
def xR_12 : List xa_R := [(0, .iload_n 1, 1, 1, 1, 0, []), (1, .aload_n 0, 1, 2, 0, 0, []), (2, .getfield 33, 3, 3, 0, 3, []), (5, .invokevirtual 139, 3, 4, 75, 1, [4, 13]), (8, .invokestatic 89, 3, 5, 23, 2, [999, 13]), (11, .iload_n 3, 1, 6, 3, 0, []), (12, .iload_n 2, 1, 7, 2, 0, []), (13, .ifCond .eq 13, 3, 8, 12, 0, []), (16, .aload_n 0, 1, 9, 0, 0, []), (17, .getfield 19, 3, 10, 0, 1, []), (20, .invokevirtual 84, 3, 11, 55, 1, [2, 13]), (23, .goto 10, 3, 12, 15, 0, []), (26, .aload_n 0, 1, 13, 0, 0, []), (27, .getfield 26, 3, 14, 0, 2, []), (30, .invokevirtual 125, 3, 15, 63, 1, [3, 13]), (33, .invokestatic 89, 3, 16, 23, 2, [999, 13]), (36, .aload_n 0, 1, 17, 0, 0, []), (37, .iload_n 1, 1, 18, 1, 0, []), (38, .invokevirtual 142, 3, 19, 26, 2, [0, 13]), (41, .iload_n 2, 1, 20, 2, 0, []), (42, .ifCond .eq 12, 3, 21, 26, 0, []), (45, .aload_n 0, 1, 22, 0, 0, []), (46, .iload_n 1, 1, 23, 1, 0, []), (47, .iload_n 3, 1, 24, 3, 0, []), (48, .invokevirtual 145, 3, 25, 32, 3, [0, 14]), (51, .goto 9, 3, 26, 30, 0, []), (54, .aload_n 0, 1, 27, 0, 0, []), (55, .iload_n 1, 1, 28, 1, 0, []), (56, .iload_n 3, 1, 29, 3, 0, []), (57, .invokevirtual 148, 3, 30, 33, 3, [0, 14]), (60, .aload_n 0, 1, 31, 0, 0, []), (61, .getfield 33, 3, 32, 0, 3, []), (64, .iload_n 1, 1, 33, 1, 0, []), (65, .invokevirtual 151, 3, 34, 85, 2, [4, 13]), (68, .ireturn, 1, 35, 0, 0, [])]
def xM_12 : xa_M := (⟨"ServiceRows", "work", "(IZI)I"⟩, prog_1_method_13_code, 4, some .int, [], xR_12)
def xR_13 : List xa_R := [(0, .iload_n 1, 1, 1, 1, 0, []), (1, .aload_n 0, 1, 2, 0, 0, []), (2, .getfield 33, 3, 3, 0, 3, []), (5, .invokevirtual 139, 3, 4, 75, 1, [4, 13]), (8, .invokestatic 89, 3, 5, 23, 2, [999, 13]), (11, .iload_n 2, 1, 6, 2, 0, []), (12, .bipush 100, 2, 7, 100, 0, []), (14, .invokestatic 89, 3, 8, 23, 2, [999, 13]), (17, .iload_n 3, 1, 9, 3, 0, []), (18, .iconst 1, 1, 10, 1, 0, []), (19, .bipush 100, 2, 11, 100, 0, []), (21, .invokestatic 57, 3, 12, 24, 3, [999, 14]), (24, .iload 4, 2, 13, 4, 0, []), (26, .iconst 0, 1, 14, 0, 0, []), (27, .ldc 92, 2, 15, 1000000, 0, []), (29, .invokestatic 57, 3, 16, 24, 3, [999, 14]), (32, .aload_n 0, 1, 17, 0, 0, []), (33, .iload_n 1, 1, 18, 1, 0, []), (34, .invokevirtual 142, 3, 19, 26, 2, [0, 13]), (37, .aload_n 0, 1, 20, 0, 0, []), (38, .aload_n 0, 1, 21, 0, 0, []), (39, .getfield 33, 3, 22, 0, 3, []), (42, .iload_n 1, 1, 23, 1, 0, []), (43, .invokevirtual 154, 3, 24, 78, 2, [4, 14]), (46, .iload_n 2, 1, 25, 2, 0, []), (47, .invokevirtual 157, 3, 26, 34, 3, [0, 14]), (50, .ifCond .eq 7, 3, 27, 29, 0, []), (53, .iconst 0, 1, 28, 0, 0, []), (54, .goto 7, 3, 29, 32, 0, []), (57, .iload_n 3, 1, 30, 3, 0, []), (58, .iload 4, 2, 31, 4, 0, []), (60, .imul, 1, 32, 0, 0, []), (61, .istore 5, 2, 33, 5, 0, []), (63, .iload 5, 2, 34, 5, 0, []), (65, .aload_n 0, 1, 35, 0, 0, []), (66, .getfield 48, 3, 36, 0, 6, []), (69, .if_icmp .le 13, 3, 37, 38, 0, []), (72, .new 100, 3, 38, 9, 99, [160, 104, 2]), (82, .aload_n 0, 1, 39, 0, 0, []), (83, .getfield 33, 3, 40, 0, 3, []), (86, .invokevirtual 162, 3, 41, 76, 1, [4, 12]), (89, .bipush 100, 2, 42, 100, 0, []), (91, .invokestatic 65, 3, 43, 25, 2, [999, 13]), (94, .aload_n 0, 1, 44, 0, 0, []), (95, .dup, 1, 45, 0, 0, []), (96, .getfield 48, 3, 46, 0, 6, []), (99, .iload 5, 2, 47, 5, 0, []), (101, .isub, 1, 48, 0, 0, []), (102, .putfield 48, 3, 49, 0, 6, [0]), (105, .aload_n 0, 1, 50, 0, 0, []), (106, .getfield 33, 3, 51, 0, 3, []), (109, .iload_n 1, 1, 52, 1, 0, []), (110, .iload 5, 2, 53, 5, 0, []), (112, .invokevirtual 165, 3, 54, 86, 3, [4, 14]), (115, .iload 5, 2, 55, 5, 0, []), (117, .ireturn, 1, 56, 0, 0, [])]
def xM_13 : xa_M := (⟨"ServiceRows", "part", "(IIII)I"⟩, prog_1_method_14_code, 6, some .int, [], xR_13)
def xR_14 : List xa_R := [(0, .iload_n 1, 1, 1, 1, 0, []), (1, .aload_n 0, 1, 2, 0, 0, []), (2, .getfield 10, 3, 3, 0, 0, []), (5, .invokevirtual 61, 3, 4, 41, 1, [1, 13]), (8, .invokestatic 89, 3, 5, 23, 2, [999, 13]), (11, .iload_n 2, 1, 6, 2, 0, []), (12, .bipush 100, 2, 7, 100, 0, []), (14, .invokestatic 89, 3, 8, 23, 2, [999, 13]), (17, .iload_n 3, 1, 9, 3, 0, []), (18, .iconst 0, 1, 10, 0, 0, []), (19, .ldc 88, 2, 11, 99999, 0, []), (21, .invokestatic 57, 3, 12, 24, 3, [999, 14]), (24, .aload_n 0, 1, 13, 0, 0, []), (25, .getfield 10, 3, 14, 0, 0, []), (28, .iload_n 1, 1, 15, 1, 0, []), (29, .iload_n 2, 1, 16, 2, 0, []), (30, .iload_n 3, 1, 17, 3, 0, []), (31, .invokevirtual 168, 3, 18, 53, 4, [1, 15]), (34, .return_, 1, 19, 0, 0, [])]
def xM_14 : xa_M := (⟨"ServiceRows", "warranty", "(III)V"⟩, prog_1_method_15_code, 4, none, [], xR_14)
def xR_15 : List xa_R := [(0, .iload_n 1, 1, 1, 1, 0, []), (1, .iconst 0, 1, 2, 0, 0, []), (2, .ldc 171, 2, 3, 100000000, 0, []), (4, .invokestatic 57, 3, 4, 24, 3, [999, 14]), (7, .iload_n 1, 1, 5, 1, 0, []), (8, .ldc 172, 2, 6, 1000000000, 0, []), (10, .aload_n 0, 1, 7, 0, 0, []), (11, .getfield 48, 3, 8, 0, 6, []), (14, .isub, 1, 9, 0, 0, []), (15, .if_icmp .le 13, 3, 10, 11, 0, []), (18, .new 173, 3, 11, 10, 99, [175, 177, 2]), (28, .aload_n 0, 1, 12, 0, 0, []), (29, .dup, 1, 13, 0, 0, []), (30, .getfield 48, 3, 14, 0, 6, []), (33, .iload_n 1, 1, 15, 1, 0, []), (34, .iadd, 1, 16, 0, 0, []), (35, .putfield 48, 3, 17, 0, 6, [0]), (38, .aload_n 0, 1, 18, 0, 0, []), (39, .getfield 48, 3, 19, 0, 6, []), (42, .ireturn, 1, 20, 0, 0, [])]
def xM_15 : xa_M := (⟨"ServiceRows", "budget", "(I)I"⟩, prog_1_method_16_code, 2, some .int, [], xR_15)
def xR_16 : List xa_R := [(0, .iload_n 1, 1, 1, 1, 0, []), (1, .aload_n 0, 1, 2, 0, 0, []), (2, .getfield 33, 3, 3, 0, 3, []), (5, .invokevirtual 139, 3, 4, 75, 1, [4, 13]), (8, .invokestatic 89, 3, 5, 23, 2, [999, 13]), (11, .aload_n 0, 1, 6, 0, 0, []), (12, .iload_n 1, 1, 7, 1, 0, []), (13, .invokevirtual 142, 3, 8, 26, 2, [0, 13]), (16, .aload_n 0, 1, 9, 0, 0, []), (17, .iload_n 1, 1, 10, 1, 0, []), (18, .invokevirtual 178, 3, 11, 35, 2, [0, 16]), (21, .aload_n 0, 1, 12, 0, 0, []), (22, .getfield 26, 3, 13, 0, 2, []), (25, .iload_n 1, 1, 14, 1, 0, []), (26, .invokevirtual 181, 3, 15, 70, 2, [3, 14]), (29, .aload_n 0, 1, 16, 0, 0, []), (30, .getfield 33, 3, 17, 0, 3, []), (33, .iload_n 1, 1, 18, 1, 0, []), (34, .invokevirtual 184, 3, 19, 88, 2, [4, 13]), (37, .aload_n 0, 1, 20, 0, 0, []), (38, .getfield 33, 3, 21, 0, 3, []), (41, .iload_n 1, 1, 22, 1, 0, []), (42, .invokevirtual 187, 3, 23, 87, 2, [4, 13]), (45, .ireturn, 1, 24, 0, 0, [])]
def xM_16 : xa_M := (⟨"ServiceRows", "done", "(I)I"⟩, prog_1_method_17_code, 2, some .int, [], xR_16)
def xR_17 : List xa_R := [(0, .iload_n 1, 1, 1, 1, 0, []), (1, .aload_n 0, 1, 2, 0, 0, []), (2, .getfield 10, 3, 3, 0, 0, []), (5, .invokevirtual 61, 3, 4, 41, 1, [1, 13]), (8, .invokestatic 89, 3, 5, 23, 2, [999, 13]), (11, .aload_n 0, 1, 6, 0, 0, []), (12, .iload_n 1, 1, 7, 1, 0, []), (13, .invokevirtual 190, 3, 8, 36, 2, [0, 13]), (16, .ireturn, 1, 9, 0, 0, [])]
def xM_17 : xa_M := (⟨"ServiceRows", "barred", "(I)I"⟩, prog_1_method_18_code, 2, some .int, [], xR_17)
def xR_18 : List xa_R := [(0, .iload_n 1, 1, 1, 1, 0, []), (1, .aload_n 0, 1, 2, 0, 0, []), (2, .getfield 10, 3, 3, 0, 0, []), (5, .invokevirtual 61, 3, 4, 41, 1, [1, 13]), (8, .invokestatic 89, 3, 5, 23, 2, [999, 13]), (11, .iconst (-1), 1, 6, 1, 1, []), (12, .istore_n 2, 1, 7, 2, 0, []), (13, .iconst 0, 1, 8, 0, 0, []), (14, .istore_n 3, 1, 9, 3, 0, []), (15, .iload_n 3, 1, 10, 3, 0, []), (16, .aload_n 0, 1, 11, 0, 0, []), (17, .getfield 10, 3, 12, 0, 0, []), (20, .invokevirtual 61, 3, 13, 41, 1, [1, 13]), (23, .if_icmp .ge 53, 3, 14, 40, 0, []), (26, .iload_n 3, 1, 15, 3, 0, []), (27, .iload_n 1, 1, 16, 1, 0, []), (28, .if_icmp .eq 42, 3, 17, 38, 0, []), (31, .aload_n 0, 1, 18, 0, 0, []), (32, .getfield 10, 3, 19, 0, 0, []), (35, .iload_n 3, 1, 20, 3, 0, []), (36, .invokevirtual 193, 3, 21, 43, 2, [1, 13]), (39, .ifCond .eq 31, 3, 22, 38, 0, []), (42, .iload_n 2, 1, 23, 2, 0, []), (43, .iconst (-1), 1, 24, 1, 1, []), (44, .if_icmp .eq 16, 3, 25, 32, 0, []), (47, .aload_n 0, 1, 26, 0, 0, []), (48, .getfield 10, 3, 27, 0, 0, []), (51, .iload_n 1, 1, 28, 1, 0, []), (52, .iload_n 3, 1, 29, 3, 0, []), (53, .iload_n 2, 1, 30, 2, 0, []), (54, .invokevirtual 197, 3, 31, 44, 4, [1, 17]), (57, .ifCond .eq 13, 3, 32, 38, 0, []), (60, .aload_n 0, 1, 33, 0, 0, []), (61, .iload_n 3, 1, 34, 3, 0, []), (62, .invokevirtual 190, 3, 35, 36, 2, [0, 13]), (65, .ifCond .ne 5, 3, 36, 38, 0, []), (68, .iload_n 3, 1, 37, 3, 0, []), (69, .istore_n 2, 1, 38, 2, 0, []), (70, .iinc 3 1, 3, 39, 3, 1, []), (73, .goto (-58), 3, 40, 9, 0, []), (76, .iload_n 2, 1, 41, 2, 0, []), (77, .ireturn, 1, 42, 0, 0, [])]
def xM_18 : xa_M := (⟨"ServiceRows", "spare", "(I)I"⟩, prog_1_method_19_code, 4, some .int, [], xR_18)
def xR_19 : List xa_R := [(0, .iload_n 1, 1, 1, 1, 0, []), (1, .aload_n 0, 1, 2, 0, 0, []), (2, .getfield 10, 3, 3, 0, 0, []), (5, .invokevirtual 61, 3, 4, 41, 1, [1, 13]), (8, .invokestatic 89, 3, 5, 23, 2, [999, 13]), (11, .iload_n 2, 1, 6, 2, 0, []), (12, .iconst 0, 1, 7, 0, 0, []), (13, .ldc 76, 2, 8, 100000, 0, []), (15, .invokestatic 57, 3, 9, 24, 3, [999, 14]), (18, .iload_n 2, 1, 10, 2, 0, []), (19, .ldc 172, 2, 11, 1000000000, 0, []), (21, .aload_n 0, 1, 12, 0, 0, []), (22, .getfield 10, 3, 13, 0, 0, []), (25, .iload_n 1, 1, 14, 1, 0, []), (26, .invokevirtual 201, 3, 15, 48, 2, [1, 15]), (29, .isub, 1, 16, 0, 0, []), (30, .if_icmp .le 13, 3, 17, 18, 0, []), (33, .new 173, 3, 18, 10, 99, [204, 177, 2]), (43, .aload_n 0, 1, 19, 0, 0, []), (44, .getfield 10, 3, 20, 0, 0, []), (47, .iload_n 1, 1, 21, 1, 0, []), (48, .iload_n 2, 1, 22, 2, 0, []), (49, .invokevirtual 206, 3, 23, 49, 3, [1, 14]), (52, .aload_n 0, 1, 24, 0, 0, []), (53, .getfield 10, 3, 25, 0, 0, []), (56, .iload_n 1, 1, 26, 1, 0, []), (57, .invokevirtual 201, 3, 27, 48, 2, [1, 13]), (60, .ireturn, 1, 28, 0, 0, [])]
def xM_19 : xa_M := (⟨"ServiceRows", "oil", "(II)I"⟩, prog_1_method_20_code, 3, some .int, [], xR_19)
def xR_20 : List xa_R := [(0, .iload_n 1, 1, 1, 1, 0, []), (1, .aload_n 0, 1, 2, 0, 0, []), (2, .getfield 10, 3, 3, 0, 0, []), (5, .invokevirtual 61, 3, 4, 41, 1, [1, 13]), (8, .invokestatic 89, 3, 5, 23, 2, [999, 13]), (11, .iload_n 2, 1, 6, 2, 0, []), (12, .iconst 2, 1, 7, 2, 0, []), (13, .invokestatic 89, 3, 8, 23, 2, [999, 13]), (16, .aload_n 0, 1, 9, 0, 0, []), (17, .getfield 10, 3, 10, 0, 0, []), (20, .iload_n 1, 1, 11, 1, 0, []), (21, .invokevirtual 93, 3, 12, 45, 2, [1, 13]), (24, .i2l, 1, 13, 0, 0, []), (25, .lstore_n 3, 1, 14, 3, 0, []), (26, .lload_n 3, 1, 15, 3, 0, []), (27, .lconst 0, 1, 16, 0, 0, []), (28, .lcmp, 1, 17, 0, 0, []), (29, .ifCond .gt 13, 3, 18, 19, 0, []), (32, .new 209, 3, 19, 11, 99, [211, 213, 2]), (42, .ldc2_w 214, 3, 20, 100, 0, []), (45, .aload_n 0, 1, 21, 0, 0, []), (46, .getfield 10, 3, 22, 0, 0, []), (49, .iload_n 1, 1, 23, 1, 0, []), (50, .invokevirtual 201, 3, 24, 48, 2, [1, 15]), (53, .i2l, 1, 25, 0, 0, []), (54, .lmul, 1, 26, 0, 0, []), (55, .lstore 5, 2, 27, 5, 0, []), (57, .lload 5, 2, 28, 5, 0, []), (59, .lload_n 3, 1, 29, 3, 0, []), (60, .invokestatic 216, 3, 30, 39, 2, [999, 22]), (63, .lstore 7, 2, 31, 7, 0, []), (65, .iload_n 2, 1, 32, 2, 0, []), (66, .ifCond .ne 8, 3, 33, 35, 0, []), (69, .lload 5, 2, 34, 5, 0, []), (71, .goto 4, 3, 35, 36, 0, []), (74, .lload_n 3, 1, 36, 3, 0, []), (75, .lload 7, 2, 37, 7, 0, []), (77, .ldiv, 1, 38, 0, 0, []), (78, .lreturn, 1, 39, 0, 0, [])]
def xM_20 : xa_M := (⟨"ServiceRows", "oilPer", "(II)J"⟩, prog_1_method_21_code, 9, some .long, [], xR_20)
def xR_21 : List xa_R := [(0, .iload_n 1, 1, 1, 1, 0, []), (1, .aload_n 0, 1, 2, 0, 0, []), (2, .getfield 26, 3, 3, 0, 2, []), (5, .invokevirtual 125, 3, 4, 63, 1, [3, 13]), (8, .invokestatic 89, 3, 5, 23, 2, [999, 13]), (11, .iload_n 2, 1, 6, 2, 0, []), (12, .tableswitch 63 0 2 #[28, 37, 46], 28, 7, 0, 2, [26, 7, 12, 17]), (40, .aload_n 0, 1, 8, 0, 0, []), (41, .getfield 26, 3, 9, 0, 2, []), (44, .iload_n 1, 1, 10, 1, 0, []), (45, .invokevirtual 220, 3, 11, 67, 2, [3, 13]), (48, .ireturn, 1, 12, 0, 0, []), (49, .aload_n 0, 1, 13, 0, 0, []), (50, .getfield 26, 3, 14, 0, 2, []), (53, .iload_n 1, 1, 15, 1, 0, []), (54, .invokevirtual 223, 3, 16, 65, 2, [3, 13]), (57, .ireturn, 1, 17, 0, 0, []), (58, .aload_n 0, 1, 18, 0, 0, []), (59, .getfield 26, 3, 19, 0, 2, []), (62, .iload_n 1, 1, 20, 1, 0, []), (63, .invokevirtual 224, 3, 21, 66, 2, [3, 13]), (66, .ifCond .eq 7, 3, 22, 24, 0, []), (69, .iconst 1, 1, 23, 1, 0, []), (70, .goto 4, 3, 24, 25, 0, []), (73, .iconst 0, 1, 25, 0, 0, []), (74, .ireturn, 1, 26, 0, 0, []), (75, .new 227, 3, 27, 7, 99, [229, 231, 2])]
def xM_21 : xa_M := (⟨"ServiceRows", "defectAt", "(II)I"⟩, prog_1_method_22_code, 3, some .int, [], xR_21)
def xR_22 : List xa_R := [(0, .iload_n 1, 1, 1, 1, 0, []), (1, .tableswitch 63 0 4 #[35, 40, 45, 53, 58], 35, 2, 0, 4, [18, 2, 5, 8, 12, 15]), (36, .aload_n 0, 1, 3, 0, 0, []), (37, .getfield 44, 3, 4, 0, 5, []), (40, .ireturn, 1, 5, 0, 0, []), (41, .aload_n 0, 1, 6, 0, 0, []), (42, .getfield 48, 3, 7, 0, 6, []), (45, .ireturn, 1, 8, 0, 0, []), (46, .aload_n 0, 1, 9, 0, 0, []), (47, .getfield 33, 3, 10, 0, 3, []), (50, .invokevirtual 232, 3, 11, 81, 1, [4, 14]), (53, .ireturn, 1, 12, 0, 0, []), (54, .aload_n 0, 1, 13, 0, 0, []), (55, .getfield 54, 3, 14, 0, 8, []), (58, .ireturn, 1, 15, 0, 0, []), (59, .aload_n 0, 1, 16, 0, 0, []), (60, .invokevirtual 235, 3, 17, 38, 1, [0, 14]), (63, .ireturn, 1, 18, 0, 0, []), (64, .new 227, 3, 19, 7, 99, [229, 231, 2])]
def xM_22 : xa_M := (⟨"ServiceRows", "count", "(I)I"⟩, prog_1_method_23_code, 2, some .int, [], xR_22)
def xR_23 : List xa_R := [(0, .iload_n 0, 1, 1, 0, 0, []), (1, .ifCond .lt 8, 3, 2, 5, 0, []), (4, .iload_n 0, 1, 3, 0, 0, []), (5, .iload_n 1, 1, 4, 1, 0, []), (6, .if_icmp .lt 13, 3, 5, 6, 0, []), (9, .new 227, 3, 6, 7, 99, [238, 231, 2]), (19, .return_, 1, 7, 0, 0, [])]
def xM_23 : xa_M := (⟨"ServiceRows", "needKnown", "(II)V"⟩, prog_1_method_24_code, 2, none, [], xR_23)
def xR_24 : List xa_R := [(0, .iload_n 0, 1, 1, 0, 0, []), (1, .iload_n 1, 1, 2, 1, 0, []), (2, .if_icmp .lt 8, 3, 3, 6, 0, []), (5, .iload_n 0, 1, 4, 0, 0, []), (6, .iload_n 2, 1, 5, 2, 0, []), (7, .if_icmp .le 13, 3, 6, 7, 0, []), (10, .new 77, 3, 7, 8, 99, [240, 81, 2]), (20, .return_, 1, 8, 0, 0, [])]
def xM_24 : xa_M := (⟨"ServiceRows", "needRange", "(III)V"⟩, prog_1_method_25_code, 3, none, [], xR_24)
def xR_25 : List xa_R := [(0, .iload_n 0, 1, 1, 0, 0, []), (1, .iload_n 1, 1, 2, 1, 0, []), (2, .if_icmp .lt 13, 3, 3, 4, 0, []), (5, .new 173, 3, 4, 10, 99, [242, 177, 2]), (15, .return_, 1, 5, 0, 0, [])]
def xM_25 : xa_M := (⟨"ServiceRows", "needRoom", "(II)V"⟩, prog_1_method_26_code, 2, none, [], xR_25)
def xR_26 : List xa_R := [(0, .aload_n 0, 1, 1, 0, 0, []), (1, .getfield 33, 3, 2, 0, 3, []), (4, .iload_n 1, 1, 3, 1, 0, []), (5, .invokevirtual 244, 3, 4, 79, 2, [4, 13]), (8, .ifCond .ne 13, 3, 5, 6, 0, []), (11, .new 100, 3, 6, 9, 99, [247, 104, 2]), (21, .return_, 1, 7, 0, 0, [])]
def xM_26 : xa_M := (⟨"ServiceRows", "needOpen", "(I)V"⟩, prog_1_method_27_code, 2, none, [], xR_26)
def xR_27 : List xa_R := [(0, .iload_n 2, 1, 1, 2, 0, []), (1, .iconst 2, 1, 2, 2, 0, []), (2, .if_icmp .ne 8, 3, 3, 6, 0, []), (5, .aload_n 0, 1, 4, 0, 0, []), (6, .getfield 44, 3, 5, 0, 5, []), (9, .ireturn, 1, 6, 0, 0, []), (10, .iload_n 2, 1, 7, 2, 0, []), (11, .iconst 1, 1, 8, 1, 0, []), (12, .if_icmp .ne 14, 3, 9, 14, 0, []), (15, .aload_n 0, 1, 10, 0, 0, []), (16, .getfield 10, 3, 11, 0, 0, []), (19, .iload_n 1, 1, 12, 1, 0, []), (20, .invokevirtual 97, 3, 13, 46, 2, [1, 13]), (23, .goto 11, 3, 14, 18, 0, []), (26, .aload_n 0, 1, 15, 0, 0, []), (27, .getfield 10, 3, 16, 0, 0, []), (30, .iload_n 1, 1, 17, 1, 0, []), (31, .invokevirtual 93, 3, 18, 45, 2, [1, 13]), (34, .ireturn, 1, 19, 0, 0, [])]
def xM_27 : xa_M := (⟨"ServiceRows", "nowOf", "(II)I"⟩, prog_1_method_28_code, 3, some .int, [], xR_27)
def xR_28 : List xa_R := [(0, .aload_n 0, 1, 1, 0, 0, []), (1, .iload_n 1, 1, 2, 1, 0, []), (2, .iload_n 3, 1, 3, 3, 0, []), (3, .invokevirtual 249, 3, 4, 27, 3, [0, 14]), (6, .aload_n 0, 1, 5, 0, 0, []), (7, .getfield 19, 3, 6, 0, 1, []), (10, .iload_n 1, 1, 7, 1, 0, []), (11, .iload_n 2, 1, 8, 2, 0, []), (12, .iload_n 3, 1, 9, 3, 0, []), (13, .invokevirtual 253, 3, 10, 60, 4, [2, 16]), (16, .isub, 1, 11, 0, 0, []), (17, .istore 4, 2, 12, 4, 0, []), (19, .aload_n 0, 1, 13, 0, 0, []), (20, .getfield 19, 3, 14, 0, 1, []), (23, .iload_n 2, 1, 15, 2, 0, []), (24, .iload_n 3, 1, 16, 3, 0, []), (25, .invokevirtual 256, 3, 17, 58, 3, [2, 14]), (28, .iload 4, 2, 18, 4, 0, []), (30, .isub, 1, 19, 0, 0, []), (31, .ireturn, 1, 20, 0, 0, [])]
def xM_28 : xa_M := (⟨"ServiceRows", "leftBy", "(III)I"⟩, prog_1_method_29_code, 5, some .int, [], xR_28)
def xR_29 : List xa_R := [(0, .iconst 0, 1, 1, 0, 0, []), (1, .istore_n 3, 1, 2, 3, 0, []), (2, .iconst 1, 1, 3, 1, 0, []), (3, .istore 4, 2, 4, 4, 0, []), (5, .iload 4, 2, 5, 4, 0, []), (7, .iconst 2, 1, 6, 2, 0, []), (8, .if_icmp .gt 77, 3, 7, 45, 0, []), (11, .aload_n 0, 1, 8, 0, 0, []), (12, .getfield 19, 3, 9, 0, 1, []), (15, .iload_n 2, 1, 10, 2, 0, []), (16, .iload 4, 2, 11, 4, 0, []), (18, .invokevirtual 108, 3, 12, 59, 3, [2, 14]), (21, .ifCond .eq 58, 3, 13, 43, 0, []), (24, .aload_n 0, 1, 14, 0, 0, []), (25, .getfield 19, 3, 15, 0, 1, []), (28, .iload_n 2, 1, 16, 2, 0, []), (29, .iload_n 3, 1, 17, 3, 0, []), (30, .invokevirtual 108, 3, 18, 59, 3, [2, 14]), (33, .ifCond .eq 43, 3, 19, 41, 0, []), (36, .aload_n 0, 1, 20, 0, 0, []), (37, .iload_n 1, 1, 21, 1, 0, []), (38, .iload_n 2, 1, 22, 2, 0, []), (39, .iload 4, 2, 23, 4, 0, []), (41, .invokevirtual 114, 3, 24, 28, 4, [0, 16]), (44, .aload_n 0, 1, 25, 0, 0, []), (45, .getfield 19, 3, 26, 0, 1, []), (48, .iload_n 2, 1, 27, 2, 0, []), (49, .iload 4, 2, 28, 4, 0, []), (51, .invokevirtual 256, 3, 29, 58, 3, [2, 15]), (54, .aload_n 0, 1, 30, 0, 0, []), (55, .iload_n 1, 1, 31, 1, 0, []), (56, .iload_n 2, 1, 32, 2, 0, []), (57, .iload_n 3, 1, 33, 3, 0, []), (58, .invokevirtual 114, 3, 34, 28, 4, [0, 18]), (61, .aload_n 0, 1, 35, 0, 0, []), (62, .getfield 19, 3, 36, 0, 1, []), (65, .iload_n 2, 1, 37, 2, 0, []), (66, .iload_n 3, 1, 38, 3, 0, []), (67, .invokevirtual 256, 3, 39, 58, 3, [2, 17]), (70, .invokestatic 259, 3, 40, 30, 4, [999, 15]), (73, .ifCond .eq 6, 3, 41, 43, 0, []), (76, .iload 4, 2, 42, 4, 0, []), (78, .istore_n 3, 1, 43, 3, 0, []), (79, .iinc 4 1, 3, 44, 4, 1, []), (82, .goto (-77), 3, 45, 4, 0, []), (85, .iload_n 3, 1, 46, 3, 0, []), (86, .ireturn, 1, 47, 0, 0, [])]
def xM_29 : xa_M := (⟨"ServiceRows", "leastBy", "(II)I"⟩, prog_1_method_30_code, 5, some .int, [], xR_29)
def xR_30 : List xa_R := [(0, .iload_n 0, 1, 1, 0, 0, []), (1, .i2l, 1, 2, 0, 0, []), (2, .iload_n 3, 1, 3, 3, 0, []), (3, .i2l, 1, 4, 0, 0, []), (4, .lmul, 1, 5, 0, 0, []), (5, .iload_n 2, 1, 6, 2, 0, []), (6, .i2l, 1, 7, 0, 0, []), (7, .iload_n 1, 1, 8, 1, 0, []), (8, .i2l, 1, 9, 0, 0, []), (9, .lmul, 1, 10, 0, 0, []), (10, .lcmp, 1, 11, 0, 0, []), (11, .ifCond .ge 7, 3, 12, 14, 0, []), (14, .iconst 1, 1, 13, 1, 0, []), (15, .goto 4, 3, 14, 15, 0, []), (18, .iconst 0, 1, 15, 0, 0, []), (19, .ireturn, 1, 16, 0, 0, [])]
def xM_30 : xa_M := (⟨"ServiceRows", "isBelow", "(IIII)Z"⟩, prog_1_method_31_code, 4, some .boolean, [], xR_30)
def xR_31 : List xa_R := [(0, .aload_n 0, 1, 1, 0, 0, []), (1, .getfield 40, 3, 2, 0, 4, []), (4, .invokevirtual 263, 3, 3, 90, 1, [5, 12]), (7, .iconst 0, 1, 4, 0, 0, []), (8, .istore_n 1, 1, 5, 1, 0, []), (9, .iload_n 1, 1, 6, 1, 0, []), (10, .aload_n 0, 1, 7, 0, 0, []), (11, .getfield 10, 3, 8, 0, 0, []), (14, .invokevirtual 61, 3, 9, 41, 1, [1, 13]), (17, .if_icmp .ge 69, 3, 10, 45, 0, []), (20, .iconst 0, 1, 11, 0, 0, []), (21, .istore_n 2, 1, 12, 2, 0, []), (22, .iload_n 2, 1, 13, 2, 0, []), (23, .aload_n 0, 1, 14, 0, 0, []), (24, .getfield 19, 3, 15, 0, 1, []), (27, .invokevirtual 84, 3, 16, 55, 1, [2, 13]), (30, .if_icmp .ge 50, 3, 17, 43, 0, []), (33, .aload_n 0, 1, 18, 0, 0, []), (34, .iload_n 1, 1, 19, 1, 0, []), (35, .iload_n 2, 1, 20, 2, 0, []), (36, .invokevirtual 266, 3, 21, 29, 3, [0, 16]), (39, .istore_n 3, 1, 22, 3, 0, []), (40, .aload_n 0, 1, 23, 0, 0, []), (41, .iload_n 1, 1, 24, 1, 0, []), (42, .iload_n 2, 1, 25, 2, 0, []), (43, .iload_n 3, 1, 26, 3, 0, []), (44, .invokevirtual 114, 3, 27, 28, 4, [0, 16]), (47, .istore 4, 2, 28, 4, 0, []), (49, .iload 4, 2, 29, 4, 0, []), (51, .ifCond .gt 23, 3, 30, 41, 0, []), (54, .aload_n 0, 1, 31, 0, 0, []), (55, .getfield 40, 3, 32, 0, 4, []), (58, .iload_n 1, 1, 33, 1, 0, []), (59, .iload_n 2, 1, 34, 2, 0, []), (60, .iload 4, 2, 35, 4, 0, []), (62, .aload_n 0, 1, 36, 0, 0, []), (63, .getfield 19, 3, 37, 0, 1, []), (66, .iload_n 2, 1, 38, 2, 0, []), (67, .iload_n 3, 1, 39, 3, 0, []), (68, .invokevirtual 256, 3, 40, 58, 3, [2, 18]), (71, .invokevirtual 269, 3, 41, 91, 5, [5, 18]), (74, .iinc 2 1, 3, 42, 2, 1, []), (77, .goto (-55), 3, 43, 12, 0, []), (80, .iinc 1 1, 3, 44, 1, 1, []), (83, .goto (-74), 3, 45, 5, 0, []), (86, .return_, 1, 46, 0, 0, [])]
def xM_31 : xa_M := (⟨"ServiceRows", "listDueRows", "()V"⟩, prog_1_method_32_code, 5, none, [], xR_31)
def xR_32 : List xa_R := [(0, .aload_n 0, 1, 1, 0, 0, []), (1, .getfield 33, 3, 2, 0, 3, []), (4, .iload_n 1, 1, 3, 1, 0, []), (5, .iload_n 2, 1, 4, 2, 0, []), (6, .invokevirtual 273, 3, 5, 82, 3, [4, 14]), (9, .ifCond .eq 14, 3, 6, 7, 0, []), (12, .new 100, 3, 7, 9, 99, [276, 104, 3]), (23, .aload_n 0, 1, 8, 0, 0, []), (24, .getfield 33, 3, 9, 0, 3, []), (27, .iload_n 1, 1, 10, 1, 0, []), (28, .iload_n 2, 1, 11, 2, 0, []), (29, .invokevirtual 278, 3, 12, 83, 3, [4, 14]), (32, .return_, 1, 13, 0, 0, [])]
def xM_32 : xa_M := (⟨"ServiceRows", "takeRule", "(II)V"⟩, prog_1_method_33_code, 3, none, [], xR_32)
def xR_33 : List xa_R := [(0, .aload_n 0, 1, 1, 0, 0, []), (1, .getfield 26, 3, 2, 0, 2, []), (4, .iload_n 2, 1, 3, 2, 0, []), (5, .invokevirtual 223, 3, 4, 65, 2, [3, 13]), (8, .aload_n 0, 1, 5, 0, 0, []), (9, .getfield 33, 3, 6, 0, 3, []), (12, .iload_n 1, 1, 7, 1, 0, []), (13, .invokevirtual 154, 3, 8, 78, 2, [4, 14]), (16, .if_icmp .eq 14, 3, 9, 10, 0, []), (19, .new 100, 3, 10, 9, 99, [281, 104, 3]), (30, .aload_n 0, 1, 11, 0, 0, []), (31, .getfield 26, 3, 12, 0, 2, []), (34, .iload_n 2, 1, 13, 2, 0, []), (35, .invokevirtual 220, 3, 14, 67, 2, [3, 13]), (38, .ifCond .eq 14, 3, 15, 16, 0, []), (41, .new 100, 3, 16, 9, 99, [283, 104, 3]), (52, .aload_n 0, 1, 17, 0, 0, []), (53, .getfield 26, 3, 18, 0, 2, []), (56, .iload_n 2, 1, 19, 2, 0, []), (57, .invokevirtual 285, 3, 20, 68, 2, [3, 13]), (60, .iload_n 1, 1, 21, 1, 0, []), (61, .if_icmp .ne 14, 3, 22, 23, 0, []), (64, .new 100, 3, 23, 9, 99, [288, 104, 3]), (75, .aload_n 0, 1, 24, 0, 0, []), (76, .getfield 26, 3, 25, 0, 2, []), (79, .iload_n 2, 1, 26, 2, 0, []), (80, .iload_n 1, 1, 27, 1, 0, []), (81, .invokevirtual 290, 3, 28, 69, 3, [3, 14]), (84, .aload_n 0, 1, 29, 0, 0, []), (85, .getfield 33, 3, 30, 0, 3, []), (88, .iload_n 1, 1, 31, 1, 0, []), (89, .invokevirtual 293, 3, 32, 84, 2, [4, 13]), (92, .return_, 1, 33, 0, 0, [])]
def xM_33 : xa_M := (⟨"ServiceRows", "takeDefect", "(II)V"⟩, prog_1_method_34_code, 3, none, [], xR_33)
def xR_34 : List xa_R := [(0, .aload_n 0, 1, 1, 0, 0, []), (1, .getfield 44, 3, 2, 0, 5, []), (4, .aload_n 0, 1, 3, 0, 0, []), (5, .getfield 10, 3, 4, 0, 0, []), (8, .iload_n 1, 1, 5, 1, 0, []), (9, .iload_n 2, 1, 6, 2, 0, []), (10, .invokevirtual 296, 3, 7, 52, 3, [1, 15]), (13, .if_icmp .ge 7, 3, 8, 10, 0, []), (16, .iconst 1, 1, 9, 1, 0, []), (17, .goto 4, 3, 10, 11, 0, []), (20, .iconst 0, 1, 11, 0, 0, []), (21, .ireturn, 1, 12, 0, 0, [])]
def xM_34 : xa_M := (⟨"ServiceRows", "isUnderWarranty", "(II)Z"⟩, prog_1_method_35_code, 3, some .boolean, [], xR_34)
def xR_35 : List xa_R := [(0, .aload_n 0, 1, 1, 0, 0, []), (1, .getfield 33, 3, 2, 0, 3, []), (4, .iload_n 1, 1, 3, 1, 0, []), (5, .invokevirtual 154, 3, 4, 78, 2, [4, 13]), (8, .istore_n 2, 1, 5, 2, 0, []), (9, .iconst 0, 1, 6, 0, 0, []), (10, .istore_n 3, 1, 7, 3, 0, []), (11, .iload_n 3, 1, 8, 3, 0, []), (12, .aload_n 0, 1, 9, 0, 0, []), (13, .getfield 19, 3, 10, 0, 1, []), (16, .invokevirtual 84, 3, 11, 55, 1, [2, 13]), (19, .if_icmp .ge 54, 3, 12, 37, 0, []), (22, .aload_n 0, 1, 13, 0, 0, []), (23, .getfield 33, 3, 14, 0, 3, []), (26, .iload_n 1, 1, 15, 1, 0, []), (27, .iload_n 3, 1, 16, 3, 0, []), (28, .invokevirtual 273, 3, 17, 82, 3, [4, 14]), (31, .ifCond .eq 36, 3, 18, 35, 0, []), (34, .iconst 0, 1, 19, 0, 0, []), (35, .istore 4, 2, 20, 4, 0, []), (37, .iload 4, 2, 21, 4, 0, []), (39, .iconst 3, 1, 22, 3, 0, []), (40, .if_icmp .ge 27, 3, 23, 35, 0, []), (43, .aload_n 0, 1, 24, 0, 0, []), (44, .getfield 19, 3, 25, 0, 1, []), (47, .iload_n 2, 1, 26, 2, 0, []), (48, .iload_n 3, 1, 27, 3, 0, []), (49, .iload 4, 2, 28, 4, 0, []), (51, .aload_n 0, 1, 29, 0, 0, []), (52, .iload_n 2, 1, 30, 2, 0, []), (53, .iload 4, 2, 31, 4, 0, []), (55, .invokevirtual 249, 3, 32, 27, 3, [0, 18]), (58, .invokevirtual 299, 3, 33, 61, 5, [2, 16]), (61, .iinc 4 1, 3, 34, 4, 1, []), (64, .goto (-27), 3, 35, 20, 0, []), (67, .iinc 3 1, 3, 36, 3, 1, []), (70, .goto (-59), 3, 37, 7, 0, []), (73, .return_, 1, 38, 0, 0, [])]
def xM_35 : xa_M := (⟨"ServiceRows", "serveRules", "(I)V"⟩, prog_1_method_36_code, 5, none, [], xR_35)
def xR_36 : List xa_R := [(0, .aload_n 0, 1, 1, 0, 0, []), (1, .getfield 26, 3, 2, 0, 2, []), (4, .iload_n 1, 1, 3, 1, 0, []), (5, .invokevirtual 302, 3, 4, 72, 2, [3, 14]), (8, .ifCond .eq 5, 3, 5, 7, 0, []), (11, .iconst 1, 1, 6, 1, 0, []), (12, .ireturn, 1, 7, 0, 0, []), (13, .aload_n 0, 1, 8, 0, 0, []), (14, .getfield 26, 3, 9, 0, 2, []), (17, .iload_n 1, 1, 10, 1, 0, []), (18, .invokevirtual 305, 3, 11, 73, 2, [3, 15]), (21, .aload_n 0, 1, 12, 0, 0, []), (22, .getfield 51, 3, 13, 0, 7, []), (25, .if_icmp .lt 5, 3, 14, 16, 0, []), (28, .iconst 2, 1, 15, 2, 0, []), (29, .ireturn, 1, 16, 0, 0, []), (30, .aload_n 0, 1, 17, 0, 0, []), (31, .getfield 10, 3, 18, 0, 0, []), (34, .iload_n 1, 1, 19, 1, 0, []), (35, .aload_n 0, 1, 20, 0, 0, []), (36, .getfield 44, 3, 21, 0, 5, []), (39, .invokevirtual 308, 3, 22, 51, 3, [1, 16]), (42, .ifCond .eq 5, 3, 23, 25, 0, []), (45, .iconst 3, 1, 24, 3, 0, []), (46, .ireturn, 1, 25, 0, 0, []), (47, .aload_n 0, 1, 26, 0, 0, []), (48, .getfield 33, 3, 27, 0, 3, []), (51, .iload_n 1, 1, 28, 1, 0, []), (52, .invokevirtual 136, 3, 29, 80, 2, [4, 14]), (55, .iconst (-1), 1, 30, 1, 1, []), (56, .if_icmp .eq 5, 3, 31, 33, 0, []), (59, .iconst 4, 1, 32, 4, 0, []), (60, .ireturn, 1, 33, 0, 0, []), (61, .aload_n 0, 1, 34, 0, 0, []), (62, .iload_n 1, 1, 35, 1, 0, []), (63, .invokevirtual 311, 3, 36, 37, 2, [0, 15]), (66, .ifCond .eq 7, 3, 37, 39, 0, []), (69, .iconst 5, 1, 38, 5, 0, []), (70, .goto 4, 3, 39, 40, 0, []), (73, .iconst 0, 1, 40, 0, 0, []), (74, .ireturn, 1, 41, 0, 0, [])]
def xM_36 : xa_M := (⟨"ServiceRows", "reasonOf", "(I)I"⟩, prog_1_method_37_code, 2, some .int, [], xR_36)
def xR_37 : List xa_R := [(0, .iconst 0, 1, 1, 0, 0, []), (1, .istore_n 2, 1, 2, 2, 0, []), (2, .iload_n 2, 1, 3, 2, 0, []), (3, .aload_n 0, 1, 4, 0, 0, []), (4, .getfield 19, 3, 5, 0, 1, []), (7, .invokevirtual 84, 3, 6, 55, 1, [2, 13]), (10, .if_icmp .ge 59, 3, 7, 38, 0, []), (13, .iconst 0, 1, 8, 0, 0, []), (14, .istore_n 3, 1, 9, 3, 0, []), (15, .iload_n 3, 1, 10, 3, 0, []), (16, .iconst 3, 1, 11, 3, 0, []), (17, .if_icmp .ge 46, 3, 12, 36, 0, []), (20, .aload_n 0, 1, 13, 0, 0, []), (21, .getfield 19, 3, 14, 0, 1, []), (24, .iload_n 2, 1, 15, 2, 0, []), (25, .iload_n 3, 1, 16, 3, 0, []), (26, .invokevirtual 108, 3, 17, 59, 3, [2, 14]), (29, .ifCond .eq 28, 3, 18, 34, 0, []), (32, .bipush 10, 2, 19, 10, 0, []), (34, .aload_n 0, 1, 20, 0, 0, []), (35, .iload_n 1, 1, 21, 1, 0, []), (36, .iload_n 2, 1, 22, 2, 0, []), (37, .iload_n 3, 1, 23, 3, 0, []), (38, .invokevirtual 114, 3, 24, 28, 4, [0, 17]), (41, .imul, 1, 25, 0, 0, []), (42, .aload_n 0, 1, 26, 0, 0, []), (43, .getfield 19, 3, 27, 0, 1, []), (46, .iload_n 2, 1, 28, 2, 0, []), (47, .iload_n 3, 1, 29, 3, 0, []), (48, .invokevirtual 256, 3, 30, 58, 3, [2, 15]), (51, .ineg, 1, 31, 0, 0, []), (52, .if_icmp .gt 5, 3, 32, 34, 0, []), (55, .iconst 1, 1, 33, 1, 0, []), (56, .ireturn, 1, 34, 0, 0, []), (57, .iinc 3 1, 3, 35, 3, 1, []), (60, .goto (-45), 3, 36, 9, 0, []), (63, .iinc 2 1, 3, 37, 2, 1, []), (66, .goto (-64), 3, 38, 2, 0, []), (69, .iconst 0, 1, 39, 0, 0, []), (70, .ireturn, 1, 40, 0, 0, [])]
def xM_37 : xa_M := (⟨"ServiceRows", "hasOverdueRule", "(I)Z"⟩, prog_1_method_38_code, 4, some .boolean, [], xR_37)
def xR_38 : List xa_R := [(0, .iconst 0, 1, 1, 0, 0, []), (1, .istore_n 1, 1, 2, 1, 0, []), (2, .iconst 0, 1, 3, 0, 0, []), (3, .istore_n 2, 1, 4, 2, 0, []), (4, .iload_n 2, 1, 5, 2, 0, []), (5, .aload_n 0, 1, 6, 0, 0, []), (6, .getfield 10, 3, 7, 0, 0, []), (9, .invokevirtual 61, 3, 8, 41, 1, [1, 13]), (12, .if_icmp .ge 20, 3, 9, 16, 0, []), (15, .aload_n 0, 1, 10, 0, 0, []), (16, .iload_n 2, 1, 11, 2, 0, []), (17, .invokevirtual 190, 3, 12, 36, 2, [0, 13]), (20, .ifCond .eq 6, 3, 13, 14, 0, []), (23, .iinc 1 1, 3, 14, 1, 1, []), (26, .iinc 2 1, 3, 15, 2, 1, []), (29, .goto (-25), 3, 16, 4, 0, []), (32, .iload_n 1, 1, 17, 1, 0, []), (33, .ireturn, 1, 18, 0, 0, [])]
def xM_38 : xa_M := (⟨"ServiceRows", "barredOnes", "()I"⟩, prog_1_method_39_code, 3, some .int, [], xR_38)
def xR_39 : List xa_R := [(0, .lload_n 0, 1, 1, 0, 0, []), (1, .lstore 4, 2, 2, 4, 0, []), (3, .lload_n 2, 1, 3, 2, 0, []), (4, .lstore 6, 2, 4, 6, 0, []), (6, .iconst 0, 1, 5, 0, 0, []), (7, .istore 8, 2, 6, 8, 0, []), (9, .iload 8, 2, 7, 8, 0, []), (11, .sipush 1000, 3, 8, 1000, 0, []), (14, .if_icmp .ge 31, 3, 9, 23, 0, []), (17, .lload 6, 2, 10, 6, 0, []), (19, .lconst 0, 1, 11, 0, 0, []), (20, .lcmp, 1, 12, 0, 0, []), (21, .ifCond .le 24, 3, 13, 23, 0, []), (24, .lload 4, 2, 14, 4, 0, []), (26, .lload 6, 2, 15, 6, 0, []), (28, .lrem, 1, 16, 0, 0, []), (29, .lstore 9, 2, 17, 9, 0, []), (31, .lload 6, 2, 18, 6, 0, []), (33, .lstore 4, 2, 19, 4, 0, []), (35, .lload 9, 2, 20, 9, 0, []), (37, .lstore 6, 2, 21, 6, 0, []), (39, .iinc 8 1, 3, 22, 8, 1, []), (42, .goto (-33), 3, 23, 6, 0, []), (45, .lload 4, 2, 24, 4, 0, []), (47, .lreturn, 1, 25, 0, 0, [])]
def xM_39 : xa_M := (⟨"ServiceRows", "commonDivisor", "(JJ)J"⟩, prog_1_method_40_code, 11, some .long, [], xR_39)
def xR_40 : List xa_R := [(0, .aload_n 0, 1, 1, 0, 0, []), (1, .invokespecial 3, 3, 2, 1000, 0, []), (4, .aload_n 0, 1, 3, 0, 0, []), (5, .bipush 30, 2, 4, 30, 0, []), (7, .newarray .int, 2, 5, 0, 0, []), (9, .putfield 9, 3, 6, 1, 0, [1]), (12, .aload_n 0, 1, 7, 0, 0, []), (13, .bipush 30, 2, 8, 30, 0, []), (15, .newarray .boolean, 2, 9, 1, 0, []), (17, .putfield 15, 3, 10, 1, 1, [1]), (20, .aload_n 0, 1, 11, 0, 0, []), (21, .bipush 30, 2, 12, 30, 0, []), (23, .newarray .int, 2, 13, 0, 0, []), (25, .putfield 19, 3, 14, 1, 2, [1]), (28, .aload_n 0, 1, 15, 0, 0, []), (29, .bipush 30, 2, 16, 30, 0, []), (31, .newarray .int, 2, 17, 0, 0, []), (33, .putfield 22, 3, 18, 1, 3, [1]), (36, .aload_n 0, 1, 19, 0, 0, []), (37, .bipush 30, 2, 20, 30, 0, []), (39, .newarray .int, 2, 21, 0, 0, []), (41, .putfield 25, 3, 22, 1, 4, [1]), (44, .aload_n 0, 1, 23, 0, 0, []), (45, .sipush 150, 3, 24, 150, 0, []), (48, .newarray .int, 2, 25, 0, 0, []), (50, .putfield 28, 3, 26, 1, 5, [1]), (53, .aload_n 0, 1, 27, 0, 0, []), (54, .sipush 3000, 3, 28, 3000, 0, []), (57, .newarray .int, 2, 29, 0, 0, []), (59, .putfield 31, 3, 30, 1, 6, [1]), (62, .aload_n 0, 1, 31, 0, 0, []), (63, .iconst 0, 1, 32, 0, 0, []), (64, .putfield 34, 3, 33, 1, 7, [0]), (67, .return_, 1, 34, 0, 0, [])]
def xM_40 : xa_M := (⟨"ServiceRows$Fleet", "<init>", "()V"⟩, prog_4_method_1_code, 1, none, [], xR_40)
def xR_41 : List xa_R := [(0, .aload_n 0, 1, 1, 0, 0, []), (1, .getfield 34, 3, 2, 1, 7, []), (4, .ireturn, 1, 3, 0, 0, [])]
def xM_41 : xa_M := (⟨"ServiceRows$Fleet", "size", "()I"⟩, prog_4_method_2_code, 1, some .int, [], xR_41)
def xR_42 : List xa_R := [(0, .aload_n 0, 1, 1, 0, 0, []), (1, .getfield 9, 3, 2, 1, 0, []), (4, .aload_n 0, 1, 3, 0, 0, []), (5, .getfield 34, 3, 4, 1, 7, []), (8, .iload_n 1, 1, 5, 1, 0, []), (9, .iastore, 1, 6, 0, 0, []), (10, .aload_n 0, 1, 7, 0, 0, []), (11, .getfield 15, 3, 8, 1, 1, []), (14, .aload_n 0, 1, 9, 0, 0, []), (15, .getfield 34, 3, 10, 1, 7, []), (18, .iload_n 2, 1, 11, 2, 0, []), (19, .bastore, 1, 12, 0, 0, []), (20, .iconst 0, 1, 13, 0, 0, []), (21, .istore_n 3, 1, 14, 3, 0, []), (22, .iload_n 3, 1, 15, 3, 0, []), (23, .iconst 5, 1, 16, 5, 0, []), (24, .if_icmp .ge 19, 3, 17, 25, 0, []), (27, .aload_n 0, 1, 18, 0, 0, []), (28, .aload_n 0, 1, 19, 0, 0, []), (29, .getfield 34, 3, 20, 1, 7, []), (32, .iload_n 3, 1, 21, 3, 0, []), (33, .iconst (-1), 1, 22, 1, 1, []), (34, .invokevirtual 38, 3, 23, 50, 4, [1, 15]), (37, .iinc 3 1, 3, 24, 3, 1, []), (40, .goto (-18), 3, 25, 14, 0, []), (43, .aload_n 0, 1, 26, 0, 0, []), (44, .dup, 1, 27, 0, 0, []), (45, .getfield 34, 3, 28, 1, 7, []), (48, .iconst 1, 1, 29, 1, 0, []), (49, .iadd, 1, 30, 0, 0, []), (50, .putfield 34, 3, 31, 1, 7, [0]), (53, .aload_n 0, 1, 32, 0, 0, []), (54, .getfield 34, 3, 33, 1, 7, []), (57, .iconst 1, 1, 34, 1, 0, []), (58, .isub, 1, 35, 0, 0, []), (59, .ireturn, 1, 36, 0, 0, [])]
def xM_42 : xa_M := (⟨"ServiceRows$Fleet", "add", "(IZ)I"⟩, prog_4_method_3_code, 4, some .int, [], xR_42)
def xR_43 : List xa_R := [(0, .aload_n 0, 1, 1, 0, 0, []), (1, .getfield 15, 3, 2, 1, 1, []), (4, .iload_n 1, 1, 3, 1, 0, []), (5, .baload, 1, 4, 0, 0, []), (6, .ireturn, 1, 5, 0, 0, [])]
def xM_43 : xa_M := (⟨"ServiceRows$Fleet", "isSpare", "(I)Z"⟩, prog_4_method_4_code, 2, some .boolean, [], xR_43)
def xR_44 : List xa_R := [(0, .aload_n 0, 1, 1, 0, 0, []), (1, .getfield 9, 3, 2, 1, 0, []), (4, .iload_n 2, 1, 3, 2, 0, []), (5, .iaload, 1, 4, 0, 0, []), (6, .aload_n 0, 1, 5, 0, 0, []), (7, .getfield 9, 3, 6, 1, 0, []), (10, .iload_n 1, 1, 7, 1, 0, []), (11, .iaload, 1, 8, 0, 0, []), (12, .isub, 1, 9, 0, 0, []), (13, .invokestatic 42, 3, 10, 1001, 0, []), (16, .istore 4, 2, 11, 4, 0, []), (18, .aload_n 0, 1, 12, 0, 0, []), (19, .getfield 9, 3, 13, 1, 0, []), (22, .iload_n 3, 1, 14, 3, 0, []), (23, .iaload, 1, 15, 0, 0, []), (24, .aload_n 0, 1, 16, 0, 0, []), (25, .getfield 9, 3, 17, 1, 0, []), (28, .iload_n 1, 1, 18, 1, 0, []), (29, .iaload, 1, 19, 0, 0, []), (30, .isub, 1, 20, 0, 0, []), (31, .invokestatic 42, 3, 21, 1001, 0, []), (34, .istore 5, 2, 22, 5, 0, []), (36, .iload 4, 2, 23, 4, 0, []), (38, .iload 5, 2, 24, 5, 0, []), (40, .if_icmp .lt 25, 3, 25, 37, 0, []), (43, .iload 4, 2, 26, 4, 0, []), (45, .iload 5, 2, 27, 5, 0, []), (47, .if_icmp .ne 22, 3, 28, 39, 0, []), (50, .aload_n 0, 1, 29, 0, 0, []), (51, .getfield 9, 3, 30, 1, 0, []), (54, .iload_n 2, 1, 31, 2, 0, []), (55, .iaload, 1, 32, 0, 0, []), (56, .aload_n 0, 1, 33, 0, 0, []), (57, .getfield 9, 3, 34, 1, 0, []), (60, .iload_n 3, 1, 35, 3, 0, []), (61, .iaload, 1, 36, 0, 0, []), (62, .if_icmp .ge 7, 3, 37, 39, 0, []), (65, .iconst 1, 1, 38, 1, 0, []), (66, .goto 4, 3, 39, 40, 0, []), (69, .iconst 0, 1, 40, 0, 0, []), (70, .ireturn, 1, 41, 0, 0, [])]
def xM_44 : xa_M := (⟨"ServiceRows$Fleet", "isNearer", "(III)Z"⟩, prog_4_method_5_code, 6, some .boolean, [], xR_44)
def xR_45 : List xa_R := [(0, .aload_n 0, 1, 1, 0, 0, []), (1, .getfield 19, 3, 2, 1, 2, []), (4, .iload_n 1, 1, 3, 1, 0, []), (5, .iaload, 1, 4, 0, 0, []), (6, .ireturn, 1, 5, 0, 0, [])]
def xM_45 : xa_M := (⟨"ServiceRows$Fleet", "kilometresOf", "(I)I"⟩, prog_4_method_6_code, 2, some .int, [], xR_45)
def xR_46 : List xa_R := [(0, .aload_n 0, 1, 1, 0, 0, []), (1, .getfield 22, 3, 2, 1, 3, []), (4, .iload_n 1, 1, 3, 1, 0, []), (5, .iaload, 1, 4, 0, 0, []), (6, .ireturn, 1, 5, 0, 0, [])]
def xM_46 : xa_M := (⟨"ServiceRows$Fleet", "hoursOf", "(I)I"⟩, prog_4_method_7_code, 2, some .int, [], xR_46)
def xR_47 : List xa_R := [(0, .aload_n 0, 1, 1, 0, 0, []), (1, .getfield 19, 3, 2, 1, 2, []), (4, .iload_n 1, 1, 3, 1, 0, []), (5, .iload_n 2, 1, 4, 2, 0, []), (6, .iastore, 1, 5, 0, 0, []), (7, .aload_n 0, 1, 6, 0, 0, []), (8, .getfield 22, 3, 7, 1, 3, []), (11, .iload_n 1, 1, 8, 1, 0, []), (12, .iload_n 3, 1, 9, 3, 0, []), (13, .iastore, 1, 10, 0, 0, []), (14, .return_, 1, 11, 0, 0, [])]
def xM_47 : xa_M := (⟨"ServiceRows$Fleet", "setReadings", "(III)V"⟩, prog_4_method_8_code, 4, none, [], xR_47)
def xR_48 : List xa_R := [(0, .aload_n 0, 1, 1, 0, 0, []), (1, .getfield 25, 3, 2, 1, 4, []), (4, .iload_n 1, 1, 3, 1, 0, []), (5, .iaload, 1, 4, 0, 0, []), (6, .ireturn, 1, 5, 0, 0, [])]
def xM_48 : xa_M := (⟨"ServiceRows$Fleet", "oilOf", "(I)I"⟩, prog_4_method_9_code, 2, some .int, [], xR_48)
def xR_49 : List xa_R := [(0, .aload_n 0, 1, 1, 0, 0, []), (1, .getfield 25, 3, 2, 1, 4, []), (4, .iload_n 1, 1, 3, 1, 0, []), (5, .dup2, 1, 4, 0, 0, []), (6, .iaload, 1, 5, 0, 0, []), (7, .iload_n 2, 1, 6, 2, 0, []), (8, .iadd, 1, 7, 0, 0, []), (9, .iastore, 1, 8, 0, 0, []), (10, .return_, 1, 9, 0, 0, [])]
def xM_49 : xa_M := (⟨"ServiceRows$Fleet", "addOil", "(II)V"⟩, prog_4_method_10_code, 3, none, [], xR_49)
def xR_50 : List xa_R := [(0, .aload_n 0, 1, 1, 0, 0, []), (1, .getfield 28, 3, 2, 1, 5, []), (4, .iload_n 1, 1, 3, 1, 0, []), (5, .iconst 5, 1, 4, 5, 0, []), (6, .imul, 1, 5, 0, 0, []), (7, .iload_n 2, 1, 6, 2, 0, []), (8, .iadd, 1, 7, 0, 0, []), (9, .iload_n 3, 1, 8, 3, 0, []), (10, .iastore, 1, 9, 0, 0, []), (11, .return_, 1, 10, 0, 0, [])]
def xM_50 : xa_M := (⟨"ServiceRows$Fleet", "setCertificate", "(III)V"⟩, prog_4_method_11_code, 4, none, [], xR_50)
def xR_51 : List xa_R := [(0, .iconst 0, 1, 1, 0, 0, []), (1, .istore_n 3, 1, 2, 3, 0, []), (2, .iload_n 3, 1, 3, 3, 0, []), (3, .iconst 5, 1, 4, 5, 0, []), (4, .if_icmp .ge 35, 3, 5, 24, 0, []), (7, .aload_n 0, 1, 6, 0, 0, []), (8, .getfield 28, 3, 7, 1, 5, []), (11, .iload_n 1, 1, 8, 1, 0, []), (12, .iconst 5, 1, 9, 5, 0, []), (13, .imul, 1, 10, 0, 0, []), (14, .iload_n 3, 1, 11, 3, 0, []), (15, .iadd, 1, 12, 0, 0, []), (16, .iaload, 1, 13, 0, 0, []), (17, .istore 4, 2, 14, 4, 0, []), (19, .iload 4, 2, 15, 4, 0, []), (21, .iconst (-1), 1, 16, 1, 1, []), (22, .if_icmp .eq 11, 3, 17, 22, 0, []), (25, .iload 4, 2, 18, 4, 0, []), (27, .iload_n 2, 1, 19, 2, 0, []), (28, .if_icmp .gt 5, 3, 20, 22, 0, []), (31, .iconst 1, 1, 21, 1, 0, []), (32, .ireturn, 1, 22, 0, 0, []), (33, .iinc 3 1, 3, 23, 3, 1, []), (36, .goto (-34), 3, 24, 2, 0, []), (39, .iconst 0, 1, 25, 0, 0, []), (40, .ireturn, 1, 26, 0, 0, [])]
def xM_51 : xa_M := (⟨"ServiceRows$Fleet", "hasPastCertificate", "(II)Z"⟩, prog_4_method_12_code, 5, some .boolean, [], xR_51)
def xR_52 : List xa_R := [(0, .aload_n 0, 1, 1, 0, 0, []), (1, .getfield 31, 3, 2, 1, 6, []), (4, .iload_n 1, 1, 3, 1, 0, []), (5, .bipush 100, 2, 4, 100, 0, []), (7, .imul, 1, 5, 0, 0, []), (8, .iload_n 2, 1, 6, 2, 0, []), (9, .iadd, 1, 7, 0, 0, []), (10, .iaload, 1, 8, 0, 0, []), (11, .ireturn, 1, 9, 0, 0, [])]
def xM_52 : xa_M := (⟨"ServiceRows$Fleet", "warrantyOf", "(II)I"⟩, prog_4_method_13_code, 3, some .int, [], xR_52)
def xR_53 : List xa_R := [(0, .aload_n 0, 1, 1, 0, 0, []), (1, .getfield 31, 3, 2, 1, 6, []), (4, .iload_n 1, 1, 3, 1, 0, []), (5, .bipush 100, 2, 4, 100, 0, []), (7, .imul, 1, 5, 0, 0, []), (8, .iload_n 2, 1, 6, 2, 0, []), (9, .iadd, 1, 7, 0, 0, []), (10, .iload_n 3, 1, 8, 3, 0, []), (11, .iastore, 1, 9, 0, 0, []), (12, .return_, 1, 10, 0, 0, [])]
def xM_53 : xa_M := (⟨"ServiceRows$Fleet", "setWarranty", "(III)V"⟩, prog_4_method_14_code, 4, none, [], xR_53)
def xR_54 : List xa_R := [(0, .aload_n 0, 1, 1, 0, 0, []), (1, .invokespecial 3, 3, 2, 1000, 0, []), (4, .aload_n 0, 1, 3, 0, 0, []), (5, .bipush 30, 2, 4, 30, 0, []), (7, .newarray .int, 2, 5, 0, 0, []), (9, .putfield 9, 3, 6, 2, 0, [1]), (12, .aload_n 0, 1, 7, 0, 0, []), (13, .sipush 900, 3, 8, 900, 0, []), (16, .newarray .int, 2, 9, 0, 0, []), (18, .putfield 15, 3, 10, 2, 1, [1]), (21, .aload_n 0, 1, 11, 0, 0, []), (22, .iconst 0, 1, 12, 0, 0, []), (23, .putfield 18, 3, 13, 2, 2, [0]), (26, .return_, 1, 14, 0, 0, [])]
def xM_54 : xa_M := (⟨"ServiceRows$RuleRows", "<init>", "()V"⟩, prog_6_method_1_code, 1, none, [], xR_54)
def xR_55 : List xa_R := [(0, .aload_n 0, 1, 1, 0, 0, []), (1, .getfield 18, 3, 2, 2, 2, []), (4, .ireturn, 1, 3, 0, 0, [])]
def xM_55 : xa_M := (⟨"ServiceRows$RuleRows", "size", "()I"⟩, prog_6_method_2_code, 1, some .int, [], xR_55)
def xR_56 : List xa_R := [(0, .aload_n 0, 1, 1, 0, 0, []), (1, .getfield 9, 3, 2, 2, 0, []), (4, .aload_n 0, 1, 3, 0, 0, []), (5, .getfield 18, 3, 4, 2, 2, []), (8, .iconst 3, 1, 5, 3, 0, []), (9, .imul, 1, 6, 0, 0, []), (10, .iconst 0, 1, 7, 0, 0, []), (11, .iadd, 1, 8, 0, 0, []), (12, .iload_n 1, 1, 9, 1, 0, []), (13, .iastore, 1, 10, 0, 0, []), (14, .aload_n 0, 1, 11, 0, 0, []), (15, .getfield 9, 3, 12, 2, 0, []), (18, .aload_n 0, 1, 13, 0, 0, []), (19, .getfield 18, 3, 14, 2, 2, []), (22, .iconst 3, 1, 15, 3, 0, []), (23, .imul, 1, 16, 0, 0, []), (24, .iconst 1, 1, 17, 1, 0, []), (25, .iadd, 1, 18, 0, 0, []), (26, .iload_n 2, 1, 19, 2, 0, []), (27, .iastore, 1, 20, 0, 0, []), (28, .aload_n 0, 1, 21, 0, 0, []), (29, .getfield 9, 3, 22, 2, 0, []), (32, .aload_n 0, 1, 23, 0, 0, []), (33, .getfield 18, 3, 24, 2, 2, []), (36, .iconst 3, 1, 25, 3, 0, []), (37, .imul, 1, 26, 0, 0, []), (38, .iconst 2, 1, 27, 2, 0, []), (39, .iadd, 1, 28, 0, 0, []), (40, .iload_n 3, 1, 29, 3, 0, []), (41, .iastore, 1, 30, 0, 0, []), (42, .aload_n 0, 1, 31, 0, 0, []), (43, .dup, 1, 32, 0, 0, []), (44, .getfield 18, 3, 33, 2, 2, []), (47, .iconst 1, 1, 34, 1, 0, []), (48, .iadd, 1, 35, 0, 0, []), (49, .putfield 18, 3, 36, 2, 2, [0]), (52, .aload_n 0, 1, 37, 0, 0, []), (53, .getfield 18, 3, 38, 2, 2, []), (56, .iconst 1, 1, 39, 1, 0, []), (57, .isub, 1, 40, 0, 0, []), (58, .ireturn, 1, 41, 0, 0, [])]
def xM_56 : xa_M := (⟨"ServiceRows$RuleRows", "add", "(III)I"⟩, prog_6_method_3_code, 4, some .int, [], xR_56)
def xR_57 : List xa_R := [(0, .iconst 0, 1, 1, 0, 0, []), (1, .istore_n 3, 1, 2, 3, 0, []), (2, .iload_n 3, 1, 3, 3, 0, []), (3, .bipush 10, 2, 4, 10, 0, []), (5, .if_icmp .ge 17, 3, 5, 13, 0, []), (8, .aload_n 0, 1, 6, 0, 0, []), (9, .iload_n 1, 1, 7, 1, 0, []), (10, .iload_n 3, 1, 8, 3, 0, []), (11, .iconst 2, 1, 9, 2, 0, []), (12, .iload_n 2, 1, 10, 2, 0, []), (13, .invokevirtual 22, 3, 11, 61, 5, [2, 16]), (16, .iinc 3 1, 3, 12, 3, 1, []), (19, .goto (-17), 3, 13, 2, 0, []), (22, .return_, 1, 14, 0, 0, [])]
def xM_57 : xa_M := (⟨"ServiceRows$RuleRows", "startVehicle", "(II)V"⟩, prog_6_method_4_code, 4, none, [], xR_57)
def xR_58 : List xa_R := [(0, .aload_n 0, 1, 1, 0, 0, []), (1, .getfield 9, 3, 2, 2, 0, []), (4, .iload_n 1, 1, 3, 1, 0, []), (5, .iconst 3, 1, 4, 3, 0, []), (6, .imul, 1, 5, 0, 0, []), (7, .iload_n 2, 1, 6, 2, 0, []), (8, .iadd, 1, 7, 0, 0, []), (9, .iaload, 1, 8, 0, 0, []), (10, .ireturn, 1, 9, 0, 0, [])]
def xM_58 : xa_M := (⟨"ServiceRows$RuleRows", "interval", "(II)I"⟩, prog_6_method_5_code, 3, some .int, [], xR_58)
def xR_59 : List xa_R := [(0, .aload_n 0, 1, 1, 0, 0, []), (1, .iload_n 1, 1, 2, 1, 0, []), (2, .iload_n 2, 1, 3, 2, 0, []), (3, .invokevirtual 26, 3, 4, 58, 3, [2, 14]), (6, .ifCond .eq 7, 3, 5, 7, 0, []), (9, .iconst 1, 1, 6, 1, 0, []), (10, .goto 4, 3, 7, 8, 0, []), (13, .iconst 0, 1, 8, 0, 0, []), (14, .ireturn, 1, 9, 0, 0, [])]
def xM_59 : xa_M := (⟨"ServiceRows$RuleRows", "isBy", "(II)Z"⟩, prog_6_method_6_code, 3, some .boolean, [], xR_59)
def xR_60 : List xa_R := [(0, .aload_n 0, 1, 1, 0, 0, []), (1, .getfield 15, 3, 2, 2, 1, []), (4, .iload_n 1, 1, 3, 1, 0, []), (5, .bipush 10, 2, 4, 10, 0, []), (7, .imul, 1, 5, 0, 0, []), (8, .iload_n 2, 1, 6, 2, 0, []), (9, .iadd, 1, 7, 0, 0, []), (10, .iconst 3, 1, 8, 3, 0, []), (11, .imul, 1, 9, 0, 0, []), (12, .iload_n 3, 1, 10, 3, 0, []), (13, .iadd, 1, 11, 0, 0, []), (14, .iaload, 1, 12, 0, 0, []), (15, .ireturn, 1, 13, 0, 0, [])]
def xM_60 : xa_M := (⟨"ServiceRows$RuleRows", "since", "(III)I"⟩, prog_6_method_7_code, 4, some .int, [], xR_60)
def xR_61 : List xa_R := [(0, .aload_n 0, 1, 1, 0, 0, []), (1, .getfield 15, 3, 2, 2, 1, []), (4, .iload_n 1, 1, 3, 1, 0, []), (5, .bipush 10, 2, 4, 10, 0, []), (7, .imul, 1, 5, 0, 0, []), (8, .iload_n 2, 1, 6, 2, 0, []), (9, .iadd, 1, 7, 0, 0, []), (10, .iconst 3, 1, 8, 3, 0, []), (11, .imul, 1, 9, 0, 0, []), (12, .iload_n 3, 1, 10, 3, 0, []), (13, .iadd, 1, 11, 0, 0, []), (14, .iload 4, 2, 12, 4, 0, []), (16, .iastore, 1, 13, 0, 0, []), (17, .return_, 1, 14, 0, 0, [])]
def xM_61 : xa_M := (⟨"ServiceRows$RuleRows", "setSince", "(IIII)V"⟩, prog_6_method_8_code, 5, none, [], xR_61)
def xR_62 : List xa_R := [(0, .aload_n 0, 1, 1, 0, 0, []), (1, .invokespecial 3, 3, 2, 1000, 0, []), (4, .aload_n 0, 1, 3, 0, 0, []), (5, .bipush 100, 2, 4, 100, 0, []), (7, .newarray .int, 2, 5, 0, 0, []), (9, .putfield 9, 3, 6, 3, 0, [1]), (12, .aload_n 0, 1, 7, 0, 0, []), (13, .bipush 100, 2, 8, 100, 0, []), (15, .newarray .boolean, 2, 9, 1, 0, []), (17, .putfield 15, 3, 10, 3, 1, [1]), (20, .aload_n 0, 1, 11, 0, 0, []), (21, .bipush 100, 2, 12, 100, 0, []), (23, .newarray .int, 2, 13, 0, 0, []), (25, .putfield 19, 3, 14, 3, 2, [1]), (28, .aload_n 0, 1, 15, 0, 0, []), (29, .bipush 100, 2, 16, 100, 0, []), (31, .newarray .int, 2, 17, 0, 0, []), (33, .putfield 22, 3, 18, 3, 3, [1]), (36, .aload_n 0, 1, 19, 0, 0, []), (37, .iconst 0, 1, 20, 0, 0, []), (38, .putfield 25, 3, 21, 3, 4, [0]), (41, .return_, 1, 22, 0, 0, [])]
def xM_62 : xa_M := (⟨"ServiceRows$DefectRows", "<init>", "()V"⟩, prog_2_method_1_code, 1, none, [], xR_62)
def xR_63 : List xa_R := [(0, .aload_n 0, 1, 1, 0, 0, []), (1, .getfield 25, 3, 2, 3, 4, []), (4, .ireturn, 1, 3, 0, 0, [])]
def xM_63 : xa_M := (⟨"ServiceRows$DefectRows", "size", "()I"⟩, prog_2_method_2_code, 1, some .int, [], xR_63)
def xR_64 : List xa_R := [(0, .aload_n 0, 1, 1, 0, 0, []), (1, .getfield 9, 3, 2, 3, 0, []), (4, .aload_n 0, 1, 3, 0, 0, []), (5, .getfield 25, 3, 4, 3, 4, []), (8, .iload_n 1, 1, 5, 1, 0, []), (9, .iastore, 1, 6, 0, 0, []), (10, .aload_n 0, 1, 7, 0, 0, []), (11, .getfield 15, 3, 8, 3, 1, []), (14, .aload_n 0, 1, 9, 0, 0, []), (15, .getfield 25, 3, 10, 3, 4, []), (18, .iload_n 2, 1, 11, 2, 0, []), (19, .bastore, 1, 12, 0, 0, []), (20, .aload_n 0, 1, 13, 0, 0, []), (21, .getfield 19, 3, 14, 3, 2, []), (24, .aload_n 0, 1, 15, 0, 0, []), (25, .getfield 25, 3, 16, 3, 4, []), (28, .iconst 0, 1, 17, 0, 0, []), (29, .iastore, 1, 18, 0, 0, []), (30, .aload_n 0, 1, 19, 0, 0, []), (31, .getfield 22, 3, 20, 3, 3, []), (34, .aload_n 0, 1, 21, 0, 0, []), (35, .getfield 25, 3, 22, 3, 4, []), (38, .iconst (-1), 1, 23, 1, 1, []), (39, .iastore, 1, 24, 0, 0, []), (40, .aload_n 0, 1, 25, 0, 0, []), (41, .dup, 1, 26, 0, 0, []), (42, .getfield 25, 3, 27, 3, 4, []), (45, .iconst 1, 1, 28, 1, 0, []), (46, .iadd, 1, 29, 0, 0, []), (47, .putfield 25, 3, 30, 3, 4, [0]), (50, .aload_n 0, 1, 31, 0, 0, []), (51, .getfield 25, 3, 32, 3, 4, []), (54, .iconst 1, 1, 33, 1, 0, []), (55, .isub, 1, 34, 0, 0, []), (56, .ireturn, 1, 35, 0, 0, [])]
def xM_64 : xa_M := (⟨"ServiceRows$DefectRows", "add", "(IZ)I"⟩, prog_2_method_3_code, 3, some .int, [], xR_64)
def xR_65 : List xa_R := [(0, .aload_n 0, 1, 1, 0, 0, []), (1, .getfield 9, 3, 2, 3, 0, []), (4, .iload_n 1, 1, 3, 1, 0, []), (5, .iaload, 1, 4, 0, 0, []), (6, .ireturn, 1, 5, 0, 0, [])]
def xM_65 : xa_M := (⟨"ServiceRows$DefectRows", "vehicleOf", "(I)I"⟩, prog_2_method_4_code, 2, some .int, [], xR_65)
def xR_66 : List xa_R := [(0, .aload_n 0, 1, 1, 0, 0, []), (1, .getfield 15, 3, 2, 3, 1, []), (4, .iload_n 1, 1, 3, 1, 0, []), (5, .baload, 1, 4, 0, 0, []), (6, .ireturn, 1, 5, 0, 0, [])]
def xM_66 : xa_M := (⟨"ServiceRows$DefectRows", "isSevere", "(I)Z"⟩, prog_2_method_5_code, 2, some .boolean, [], xR_66)
def xR_67 : List xa_R := [(0, .aload_n 0, 1, 1, 0, 0, []), (1, .getfield 19, 3, 2, 3, 2, []), (4, .iload_n 1, 1, 3, 1, 0, []), (5, .iaload, 1, 4, 0, 0, []), (6, .ireturn, 1, 5, 0, 0, [])]
def xM_67 : xa_M := (⟨"ServiceRows$DefectRows", "stateOf", "(I)I"⟩, prog_2_method_6_code, 2, some .int, [], xR_67)
def xR_68 : List xa_R := [(0, .aload_n 0, 1, 1, 0, 0, []), (1, .getfield 22, 3, 2, 3, 3, []), (4, .iload_n 1, 1, 3, 1, 0, []), (5, .iaload, 1, 4, 0, 0, []), (6, .ireturn, 1, 5, 0, 0, [])]
def xM_68 : xa_M := (⟨"ServiceRows$DefectRows", "orderOf", "(I)I"⟩, prog_2_method_7_code, 2, some .int, [], xR_68)
def xR_69 : List xa_R := [(0, .aload_n 0, 1, 1, 0, 0, []), (1, .getfield 22, 3, 2, 3, 3, []), (4, .iload_n 1, 1, 3, 1, 0, []), (5, .iload_n 2, 1, 4, 2, 0, []), (6, .iastore, 1, 5, 0, 0, []), (7, .return_, 1, 6, 0, 0, [])]
def xM_69 : xa_M := (⟨"ServiceRows$DefectRows", "setOrder", "(II)V"⟩, prog_2_method_8_code, 3, none, [], xR_69)
def xR_70 : List xa_R := [(0, .iconst 0, 1, 1, 0, 0, []), (1, .istore_n 2, 1, 2, 2, 0, []), (2, .iload_n 2, 1, 3, 2, 0, []), (3, .aload_n 0, 1, 4, 0, 0, []), (4, .getfield 25, 3, 5, 3, 4, []), (7, .if_icmp .ge 48, 3, 6, 31, 0, []), (10, .aload_n 0, 1, 7, 0, 0, []), (11, .getfield 22, 3, 8, 3, 3, []), (14, .iload_n 2, 1, 9, 2, 0, []), (15, .iaload, 1, 10, 0, 0, []), (16, .iload_n 1, 1, 11, 1, 0, []), (17, .if_icmp .ne 32, 3, 12, 29, 0, []), (20, .aload_n 0, 1, 13, 0, 0, []), (21, .getfield 19, 3, 14, 3, 2, []), (24, .iload_n 2, 1, 15, 2, 0, []), (25, .iaload, 1, 16, 0, 0, []), (26, .ifCond .ne 23, 3, 17, 29, 0, []), (29, .aload_n 0, 1, 18, 0, 0, []), (30, .getfield 19, 3, 19, 3, 2, []), (33, .iload_n 2, 1, 20, 2, 0, []), (34, .aload_n 0, 1, 21, 0, 0, []), (35, .getfield 15, 3, 22, 3, 1, []), (38, .iload_n 2, 1, 23, 2, 0, []), (39, .baload, 1, 24, 0, 0, []), (40, .ifCond .eq 7, 3, 25, 27, 0, []), (43, .iconst 1, 1, 26, 1, 0, []), (44, .goto 4, 3, 27, 28, 0, []), (47, .iconst 2, 1, 28, 2, 0, []), (48, .iastore, 1, 29, 0, 0, []), (49, .iinc 2 1, 3, 30, 2, 1, []), (52, .goto (-50), 3, 31, 2, 0, []), (55, .return_, 1, 32, 0, 0, [])]
def xM_70 : xa_M := (⟨"ServiceRows$DefectRows", "repair", "(I)V"⟩, prog_2_method_9_code, 3, none, [], xR_70)
def xR_71 : List xa_R := [(0, .iconst 0, 1, 1, 0, 0, []), (1, .istore_n 2, 1, 2, 2, 0, []), (2, .iload_n 2, 1, 3, 2, 0, []), (3, .aload_n 0, 1, 4, 0, 0, []), (4, .getfield 25, 3, 5, 3, 4, []), (7, .if_icmp .ge 36, 3, 6, 25, 0, []), (10, .aload_n 0, 1, 7, 0, 0, []), (11, .getfield 9, 3, 8, 3, 0, []), (14, .iload_n 2, 1, 9, 2, 0, []), (15, .iaload, 1, 10, 0, 0, []), (16, .iload_n 1, 1, 11, 1, 0, []), (17, .if_icmp .ne 20, 3, 12, 23, 0, []), (20, .aload_n 0, 1, 13, 0, 0, []), (21, .getfield 19, 3, 14, 3, 2, []), (24, .iload_n 2, 1, 15, 2, 0, []), (25, .iaload, 1, 16, 0, 0, []), (26, .iconst 1, 1, 17, 1, 0, []), (27, .if_icmp .ne 10, 3, 18, 23, 0, []), (30, .aload_n 0, 1, 19, 0, 0, []), (31, .getfield 19, 3, 20, 3, 2, []), (34, .iload_n 2, 1, 21, 2, 0, []), (35, .iconst 2, 1, 22, 2, 0, []), (36, .iastore, 1, 23, 0, 0, []), (37, .iinc 2 1, 3, 24, 2, 1, []), (40, .goto (-38), 3, 25, 2, 0, []), (43, .return_, 1, 26, 0, 0, [])]
def xM_71 : xa_M := (⟨"ServiceRows$DefectRows", "clearRepaired", "(I)V"⟩, prog_2_method_10_code, 3, none, [], xR_71)
def xR_72 : List xa_R := [(0, .iconst 0, 1, 1, 0, 0, []), (1, .istore_n 2, 1, 2, 2, 0, []), (2, .iload_n 2, 1, 3, 2, 0, []), (3, .aload_n 0, 1, 4, 0, 0, []), (4, .getfield 25, 3, 5, 3, 4, []), (7, .if_icmp .ge 40, 3, 6, 27, 0, []), (10, .aload_n 0, 1, 7, 0, 0, []), (11, .getfield 9, 3, 8, 3, 0, []), (14, .iload_n 2, 1, 9, 2, 0, []), (15, .iaload, 1, 10, 0, 0, []), (16, .iload_n 1, 1, 11, 1, 0, []), (17, .if_icmp .ne 24, 3, 12, 25, 0, []), (20, .aload_n 0, 1, 13, 0, 0, []), (21, .getfield 15, 3, 14, 3, 1, []), (24, .iload_n 2, 1, 15, 2, 0, []), (25, .baload, 1, 16, 0, 0, []), (26, .ifCond .eq 15, 3, 17, 25, 0, []), (29, .aload_n 0, 1, 18, 0, 0, []), (30, .getfield 19, 3, 19, 3, 2, []), (33, .iload_n 2, 1, 20, 2, 0, []), (34, .iaload, 1, 21, 0, 0, []), (35, .iconst 2, 1, 22, 2, 0, []), (36, .if_icmp .eq 5, 3, 23, 25, 0, []), (39, .iconst 1, 1, 24, 1, 0, []), (40, .ireturn, 1, 25, 0, 0, []), (41, .iinc 2 1, 3, 26, 2, 1, []), (44, .goto (-42), 3, 27, 2, 0, []), (47, .iconst 0, 1, 28, 0, 0, []), (48, .ireturn, 1, 29, 0, 0, [])]
def xM_72 : xa_M := (⟨"ServiceRows$DefectRows", "hasSevere", "(I)Z"⟩, prog_2_method_11_code, 3, some .boolean, [], xR_72)
def xR_73 : List xa_R := [(0, .iconst 0, 1, 1, 0, 0, []), (1, .istore_n 2, 1, 2, 2, 0, []), (2, .iconst 0, 1, 3, 0, 0, []), (3, .istore_n 3, 1, 4, 3, 0, []), (4, .iload_n 3, 1, 5, 3, 0, []), (5, .aload_n 0, 1, 6, 0, 0, []), (6, .getfield 25, 3, 7, 3, 4, []), (9, .if_icmp .ge 40, 3, 8, 27, 0, []), (12, .aload_n 0, 1, 9, 0, 0, []), (13, .getfield 9, 3, 10, 3, 0, []), (16, .iload_n 3, 1, 11, 3, 0, []), (17, .iaload, 1, 12, 0, 0, []), (18, .iload_n 1, 1, 13, 1, 0, []), (19, .if_icmp .ne 24, 3, 14, 25, 0, []), (22, .aload_n 0, 1, 15, 0, 0, []), (23, .getfield 15, 3, 16, 3, 1, []), (26, .iload_n 3, 1, 17, 3, 0, []), (27, .baload, 1, 18, 0, 0, []), (28, .ifCond .ne 15, 3, 19, 25, 0, []), (31, .aload_n 0, 1, 20, 0, 0, []), (32, .getfield 19, 3, 21, 3, 2, []), (35, .iload_n 3, 1, 22, 3, 0, []), (36, .iaload, 1, 23, 0, 0, []), (37, .ifCond .ne 6, 3, 24, 25, 0, []), (40, .iinc 2 1, 3, 25, 2, 1, []), (43, .iinc 3 1, 3, 26, 3, 1, []), (46, .goto (-42), 3, 27, 4, 0, []), (49, .iload_n 2, 1, 28, 2, 0, []), (50, .ireturn, 1, 29, 0, 0, [])]
def xM_73 : xa_M := (⟨"ServiceRows$DefectRows", "openSmallOnes", "(I)I"⟩, prog_2_method_12_code, 4, some .int, [], xR_73)
def xR_74 : List xa_R := [(0, .aload_n 0, 1, 1, 0, 0, []), (1, .invokespecial 3, 3, 2, 1000, 0, []), (4, .aload_n 0, 1, 3, 0, 0, []), (5, .bipush 60, 2, 4, 60, 0, []), (7, .newarray .int, 2, 5, 0, 0, []), (9, .putfield 9, 3, 6, 4, 0, [1]), (12, .aload_n 0, 1, 7, 0, 0, []), (13, .bipush 60, 2, 8, 60, 0, []), (15, .newarray .boolean, 2, 9, 1, 0, []), (17, .putfield 15, 3, 10, 4, 1, [1]), (20, .aload_n 0, 1, 11, 0, 0, []), (21, .sipush 600, 3, 12, 600, 0, []), (24, .newarray .boolean, 2, 13, 1, 0, []), (26, .putfield 19, 3, 14, 4, 2, [1]), (29, .aload_n 0, 1, 15, 0, 0, []), (30, .bipush 60, 2, 16, 60, 0, []), (32, .newarray .int, 2, 17, 0, 0, []), (34, .putfield 22, 3, 18, 4, 3, [1]), (37, .aload_n 0, 1, 19, 0, 0, []), (38, .bipush 60, 2, 20, 60, 0, []), (40, .newarray .int, 2, 21, 0, 0, []), (42, .putfield 25, 3, 22, 4, 4, [1]), (45, .aload_n 0, 1, 23, 0, 0, []), (46, .iconst 0, 1, 24, 0, 0, []), (47, .putfield 28, 3, 25, 4, 5, [0]), (50, .aload_n 0, 1, 26, 0, 0, []), (51, .iconst 0, 1, 27, 0, 0, []), (52, .putfield 32, 3, 28, 4, 6, [0]), (55, .return_, 1, 29, 0, 0, [])]
def xM_74 : xa_M := (⟨"ServiceRows$OrderRows", "<init>", "()V"⟩, prog_5_method_1_code, 1, none, [], xR_74)
def xR_75 : List xa_R := [(0, .aload_n 0, 1, 1, 0, 0, []), (1, .getfield 28, 3, 2, 4, 5, []), (4, .ireturn, 1, 3, 0, 0, [])]
def xM_75 : xa_M := (⟨"ServiceRows$OrderRows", "size", "()I"⟩, prog_5_method_2_code, 1, some .int, [], xR_75)
def xR_76 : List xa_R := [(0, .aload_n 0, 1, 1, 0, 0, []), (1, .getfield 32, 3, 2, 4, 6, []), (4, .ireturn, 1, 3, 0, 0, [])]
def xM_76 : xa_M := (⟨"ServiceRows$OrderRows", "parts", "()I"⟩, prog_5_method_3_code, 1, some .int, [], xR_76)
def xR_77 : List xa_R := [(0, .aload_n 0, 1, 1, 0, 0, []), (1, .getfield 9, 3, 2, 4, 0, []), (4, .aload_n 0, 1, 3, 0, 0, []), (5, .getfield 28, 3, 4, 4, 5, []), (8, .iload_n 1, 1, 5, 1, 0, []), (9, .iastore, 1, 6, 0, 0, []), (10, .aload_n 0, 1, 7, 0, 0, []), (11, .getfield 15, 3, 8, 4, 1, []), (14, .aload_n 0, 1, 9, 0, 0, []), (15, .getfield 28, 3, 10, 4, 5, []), (18, .iconst 1, 1, 11, 1, 0, []), (19, .bastore, 1, 12, 0, 0, []), (20, .aload_n 0, 1, 13, 0, 0, []), (21, .dup, 1, 14, 0, 0, []), (22, .getfield 28, 3, 15, 4, 5, []), (25, .iconst 1, 1, 16, 1, 0, []), (26, .iadd, 1, 17, 0, 0, []), (27, .putfield 28, 3, 18, 4, 5, [0]), (30, .aload_n 0, 1, 19, 0, 0, []), (31, .getfield 28, 3, 20, 4, 5, []), (34, .iconst 1, 1, 21, 1, 0, []), (35, .isub, 1, 22, 0, 0, []), (36, .ireturn, 1, 23, 0, 0, [])]
def xM_77 : xa_M := (⟨"ServiceRows$OrderRows", "add", "(I)I"⟩, prog_5_method_4_code, 2, some .int, [], xR_77)
def xR_78 : List xa_R := [(0, .aload_n 0, 1, 1, 0, 0, []), (1, .getfield 9, 3, 2, 4, 0, []), (4, .iload_n 1, 1, 3, 1, 0, []), (5, .iaload, 1, 4, 0, 0, []), (6, .ireturn, 1, 5, 0, 0, [])]
def xM_78 : xa_M := (⟨"ServiceRows$OrderRows", "vehicleOf", "(I)I"⟩, prog_5_method_5_code, 2, some .int, [], xR_78)
def xR_79 : List xa_R := [(0, .aload_n 0, 1, 1, 0, 0, []), (1, .getfield 15, 3, 2, 4, 1, []), (4, .iload_n 1, 1, 3, 1, 0, []), (5, .baload, 1, 4, 0, 0, []), (6, .ireturn, 1, 5, 0, 0, [])]
def xM_79 : xa_M := (⟨"ServiceRows$OrderRows", "isOpen", "(I)Z"⟩, prog_5_method_6_code, 2, some .boolean, [], xR_79)
def xR_80 : List xa_R := [(0, .iconst 0, 1, 1, 0, 0, []), (1, .istore_n 2, 1, 2, 2, 0, []), (2, .iload_n 2, 1, 3, 2, 0, []), (3, .aload_n 0, 1, 4, 0, 0, []), (4, .getfield 28, 3, 5, 4, 5, []), (7, .if_icmp .ge 30, 3, 6, 21, 0, []), (10, .aload_n 0, 1, 7, 0, 0, []), (11, .getfield 15, 3, 8, 4, 1, []), (14, .iload_n 2, 1, 9, 2, 0, []), (15, .baload, 1, 10, 0, 0, []), (16, .ifCond .eq 15, 3, 11, 19, 0, []), (19, .aload_n 0, 1, 12, 0, 0, []), (20, .getfield 9, 3, 13, 4, 0, []), (23, .iload_n 2, 1, 14, 2, 0, []), (24, .iaload, 1, 15, 0, 0, []), (25, .iload_n 1, 1, 16, 1, 0, []), (26, .if_icmp .ne 5, 3, 17, 19, 0, []), (29, .iload_n 2, 1, 18, 2, 0, []), (30, .ireturn, 1, 19, 0, 0, []), (31, .iinc 2 1, 3, 20, 2, 1, []), (34, .goto (-32), 3, 21, 2, 0, []), (37, .iconst (-1), 1, 22, 1, 1, []), (38, .ireturn, 1, 23, 0, 0, [])]
def xM_80 : xa_M := (⟨"ServiceRows$OrderRows", "openOf", "(I)I"⟩, prog_5_method_7_code, 3, some .int, [], xR_80)
def xR_81 : List xa_R := [(0, .iconst 0, 1, 1, 0, 0, []), (1, .istore_n 1, 1, 2, 1, 0, []), (2, .iconst 0, 1, 3, 0, 0, []), (3, .istore_n 2, 1, 4, 2, 0, []), (4, .iload_n 2, 1, 5, 2, 0, []), (5, .aload_n 0, 1, 6, 0, 0, []), (6, .getfield 28, 3, 7, 4, 5, []), (9, .if_icmp .ge 21, 3, 8, 16, 0, []), (12, .aload_n 0, 1, 9, 0, 0, []), (13, .getfield 15, 3, 10, 4, 1, []), (16, .iload_n 2, 1, 11, 2, 0, []), (17, .baload, 1, 12, 0, 0, []), (18, .ifCond .eq 6, 3, 13, 14, 0, []), (21, .iinc 1 1, 3, 14, 1, 1, []), (24, .iinc 2 1, 3, 15, 2, 1, []), (27, .goto (-23), 3, 16, 4, 0, []), (30, .iload_n 1, 1, 17, 1, 0, []), (31, .ireturn, 1, 18, 0, 0, [])]
def xM_81 : xa_M := (⟨"ServiceRows$OrderRows", "openOnes", "()I"⟩, prog_5_method_8_code, 3, some .int, [], xR_81)
def xR_82 : List xa_R := [(0, .aload_n 0, 1, 1, 0, 0, []), (1, .getfield 19, 3, 2, 4, 2, []), (4, .iload_n 1, 1, 3, 1, 0, []), (5, .bipush 10, 2, 4, 10, 0, []), (7, .imul, 1, 5, 0, 0, []), (8, .iload_n 2, 1, 6, 2, 0, []), (9, .iadd, 1, 7, 0, 0, []), (10, .baload, 1, 8, 0, 0, []), (11, .ireturn, 1, 9, 0, 0, [])]
def xM_82 : xa_M := (⟨"ServiceRows$OrderRows", "hasRule", "(II)Z"⟩, prog_5_method_9_code, 3, some .boolean, [], xR_82)
def xR_83 : List xa_R := [(0, .aload_n 0, 1, 1, 0, 0, []), (1, .getfield 19, 3, 2, 4, 2, []), (4, .iload_n 1, 1, 3, 1, 0, []), (5, .bipush 10, 2, 4, 10, 0, []), (7, .imul, 1, 5, 0, 0, []), (8, .iload_n 2, 1, 6, 2, 0, []), (9, .iadd, 1, 7, 0, 0, []), (10, .iconst 1, 1, 8, 1, 0, []), (11, .bastore, 1, 9, 0, 0, []), (12, .aload_n 0, 1, 10, 0, 0, []), (13, .getfield 22, 3, 11, 4, 3, []), (16, .iload_n 1, 1, 12, 1, 0, []), (17, .dup2, 1, 13, 0, 0, []), (18, .iaload, 1, 14, 0, 0, []), (19, .iconst 1, 1, 15, 1, 0, []), (20, .iadd, 1, 16, 0, 0, []), (21, .iastore, 1, 17, 0, 0, []), (22, .return_, 1, 18, 0, 0, [])]
def xM_83 : xa_M := (⟨"ServiceRows$OrderRows", "addRule", "(II)V"⟩, prog_5_method_10_code, 3, none, [], xR_83)
def xR_84 : List xa_R := [(0, .aload_n 0, 1, 1, 0, 0, []), (1, .getfield 22, 3, 2, 4, 3, []), (4, .iload_n 1, 1, 3, 1, 0, []), (5, .dup2, 1, 4, 0, 0, []), (6, .iaload, 1, 5, 0, 0, []), (7, .iconst 1, 1, 6, 1, 0, []), (8, .iadd, 1, 7, 0, 0, []), (9, .iastore, 1, 8, 0, 0, []), (10, .return_, 1, 9, 0, 0, [])]
def xM_84 : xa_M := (⟨"ServiceRows$OrderRows", "addDefect", "(I)V"⟩, prog_5_method_11_code, 2, none, [], xR_84)
def xR_85 : List xa_R := [(0, .aload_n 0, 1, 1, 0, 0, []), (1, .getfield 22, 3, 2, 4, 3, []), (4, .iload_n 1, 1, 3, 1, 0, []), (5, .iaload, 1, 4, 0, 0, []), (6, .ireturn, 1, 5, 0, 0, [])]
def xM_85 : xa_M := (⟨"ServiceRows$OrderRows", "worksOf", "(I)I"⟩, prog_5_method_12_code, 2, some .int, [], xR_85)
def xR_86 : List xa_R := [(0, .aload_n 0, 1, 1, 0, 0, []), (1, .getfield 25, 3, 2, 4, 4, []), (4, .iload_n 1, 1, 3, 1, 0, []), (5, .dup2, 1, 4, 0, 0, []), (6, .iaload, 1, 5, 0, 0, []), (7, .iload_n 2, 1, 6, 2, 0, []), (8, .iadd, 1, 7, 0, 0, []), (9, .iastore, 1, 8, 0, 0, []), (10, .aload_n 0, 1, 9, 0, 0, []), (11, .dup, 1, 10, 0, 0, []), (12, .getfield 32, 3, 11, 4, 6, []), (15, .iconst 1, 1, 12, 1, 0, []), (16, .iadd, 1, 13, 0, 0, []), (17, .putfield 32, 3, 14, 4, 6, [0]), (20, .return_, 1, 15, 0, 0, [])]
def xM_86 : xa_M := (⟨"ServiceRows$OrderRows", "addPart", "(II)V"⟩, prog_5_method_13_code, 3, none, [], xR_86)
def xR_87 : List xa_R := [(0, .aload_n 0, 1, 1, 0, 0, []), (1, .getfield 25, 3, 2, 4, 4, []), (4, .iload_n 1, 1, 3, 1, 0, []), (5, .iaload, 1, 4, 0, 0, []), (6, .ireturn, 1, 5, 0, 0, [])]
def xM_87 : xa_M := (⟨"ServiceRows$OrderRows", "costOf", "(I)I"⟩, prog_5_method_14_code, 2, some .int, [], xR_87)
def xR_88 : List xa_R := [(0, .aload_n 0, 1, 1, 0, 0, []), (1, .getfield 15, 3, 2, 4, 1, []), (4, .iload_n 1, 1, 3, 1, 0, []), (5, .iconst 0, 1, 4, 0, 0, []), (6, .bastore, 1, 5, 0, 0, []), (7, .return_, 1, 6, 0, 0, [])]
def xM_88 : xa_M := (⟨"ServiceRows$OrderRows", "close", "(I)V"⟩, prog_5_method_15_code, 2, none, [], xR_88)
def xR_89 : List xa_R := [(0, .aload_n 0, 1, 1, 0, 0, []), (1, .invokespecial 3, 3, 2, 1000, 0, []), (4, .aload_n 0, 1, 3, 0, 0, []), (5, .sipush 300, 3, 4, 300, 0, []), (8, .newarray .int, 2, 5, 0, 0, []), (10, .putfield 9, 3, 6, 5, 0, [1]), (13, .aload_n 0, 1, 7, 0, 0, []), (14, .sipush 300, 3, 8, 300, 0, []), (17, .newarray .int, 2, 9, 0, 0, []), (19, .putfield 15, 3, 10, 5, 1, [1]), (22, .aload_n 0, 1, 11, 0, 0, []), (23, .sipush 300, 3, 12, 300, 0, []), (26, .newarray .int, 2, 13, 0, 0, []), (28, .putfield 18, 3, 14, 5, 2, [1]), (31, .aload_n 0, 1, 15, 0, 0, []), (32, .iconst 0, 1, 16, 0, 0, []), (33, .putfield 21, 3, 17, 5, 3, [0]), (36, .return_, 1, 18, 0, 0, [])]
def xM_89 : xa_M := (⟨"ServiceRows$DueRows", "<init>", "()V"⟩, prog_3_method_1_code, 1, none, [], xR_89)
def xR_90 : List xa_R := [(0, .aload_n 0, 1, 1, 0, 0, []), (1, .iconst 0, 1, 2, 0, 0, []), (2, .putfield 21, 3, 3, 5, 3, [0]), (5, .return_, 1, 4, 0, 0, [])]
def xM_90 : xa_M := (⟨"ServiceRows$DueRows", "clear", "()V"⟩, prog_3_method_2_code, 1, none, [], xR_90)
def xR_91 : List xa_R := [(0, .iload_n 1, 1, 1, 1, 0, []), (1, .bipush 10, 2, 2, 10, 0, []), (3, .imul, 1, 3, 0, 0, []), (4, .iload_n 2, 1, 4, 2, 0, []), (5, .iadd, 1, 5, 0, 0, []), (6, .istore 5, 2, 6, 5, 0, []), (8, .aload_n 0, 1, 7, 0, 0, []), (9, .iload_n 3, 1, 8, 3, 0, []), (10, .iload 4, 2, 9, 4, 0, []), (12, .invokevirtual 25, 3, 10, 92, 3, [5, 16]), (15, .istore 6, 2, 11, 6, 0, []), (17, .aload_n 0, 1, 12, 0, 0, []), (18, .getfield 15, 3, 13, 5, 1, []), (21, .iload 5, 2, 14, 5, 0, []), (23, .iload_n 3, 1, 15, 3, 0, []), (24, .iastore, 1, 16, 0, 0, []), (25, .aload_n 0, 1, 17, 0, 0, []), (26, .getfield 18, 3, 18, 5, 2, []), (29, .iload 5, 2, 19, 5, 0, []), (31, .iload 4, 2, 20, 4, 0, []), (33, .iastore, 1, 21, 0, 0, []), (34, .aload_n 0, 1, 22, 0, 0, []), (35, .getfield 9, 3, 23, 5, 0, []), (38, .iload 6, 2, 24, 6, 0, []), (40, .aload_n 0, 1, 25, 0, 0, []), (41, .getfield 9, 3, 26, 5, 0, []), (44, .iload 6, 2, 27, 6, 0, []), (46, .iconst 1, 1, 28, 1, 0, []), (47, .iadd, 1, 29, 0, 0, []), (48, .aload_n 0, 1, 30, 0, 0, []), (49, .getfield 21, 3, 31, 5, 3, []), (52, .iload 6, 2, 32, 6, 0, []), (54, .isub, 1, 33, 0, 0, []), (55, .invokestatic 29, 3, 34, 1002, 0, []), (58, .aload_n 0, 1, 35, 0, 0, []), (59, .getfield 9, 3, 36, 5, 0, []), (62, .iload 6, 2, 37, 6, 0, []), (64, .iload 5, 2, 38, 5, 0, []), (66, .iastore, 1, 39, 0, 0, []), (67, .aload_n 0, 1, 40, 0, 0, []), (68, .dup, 1, 41, 0, 0, []), (69, .getfield 21, 3, 42, 5, 3, []), (72, .iconst 1, 1, 43, 1, 0, []), (73, .iadd, 1, 44, 0, 0, []), (74, .putfield 21, 3, 45, 5, 3, [0]), (77, .return_, 1, 46, 0, 0, [])]
def xM_91 : xa_M := (⟨"ServiceRows$DueRows", "insert", "(IIII)V"⟩, prog_3_method_3_code, 7, none, [], xR_91)
def xR_92 : List xa_R := [(0, .iconst 0, 1, 1, 0, 0, []), (1, .istore_n 3, 1, 2, 3, 0, []), (2, .sipush 256, 3, 3, 256, 0, []), (5, .istore 4, 2, 4, 4, 0, []), (7, .iload 4, 2, 5, 4, 0, []), (9, .ifCond .le 48, 3, 6, 34, 0, []), (12, .iload_n 3, 1, 7, 3, 0, []), (13, .iload 4, 2, 8, 4, 0, []), (15, .iadd, 1, 9, 0, 0, []), (16, .aload_n 0, 1, 10, 0, 0, []), (17, .getfield 21, 3, 11, 5, 3, []), (20, .if_icmp .gt 28, 3, 12, 29, 0, []), (23, .aload_n 0, 1, 13, 0, 0, []), (24, .iload_n 1, 1, 14, 1, 0, []), (25, .iload_n 2, 1, 15, 2, 0, []), (26, .aload_n 0, 1, 16, 0, 0, []), (27, .getfield 9, 3, 17, 5, 0, []), (30, .iload_n 3, 1, 18, 3, 0, []), (31, .iload 4, 2, 19, 4, 0, []), (33, .iadd, 1, 20, 0, 0, []), (34, .iconst 1, 1, 21, 1, 0, []), (35, .isub, 1, 22, 0, 0, []), (36, .iaload, 1, 23, 0, 0, []), (37, .invokevirtual 35, 3, 24, 93, 4, [5, 15]), (40, .ifCond .ne 8, 3, 25, 29, 0, []), (43, .iload_n 3, 1, 26, 3, 0, []), (44, .iload 4, 2, 27, 4, 0, []), (46, .iadd, 1, 28, 0, 0, []), (47, .istore_n 3, 1, 29, 3, 0, []), (48, .iload 4, 2, 30, 4, 0, []), (50, .iconst 2, 1, 31, 2, 0, []), (51, .idiv, 1, 32, 0, 0, []), (52, .istore 4, 2, 33, 4, 0, []), (54, .goto (-47), 3, 34, 4, 0, []), (57, .iload_n 3, 1, 35, 3, 0, []), (58, .ireturn, 1, 36, 0, 0, [])]
def xM_92 : xa_M := (⟨"ServiceRows$DueRows", "placeOf", "(II)I"⟩, prog_3_method_4_code, 5, some .int, [], xR_92)
def xR_93 : List xa_R := [(0, .iload_n 1, 1, 1, 1, 0, []), (1, .iload_n 2, 1, 2, 2, 0, []), (2, .aload_n 0, 1, 3, 0, 0, []), (3, .getfield 15, 3, 4, 5, 1, []), (6, .iload_n 3, 1, 5, 3, 0, []), (7, .iaload, 1, 6, 0, 0, []), (8, .aload_n 0, 1, 7, 0, 0, []), (9, .getfield 18, 3, 8, 5, 2, []), (12, .iload_n 3, 1, 9, 3, 0, []), (13, .iaload, 1, 10, 0, 0, []), (14, .invokestatic 39, 3, 11, 30, 4, [999, 15]), (17, .ireturn, 1, 12, 0, 0, [])]
def xM_93 : xa_M := (⟨"ServiceRows$DueRows", "isBefore", "(III)Z"⟩, prog_3_method_5_code, 4, some .boolean, [], xR_93)
def xR_94 : List xa_R := [(0, .iload_n 1, 1, 1, 1, 0, []), (1, .aload_n 0, 1, 2, 0, 0, []), (2, .getfield 21, 3, 3, 5, 3, []), (5, .if_icmp .lt 5, 3, 4, 6, 0, []), (8, .iconst (-1), 1, 5, 1, 1, []), (9, .ireturn, 1, 6, 0, 0, []), (10, .bipush 100, 2, 7, 100, 0, []), (12, .aload_n 0, 1, 8, 0, 0, []), (13, .getfield 9, 3, 9, 5, 0, []), (16, .iload_n 1, 1, 10, 1, 0, []), (17, .iaload, 1, 11, 0, 0, []), (18, .bipush 10, 2, 12, 10, 0, []), (20, .idiv, 1, 13, 0, 0, []), (21, .imul, 1, 14, 0, 0, []), (22, .aload_n 0, 1, 15, 0, 0, []), (23, .getfield 9, 3, 16, 5, 0, []), (26, .iload_n 1, 1, 17, 1, 0, []), (27, .iaload, 1, 18, 0, 0, []), (28, .bipush 10, 2, 19, 10, 0, []), (30, .irem, 1, 20, 0, 0, []), (31, .iadd, 1, 21, 0, 0, []), (32, .ireturn, 1, 22, 0, 0, [])]
def xM_94 : xa_M := (⟨"ServiceRows$DueRows", "rowAt", "(I)I"⟩, prog_3_method_6_code, 2, some .int, [], xR_94)
def xR_95 : List xa_R := [(0, .aload_n 0, 1, 1, 0, 0, []), (1, .invokespecial 1, 3, 2, 1000, 0, []), (4, .aload_n 0, 1, 3, 0, 0, []), (5, .iconst 5, 1, 4, 5, 0, []), (6, .putfield 7, 3, 5, 6, 4, [0]), (9, .aload_n 0, 1, 6, 0, 0, []), (10, .bipush 30, 2, 7, 30, 0, []), (12, .newarray .int, 2, 8, 0, 0, []), (14, .putfield 13, 3, 9, 6, 6, [1]), (17, .aload_n 0, 1, 10, 0, 0, []), (18, .bipush 30, 2, 11, 30, 0, []), (20, .newarray .boolean, 2, 12, 1, 0, []), (22, .putfield 17, 3, 13, 6, 7, [1]), (25, .aload_n 0, 1, 14, 0, 0, []), (26, .bipush 30, 2, 15, 30, 0, []), (28, .newarray .int, 2, 16, 0, 0, []), (30, .putfield 21, 3, 17, 6, 8, [1]), (33, .aload_n 0, 1, 18, 0, 0, []), (34, .bipush 30, 2, 19, 30, 0, []), (36, .newarray .int, 2, 20, 0, 0, []), (38, .putfield 24, 3, 21, 6, 9, [1]), (41, .aload_n 0, 1, 22, 0, 0, []), (42, .bipush 30, 2, 23, 30, 0, []), (44, .newarray .int, 2, 24, 0, 0, []), (46, .putfield 27, 3, 25, 6, 10, [1]), (49, .aload_n 0, 1, 26, 0, 0, []), (50, .bipush 30, 2, 27, 30, 0, []), (52, .newarray .int, 2, 28, 0, 0, []), (54, .putfield 30, 3, 29, 6, 12, [1]), (57, .aload_n 0, 1, 30, 0, 0, []), (58, .sipush 900, 3, 31, 900, 0, []), (61, .newarray .int, 2, 32, 0, 0, []), (63, .putfield 33, 3, 33, 6, 13, [1]), (66, .aload_n 0, 1, 34, 0, 0, []), (67, .sipush 150, 3, 35, 150, 0, []), (70, .newarray .int, 2, 36, 0, 0, []), (72, .putfield 36, 3, 37, 6, 14, [1]), (75, .aload_n 0, 1, 38, 0, 0, []), (76, .sipush 3000, 3, 39, 3000, 0, []), (79, .newarray .int, 2, 40, 0, 0, []), (81, .putfield 39, 3, 41, 6, 15, [1]), (84, .aload_n 0, 1, 42, 0, 0, []), (85, .bipush 100, 2, 43, 100, 0, []), (87, .newarray .int, 2, 44, 0, 0, []), (89, .putfield 42, 3, 45, 6, 17, [1]), (92, .aload_n 0, 1, 46, 0, 0, []), (93, .bipush 100, 2, 47, 100, 0, []), (95, .newarray .boolean, 2, 48, 1, 0, []), (97, .putfield 45, 3, 49, 6, 18, [1]), (100, .aload_n 0, 1, 50, 0, 0, []), (101, .bipush 100, 2, 51, 100, 0, []), (103, .newarray .int, 2, 52, 0, 0, []), (105, .putfield 48, 3, 53, 6, 19, [1]), (108, .aload_n 0, 1, 54, 0, 0, []), (109, .bipush 60, 2, 55, 60, 0, []), (111, .newarray .int, 2, 56, 0, 0, []), (113, .putfield 51, 3, 57, 6, 21, [1]), (116, .aload_n 0, 1, 58, 0, 0, []), (117, .bipush 60, 2, 59, 60, 0, []), (119, .newarray .boolean, 2, 60, 1, 0, []), (121, .putfield 54, 3, 61, 6, 22, [1]), (124, .aload_n 0, 1, 62, 0, 0, []), (125, .bipush 60, 2, 63, 60, 0, []), (127, .newarray .int, 2, 64, 0, 0, []), (129, .putfield 57, 3, 65, 6, 23, [1]), (132, .aload_n 0, 1, 66, 0, 0, []), (133, .sipush 600, 3, 67, 600, 0, []), (136, .newarray .boolean, 2, 68, 1, 0, []), (138, .putfield 60, 3, 69, 6, 24, [1]), (141, .aload_n 0, 1, 70, 0, 0, []), (142, .sipush 6000, 3, 71, 6000, 0, []), (145, .newarray .boolean, 2, 72, 1, 0, []), (147, .putfield 63, 3, 73, 6, 25, [1]), (150, .return_, 1, 74, 0, 0, [])]
def xM_95 : xa_M := (⟨"ServiceRowsModel", "<init>", "()V"⟩, prog_8_method_1_code, 1, none, [], xR_95)
def xR_96 : List xa_R := [(0, .aload_n 0, 1, 1, 0, 0, []), (1, .getfield 66, 3, 2, 6, 0, []), (4, .ireturn, 1, 3, 0, 0, [])]
def xM_96 : xa_M := (⟨"ServiceRowsModel", "thrown", "()I"⟩, prog_8_method_2_code, 1, some .int, [], xR_96)
def xR_97 : List xa_R := [(0, .aload_n 0, 1, 1, 0, 0, []), (1, .iload_n 1, 1, 2, 1, 0, []), (2, .ifCond .eq 7, 3, 3, 5, 0, []), (5, .iconst 1, 1, 4, 1, 0, []), (6, .goto 29, 3, 5, 18, 0, []), (9, .iload_n 2, 1, 6, 2, 0, []), (10, .ifCond .eq 7, 3, 7, 9, 0, []), (13, .iconst 2, 1, 8, 2, 0, []), (14, .goto 21, 3, 9, 18, 0, []), (17, .iload_n 3, 1, 10, 3, 0, []), (18, .ifCond .eq 7, 3, 11, 13, 0, []), (21, .iconst 3, 1, 12, 3, 0, []), (22, .goto 13, 3, 13, 18, 0, []), (25, .iload 4, 2, 14, 4, 0, []), (27, .ifCond .eq 7, 3, 15, 17, 0, []), (30, .iconst 4, 1, 16, 4, 0, []), (31, .goto 4, 3, 17, 18, 0, []), (34, .iconst 0, 1, 18, 0, 0, []), (35, .putfield 66, 3, 19, 6, 0, [0]), (38, .aload_n 0, 1, 20, 0, 0, []), (39, .getfield 66, 3, 21, 6, 0, []), (42, .ifCond .le 7, 3, 22, 24, 0, []), (45, .iconst 1, 1, 23, 1, 0, []), (46, .goto 4, 3, 24, 25, 0, []), (49, .iconst 0, 1, 25, 0, 0, []), (50, .ireturn, 1, 26, 0, 0, [])]
def xM_97 : xa_M := (⟨"ServiceRowsModel", "throwing", "(ZZZZ)Z"⟩, prog_8_method_3_code, 5, some .boolean, [], xR_97)
def xR_98 : List xa_R := [(0, .iload_n 0, 1, 1, 0, 0, []), (1, .iload_n 1, 1, 2, 1, 0, []), (2, .if_icmp .lt 12, 3, 3, 8, 0, []), (5, .iload_n 0, 1, 4, 0, 0, []), (6, .iload_n 2, 1, 5, 2, 0, []), (7, .if_icmp .gt 7, 3, 6, 8, 0, []), (10, .iconst 1, 1, 7, 1, 0, []), (11, .goto 4, 3, 8, 9, 0, []), (14, .iconst 0, 1, 9, 0, 0, []), (15, .ireturn, 1, 10, 0, 0, [])]
def xM_98 : xa_M := (⟨"ServiceRowsModel", "in", "(III)Z"⟩, prog_8_method_4_code, 3, some .boolean, [], xR_98)
def xR_99 : List xa_R := [(0, .iload_n 1, 1, 1, 1, 0, []), (1, .iconst 0, 1, 2, 0, 0, []), (2, .aload_n 0, 1, 3, 0, 0, []), (3, .getfield 69, 3, 4, 6, 5, []), (6, .iconst 1, 1, 5, 1, 0, []), (7, .isub, 1, 6, 0, 0, []), (8, .invokestatic 72, 3, 7, 98, 3, [999, 14]), (11, .ireturn, 1, 8, 0, 0, [])]
def xM_99 : xa_M := (⟨"ServiceRowsModel", "isVehicle", "(I)Z"⟩, prog_8_method_5_code, 2, some .boolean, [], xR_99)
def xR_100 : List xa_R := [(0, .iload_n 1, 1, 1, 1, 0, []), (1, .iconst 0, 1, 2, 0, 0, []), (2, .aload_n 0, 1, 3, 0, 0, []), (3, .getfield 76, 3, 4, 6, 11, []), (6, .iconst 1, 1, 5, 1, 0, []), (7, .isub, 1, 6, 0, 0, []), (8, .invokestatic 72, 3, 7, 98, 3, [999, 14]), (11, .ireturn, 1, 8, 0, 0, [])]
def xM_100 : xa_M := (⟨"ServiceRowsModel", "isRule", "(I)Z"⟩, prog_8_method_6_code, 2, some .boolean, [], xR_100)
def xR_101 : List xa_R := [(0, .iload_n 1, 1, 1, 1, 0, []), (1, .iconst 0, 1, 2, 0, 0, []), (2, .aload_n 0, 1, 3, 0, 0, []), (3, .getfield 79, 3, 4, 6, 20, []), (6, .iconst 1, 1, 5, 1, 0, []), (7, .isub, 1, 6, 0, 0, []), (8, .invokestatic 72, 3, 7, 98, 3, [999, 14]), (11, .ireturn, 1, 8, 0, 0, [])]
def xM_101 : xa_M := (⟨"ServiceRowsModel", "isOrder", "(I)Z"⟩, prog_8_method_7_code, 2, some .boolean, [], xR_101)
def xR_102 : List xa_R := [(0, .aload_n 0, 1, 1, 0, 0, []), (1, .iload_n 1, 1, 2, 1, 0, []), (2, .iconst 0, 1, 3, 0, 0, []), (3, .bipush 9, 2, 4, 9, 0, []), (5, .invokestatic 72, 3, 5, 98, 3, [999, 15]), (8, .ifCond .ne 7, 3, 6, 8, 0, []), (11, .iconst 1, 1, 7, 1, 0, []), (12, .goto 4, 3, 8, 9, 0, []), (15, .iconst 0, 1, 9, 0, 0, []), (16, .aload_n 0, 1, 10, 0, 0, []), (17, .getfield 69, 3, 11, 6, 5, []), (20, .bipush 30, 2, 12, 30, 0, []), (22, .if_icmp .ne 7, 3, 13, 15, 0, []), (25, .iconst 1, 1, 14, 1, 0, []), (26, .goto 4, 3, 15, 16, 0, []), (29, .iconst 0, 1, 16, 0, 0, []), (30, .iconst 0, 1, 17, 0, 0, []), (31, .iconst 0, 1, 18, 0, 0, []), (32, .invokevirtual 82, 3, 19, 97, 5, [6, 16]), (35, .ifCond .eq 5, 3, 20, 22, 0, []), (38, .iconst 0, 1, 21, 0, 0, []), (39, .ireturn, 1, 22, 0, 0, []), (40, .aload_n 0, 1, 23, 0, 0, []), (41, .getfield 13, 3, 24, 6, 6, []), (44, .aload_n 0, 1, 25, 0, 0, []), (45, .getfield 69, 3, 26, 6, 5, []), (48, .iload_n 1, 1, 27, 1, 0, []), (49, .iastore, 1, 28, 0, 0, []), (50, .aload_n 0, 1, 29, 0, 0, []), (51, .getfield 17, 3, 30, 6, 7, []), (54, .aload_n 0, 1, 31, 0, 0, []), (55, .getfield 69, 3, 32, 6, 5, []), (58, .iload_n 2, 1, 33, 2, 0, []), (59, .bastore, 1, 34, 0, 0, []), (60, .iconst 0, 1, 35, 0, 0, []), (61, .istore_n 3, 1, 36, 3, 0, []), (62, .iload_n 3, 1, 37, 3, 0, []), (63, .bipush 10, 2, 38, 10, 0, []), (65, .if_icmp .ge 31, 3, 39, 56, 0, []), (68, .aload_n 0, 1, 40, 0, 0, []), (69, .getfield 33, 3, 41, 6, 13, []), (72, .bipush 30, 2, 42, 30, 0, []), (74, .aload_n 0, 1, 43, 0, 0, []), (75, .getfield 69, 3, 44, 6, 5, []), (78, .imul, 1, 45, 0, 0, []), (79, .iconst 3, 1, 46, 3, 0, []), (80, .iload_n 3, 1, 47, 3, 0, []), (81, .imul, 1, 48, 0, 0, []), (82, .iadd, 1, 49, 0, 0, []), (83, .iconst 2, 1, 50, 2, 0, []), (84, .iadd, 1, 51, 0, 0, []), (85, .aload_n 0, 1, 52, 0, 0, []), (86, .getfield 86, 3, 53, 6, 1, []), (89, .iastore, 1, 54, 0, 0, []), (90, .iinc 3 1, 3, 55, 3, 1, []), (93, .goto (-31), 3, 56, 36, 0, []), (96, .iconst 0, 1, 57, 0, 0, []), (97, .istore_n 3, 1, 58, 3, 0, []), (98, .iload_n 3, 1, 59, 3, 0, []), (99, .iconst 5, 1, 60, 5, 0, []), (100, .if_icmp .ge 23, 3, 61, 73, 0, []), (103, .aload_n 0, 1, 62, 0, 0, []), (104, .getfield 36, 3, 63, 6, 14, []), (107, .iconst 5, 1, 64, 5, 0, []), (108, .aload_n 0, 1, 65, 0, 0, []), (109, .getfield 69, 3, 66, 6, 5, []), (112, .imul, 1, 67, 0, 0, []), (113, .iload_n 3, 1, 68, 3, 0, []), (114, .iadd, 1, 69, 0, 0, []), (115, .iconst (-1), 1, 70, 1, 1, []), (116, .iastore, 1, 71, 0, 0, []), (117, .iinc 3 1, 3, 72, 3, 1, []), (120, .goto (-22), 3, 73, 58, 0, []), (123, .aload_n 0, 1, 74, 0, 0, []), (124, .dup, 1, 75, 0, 0, []), (125, .getfield 69, 3, 76, 6, 5, []), (128, .iconst 1, 1, 77, 1, 0, []), (129, .iadd, 1, 78, 0, 0, []), (130, .putfield 69, 3, 79, 6, 5, [0]), (133, .aload_n 0, 1, 80, 0, 0, []), (134, .getfield 69, 3, 81, 6, 5, []), (137, .iconst 1, 1, 82, 1, 0, []), (138, .isub, 1, 83, 0, 0, []), (139, .ireturn, 1, 84, 0, 0, [])]
def xM_102 : xa_M := (⟨"ServiceRowsModel", "vehicle", "(IZ)I"⟩, prog_8_method_8_code, 4, some .int, [], xR_102)
def xR_103 : List xa_R := [(0, .iload_n 1, 1, 1, 1, 0, []), (1, .iconst 0, 1, 2, 0, 0, []), (2, .ldc 89, 2, 3, 100000, 0, []), (4, .invokestatic 72, 3, 4, 98, 3, [999, 14]), (7, .ifCond .eq 35, 3, 5, 21, 0, []), (10, .iload_n 2, 1, 6, 2, 0, []), (11, .iconst 0, 1, 7, 0, 0, []), (12, .ldc 89, 2, 8, 100000, 0, []), (14, .invokestatic 72, 3, 9, 98, 3, [999, 14]), (17, .ifCond .eq 25, 3, 10, 21, 0, []), (20, .iload_n 3, 1, 11, 3, 0, []), (21, .iconst 0, 1, 12, 0, 0, []), (22, .ldc 89, 2, 13, 100000, 0, []), (24, .invokestatic 72, 3, 14, 98, 3, [999, 14]), (27, .ifCond .eq 15, 3, 15, 21, 0, []), (30, .iload_n 1, 1, 16, 1, 0, []), (31, .ifCond .ne 15, 3, 17, 23, 0, []), (34, .iload_n 2, 1, 18, 2, 0, []), (35, .ifCond .ne 11, 3, 19, 23, 0, []), (38, .iload_n 3, 1, 20, 3, 0, []), (39, .ifCond .ne 7, 3, 21, 23, 0, []), (42, .iconst 1, 1, 22, 1, 0, []), (43, .goto 4, 3, 23, 24, 0, []), (46, .iconst 0, 1, 24, 0, 0, []), (47, .istore 4, 2, 25, 4, 0, []), (49, .aload_n 0, 1, 26, 0, 0, []), (50, .iload 4, 2, 27, 4, 0, []), (52, .aload_n 0, 1, 28, 0, 0, []), (53, .getfield 76, 3, 29, 6, 11, []), (56, .bipush 10, 2, 30, 10, 0, []), (58, .if_icmp .ne 7, 3, 31, 33, 0, []), (61, .iconst 1, 1, 32, 1, 0, []), (62, .goto 4, 3, 33, 34, 0, []), (65, .iconst 0, 1, 34, 0, 0, []), (66, .iconst 0, 1, 35, 0, 0, []), (67, .iconst 0, 1, 36, 0, 0, []), (68, .invokevirtual 82, 3, 37, 97, 5, [6, 16]), (71, .ifCond .eq 5, 3, 38, 40, 0, []), (74, .iconst 0, 1, 39, 0, 0, []), (75, .ireturn, 1, 40, 0, 0, []), (76, .aload_n 0, 1, 41, 0, 0, []), (77, .getfield 30, 3, 42, 6, 12, []), (80, .iconst 3, 1, 43, 3, 0, []), (81, .aload_n 0, 1, 44, 0, 0, []), (82, .getfield 76, 3, 45, 6, 11, []), (85, .imul, 1, 46, 0, 0, []), (86, .iload_n 1, 1, 47, 1, 0, []), (87, .iastore, 1, 48, 0, 0, []), (88, .aload_n 0, 1, 49, 0, 0, []), (89, .getfield 30, 3, 50, 6, 12, []), (92, .iconst 3, 1, 51, 3, 0, []), (93, .aload_n 0, 1, 52, 0, 0, []), (94, .getfield 76, 3, 53, 6, 11, []), (97, .imul, 1, 54, 0, 0, []), (98, .iconst 1, 1, 55, 1, 0, []), (99, .iadd, 1, 56, 0, 0, []), (100, .iload_n 2, 1, 57, 2, 0, []), (101, .iastore, 1, 58, 0, 0, []), (102, .aload_n 0, 1, 59, 0, 0, []), (103, .getfield 30, 3, 60, 6, 12, []), (106, .iconst 3, 1, 61, 3, 0, []), (107, .aload_n 0, 1, 62, 0, 0, []), (108, .getfield 76, 3, 63, 6, 11, []), (111, .imul, 1, 64, 0, 0, []), (112, .iconst 2, 1, 65, 2, 0, []), (113, .iadd, 1, 66, 0, 0, []), (114, .iload_n 3, 1, 67, 3, 0, []), (115, .iastore, 1, 68, 0, 0, []), (116, .aload_n 0, 1, 69, 0, 0, []), (117, .dup, 1, 70, 0, 0, []), (118, .getfield 76, 3, 71, 6, 11, []), (121, .iconst 1, 1, 72, 1, 0, []), (122, .iadd, 1, 73, 0, 0, []), (123, .putfield 76, 3, 74, 6, 11, [0]), (126, .aload_n 0, 1, 75, 0, 0, []), (127, .getfield 76, 3, 76, 6, 11, []), (130, .iconst 1, 1, 77, 1, 0, []), (131, .isub, 1, 78, 0, 0, []), (132, .ireturn, 1, 79, 0, 0, [])]
def xM_103 : xa_M := (⟨"ServiceRowsModel", "rule", "(III)I"⟩, prog_8_method_9_code, 5, some .int, [], xR_103)
def xR_104 : List xa_R := [(0, .aload_n 0, 1, 1, 0, 0, []), (1, .iload_n 1, 1, 2, 1, 0, []), (2, .iconst 1, 1, 3, 1, 0, []), (3, .bipush 100, 2, 4, 100, 0, []), (5, .invokestatic 72, 3, 5, 98, 3, [999, 15]), (8, .ifCond .ne 7, 3, 6, 8, 0, []), (11, .iconst 1, 1, 7, 1, 0, []), (12, .goto 4, 3, 8, 9, 0, []), (15, .iconst 0, 1, 9, 0, 0, []), (16, .iconst 0, 1, 10, 0, 0, []), (17, .iconst 0, 1, 11, 0, 0, []), (18, .iconst 0, 1, 12, 0, 0, []), (19, .invokevirtual 82, 3, 13, 97, 5, [6, 16]), (22, .ifCond .eq 4, 3, 14, 15, 0, []), (25, .return_, 1, 15, 0, 0, []), (26, .aload_n 0, 1, 16, 0, 0, []), (27, .iload_n 1, 1, 17, 1, 0, []), (28, .putfield 7, 3, 18, 6, 4, [0]), (31, .return_, 1, 19, 0, 0, [])]
def xM_104 : xa_M := (⟨"ServiceRowsModel", "small", "(I)V"⟩, prog_8_method_10_code, 2, none, [], xR_104)
def xR_105 : List xa_R := [(0, .aload_n 0, 1, 1, 0, 0, []), (1, .iload_n 1, 1, 2, 1, 0, []), (2, .aload_n 0, 1, 3, 0, 0, []), (3, .getfield 86, 3, 4, 6, 1, []), (6, .if_icmp .lt 9, 3, 5, 8, 0, []), (9, .iload_n 1, 1, 6, 1, 0, []), (10, .ldc 90, 2, 7, 99999, 0, []), (12, .if_icmp .le 7, 3, 8, 10, 0, []), (15, .iconst 1, 1, 9, 1, 0, []), (16, .goto 4, 3, 10, 11, 0, []), (19, .iconst 0, 1, 11, 0, 0, []), (20, .iconst 0, 1, 12, 0, 0, []), (21, .iconst 0, 1, 13, 0, 0, []), (22, .iconst 0, 1, 14, 0, 0, []), (23, .invokevirtual 82, 3, 15, 97, 5, [6, 16]), (26, .ifCond .eq 4, 3, 16, 17, 0, []), (29, .return_, 1, 17, 0, 0, []), (30, .aload_n 0, 1, 18, 0, 0, []), (31, .iload_n 1, 1, 19, 1, 0, []), (32, .putfield 86, 3, 20, 6, 1, [0]), (35, .return_, 1, 21, 0, 0, [])]
def xM_105 : xa_M := (⟨"ServiceRowsModel", "day", "(I)V"⟩, prog_8_method_11_code, 2, none, [], xR_105)
def xR_106 : List xa_R := [(0, .aload_n 0, 1, 1, 0, 0, []), (1, .iload_n 1, 1, 2, 1, 0, []), (2, .invokevirtual 91, 3, 3, 99, 2, [6, 13]), (5, .ifCond .ne 7, 3, 4, 6, 0, []), (8, .iconst 1, 1, 5, 1, 0, []), (9, .goto 4, 3, 6, 7, 0, []), (12, .iconst 0, 1, 7, 0, 0, []), (13, .istore 4, 2, 8, 4, 0, []), (15, .iload_n 2, 1, 9, 2, 0, []), (16, .iconst 0, 1, 10, 0, 0, []), (17, .ldc 95, 2, 11, 1000000, 0, []), (19, .invokestatic 72, 3, 12, 98, 3, [999, 14]), (22, .ifCond .eq 13, 3, 13, 18, 0, []), (25, .iload_n 3, 1, 14, 3, 0, []), (26, .iconst 0, 1, 15, 0, 0, []), (27, .ldc 95, 2, 16, 1000000, 0, []), (29, .invokestatic 72, 3, 17, 98, 3, [999, 14]), (32, .ifCond .ne 7, 3, 18, 20, 0, []), (35, .iconst 1, 1, 19, 1, 0, []), (36, .goto 4, 3, 20, 21, 0, []), (39, .iconst 0, 1, 21, 0, 0, []), (40, .istore 5, 2, 22, 5, 0, []), (42, .iload 4, 2, 23, 4, 0, []), (44, .ifCond .ne 32, 3, 24, 40, 0, []), (47, .iload 5, 2, 25, 5, 0, []), (49, .ifCond .ne 27, 3, 26, 40, 0, []), (52, .iload_n 2, 1, 27, 2, 0, []), (53, .aload_n 0, 1, 28, 0, 0, []), (54, .getfield 21, 3, 29, 6, 8, []), (57, .iload_n 1, 1, 30, 1, 0, []), (58, .iaload, 1, 31, 0, 0, []), (59, .if_icmp .lt 13, 3, 32, 38, 0, []), (62, .iload_n 3, 1, 33, 3, 0, []), (63, .aload_n 0, 1, 34, 0, 0, []), (64, .getfield 24, 3, 35, 6, 9, []), (67, .iload_n 1, 1, 36, 1, 0, []), (68, .iaload, 1, 37, 0, 0, []), (69, .if_icmp .ge 7, 3, 38, 40, 0, []), (72, .iconst 1, 1, 39, 1, 0, []), (73, .goto 4, 3, 40, 41, 0, []), (76, .iconst 0, 1, 41, 0, 0, []), (77, .istore 6, 2, 42, 6, 0, []), (79, .aload_n 0, 1, 43, 0, 0, []), (80, .dup, 1, 44, 0, 0, []), (81, .getfield 96, 3, 45, 6, 3, []), (84, .iload 6, 2, 46, 6, 0, []), (86, .ifCond .eq 7, 3, 47, 49, 0, []), (89, .iconst 1, 1, 48, 1, 0, []), (90, .goto 4, 3, 49, 50, 0, []), (93, .iconst 0, 1, 50, 0, 0, []), (94, .iadd, 1, 51, 0, 0, []), (95, .putfield 96, 3, 52, 6, 3, [0]), (98, .aload_n 0, 1, 53, 0, 0, []), (99, .iload 4, 2, 54, 4, 0, []), (101, .iload 5, 2, 55, 5, 0, []), (103, .iload 6, 2, 56, 6, 0, []), (105, .iconst 0, 1, 57, 0, 0, []), (106, .invokevirtual 82, 3, 58, 97, 5, [6, 16]), (109, .ifCond .eq 4, 3, 59, 60, 0, []), (112, .return_, 1, 60, 0, 0, []), (113, .aload_n 0, 1, 61, 0, 0, []), (114, .getfield 21, 3, 62, 6, 8, []), (117, .iload_n 1, 1, 63, 1, 0, []), (118, .iload_n 2, 1, 64, 2, 0, []), (119, .iastore, 1, 65, 0, 0, []), (120, .aload_n 0, 1, 66, 0, 0, []), (121, .getfield 24, 3, 67, 6, 9, []), (124, .iload_n 1, 1, 68, 1, 0, []), (125, .iload_n 3, 1, 69, 3, 0, []), (126, .iastore, 1, 70, 0, 0, []), (127, .return_, 1, 71, 0, 0, [])]
def xM_106 : xa_M := (⟨"ServiceRowsModel", "read", "(III)V"⟩, prog_8_method_12_code, 7, none, [], xR_106)
def xR_107 : List xa_R := [(0, .iload_n 2, 1, 1, 2, 0, []), (1, .ifCond .ne 12, 3, 2, 7, 0, []), (4, .aload_n 0, 1, 3, 0, 0, []), (5, .getfield 21, 3, 4, 6, 8, []), (8, .iload_n 1, 1, 5, 1, 0, []), (9, .iaload, 1, 6, 0, 0, []), (10, .goto 21, 3, 7, 17, 0, []), (13, .iload_n 2, 1, 8, 2, 0, []), (14, .iconst 1, 1, 9, 1, 0, []), (15, .if_icmp .ne 12, 3, 10, 15, 0, []), (18, .aload_n 0, 1, 11, 0, 0, []), (19, .getfield 24, 3, 12, 6, 9, []), (22, .iload_n 1, 1, 13, 1, 0, []), (23, .iaload, 1, 14, 0, 0, []), (24, .goto 7, 3, 15, 17, 0, []), (27, .aload_n 0, 1, 16, 0, 0, []), (28, .getfield 86, 3, 17, 6, 1, []), (31, .ireturn, 1, 18, 0, 0, [])]
def xM_107 : xa_M := (⟨"ServiceRowsModel", "now", "(II)I"⟩, prog_8_method_13_code, 3, some .int, [], xR_107)
def xR_108 : List xa_R := [(0, .aload_n 0, 1, 1, 0, 0, []), (1, .getfield 30, 3, 2, 6, 12, []), (4, .iconst 3, 1, 3, 3, 0, []), (5, .iload_n 2, 1, 4, 2, 0, []), (6, .imul, 1, 5, 0, 0, []), (7, .iload_n 3, 1, 6, 3, 0, []), (8, .iadd, 1, 7, 0, 0, []), (9, .iaload, 1, 8, 0, 0, []), (10, .aload_n 0, 1, 9, 0, 0, []), (11, .iload_n 1, 1, 10, 1, 0, []), (12, .iload_n 3, 1, 11, 3, 0, []), (13, .invokevirtual 99, 3, 12, 107, 3, [6, 15]), (16, .aload_n 0, 1, 13, 0, 0, []), (17, .getfield 33, 3, 14, 6, 13, []), (20, .bipush 30, 2, 15, 30, 0, []), (22, .iload_n 1, 1, 16, 1, 0, []), (23, .imul, 1, 17, 0, 0, []), (24, .iconst 3, 1, 18, 3, 0, []), (25, .iload_n 2, 1, 19, 2, 0, []), (26, .imul, 1, 20, 0, 0, []), (27, .iadd, 1, 21, 0, 0, []), (28, .iload_n 3, 1, 22, 3, 0, []), (29, .iadd, 1, 23, 0, 0, []), (30, .iaload, 1, 24, 0, 0, []), (31, .isub, 1, 25, 0, 0, []), (32, .isub, 1, 26, 0, 0, []), (33, .ireturn, 1, 27, 0, 0, [])]
def xM_108 : xa_M := (⟨"ServiceRowsModel", "leftOf", "(III)I"⟩, prog_8_method_14_code, 4, some .int, [], xR_108)
def xR_109 : List xa_R := [(0, .aload_n 0, 1, 1, 0, 0, []), (1, .iload_n 1, 1, 2, 1, 0, []), (2, .invokevirtual 91, 3, 3, 99, 2, [6, 13]), (5, .ifCond .eq 20, 3, 4, 13, 0, []), (8, .aload_n 0, 1, 5, 0, 0, []), (9, .iload_n 2, 1, 6, 2, 0, []), (10, .invokevirtual 103, 3, 7, 100, 2, [6, 13]), (13, .ifCond .eq 12, 3, 8, 13, 0, []), (16, .iload_n 3, 1, 9, 3, 0, []), (17, .iconst 0, 1, 10, 0, 0, []), (18, .iconst 2, 1, 11, 2, 0, []), (19, .invokestatic 72, 3, 12, 98, 3, [999, 14]), (22, .ifCond .ne 7, 3, 13, 15, 0, []), (25, .iconst 1, 1, 14, 1, 0, []), (26, .goto 4, 3, 15, 16, 0, []), (29, .iconst 0, 1, 16, 0, 0, []), (30, .istore 4, 2, 17, 4, 0, []), (32, .aload_n 0, 1, 18, 0, 0, []), (33, .iload 4, 2, 19, 4, 0, []), (35, .iload 4, 2, 20, 4, 0, []), (37, .ifCond .ne 29, 3, 21, 36, 0, []), (40, .aload_n 0, 1, 22, 0, 0, []), (41, .getfield 30, 3, 23, 6, 12, []), (44, .iload 4, 2, 24, 4, 0, []), (46, .ifCond .eq 7, 3, 25, 27, 0, []), (49, .iconst 0, 1, 26, 0, 0, []), (50, .goto 8, 3, 27, 32, 0, []), (53, .iconst 3, 1, 28, 3, 0, []), (54, .iload_n 2, 1, 29, 2, 0, []), (55, .imul, 1, 30, 0, 0, []), (56, .iload_n 3, 1, 31, 3, 0, []), (57, .iadd, 1, 32, 0, 0, []), (58, .iaload, 1, 33, 0, 0, []), (59, .ifCond .ne 7, 3, 34, 36, 0, []), (62, .iconst 1, 1, 35, 1, 0, []), (63, .goto 4, 3, 36, 37, 0, []), (66, .iconst 0, 1, 37, 0, 0, []), (67, .iconst 0, 1, 38, 0, 0, []), (68, .iconst 0, 1, 39, 0, 0, []), (69, .invokevirtual 82, 3, 40, 97, 5, [6, 16]), (72, .ifCond .eq 5, 3, 41, 43, 0, []), (75, .iconst 0, 1, 42, 0, 0, []), (76, .ireturn, 1, 43, 0, 0, []), (77, .aload_n 0, 1, 44, 0, 0, []), (78, .iload_n 1, 1, 45, 1, 0, []), (79, .iload_n 2, 1, 46, 2, 0, []), (80, .iload_n 3, 1, 47, 3, 0, []), (81, .invokevirtual 106, 3, 48, 108, 4, [6, 15]), (84, .ireturn, 1, 49, 0, 0, [])]
def xM_109 : xa_M := (⟨"ServiceRowsModel", "left", "(III)I"⟩, prog_8_method_15_code, 5, some .int, [], xR_109)
def xR_110 : List xa_R := [(0, .iconst 0, 1, 1, 0, 0, []), (1, .istore_n 3, 1, 2, 3, 0, []), (2, .iconst 0, 1, 3, 0, 0, []), (3, .istore 4, 2, 4, 4, 0, []), (5, .iload 4, 2, 5, 4, 0, []), (7, .iconst 3, 1, 6, 3, 0, []), (8, .if_icmp .ge 44, 3, 7, 30, 0, []), (11, .iload_n 3, 1, 8, 3, 0, []), (12, .ifCond .ne 28, 3, 9, 24, 0, []), (15, .aload_n 0, 1, 10, 0, 0, []), (16, .getfield 30, 3, 11, 6, 12, []), (19, .iconst 3, 1, 12, 3, 0, []), (20, .iload_n 2, 1, 13, 2, 0, []), (21, .imul, 1, 14, 0, 0, []), (22, .iload 4, 2, 15, 4, 0, []), (24, .iadd, 1, 16, 0, 0, []), (25, .iaload, 1, 17, 0, 0, []), (26, .ifCond .le 18, 3, 18, 26, 0, []), (29, .aload_n 0, 1, 19, 0, 0, []), (30, .iload_n 1, 1, 20, 1, 0, []), (31, .iload_n 2, 1, 21, 2, 0, []), (32, .iload 4, 2, 22, 4, 0, []), (34, .invokevirtual 106, 3, 23, 108, 4, [6, 15]), (37, .ifCond .gt 7, 3, 24, 26, 0, []), (40, .iconst 1, 1, 25, 1, 0, []), (41, .goto 4, 3, 26, 27, 0, []), (44, .iconst 0, 1, 27, 0, 0, []), (45, .istore_n 3, 1, 28, 3, 0, []), (46, .iinc 4 1, 3, 29, 4, 1, []), (49, .goto (-44), 3, 30, 4, 0, []), (52, .iload_n 3, 1, 31, 3, 0, []), (53, .ireturn, 1, 32, 0, 0, [])]
def xM_110 : xa_M := (⟨"ServiceRowsModel", "isDue", "(II)Z"⟩, prog_8_method_16_code, 5, some .boolean, [], xR_110)
def xR_111 : List xa_R := [(0, .iconst (-1), 1, 1, 1, 1, []), (1, .istore_n 3, 1, 2, 3, 0, []), (2, .iconst 0, 1, 3, 0, 0, []), (3, .istore 4, 2, 4, 4, 0, []), (5, .iload 4, 2, 5, 4, 0, []), (7, .iconst 3, 1, 6, 3, 0, []), (8, .if_icmp .ge 89, 3, 7, 61, 0, []), (11, .aload_n 0, 1, 8, 0, 0, []), (12, .getfield 30, 3, 9, 6, 12, []), (15, .iconst 3, 1, 10, 3, 0, []), (16, .iload_n 2, 1, 11, 2, 0, []), (17, .imul, 1, 12, 0, 0, []), (18, .iload 4, 2, 13, 4, 0, []), (20, .iadd, 1, 14, 0, 0, []), (21, .iaload, 1, 15, 0, 0, []), (22, .i2l, 1, 16, 0, 0, []), (23, .lstore 5, 2, 17, 5, 0, []), (25, .lload 5, 2, 18, 5, 0, []), (27, .lconst 0, 1, 19, 0, 0, []), (28, .lcmp, 1, 20, 0, 0, []), (29, .ifCond .le 47, 3, 21, 51, 0, []), (32, .iload_n 3, 1, 22, 3, 0, []), (33, .ifCond .lt 39, 3, 23, 49, 0, []), (36, .aload_n 0, 1, 24, 0, 0, []), (37, .iload_n 1, 1, 25, 1, 0, []), (38, .iload_n 2, 1, 26, 2, 0, []), (39, .iload 4, 2, 27, 4, 0, []), (41, .invokevirtual 106, 3, 28, 108, 4, [6, 15]), (44, .i2l, 1, 29, 0, 0, []), (45, .aload_n 0, 1, 30, 0, 0, []), (46, .getfield 30, 3, 31, 6, 12, []), (49, .iconst 3, 1, 32, 3, 0, []), (50, .iload_n 2, 1, 33, 2, 0, []), (51, .imul, 1, 34, 0, 0, []), (52, .iload_n 3, 1, 35, 3, 0, []), (53, .iadd, 1, 36, 0, 0, []), (54, .iaload, 1, 37, 0, 0, []), (55, .i2l, 1, 38, 0, 0, []), (56, .lmul, 1, 39, 0, 0, []), (57, .aload_n 0, 1, 40, 0, 0, []), (58, .iload_n 1, 1, 41, 1, 0, []), (59, .iload_n 2, 1, 42, 2, 0, []), (60, .iload_n 3, 1, 43, 3, 0, []), (61, .invokevirtual 106, 3, 44, 108, 4, [6, 17]), (64, .i2l, 1, 45, 0, 0, []), (65, .lload 5, 2, 46, 5, 0, []), (67, .lmul, 1, 47, 0, 0, []), (68, .lcmp, 1, 48, 0, 0, []), (69, .ifCond .ge 7, 3, 49, 51, 0, []), (72, .iconst 1, 1, 50, 1, 0, []), (73, .goto 4, 3, 51, 52, 0, []), (76, .iconst 0, 1, 52, 0, 0, []), (77, .istore 7, 2, 53, 7, 0, []), (79, .iload 7, 2, 54, 7, 0, []), (81, .ifCond .eq 8, 3, 55, 57, 0, []), (84, .iload 4, 2, 56, 4, 0, []), (86, .goto 4, 3, 57, 58, 0, []), (89, .iload_n 3, 1, 58, 3, 0, []), (90, .istore_n 3, 1, 59, 3, 0, []), (91, .iinc 4 1, 3, 60, 4, 1, []), (94, .goto (-89), 3, 61, 4, 0, []), (97, .iload_n 3, 1, 62, 3, 0, []), (98, .ireturn, 1, 63, 0, 0, [])]
def xM_111 : xa_M := (⟨"ServiceRowsModel", "leastOf", "(II)I"⟩, prog_8_method_17_code, 8, some .int, [], xR_111)
def xR_112 : List xa_R := [(0, .aload_n 0, 1, 1, 0, 0, []), (1, .iload_n 1, 1, 2, 1, 0, []), (2, .iload_n 2, 1, 3, 2, 0, []), (3, .invokevirtual 110, 3, 4, 111, 3, [6, 19]), (6, .istore 5, 2, 5, 5, 0, []), (8, .aload_n 0, 1, 6, 0, 0, []), (9, .iload_n 3, 1, 7, 3, 0, []), (10, .iload 4, 2, 8, 4, 0, []), (12, .invokevirtual 110, 3, 9, 111, 3, [6, 19]), (15, .istore 6, 2, 10, 6, 0, []), (17, .aload_n 0, 1, 11, 0, 0, []), (18, .iload_n 1, 1, 12, 1, 0, []), (19, .iload_n 2, 1, 13, 2, 0, []), (20, .iload 5, 2, 14, 5, 0, []), (22, .invokevirtual 106, 3, 15, 108, 4, [6, 15]), (25, .i2l, 1, 16, 0, 0, []), (26, .aload_n 0, 1, 17, 0, 0, []), (27, .getfield 30, 3, 18, 6, 12, []), (30, .iconst 3, 1, 19, 3, 0, []), (31, .iload 4, 2, 20, 4, 0, []), (33, .imul, 1, 21, 0, 0, []), (34, .iload 6, 2, 22, 6, 0, []), (36, .iadd, 1, 23, 0, 0, []), (37, .iaload, 1, 24, 0, 0, []), (38, .i2l, 1, 25, 0, 0, []), (39, .lmul, 1, 26, 0, 0, []), (40, .lstore 7, 2, 27, 7, 0, []), (42, .aload_n 0, 1, 28, 0, 0, []), (43, .iload_n 3, 1, 29, 3, 0, []), (44, .iload 4, 2, 30, 4, 0, []), (46, .iload 6, 2, 31, 6, 0, []), (48, .invokevirtual 106, 3, 32, 108, 4, [6, 15]), (51, .i2l, 1, 33, 0, 0, []), (52, .aload_n 0, 1, 34, 0, 0, []), (53, .getfield 30, 3, 35, 6, 12, []), (56, .iconst 3, 1, 36, 3, 0, []), (57, .iload_n 2, 1, 37, 2, 0, []), (58, .imul, 1, 38, 0, 0, []), (59, .iload 5, 2, 39, 5, 0, []), (61, .iadd, 1, 40, 0, 0, []), (62, .iaload, 1, 41, 0, 0, []), (63, .i2l, 1, 42, 0, 0, []), (64, .lmul, 1, 43, 0, 0, []), (65, .lstore 9, 2, 44, 9, 0, []), (67, .lload 7, 2, 45, 7, 0, []), (69, .lload 9, 2, 46, 9, 0, []), (71, .lcmp, 1, 47, 0, 0, []), (72, .ifCond .lt 27, 3, 48, 61, 0, []), (75, .lload 7, 2, 49, 7, 0, []), (77, .lload 9, 2, 50, 9, 0, []), (79, .lcmp, 1, 51, 0, 0, []), (80, .ifCond .ne 23, 3, 52, 63, 0, []), (83, .iload_n 1, 1, 53, 1, 0, []), (84, .iload_n 3, 1, 54, 3, 0, []), (85, .if_icmp .lt 14, 3, 55, 61, 0, []), (88, .iload_n 1, 1, 56, 1, 0, []), (89, .iload_n 3, 1, 57, 3, 0, []), (90, .if_icmp .ne 13, 3, 58, 63, 0, []), (93, .iload_n 2, 1, 59, 2, 0, []), (94, .iload 4, 2, 60, 4, 0, []), (96, .if_icmp .ge 7, 3, 61, 63, 0, []), (99, .iconst 1, 1, 62, 1, 0, []), (100, .goto 4, 3, 63, 64, 0, []), (103, .iconst 0, 1, 64, 0, 0, []), (104, .ireturn, 1, 65, 0, 0, [])]
def xM_112 : xa_M := (⟨"ServiceRowsModel", "isAhead", "(IIII)Z"⟩, prog_8_method_18_code, 11, some .boolean, [], xR_112)
def xR_113 : List xa_R := [(0, .aload_n 0, 1, 1, 0, 0, []), (1, .iload_n 1, 1, 2, 1, 0, []), (2, .ifCond .ge 7, 3, 3, 5, 0, []), (5, .iconst 1, 1, 4, 1, 0, []), (6, .goto 4, 3, 5, 6, 0, []), (9, .iconst 0, 1, 6, 0, 0, []), (10, .iconst 0, 1, 7, 0, 0, []), (11, .iconst 0, 1, 8, 0, 0, []), (12, .iconst 0, 1, 9, 0, 0, []), (13, .invokevirtual 82, 3, 10, 97, 5, [6, 16]), (16, .ifCond .eq 5, 3, 11, 13, 0, []), (19, .iconst 0, 1, 12, 0, 0, []), (20, .ireturn, 1, 13, 0, 0, []), (21, .iconst 0, 1, 14, 0, 0, []), (22, .istore_n 2, 1, 15, 2, 0, []), (23, .iload_n 2, 1, 16, 2, 0, []), (24, .aload_n 0, 1, 17, 0, 0, []), (25, .getfield 69, 3, 18, 6, 5, []), (28, .if_icmp .ge 158, 3, 19, 101, 0, []), (31, .iconst 0, 1, 20, 0, 0, []), (32, .istore_n 3, 1, 21, 3, 0, []), (33, .iload_n 3, 1, 22, 3, 0, []), (34, .aload_n 0, 1, 23, 0, 0, []), (35, .getfield 76, 3, 24, 6, 11, []), (38, .if_icmp .ge 142, 3, 25, 99, 0, []), (41, .iconst 0, 1, 26, 0, 0, []), (42, .istore 4, 2, 27, 4, 0, []), (44, .iconst 0, 1, 28, 0, 0, []), (45, .istore 5, 2, 29, 5, 0, []), (47, .iload 5, 2, 30, 5, 0, []), (49, .sipush 300, 3, 31, 300, 0, []), (52, .if_icmp .ge 100, 3, 32, 83, 0, []), (55, .iload 5, 2, 33, 5, 0, []), (57, .bipush 10, 2, 34, 10, 0, []), (59, .idiv, 1, 35, 0, 0, []), (60, .aload_n 0, 1, 36, 0, 0, []), (61, .getfield 69, 3, 37, 6, 5, []), (64, .if_icmp .ge 36, 3, 38, 55, 0, []), (67, .iload 5, 2, 39, 5, 0, []), (69, .bipush 10, 2, 40, 10, 0, []), (71, .irem, 1, 41, 0, 0, []), (72, .aload_n 0, 1, 42, 0, 0, []), (73, .getfield 76, 3, 43, 6, 11, []), (76, .if_icmp .ge 24, 3, 44, 55, 0, []), (79, .aload_n 0, 1, 45, 0, 0, []), (80, .iload 5, 2, 46, 5, 0, []), (82, .bipush 10, 2, 47, 10, 0, []), (84, .idiv, 1, 48, 0, 0, []), (85, .iload 5, 2, 49, 5, 0, []), (87, .bipush 10, 2, 50, 10, 0, []), (89, .irem, 1, 51, 0, 0, []), (90, .invokevirtual 113, 3, 52, 110, 3, [6, 16]), (93, .ifCond .eq 7, 3, 53, 55, 0, []), (96, .iconst 1, 1, 54, 1, 0, []), (97, .goto 4, 3, 55, 56, 0, []), (100, .iconst 0, 1, 56, 0, 0, []), (101, .istore 6, 2, 57, 6, 0, []), (103, .iload 4, 2, 58, 4, 0, []), (105, .iload 6, 2, 59, 6, 0, []), (107, .ifCond .eq 35, 3, 60, 78, 0, []), (110, .aload_n 0, 1, 61, 0, 0, []), (111, .iload_n 2, 1, 62, 2, 0, []), (112, .iload_n 3, 1, 63, 3, 0, []), (113, .invokevirtual 113, 3, 64, 110, 3, [6, 17]), (116, .ifCond .eq 26, 3, 65, 78, 0, []), (119, .aload_n 0, 1, 66, 0, 0, []), (120, .iload 5, 2, 67, 5, 0, []), (122, .bipush 10, 2, 68, 10, 0, []), (124, .idiv, 1, 69, 0, 0, []), (125, .iload 5, 2, 70, 5, 0, []), (127, .bipush 10, 2, 71, 10, 0, []), (129, .irem, 1, 72, 0, 0, []), (130, .iload_n 2, 1, 73, 2, 0, []), (131, .iload_n 3, 1, 74, 3, 0, []), (132, .invokevirtual 117, 3, 75, 112, 5, [6, 23]), (135, .ifCond .eq 7, 3, 76, 78, 0, []), (138, .iconst 1, 1, 77, 1, 0, []), (139, .goto 4, 3, 78, 79, 0, []), (142, .iconst 0, 1, 79, 0, 0, []), (143, .iadd, 1, 80, 0, 0, []), (144, .istore 4, 2, 81, 4, 0, []), (146, .iinc 5 1, 3, 82, 5, 1, []), (149, .goto (-102), 3, 83, 29, 0, []), (152, .aload_n 0, 1, 84, 0, 0, []), (153, .iload_n 2, 1, 85, 2, 0, []), (154, .iload_n 3, 1, 86, 3, 0, []), (155, .invokevirtual 113, 3, 87, 110, 3, [6, 16]), (158, .ifCond .eq 16, 3, 88, 97, 0, []), (161, .iload 4, 2, 89, 4, 0, []), (163, .iload_n 1, 1, 90, 1, 0, []), (164, .if_icmp .ne 10, 3, 91, 97, 0, []), (167, .bipush 100, 2, 92, 100, 0, []), (169, .iload_n 2, 1, 93, 2, 0, []), (170, .imul, 1, 94, 0, 0, []), (171, .iload_n 3, 1, 95, 3, 0, []), (172, .iadd, 1, 96, 0, 0, []), (173, .ireturn, 1, 97, 0, 0, []), (174, .iinc 3 1, 3, 98, 3, 1, []), (177, .goto (-144), 3, 99, 21, 0, []), (180, .iinc 2 1, 3, 100, 2, 1, []), (183, .goto (-160), 3, 101, 15, 0, []), (186, .iconst (-1), 1, 102, 1, 1, []), (187, .ireturn, 1, 103, 0, 0, [])]
def xM_113 : xa_M := (⟨"ServiceRowsModel", "due", "(I)I"⟩, prog_8_method_19_code, 7, some .int, [], xR_113)
def xR_114 : List xa_R := [(0, .aload_n 0, 1, 1, 0, 0, []), (1, .aload_n 0, 1, 2, 0, 0, []), (2, .iload_n 1, 1, 3, 1, 0, []), (3, .invokevirtual 91, 3, 4, 99, 2, [6, 14]), (6, .ifCond .ne 7, 3, 5, 7, 0, []), (9, .iconst 1, 1, 6, 1, 0, []), (10, .goto 4, 3, 7, 8, 0, []), (13, .iconst 0, 1, 8, 0, 0, []), (14, .aload_n 0, 1, 9, 0, 0, []), (15, .getfield 121, 3, 10, 6, 16, []), (18, .bipush 100, 2, 11, 100, 0, []), (20, .if_icmp .ne 7, 3, 12, 14, 0, []), (23, .iconst 1, 1, 13, 1, 0, []), (24, .goto 4, 3, 14, 15, 0, []), (27, .iconst 0, 1, 15, 0, 0, []), (28, .iconst 0, 1, 16, 0, 0, []), (29, .iconst 0, 1, 17, 0, 0, []), (30, .invokevirtual 82, 3, 18, 97, 5, [6, 16]), (33, .ifCond .eq 5, 3, 19, 21, 0, []), (36, .iconst 0, 1, 20, 0, 0, []), (37, .ireturn, 1, 21, 0, 0, []), (38, .aload_n 0, 1, 22, 0, 0, []), (39, .getfield 42, 3, 23, 6, 17, []), (42, .aload_n 0, 1, 24, 0, 0, []), (43, .getfield 121, 3, 25, 6, 16, []), (46, .iload_n 1, 1, 26, 1, 0, []), (47, .iastore, 1, 27, 0, 0, []), (48, .aload_n 0, 1, 28, 0, 0, []), (49, .getfield 45, 3, 29, 6, 18, []), (52, .aload_n 0, 1, 30, 0, 0, []), (53, .getfield 121, 3, 31, 6, 16, []), (56, .iload_n 2, 1, 32, 2, 0, []), (57, .bastore, 1, 33, 0, 0, []), (58, .aload_n 0, 1, 34, 0, 0, []), (59, .getfield 48, 3, 35, 6, 19, []), (62, .aload_n 0, 1, 36, 0, 0, []), (63, .getfield 121, 3, 37, 6, 16, []), (66, .iconst 0, 1, 38, 0, 0, []), (67, .iastore, 1, 39, 0, 0, []), (68, .aload_n 0, 1, 40, 0, 0, []), (69, .dup, 1, 41, 0, 0, []), (70, .getfield 121, 3, 42, 6, 16, []), (73, .iconst 1, 1, 43, 1, 0, []), (74, .iadd, 1, 44, 0, 0, []), (75, .putfield 121, 3, 45, 6, 16, [0]), (78, .aload_n 0, 1, 46, 0, 0, []), (79, .getfield 121, 3, 47, 6, 16, []), (82, .iconst 1, 1, 48, 1, 0, []), (83, .isub, 1, 49, 0, 0, []), (84, .ireturn, 1, 50, 0, 0, [])]
def xM_114 : xa_M := (⟨"ServiceRowsModel", "defect", "(IZ)I"⟩, prog_8_method_20_code, 3, some .int, [], xR_114)
def xR_115 : List xa_R := [(0, .aload_n 0, 1, 1, 0, 0, []), (1, .aload_n 0, 1, 2, 0, 0, []), (2, .iload_n 1, 1, 3, 1, 0, []), (3, .invokevirtual 91, 3, 4, 99, 2, [6, 14]), (6, .ifCond .ne 7, 3, 5, 7, 0, []), (9, .iconst 1, 1, 6, 1, 0, []), (10, .goto 4, 3, 7, 8, 0, []), (13, .iconst 0, 1, 8, 0, 0, []), (14, .iload_n 3, 1, 9, 3, 0, []), (15, .iload 4, 2, 10, 4, 0, []), (17, .if_icmp .le 7, 3, 11, 13, 0, []), (20, .iconst 1, 1, 12, 1, 0, []), (21, .goto 4, 3, 13, 14, 0, []), (24, .iconst 0, 1, 14, 0, 0, []), (25, .iconst 0, 1, 15, 0, 0, []), (26, .iconst 0, 1, 16, 0, 0, []), (27, .invokevirtual 82, 3, 17, 97, 5, [6, 16]), (30, .ifCond .eq 5, 3, 18, 20, 0, []), (33, .iconst 0, 1, 19, 0, 0, []), (34, .ireturn, 1, 20, 0, 0, []), (35, .iload_n 2, 1, 21, 2, 0, []), (36, .iload_n 3, 1, 22, 3, 0, []), (37, .iload 4, 2, 23, 4, 0, []), (39, .invokestatic 72, 3, 24, 98, 3, [999, 14]), (42, .istore 5, 2, 25, 5, 0, []), (44, .iconst 0, 1, 26, 0, 0, []), (45, .istore 6, 2, 27, 6, 0, []), (47, .iload 6, 2, 28, 6, 0, []), (49, .aload_n 0, 1, 29, 0, 0, []), (50, .getfield 121, 3, 30, 6, 16, []), (53, .if_icmp .ge 44, 3, 31, 52, 0, []), (56, .iload 5, 2, 32, 5, 0, []), (58, .ifCond .eq 39, 3, 33, 52, 0, []), (61, .aload_n 0, 1, 34, 0, 0, []), (62, .getfield 42, 3, 35, 6, 17, []), (65, .iload 6, 2, 36, 6, 0, []), (67, .iaload, 1, 37, 0, 0, []), (68, .iload_n 1, 1, 38, 1, 0, []), (69, .if_icmp .ne 22, 3, 39, 50, 0, []), (72, .aload_n 0, 1, 40, 0, 0, []), (73, .getfield 48, 3, 41, 6, 19, []), (76, .iload 6, 2, 42, 6, 0, []), (78, .iaload, 1, 43, 0, 0, []), (79, .iconst 1, 1, 44, 1, 0, []), (80, .if_icmp .ne 11, 3, 45, 50, 0, []), (83, .aload_n 0, 1, 46, 0, 0, []), (84, .getfield 48, 3, 47, 6, 19, []), (87, .iload 6, 2, 48, 6, 0, []), (89, .iconst 2, 1, 49, 2, 0, []), (90, .iastore, 1, 50, 0, 0, []), (91, .iinc 6 1, 3, 51, 6, 1, []), (94, .goto (-47), 3, 52, 27, 0, []), (97, .iload 5, 2, 53, 5, 0, []), (99, .ireturn, 1, 54, 0, 0, [])]
def xM_115 : xa_M := (⟨"ServiceRowsModel", "test", "(IIII)Z"⟩, prog_8_method_21_code, 7, some .boolean, [], xR_115)
def xR_116 : List xa_R := [(0, .aload_n 0, 1, 1, 0, 0, []), (1, .aload_n 0, 1, 2, 0, 0, []), (2, .iload_n 1, 1, 3, 1, 0, []), (3, .invokevirtual 91, 3, 4, 99, 2, [6, 14]), (6, .ifCond .eq 12, 3, 5, 10, 0, []), (9, .iload_n 2, 1, 6, 2, 0, []), (10, .iconst 0, 1, 7, 0, 0, []), (11, .iconst 4, 1, 8, 4, 0, []), (12, .invokestatic 72, 3, 9, 98, 3, [999, 15]), (15, .ifCond .ne 7, 3, 10, 12, 0, []), (18, .iconst 1, 1, 11, 1, 0, []), (19, .goto 4, 3, 12, 13, 0, []), (22, .iconst 0, 1, 13, 0, 0, []), (23, .iload_n 3, 1, 14, 3, 0, []), (24, .iconst (-1), 1, 15, 1, 1, []), (25, .ldc 90, 2, 16, 99999, 0, []), (27, .invokestatic 72, 3, 17, 98, 3, [999, 16]), (30, .ifCond .ne 7, 3, 18, 20, 0, []), (33, .iconst 1, 1, 19, 1, 0, []), (34, .goto 4, 3, 20, 21, 0, []), (37, .iconst 0, 1, 21, 0, 0, []), (38, .iconst 0, 1, 22, 0, 0, []), (39, .iconst 0, 1, 23, 0, 0, []), (40, .invokevirtual 82, 3, 24, 97, 5, [6, 16]), (43, .ifCond .eq 4, 3, 25, 26, 0, []), (46, .return_, 1, 26, 0, 0, []), (47, .aload_n 0, 1, 27, 0, 0, []), (48, .getfield 36, 3, 28, 6, 14, []), (51, .iconst 5, 1, 29, 5, 0, []), (52, .iload_n 1, 1, 30, 1, 0, []), (53, .imul, 1, 31, 0, 0, []), (54, .iload_n 2, 1, 32, 2, 0, []), (55, .iadd, 1, 33, 0, 0, []), (56, .iload_n 3, 1, 34, 3, 0, []), (57, .iastore, 1, 35, 0, 0, []), (58, .return_, 1, 36, 0, 0, [])]
def xM_116 : xa_M := (⟨"ServiceRowsModel", "certificate", "(III)V"⟩, prog_8_method_22_code, 4, none, [], xR_116)
def xR_117 : List xa_R := [(0, .iconst (-1), 1, 1, 1, 1, []), (1, .istore_n 2, 1, 2, 2, 0, []), (2, .iconst 0, 1, 3, 0, 0, []), (3, .istore_n 3, 1, 4, 3, 0, []), (4, .iload_n 3, 1, 5, 3, 0, []), (5, .aload_n 0, 1, 6, 0, 0, []), (6, .getfield 79, 3, 7, 6, 20, []), (9, .if_icmp .ge 30, 3, 8, 23, 0, []), (12, .aload_n 0, 1, 9, 0, 0, []), (13, .getfield 51, 3, 10, 6, 21, []), (16, .iload_n 3, 1, 11, 3, 0, []), (17, .iaload, 1, 12, 0, 0, []), (18, .iload_n 1, 1, 13, 1, 0, []), (19, .if_icmp .ne 14, 3, 14, 21, 0, []), (22, .aload_n 0, 1, 15, 0, 0, []), (23, .getfield 54, 3, 16, 6, 22, []), (26, .iload_n 3, 1, 17, 3, 0, []), (27, .baload, 1, 18, 0, 0, []), (28, .ifCond .ne 5, 3, 19, 21, 0, []), (31, .iload_n 3, 1, 20, 3, 0, []), (32, .istore_n 2, 1, 21, 2, 0, []), (33, .iinc 3 1, 3, 22, 3, 1, []), (36, .goto (-32), 3, 23, 4, 0, []), (39, .iload_n 2, 1, 24, 2, 0, []), (40, .ireturn, 1, 25, 0, 0, [])]
def xM_117 : xa_M := (⟨"ServiceRowsModel", "openOrder", "(I)I"⟩, prog_8_method_23_code, 4, some .int, [], xR_117)
def xR_118 : List xa_R := [(0, .aload_n 0, 1, 1, 0, 0, []), (1, .iload_n 1, 1, 2, 1, 0, []), (2, .invokevirtual 91, 3, 3, 99, 2, [6, 13]), (5, .ifCond .ne 7, 3, 4, 6, 0, []), (8, .iconst 1, 1, 5, 1, 0, []), (9, .goto 4, 3, 6, 7, 0, []), (12, .iconst 0, 1, 7, 0, 0, []), (13, .istore_n 2, 1, 8, 2, 0, []), (14, .iload_n 2, 1, 9, 2, 0, []), (15, .ifCond .eq 7, 3, 10, 12, 0, []), (18, .iconst (-1), 1, 11, 1, 1, []), (19, .goto 8, 3, 12, 15, 0, []), (22, .aload_n 0, 1, 13, 0, 0, []), (23, .iload_n 1, 1, 14, 1, 0, []), (24, .invokevirtual 124, 3, 15, 117, 2, [6, 15]), (27, .istore_n 3, 1, 16, 3, 0, []), (28, .aload_n 0, 1, 17, 0, 0, []), (29, .iload_n 2, 1, 18, 2, 0, []), (30, .iload_n 2, 1, 19, 2, 0, []), (31, .ifCond .ne 20, 3, 20, 28, 0, []), (34, .iload_n 3, 1, 21, 3, 0, []), (35, .ifCond .ge 16, 3, 22, 28, 0, []), (38, .aload_n 0, 1, 23, 0, 0, []), (39, .getfield 79, 3, 24, 6, 20, []), (42, .bipush 60, 2, 25, 60, 0, []), (44, .if_icmp .ne 7, 3, 26, 28, 0, []), (47, .iconst 1, 1, 27, 1, 0, []), (48, .goto 4, 3, 28, 29, 0, []), (51, .iconst 0, 1, 29, 0, 0, []), (52, .iconst 0, 1, 30, 0, 0, []), (53, .iconst 0, 1, 31, 0, 0, []), (54, .invokevirtual 82, 3, 32, 97, 5, [6, 16]), (57, .ifCond .eq 5, 3, 33, 35, 0, []), (60, .iconst 0, 1, 34, 0, 0, []), (61, .ireturn, 1, 35, 0, 0, []), (62, .iload_n 3, 1, 36, 3, 0, []), (63, .ifCond .lt 5, 3, 37, 39, 0, []), (66, .iload_n 3, 1, 38, 3, 0, []), (67, .ireturn, 1, 39, 0, 0, []), (68, .aload_n 0, 1, 40, 0, 0, []), (69, .getfield 51, 3, 41, 6, 21, []), (72, .aload_n 0, 1, 42, 0, 0, []), (73, .getfield 79, 3, 43, 6, 20, []), (76, .iload_n 1, 1, 44, 1, 0, []), (77, .iastore, 1, 45, 0, 0, []), (78, .aload_n 0, 1, 46, 0, 0, []), (79, .dup, 1, 47, 0, 0, []), (80, .getfield 79, 3, 48, 6, 20, []), (83, .iconst 1, 1, 49, 1, 0, []), (84, .iadd, 1, 50, 0, 0, []), (85, .putfield 79, 3, 51, 6, 20, [0]), (88, .aload_n 0, 1, 52, 0, 0, []), (89, .getfield 79, 3, 53, 6, 20, []), (92, .iconst 1, 1, 54, 1, 0, []), (93, .isub, 1, 55, 0, 0, []), (94, .ireturn, 1, 56, 0, 0, [])]
def xM_118 : xa_M := (⟨"ServiceRowsModel", "order", "(I)I"⟩, prog_8_method_24_code, 4, some .int, [], xR_118)
def xR_119 : List xa_R := [(0, .iconst 0, 1, 1, 0, 0, []), (1, .istore_n 2, 1, 2, 2, 0, []), (2, .iconst 0, 1, 3, 0, 0, []), (3, .istore_n 3, 1, 4, 3, 0, []), (4, .iload_n 3, 1, 5, 3, 0, []), (5, .bipush 10, 2, 6, 10, 0, []), (7, .if_icmp .ge 31, 3, 7, 24, 0, []), (10, .iload_n 2, 1, 8, 2, 0, []), (11, .aload_n 0, 1, 9, 0, 0, []), (12, .getfield 60, 3, 10, 6, 24, []), (15, .bipush 10, 2, 11, 10, 0, []), (17, .iload_n 1, 1, 12, 1, 0, []), (18, .imul, 1, 13, 0, 0, []), (19, .iload_n 3, 1, 14, 3, 0, []), (20, .iadd, 1, 15, 0, 0, []), (21, .baload, 1, 16, 0, 0, []), (22, .ifCond .eq 7, 3, 17, 19, 0, []), (25, .iconst 1, 1, 18, 1, 0, []), (26, .goto 4, 3, 19, 20, 0, []), (29, .iconst 0, 1, 20, 0, 0, []), (30, .iadd, 1, 21, 0, 0, []), (31, .istore_n 2, 1, 22, 2, 0, []), (32, .iinc 3 1, 3, 23, 3, 1, []), (35, .goto (-31), 3, 24, 4, 0, []), (38, .iconst 0, 1, 25, 0, 0, []), (39, .istore_n 3, 1, 26, 3, 0, []), (40, .iload_n 3, 1, 27, 3, 0, []), (41, .bipush 100, 2, 28, 100, 0, []), (43, .if_icmp .ge 31, 3, 29, 46, 0, []), (46, .iload_n 2, 1, 30, 2, 0, []), (47, .aload_n 0, 1, 31, 0, 0, []), (48, .getfield 63, 3, 32, 6, 25, []), (51, .bipush 100, 2, 33, 100, 0, []), (53, .iload_n 1, 1, 34, 1, 0, []), (54, .imul, 1, 35, 0, 0, []), (55, .iload_n 3, 1, 36, 3, 0, []), (56, .iadd, 1, 37, 0, 0, []), (57, .baload, 1, 38, 0, 0, []), (58, .ifCond .eq 7, 3, 39, 41, 0, []), (61, .iconst 1, 1, 40, 1, 0, []), (62, .goto 4, 3, 41, 42, 0, []), (65, .iconst 0, 1, 42, 0, 0, []), (66, .iadd, 1, 43, 0, 0, []), (67, .istore_n 2, 1, 44, 2, 0, []), (68, .iinc 3 1, 3, 45, 3, 1, []), (71, .goto (-31), 3, 46, 26, 0, []), (74, .iload_n 2, 1, 47, 2, 0, []), (75, .ireturn, 1, 48, 0, 0, [])]
def xM_119 : xa_M := (⟨"ServiceRowsModel", "worksOf", "(I)I"⟩, prog_8_method_25_code, 4, some .int, [], xR_119)
def xR_120 : List xa_R := [(0, .aload_n 0, 1, 1, 0, 0, []), (1, .iload_n 1, 1, 2, 1, 0, []), (2, .invokevirtual 128, 3, 3, 101, 2, [6, 13]), (5, .ifCond .eq 32, 3, 4, 19, 0, []), (8, .iload_n 2, 1, 5, 2, 0, []), (9, .ifCond .eq 14, 3, 6, 11, 0, []), (12, .aload_n 0, 1, 7, 0, 0, []), (13, .iload_n 3, 1, 8, 3, 0, []), (14, .invokevirtual 103, 3, 9, 100, 2, [6, 13]), (17, .ifCond .ne 24, 3, 10, 21, 0, []), (20, .goto 17, 3, 11, 19, 0, []), (23, .iload_n 3, 1, 12, 3, 0, []), (24, .iconst 0, 1, 13, 0, 0, []), (25, .aload_n 0, 1, 14, 0, 0, []), (26, .getfield 121, 3, 15, 6, 16, []), (29, .iconst 1, 1, 16, 1, 0, []), (30, .isub, 1, 17, 0, 0, []), (31, .invokestatic 72, 3, 18, 98, 3, [999, 14]), (34, .ifCond .ne 7, 3, 19, 21, 0, []), (37, .iconst 1, 1, 20, 1, 0, []), (38, .goto 4, 3, 21, 22, 0, []), (41, .iconst 0, 1, 22, 0, 0, []), (42, .istore 4, 2, 23, 4, 0, []), (44, .iload 4, 2, 24, 4, 0, []), (46, .ifCond .ne 12, 3, 25, 30, 0, []), (49, .aload_n 0, 1, 26, 0, 0, []), (50, .getfield 54, 3, 27, 6, 22, []), (53, .iload_n 1, 1, 28, 1, 0, []), (54, .baload, 1, 29, 0, 0, []), (55, .ifCond .eq 7, 3, 30, 32, 0, []), (58, .iconst 1, 1, 31, 1, 0, []), (59, .goto 4, 3, 32, 33, 0, []), (62, .iconst 0, 1, 33, 0, 0, []), (63, .istore 5, 2, 34, 5, 0, []), (65, .iload 5, 2, 35, 5, 0, []), (67, .ifCond .ne 62, 3, 36, 71, 0, []), (70, .iload_n 2, 1, 37, 2, 0, []), (71, .ifCond .eq 20, 3, 38, 48, 0, []), (74, .aload_n 0, 1, 39, 0, 0, []), (75, .getfield 60, 3, 40, 6, 24, []), (78, .bipush 10, 2, 41, 10, 0, []), (80, .iload_n 1, 1, 42, 1, 0, []), (81, .imul, 1, 43, 0, 0, []), (82, .iload_n 3, 1, 44, 3, 0, []), (83, .iadd, 1, 45, 0, 0, []), (84, .baload, 1, 46, 0, 0, []), (85, .ifCond .eq 48, 3, 47, 73, 0, []), (88, .goto 41, 3, 48, 71, 0, []), (91, .aload_n 0, 1, 49, 0, 0, []), (92, .getfield 42, 3, 50, 6, 17, []), (95, .iload_n 3, 1, 51, 3, 0, []), (96, .iaload, 1, 52, 0, 0, []), (97, .aload_n 0, 1, 53, 0, 0, []), (98, .getfield 51, 3, 54, 6, 21, []), (101, .iload_n 1, 1, 55, 1, 0, []), (102, .iaload, 1, 56, 0, 0, []), (103, .if_icmp .ne 26, 3, 57, 71, 0, []), (106, .aload_n 0, 1, 58, 0, 0, []), (107, .getfield 48, 3, 59, 6, 19, []), (110, .iload_n 3, 1, 60, 3, 0, []), (111, .iaload, 1, 61, 0, 0, []), (112, .ifCond .ne 17, 3, 62, 71, 0, []), (115, .aload_n 0, 1, 63, 0, 0, []), (116, .getfield 63, 3, 64, 6, 25, []), (119, .bipush 100, 2, 65, 100, 0, []), (121, .iload_n 1, 1, 66, 1, 0, []), (122, .imul, 1, 67, 0, 0, []), (123, .iload_n 3, 1, 68, 3, 0, []), (124, .iadd, 1, 69, 0, 0, []), (125, .baload, 1, 70, 0, 0, []), (126, .ifCond .eq 7, 3, 71, 73, 0, []), (129, .iconst 1, 1, 72, 1, 0, []), (130, .goto 4, 3, 73, 74, 0, []), (133, .iconst 0, 1, 74, 0, 0, []), (134, .istore 5, 2, 75, 5, 0, []), (136, .aload_n 0, 1, 76, 0, 0, []), (137, .iload 4, 2, 77, 4, 0, []), (139, .iload 5, 2, 78, 5, 0, []), (141, .iconst 0, 1, 79, 0, 0, []), (142, .iconst 0, 1, 80, 0, 0, []), (143, .invokevirtual 82, 3, 81, 97, 5, [6, 16]), (146, .ifCond .eq 5, 3, 82, 84, 0, []), (149, .iconst 0, 1, 83, 0, 0, []), (150, .ireturn, 1, 84, 0, 0, []), (151, .iload_n 2, 1, 85, 2, 0, []), (152, .ifCond .eq 18, 3, 86, 96, 0, []), (155, .aload_n 0, 1, 87, 0, 0, []), (156, .getfield 60, 3, 88, 6, 24, []), (159, .bipush 10, 2, 89, 10, 0, []), (161, .iload_n 1, 1, 90, 1, 0, []), (162, .imul, 1, 91, 0, 0, []), (163, .iload_n 3, 1, 92, 3, 0, []), (164, .iadd, 1, 93, 0, 0, []), (165, .iconst 1, 1, 94, 1, 0, []), (166, .bastore, 1, 95, 0, 0, []), (167, .goto 15, 3, 96, 105, 0, []), (170, .aload_n 0, 1, 97, 0, 0, []), (171, .getfield 63, 3, 98, 6, 25, []), (174, .bipush 100, 2, 99, 100, 0, []), (176, .iload_n 1, 1, 100, 1, 0, []), (177, .imul, 1, 101, 0, 0, []), (178, .iload_n 3, 1, 102, 3, 0, []), (179, .iadd, 1, 103, 0, 0, []), (180, .iconst 1, 1, 104, 1, 0, []), (181, .bastore, 1, 105, 0, 0, []), (182, .aload_n 0, 1, 106, 0, 0, []), (183, .iload_n 1, 1, 107, 1, 0, []), (184, .invokevirtual 131, 3, 108, 119, 2, [6, 15]), (187, .ireturn, 1, 109, 0, 0, [])]
def xM_120 : xa_M := (⟨"ServiceRowsModel", "work", "(IZI)I"⟩, prog_8_method_26_code, 6, some .int, [], xR_120)
def xR_121 : List xa_R := [(0, .aload_n 0, 1, 1, 0, 0, []), (1, .iload_n 1, 1, 2, 1, 0, []), (2, .invokevirtual 128, 3, 3, 101, 2, [6, 13]), (5, .ifCond .eq 13, 3, 4, 9, 0, []), (8, .iload_n 2, 1, 5, 2, 0, []), (9, .iconst 0, 1, 6, 0, 0, []), (10, .bipush 99, 2, 7, 99, 0, []), (12, .invokestatic 72, 3, 8, 98, 3, [999, 14]), (15, .ifCond .ne 7, 3, 9, 11, 0, []), (18, .iconst 1, 1, 10, 1, 0, []), (19, .goto 4, 3, 11, 12, 0, []), (22, .iconst 0, 1, 12, 0, 0, []), (23, .istore 5, 2, 13, 5, 0, []), (25, .iload_n 3, 1, 14, 3, 0, []), (26, .iconst 1, 1, 15, 1, 0, []), (27, .bipush 100, 2, 16, 100, 0, []), (29, .invokestatic 72, 3, 17, 98, 3, [999, 14]), (32, .ifCond .eq 14, 3, 18, 23, 0, []), (35, .iload 4, 2, 19, 4, 0, []), (37, .iconst 0, 1, 20, 0, 0, []), (38, .ldc 95, 2, 21, 1000000, 0, []), (40, .invokestatic 72, 3, 22, 98, 3, [999, 14]), (43, .ifCond .ne 7, 3, 23, 25, 0, []), (46, .iconst 1, 1, 24, 1, 0, []), (47, .goto 4, 3, 25, 26, 0, []), (50, .iconst 0, 1, 26, 0, 0, []), (51, .istore 6, 2, 27, 6, 0, []), (53, .iconst 0, 1, 28, 0, 0, []), (54, .istore 7, 2, 29, 7, 0, []), (56, .iload 5, 2, 30, 5, 0, []), (58, .ifCond .ne 37, 3, 31, 51, 0, []), (61, .iload 6, 2, 32, 6, 0, []), (63, .ifCond .ne 32, 3, 33, 51, 0, []), (66, .aload_n 0, 1, 34, 0, 0, []), (67, .getfield 39, 3, 35, 6, 15, []), (70, .bipush 100, 2, 36, 100, 0, []), (72, .aload_n 0, 1, 37, 0, 0, []), (73, .getfield 51, 3, 38, 6, 21, []), (76, .iload_n 1, 1, 39, 1, 0, []), (77, .iaload, 1, 40, 0, 0, []), (78, .imul, 1, 41, 0, 0, []), (79, .iload_n 2, 1, 42, 2, 0, []), (80, .iadd, 1, 43, 0, 0, []), (81, .iaload, 1, 44, 0, 0, []), (82, .aload_n 0, 1, 45, 0, 0, []), (83, .getfield 86, 3, 46, 6, 1, []), (86, .if_icmp .gt 9, 3, 47, 51, 0, []), (89, .iload_n 3, 1, 48, 3, 0, []), (90, .iload 4, 2, 49, 4, 0, []), (92, .imul, 1, 50, 0, 0, []), (93, .istore 7, 2, 51, 7, 0, []), (95, .iload 5, 2, 52, 5, 0, []), (97, .ifCond .ne 25, 3, 53, 64, 0, []), (100, .aload_n 0, 1, 54, 0, 0, []), (101, .getfield 54, 3, 55, 6, 22, []), (104, .iload_n 1, 1, 56, 1, 0, []), (105, .baload, 1, 57, 0, 0, []), (106, .ifCond .ne 12, 3, 58, 62, 0, []), (109, .iload 7, 2, 59, 7, 0, []), (111, .aload_n 0, 1, 60, 0, 0, []), (112, .getfield 134, 3, 61, 6, 2, []), (115, .if_icmp .le 7, 3, 62, 64, 0, []), (118, .iconst 1, 1, 63, 1, 0, []), (119, .goto 4, 3, 64, 65, 0, []), (122, .iconst 0, 1, 65, 0, 0, []), (123, .istore 8, 2, 66, 8, 0, []), (125, .aload_n 0, 1, 67, 0, 0, []), (126, .iload 5, 2, 68, 5, 0, []), (128, .iload 6, 2, 69, 6, 0, []), (130, .iload 8, 2, 70, 8, 0, []), (132, .aload_n 0, 1, 71, 0, 0, []), (133, .getfield 137, 3, 72, 6, 26, []), (136, .bipush 100, 2, 73, 100, 0, []), (138, .if_icmp .ne 7, 3, 74, 76, 0, []), (141, .iconst 1, 1, 75, 1, 0, []), (142, .goto 4, 3, 76, 77, 0, []), (145, .iconst 0, 1, 77, 0, 0, []), (146, .invokevirtual 82, 3, 78, 97, 5, [6, 16]), (149, .ifCond .eq 5, 3, 79, 81, 0, []), (152, .iconst 0, 1, 80, 0, 0, []), (153, .ireturn, 1, 81, 0, 0, []), (154, .aload_n 0, 1, 82, 0, 0, []), (155, .dup, 1, 83, 0, 0, []), (156, .getfield 137, 3, 84, 6, 26, []), (159, .iconst 1, 1, 85, 1, 0, []), (160, .iadd, 1, 86, 0, 0, []), (161, .putfield 137, 3, 87, 6, 26, [0]), (164, .aload_n 0, 1, 88, 0, 0, []), (165, .dup, 1, 89, 0, 0, []), (166, .getfield 134, 3, 90, 6, 2, []), (169, .iload 7, 2, 91, 7, 0, []), (171, .isub, 1, 92, 0, 0, []), (172, .putfield 134, 3, 93, 6, 2, [0]), (175, .aload_n 0, 1, 94, 0, 0, []), (176, .getfield 57, 3, 95, 6, 23, []), (179, .iload_n 1, 1, 96, 1, 0, []), (180, .dup2, 1, 97, 0, 0, []), (181, .iaload, 1, 98, 0, 0, []), (182, .iload 7, 2, 99, 7, 0, []), (184, .iadd, 1, 100, 0, 0, []), (185, .iastore, 1, 101, 0, 0, []), (186, .iload 7, 2, 102, 7, 0, []), (188, .ireturn, 1, 103, 0, 0, [])]
def xM_121 : xa_M := (⟨"ServiceRowsModel", "part", "(IIII)I"⟩, prog_8_method_27_code, 9, some .int, [], xR_121)
def xR_122 : List xa_R := [(0, .aload_n 0, 1, 1, 0, 0, []), (1, .aload_n 0, 1, 2, 0, 0, []), (2, .iload_n 1, 1, 3, 1, 0, []), (3, .invokevirtual 91, 3, 4, 99, 2, [6, 14]), (6, .ifCond .eq 13, 3, 5, 10, 0, []), (9, .iload_n 2, 1, 6, 2, 0, []), (10, .iconst 0, 1, 7, 0, 0, []), (11, .bipush 99, 2, 8, 99, 0, []), (13, .invokestatic 72, 3, 9, 98, 3, [999, 15]), (16, .ifCond .ne 7, 3, 10, 12, 0, []), (19, .iconst 1, 1, 11, 1, 0, []), (20, .goto 4, 3, 12, 13, 0, []), (23, .iconst 0, 1, 13, 0, 0, []), (24, .iload_n 3, 1, 14, 3, 0, []), (25, .iconst 0, 1, 15, 0, 0, []), (26, .ldc 90, 2, 16, 99999, 0, []), (28, .invokestatic 72, 3, 17, 98, 3, [999, 16]), (31, .ifCond .ne 7, 3, 18, 20, 0, []), (34, .iconst 1, 1, 19, 1, 0, []), (35, .goto 4, 3, 20, 21, 0, []), (38, .iconst 0, 1, 21, 0, 0, []), (39, .iconst 0, 1, 22, 0, 0, []), (40, .iconst 0, 1, 23, 0, 0, []), (41, .invokevirtual 82, 3, 24, 97, 5, [6, 16]), (44, .ifCond .eq 4, 3, 25, 26, 0, []), (47, .return_, 1, 26, 0, 0, []), (48, .aload_n 0, 1, 27, 0, 0, []), (49, .getfield 39, 3, 28, 6, 15, []), (52, .bipush 100, 2, 29, 100, 0, []), (54, .iload_n 1, 1, 30, 1, 0, []), (55, .imul, 1, 31, 0, 0, []), (56, .iload_n 2, 1, 32, 2, 0, []), (57, .iadd, 1, 33, 0, 0, []), (58, .iload_n 3, 1, 34, 3, 0, []), (59, .iastore, 1, 35, 0, 0, []), (60, .return_, 1, 36, 0, 0, [])]
def xM_122 : xa_M := (⟨"ServiceRowsModel", "warranty", "(III)V"⟩, prog_8_method_28_code, 4, none, [], xR_122)
def xR_123 : List xa_R := [(0, .iload_n 1, 1, 1, 1, 0, []), (1, .iconst 0, 1, 2, 0, 0, []), (2, .ldc 140, 2, 3, 100000000, 0, []), (4, .invokestatic 72, 3, 4, 98, 3, [999, 14]), (7, .ifCond .ne 7, 3, 5, 7, 0, []), (10, .iconst 1, 1, 6, 1, 0, []), (11, .goto 4, 3, 7, 8, 0, []), (14, .iconst 0, 1, 8, 0, 0, []), (15, .istore_n 2, 1, 9, 2, 0, []), (16, .aload_n 0, 1, 10, 0, 0, []), (17, .iload_n 2, 1, 11, 2, 0, []), (18, .iload_n 2, 1, 12, 2, 0, []), (19, .ifCond .ne 18, 3, 13, 21, 0, []), (22, .aload_n 0, 1, 14, 0, 0, []), (23, .getfield 134, 3, 15, 6, 2, []), (26, .iload_n 1, 1, 16, 1, 0, []), (27, .iadd, 1, 17, 0, 0, []), (28, .ldc 141, 2, 18, 1000000000, 0, []), (30, .if_icmp .le 7, 3, 19, 21, 0, []), (33, .iconst 1, 1, 20, 1, 0, []), (34, .goto 4, 3, 21, 22, 0, []), (37, .iconst 0, 1, 22, 0, 0, []), (38, .iconst 0, 1, 23, 0, 0, []), (39, .iconst 0, 1, 24, 0, 0, []), (40, .invokevirtual 82, 3, 25, 97, 5, [6, 16]), (43, .ifCond .eq 5, 3, 26, 28, 0, []), (46, .iconst 0, 1, 27, 0, 0, []), (47, .ireturn, 1, 28, 0, 0, []), (48, .aload_n 0, 1, 29, 0, 0, []), (49, .dup, 1, 30, 0, 0, []), (50, .getfield 134, 3, 31, 6, 2, []), (53, .iload_n 1, 1, 32, 1, 0, []), (54, .iadd, 1, 33, 0, 0, []), (55, .putfield 134, 3, 34, 6, 2, [0]), (58, .aload_n 0, 1, 35, 0, 0, []), (59, .getfield 134, 3, 36, 6, 2, []), (62, .ireturn, 1, 37, 0, 0, [])]
def xM_123 : xa_M := (⟨"ServiceRowsModel", "budget", "(I)I"⟩, prog_8_method_29_code, 3, some .int, [], xR_123)
def xR_124 : List xa_R := [(0, .aload_n 0, 1, 1, 0, 0, []), (1, .iload_n 1, 1, 2, 1, 0, []), (2, .invokevirtual 128, 3, 3, 101, 2, [6, 13]), (5, .ifCond .ne 7, 3, 4, 6, 0, []), (8, .iconst 1, 1, 5, 1, 0, []), (9, .goto 4, 3, 6, 7, 0, []), (12, .iconst 0, 1, 7, 0, 0, []), (13, .istore_n 2, 1, 8, 2, 0, []), (14, .aload_n 0, 1, 9, 0, 0, []), (15, .iload_n 2, 1, 10, 2, 0, []), (16, .iload_n 2, 1, 11, 2, 0, []), (17, .ifCond .ne 16, 3, 12, 19, 0, []), (20, .aload_n 0, 1, 13, 0, 0, []), (21, .getfield 54, 3, 14, 6, 22, []), (24, .iload_n 1, 1, 15, 1, 0, []), (25, .baload, 1, 16, 0, 0, []), (26, .ifCond .eq 7, 3, 17, 19, 0, []), (29, .iconst 1, 1, 18, 1, 0, []), (30, .goto 4, 3, 19, 20, 0, []), (33, .iconst 0, 1, 20, 0, 0, []), (34, .iconst 0, 1, 21, 0, 0, []), (35, .iconst 0, 1, 22, 0, 0, []), (36, .invokevirtual 82, 3, 23, 97, 5, [6, 16]), (39, .ifCond .eq 5, 3, 24, 26, 0, []), (42, .iconst 0, 1, 25, 0, 0, []), (43, .ireturn, 1, 26, 0, 0, []), (44, .aload_n 0, 1, 27, 0, 0, []), (45, .getfield 51, 3, 28, 6, 21, []), (48, .iload_n 1, 1, 29, 1, 0, []), (49, .iaload, 1, 30, 0, 0, []), (50, .istore_n 3, 1, 31, 3, 0, []), (51, .aload_n 0, 1, 32, 0, 0, []), (52, .getfield 54, 3, 33, 6, 22, []), (55, .iload_n 1, 1, 34, 1, 0, []), (56, .iconst 1, 1, 35, 1, 0, []), (57, .bastore, 1, 36, 0, 0, []), (58, .iconst 0, 1, 37, 0, 0, []), (59, .istore 4, 2, 38, 4, 0, []), (61, .iload 4, 2, 39, 4, 0, []), (63, .aload_n 0, 1, 40, 0, 0, []), (64, .getfield 76, 3, 41, 6, 11, []), (67, .if_icmp .ge 63, 3, 42, 76, 0, []), (70, .iconst 0, 1, 43, 0, 0, []), (71, .istore 5, 2, 44, 5, 0, []), (73, .iload 5, 2, 45, 5, 0, []), (75, .iconst 3, 1, 46, 3, 0, []), (76, .if_icmp .ge 48, 3, 47, 74, 0, []), (79, .aload_n 0, 1, 48, 0, 0, []), (80, .getfield 60, 3, 49, 6, 24, []), (83, .bipush 10, 2, 50, 10, 0, []), (85, .iload_n 1, 1, 51, 1, 0, []), (86, .imul, 1, 52, 0, 0, []), (87, .iload 4, 2, 53, 4, 0, []), (89, .iadd, 1, 54, 0, 0, []), (90, .baload, 1, 55, 0, 0, []), (91, .ifCond .eq 33, 3, 56, 74, 0, []), (94, .aload_n 0, 1, 57, 0, 0, []), (95, .getfield 33, 3, 58, 6, 13, []), (98, .bipush 30, 2, 59, 30, 0, []), (100, .iload_n 3, 1, 60, 3, 0, []), (101, .imul, 1, 61, 0, 0, []), (102, .iconst 3, 1, 62, 3, 0, []), (103, .iload 4, 2, 63, 4, 0, []), (105, .imul, 1, 64, 0, 0, []), (106, .iadd, 1, 65, 0, 0, []), (107, .iload 5, 2, 66, 5, 0, []), (109, .iadd, 1, 67, 0, 0, []), (110, .aload_n 0, 1, 68, 0, 0, []), (111, .iload_n 3, 1, 69, 3, 0, []), (112, .iload 5, 2, 70, 5, 0, []), (114, .invokevirtual 99, 3, 71, 107, 3, [6, 16]), (117, .iastore, 1, 72, 0, 0, []), (118, .iinc 5 1, 3, 73, 5, 1, []), (121, .goto (-48), 3, 74, 44, 0, []), (124, .iinc 4 1, 3, 75, 4, 1, []), (127, .goto (-66), 3, 76, 38, 0, []), (130, .iconst 0, 1, 77, 0, 0, []), (131, .istore 4, 2, 78, 4, 0, []), (133, .iload 4, 2, 79, 4, 0, []), (135, .aload_n 0, 1, 80, 0, 0, []), (136, .getfield 121, 3, 81, 6, 16, []), (139, .if_icmp .ge 56, 3, 82, 110, 0, []), (142, .aload_n 0, 1, 83, 0, 0, []), (143, .getfield 63, 3, 84, 6, 25, []), (146, .bipush 100, 2, 85, 100, 0, []), (148, .iload_n 1, 1, 86, 1, 0, []), (149, .imul, 1, 87, 0, 0, []), (150, .iload 4, 2, 88, 4, 0, []), (152, .iadd, 1, 89, 0, 0, []), (153, .baload, 1, 90, 0, 0, []), (154, .ifCond .eq 35, 3, 91, 108, 0, []), (157, .aload_n 0, 1, 92, 0, 0, []), (158, .getfield 48, 3, 93, 6, 19, []), (161, .iload 4, 2, 94, 4, 0, []), (163, .iaload, 1, 95, 0, 0, []), (164, .ifCond .ne 25, 3, 96, 108, 0, []), (167, .aload_n 0, 1, 97, 0, 0, []), (168, .getfield 48, 3, 98, 6, 19, []), (171, .iload 4, 2, 99, 4, 0, []), (173, .aload_n 0, 1, 100, 0, 0, []), (174, .getfield 45, 3, 101, 6, 18, []), (177, .iload 4, 2, 102, 4, 0, []), (179, .baload, 1, 103, 0, 0, []), (180, .ifCond .eq 7, 3, 104, 106, 0, []), (183, .iconst 1, 1, 105, 1, 0, []), (184, .goto 4, 3, 106, 107, 0, []), (187, .iconst 2, 1, 107, 2, 0, []), (188, .iastore, 1, 108, 0, 0, []), (189, .iinc 4 1, 3, 109, 4, 1, []), (192, .goto (-59), 3, 110, 78, 0, []), (195, .aload_n 0, 1, 111, 0, 0, []), (196, .getfield 57, 3, 112, 6, 23, []), (199, .iload_n 1, 1, 113, 1, 0, []), (200, .iaload, 1, 114, 0, 0, []), (201, .ireturn, 1, 115, 0, 0, [])]
def xM_124 : xa_M := (⟨"ServiceRowsModel", "done", "(I)I"⟩, prog_8_method_30_code, 6, some .int, [], xR_124)
def xR_125_0 : List xa_R := [(0, .iconst 0, 1, 1, 0, 0, []), (1, .istore_n 2, 1, 2, 2, 0, []), (2, .iconst 0, 1, 3, 0, 0, []), (3, .istore_n 3, 1, 4, 3, 0, []), (4, .iconst 0, 1, 5, 0, 0, []), (5, .istore 4, 2, 6, 4, 0, []), (7, .iload 4, 2, 7, 4, 0, []), (9, .aload_n 0, 1, 8, 0, 0, []), (10, .getfield 121, 3, 9, 6, 16, []), (13, .if_icmp .ge 82, 3, 10, 53, 0, []), (16, .aload_n 0, 1, 11, 0, 0, []), (17, .getfield 42, 3, 12, 6, 17, []), (20, .iload 4, 2, 13, 4, 0, []), (22, .iaload, 1, 14, 0, 0, []), (23, .iload_n 1, 1, 15, 1, 0, []), (24, .if_icmp .ne 26, 3, 16, 29, 0, []), (27, .aload_n 0, 1, 17, 0, 0, []), (28, .getfield 45, 3, 18, 6, 18, []), (31, .iload 4, 2, 19, 4, 0, []), (33, .baload, 1, 20, 0, 0, []), (34, .ifCond .eq 16, 3, 21, 29, 0, []), (37, .aload_n 0, 1, 22, 0, 0, []), (38, .getfield 48, 3, 23, 6, 19, []), (41, .iload 4, 2, 24, 4, 0, []), (43, .iaload, 1, 25, 0, 0, []), (44, .iconst 2, 1, 26, 2, 0, []), (45, .if_icmp .eq 5, 3, 27, 29, 0, []), (48, .iconst 1, 1, 28, 1, 0, []), (49, .istore_n 3, 1, 29, 3, 0, []), (50, .iload_n 2, 1, 30, 2, 0, []), (51, .aload_n 0, 1, 31, 0, 0, []), (52, .getfield 42, 3, 32, 6, 17, []), (55, .iload 4, 2, 33, 4, 0, []), (57, .iaload, 1, 34, 0, 0, []), (58, .iload_n 1, 1, 35, 1, 0, []), (59, .if_icmp .ne 27, 3, 36, 48, 0, []), (62, .aload_n 0, 1, 37, 0, 0, []), (63, .getfield 45, 3, 38, 6, 18, []), (66, .iload 4, 2, 39, 4, 0, []), (68, .baload, 1, 40, 0, 0, []), (69, .ifCond .ne 17, 3, 41, 48, 0, []), (72, .aload_n 0, 1, 42, 0, 0, []), (73, .getfield 48, 3, 43, 6, 19, []), (76, .iload 4, 2, 44, 4, 0, []), (78, .iaload, 1, 45, 0, 0, []), (79, .ifCond .ne 7, 3, 46, 48, 0, []), (82, .iconst 1, 1, 47, 1, 0, []), (83, .goto 4, 3, 48, 49, 0, []), (86, .iconst 0, 1, 49, 0, 0, []), (87, .iadd, 1, 50, 0, 0, []), (88, .istore_n 2, 1, 51, 2, 0, []), (89, .iinc 4 1, 3, 52, 4, 1, []), (92, .goto (-85), 3, 53, 6, 0, []), (95, .iload_n 3, 1, 54, 3, 0, []), (96, .ifCond .eq 5, 3, 55, 57, 0, []), (99, .iconst 1, 1, 56, 1, 0, []), (100, .ireturn, 1, 57, 0, 0, []), (101, .iload_n 2, 1, 58, 2, 0, []), (102, .aload_n 0, 1, 59, 0, 0, []), (103, .getfield 7, 3, 60, 6, 4, []), (106, .if_icmp .lt 5, 3, 61, 63, 0, []), (109, .iconst 2, 1, 62, 2, 0, []), (110, .ireturn, 1, 63, 0, 0, []), (111, .iconst 0, 1, 64, 0, 0, []), (112, .istore 4, 2, 65, 4, 0, []), (114, .iload 4, 2, 66, 4, 0, []), (116, .iconst 5, 1, 67, 5, 0, []), (117, .if_icmp .ge 44, 3, 68, 93, 0, []), (120, .aload_n 0, 1, 69, 0, 0, []), (121, .getfield 36, 3, 70, 6, 14, []), (124, .iconst 5, 1, 71, 5, 0, []), (125, .iload_n 1, 1, 72, 1, 0, []), (126, .imul, 1, 73, 0, 0, []), (127, .iload 4, 2, 74, 4, 0, []), (129, .iadd, 1, 75, 0, 0, []), (130, .iaload, 1, 76, 0, 0, []), (131, .iconst (-1), 1, 77, 1, 1, []), (132, .if_icmp .eq 23, 3, 78, 91, 0, []), (135, .aload_n 0, 1, 79, 0, 0, []), (136, .getfield 36, 3, 80, 6, 14, []), (139, .iconst 5, 1, 81, 5, 0, []), (140, .iload_n 1, 1, 82, 1, 0, []), (141, .imul, 1, 83, 0, 0, []), (142, .iload 4, 2, 84, 4, 0, []), (144, .iadd, 1, 85, 0, 0, []), (145, .iaload, 1, 86, 0, 0, []), (146, .aload_n 0, 1, 87, 0, 0, []), (147, .getfield 86, 3, 88, 6, 1, []), (150, .if_icmp .gt 5, 3, 89, 91, 0, []), (153, .iconst 3, 1, 90, 3, 0, []), (154, .ireturn, 1, 91, 0, 0, []), (155, .iinc 4 1, 3, 92, 4, 1, []), (158, .goto (-44), 3, 93, 65, 0, []), (161, .aload_n 0, 1, 94, 0, 0, []), (162, .iload_n 1, 1, 95, 1, 0, []), (163, .invokevirtual 124, 3, 96, 117, 2, [6, 15]), (166, .ifCond .lt 5, 3, 97, 99, 0, []), (169, .iconst 4, 1, 98, 4, 0, []), (170, .ireturn, 1, 99, 0, 0, []), (171, .iconst 0, 1, 100, 0, 0, [])]
def xR_125_1 : List xa_R := [(172, .istore 4, 2, 101, 4, 0, []), (174, .iload 4, 2, 102, 4, 0, []), (176, .aload_n 0, 1, 103, 0, 0, []), (177, .getfield 76, 3, 104, 6, 11, []), (180, .if_icmp .ge 67, 3, 105, 140, 0, []), (183, .iconst 0, 1, 106, 0, 0, []), (184, .istore 5, 2, 107, 5, 0, []), (186, .iload 5, 2, 108, 5, 0, []), (188, .iconst 3, 1, 109, 3, 0, []), (189, .if_icmp .ge 52, 3, 110, 138, 0, []), (192, .aload_n 0, 1, 111, 0, 0, []), (193, .getfield 30, 3, 112, 6, 12, []), (196, .iconst 3, 1, 113, 3, 0, []), (197, .iload 4, 2, 114, 4, 0, []), (199, .imul, 1, 115, 0, 0, []), (200, .iload 5, 2, 116, 5, 0, []), (202, .iadd, 1, 117, 0, 0, []), (203, .iaload, 1, 118, 0, 0, []), (204, .istore 6, 2, 119, 6, 0, []), (206, .iload 6, 2, 120, 6, 0, []), (208, .ifCond .le 27, 3, 121, 136, 0, []), (211, .ldc2_w 142, 3, 122, 10, 0, []), (214, .aload_n 0, 1, 123, 0, 0, []), (215, .iload_n 1, 1, 124, 1, 0, []), (216, .iload 4, 2, 125, 4, 0, []), (218, .iload 5, 2, 126, 5, 0, []), (220, .invokevirtual 106, 3, 127, 108, 4, [6, 17]), (223, .i2l, 1, 128, 0, 0, []), (224, .lmul, 1, 129, 0, 0, []), (225, .iload 6, 2, 130, 6, 0, []), (227, .ineg, 1, 131, 0, 0, []), (228, .i2l, 1, 132, 0, 0, []), (229, .lcmp, 1, 133, 0, 0, []), (230, .ifCond .gt 5, 3, 134, 136, 0, []), (233, .iconst 5, 1, 135, 5, 0, []), (234, .ireturn, 1, 136, 0, 0, []), (235, .iinc 5 1, 3, 137, 5, 1, []), (238, .goto (-52), 3, 138, 107, 0, []), (241, .iinc 4 1, 3, 139, 4, 1, []), (244, .goto (-70), 3, 140, 101, 0, []), (247, .iconst 0, 1, 141, 0, 0, []), (248, .ireturn, 1, 142, 0, 0, [])]
def xR_125 : List xa_R := xR_125_0 ++ (xR_125_1)
def xM_125 : xa_M := (⟨"ServiceRowsModel", "reason", "(I)I"⟩, prog_8_method_31_code, 7, some .int, [], xR_125)
def xR_126 : List xa_R := [(0, .aload_n 0, 1, 1, 0, 0, []), (1, .aload_n 0, 1, 2, 0, 0, []), (2, .iload_n 1, 1, 3, 1, 0, []), (3, .invokevirtual 91, 3, 4, 99, 2, [6, 14]), (6, .ifCond .ne 7, 3, 5, 7, 0, []), (9, .iconst 1, 1, 6, 1, 0, []), (10, .goto 4, 3, 7, 8, 0, []), (13, .iconst 0, 1, 8, 0, 0, []), (14, .iconst 0, 1, 9, 0, 0, []), (15, .iconst 0, 1, 10, 0, 0, []), (16, .iconst 0, 1, 11, 0, 0, []), (17, .invokevirtual 82, 3, 12, 97, 5, [6, 16]), (20, .ifCond .eq 5, 3, 13, 15, 0, []), (23, .iconst 0, 1, 14, 0, 0, []), (24, .ireturn, 1, 15, 0, 0, []), (25, .aload_n 0, 1, 16, 0, 0, []), (26, .iload_n 1, 1, 17, 1, 0, []), (27, .invokevirtual 144, 3, 18, 125, 2, [6, 18]), (30, .ireturn, 1, 19, 0, 0, [])]
def xM_126 : xa_M := (⟨"ServiceRowsModel", "barred", "(I)I"⟩, prog_8_method_32_code, 2, some .int, [], xR_126)
def xR_127 : List xa_R := [(0, .aload_n 0, 1, 1, 0, 0, []), (1, .aload_n 0, 1, 2, 0, 0, []), (2, .iload_n 1, 1, 3, 1, 0, []), (3, .invokevirtual 91, 3, 4, 99, 2, [6, 14]), (6, .ifCond .ne 7, 3, 5, 7, 0, []), (9, .iconst 1, 1, 6, 1, 0, []), (10, .goto 4, 3, 7, 8, 0, []), (13, .iconst 0, 1, 8, 0, 0, []), (14, .iconst 0, 1, 9, 0, 0, []), (15, .iconst 0, 1, 10, 0, 0, []), (16, .iconst 0, 1, 11, 0, 0, []), (17, .invokevirtual 82, 3, 12, 97, 5, [6, 16]), (20, .ifCond .eq 5, 3, 13, 15, 0, []), (23, .iconst 0, 1, 14, 0, 0, []), (24, .ireturn, 1, 15, 0, 0, []), (25, .iconst (-1), 1, 16, 1, 1, []), (26, .istore_n 2, 1, 17, 2, 0, []), (27, .sipush 1000, 3, 18, 1000, 0, []), (30, .istore_n 3, 1, 19, 3, 0, []), (31, .iconst 0, 1, 20, 0, 0, []), (32, .istore 4, 2, 21, 4, 0, []), (34, .iload 4, 2, 22, 4, 0, []), (36, .aload_n 0, 1, 23, 0, 0, []), (37, .getfield 69, 3, 24, 6, 5, []), (40, .if_icmp .ge 92, 3, 25, 72, 0, []), (43, .aload_n 0, 1, 26, 0, 0, []), (44, .getfield 13, 3, 27, 6, 6, []), (47, .iload 4, 2, 28, 4, 0, []), (49, .iaload, 1, 29, 0, 0, []), (50, .aload_n 0, 1, 30, 0, 0, []), (51, .getfield 13, 3, 31, 6, 6, []), (54, .iload_n 1, 1, 32, 1, 0, []), (55, .iaload, 1, 33, 0, 0, []), (56, .isub, 1, 34, 0, 0, []), (57, .istore 5, 2, 35, 5, 0, []), (59, .iload 5, 2, 36, 5, 0, []), (61, .ifCond .ge 11, 3, 37, 41, 0, []), (64, .bipush (-2), 2, 38, 2, 1, []), (66, .iload 5, 2, 39, 5, 0, []), (68, .imul, 1, 40, 0, 0, []), (69, .goto 18, 3, 41, 50, 0, []), (72, .iconst 2, 1, 42, 2, 0, []), (73, .iload 5, 2, 43, 5, 0, []), (75, .imul, 1, 44, 0, 0, []), (76, .iload 5, 2, 45, 5, 0, []), (78, .ifCond .le 7, 3, 46, 48, 0, []), (81, .iconst 1, 1, 47, 1, 0, []), (82, .goto 4, 3, 48, 49, 0, []), (85, .iconst 0, 1, 49, 0, 0, []), (86, .iadd, 1, 50, 0, 0, []), (87, .istore 6, 2, 51, 6, 0, []), (89, .iload 4, 2, 52, 4, 0, []), (91, .iload_n 1, 1, 53, 1, 0, []), (92, .if_icmp .eq 34, 3, 54, 70, 0, []), (95, .aload_n 0, 1, 55, 0, 0, []), (96, .getfield 17, 3, 56, 6, 7, []), (99, .iload 4, 2, 57, 4, 0, []), (101, .baload, 1, 58, 0, 0, []), (102, .ifCond .eq 24, 3, 59, 70, 0, []), (105, .aload_n 0, 1, 60, 0, 0, []), (106, .iload 4, 2, 61, 4, 0, []), (108, .invokevirtual 144, 3, 62, 125, 2, [6, 18]), (111, .ifCond .ne 15, 3, 63, 70, 0, []), (114, .iload 6, 2, 64, 6, 0, []), (116, .iload_n 3, 1, 65, 3, 0, []), (117, .if_icmp .ge 9, 3, 66, 70, 0, []), (120, .iload 4, 2, 67, 4, 0, []), (122, .istore_n 2, 1, 68, 2, 0, []), (123, .iload 6, 2, 69, 6, 0, []), (125, .istore_n 3, 1, 70, 3, 0, []), (126, .iinc 4 1, 3, 71, 4, 1, []), (129, .goto (-95), 3, 72, 21, 0, []), (132, .iload_n 2, 1, 73, 2, 0, []), (133, .ireturn, 1, 74, 0, 0, [])]
def xM_127 : xa_M := (⟨"ServiceRowsModel", "spare", "(I)I"⟩, prog_8_method_33_code, 7, some .int, [], xR_127)
def xR_128 : List xa_R := [(0, .aload_n 0, 1, 1, 0, 0, []), (1, .iload_n 1, 1, 2, 1, 0, []), (2, .invokevirtual 91, 3, 3, 99, 2, [6, 13]), (5, .ifCond .ne 7, 3, 4, 6, 0, []), (8, .iconst 1, 1, 5, 1, 0, []), (9, .goto 4, 3, 6, 7, 0, []), (12, .iconst 0, 1, 7, 0, 0, []), (13, .istore_n 3, 1, 8, 3, 0, []), (14, .iload_n 2, 1, 9, 2, 0, []), (15, .iconst 0, 1, 10, 0, 0, []), (16, .ldc 89, 2, 11, 100000, 0, []), (18, .invokestatic 72, 3, 12, 98, 3, [999, 14]), (21, .ifCond .ne 7, 3, 13, 15, 0, []), (24, .iconst 1, 1, 14, 1, 0, []), (25, .goto 4, 3, 15, 16, 0, []), (28, .iconst 0, 1, 16, 0, 0, []), (29, .istore 4, 2, 17, 4, 0, []), (31, .aload_n 0, 1, 18, 0, 0, []), (32, .iload_n 3, 1, 19, 3, 0, []), (33, .iload 4, 2, 20, 4, 0, []), (35, .iload_n 3, 1, 21, 3, 0, []), (36, .ifCond .ne 25, 3, 22, 34, 0, []), (39, .iload 4, 2, 23, 4, 0, []), (41, .ifCond .ne 20, 3, 24, 34, 0, []), (44, .aload_n 0, 1, 25, 0, 0, []), (45, .getfield 27, 3, 26, 6, 10, []), (48, .iload_n 1, 1, 27, 1, 0, []), (49, .iaload, 1, 28, 0, 0, []), (50, .iload_n 2, 1, 29, 2, 0, []), (51, .iadd, 1, 30, 0, 0, []), (52, .ldc 141, 2, 31, 1000000000, 0, []), (54, .if_icmp .le 7, 3, 32, 34, 0, []), (57, .iconst 1, 1, 33, 1, 0, []), (58, .goto 4, 3, 34, 35, 0, []), (61, .iconst 0, 1, 35, 0, 0, []), (62, .iconst 0, 1, 36, 0, 0, []), (63, .invokevirtual 82, 3, 37, 97, 5, [6, 16]), (66, .ifCond .eq 5, 3, 38, 40, 0, []), (69, .iconst 0, 1, 39, 0, 0, []), (70, .ireturn, 1, 40, 0, 0, []), (71, .aload_n 0, 1, 41, 0, 0, []), (72, .getfield 27, 3, 42, 6, 10, []), (75, .iload_n 1, 1, 43, 1, 0, []), (76, .dup2, 1, 44, 0, 0, []), (77, .iaload, 1, 45, 0, 0, []), (78, .iload_n 2, 1, 46, 2, 0, []), (79, .iadd, 1, 47, 0, 0, []), (80, .iastore, 1, 48, 0, 0, []), (81, .aload_n 0, 1, 49, 0, 0, []), (82, .getfield 27, 3, 50, 6, 10, []), (85, .iload_n 1, 1, 51, 1, 0, []), (86, .iaload, 1, 52, 0, 0, []), (87, .ireturn, 1, 53, 0, 0, [])]
def xM_128 : xa_M := (⟨"ServiceRowsModel", "oil", "(II)I"⟩, prog_8_method_34_code, 5, some .int, [], xR_128)
def xR_129 : List xa_R := [(0, .aload_n 0, 1, 1, 0, 0, []), (1, .iload_n 1, 1, 2, 1, 0, []), (2, .invokevirtual 91, 3, 3, 99, 2, [6, 13]), (5, .ifCond .eq 12, 3, 4, 9, 0, []), (8, .iload_n 2, 1, 5, 2, 0, []), (9, .iconst 0, 1, 6, 0, 0, []), (10, .iconst 1, 1, 7, 1, 0, []), (11, .invokestatic 72, 3, 8, 98, 3, [999, 14]), (14, .ifCond .ne 7, 3, 9, 11, 0, []), (17, .iconst 1, 1, 10, 1, 0, []), (18, .goto 4, 3, 11, 12, 0, []), (21, .iconst 0, 1, 12, 0, 0, []), (22, .istore_n 3, 1, 13, 3, 0, []), (23, .aload_n 0, 1, 14, 0, 0, []), (24, .iload_n 3, 1, 15, 3, 0, []), (25, .iload_n 3, 1, 16, 3, 0, []), (26, .ifCond .ne 24, 3, 17, 28, 0, []), (29, .aload_n 0, 1, 18, 0, 0, []), (30, .getfield 21, 3, 19, 6, 8, []), (33, .iload_n 3, 1, 20, 3, 0, []), (34, .ifCond .eq 7, 3, 21, 23, 0, []), (37, .iconst 0, 1, 22, 0, 0, []), (38, .goto 4, 3, 23, 24, 0, []), (41, .iload_n 1, 1, 24, 1, 0, []), (42, .iaload, 1, 25, 0, 0, []), (43, .ifCond .ne 7, 3, 26, 28, 0, []), (46, .iconst 1, 1, 27, 1, 0, []), (47, .goto 4, 3, 28, 29, 0, []), (50, .iconst 0, 1, 29, 0, 0, []), (51, .iconst 0, 1, 30, 0, 0, []), (52, .iconst 0, 1, 31, 0, 0, []), (53, .invokevirtual 82, 3, 32, 97, 5, [6, 16]), (56, .ifCond .eq 5, 3, 33, 35, 0, []), (59, .lconst 0, 1, 34, 0, 0, []), (60, .lreturn, 1, 35, 0, 0, []), (61, .ldc2_w 147, 3, 36, 100, 0, []), (64, .aload_n 0, 1, 37, 0, 0, []), (65, .getfield 27, 3, 38, 6, 10, []), (68, .iload_n 1, 1, 39, 1, 0, []), (69, .iaload, 1, 40, 0, 0, []), (70, .i2l, 1, 41, 0, 0, []), (71, .lmul, 1, 42, 0, 0, []), (72, .lstore 4, 2, 43, 4, 0, []), (74, .aload_n 0, 1, 44, 0, 0, []), (75, .getfield 21, 3, 45, 6, 8, []), (78, .iload_n 1, 1, 46, 1, 0, []), (79, .iaload, 1, 47, 0, 0, []), (80, .i2l, 1, 48, 0, 0, []), (81, .lstore 6, 2, 49, 6, 0, []), (83, .lload 4, 2, 50, 4, 0, []), (85, .lstore 8, 2, 51, 8, 0, []), (87, .lload 6, 2, 52, 6, 0, []), (89, .lstore 10, 2, 53, 10, 0, []), (91, .lload 10, 2, 54, 10, 0, []), (93, .lconst 0, 1, 55, 0, 0, []), (94, .lcmp, 1, 56, 0, 0, []), (95, .ifCond .le 21, 3, 57, 66, 0, []), (98, .lload 8, 2, 58, 8, 0, []), (100, .lload 10, 2, 59, 10, 0, []), (102, .lrem, 1, 60, 0, 0, []), (103, .lstore 12, 2, 61, 12, 0, []), (105, .lload 10, 2, 62, 10, 0, []), (107, .lstore 8, 2, 63, 8, 0, []), (109, .lload 12, 2, 64, 12, 0, []), (111, .lstore 10, 2, 65, 10, 0, []), (113, .goto (-22), 3, 66, 53, 0, []), (116, .iload_n 2, 1, 67, 2, 0, []), (117, .ifCond .ne 11, 3, 68, 72, 0, []), (120, .lload 4, 2, 69, 4, 0, []), (122, .lload 8, 2, 70, 8, 0, []), (124, .ldiv, 1, 71, 0, 0, []), (125, .goto 8, 3, 72, 75, 0, []), (128, .lload 6, 2, 73, 6, 0, []), (130, .lload 8, 2, 74, 8, 0, []), (132, .ldiv, 1, 75, 0, 0, []), (133, .lreturn, 1, 76, 0, 0, [])]
def xM_129 : xa_M := (⟨"ServiceRowsModel", "oilPer", "(II)J"⟩, prog_8_method_35_code, 14, some .long, [], xR_129)
def xR_130 : List xa_R := [(0, .aload_n 0, 1, 1, 0, 0, []), (1, .iload_n 1, 1, 2, 1, 0, []), (2, .iconst 0, 1, 3, 0, 0, []), (3, .aload_n 0, 1, 4, 0, 0, []), (4, .getfield 121, 3, 5, 6, 16, []), (7, .iconst 1, 1, 6, 1, 0, []), (8, .isub, 1, 7, 0, 0, []), (9, .invokestatic 72, 3, 8, 98, 3, [999, 15]), (12, .ifCond .eq 12, 3, 9, 14, 0, []), (15, .iload_n 2, 1, 10, 2, 0, []), (16, .iconst 0, 1, 11, 0, 0, []), (17, .iconst 2, 1, 12, 2, 0, []), (18, .invokestatic 72, 3, 13, 98, 3, [999, 15]), (21, .ifCond .ne 7, 3, 14, 16, 0, []), (24, .iconst 1, 1, 15, 1, 0, []), (25, .goto 4, 3, 16, 17, 0, []), (28, .iconst 0, 1, 17, 0, 0, []), (29, .iconst 0, 1, 18, 0, 0, []), (30, .iconst 0, 1, 19, 0, 0, []), (31, .iconst 0, 1, 20, 0, 0, []), (32, .invokevirtual 82, 3, 21, 97, 5, [6, 16]), (35, .ifCond .eq 5, 3, 22, 24, 0, []), (38, .iconst 0, 1, 23, 0, 0, []), (39, .ireturn, 1, 24, 0, 0, []), (40, .iload_n 2, 1, 25, 2, 0, []), (41, .ifCond .ne 12, 3, 26, 31, 0, []), (44, .aload_n 0, 1, 27, 0, 0, []), (45, .getfield 48, 3, 28, 6, 19, []), (48, .iload_n 1, 1, 29, 1, 0, []), (49, .iaload, 1, 30, 0, 0, []), (50, .goto 31, 3, 31, 47, 0, []), (53, .iload_n 2, 1, 32, 2, 0, []), (54, .iconst 1, 1, 33, 1, 0, []), (55, .if_icmp .ne 12, 3, 34, 39, 0, []), (58, .aload_n 0, 1, 35, 0, 0, []), (59, .getfield 42, 3, 36, 6, 17, []), (62, .iload_n 1, 1, 37, 1, 0, []), (63, .iaload, 1, 38, 0, 0, []), (64, .goto 17, 3, 39, 47, 0, []), (67, .aload_n 0, 1, 40, 0, 0, []), (68, .getfield 45, 3, 41, 6, 18, []), (71, .iload_n 1, 1, 42, 1, 0, []), (72, .baload, 1, 43, 0, 0, []), (73, .ifCond .eq 7, 3, 44, 46, 0, []), (76, .iconst 1, 1, 45, 1, 0, []), (77, .goto 4, 3, 46, 47, 0, []), (80, .iconst 0, 1, 47, 0, 0, []), (81, .ireturn, 1, 48, 0, 0, [])]
def xM_130 : xa_M := (⟨"ServiceRowsModel", "defectAt", "(II)I"⟩, prog_8_method_36_code, 3, some .int, [], xR_130)
def xR_131 : List xa_R := [(0, .aload_n 0, 1, 1, 0, 0, []), (1, .iload_n 1, 1, 2, 1, 0, []), (2, .iconst 0, 1, 3, 0, 0, []), (3, .iconst 4, 1, 4, 4, 0, []), (4, .invokestatic 72, 3, 5, 98, 3, [999, 15]), (7, .ifCond .ne 7, 3, 6, 8, 0, []), (10, .iconst 1, 1, 7, 1, 0, []), (11, .goto 4, 3, 8, 9, 0, []), (14, .iconst 0, 1, 9, 0, 0, []), (15, .iconst 0, 1, 10, 0, 0, []), (16, .iconst 0, 1, 11, 0, 0, []), (17, .iconst 0, 1, 12, 0, 0, []), (18, .invokevirtual 82, 3, 13, 97, 5, [6, 16]), (21, .ifCond .eq 5, 3, 14, 16, 0, []), (24, .iconst 0, 1, 15, 0, 0, []), (25, .ireturn, 1, 16, 0, 0, []), (26, .iload_n 1, 1, 17, 1, 0, []), (27, .iconst 2, 1, 18, 2, 0, []), (28, .if_icmp .ge 19, 3, 19, 27, 0, []), (31, .iload_n 1, 1, 20, 1, 0, []), (32, .ifCond .ne 10, 3, 21, 24, 0, []), (35, .aload_n 0, 1, 22, 0, 0, []), (36, .getfield 86, 3, 23, 6, 1, []), (39, .goto 7, 3, 24, 26, 0, []), (42, .aload_n 0, 1, 25, 0, 0, []), (43, .getfield 134, 3, 26, 6, 2, []), (46, .ireturn, 1, 27, 0, 0, []), (47, .iload_n 1, 1, 28, 1, 0, []), (48, .iconst 3, 1, 29, 3, 0, []), (49, .if_icmp .ne 8, 3, 30, 33, 0, []), (52, .aload_n 0, 1, 31, 0, 0, []), (53, .getfield 96, 3, 32, 6, 3, []), (56, .ireturn, 1, 33, 0, 0, []), (57, .iconst 0, 1, 34, 0, 0, []), (58, .istore_n 2, 1, 35, 2, 0, []), (59, .iconst 0, 1, 36, 0, 0, []), (60, .istore_n 3, 1, 37, 3, 0, []), (61, .iload_n 3, 1, 38, 3, 0, []), (62, .aload_n 0, 1, 39, 0, 0, []), (63, .getfield 79, 3, 40, 6, 20, []), (66, .if_icmp .ge 31, 3, 41, 57, 0, []), (69, .iload_n 1, 1, 42, 1, 0, []), (70, .iconst 2, 1, 43, 2, 0, []), (71, .if_icmp .ne 26, 3, 44, 57, 0, []), (74, .iload_n 2, 1, 45, 2, 0, []), (75, .aload_n 0, 1, 46, 0, 0, []), (76, .getfield 54, 3, 47, 6, 22, []), (79, .iload_n 3, 1, 48, 3, 0, []), (80, .baload, 1, 49, 0, 0, []), (81, .ifCond .eq 7, 3, 50, 52, 0, []), (84, .iconst 0, 1, 51, 0, 0, []), (85, .goto 4, 3, 52, 53, 0, []), (88, .iconst 1, 1, 53, 1, 0, []), (89, .iadd, 1, 54, 0, 0, []), (90, .istore_n 2, 1, 55, 2, 0, []), (91, .iinc 3 1, 3, 56, 3, 1, []), (94, .goto (-33), 3, 57, 37, 0, []), (97, .iconst 0, 1, 58, 0, 0, []), (98, .istore_n 3, 1, 59, 3, 0, []), (99, .iload_n 3, 1, 60, 3, 0, []), (100, .aload_n 0, 1, 61, 0, 0, []), (101, .getfield 69, 3, 62, 6, 5, []), (104, .if_icmp .ge 30, 3, 63, 78, 0, []), (107, .iload_n 1, 1, 64, 1, 0, []), (108, .iconst 4, 1, 65, 4, 0, []), (109, .if_icmp .ne 25, 3, 66, 78, 0, []), (112, .iload_n 2, 1, 67, 2, 0, []), (113, .aload_n 0, 1, 68, 0, 0, []), (114, .iload_n 3, 1, 69, 3, 0, []), (115, .invokevirtual 144, 3, 70, 125, 2, [6, 19]), (118, .ifCond .le 7, 3, 71, 73, 0, []), (121, .iconst 1, 1, 72, 1, 0, []), (122, .goto 4, 3, 73, 74, 0, []), (125, .iconst 0, 1, 74, 0, 0, []), (126, .iadd, 1, 75, 0, 0, []), (127, .istore_n 2, 1, 76, 2, 0, []), (128, .iinc 3 1, 3, 77, 3, 1, []), (131, .goto (-32), 3, 78, 59, 0, []), (134, .iload_n 2, 1, 79, 2, 0, []), (135, .ireturn, 1, 80, 0, 0, [])]
def xM_131 : xa_M := (⟨"ServiceRowsModel", "count", "(I)I"⟩, prog_8_method_37_code, 4, some .int, [], xR_131)
def xR_132 : List xa_R := [(0, .aload_n 3, 1, 1, 3, 0, []), (1, .iconst 0, 1, 2, 0, 0, []), (2, .aload_n 0, 1, 3, 0, 0, []), (3, .iload_n 1, 1, 4, 1, 0, []), (4, .iload_n 2, 1, 5, 2, 0, []), (5, .invokevirtual 7, 3, 6, 1, 3, [0, 17]), (8, .i2l, 1, 7, 0, 0, []), (9, .lastore, 1, 8, 0, 0, []), (10, .goto 11, 3, 9, 15, 0, []), (13, .astore 4, 2, 10, 4, 0, []), (15, .iconst 1, 1, 11, 1, 0, []), (16, .ireturn, 1, 12, 0, 0, []), (17, .astore 4, 2, 13, 4, 0, []), (19, .iconst 2, 1, 14, 2, 0, []), (20, .ireturn, 1, 15, 0, 0, []), (21, .iconst 0, 1, 16, 0, 0, []), (22, .ireturn, 1, 17, 0, 0, [])]
def xM_132 : xa_M := (⟨"ServiceRowsLaw", "vehicle", "(LServiceRows;IZ[J)I"⟩, method_3_code, 5, some .int, [((0, 10, 13, 13), 8, 9), ((0, 10, 17, 15), 10, 12)], xR_132)
def xR_133 : List xa_R := [(0, .aload 4, 2, 1, 4, 0, []), (2, .iconst 0, 1, 2, 0, 0, []), (3, .aload_n 0, 1, 3, 0, 0, []), (4, .iload_n 1, 1, 4, 1, 0, []), (5, .iload_n 2, 1, 5, 2, 0, []), (6, .iload_n 3, 1, 6, 3, 0, []), (7, .invokevirtual 17, 3, 7, 2, 4, [0, 17]), (10, .i2l, 1, 8, 0, 0, []), (11, .lastore, 1, 9, 0, 0, []), (12, .goto 11, 3, 10, 16, 0, []), (15, .astore 5, 2, 11, 5, 0, []), (17, .iconst 1, 1, 12, 1, 0, []), (18, .ireturn, 1, 13, 0, 0, []), (19, .astore 5, 2, 14, 5, 0, []), (21, .iconst 2, 1, 15, 2, 0, []), (22, .ireturn, 1, 16, 0, 0, []), (23, .iconst 0, 1, 17, 0, 0, []), (24, .ireturn, 1, 18, 0, 0, [])]
def xM_133 : xa_M := (⟨"ServiceRowsLaw", "rule", "(LServiceRows;III[J)I"⟩, method_4_code, 6, some .int, [((0, 12, 15, 13), 8, 10), ((0, 12, 19, 15), 10, 13)], xR_133)
def xR_134 : List xa_R := [(0, .aload_n 0, 1, 1, 0, 0, []), (1, .iload_n 1, 1, 2, 1, 0, []), (2, .invokevirtual 21, 3, 3, 3, 2, [0, 13]), (5, .goto 6, 3, 4, 7, 0, []), (8, .astore_n 2, 1, 5, 2, 0, []), (9, .iconst 1, 1, 6, 1, 0, []), (10, .ireturn, 1, 7, 0, 0, []), (11, .iconst 0, 1, 8, 0, 0, []), (12, .ireturn, 1, 9, 0, 0, [])]
def xM_134 : xa_M := (⟨"ServiceRowsLaw", "small", "(LServiceRows;I)I"⟩, method_5_code, 3, some .int, [((0, 5, 8, 13), 8, 4)], xR_134)
def xR_135 : List xa_R := [(0, .aload_n 0, 1, 1, 0, 0, []), (1, .iload_n 1, 1, 2, 1, 0, []), (2, .invokevirtual 25, 3, 3, 4, 2, [0, 13]), (5, .goto 6, 3, 4, 7, 0, []), (8, .astore_n 2, 1, 5, 2, 0, []), (9, .iconst 1, 1, 6, 1, 0, []), (10, .ireturn, 1, 7, 0, 0, []), (11, .iconst 0, 1, 8, 0, 0, []), (12, .ireturn, 1, 9, 0, 0, [])]
def xM_135 : xa_M := (⟨"ServiceRowsLaw", "day", "(LServiceRows;I)I"⟩, method_6_code, 3, some .int, [((0, 5, 8, 13), 8, 4)], xR_135)
def xR_136 : List xa_R := [(0, .aload_n 0, 1, 1, 0, 0, []), (1, .iload_n 1, 1, 2, 1, 0, []), (2, .iload_n 2, 1, 3, 2, 0, []), (3, .iload_n 3, 1, 4, 3, 0, []), (4, .invokevirtual 28, 3, 5, 5, 4, [0, 15]), (7, .goto 15, 3, 6, 15, 0, []), (10, .astore 4, 2, 7, 4, 0, []), (12, .iconst 1, 1, 8, 1, 0, []), (13, .ireturn, 1, 9, 0, 0, []), (14, .astore 4, 2, 10, 4, 0, []), (16, .iconst 2, 1, 11, 2, 0, []), (17, .ireturn, 1, 12, 0, 0, []), (18, .astore 4, 2, 13, 4, 0, []), (20, .iconst 3, 1, 14, 3, 0, []), (21, .ireturn, 1, 15, 0, 0, []), (22, .iconst 0, 1, 16, 0, 0, []), (23, .ireturn, 1, 17, 0, 0, [])]
def xM_136 : xa_M := (⟨"ServiceRowsLaw", "read", "(LServiceRows;III)I"⟩, method_7_code, 5, some .int, [((0, 7, 10, 32), 7, 6), ((0, 7, 14, 13), 8, 9), ((0, 7, 18, 34), 9, 12)], xR_136)
def xR_137 : List xa_R := [(0, .aload 4, 2, 1, 4, 0, []), (2, .iconst 0, 1, 2, 0, 0, []), (3, .aload_n 0, 1, 3, 0, 0, []), (4, .iload_n 1, 1, 4, 1, 0, []), (5, .iload_n 2, 1, 5, 2, 0, []), (6, .iload_n 3, 1, 6, 3, 0, []), (7, .invokevirtual 36, 3, 7, 6, 4, [0, 17]), (10, .i2l, 1, 8, 0, 0, []), (11, .lastore, 1, 9, 0, 0, []), (12, .goto 11, 3, 10, 16, 0, []), (15, .astore 5, 2, 11, 5, 0, []), (17, .iconst 1, 1, 12, 1, 0, []), (18, .ireturn, 1, 13, 0, 0, []), (19, .astore 5, 2, 14, 5, 0, []), (21, .iconst 2, 1, 15, 2, 0, []), (22, .ireturn, 1, 16, 0, 0, []), (23, .iconst 0, 1, 17, 0, 0, []), (24, .ireturn, 1, 18, 0, 0, [])]
def xM_137 : xa_M := (⟨"ServiceRowsLaw", "left", "(LServiceRows;III[J)I"⟩, method_8_code, 6, some .int, [((0, 12, 15, 32), 7, 10), ((0, 12, 19, 34), 9, 13)], xR_137)
def xR_138 : List xa_R := [(0, .aload_n 2, 1, 1, 2, 0, []), (1, .iconst 0, 1, 2, 0, 0, []), (2, .aload_n 0, 1, 3, 0, 0, []), (3, .iload_n 1, 1, 4, 1, 0, []), (4, .invokevirtual 39, 3, 5, 7, 2, [0, 15]), (7, .i2l, 1, 6, 0, 0, []), (8, .lastore, 1, 7, 0, 0, []), (9, .goto 6, 3, 8, 11, 0, []), (12, .astore_n 3, 1, 9, 3, 0, []), (13, .iconst 1, 1, 10, 1, 0, []), (14, .ireturn, 1, 11, 0, 0, []), (15, .iconst 0, 1, 12, 0, 0, []), (16, .ireturn, 1, 13, 0, 0, [])]
def xM_138 : xa_M := (⟨"ServiceRowsLaw", "due", "(LServiceRows;I[J)I"⟩, method_9_code, 4, some .int, [((0, 9, 12, 13), 8, 8)], xR_138)
def xR_139 : List xa_R := [(0, .aload_n 3, 1, 1, 3, 0, []), (1, .iconst 0, 1, 2, 0, 0, []), (2, .aload_n 0, 1, 3, 0, 0, []), (3, .iload_n 1, 1, 4, 1, 0, []), (4, .iload_n 2, 1, 5, 2, 0, []), (5, .invokevirtual 43, 3, 6, 8, 3, [0, 16]), (8, .i2l, 1, 7, 0, 0, []), (9, .lastore, 1, 8, 0, 0, []), (10, .goto 11, 3, 9, 15, 0, []), (13, .astore 4, 2, 10, 4, 0, []), (15, .iconst 1, 1, 11, 1, 0, []), (16, .ireturn, 1, 12, 0, 0, []), (17, .astore 4, 2, 13, 4, 0, []), (19, .iconst 2, 1, 14, 2, 0, []), (20, .ireturn, 1, 15, 0, 0, []), (21, .iconst 0, 1, 16, 0, 0, []), (22, .ireturn, 1, 17, 0, 0, [])]
def xM_139 : xa_M := (⟨"ServiceRowsLaw", "defect", "(LServiceRows;IZ[J)I"⟩, method_10_code, 5, some .int, [((0, 10, 13, 32), 7, 9), ((0, 10, 17, 15), 10, 12)], xR_139)
def xR_140 : List xa_R := [(0, .aload 5, 2, 1, 5, 0, []), (2, .iconst 0, 1, 2, 0, 0, []), (3, .aload_n 0, 1, 3, 0, 0, []), (4, .iload_n 1, 1, 4, 1, 0, []), (5, .iload_n 2, 1, 5, 2, 0, []), (6, .iload_n 3, 1, 6, 3, 0, []), (7, .iload 4, 2, 7, 4, 0, []), (9, .invokevirtual 46, 3, 8, 9, 5, [0, 19]), (12, .ifCond .eq 7, 3, 9, 11, 0, []), (15, .lconst 1, 1, 10, 1, 0, []), (16, .goto 4, 3, 11, 12, 0, []), (19, .lconst 0, 1, 12, 0, 0, []), (20, .lastore, 1, 13, 0, 0, []), (21, .goto 11, 3, 14, 20, 0, []), (24, .astore 6, 2, 15, 6, 0, []), (26, .iconst 1, 1, 16, 1, 0, []), (27, .ireturn, 1, 17, 0, 0, []), (28, .astore 6, 2, 18, 6, 0, []), (30, .iconst 2, 1, 19, 2, 0, []), (31, .ireturn, 1, 20, 0, 0, []), (32, .iconst 0, 1, 21, 0, 0, []), (33, .ireturn, 1, 22, 0, 0, [])]
def xM_140 : xa_M := (⟨"ServiceRowsLaw", "test", "(LServiceRows;IIII[J)I"⟩, method_11_code, 7, some .int, [((0, 21, 24, 32), 7, 14), ((0, 21, 28, 13), 8, 17)], xR_140)
def xR_141 : List xa_R := [(0, .aload_n 0, 1, 1, 0, 0, []), (1, .iload_n 1, 1, 2, 1, 0, []), (2, .iload_n 2, 1, 3, 2, 0, []), (3, .iload_n 3, 1, 4, 3, 0, []), (4, .invokevirtual 50, 3, 5, 10, 4, [0, 15]), (7, .goto 11, 3, 6, 12, 0, []), (10, .astore 4, 2, 7, 4, 0, []), (12, .iconst 1, 1, 8, 1, 0, []), (13, .ireturn, 1, 9, 0, 0, []), (14, .astore 4, 2, 10, 4, 0, []), (16, .iconst 2, 1, 11, 2, 0, []), (17, .ireturn, 1, 12, 0, 0, []), (18, .iconst 0, 1, 13, 0, 0, []), (19, .ireturn, 1, 14, 0, 0, [])]
def xM_141 : xa_M := (⟨"ServiceRowsLaw", "certificate", "(LServiceRows;III)I"⟩, method_12_code, 5, some .int, [((0, 7, 10, 32), 7, 6), ((0, 7, 14, 13), 8, 9)], xR_141)
def xR_142 : List xa_R := [(0, .aload_n 2, 1, 1, 2, 0, []), (1, .iconst 0, 1, 2, 0, 0, []), (2, .aload_n 0, 1, 3, 0, 0, []), (3, .iload_n 1, 1, 4, 1, 0, []), (4, .invokevirtual 53, 3, 5, 11, 2, [0, 16]), (7, .i2l, 1, 6, 0, 0, []), (8, .lastore, 1, 7, 0, 0, []), (9, .goto 9, 3, 8, 14, 0, []), (12, .astore_n 3, 1, 9, 3, 0, []), (13, .iconst 1, 1, 10, 1, 0, []), (14, .ireturn, 1, 11, 0, 0, []), (15, .astore_n 3, 1, 12, 3, 0, []), (16, .iconst 2, 1, 13, 2, 0, []), (17, .ireturn, 1, 14, 0, 0, []), (18, .iconst 0, 1, 15, 0, 0, []), (19, .ireturn, 1, 16, 0, 0, [])]
def xM_142 : xa_M := (⟨"ServiceRowsLaw", "order", "(LServiceRows;I[J)I"⟩, method_13_code, 4, some .int, [((0, 9, 12, 32), 7, 8), ((0, 9, 15, 15), 10, 11)], xR_142)
def xR_143 : List xa_R := [(0, .aload 4, 2, 1, 4, 0, []), (2, .iconst 0, 1, 2, 0, 0, []), (3, .aload_n 0, 1, 3, 0, 0, []), (4, .iload_n 1, 1, 4, 1, 0, []), (5, .iload_n 2, 1, 5, 2, 0, []), (6, .iload_n 3, 1, 6, 3, 0, []), (7, .invokevirtual 56, 3, 7, 12, 4, [0, 17]), (10, .i2l, 1, 8, 0, 0, []), (11, .lastore, 1, 9, 0, 0, []), (12, .goto 11, 3, 10, 16, 0, []), (15, .astore 5, 2, 11, 5, 0, []), (17, .iconst 1, 1, 12, 1, 0, []), (18, .ireturn, 1, 13, 0, 0, []), (19, .astore 5, 2, 14, 5, 0, []), (21, .iconst 2, 1, 15, 2, 0, []), (22, .ireturn, 1, 16, 0, 0, []), (23, .iconst 0, 1, 17, 0, 0, []), (24, .ireturn, 1, 18, 0, 0, [])]
def xM_143 : xa_M := (⟨"ServiceRowsLaw", "work", "(LServiceRows;IZI[J)I"⟩, method_14_code, 6, some .int, [((0, 12, 15, 32), 7, 10), ((0, 12, 19, 34), 9, 13)], xR_143)
def xR_144 : List xa_R := [(0, .aload 5, 2, 1, 5, 0, []), (2, .iconst 0, 1, 2, 0, 0, []), (3, .aload_n 0, 1, 3, 0, 0, []), (4, .iload_n 1, 1, 4, 1, 0, []), (5, .iload_n 2, 1, 5, 2, 0, []), (6, .iload_n 3, 1, 6, 3, 0, []), (7, .iload 4, 2, 7, 4, 0, []), (9, .invokevirtual 60, 3, 8, 13, 5, [0, 19]), (12, .i2l, 1, 9, 0, 0, []), (13, .lastore, 1, 10, 0, 0, []), (14, .goto 19, 3, 11, 23, 0, []), (17, .astore 6, 2, 12, 6, 0, []), (19, .iconst 1, 1, 13, 1, 0, []), (20, .ireturn, 1, 14, 0, 0, []), (21, .astore 6, 2, 15, 6, 0, []), (23, .iconst 2, 1, 16, 2, 0, []), (24, .ireturn, 1, 17, 0, 0, []), (25, .astore 6, 2, 18, 6, 0, []), (27, .iconst 3, 1, 19, 3, 0, []), (28, .ireturn, 1, 20, 0, 0, []), (29, .astore 6, 2, 21, 6, 0, []), (31, .iconst 4, 1, 22, 4, 0, []), (32, .ireturn, 1, 23, 0, 0, []), (33, .iconst 0, 1, 24, 0, 0, []), (34, .ireturn, 1, 25, 0, 0, [])]
def xM_144 : xa_M := (⟨"ServiceRowsLaw", "part", "(LServiceRows;IIII[J)I"⟩, method_15_code, 7, some .int, [((0, 14, 17, 32), 7, 11), ((0, 14, 21, 13), 8, 14), ((0, 14, 25, 34), 9, 17), ((0, 14, 29, 15), 10, 20)], xR_144)
def xR_145 : List xa_R := [(0, .aload_n 0, 1, 1, 0, 0, []), (1, .iload_n 1, 1, 2, 1, 0, []), (2, .iload_n 2, 1, 3, 2, 0, []), (3, .iload_n 3, 1, 4, 3, 0, []), (4, .invokevirtual 64, 3, 5, 14, 4, [0, 15]), (7, .goto 11, 3, 6, 12, 0, []), (10, .astore 4, 2, 7, 4, 0, []), (12, .iconst 1, 1, 8, 1, 0, []), (13, .ireturn, 1, 9, 0, 0, []), (14, .astore 4, 2, 10, 4, 0, []), (16, .iconst 2, 1, 11, 2, 0, []), (17, .ireturn, 1, 12, 0, 0, []), (18, .iconst 0, 1, 13, 0, 0, []), (19, .ireturn, 1, 14, 0, 0, [])]
def xM_145 : xa_M := (⟨"ServiceRowsLaw", "warranty", "(LServiceRows;III)I"⟩, method_16_code, 5, some .int, [((0, 7, 10, 32), 7, 6), ((0, 7, 14, 13), 8, 9)], xR_145)
def xR_146 : List xa_R := [(0, .aload_n 2, 1, 1, 2, 0, []), (1, .iconst 0, 1, 2, 0, 0, []), (2, .aload_n 0, 1, 3, 0, 0, []), (3, .iload_n 1, 1, 4, 1, 0, []), (4, .invokevirtual 67, 3, 5, 15, 2, [0, 15]), (7, .i2l, 1, 6, 0, 0, []), (8, .lastore, 1, 7, 0, 0, []), (9, .goto 9, 3, 8, 14, 0, []), (12, .astore_n 3, 1, 9, 3, 0, []), (13, .iconst 1, 1, 10, 1, 0, []), (14, .ireturn, 1, 11, 0, 0, []), (15, .astore_n 3, 1, 12, 3, 0, []), (16, .iconst 2, 1, 13, 2, 0, []), (17, .ireturn, 1, 14, 0, 0, []), (18, .iconst 0, 1, 15, 0, 0, []), (19, .ireturn, 1, 16, 0, 0, [])]
def xM_146 : xa_M := (⟨"ServiceRowsLaw", "budget", "(LServiceRows;I[J)I"⟩, method_17_code, 4, some .int, [((0, 9, 12, 13), 8, 8), ((0, 9, 15, 15), 10, 11)], xR_146)
def xR_147 : List xa_R := [(0, .aload_n 2, 1, 1, 2, 0, []), (1, .iconst 0, 1, 2, 0, 0, []), (2, .aload_n 0, 1, 3, 0, 0, []), (3, .iload_n 1, 1, 4, 1, 0, []), (4, .invokevirtual 70, 3, 5, 16, 2, [0, 15]), (7, .i2l, 1, 6, 0, 0, []), (8, .lastore, 1, 7, 0, 0, []), (9, .goto 9, 3, 8, 14, 0, []), (12, .astore_n 3, 1, 9, 3, 0, []), (13, .iconst 1, 1, 10, 1, 0, []), (14, .ireturn, 1, 11, 0, 0, []), (15, .astore_n 3, 1, 12, 3, 0, []), (16, .iconst 2, 1, 13, 2, 0, []), (17, .ireturn, 1, 14, 0, 0, []), (18, .iconst 0, 1, 15, 0, 0, []), (19, .ireturn, 1, 16, 0, 0, [])]
def xM_147 : xa_M := (⟨"ServiceRowsLaw", "done", "(LServiceRows;I[J)I"⟩, method_18_code, 4, some .int, [((0, 9, 12, 32), 7, 8), ((0, 9, 15, 34), 9, 11)], xR_147)
def xR_148 : List xa_R := [(0, .aload_n 2, 1, 1, 2, 0, []), (1, .iconst 0, 1, 2, 0, 0, []), (2, .aload_n 0, 1, 3, 0, 0, []), (3, .iload_n 1, 1, 4, 1, 0, []), (4, .invokevirtual 73, 3, 5, 17, 2, [0, 15]), (7, .i2l, 1, 6, 0, 0, []), (8, .lastore, 1, 7, 0, 0, []), (9, .goto 6, 3, 8, 11, 0, []), (12, .astore_n 3, 1, 9, 3, 0, []), (13, .iconst 1, 1, 10, 1, 0, []), (14, .ireturn, 1, 11, 0, 0, []), (15, .iconst 0, 1, 12, 0, 0, []), (16, .ireturn, 1, 13, 0, 0, [])]
def xM_148 : xa_M := (⟨"ServiceRowsLaw", "barred", "(LServiceRows;I[J)I"⟩, method_19_code, 4, some .int, [((0, 9, 12, 32), 7, 8)], xR_148)
def xR_149 : List xa_R := [(0, .aload_n 2, 1, 1, 2, 0, []), (1, .iconst 0, 1, 2, 0, 0, []), (2, .aload_n 0, 1, 3, 0, 0, []), (3, .iload_n 1, 1, 4, 1, 0, []), (4, .invokevirtual 76, 3, 5, 18, 2, [0, 17]), (7, .i2l, 1, 6, 0, 0, []), (8, .lastore, 1, 7, 0, 0, []), (9, .goto 6, 3, 8, 11, 0, []), (12, .astore_n 3, 1, 9, 3, 0, []), (13, .iconst 1, 1, 10, 1, 0, []), (14, .ireturn, 1, 11, 0, 0, []), (15, .iconst 0, 1, 12, 0, 0, []), (16, .ireturn, 1, 13, 0, 0, [])]
def xM_149 : xa_M := (⟨"ServiceRowsLaw", "spare", "(LServiceRows;I[J)I"⟩, method_20_code, 4, some .int, [((0, 9, 12, 32), 7, 8)], xR_149)
def xR_150 : List xa_R := [(0, .aload_n 3, 1, 1, 3, 0, []), (1, .iconst 0, 1, 2, 0, 0, []), (2, .aload_n 0, 1, 3, 0, 0, []), (3, .iload_n 1, 1, 4, 1, 0, []), (4, .iload_n 2, 1, 5, 2, 0, []), (5, .invokevirtual 79, 3, 6, 19, 3, [0, 16]), (8, .i2l, 1, 7, 0, 0, []), (9, .lastore, 1, 8, 0, 0, []), (10, .goto 15, 3, 9, 18, 0, []), (13, .astore 4, 2, 10, 4, 0, []), (15, .iconst 1, 1, 11, 1, 0, []), (16, .ireturn, 1, 12, 0, 0, []), (17, .astore 4, 2, 13, 4, 0, []), (19, .iconst 2, 1, 14, 2, 0, []), (20, .ireturn, 1, 15, 0, 0, []), (21, .astore 4, 2, 16, 4, 0, []), (23, .iconst 3, 1, 17, 3, 0, []), (24, .ireturn, 1, 18, 0, 0, []), (25, .iconst 0, 1, 19, 0, 0, []), (26, .ireturn, 1, 20, 0, 0, [])]
def xM_150 : xa_M := (⟨"ServiceRowsLaw", "oil", "(LServiceRows;II[J)I"⟩, method_21_code, 5, some .int, [((0, 10, 13, 32), 7, 9), ((0, 10, 17, 13), 8, 12), ((0, 10, 21, 15), 10, 15)], xR_150)
def xR_151 : List xa_R := [(0, .aload_n 3, 1, 1, 3, 0, []), (1, .iconst 0, 1, 2, 0, 0, []), (2, .aload_n 0, 1, 3, 0, 0, []), (3, .iload_n 1, 1, 4, 1, 0, []), (4, .iload_n 2, 1, 5, 2, 0, []), (5, .invokevirtual 83, 3, 6, 20, 3, [0, 22]), (8, .lastore, 1, 7, 0, 0, []), (9, .goto 11, 3, 8, 14, 0, []), (12, .astore 4, 2, 9, 4, 0, []), (14, .iconst 1, 1, 10, 1, 0, []), (15, .ireturn, 1, 11, 0, 0, []), (16, .astore 4, 2, 12, 4, 0, []), (18, .iconst 2, 1, 13, 2, 0, []), (19, .ireturn, 1, 14, 0, 0, []), (20, .iconst 0, 1, 15, 0, 0, []), (21, .ireturn, 1, 16, 0, 0, [])]
def xM_151 : xa_M := (⟨"ServiceRowsLaw", "oilPer", "(LServiceRows;II[J)I"⟩, method_22_code, 5, some .int, [((0, 9, 12, 32), 7, 8), ((0, 9, 16, 87), 11, 11)], xR_151)
def xR_152 : List xa_R := [(0, .aload_n 3, 1, 1, 3, 0, []), (1, .iconst 0, 1, 2, 0, 0, []), (2, .aload_n 0, 1, 3, 0, 0, []), (3, .iload_n 1, 1, 4, 1, 0, []), (4, .iload_n 2, 1, 5, 2, 0, []), (5, .invokevirtual 89, 3, 6, 21, 3, [0, 16]), (8, .i2l, 1, 7, 0, 0, []), (9, .lastore, 1, 8, 0, 0, []), (10, .goto 7, 3, 9, 12, 0, []), (13, .astore 4, 2, 10, 4, 0, []), (15, .iconst 1, 1, 11, 1, 0, []), (16, .ireturn, 1, 12, 0, 0, []), (17, .iconst 0, 1, 13, 0, 0, []), (18, .ireturn, 1, 14, 0, 0, [])]
def xM_152 : xa_M := (⟨"ServiceRowsLaw", "defectAt", "(LServiceRows;II[J)I"⟩, method_23_code, 5, some .int, [((0, 10, 13, 32), 7, 9)], xR_152)
def xR_153 : List xa_R := [(0, .aload_n 2, 1, 1, 2, 0, []), (1, .iconst 0, 1, 2, 0, 0, []), (2, .aload_n 0, 1, 3, 0, 0, []), (3, .iload_n 1, 1, 4, 1, 0, []), (4, .invokevirtual 92, 3, 5, 22, 2, [0, 15]), (7, .i2l, 1, 6, 0, 0, []), (8, .lastore, 1, 7, 0, 0, []), (9, .goto 6, 3, 8, 11, 0, []), (12, .astore_n 3, 1, 9, 3, 0, []), (13, .iconst 1, 1, 10, 1, 0, []), (14, .ireturn, 1, 11, 0, 0, []), (15, .iconst 0, 1, 12, 0, 0, []), (16, .ireturn, 1, 13, 0, 0, [])]
def xM_153 : xa_M := (⟨"ServiceRowsLaw", "count", "(LServiceRows;I[J)I"⟩, method_24_code, 4, some .int, [((0, 9, 12, 32), 7, 8)], xR_153)
def xR_154_0 : List xa_R := [(0, .new 8, 3, 1, 0, 0, [1, 1, 1, 1, 1, 0, 0, 0, 0]), (3, .dup, 1, 2, 0, 0, []), (4, .invokespecial 95, 3, 3, 0, 1, [0, 13]), (7, .astore_n 1, 1, 4, 1, 0, []), (8, .new 96, 3, 5, 6, 0, [0, 0, 0, 0, 0, 0, 1, 1, 1, 1, 1, 0, 1, 1, 1, 1, 0, 1, 1, 1, 0, 1, 1, 1, 1, 1, 0]), (11, .dup, 1, 6, 0, 0, []), (12, .invokespecial 98, 3, 7, 95, 1, [6, 13]), (15, .astore_n 2, 1, 8, 2, 0, []), (16, .iconst 1, 1, 9, 1, 0, []), (17, .newarray .long, 2, 10, 2, 0, []), (19, .astore_n 3, 1, 11, 3, 0, []), (20, .iconst 0, 1, 12, 0, 0, []), (21, .istore 4, 2, 13, 4, 0, []), (23, .iload 4, 2, 14, 4, 0, []), (25, .aload_n 0, 1, 15, 0, 0, []), (26, .arraylength, 1, 16, 0, 0, []), (27, .iconst 5, 1, 17, 5, 0, []), (28, .isub, 1, 18, 0, 0, []), (29, .if_icmp .gt 1579, 3, 19, 988, 0, []), (32, .aload_n 0, 1, 20, 0, 0, []), (33, .iload 4, 2, 21, 4, 0, []), (35, .iaload, 1, 22, 0, 0, []), (36, .bipush 31, 2, 23, 31, 0, []), (38, .iand, 1, 24, 0, 0, []), (39, .tableswitch 1563 0 21 #[101, 185, 265, 301, 337, 397, 477, 533, 617, 716, 776, 832, 928, 1020, 1080, 1136, 1192, 1248, 1304, 1372, 1439, 1507], 101, 25, 0, 21, [986, 25, 78, 133, 155, 177, 219, 274, 309, 362, 430, 472, 507, 570, 635, 677, 712, 747, 782, 817, 862, 906, 951]), (140, .aload_n 1, 1, 26, 1, 0, []), (141, .aload_n 0, 1, 27, 0, 0, []), (142, .iload 4, 2, 28, 4, 0, []), (144, .iconst 1, 1, 29, 1, 0, []), (145, .iadd, 1, 30, 0, 0, []), (146, .iaload, 1, 31, 0, 0, []), (147, .aload_n 0, 1, 32, 0, 0, []), (148, .iload 4, 2, 33, 4, 0, []), (150, .iconst 2, 1, 34, 2, 0, []), (151, .iadd, 1, 35, 0, 0, []), (152, .iaload, 1, 36, 0, 0, []), (153, .ifCond .eq 7, 3, 37, 39, 0, []), (156, .iconst 1, 1, 38, 1, 0, []), (157, .goto 4, 3, 39, 40, 0, []), (160, .iconst 0, 1, 40, 0, 0, []), (161, .aload_n 3, 1, 41, 3, 0, []), (162, .invokestatic 99, 3, 42, 132, 4, [999, 16]), (165, .istore 5, 2, 43, 5, 0, []), (167, .aload_n 2, 1, 44, 2, 0, []), (168, .aload_n 0, 1, 45, 0, 0, []), (169, .iload 4, 2, 46, 4, 0, []), (171, .iconst 1, 1, 47, 1, 0, []), (172, .iadd, 1, 48, 0, 0, []), (173, .iaload, 1, 49, 0, 0, []), (174, .aload_n 0, 1, 50, 0, 0, []), (175, .iload 4, 2, 51, 4, 0, []), (177, .iconst 2, 1, 52, 2, 0, []), (178, .iadd, 1, 53, 0, 0, []), (179, .iaload, 1, 54, 0, 0, []), (180, .ifCond .eq 7, 3, 55, 57, 0, []), (183, .iconst 1, 1, 56, 1, 0, []), (184, .goto 4, 3, 57, 58, 0, []), (187, .iconst 0, 1, 58, 0, 0, []), (188, .invokevirtual 104, 3, 59, 102, 3, [6, 15]), (191, .istore 6, 2, 60, 6, 0, []), (193, .aload_n 2, 1, 61, 2, 0, []), (194, .invokevirtual 105, 3, 62, 96, 1, [6, 12]), (197, .iload 5, 2, 63, 5, 0, []), (199, .if_icmp .eq 5, 3, 64, 66, 0, []), (202, .iconst 0, 1, 65, 0, 0, []), (203, .ireturn, 1, 66, 0, 0, []), (204, .iload 5, 2, 67, 5, 0, []), (206, .ifCond .ne 15, 3, 68, 77, 0, []), (209, .aload_n 3, 1, 69, 3, 0, []), (210, .iconst 0, 1, 70, 0, 0, []), (211, .laload, 1, 71, 0, 0, []), (212, .iload 6, 2, 72, 6, 0, []), (214, .i2l, 1, 73, 0, 0, []), (215, .lcmp, 1, 74, 0, 0, []), (216, .ifCond .eq 5, 3, 75, 77, 0, []), (219, .iconst 0, 1, 76, 0, 0, []), (220, .ireturn, 1, 77, 0, 0, []), (221, .goto 1381, 3, 78, 986, 0, []), (224, .aload_n 1, 1, 79, 1, 0, []), (225, .aload_n 0, 1, 80, 0, 0, []), (226, .iload 4, 2, 81, 4, 0, []), (228, .iconst 1, 1, 82, 1, 0, []), (229, .iadd, 1, 83, 0, 0, []), (230, .iaload, 1, 84, 0, 0, []), (231, .aload_n 0, 1, 85, 0, 0, []), (232, .iload 4, 2, 86, 4, 0, []), (234, .iconst 2, 1, 87, 2, 0, []), (235, .iadd, 1, 88, 0, 0, []), (236, .iaload, 1, 89, 0, 0, []), (237, .aload_n 0, 1, 90, 0, 0, []), (238, .iload 4, 2, 91, 4, 0, []), (240, .iconst 3, 1, 92, 3, 0, []), (241, .iadd, 1, 93, 0, 0, []), (242, .iaload, 1, 94, 0, 0, []), (243, .aload_n 3, 1, 95, 3, 0, []), (244, .invokestatic 109, 3, 96, 133, 5, [999, 17]), (247, .istore 5, 2, 97, 5, 0, []), (249, .aload_n 2, 1, 98, 2, 0, []), (250, .aload_n 0, 1, 99, 0, 0, []), (251, .iload 4, 2, 100, 4, 0, [])]
def xR_154_1 : List xa_R := [(253, .iconst 1, 1, 101, 1, 0, []), (254, .iadd, 1, 102, 0, 0, []), (255, .iaload, 1, 103, 0, 0, []), (256, .aload_n 0, 1, 104, 0, 0, []), (257, .iload 4, 2, 105, 4, 0, []), (259, .iconst 2, 1, 106, 2, 0, []), (260, .iadd, 1, 107, 0, 0, []), (261, .iaload, 1, 108, 0, 0, []), (262, .aload_n 0, 1, 109, 0, 0, []), (263, .iload 4, 2, 110, 4, 0, []), (265, .iconst 3, 1, 111, 3, 0, []), (266, .iadd, 1, 112, 0, 0, []), (267, .iaload, 1, 113, 0, 0, []), (268, .invokevirtual 112, 3, 114, 103, 4, [6, 16]), (271, .istore 6, 2, 115, 6, 0, []), (273, .aload_n 2, 1, 116, 2, 0, []), (274, .invokevirtual 105, 3, 117, 96, 1, [6, 12]), (277, .iload 5, 2, 118, 5, 0, []), (279, .if_icmp .eq 5, 3, 119, 121, 0, []), (282, .iconst 0, 1, 120, 0, 0, []), (283, .ireturn, 1, 121, 0, 0, []), (284, .iload 5, 2, 122, 5, 0, []), (286, .ifCond .ne 15, 3, 123, 132, 0, []), (289, .aload_n 3, 1, 124, 3, 0, []), (290, .iconst 0, 1, 125, 0, 0, []), (291, .laload, 1, 126, 0, 0, []), (292, .iload 6, 2, 127, 6, 0, []), (294, .i2l, 1, 128, 0, 0, []), (295, .lcmp, 1, 129, 0, 0, []), (296, .ifCond .eq 5, 3, 130, 132, 0, []), (299, .iconst 0, 1, 131, 0, 0, []), (300, .ireturn, 1, 132, 0, 0, []), (301, .goto 1301, 3, 133, 986, 0, []), (304, .aload_n 1, 1, 134, 1, 0, []), (305, .aload_n 0, 1, 135, 0, 0, []), (306, .iload 4, 2, 136, 4, 0, []), (308, .iconst 1, 1, 137, 1, 0, []), (309, .iadd, 1, 138, 0, 0, []), (310, .iaload, 1, 139, 0, 0, []), (311, .invokestatic 113, 3, 140, 134, 2, [999, 14]), (314, .istore 5, 2, 141, 5, 0, []), (316, .aload_n 2, 1, 142, 2, 0, []), (317, .aload_n 0, 1, 143, 0, 0, []), (318, .iload 4, 2, 144, 4, 0, []), (320, .iconst 1, 1, 145, 1, 0, []), (321, .iadd, 1, 146, 0, 0, []), (322, .iaload, 1, 147, 0, 0, []), (323, .invokevirtual 116, 3, 148, 104, 2, [6, 13]), (326, .aload_n 2, 1, 149, 2, 0, []), (327, .invokevirtual 105, 3, 150, 96, 1, [6, 12]), (330, .iload 5, 2, 151, 5, 0, []), (332, .if_icmp .eq 5, 3, 152, 154, 0, []), (335, .iconst 0, 1, 153, 0, 0, []), (336, .ireturn, 1, 154, 0, 0, []), (337, .goto 1265, 3, 155, 986, 0, []), (340, .aload_n 1, 1, 156, 1, 0, []), (341, .aload_n 0, 1, 157, 0, 0, []), (342, .iload 4, 2, 158, 4, 0, []), (344, .iconst 1, 1, 159, 1, 0, []), (345, .iadd, 1, 160, 0, 0, []), (346, .iaload, 1, 161, 0, 0, []), (347, .invokestatic 117, 3, 162, 135, 2, [999, 14]), (350, .istore 5, 2, 163, 5, 0, []), (352, .aload_n 2, 1, 164, 2, 0, []), (353, .aload_n 0, 1, 165, 0, 0, []), (354, .iload 4, 2, 166, 4, 0, []), (356, .iconst 1, 1, 167, 1, 0, []), (357, .iadd, 1, 168, 0, 0, []), (358, .iaload, 1, 169, 0, 0, []), (359, .invokevirtual 119, 3, 170, 105, 2, [6, 13]), (362, .aload_n 2, 1, 171, 2, 0, []), (363, .invokevirtual 105, 3, 172, 96, 1, [6, 12]), (366, .iload 5, 2, 173, 5, 0, []), (368, .if_icmp .eq 5, 3, 174, 176, 0, []), (371, .iconst 0, 1, 175, 0, 0, []), (372, .ireturn, 1, 176, 0, 0, []), (373, .goto 1229, 3, 177, 986, 0, []), (376, .aload_n 1, 1, 178, 1, 0, []), (377, .aload_n 0, 1, 179, 0, 0, []), (378, .iload 4, 2, 180, 4, 0, []), (380, .iconst 1, 1, 181, 1, 0, []), (381, .iadd, 1, 182, 0, 0, []), (382, .iaload, 1, 183, 0, 0, []), (383, .aload_n 0, 1, 184, 0, 0, []), (384, .iload 4, 2, 185, 4, 0, []), (386, .iconst 2, 1, 186, 2, 0, []), (387, .iadd, 1, 187, 0, 0, []), (388, .iaload, 1, 188, 0, 0, []), (389, .aload_n 0, 1, 189, 0, 0, []), (390, .iload 4, 2, 190, 4, 0, []), (392, .iconst 3, 1, 191, 3, 0, []), (393, .iadd, 1, 192, 0, 0, []), (394, .iaload, 1, 193, 0, 0, []), (395, .invokestatic 120, 3, 194, 136, 4, [999, 16]), (398, .istore 5, 2, 195, 5, 0, []), (400, .aload_n 2, 1, 196, 2, 0, []), (401, .aload_n 0, 1, 197, 0, 0, []), (402, .iload 4, 2, 198, 4, 0, []), (404, .iconst 1, 1, 199, 1, 0, []), (405, .iadd, 1, 200, 0, 0, [])]
def xR_154_2 : List xa_R := [(406, .iaload, 1, 201, 0, 0, []), (407, .aload_n 0, 1, 202, 0, 0, []), (408, .iload 4, 2, 203, 4, 0, []), (410, .iconst 2, 1, 204, 2, 0, []), (411, .iadd, 1, 205, 0, 0, []), (412, .iaload, 1, 206, 0, 0, []), (413, .aload_n 0, 1, 207, 0, 0, []), (414, .iload 4, 2, 208, 4, 0, []), (416, .iconst 3, 1, 209, 3, 0, []), (417, .iadd, 1, 210, 0, 0, []), (418, .iaload, 1, 211, 0, 0, []), (419, .invokevirtual 123, 3, 212, 106, 4, [6, 18]), (422, .aload_n 2, 1, 213, 2, 0, []), (423, .invokevirtual 105, 3, 214, 96, 1, [6, 12]), (426, .iload 5, 2, 215, 5, 0, []), (428, .if_icmp .eq 5, 3, 216, 218, 0, []), (431, .iconst 0, 1, 217, 0, 0, []), (432, .ireturn, 1, 218, 0, 0, []), (433, .goto 1169, 3, 219, 986, 0, []), (436, .aload_n 1, 1, 220, 1, 0, []), (437, .aload_n 0, 1, 221, 0, 0, []), (438, .iload 4, 2, 222, 4, 0, []), (440, .iconst 1, 1, 223, 1, 0, []), (441, .iadd, 1, 224, 0, 0, []), (442, .iaload, 1, 225, 0, 0, []), (443, .aload_n 0, 1, 226, 0, 0, []), (444, .iload 4, 2, 227, 4, 0, []), (446, .iconst 2, 1, 228, 2, 0, []), (447, .iadd, 1, 229, 0, 0, []), (448, .iaload, 1, 230, 0, 0, []), (449, .aload_n 0, 1, 231, 0, 0, []), (450, .iload 4, 2, 232, 4, 0, []), (452, .iconst 3, 1, 233, 3, 0, []), (453, .iadd, 1, 234, 0, 0, []), (454, .iaload, 1, 235, 0, 0, []), (455, .aload_n 3, 1, 236, 3, 0, []), (456, .invokestatic 124, 3, 237, 137, 5, [999, 17]), (459, .istore 5, 2, 238, 5, 0, []), (461, .aload_n 2, 1, 239, 2, 0, []), (462, .aload_n 0, 1, 240, 0, 0, []), (463, .iload 4, 2, 241, 4, 0, []), (465, .iconst 1, 1, 242, 1, 0, []), (466, .iadd, 1, 243, 0, 0, []), (467, .iaload, 1, 244, 0, 0, []), (468, .aload_n 0, 1, 245, 0, 0, []), (469, .iload 4, 2, 246, 4, 0, []), (471, .iconst 2, 1, 247, 2, 0, []), (472, .iadd, 1, 248, 0, 0, []), (473, .iaload, 1, 249, 0, 0, []), (474, .aload_n 0, 1, 250, 0, 0, []), (475, .iload 4, 2, 251, 4, 0, []), (477, .iconst 3, 1, 252, 3, 0, []), (478, .iadd, 1, 253, 0, 0, []), (479, .iaload, 1, 254, 0, 0, []), (480, .invokevirtual 126, 3, 255, 109, 4, [6, 16]), (483, .istore 6, 2, 256, 6, 0, []), (485, .aload_n 2, 1, 257, 2, 0, []), (486, .invokevirtual 105, 3, 258, 96, 1, [6, 12]), (489, .iload 5, 2, 259, 5, 0, []), (491, .if_icmp .eq 5, 3, 260, 262, 0, []), (494, .iconst 0, 1, 261, 0, 0, []), (495, .ireturn, 1, 262, 0, 0, []), (496, .iload 5, 2, 263, 5, 0, []), (498, .ifCond .ne 15, 3, 264, 273, 0, []), (501, .aload_n 3, 1, 265, 3, 0, []), (502, .iconst 0, 1, 266, 0, 0, []), (503, .laload, 1, 267, 0, 0, []), (504, .iload 6, 2, 268, 6, 0, []), (506, .i2l, 1, 269, 0, 0, []), (507, .lcmp, 1, 270, 0, 0, []), (508, .ifCond .eq 5, 3, 271, 273, 0, []), (511, .iconst 0, 1, 272, 0, 0, []), (512, .ireturn, 1, 273, 0, 0, []), (513, .goto 1089, 3, 274, 986, 0, []), (516, .aload_n 1, 1, 275, 1, 0, []), (517, .aload_n 0, 1, 276, 0, 0, []), (518, .iload 4, 2, 277, 4, 0, []), (520, .iconst 1, 1, 278, 1, 0, []), (521, .iadd, 1, 279, 0, 0, []), (522, .iaload, 1, 280, 0, 0, []), (523, .aload_n 3, 1, 281, 3, 0, []), (524, .invokestatic 127, 3, 282, 138, 3, [999, 15]), (527, .istore 5, 2, 283, 5, 0, []), (529, .aload_n 2, 1, 284, 2, 0, []), (530, .aload_n 0, 1, 285, 0, 0, []), (531, .iload 4, 2, 286, 4, 0, []), (533, .iconst 1, 1, 287, 1, 0, []), (534, .iadd, 1, 288, 0, 0, []), (535, .iaload, 1, 289, 0, 0, []), (536, .invokevirtual 130, 3, 290, 113, 2, [6, 18]), (539, .istore 6, 2, 291, 6, 0, []), (541, .aload_n 2, 1, 292, 2, 0, []), (542, .invokevirtual 105, 3, 293, 96, 1, [6, 12]), (545, .iload 5, 2, 294, 5, 0, []), (547, .if_icmp .eq 5, 3, 295, 297, 0, []), (550, .iconst 0, 1, 296, 0, 0, []), (551, .ireturn, 1, 297, 0, 0, []), (552, .iload 5, 2, 298, 5, 0, []), (554, .ifCond .ne 15, 3, 299, 308, 0, []), (557, .aload_n 3, 1, 300, 3, 0, [])]
def xR_154_3 : List xa_R := [(558, .iconst 0, 1, 301, 0, 0, []), (559, .laload, 1, 302, 0, 0, []), (560, .iload 6, 2, 303, 6, 0, []), (562, .i2l, 1, 304, 0, 0, []), (563, .lcmp, 1, 305, 0, 0, []), (564, .ifCond .eq 5, 3, 306, 308, 0, []), (567, .iconst 0, 1, 307, 0, 0, []), (568, .ireturn, 1, 308, 0, 0, []), (569, .goto 1033, 3, 309, 986, 0, []), (572, .aload_n 1, 1, 310, 1, 0, []), (573, .aload_n 0, 1, 311, 0, 0, []), (574, .iload 4, 2, 312, 4, 0, []), (576, .iconst 1, 1, 313, 1, 0, []), (577, .iadd, 1, 314, 0, 0, []), (578, .iaload, 1, 315, 0, 0, []), (579, .aload_n 0, 1, 316, 0, 0, []), (580, .iload 4, 2, 317, 4, 0, []), (582, .iconst 2, 1, 318, 2, 0, []), (583, .iadd, 1, 319, 0, 0, []), (584, .iaload, 1, 320, 0, 0, []), (585, .ifCond .eq 7, 3, 321, 323, 0, []), (588, .iconst 1, 1, 322, 1, 0, []), (589, .goto 4, 3, 323, 324, 0, []), (592, .iconst 0, 1, 324, 0, 0, []), (593, .aload_n 3, 1, 325, 3, 0, []), (594, .invokestatic 131, 3, 326, 139, 4, [999, 16]), (597, .istore 5, 2, 327, 5, 0, []), (599, .aload_n 2, 1, 328, 2, 0, []), (600, .aload_n 0, 1, 329, 0, 0, []), (601, .iload 4, 2, 330, 4, 0, []), (603, .iconst 1, 1, 331, 1, 0, []), (604, .iadd, 1, 332, 0, 0, []), (605, .iaload, 1, 333, 0, 0, []), (606, .aload_n 0, 1, 334, 0, 0, []), (607, .iload 4, 2, 335, 4, 0, []), (609, .iconst 2, 1, 336, 2, 0, []), (610, .iadd, 1, 337, 0, 0, []), (611, .iaload, 1, 338, 0, 0, []), (612, .ifCond .eq 7, 3, 339, 341, 0, []), (615, .iconst 1, 1, 340, 1, 0, []), (616, .goto 4, 3, 341, 342, 0, []), (619, .iconst 0, 1, 342, 0, 0, []), (620, .invokevirtual 133, 3, 343, 114, 3, [6, 14]), (623, .istore 6, 2, 344, 6, 0, []), (625, .aload_n 2, 1, 345, 2, 0, []), (626, .invokevirtual 105, 3, 346, 96, 1, [6, 12]), (629, .iload 5, 2, 347, 5, 0, []), (631, .if_icmp .eq 5, 3, 348, 350, 0, []), (634, .iconst 0, 1, 349, 0, 0, []), (635, .ireturn, 1, 350, 0, 0, []), (636, .iload 5, 2, 351, 5, 0, []), (638, .ifCond .ne 15, 3, 352, 361, 0, []), (641, .aload_n 3, 1, 353, 3, 0, []), (642, .iconst 0, 1, 354, 0, 0, []), (643, .laload, 1, 355, 0, 0, []), (644, .iload 6, 2, 356, 6, 0, []), (646, .i2l, 1, 357, 0, 0, []), (647, .lcmp, 1, 358, 0, 0, []), (648, .ifCond .eq 5, 3, 359, 361, 0, []), (651, .iconst 0, 1, 360, 0, 0, []), (652, .ireturn, 1, 361, 0, 0, []), (653, .goto 949, 3, 362, 986, 0, []), (656, .aload_n 1, 1, 363, 1, 0, []), (657, .aload_n 0, 1, 364, 0, 0, []), (658, .iload 4, 2, 365, 4, 0, []), (660, .iconst 1, 1, 366, 1, 0, []), (661, .iadd, 1, 367, 0, 0, []), (662, .iaload, 1, 368, 0, 0, []), (663, .aload_n 0, 1, 369, 0, 0, []), (664, .iload 4, 2, 370, 4, 0, []), (666, .iconst 2, 1, 371, 2, 0, []), (667, .iadd, 1, 372, 0, 0, []), (668, .iaload, 1, 373, 0, 0, []), (669, .aload_n 0, 1, 374, 0, 0, []), (670, .iload 4, 2, 375, 4, 0, []), (672, .iconst 3, 1, 376, 3, 0, []), (673, .iadd, 1, 377, 0, 0, []), (674, .iaload, 1, 378, 0, 0, []), (675, .aload_n 0, 1, 379, 0, 0, []), (676, .iload 4, 2, 380, 4, 0, []), (678, .iconst 4, 1, 381, 4, 0, []), (679, .iadd, 1, 382, 0, 0, []), (680, .iaload, 1, 383, 0, 0, []), (681, .aload_n 3, 1, 384, 3, 0, []), (682, .invokestatic 134, 3, 385, 140, 6, [999, 18]), (685, .istore 5, 2, 386, 5, 0, []), (687, .aload_n 2, 1, 387, 2, 0, []), (688, .aload_n 0, 1, 388, 0, 0, []), (689, .iload 4, 2, 389, 4, 0, []), (691, .iconst 1, 1, 390, 1, 0, []), (692, .iadd, 1, 391, 0, 0, []), (693, .iaload, 1, 392, 0, 0, []), (694, .aload_n 0, 1, 393, 0, 0, []), (695, .iload 4, 2, 394, 4, 0, []), (697, .iconst 2, 1, 395, 2, 0, []), (698, .iadd, 1, 396, 0, 0, []), (699, .iaload, 1, 397, 0, 0, []), (700, .aload_n 0, 1, 398, 0, 0, []), (701, .iload 4, 2, 399, 4, 0, []), (703, .iconst 3, 1, 400, 3, 0, [])]
def xR_154_4 : List xa_R := [(704, .iadd, 1, 401, 0, 0, []), (705, .iaload, 1, 402, 0, 0, []), (706, .aload_n 0, 1, 403, 0, 0, []), (707, .iload 4, 2, 404, 4, 0, []), (709, .iconst 4, 1, 405, 4, 0, []), (710, .iadd, 1, 406, 0, 0, []), (711, .iaload, 1, 407, 0, 0, []), (712, .invokevirtual 137, 3, 408, 115, 5, [6, 18]), (715, .istore 6, 2, 409, 6, 0, []), (717, .aload_n 2, 1, 410, 2, 0, []), (718, .invokevirtual 105, 3, 411, 96, 1, [6, 12]), (721, .iload 5, 2, 412, 5, 0, []), (723, .if_icmp .eq 5, 3, 413, 415, 0, []), (726, .iconst 0, 1, 414, 0, 0, []), (727, .ireturn, 1, 415, 0, 0, []), (728, .iload 5, 2, 416, 5, 0, []), (730, .ifCond .ne 22, 3, 417, 429, 0, []), (733, .aload_n 3, 1, 418, 3, 0, []), (734, .iconst 0, 1, 419, 0, 0, []), (735, .laload, 1, 420, 0, 0, []), (736, .iload 6, 2, 421, 6, 0, []), (738, .ifCond .eq 7, 3, 422, 424, 0, []), (741, .lconst 1, 1, 423, 1, 0, []), (742, .goto 4, 3, 424, 425, 0, []), (745, .lconst 0, 1, 425, 0, 0, []), (746, .lcmp, 1, 426, 0, 0, []), (747, .ifCond .eq 5, 3, 427, 429, 0, []), (750, .iconst 0, 1, 428, 0, 0, []), (751, .ireturn, 1, 429, 0, 0, []), (752, .goto 850, 3, 430, 986, 0, []), (755, .aload_n 1, 1, 431, 1, 0, []), (756, .aload_n 0, 1, 432, 0, 0, []), (757, .iload 4, 2, 433, 4, 0, []), (759, .iconst 1, 1, 434, 1, 0, []), (760, .iadd, 1, 435, 0, 0, []), (761, .iaload, 1, 436, 0, 0, []), (762, .aload_n 0, 1, 437, 0, 0, []), (763, .iload 4, 2, 438, 4, 0, []), (765, .iconst 2, 1, 439, 2, 0, []), (766, .iadd, 1, 440, 0, 0, []), (767, .iaload, 1, 441, 0, 0, []), (768, .aload_n 0, 1, 442, 0, 0, []), (769, .iload 4, 2, 443, 4, 0, []), (771, .iconst 3, 1, 444, 3, 0, []), (772, .iadd, 1, 445, 0, 0, []), (773, .iaload, 1, 446, 0, 0, []), (774, .invokestatic 138, 3, 447, 141, 4, [999, 16]), (777, .istore 5, 2, 448, 5, 0, []), (779, .aload_n 2, 1, 449, 2, 0, []), (780, .aload_n 0, 1, 450, 0, 0, []), (781, .iload 4, 2, 451, 4, 0, []), (783, .iconst 1, 1, 452, 1, 0, []), (784, .iadd, 1, 453, 0, 0, []), (785, .iaload, 1, 454, 0, 0, []), (786, .aload_n 0, 1, 455, 0, 0, []), (787, .iload 4, 2, 456, 4, 0, []), (789, .iconst 2, 1, 457, 2, 0, []), (790, .iadd, 1, 458, 0, 0, []), (791, .iaload, 1, 459, 0, 0, []), (792, .aload_n 0, 1, 460, 0, 0, []), (793, .iload 4, 2, 461, 4, 0, []), (795, .iconst 3, 1, 462, 3, 0, []), (796, .iadd, 1, 463, 0, 0, []), (797, .iaload, 1, 464, 0, 0, []), (798, .invokevirtual 140, 3, 465, 116, 4, [6, 15]), (801, .aload_n 2, 1, 466, 2, 0, []), (802, .invokevirtual 105, 3, 467, 96, 1, [6, 12]), (805, .iload 5, 2, 468, 5, 0, []), (807, .if_icmp .eq 5, 3, 469, 471, 0, []), (810, .iconst 0, 1, 470, 0, 0, []), (811, .ireturn, 1, 471, 0, 0, []), (812, .goto 790, 3, 472, 986, 0, []), (815, .aload_n 1, 1, 473, 1, 0, []), (816, .aload_n 0, 1, 474, 0, 0, []), (817, .iload 4, 2, 475, 4, 0, []), (819, .iconst 1, 1, 476, 1, 0, []), (820, .iadd, 1, 477, 0, 0, []), (821, .iaload, 1, 478, 0, 0, []), (822, .aload_n 3, 1, 479, 3, 0, []), (823, .invokestatic 141, 3, 480, 142, 3, [999, 15]), (826, .istore 5, 2, 481, 5, 0, []), (828, .aload_n 2, 1, 482, 2, 0, []), (829, .aload_n 0, 1, 483, 0, 0, []), (830, .iload 4, 2, 484, 4, 0, []), (832, .iconst 1, 1, 485, 1, 0, []), (833, .iadd, 1, 486, 0, 0, []), (834, .iaload, 1, 487, 0, 0, []), (835, .invokevirtual 143, 3, 488, 118, 2, [6, 15]), (838, .istore 6, 2, 489, 6, 0, []), (840, .aload_n 2, 1, 490, 2, 0, []), (841, .invokevirtual 105, 3, 491, 96, 1, [6, 12]), (844, .iload 5, 2, 492, 5, 0, []), (846, .if_icmp .eq 5, 3, 493, 495, 0, []), (849, .iconst 0, 1, 494, 0, 0, []), (850, .ireturn, 1, 495, 0, 0, []), (851, .iload 5, 2, 496, 5, 0, []), (853, .ifCond .ne 15, 3, 497, 506, 0, []), (856, .aload_n 3, 1, 498, 3, 0, []), (857, .iconst 0, 1, 499, 0, 0, []), (858, .laload, 1, 500, 0, 0, [])]
def xR_154_5 : List xa_R := [(859, .iload 6, 2, 501, 6, 0, []), (861, .i2l, 1, 502, 0, 0, []), (862, .lcmp, 1, 503, 0, 0, []), (863, .ifCond .eq 5, 3, 504, 506, 0, []), (866, .iconst 0, 1, 505, 0, 0, []), (867, .ireturn, 1, 506, 0, 0, []), (868, .goto 734, 3, 507, 986, 0, []), (871, .aload_n 1, 1, 508, 1, 0, []), (872, .aload_n 0, 1, 509, 0, 0, []), (873, .iload 4, 2, 510, 4, 0, []), (875, .iconst 1, 1, 511, 1, 0, []), (876, .iadd, 1, 512, 0, 0, []), (877, .iaload, 1, 513, 0, 0, []), (878, .aload_n 0, 1, 514, 0, 0, []), (879, .iload 4, 2, 515, 4, 0, []), (881, .iconst 2, 1, 516, 2, 0, []), (882, .iadd, 1, 517, 0, 0, []), (883, .iaload, 1, 518, 0, 0, []), (884, .ifCond .eq 7, 3, 519, 521, 0, []), (887, .iconst 1, 1, 520, 1, 0, []), (888, .goto 4, 3, 521, 522, 0, []), (891, .iconst 0, 1, 522, 0, 0, []), (892, .aload_n 0, 1, 523, 0, 0, []), (893, .iload 4, 2, 524, 4, 0, []), (895, .iconst 3, 1, 525, 3, 0, []), (896, .iadd, 1, 526, 0, 0, []), (897, .iaload, 1, 527, 0, 0, []), (898, .aload_n 3, 1, 528, 3, 0, []), (899, .invokestatic 144, 3, 529, 143, 5, [999, 17]), (902, .istore 5, 2, 530, 5, 0, []), (904, .aload_n 2, 1, 531, 2, 0, []), (905, .aload_n 0, 1, 532, 0, 0, []), (906, .iload 4, 2, 533, 4, 0, []), (908, .iconst 1, 1, 534, 1, 0, []), (909, .iadd, 1, 535, 0, 0, []), (910, .iaload, 1, 536, 0, 0, []), (911, .aload_n 0, 1, 537, 0, 0, []), (912, .iload 4, 2, 538, 4, 0, []), (914, .iconst 2, 1, 539, 2, 0, []), (915, .iadd, 1, 540, 0, 0, []), (916, .iaload, 1, 541, 0, 0, []), (917, .ifCond .eq 7, 3, 542, 544, 0, []), (920, .iconst 1, 1, 543, 1, 0, []), (921, .goto 4, 3, 544, 545, 0, []), (924, .iconst 0, 1, 545, 0, 0, []), (925, .aload_n 0, 1, 546, 0, 0, []), (926, .iload 4, 2, 547, 4, 0, []), (928, .iconst 3, 1, 548, 3, 0, []), (929, .iadd, 1, 549, 0, 0, []), (930, .iaload, 1, 550, 0, 0, []), (931, .invokevirtual 147, 3, 551, 120, 4, [6, 17]), (934, .istore 6, 2, 552, 6, 0, []), (936, .aload_n 2, 1, 553, 2, 0, []), (937, .invokevirtual 105, 3, 554, 96, 1, [6, 12]), (940, .iload 5, 2, 555, 5, 0, []), (942, .if_icmp .eq 5, 3, 556, 558, 0, []), (945, .iconst 0, 1, 557, 0, 0, []), (946, .ireturn, 1, 558, 0, 0, []), (947, .iload 5, 2, 559, 5, 0, []), (949, .ifCond .ne 15, 3, 560, 569, 0, []), (952, .aload_n 3, 1, 561, 3, 0, []), (953, .iconst 0, 1, 562, 0, 0, []), (954, .laload, 1, 563, 0, 0, []), (955, .iload 6, 2, 564, 6, 0, []), (957, .i2l, 1, 565, 0, 0, []), (958, .lcmp, 1, 566, 0, 0, []), (959, .ifCond .eq 5, 3, 567, 569, 0, []), (962, .iconst 0, 1, 568, 0, 0, []), (963, .ireturn, 1, 569, 0, 0, []), (964, .goto 638, 3, 570, 986, 0, []), (967, .aload_n 1, 1, 571, 1, 0, []), (968, .aload_n 0, 1, 572, 0, 0, []), (969, .iload 4, 2, 573, 4, 0, []), (971, .iconst 1, 1, 574, 1, 0, []), (972, .iadd, 1, 575, 0, 0, []), (973, .iaload, 1, 576, 0, 0, []), (974, .aload_n 0, 1, 577, 0, 0, []), (975, .iload 4, 2, 578, 4, 0, []), (977, .iconst 2, 1, 579, 2, 0, []), (978, .iadd, 1, 580, 0, 0, []), (979, .iaload, 1, 581, 0, 0, []), (980, .aload_n 0, 1, 582, 0, 0, []), (981, .iload 4, 2, 583, 4, 0, []), (983, .iconst 3, 1, 584, 3, 0, []), (984, .iadd, 1, 585, 0, 0, []), (985, .iaload, 1, 586, 0, 0, []), (986, .aload_n 0, 1, 587, 0, 0, []), (987, .iload 4, 2, 588, 4, 0, []), (989, .iconst 4, 1, 589, 4, 0, []), (990, .iadd, 1, 590, 0, 0, []), (991, .iaload, 1, 591, 0, 0, []), (992, .aload_n 3, 1, 592, 3, 0, []), (993, .invokestatic 148, 3, 593, 144, 6, [999, 18]), (996, .istore 5, 2, 594, 5, 0, []), (998, .aload_n 2, 1, 595, 2, 0, []), (999, .aload_n 0, 1, 596, 0, 0, []), (1000, .iload 4, 2, 597, 4, 0, []), (1002, .iconst 1, 1, 598, 1, 0, []), (1003, .iadd, 1, 599, 0, 0, []), (1004, .iaload, 1, 600, 0, 0, [])]
def xR_154_6 : List xa_R := [(1005, .aload_n 0, 1, 601, 0, 0, []), (1006, .iload 4, 2, 602, 4, 0, []), (1008, .iconst 2, 1, 603, 2, 0, []), (1009, .iadd, 1, 604, 0, 0, []), (1010, .iaload, 1, 605, 0, 0, []), (1011, .aload_n 0, 1, 606, 0, 0, []), (1012, .iload 4, 2, 607, 4, 0, []), (1014, .iconst 3, 1, 608, 3, 0, []), (1015, .iadd, 1, 609, 0, 0, []), (1016, .iaload, 1, 610, 0, 0, []), (1017, .aload_n 0, 1, 611, 0, 0, []), (1018, .iload 4, 2, 612, 4, 0, []), (1020, .iconst 4, 1, 613, 4, 0, []), (1021, .iadd, 1, 614, 0, 0, []), (1022, .iaload, 1, 615, 0, 0, []), (1023, .invokevirtual 150, 3, 616, 121, 5, [6, 20]), (1026, .istore 6, 2, 617, 6, 0, []), (1028, .aload_n 2, 1, 618, 2, 0, []), (1029, .invokevirtual 105, 3, 619, 96, 1, [6, 12]), (1032, .iload 5, 2, 620, 5, 0, []), (1034, .if_icmp .eq 5, 3, 621, 623, 0, []), (1037, .iconst 0, 1, 622, 0, 0, []), (1038, .ireturn, 1, 623, 0, 0, []), (1039, .iload 5, 2, 624, 5, 0, []), (1041, .ifCond .ne 15, 3, 625, 634, 0, []), (1044, .aload_n 3, 1, 626, 3, 0, []), (1045, .iconst 0, 1, 627, 0, 0, []), (1046, .laload, 1, 628, 0, 0, []), (1047, .iload 6, 2, 629, 6, 0, []), (1049, .i2l, 1, 630, 0, 0, []), (1050, .lcmp, 1, 631, 0, 0, []), (1051, .ifCond .eq 5, 3, 632, 634, 0, []), (1054, .iconst 0, 1, 633, 0, 0, []), (1055, .ireturn, 1, 634, 0, 0, []), (1056, .goto 546, 3, 635, 986, 0, []), (1059, .aload_n 1, 1, 636, 1, 0, []), (1060, .aload_n 0, 1, 637, 0, 0, []), (1061, .iload 4, 2, 638, 4, 0, []), (1063, .iconst 1, 1, 639, 1, 0, []), (1064, .iadd, 1, 640, 0, 0, []), (1065, .iaload, 1, 641, 0, 0, []), (1066, .aload_n 0, 1, 642, 0, 0, []), (1067, .iload 4, 2, 643, 4, 0, []), (1069, .iconst 2, 1, 644, 2, 0, []), (1070, .iadd, 1, 645, 0, 0, []), (1071, .iaload, 1, 646, 0, 0, []), (1072, .aload_n 0, 1, 647, 0, 0, []), (1073, .iload 4, 2, 648, 4, 0, []), (1075, .iconst 3, 1, 649, 3, 0, []), (1076, .iadd, 1, 650, 0, 0, []), (1077, .iaload, 1, 651, 0, 0, []), (1078, .invokestatic 151, 3, 652, 145, 4, [999, 16]), (1081, .istore 5, 2, 653, 5, 0, []), (1083, .aload_n 2, 1, 654, 2, 0, []), (1084, .aload_n 0, 1, 655, 0, 0, []), (1085, .iload 4, 2, 656, 4, 0, []), (1087, .iconst 1, 1, 657, 1, 0, []), (1088, .iadd, 1, 658, 0, 0, []), (1089, .iaload, 1, 659, 0, 0, []), (1090, .aload_n 0, 1, 660, 0, 0, []), (1091, .iload 4, 2, 661, 4, 0, []), (1093, .iconst 2, 1, 662, 2, 0, []), (1094, .iadd, 1, 663, 0, 0, []), (1095, .iaload, 1, 664, 0, 0, []), (1096, .aload_n 0, 1, 665, 0, 0, []), (1097, .iload 4, 2, 666, 4, 0, []), (1099, .iconst 3, 1, 667, 3, 0, []), (1100, .iadd, 1, 668, 0, 0, []), (1101, .iaload, 1, 669, 0, 0, []), (1102, .invokevirtual 153, 3, 670, 122, 4, [6, 15]), (1105, .aload_n 2, 1, 671, 2, 0, []), (1106, .invokevirtual 105, 3, 672, 96, 1, [6, 12]), (1109, .iload 5, 2, 673, 5, 0, []), (1111, .if_icmp .eq 5, 3, 674, 676, 0, []), (1114, .iconst 0, 1, 675, 0, 0, []), (1115, .ireturn, 1, 676, 0, 0, []), (1116, .goto 486, 3, 677, 986, 0, []), (1119, .aload_n 1, 1, 678, 1, 0, []), (1120, .aload_n 0, 1, 679, 0, 0, []), (1121, .iload 4, 2, 680, 4, 0, []), (1123, .iconst 1, 1, 681, 1, 0, []), (1124, .iadd, 1, 682, 0, 0, []), (1125, .iaload, 1, 683, 0, 0, []), (1126, .aload_n 3, 1, 684, 3, 0, []), (1127, .invokestatic 154, 3, 685, 146, 3, [999, 15]), (1130, .istore 5, 2, 686, 5, 0, []), (1132, .aload_n 2, 1, 687, 2, 0, []), (1133, .aload_n 0, 1, 688, 0, 0, []), (1134, .iload 4, 2, 689, 4, 0, []), (1136, .iconst 1, 1, 690, 1, 0, []), (1137, .iadd, 1, 691, 0, 0, []), (1138, .iaload, 1, 692, 0, 0, []), (1139, .invokevirtual 156, 3, 693, 123, 2, [6, 14]), (1142, .istore 6, 2, 694, 6, 0, []), (1144, .aload_n 2, 1, 695, 2, 0, []), (1145, .invokevirtual 105, 3, 696, 96, 1, [6, 12]), (1148, .iload 5, 2, 697, 5, 0, []), (1150, .if_icmp .eq 5, 3, 698, 700, 0, []), (1153, .iconst 0, 1, 699, 0, 0, []), (1154, .ireturn, 1, 700, 0, 0, [])]
def xR_154_7 : List xa_R := [(1155, .iload 5, 2, 701, 5, 0, []), (1157, .ifCond .ne 15, 3, 702, 711, 0, []), (1160, .aload_n 3, 1, 703, 3, 0, []), (1161, .iconst 0, 1, 704, 0, 0, []), (1162, .laload, 1, 705, 0, 0, []), (1163, .iload 6, 2, 706, 6, 0, []), (1165, .i2l, 1, 707, 0, 0, []), (1166, .lcmp, 1, 708, 0, 0, []), (1167, .ifCond .eq 5, 3, 709, 711, 0, []), (1170, .iconst 0, 1, 710, 0, 0, []), (1171, .ireturn, 1, 711, 0, 0, []), (1172, .goto 430, 3, 712, 986, 0, []), (1175, .aload_n 1, 1, 713, 1, 0, []), (1176, .aload_n 0, 1, 714, 0, 0, []), (1177, .iload 4, 2, 715, 4, 0, []), (1179, .iconst 1, 1, 716, 1, 0, []), (1180, .iadd, 1, 717, 0, 0, []), (1181, .iaload, 1, 718, 0, 0, []), (1182, .aload_n 3, 1, 719, 3, 0, []), (1183, .invokestatic 157, 3, 720, 147, 3, [999, 15]), (1186, .istore 5, 2, 721, 5, 0, []), (1188, .aload_n 2, 1, 722, 2, 0, []), (1189, .aload_n 0, 1, 723, 0, 0, []), (1190, .iload 4, 2, 724, 4, 0, []), (1192, .iconst 1, 1, 725, 1, 0, []), (1193, .iadd, 1, 726, 0, 0, []), (1194, .iaload, 1, 727, 0, 0, []), (1195, .invokevirtual 159, 3, 728, 124, 2, [6, 17]), (1198, .istore 6, 2, 729, 6, 0, []), (1200, .aload_n 2, 1, 730, 2, 0, []), (1201, .invokevirtual 105, 3, 731, 96, 1, [6, 12]), (1204, .iload 5, 2, 732, 5, 0, []), (1206, .if_icmp .eq 5, 3, 733, 735, 0, []), (1209, .iconst 0, 1, 734, 0, 0, []), (1210, .ireturn, 1, 735, 0, 0, []), (1211, .iload 5, 2, 736, 5, 0, []), (1213, .ifCond .ne 15, 3, 737, 746, 0, []), (1216, .aload_n 3, 1, 738, 3, 0, []), (1217, .iconst 0, 1, 739, 0, 0, []), (1218, .laload, 1, 740, 0, 0, []), (1219, .iload 6, 2, 741, 6, 0, []), (1221, .i2l, 1, 742, 0, 0, []), (1222, .lcmp, 1, 743, 0, 0, []), (1223, .ifCond .eq 5, 3, 744, 746, 0, []), (1226, .iconst 0, 1, 745, 0, 0, []), (1227, .ireturn, 1, 746, 0, 0, []), (1228, .goto 374, 3, 747, 986, 0, []), (1231, .aload_n 1, 1, 748, 1, 0, []), (1232, .aload_n 0, 1, 749, 0, 0, []), (1233, .iload 4, 2, 750, 4, 0, []), (1235, .iconst 1, 1, 751, 1, 0, []), (1236, .iadd, 1, 752, 0, 0, []), (1237, .iaload, 1, 753, 0, 0, []), (1238, .aload_n 3, 1, 754, 3, 0, []), (1239, .invokestatic 160, 3, 755, 148, 3, [999, 15]), (1242, .istore 5, 2, 756, 5, 0, []), (1244, .aload_n 2, 1, 757, 2, 0, []), (1245, .aload_n 0, 1, 758, 0, 0, []), (1246, .iload 4, 2, 759, 4, 0, []), (1248, .iconst 1, 1, 760, 1, 0, []), (1249, .iadd, 1, 761, 0, 0, []), (1250, .iaload, 1, 762, 0, 0, []), (1251, .invokevirtual 162, 3, 763, 126, 2, [6, 13]), (1254, .istore 6, 2, 764, 6, 0, []), (1256, .aload_n 2, 1, 765, 2, 0, []), (1257, .invokevirtual 105, 3, 766, 96, 1, [6, 12]), (1260, .iload 5, 2, 767, 5, 0, []), (1262, .if_icmp .eq 5, 3, 768, 770, 0, []), (1265, .iconst 0, 1, 769, 0, 0, []), (1266, .ireturn, 1, 770, 0, 0, []), (1267, .iload 5, 2, 771, 5, 0, []), (1269, .ifCond .ne 15, 3, 772, 781, 0, []), (1272, .aload_n 3, 1, 773, 3, 0, []), (1273, .iconst 0, 1, 774, 0, 0, []), (1274, .laload, 1, 775, 0, 0, []), (1275, .iload 6, 2, 776, 6, 0, []), (1277, .i2l, 1, 777, 0, 0, []), (1278, .lcmp, 1, 778, 0, 0, []), (1279, .ifCond .eq 5, 3, 779, 781, 0, []), (1282, .iconst 0, 1, 780, 0, 0, []), (1283, .ireturn, 1, 781, 0, 0, []), (1284, .goto 318, 3, 782, 986, 0, []), (1287, .aload_n 1, 1, 783, 1, 0, []), (1288, .aload_n 0, 1, 784, 0, 0, []), (1289, .iload 4, 2, 785, 4, 0, []), (1291, .iconst 1, 1, 786, 1, 0, []), (1292, .iadd, 1, 787, 0, 0, []), (1293, .iaload, 1, 788, 0, 0, []), (1294, .aload_n 3, 1, 789, 3, 0, []), (1295, .invokestatic 163, 3, 790, 149, 3, [999, 15]), (1298, .istore 5, 2, 791, 5, 0, []), (1300, .aload_n 2, 1, 792, 2, 0, []), (1301, .aload_n 0, 1, 793, 0, 0, []), (1302, .iload 4, 2, 794, 4, 0, []), (1304, .iconst 1, 1, 795, 1, 0, []), (1305, .iadd, 1, 796, 0, 0, []), (1306, .iaload, 1, 797, 0, 0, []), (1307, .invokevirtual 165, 3, 798, 127, 2, [6, 18]), (1310, .istore 6, 2, 799, 6, 0, []), (1312, .aload_n 2, 1, 800, 2, 0, [])]
def xR_154_8 : List xa_R := [(1313, .invokevirtual 105, 3, 801, 96, 1, [6, 12]), (1316, .iload 5, 2, 802, 5, 0, []), (1318, .if_icmp .eq 5, 3, 803, 805, 0, []), (1321, .iconst 0, 1, 804, 0, 0, []), (1322, .ireturn, 1, 805, 0, 0, []), (1323, .iload 5, 2, 806, 5, 0, []), (1325, .ifCond .ne 15, 3, 807, 816, 0, []), (1328, .aload_n 3, 1, 808, 3, 0, []), (1329, .iconst 0, 1, 809, 0, 0, []), (1330, .laload, 1, 810, 0, 0, []), (1331, .iload 6, 2, 811, 6, 0, []), (1333, .i2l, 1, 812, 0, 0, []), (1334, .lcmp, 1, 813, 0, 0, []), (1335, .ifCond .eq 5, 3, 814, 816, 0, []), (1338, .iconst 0, 1, 815, 0, 0, []), (1339, .ireturn, 1, 816, 0, 0, []), (1340, .goto 262, 3, 817, 986, 0, []), (1343, .aload_n 1, 1, 818, 1, 0, []), (1344, .aload_n 0, 1, 819, 0, 0, []), (1345, .iload 4, 2, 820, 4, 0, []), (1347, .iconst 1, 1, 821, 1, 0, []), (1348, .iadd, 1, 822, 0, 0, []), (1349, .iaload, 1, 823, 0, 0, []), (1350, .aload_n 0, 1, 824, 0, 0, []), (1351, .iload 4, 2, 825, 4, 0, []), (1353, .iconst 2, 1, 826, 2, 0, []), (1354, .iadd, 1, 827, 0, 0, []), (1355, .iaload, 1, 828, 0, 0, []), (1356, .aload_n 3, 1, 829, 3, 0, []), (1357, .invokestatic 166, 3, 830, 150, 4, [999, 16]), (1360, .istore 5, 2, 831, 5, 0, []), (1362, .aload_n 2, 1, 832, 2, 0, []), (1363, .aload_n 0, 1, 833, 0, 0, []), (1364, .iload 4, 2, 834, 4, 0, []), (1366, .iconst 1, 1, 835, 1, 0, []), (1367, .iadd, 1, 836, 0, 0, []), (1368, .iaload, 1, 837, 0, 0, []), (1369, .aload_n 0, 1, 838, 0, 0, []), (1370, .iload 4, 2, 839, 4, 0, []), (1372, .iconst 2, 1, 840, 2, 0, []), (1373, .iadd, 1, 841, 0, 0, []), (1374, .iaload, 1, 842, 0, 0, []), (1375, .invokevirtual 169, 3, 843, 128, 3, [6, 16]), (1378, .istore 6, 2, 844, 6, 0, []), (1380, .aload_n 2, 1, 845, 2, 0, []), (1381, .invokevirtual 105, 3, 846, 96, 1, [6, 12]), (1384, .iload 5, 2, 847, 5, 0, []), (1386, .if_icmp .eq 5, 3, 848, 850, 0, []), (1389, .iconst 0, 1, 849, 0, 0, []), (1390, .ireturn, 1, 850, 0, 0, []), (1391, .iload 5, 2, 851, 5, 0, []), (1393, .ifCond .ne 15, 3, 852, 861, 0, []), (1396, .aload_n 3, 1, 853, 3, 0, []), (1397, .iconst 0, 1, 854, 0, 0, []), (1398, .laload, 1, 855, 0, 0, []), (1399, .iload 6, 2, 856, 6, 0, []), (1401, .i2l, 1, 857, 0, 0, []), (1402, .lcmp, 1, 858, 0, 0, []), (1403, .ifCond .eq 5, 3, 859, 861, 0, []), (1406, .iconst 0, 1, 860, 0, 0, []), (1407, .ireturn, 1, 861, 0, 0, []), (1408, .goto 194, 3, 862, 986, 0, []), (1411, .aload_n 1, 1, 863, 1, 0, []), (1412, .aload_n 0, 1, 864, 0, 0, []), (1413, .iload 4, 2, 865, 4, 0, []), (1415, .iconst 1, 1, 866, 1, 0, []), (1416, .iadd, 1, 867, 0, 0, []), (1417, .iaload, 1, 868, 0, 0, []), (1418, .aload_n 0, 1, 869, 0, 0, []), (1419, .iload 4, 2, 870, 4, 0, []), (1421, .iconst 2, 1, 871, 2, 0, []), (1422, .iadd, 1, 872, 0, 0, []), (1423, .iaload, 1, 873, 0, 0, []), (1424, .aload_n 3, 1, 874, 3, 0, []), (1425, .invokestatic 170, 3, 875, 151, 4, [999, 16]), (1428, .istore 5, 2, 876, 5, 0, []), (1430, .aload_n 2, 1, 877, 2, 0, []), (1431, .aload_n 0, 1, 878, 0, 0, []), (1432, .iload 4, 2, 879, 4, 0, []), (1434, .iconst 1, 1, 880, 1, 0, []), (1435, .iadd, 1, 881, 0, 0, []), (1436, .iaload, 1, 882, 0, 0, []), (1437, .aload_n 0, 1, 883, 0, 0, []), (1438, .iload 4, 2, 884, 4, 0, []), (1440, .iconst 2, 1, 885, 2, 0, []), (1441, .iadd, 1, 886, 0, 0, []), (1442, .iaload, 1, 887, 0, 0, []), (1443, .invokevirtual 172, 3, 888, 129, 3, [6, 25]), (1446, .lstore 6, 2, 889, 6, 0, []), (1448, .aload_n 2, 1, 890, 2, 0, []), (1449, .invokevirtual 105, 3, 891, 96, 1, [6, 12]), (1452, .iload 5, 2, 892, 5, 0, []), (1454, .if_icmp .eq 5, 3, 893, 895, 0, []), (1457, .iconst 0, 1, 894, 0, 0, []), (1458, .ireturn, 1, 895, 0, 0, []), (1459, .iload 5, 2, 896, 5, 0, []), (1461, .ifCond .ne 14, 3, 897, 905, 0, []), (1464, .aload_n 3, 1, 898, 3, 0, []), (1465, .iconst 0, 1, 899, 0, 0, []), (1466, .laload, 1, 900, 0, 0, [])]
def xR_154_9 : List xa_R := [(1467, .lload 6, 2, 901, 6, 0, []), (1469, .lcmp, 1, 902, 0, 0, []), (1470, .ifCond .eq 5, 3, 903, 905, 0, []), (1473, .iconst 0, 1, 904, 0, 0, []), (1474, .ireturn, 1, 905, 0, 0, []), (1475, .goto 127, 3, 906, 986, 0, []), (1478, .aload_n 1, 1, 907, 1, 0, []), (1479, .aload_n 0, 1, 908, 0, 0, []), (1480, .iload 4, 2, 909, 4, 0, []), (1482, .iconst 1, 1, 910, 1, 0, []), (1483, .iadd, 1, 911, 0, 0, []), (1484, .iaload, 1, 912, 0, 0, []), (1485, .aload_n 0, 1, 913, 0, 0, []), (1486, .iload 4, 2, 914, 4, 0, []), (1488, .iconst 2, 1, 915, 2, 0, []), (1489, .iadd, 1, 916, 0, 0, []), (1490, .iaload, 1, 917, 0, 0, []), (1491, .aload_n 3, 1, 918, 3, 0, []), (1492, .invokestatic 173, 3, 919, 152, 4, [999, 16]), (1495, .istore 5, 2, 920, 5, 0, []), (1497, .aload_n 2, 1, 921, 2, 0, []), (1498, .aload_n 0, 1, 922, 0, 0, []), (1499, .iload 4, 2, 923, 4, 0, []), (1501, .iconst 1, 1, 924, 1, 0, []), (1502, .iadd, 1, 925, 0, 0, []), (1503, .iaload, 1, 926, 0, 0, []), (1504, .aload_n 0, 1, 927, 0, 0, []), (1505, .iload 4, 2, 928, 4, 0, []), (1507, .iconst 2, 1, 929, 2, 0, []), (1508, .iadd, 1, 930, 0, 0, []), (1509, .iaload, 1, 931, 0, 0, []), (1510, .invokevirtual 175, 3, 932, 130, 3, [6, 14]), (1513, .istore 6, 2, 933, 6, 0, []), (1515, .aload_n 2, 1, 934, 2, 0, []), (1516, .invokevirtual 105, 3, 935, 96, 1, [6, 12]), (1519, .iload 5, 2, 936, 5, 0, []), (1521, .if_icmp .eq 5, 3, 937, 939, 0, []), (1524, .iconst 0, 1, 938, 0, 0, []), (1525, .ireturn, 1, 939, 0, 0, []), (1526, .iload 5, 2, 940, 5, 0, []), (1528, .ifCond .ne 15, 3, 941, 950, 0, []), (1531, .aload_n 3, 1, 942, 3, 0, []), (1532, .iconst 0, 1, 943, 0, 0, []), (1533, .laload, 1, 944, 0, 0, []), (1534, .iload 6, 2, 945, 6, 0, []), (1536, .i2l, 1, 946, 0, 0, []), (1537, .lcmp, 1, 947, 0, 0, []), (1538, .ifCond .eq 5, 3, 948, 950, 0, []), (1541, .iconst 0, 1, 949, 0, 0, []), (1542, .ireturn, 1, 950, 0, 0, []), (1543, .goto 59, 3, 951, 986, 0, []), (1546, .aload_n 1, 1, 952, 1, 0, []), (1547, .aload_n 0, 1, 953, 0, 0, []), (1548, .iload 4, 2, 954, 4, 0, []), (1550, .iconst 1, 1, 955, 1, 0, []), (1551, .iadd, 1, 956, 0, 0, []), (1552, .iaload, 1, 957, 0, 0, []), (1553, .aload_n 3, 1, 958, 3, 0, []), (1554, .invokestatic 176, 3, 959, 153, 3, [999, 15]), (1557, .istore 5, 2, 960, 5, 0, []), (1559, .aload_n 2, 1, 961, 2, 0, []), (1560, .aload_n 0, 1, 962, 0, 0, []), (1561, .iload 4, 2, 963, 4, 0, []), (1563, .iconst 1, 1, 964, 1, 0, []), (1564, .iadd, 1, 965, 0, 0, []), (1565, .iaload, 1, 966, 0, 0, []), (1566, .invokevirtual 178, 3, 967, 131, 2, [6, 15]), (1569, .istore 6, 2, 968, 6, 0, []), (1571, .aload_n 2, 1, 969, 2, 0, []), (1572, .invokevirtual 105, 3, 970, 96, 1, [6, 12]), (1575, .iload 5, 2, 971, 5, 0, []), (1577, .if_icmp .eq 5, 3, 972, 974, 0, []), (1580, .iconst 0, 1, 973, 0, 0, []), (1581, .ireturn, 1, 974, 0, 0, []), (1582, .iload 5, 2, 975, 5, 0, []), (1584, .ifCond .ne 15, 3, 976, 985, 0, []), (1587, .aload_n 3, 1, 977, 3, 0, []), (1588, .iconst 0, 1, 978, 0, 0, []), (1589, .laload, 1, 979, 0, 0, []), (1590, .iload 6, 2, 980, 6, 0, []), (1592, .i2l, 1, 981, 0, 0, []), (1593, .lcmp, 1, 982, 0, 0, []), (1594, .ifCond .eq 5, 3, 983, 985, 0, []), (1597, .iconst 0, 1, 984, 0, 0, []), (1598, .ireturn, 1, 985, 0, 0, []), (1599, .goto 3, 3, 986, 986, 0, []), (1602, .iinc 4 5, 3, 987, 4, 5, []), (1605, .goto (-1582), 3, 988, 13, 0, []), (1608, .iconst 1, 1, 989, 1, 0, []), (1609, .ireturn, 1, 990, 0, 0, [])]
def xR_154 : List xa_R := xR_154_0 ++ (xR_154_1 ++ (xR_154_2 ++ (xR_154_3 ++ (xR_154_4 ++ (xR_154_5 ++ (xR_154_6 ++ (xR_154_7 ++ (xR_154_8 ++ (xR_154_9)))))))))
def xM_154 : xa_M := (⟨"ServiceRowsLaw", "law", "([I)Z"⟩, code, 8, some .boolean, [], xR_154)
def xm (y : Nat) : xa_M := (bif Nat.blt y 77 then (bif Nat.blt y 38 then (bif Nat.blt y 19 then (bif Nat.blt y 9 then (bif Nat.blt y 4 then (bif Nat.blt y 2 then (bif Nat.blt y 1 then xM_0 else xM_1) else (bif Nat.blt y 3 then xM_2 else xM_3)) else (bif Nat.blt y 6 then (bif Nat.blt y 5 then xM_4 else xM_5) else (bif Nat.blt y 7 then xM_6 else (bif Nat.blt y 8 then xM_7 else xM_8)))) else (bif Nat.blt y 14 then (bif Nat.blt y 11 then (bif Nat.blt y 10 then xM_9 else xM_10) else (bif Nat.blt y 12 then xM_11 else (bif Nat.blt y 13 then xM_12 else xM_13))) else (bif Nat.blt y 16 then (bif Nat.blt y 15 then xM_14 else xM_15) else (bif Nat.blt y 17 then xM_16 else (bif Nat.blt y 18 then xM_17 else xM_18))))) else (bif Nat.blt y 28 then (bif Nat.blt y 23 then (bif Nat.blt y 21 then (bif Nat.blt y 20 then xM_19 else xM_20) else (bif Nat.blt y 22 then xM_21 else xM_22)) else (bif Nat.blt y 25 then (bif Nat.blt y 24 then xM_23 else xM_24) else (bif Nat.blt y 26 then xM_25 else (bif Nat.blt y 27 then xM_26 else xM_27)))) else (bif Nat.blt y 33 then (bif Nat.blt y 30 then (bif Nat.blt y 29 then xM_28 else xM_29) else (bif Nat.blt y 31 then xM_30 else (bif Nat.blt y 32 then xM_31 else xM_32))) else (bif Nat.blt y 35 then (bif Nat.blt y 34 then xM_33 else xM_34) else (bif Nat.blt y 36 then xM_35 else (bif Nat.blt y 37 then xM_36 else xM_37)))))) else (bif Nat.blt y 57 then (bif Nat.blt y 47 then (bif Nat.blt y 42 then (bif Nat.blt y 40 then (bif Nat.blt y 39 then xM_38 else xM_39) else (bif Nat.blt y 41 then xM_40 else xM_41)) else (bif Nat.blt y 44 then (bif Nat.blt y 43 then xM_42 else xM_43) else (bif Nat.blt y 45 then xM_44 else (bif Nat.blt y 46 then xM_45 else xM_46)))) else (bif Nat.blt y 52 then (bif Nat.blt y 49 then (bif Nat.blt y 48 then xM_47 else xM_48) else (bif Nat.blt y 50 then xM_49 else (bif Nat.blt y 51 then xM_50 else xM_51))) else (bif Nat.blt y 54 then (bif Nat.blt y 53 then xM_52 else xM_53) else (bif Nat.blt y 55 then xM_54 else (bif Nat.blt y 56 then xM_55 else xM_56))))) else (bif Nat.blt y 67 then (bif Nat.blt y 62 then (bif Nat.blt y 59 then (bif Nat.blt y 58 then xM_57 else xM_58) else (bif Nat.blt y 60 then xM_59 else (bif Nat.blt y 61 then xM_60 else xM_61))) else (bif Nat.blt y 64 then (bif Nat.blt y 63 then xM_62 else xM_63) else (bif Nat.blt y 65 then xM_64 else (bif Nat.blt y 66 then xM_65 else xM_66)))) else (bif Nat.blt y 72 then (bif Nat.blt y 69 then (bif Nat.blt y 68 then xM_67 else xM_68) else (bif Nat.blt y 70 then xM_69 else (bif Nat.blt y 71 then xM_70 else xM_71))) else (bif Nat.blt y 74 then (bif Nat.blt y 73 then xM_72 else xM_73) else (bif Nat.blt y 75 then xM_74 else (bif Nat.blt y 76 then xM_75 else xM_76))))))) else (bif Nat.blt y 116 then (bif Nat.blt y 96 then (bif Nat.blt y 86 then (bif Nat.blt y 81 then (bif Nat.blt y 79 then (bif Nat.blt y 78 then xM_77 else xM_78) else (bif Nat.blt y 80 then xM_79 else xM_80)) else (bif Nat.blt y 83 then (bif Nat.blt y 82 then xM_81 else xM_82) else (bif Nat.blt y 84 then xM_83 else (bif Nat.blt y 85 then xM_84 else xM_85)))) else (bif Nat.blt y 91 then (bif Nat.blt y 88 then (bif Nat.blt y 87 then xM_86 else xM_87) else (bif Nat.blt y 89 then xM_88 else (bif Nat.blt y 90 then xM_89 else xM_90))) else (bif Nat.blt y 93 then (bif Nat.blt y 92 then xM_91 else xM_92) else (bif Nat.blt y 94 then xM_93 else (bif Nat.blt y 95 then xM_94 else xM_95))))) else (bif Nat.blt y 106 then (bif Nat.blt y 101 then (bif Nat.blt y 98 then (bif Nat.blt y 97 then xM_96 else xM_97) else (bif Nat.blt y 99 then xM_98 else (bif Nat.blt y 100 then xM_99 else xM_100))) else (bif Nat.blt y 103 then (bif Nat.blt y 102 then xM_101 else xM_102) else (bif Nat.blt y 104 then xM_103 else (bif Nat.blt y 105 then xM_104 else xM_105)))) else (bif Nat.blt y 111 then (bif Nat.blt y 108 then (bif Nat.blt y 107 then xM_106 else xM_107) else (bif Nat.blt y 109 then xM_108 else (bif Nat.blt y 110 then xM_109 else xM_110))) else (bif Nat.blt y 113 then (bif Nat.blt y 112 then xM_111 else xM_112) else (bif Nat.blt y 114 then xM_113 else (bif Nat.blt y 115 then xM_114 else xM_115)))))) else (bif Nat.blt y 135 then (bif Nat.blt y 125 then (bif Nat.blt y 120 then (bif Nat.blt y 118 then (bif Nat.blt y 117 then xM_116 else xM_117) else (bif Nat.blt y 119 then xM_118 else xM_119)) else (bif Nat.blt y 122 then (bif Nat.blt y 121 then xM_120 else xM_121) else (bif Nat.blt y 123 then xM_122 else (bif Nat.blt y 124 then xM_123 else xM_124)))) else (bif Nat.blt y 130 then (bif Nat.blt y 127 then (bif Nat.blt y 126 then xM_125 else xM_126) else (bif Nat.blt y 128 then xM_127 else (bif Nat.blt y 129 then xM_128 else xM_129))) else (bif Nat.blt y 132 then (bif Nat.blt y 131 then xM_130 else xM_131) else (bif Nat.blt y 133 then xM_132 else (bif Nat.blt y 134 then xM_133 else xM_134))))) else (bif Nat.blt y 145 then (bif Nat.blt y 140 then (bif Nat.blt y 137 then (bif Nat.blt y 136 then xM_135 else xM_136) else (bif Nat.blt y 138 then xM_137 else (bif Nat.blt y 139 then xM_138 else xM_139))) else (bif Nat.blt y 142 then (bif Nat.blt y 141 then xM_140 else xM_141) else (bif Nat.blt y 143 then xM_142 else (bif Nat.blt y 144 then xM_143 else xM_144)))) else (bif Nat.blt y 150 then (bif Nat.blt y 147 then (bif Nat.blt y 146 then xM_145 else xM_146) else (bif Nat.blt y 148 then xM_147 else (bif Nat.blt y 149 then xM_148 else xM_149))) else (bif Nat.blt y 152 then (bif Nat.blt y 151 then xM_150 else xM_151) else (bif Nat.blt y 153 then xM_152 else (bif Nat.blt y 154 then xM_153 else xM_154))))))))
end

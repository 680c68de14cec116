section
-- ===== PART A: goes FIRST, ahead of the names: the tables' words, and 'selects' of the private methods out of them =====
/-- a private method of a class that the tables say can be made, by its rows of tables_1 -/
def lw_okq (q : MethodName × Nat) : Prop := (q.1.cls ≠ "java/lang/invoke/MethodHandle" ∧ q.1.cls ≠ "java/lang/invoke/VarHandle") ∧ Cond.instantiable q.1.cls q.2 ∈ tables_1 ∧ Cond.privateMethod q.1 ∈ tables_1 ∧ Cond.instanceMethod q.1 ∈ tables_1
theorem lw_p0 : lw_okq (⟨"java/lang/Throwable", "fillInStackTrace", "(I)Ljava/lang/Throwable;"⟩, 6) := ⟨⟨by decide +kernel, by decide +kernel⟩, List.mem_of_getElem? (i := 225) (by decide +kernel), List.mem_of_getElem? (i := 223) (by decide +kernel), List.mem_of_getElem? (i := 224) (by decide +kernel)⟩
theorem lw_p1 : lw_okq (⟨"ServiceRows", "leftBy", "(III)I"⟩, 9) := ⟨⟨by decide +kernel, by decide +kernel⟩, List.mem_of_getElem? (i := 19) (by decide +kernel), List.mem_of_getElem? (i := 399) (by decide +kernel), List.mem_of_getElem? (i := 400) (by decide +kernel)⟩
theorem lw_p2 : lw_okq (⟨"ServiceRows", "nowOf", "(II)I"⟩, 9) := ⟨⟨by decide +kernel, by decide +kernel⟩, List.mem_of_getElem? (i := 19) (by decide +kernel), List.mem_of_getElem? (i := 403) (by decide +kernel), List.mem_of_getElem? (i := 404) (by decide +kernel)⟩
theorem lw_p3 : lw_okq (⟨"ServiceRows", "listDueRows", "()V"⟩, 9) := ⟨⟨by decide +kernel, by decide +kernel⟩, List.mem_of_getElem? (i := 19) (by decide +kernel), List.mem_of_getElem? (i := 420) (by decide +kernel), List.mem_of_getElem? (i := 421) (by decide +kernel)⟩
theorem lw_p4 : lw_okq (⟨"ServiceRows", "leastBy", "(II)I"⟩, 9) := ⟨⟨by decide +kernel, by decide +kernel⟩, List.mem_of_getElem? (i := 19) (by decide +kernel), List.mem_of_getElem? (i := 428) (by decide +kernel), List.mem_of_getElem? (i := 429) (by decide +kernel)⟩
theorem lw_p5 : lw_okq (⟨"ServiceRows$DueRows", "placeOf", "(II)I"⟩, 4) := ⟨⟨by decide +kernel, by decide +kernel⟩, List.mem_of_getElem? (i := 126) (by decide +kernel), List.mem_of_getElem? (i := 439) (by decide +kernel), List.mem_of_getElem? (i := 440) (by decide +kernel)⟩
theorem lw_p6 : lw_okq (⟨"ServiceRows$DueRows", "isBefore", "(III)Z"⟩, 4) := ⟨⟨by decide +kernel, by decide +kernel⟩, List.mem_of_getElem? (i := 126) (by decide +kernel), List.mem_of_getElem? (i := 443) (by decide +kernel), List.mem_of_getElem? (i := 444) (by decide +kernel)⟩
theorem lw_p7 : lw_okq (⟨"ServiceRows", "needOpen", "(I)V"⟩, 9) := ⟨⟨by decide +kernel, by decide +kernel⟩, List.mem_of_getElem? (i := 19) (by decide +kernel), List.mem_of_getElem? (i := 516) (by decide +kernel), List.mem_of_getElem? (i := 517) (by decide +kernel)⟩
theorem lw_p8 : lw_okq (⟨"ServiceRows", "takeRule", "(II)V"⟩, 9) := ⟨⟨by decide +kernel, by decide +kernel⟩, List.mem_of_getElem? (i := 19) (by decide +kernel), List.mem_of_getElem? (i := 525) (by decide +kernel), List.mem_of_getElem? (i := 526) (by decide +kernel)⟩
theorem lw_p9 : lw_okq (⟨"ServiceRows", "takeDefect", "(II)V"⟩, 9) := ⟨⟨by decide +kernel, by decide +kernel⟩, List.mem_of_getElem? (i := 19) (by decide +kernel), List.mem_of_getElem? (i := 538) (by decide +kernel), List.mem_of_getElem? (i := 539) (by decide +kernel)⟩
theorem lw_p10 : lw_okq (⟨"ServiceRows", "isUnderWarranty", "(II)Z"⟩, 9) := ⟨⟨by decide +kernel, by decide +kernel⟩, List.mem_of_getElem? (i := 19) (by decide +kernel), List.mem_of_getElem? (i := 580) (by decide +kernel), List.mem_of_getElem? (i := 581) (by decide +kernel)⟩
theorem lw_p11 : lw_okq (⟨"ServiceRows", "serveRules", "(I)V"⟩, 9) := ⟨⟨by decide +kernel, by decide +kernel⟩, List.mem_of_getElem? (i := 19) (by decide +kernel), List.mem_of_getElem? (i := 625) (by decide +kernel), List.mem_of_getElem? (i := 626) (by decide +kernel)⟩
theorem lw_p12 : lw_okq (⟨"ServiceRows", "reasonOf", "(I)I"⟩, 9) := ⟨⟨by decide +kernel, by decide +kernel⟩, List.mem_of_getElem? (i := 19) (by decide +kernel), List.mem_of_getElem? (i := 649) (by decide +kernel), List.mem_of_getElem? (i := 650) (by decide +kernel)⟩
theorem lw_p13 : lw_okq (⟨"ServiceRows", "hasOverdueRule", "(I)Z"⟩, 9) := ⟨⟨by decide +kernel, by decide +kernel⟩, List.mem_of_getElem? (i := 19) (by decide +kernel), List.mem_of_getElem? (i := 665) (by decide +kernel), List.mem_of_getElem? (i := 666) (by decide +kernel)⟩
theorem lw_p14 : lw_okq (⟨"ServiceRows", "barredOnes", "()I"⟩, 9) := ⟨⟨by decide +kernel, by decide +kernel⟩, List.mem_of_getElem? (i := 19) (by decide +kernel), List.mem_of_getElem? (i := 754) (by decide +kernel), List.mem_of_getElem? (i := 755) (by decide +kernel)⟩
theorem lw_p15 : lw_okq (⟨"ServiceRowsModel", "throwing", "(ZZZZ)Z"⟩, 27) := ⟨⟨by decide +kernel, by decide +kernel⟩, List.mem_of_getElem? (i := 758) (by decide +kernel), List.mem_of_getElem? (i := 857) (by decide +kernel), List.mem_of_getElem? (i := 858) (by decide +kernel)⟩
def lw_privs_1 : List (MethodName × Nat) := [(⟨"java/lang/Throwable", "fillInStackTrace", "(I)Ljava/lang/Throwable;"⟩, 6), (⟨"ServiceRows", "leftBy", "(III)I"⟩, 9), (⟨"ServiceRows", "nowOf", "(II)I"⟩, 9), (⟨"ServiceRows", "listDueRows", "()V"⟩, 9), (⟨"ServiceRows", "leastBy", "(II)I"⟩, 9), (⟨"ServiceRows$DueRows", "placeOf", "(II)I"⟩, 4), (⟨"ServiceRows$DueRows", "isBefore", "(III)Z"⟩, 4), (⟨"ServiceRows", "needOpen", "(I)V"⟩, 9), (⟨"ServiceRows", "takeRule", "(II)V"⟩, 9), (⟨"ServiceRows", "takeDefect", "(II)V"⟩, 9), (⟨"ServiceRows", "isUnderWarranty", "(II)Z"⟩, 9), (⟨"ServiceRows", "serveRules", "(I)V"⟩, 9), (⟨"ServiceRows", "reasonOf", "(I)I"⟩, 9), (⟨"ServiceRows", "hasOverdueRule", "(I)Z"⟩, 9), (⟨"ServiceRows", "barredOnes", "()I"⟩, 9), (⟨"ServiceRowsModel", "throwing", "(ZZZZ)Z"⟩, 27)]
theorem lw_r1 : ∀ q ∈ lw_privs_1, lw_okq q := List.forall_mem_cons.mpr ⟨lw_p0, List.forall_mem_cons.mpr ⟨lw_p1, List.forall_mem_cons.mpr ⟨lw_p2, List.forall_mem_cons.mpr ⟨lw_p3, List.forall_mem_cons.mpr ⟨lw_p4, List.forall_mem_cons.mpr ⟨lw_p5, List.forall_mem_cons.mpr ⟨lw_p6, List.forall_mem_cons.mpr ⟨lw_p7, List.forall_mem_cons.mpr ⟨lw_p8, List.forall_mem_cons.mpr ⟨lw_p9, List.forall_mem_cons.mpr ⟨lw_p10, List.forall_mem_cons.mpr ⟨lw_p11, List.forall_mem_cons.mpr ⟨lw_p12, List.forall_mem_cons.mpr ⟨lw_p13, List.forall_mem_cons.mpr ⟨lw_p14, List.forall_mem_cons.mpr ⟨lw_p15, fun _ h => absurd h List.not_mem_nil⟩⟩⟩⟩⟩⟩⟩⟩⟩⟩⟩⟩⟩⟩⟩⟩
theorem lw_p16 : lw_okq (⟨"ServiceRowsModel", "isVehicle", "(I)Z"⟩, 27) := ⟨⟨by decide +kernel, by decide +kernel⟩, List.mem_of_getElem? (i := 758) (by decide +kernel), List.mem_of_getElem? (i := 879) (by decide +kernel), List.mem_of_getElem? (i := 880) (by decide +kernel)⟩
theorem lw_p17 : lw_okq (⟨"ServiceRowsModel", "isRule", "(I)Z"⟩, 27) := ⟨⟨by decide +kernel, by decide +kernel⟩, List.mem_of_getElem? (i := 758) (by decide +kernel), List.mem_of_getElem? (i := 888) (by decide +kernel), List.mem_of_getElem? (i := 889) (by decide +kernel)⟩
theorem lw_p18 : lw_okq (⟨"ServiceRowsModel", "leftOf", "(III)I"⟩, 27) := ⟨⟨by decide +kernel, by decide +kernel⟩, List.mem_of_getElem? (i := 758) (by decide +kernel), List.mem_of_getElem? (i := 892) (by decide +kernel), List.mem_of_getElem? (i := 893) (by decide +kernel)⟩
theorem lw_p19 : lw_okq (⟨"ServiceRowsModel", "now", "(II)I"⟩, 27) := ⟨⟨by decide +kernel, by decide +kernel⟩, List.mem_of_getElem? (i := 758) (by decide +kernel), List.mem_of_getElem? (i := 896) (by decide +kernel), List.mem_of_getElem? (i := 897) (by decide +kernel)⟩
theorem lw_p20 : lw_okq (⟨"ServiceRowsModel", "isDue", "(II)Z"⟩, 27) := ⟨⟨by decide +kernel, by decide +kernel⟩, List.mem_of_getElem? (i := 758) (by decide +kernel), List.mem_of_getElem? (i := 904) (by decide +kernel), List.mem_of_getElem? (i := 905) (by decide +kernel)⟩
theorem lw_p21 : lw_okq (⟨"ServiceRowsModel", "isAhead", "(IIII)Z"⟩, 27) := ⟨⟨by decide +kernel, by decide +kernel⟩, List.mem_of_getElem? (i := 758) (by decide +kernel), List.mem_of_getElem? (i := 908) (by decide +kernel), List.mem_of_getElem? (i := 909) (by decide +kernel)⟩
theorem lw_p22 : lw_okq (⟨"ServiceRowsModel", "leastOf", "(II)I"⟩, 27) := ⟨⟨by decide +kernel, by decide +kernel⟩, List.mem_of_getElem? (i := 758) (by decide +kernel), List.mem_of_getElem? (i := 912) (by decide +kernel), List.mem_of_getElem? (i := 913) (by decide +kernel)⟩
theorem lw_p23 : lw_okq (⟨"ServiceRowsModel", "openOrder", "(I)I"⟩, 27) := ⟨⟨by decide +kernel, by decide +kernel⟩, List.mem_of_getElem? (i := 758) (by decide +kernel), List.mem_of_getElem? (i := 932) (by decide +kernel), List.mem_of_getElem? (i := 933) (by decide +kernel)⟩
theorem lw_p24 : lw_okq (⟨"ServiceRowsModel", "isOrder", "(I)Z"⟩, 27) := ⟨⟨by decide +kernel, by decide +kernel⟩, List.mem_of_getElem? (i := 758) (by decide +kernel), List.mem_of_getElem? (i := 940) (by decide +kernel), List.mem_of_getElem? (i := 941) (by decide +kernel)⟩
theorem lw_p25 : lw_okq (⟨"ServiceRowsModel", "worksOf", "(I)I"⟩, 27) := ⟨⟨by decide +kernel, by decide +kernel⟩, List.mem_of_getElem? (i := 758) (by decide +kernel), List.mem_of_getElem? (i := 944) (by decide +kernel), List.mem_of_getElem? (i := 945) (by decide +kernel)⟩
theorem lw_p26 : lw_okq (⟨"ServiceRowsModel", "reason", "(I)I"⟩, 27) := ⟨⟨by decide +kernel, by decide +kernel⟩, List.mem_of_getElem? (i := 758) (by decide +kernel), List.mem_of_getElem? (i := 970) (by decide +kernel), List.mem_of_getElem? (i := 971) (by decide +kernel)⟩
def lw_privs_2 : List (MethodName × Nat) := [(⟨"ServiceRowsModel", "isVehicle", "(I)Z"⟩, 27), (⟨"ServiceRowsModel", "isRule", "(I)Z"⟩, 27), (⟨"ServiceRowsModel", "leftOf", "(III)I"⟩, 27), (⟨"ServiceRowsModel", "now", "(II)I"⟩, 27), (⟨"ServiceRowsModel", "isDue", "(II)Z"⟩, 27), (⟨"ServiceRowsModel", "isAhead", "(IIII)Z"⟩, 27), (⟨"ServiceRowsModel", "leastOf", "(II)I"⟩, 27), (⟨"ServiceRowsModel", "openOrder", "(I)I"⟩, 27), (⟨"ServiceRowsModel", "isOrder", "(I)Z"⟩, 27), (⟨"ServiceRowsModel", "worksOf", "(I)I"⟩, 27), (⟨"ServiceRowsModel", "reason", "(I)I"⟩, 27)]
theorem lw_r2 : ∀ q ∈ lw_privs_2, lw_okq q := List.forall_mem_cons.mpr ⟨lw_p16, List.forall_mem_cons.mpr ⟨lw_p17, List.forall_mem_cons.mpr ⟨lw_p18, List.forall_mem_cons.mpr ⟨lw_p19, List.forall_mem_cons.mpr ⟨lw_p20, List.forall_mem_cons.mpr ⟨lw_p21, List.forall_mem_cons.mpr ⟨lw_p22, List.forall_mem_cons.mpr ⟨lw_p23, List.forall_mem_cons.mpr ⟨lw_p24, List.forall_mem_cons.mpr ⟨lw_p25, List.forall_mem_cons.mpr ⟨lw_p26, fun _ h => absurd h List.not_mem_nil⟩⟩⟩⟩⟩⟩⟩⟩⟩⟩⟩
def lw_privs : List (MethodName × Nat) := lw_privs_1 ++ (lw_privs_2)
def lw_tbl : List Cond := k2_sels lw_privs ++ tables_1
theorem lw_privs_ok : ∀ q ∈ lw_privs, lw_okq q := by
  show ∀ q ∈ lw_privs_1 ++ (lw_privs_2), lw_okq q
  exact List.forall_mem_append.mpr ⟨lw_r1, lw_r2⟩
end
section
/-! THE PURE MACHINE: the program's own bytecode, over a list of cells; a reference is a cell's number + 1, 0 is the script -/
/-- a row: pc, instruction, length, the row behind it, two numbers resolved ahead (slot, target, class, field, callee ..), a list of targets -/
abbrev xa_R : Type := Nat × Jvm.ClassFile.Instr × Nat × Nat × Nat × Nat × List Nat
/-- a method: name, bytes, maxLocals, return type, handlers (as the file has them; class number, row), rows -/
abbrev xa_M : Type := MethodName × ByteArray × Nat × Option FieldType × List ((Nat × Nat × Nat × Nat) × Nat × Nat) × List xa_R
abbrev xa_nm (M : xa_M) : MethodName := M.1
abbrev xa_by (M : xa_M) : ByteArray := M.2.1
abbrev xa_mL (M : xa_M) : Nat := M.2.2.1
abbrev xa_rt (M : xa_M) : Option FieldType := M.2.2.2.1
abbrev xa_hz (M : xa_M) : List ((Nat × Nat × Nat × Nat) × Nat × Nat) := M.2.2.2.2.1
abbrev xa_hh (M : xa_M) : List (Nat × Nat × Nat × Nat) := (xa_hz M).map fun z => z.1
abbrev xa_hd (M : xa_M) : List (Nat × Nat) := (xa_hz M).map fun z => z.2
abbrev xa_rows (M : xa_M) : List xa_R := M.2.2.2.2.2
/-- a number from its size and its sign -/
def xa_con (r q : Nat) : Int32 := bif Nat.beq q 0 then nI r else - nI r
def xa_cat2 (v : Value) : Bool := match v with
  | .long _ => true
  | .double _ => true
  | _ => false
def xa_put1 (lv : List (Nat × Value)) (i : Nat) (v : Value) : List (Nat × Value) := (i, v) :: lv.filter (fun q => !(Nat.beq q.1 i) && !(Nat.beq (q.1 + 1) i && xa_cat2 q.2))
def xa_put2 (lv : List (Nat × Value)) (i : Nat) (v : Value) : List (Nat × Value) := (i, v) :: lv.filter (fun q => !(Nat.beq q.1 i) && (!(Nat.beq q.1 (i + 1)) && !(Nat.beq (q.1 + 1) i && xa_cat2 q.2)))
def xa_get (i : Nat) : List (Nat × Value) → Option Value
  | [] => none
  | q :: l => bif Nat.beq q.1 i then some q.2 else xa_get i l
def xa_cmp (c : Jvm.ClassFile.Cond) (x y : Int32) : Bool := match c with
  | .eq => decide (x = y)
  | .ne => !decide (x = y)
  | .lt => decide (x < y)
  | .ge => decide (y ≤ x)
  | .gt => decide (y < x)
  | .le => decide (x ≤ y)
/-- what a plain instruction does: the next row, locals, stack, cells; how many cells and slots it made -/
abbrev xa_N : Type := Nat × List (Nat × Value) × List Value × List va_E × Nat × Nat
abbrev xa_go (ip : Nat) (lv : List (Nat × Value)) (st : List Value) (h : List va_E) : Option xa_N := some (ip, lv, st, h, 0, 0)
def xa_inB (i : Int32) (n : Nat) : Bool := !(decide (i < 0) || decide (n ≤ i.toNatClampNeg))
/-- taking a value off the stack, out of a variable -/
def xa_pi {α : Type} (st : List Value) (k : Int32 → List Value → Option α) : Option α := match st with
  | .int x :: st => k x st
  | _ => none
def xa_pl {α : Type} (st : List Value) (k : Int64 → List Value → Option α) : Option α := match st with
  | .long x :: st => k x st
  | _ => none
def xa_pr {α : Type} (st : List Value) (k : Nat → List Value → Option α) : Option α := match st with
  | .ref x :: st => k x st
  | _ => none
def xa_p1 {α : Type} (st : List Value) (k : Value → List Value → Option α) : Option α := match st with
  | v :: st => bif xa_cat2 v then none else k v st
  | _ => none
def xa_li {α : Type} (r : Nat) (lv : List (Nat × Value)) (k : Int32 → Option α) : Option α := match xa_get r lv with
  | some (.int x) => k x
  | _ => none
def xa_ll {α : Type} (r : Nat) (lv : List (Nat × Value)) (k : Int64 → Option α) : Option α := match xa_get r lv with
  | some (.long x) => k x
  | _ => none
def xa_lr {α : Type} (r : Nat) (lv : List (Nat × Value)) (k : Nat → Option α) : Option α := match xa_get r lv with
  | some (.ref x) => k x
  | _ => none
/-- only where a test says so -/
def xa_if {α : Type} (c : Bool) (k : Option α) : Option α := match c with
  | true => k
  | false => none
/-- the array of a tag (0 int, 1 boolean) at a reference, the long array, the object of a class -/
def xa_ai {α : Type} (h : List va_E) (a t : Nat) (k : Nat → Nat → (Nat → Int32) → Option α) : Option α := match a with
  | 0 => none
  | j + 1 => match h[j]? with
    | some (.inl (t', n, .inl f)) => xa_if (Nat.beq t' t) (k j n f)
    | _ => none
def xa_al {α : Type} (h : List va_E) (a : Nat) (k : Nat → Nat → (Nat → Int64) → Option α) : Option α := match a with
  | 0 => none
  | j + 1 => match h[j]? with
    | some (.inl (t', n, .inr (.inl f))) => xa_if (Nat.beq t' 2) (k j n f)
    | _ => none
def xa_ob {α : Type} (h : List va_E) (a ci : Nat) (k : Nat → List Value → Option α) : Option α := match a with
  | 0 => none
  | j + 1 => match h[j]? with
    | some (.inr (c, fs)) => xa_if (Nat.beq c ci) (k j fs)
    | _ => none
/-- an array's length, the script's too; an int array's contents, the script's too; a new array -/
def xa_ln {α : Type} (L : Nat) (h : List va_E) (a : Nat) (k : Nat → Option α) : Option α := match a with
  | 0 => k L
  | j + 1 => match h[j]? with
    | some (.inl (_, n, _)) => k n
    | _ => none
def xa_is {α : Type} (L : Nat) (xs : Nat → Int32) (h : List va_E) (a : Nat) (k : Nat → (Nat → Int32) → Option α) : Option α := match a with
  | 0 => k L xs
  | j + 1 => xa_ai h (j + 1) 0 fun _ n f => k n f
def xa_z (r n : Nat) : va_E := match r with
  | 2 => .inl (2, n, .inr (.inl fun _ => 0))
  | r => .inl (r, n, .inl fun _ => 0)
def xa_fd {α : Type} (fs : List Value) (q : Nat) (k : Value → Option α) : Option α := match fs[q]? with
  | some v => k v
  | none => none
/-- a value for a field of a type (0 int, 1 reference, 2 long, 3 boolean) -/
def xa_fit (t : Nat) (v : Value) : Bool := match t, v with
  | 0, .int _ => true
  | 1, .ref _ => true
  | 2, .long _ => true
  | 3, .int x => decide (x = 0) || decide (x = 1)
  | _, _ => false
def xa_dflt (t : Nat) : Value := match t with
  | 1 => .null
  | 2 => .long 0
  | _ => .int 0
def xa_pv {α : Type} (st : List Value) (k : Value → List Value → Option α) : Option α := match st with
  | v :: st => k v st
  | _ => none
def xa_abs (x : Int32) : Int32 := if 0 ≤ x then x else 0 - x
def xa_cats (st : List Value) : Nat := (st.map fun v => v.category).sum
/-- a call that is no call of the program's own: Object's constructor, Math.abs, System.arraycopy -/
def xa_own (r nip : Nat) (lv : List (Nat × Value)) (st : List Value) (h : List va_E) : Option xa_N := match r with
  | 1000 => xa_pr st fun _ st => xa_if (Nat.ble (xa_cats st) 8) (xa_go nip lv st h)
  | 1001 => xa_pi st fun x st => xa_if (Nat.ble (xa_cats st) 8) (xa_go nip lv (.int (xa_abs x) :: st) h)
  | 1002 => xa_pi st fun n st => xa_pi st fun dp st => xa_pr st fun a st => xa_pi st fun sp st => xa_pr st fun a0 st => xa_ai h a0 0 fun _ n0 f => xa_ai h a 0 fun j n1 g =>
      xa_if (Nat.ble (xa_cats st) 8 && !(decide (sp < 0)) && !(decide (dp < 0)) && !(decide (n < 0)) && decide (sp.toNatClampNeg + n.toNatClampNeg ≤ n0) && decide (dp.toNatClampNeg + n.toNatClampNeg ≤ n1))
        (xa_go nip lv st (h.set j (.inl (0, n1, .inl (va_cpy f g sp.toNatClampNeg dp.toNatClampNeg n.toNatClampNeg)))))
  | _ => none
/-- plain instructions: constants, variables, stack, arithmetic, branches; fields and arrays -/
def xa_nx (L : Nat) (xs : Nat → Int32) (i : Jvm.ClassFile.Instr) (nip r q : Nat) (ts : List Nat) (lv : List (Nat × Value)) (st : List Value) (h : List va_E) : Option xa_N := match i with
  | .iconst _ => xa_go nip lv (.int (xa_con r q) :: st) h
  | .bipush _ => xa_go nip lv (.int (xa_con r q) :: st) h
  | .sipush _ => xa_go nip lv (.int (xa_con r q) :: st) h
  | .ldc _ => xa_go nip lv (.int (xa_con r q) :: st) h
  | .ldc_w _ => xa_go nip lv (.int (xa_con r q) :: st) h
  | .lconst _ => xa_go nip lv (.long (lN r) :: st) h
  | .ldc2_w _ => xa_go nip lv (.long (lN r) :: st) h
  | .iload_n _ => xa_li r lv fun x => xa_go nip lv (.int x :: st) h
  | .iload _ => xa_li r lv fun x => xa_go nip lv (.int x :: st) h
  | .lload_n _ => xa_ll r lv fun x => xa_go nip lv (.long x :: st) h
  | .lload _ => xa_ll r lv fun x => xa_go nip lv (.long x :: st) h
  | .aload_n _ => xa_lr r lv fun x => xa_go nip lv (.ref x :: st) h
  | .aload _ => xa_lr r lv fun x => xa_go nip lv (.ref x :: st) h
  | .istore_n _ => xa_pi st fun x st => xa_go nip (xa_put1 lv r (.int x)) st h
  | .istore _ => xa_pi st fun x st => xa_go nip (xa_put1 lv r (.int x)) st h
  | .astore_n _ => xa_pr st fun x st => xa_go nip (xa_put1 lv r (.ref x)) st h
  | .astore _ => xa_pr st fun x st => xa_go nip (xa_put1 lv r (.ref x)) st h
  | .lstore_n _ => xa_pl st fun x st => xa_go nip (xa_put2 lv r (.long x)) st h
  | .lstore _ => xa_pl st fun x st => xa_go nip (xa_put2 lv r (.long x)) st h
  | .iinc _ _ => xa_li r lv fun x => xa_go nip (xa_put1 lv r (.int (x + xa_con q ts.length))) st h
  | .iadd => xa_pi st fun y st => xa_pi st fun x st => xa_go nip lv (.int (x + y) :: st) h
  | .isub => xa_pi st fun y st => xa_pi st fun x st => xa_go nip lv (.int (x - y) :: st) h
  | .imul => xa_pi st fun y st => xa_pi st fun x st => xa_go nip lv (.int (x * y) :: st) h
  | .iand => xa_pi st fun y st => xa_pi st fun x st => xa_go nip lv (.int (x &&& y) :: st) h
  | .idiv => xa_pi st fun y st => xa_pi st fun x st => xa_if (!decide (y = 0)) (xa_go nip lv (.int (x / y) :: st) h)
  | .irem => xa_pi st fun y st => xa_pi st fun x st => xa_if (!decide (y = 0)) (xa_go nip lv (.int (x - x / y * y) :: st) h)
  | .ineg => xa_pi st fun x st => xa_go nip lv (.int (-x) :: st) h
  | .ladd => xa_pl st fun y st => xa_pl st fun x st => xa_go nip lv (.long (x + y) :: st) h
  | .lsub => xa_pl st fun y st => xa_pl st fun x st => xa_go nip lv (.long (x - y) :: st) h
  | .lmul => xa_pl st fun y st => xa_pl st fun x st => xa_go nip lv (.long (x * y) :: st) h
  | .ldiv => xa_pl st fun y st => xa_pl st fun x st => xa_if (!decide (y = 0)) (xa_go nip lv (.long (x / y) :: st) h)
  | .lrem => xa_pl st fun y st => xa_pl st fun x st => xa_if (!decide (y = 0)) (xa_go nip lv (.long (x - x / y * y) :: st) h)
  | .lcmp => xa_pl st fun y st => xa_pl st fun x st => xa_go nip lv (.int (lg_cmp x y) :: st) h
  | .i2l => xa_pi st fun x st => xa_go nip lv (.long x.toInt64 :: st) h
  | .l2i => xa_pl st fun x st => xa_go nip lv (.int x.toInt32 :: st) h
  | .dup => xa_p1 st fun v st => xa_go nip lv (v :: v :: st) h
  | .pop => xa_p1 st fun _ st => xa_go nip lv st h
  | .dup2 => xa_p1 st fun v st => xa_p1 st fun w st => xa_go nip lv (v :: w :: v :: w :: st) h
  | .ifCond c _ => xa_pi st fun x st => xa_go (bif xa_cmp c x 0 then r else nip) lv st h
  | .if_icmp c _ => xa_pi st fun y st => xa_pi st fun x st => xa_go (bif xa_cmp c x y then r else nip) lv st h
  | .goto _ => xa_go r lv st h
  | .tableswitch _ _ _ _ => xa_pi st fun x st => xa_go (bif decide (x < xa_con r 0) || decide (xa_con q 0 < x) then ts.headD 0 else ts.getD ((x.toNatClampNeg - r) + 1) 0) lv st h
  | .getfield _ => xa_pr st fun a st => xa_ob h a r fun _ fs => xa_fd fs q fun v => xa_go nip lv (v :: st) h
  | .putfield _ => xa_pv st fun v st => xa_pr st fun a st => xa_ob h a r fun j fs => xa_if (xa_fit (ts.headD 9) v && decide (q < fs.length)) (xa_go nip lv st (h.set j (.inr (r, fs.set q v))))
  | .arraylength => xa_pr st fun a st => xa_ln L h a fun n => xa_go nip lv (.int (nI n) :: st) h
  | .iaload => xa_pi st fun i st => xa_pr st fun a st => xa_is L xs h a fun n f => xa_if (xa_inB i n) (xa_go nip lv (.int (f i.toNatClampNeg) :: st) h)
  | .baload => xa_pi st fun i st => xa_pr st fun a st => xa_ai h a 1 fun _ n f => xa_if (xa_inB i n) (xa_go nip lv (.int (f i.toNatClampNeg) :: st) h)
  | .laload => xa_pi st fun i st => xa_pr st fun a st => xa_al h a fun _ n f => xa_if (xa_inB i n) (xa_go nip lv (.long (f i.toNatClampNeg) :: st) h)
  | .iastore => xa_pi st fun x st => xa_pi st fun i st => xa_pr st fun a st => xa_ai h a 0 fun j n f => xa_if (xa_inB i n) (xa_go nip lv st (h.set j (.inl (0, n, .inl (upd f i.toNatClampNeg x)))))
  | .bastore => xa_pi st fun x st => xa_pi st fun i st => xa_pr st fun a st => xa_ai h a 1 fun j n f => xa_if (xa_inB i n) (xa_go nip lv st (h.set j (.inl (1, n, .inl (upd f i.toNatClampNeg (vp_nar .boolean x))))))
  | .lastore => xa_pl st fun x st => xa_pi st fun i st => xa_pr st fun a st => xa_al h a fun j n f => xa_if (xa_inB i n) (xa_go nip lv st (h.set j (.inl (2, n, .inr (.inl (vp_updL f i.toNatClampNeg x))))))
  | .newarray _ => xa_pi st fun n st => xa_if (!(decide (n < 0)) && decide (n.toNatClampNeg ≤ 100000)) (some (nip, lv, .ref (h.length + 1) :: st, h ++ [xa_z r n.toNatClampNeg], 1, n.toNatClampNeg))
  | .new _ => some (nip, lv, .ref (h.length + 1) :: st, h ++ [.inr (r, ts.map xa_dflt)], 1, ts.length)
  | .invokespecial _ => xa_own r nip lv st h
  | .invokestatic _ => xa_own r nip lv st h
  | _ => none
/-- 0 plain, 1 a return, 2 'throw new', 3 a call of the program's own, 4 a call of the JDK's -/
def xa_kind (i : Jvm.ClassFile.Instr) (r q : Nat) : Nat := match i with
  | .ireturn => 1
  | .lreturn => 1
  | .return_ => 1
  | .new _ => bif Nat.beq q 99 then 2 else 0
  | .invokevirtual _ => 3
  | .invokespecial _ => bif Nat.blt r 1000 then 3 else 4
  | .invokestatic _ => bif Nat.blt r 1000 then 3 else 4
  | _ => 0
abbrev xa_O : Type := Outcome × List va_E × Nat × Nat
def xa_ret (rt : Option FieldType) (i : Jvm.ClassFile.Instr) (st : List Value) (h : List va_E) : Option xa_O := match i with
  | .ireturn => match st with
    | [.int x] => match rt with
      | some .int => some (.returned (some (.int x)), h, 0, 0)
      | some .boolean => some (.returned (some (.int (vp_nar .boolean x))), h, 0, 0)
      | _ => none
    | _ => none
  | .lreturn => match st with
    | [.long x] => match rt with
      | some .long => some (.returned (some (.long x)), h, 0, 0)
      | _ => none
    | _ => none
  | .return_ => match st with
    | [] => match rt with
      | none => some (.returned none, h, 0, 0)
      | _ => none
    | _ => none
  | _ => none
def xa_add (k z : Nat) (o : Option xa_O) : Option xa_O := match o with
  | some (o, h, k', z') => some (o, h, k + k', z + z')
  | none => none
/-- the receiver is an object of the class -/
def xa_rec (i : Jvm.ClassFile.Instr) (st : List Value) (h : List va_E) (q ci : Nat) : Bool := match i with
  | .invokevirtual _ => match st[q - 1]? with
    | some (.ref (j + 1)) => match h[j]? with
      | some (.inr (c, _)) => Nat.beq c ci
      | _ => false
    | _ => false
  | .invokespecial _ => match st[q - 1]? with
    | some (.ref _) => true
    | _ => false
  | _ => true
def xa_cok (i : Jvm.ClassFile.Instr) (mL q : Nat) (ts : List Nat) (st : List Value) (h : List va_E) : Bool :=
  Nat.ble q st.length && (Nat.ble (xa_cats (st.drop q) + mL + 11) (ts.getD 1 0) && (Nat.ble (xa_cats (st.take q)) mL && xa_rec i st h q (ts.headD 999)))
/-- the first handler for the object's class -/
def xa_hnd (hs : List (Nat × Nat)) (h : List va_E) (a : Nat) : Option Nat := match a with
  | 0 => none
  | j + 1 => match h[j]? with
    | some (.inr (c, _)) => (hs.find? (fun q => Nat.beq q.1 c)).map (fun q => q.2)
    | _ => none
theorem xa_hnd_nil (h : List va_E) (a : Nat) : xa_hnd [] h a = none := by
  unfold xa_hnd
  split
  · rfl
  · split <;> rfl
/-- one row, with what is said of the rest; d, w: frames and words that are left -/
abbrev xa_K : Type := Nat → Nat → Nat → Nat → List (Nat × Value) → List Value → List va_E → Option xa_O
def xa_stp (mt : Nat → xa_M) (L : Nat) (xs : Nat → Int32) (rc : xa_K) : xa_K := fun d w y ip lv st h => match (xa_rows (mt y))[ip]? with
  | none => none
  | some (_, i, _, nip, r, q, ts) => match xa_kind i r q with
    | 0 => match xa_nx L xs i nip r q ts lv st h with
      | none => none
      | some (ip', lv', st', h', k, z) => xa_add k z (rc d w y ip' lv' st' h')
    | 1 => xa_ret (xa_rt (mt y)) i st h
    | 2 => xa_if (Nat.ble (xa_cats st) 8 && (Nat.ble 6 d && Nat.ble 100 w)) (some (.threw (h.length + 1), h ++ [.inr (r, [])], 1, 6))
    | 3 => xa_if (xa_cok i (xa_mL (mt r)) q ts st h && (Nat.ble 1 d && Nat.ble (ts.getD 1 0) w)) (match rc (d - 1) (w - ts.getD 1 0) r 0 (lv_args 0 (st.take q).reverse) [] h with
      | none => none
      | some (.returned v, h1, k1, z1) => xa_add k1 z1 (rc d w y nip lv (v.toList ++ st.drop q) h1)
      | some (.threw x, h1, k1, z1) => match xa_hnd (xa_hd (mt y)) h1 x with
        | none => xa_if (xa_hd (mt y)).isEmpty (some (.threw x, h1, k1, z1))
        | some ip' => xa_add k1 z1 (rc d w y ip' lv [.ref x] h1))
    | _ => xa_if (Nat.ble 1 d && Nat.ble 30 w) (match xa_nx L xs i nip r q ts lv st h with
      | none => none
      | some (ip', lv', st', h', k, z) => xa_add k z (rc d w y ip' lv' st' h'))
def xa_ev (mt : Nat → xa_M) (L : Nat) (xs : Nat → Int32) : Nat → xa_K
  | 0 => fun _ _ _ _ _ _ _ => none
  | n + 1 => xa_stp mt L xs (xa_ev mt L xs n)
theorem xa_add_some {k z : Nat} {o : Option xa_O} {o' : Outcome} {h : List va_E} {k' z' : Nat} (e : xa_add k z o = some (o', h, k', z')) : ∃ k1 z1, o = some (o', h, k1, z1) ∧ k' = k + k1 ∧ z' = z + z1 := by
  unfold xa_add at e
  split at e
  · cases e; exact ⟨_, _, rfl, rfl, rfl⟩
  · cases e
theorem xa_add_mono {k z : Nat} {o o2 : Option xa_O} (h : ∀ r, o = some r → o2 = some r) {r : xa_O} (e : xa_add k z o = some r) : xa_add k z o2 = some r := by
  unfold xa_add at e
  split at e
  · rw [h _ rfl]; exact e
  · cases e
theorem xa_ifs {α : Type} {c : Bool} {k : Option α} {o : α} (h : xa_if c k = some o) : c = true ∧ k = some o := by
  cases c with
  | true => exact ⟨rfl, h⟩
  | false => cases h
theorem xa_ift {α : Type} {c : Bool} {k : Option α} (h : c = true) : xa_if c k = k := by subst h; rfl
theorem xa_stp_mono {mt : Nat → xa_M} {L : Nat} {xs : Nat → Int32} {rc rc2 : xa_K} (hr : ∀ d w y ip lv st h r, rc d w y ip lv st h = some r → rc2 d w y ip lv st h = some r) {d w y ip : Nat} {lv : List (Nat × Value)} {st : List Value} {h : List va_E} {r : xa_O} (e : xa_stp mt L xs rc d w y ip lv st h = some r) : xa_stp mt L xs rc2 d w y ip lv st h = some r := by
  unfold xa_stp at e ⊢
  (try dsimp only at e ⊢)
  split at e
  · cases e
  · rename_i pc i len nip r' q ts hrow
    split at e
    · split at e
      · cases e
      · rename_i ip' lv' st' h' k z hnx
        exact xa_add_mono (fun r hh => hr _ _ _ _ _ _ _ _ hh) e
    · exact e
    · exact e
    · obtain ⟨hc, e⟩ := xa_ifs e
      rw [xa_ift hc]
      split at e
      · cases e
      · rename_i v h1 k1 z1 hcal
        rw [hr _ _ _ _ _ _ _ _ hcal]
        exact xa_add_mono (fun r hh => hr _ _ _ _ _ _ _ _ hh) e
      · rename_i x h1 k1 z1 hcal
        rw [hr _ _ _ _ _ _ _ _ hcal]
        dsimp only
        split at e
        · exact e
        · exact xa_add_mono (fun r hh => hr _ _ _ _ _ _ _ _ hh) e
    · obtain ⟨hc, e⟩ := xa_ifs e
      rw [xa_ift hc]
      split at e
      · cases e
      · rename_i ip' lv' st' h' k z hnx
        exact xa_add_mono (fun r hh => hr _ _ _ _ _ _ _ _ hh) e
theorem xa_ev_up {mt : Nat → xa_M} {L : Nat} {xs : Nat → Int32} : ∀ (n d w y ip : Nat) (lv : List (Nat × Value)) (st : List Value) (h : List va_E) (r : xa_O), xa_ev mt L xs n d w y ip lv st h = some r → xa_ev mt L xs (n + 1) d w y ip lv st h = some r
  | 0, _, _, _, _, _, _, _, _, e => by cases e
  | n + 1, _, _, _, _, _, _, _, _, e => xa_stp_mono (xa_ev_up n) e
theorem xa_ev_le {mt : Nat → xa_M} {L : Nat} {xs : Nat → Int32} {n n2 : Nat} (hn : n ≤ n2) {d w y ip : Nat} {lv : List (Nat × Value)} {st : List Value} {h : List va_E} {r : xa_O} (e : xa_ev mt L xs n d w y ip lv st h = some r) : xa_ev mt L xs n2 d w y ip lv st h = some r := by
  induction hn with
  | refl => exact e
  | step _ ih => exact xa_ev_up _ _ _ _ _ _ _ _ _ ih
end
section
/-! THE REAL MACHINE DOES WHAT THE PURE ONE SAYS -/
/-- a pure reference as an address: the script's, or so many behind the base -/
def xa_rv (b base : Nat) (v : Value) : Value := match v with
  | .ref 0 => .ref b
  | .ref (k + 1) => .ref (base + k)
  | v => v
def xa_tag (cs : ClassId × ClassId × ClassId) (t : Nat) : ClassId := match t with
  | 0 => cs.1
  | 1 => cs.2.1
  | _ => cs.2.2
def xa_re (cs : ClassId × ClassId × ClassId) (b base : Nat) (e : va_E) : va_E := match e with
  | .inl (t, x) => .inl (xa_tag cs t, x)
  | .inr (c, fs) => .inr (c, fs.map (xa_rv b base))
def xa_W (cs : ClassId × ClassId × ClassId) (b base : Nat) (h : List va_E) : va_W := h.mapIdx fun k e => (base + k, xa_re cs b base e)
def xa_lv (b base : Nat) (lv : List (Nat × Value)) : List (Nat × Value) := lv.map fun q => (q.1, xa_rv b base q.2)
def xa_tys (cs : ClassId × ClassId × ClassId) : List (ClassId × FieldType) := [(cs.1, .int), (cs.2.1, .boolean), (cs.2.2, .long)]
/-- the heap holds the pure cells, all from the base on, and nothing else there -/
def xa_Mt (D : va_G) (cl : List vw_C) (cs : ClassId × ClassId × ClassId) (b base : Nat) (h : List va_E) (H : Heap) : Prop := base + h.length ≤ H.size ∧ va_P D cl (xa_W cs b base h) H
abbrev xa_A (base : Nat) : Nat → Prop := fun q => base ≤ q
theorem xa_rv_cat (b base : Nat) (v : Value) : (xa_rv b base v).category = v.category := by
  cases v with
  | ref a => cases a <;> rfl
  | _ => rfl
theorem xa_cat2_iff (v : Value) : (v.category == 2) = xa_cat2 v := by cases v <;> rfl
theorem xa_cat2_iff' (v : Value) : Nat.beq v.category 2 = xa_cat2 v := by cases v <;> rfl
theorem xa_cat1 {v : Value} (h : xa_cat2 v = false) : v.category = 1 := by cases v <;> first | rfl | (simp [xa_cat2] at h)
theorem xa_cats_rv (b base : Nat) (st : List Value) : ((st.map (xa_rv b base)).map fun v => v.category).sum = xa_cats st := by
  induction st with
  | nil => rfl
  | cons v st ih =>
    simp only [List.map_cons, List.sum_cons, xa_cats] at ih ⊢
    rw [ih, xa_rv_cat]
theorem xa_W_get (cs : ClassId × ClassId × ClassId) (b base : Nat) (h : List va_E) (k : Nat) : (xa_W cs b base h)[k]? = (h[k]?).map fun e => (base + k, xa_re cs b base e) := by
  simp [xa_W]
theorem xa_W_at {cs : ClassId × ClassId × ClassId} {b base : Nat} {h : List va_E} {k : Nat} {e : va_E} (hk : h[k]? = some e) : (xa_W cs b base h)[k]? = some (base + k, xa_re cs b base e) := by
  rw [xa_W_get, hk]; rfl
theorem xa_W_len (cs : ClassId × ClassId × ClassId) (b base : Nat) (h : List va_E) : (xa_W cs b base h).length = h.length := by simp [xa_W]
theorem xa_W_set (cs : ClassId × ClassId × ClassId) (b base : Nat) (h : List va_E) (k : Nat) (e : va_E) : xa_W cs b base (h.set k e) = (xa_W cs b base h).set k (base + k, xa_re cs b base e) := by
  apply List.ext_getElem?
  intro i
  rw [xa_W_get, List.getElem?_set, List.getElem?_set, xa_W_len]
  by_cases hik : k = i
  · subst hik
    by_cases hl : k < h.length
    · simp [hl]
    · simp [hl]
  · simp [hik, xa_W_get]
theorem xa_W_push (cs : ClassId × ClassId × ClassId) (b base : Nat) (h : List va_E) (e : va_E) : xa_W cs b base (h ++ [e]) = xa_W cs b base h ++ [(base + h.length, xa_re cs b base e)] := by
  simp [xa_W, List.mapIdx_append]
theorem xa_W_D (cs : ClassId × ClassId × ClassId) (b base : Nat) (h : List va_E) : va_D (xa_A base) (xa_W cs b base h) := by
  have key : ∀ (k : Nat) (q : Nat × va_E), (xa_W cs b base h)[k]? = some q → q.1 = base + k := by
    intro k q hq
    rw [xa_W_get] at hq
    cases hk : h[k]? with
    | none => rw [hk] at hq; cases hq
    | some e => rw [hk] at hq; cases hq; rfl
  refine ⟨fun i j p q hi hj hpq => ?_, fun k q hk => ?_⟩
  · have h1 := key i p hi
    have h2 := key j q hj
    omega
  · have h1 := key k q hk
    show base ≤ q.1
    omega
theorem xa_lv_get {b base : Nat} {lv : List (Nat × Value)} {i : Nat} {v : Value} (h : xa_get i lv = some v) : (i, xa_rv b base v) ∈ xa_lv b base lv := by
  induction lv with
  | nil => cases h
  | cons q l ih =>
    unfold xa_get at h
    cases hb : Nat.beq q.1 i with
    | true =>
      rw [hb] at h
      have h1 : q.1 = i := Nat.eq_of_beq_eq_true hb
      have h2 : q.2 = v := Option.some.inj h
      subst h1; subst h2
      exact List.mem_cons_self
    | false =>
      rw [hb] at h
      exact List.mem_cons_of_mem _ (ih h)
theorem xa_slot {ls : Array Slot} {n b base : Nat} {lv : List (Nat × Value)} (hl : lv_has ls n (xa_lv b base lv)) {i : Nat} {v : Value} (h : xa_get i lv = some v) : ls[i]? = some (.val (xa_rv b base v)) := hl.2.2 _ (xa_lv_get h)
theorem xa_place {ls : Array Slot} {n b base : Nat} {lv : List (Nat × Value)} (hl : lv_has ls n (xa_lv b base lv)) {i : Nat} {v : Value} (h : xa_get i lv = some v) : ∃ k : Nat, (xa_lv b base lv)[k]? = some (i, xa_rv b base v) := List.getElem?_of_mem (xa_lv_get h)
theorem xa_beq (a b : Nat) : (a == b) = Nat.beq a b := by
  rw [Bool.eq_iff_iff, beq_iff_eq, Nat.beq_eq]
theorem xa_lv_put1 (b base : Nat) (lv : List (Nat × Value)) (i : Nat) (v : Value) : (i, xa_rv b base v) :: (xa_lv b base lv).filter (fun q => !(q.1 == i) && !(q.1 + 1 == i && q.2.category == 2)) = xa_lv b base (xa_put1 lv i v) := by
  simp only [xa_put1, xa_lv, List.map_cons, List.filter_map]
  congr 2
  apply List.filter_congr
  intro q _
  simp only [Function.comp, xa_rv_cat, xa_beq, xa_cat2_iff']
theorem xa_lv_put2 (b base : Nat) (lv : List (Nat × Value)) (i : Nat) (v : Value) : (i, xa_rv b base v) :: (xa_lv b base lv).filter (fun q => !(q.1 == i) && (!(q.1 == i + 1) && !(q.1 + 1 == i && q.2.category == 2))) = xa_lv b base (xa_put2 lv i v) := by
  simp only [xa_put2, xa_lv, List.map_cons, List.filter_map]
  congr 2
  apply List.filter_congr
  intro q _
  simp only [Function.comp, xa_rv_cat, xa_beq, xa_cat2_iff']
/-! what a successful take says -/
theorem xa_pi_some {α : Type} {st : List Value} {k : Int32 → List Value → Option α} {o : α} (h : xa_pi st k = some o) : ∃ x st', st = .int x :: st' ∧ k x st' = some o := by
  unfold xa_pi at h
  split at h
  · exact ⟨_, _, rfl, h⟩
  · cases h
theorem xa_pl_some {α : Type} {st : List Value} {k : Int64 → List Value → Option α} {o : α} (h : xa_pl st k = some o) : ∃ x st', st = .long x :: st' ∧ k x st' = some o := by
  unfold xa_pl at h
  split at h
  · exact ⟨_, _, rfl, h⟩
  · cases h
theorem xa_pr_some {α : Type} {st : List Value} {k : Nat → List Value → Option α} {o : α} (h : xa_pr st k = some o) : ∃ x st', st = .ref x :: st' ∧ k x st' = some o := by
  unfold xa_pr at h
  split at h
  · exact ⟨_, _, rfl, h⟩
  · cases h
theorem xa_p1_some {α : Type} {st : List Value} {k : Value → List Value → Option α} {o : α} (h : xa_p1 st k = some o) : ∃ v st', st = v :: st' ∧ xa_cat2 v = false ∧ k v st' = some o := by
  unfold xa_p1 at h
  split at h
  · rename_i v st
    cases hc : xa_cat2 v with
    | true => rw [hc] at h; cases h
    | false => rw [hc] at h; exact ⟨v, st, rfl, hc, h⟩
  · cases h
theorem xa_pv_some {α : Type} {st : List Value} {k : Value → List Value → Option α} {o : α} (h : xa_pv st k = some o) : ∃ v st', st = v :: st' ∧ k v st' = some o := by
  unfold xa_pv at h
  split at h
  · exact ⟨_, _, rfl, h⟩
  · cases h
theorem xa_li_some {α : Type} {r : Nat} {lv : List (Nat × Value)} {k : Int32 → Option α} {o : α} (h : xa_li r lv k = some o) : ∃ x, xa_get r lv = some (.int x) ∧ k x = some o := by
  unfold xa_li at h
  split at h
  · exact ⟨_, by assumption, h⟩
  · cases h
theorem xa_ll_some {α : Type} {r : Nat} {lv : List (Nat × Value)} {k : Int64 → Option α} {o : α} (h : xa_ll r lv k = some o) : ∃ x, xa_get r lv = some (.long x) ∧ k x = some o := by
  unfold xa_ll at h
  split at h
  · exact ⟨_, by assumption, h⟩
  · cases h
theorem xa_lr_some {α : Type} {r : Nat} {lv : List (Nat × Value)} {k : Nat → Option α} {o : α} (h : xa_lr r lv k = some o) : ∃ x, xa_get r lv = some (.ref x) ∧ k x = some o := by
  unfold xa_lr at h
  split at h
  · exact ⟨_, by assumption, h⟩
  · cases h
theorem xa_if_some {α : Type} {c : Bool} {k : Option α} {o : α} (h : xa_if c k = some o) : c = true ∧ k = some o := by
  cases c with
  | true => exact ⟨rfl, h⟩
  | false => cases h
theorem xa_ai_some {α : Type} {h : List va_E} {a t : Nat} {k : Nat → Nat → (Nat → Int32) → Option α} {o : α} (e : xa_ai h a t k = some o) : ∃ j n f, a = j + 1 ∧ h[j]? = some (.inl (t, n, .inl f)) ∧ k j n f = some o := by
  unfold xa_ai at e
  split at e
  · cases e
  · split at e
    · rename_i t' n f hj
      obtain ⟨h1, h2⟩ := xa_if_some e
      have h3 : t' = t := Nat.eq_of_beq_eq_true h1
      subst h3
      exact ⟨_, n, f, rfl, hj, h2⟩
    · cases e
theorem xa_al_some {α : Type} {h : List va_E} {a : Nat} {k : Nat → Nat → (Nat → Int64) → Option α} {o : α} (e : xa_al h a k = some o) : ∃ j n f, a = j + 1 ∧ h[j]? = some (.inl (2, n, .inr (.inl f))) ∧ k j n f = some o := by
  unfold xa_al at e
  split at e
  · cases e
  · split at e
    · rename_i t' n f hj
      obtain ⟨h1, h2⟩ := xa_if_some e
      have h3 : t' = 2 := Nat.eq_of_beq_eq_true h1
      subst h3
      exact ⟨_, n, f, rfl, hj, h2⟩
    · cases e
theorem xa_ob_some {α : Type} {h : List va_E} {a ci : Nat} {k : Nat → List Value → Option α} {o : α} (e : xa_ob h a ci k = some o) : ∃ j fs, a = j + 1 ∧ h[j]? = some (.inr (ci, fs)) ∧ k j fs = some o := by
  unfold xa_ob at e
  split at e
  · cases e
  · split at e
    · rename_i c fs hj
      obtain ⟨h1, h2⟩ := xa_if_some e
      have h3 : c = ci := Nat.eq_of_beq_eq_true h1
      subst h3
      exact ⟨_, fs, rfl, hj, h2⟩
    · cases e
theorem xa_ln_some {α : Type} {L : Nat} {h : List va_E} {a : Nat} {k : Nat → Option α} {o : α} (e : xa_ln L h a k = some o) : (a = 0 ∧ k L = some o) ∨ ∃ (j t n : Nat) (y : (Nat → Int32) ⊕ (Nat → Int64) ⊕ (Nat → UInt32) ⊕ (Nat → UInt64) ⊕ (Nat → Option Nat)), a = j + 1 ∧ h[j]? = some (.inl (t, n, y)) ∧ k n = some o := by
  unfold xa_ln at e
  split at e
  · exact Or.inl ⟨rfl, e⟩
  · split at e
    · rename_i hj
      exact Or.inr ⟨_, _, _, _, rfl, hj, e⟩
    · cases e
theorem xa_is_some {α : Type} {L : Nat} {xs : Nat → Int32} {h : List va_E} {a : Nat} {k : Nat → (Nat → Int32) → Option α} {o : α} (e : xa_is L xs h a k = some o) : (a = 0 ∧ k L xs = some o) ∨ ∃ j n f, a = j + 1 ∧ h[j]? = some (.inl (0, n, .inl f)) ∧ k n f = some o := by
  unfold xa_is at e
  split at e
  · exact Or.inl ⟨rfl, e⟩
  · obtain ⟨j, n, f, h1, h2, h3⟩ := xa_ai_some e
    exact Or.inr ⟨j, n, f, h1, h2, h3⟩
theorem xa_fd_some {α : Type} {fs : List Value} {q : Nat} {k : Value → Option α} {o : α} (e : xa_fd fs q k = some o) : ∃ v, fs[q]? = some v ∧ k v = some o := by
  unfold xa_fd at e
  split at e
  · exact ⟨_, by assumption, e⟩
  · cases e
theorem xa_go_some {ip ip' : Nat} {lv lv' : List (Nat × Value)} {st st' : List Value} {h h' : List va_E} {k z : Nat} (e : xa_go ip lv st h = some (ip', lv', st', h', k, z)) : ip = ip' ∧ lv = lv' ∧ st = st' ∧ h = h' ∧ k = 0 ∧ z = 0 := by
  cases e
  exact ⟨rfl, rfl, rfl, rfl, rfl, rfl⟩
theorem xa_inB_vp {i : Int32} {n : Nat} (h : xa_inB i n = true) : vp_in i n := by
  unfold xa_inB at h
  intro hc
  simp only [Bool.not_eq_true', Bool.or_eq_false_iff, decide_eq_false_iff_not] at h
  exact hc.elim h.1 h.2
end
section
/-! THE ROWS ARE TRUE: what is checked of each row (by the kernel, once) -/
def xa_pc (M : xa_M) (ip : Nat) : Nat := match (xa_rows M)[ip]? with
  | some q => q.1
  | none => 0
def xa_tt (t : FieldType) : Nat := match t with
  | .int => 0
  | .long => 2
  | .boolean => 3
  | .object _ => 1
  | .array _ => 1
  | _ => 9
def xa_ta (t : Jvm.ClassFile.ArrayType) : Nat := match t with
  | .int => 0
  | .boolean => 1
  | .long => 2
  | _ => 9
def xa_ckF (cl : List vw_C) (r q : Nat) (k : String → u_T → Nat → Bool) : Bool := match cl[r]? with
  | some (C, T, N) => decide (q < N) && k C T N
  | none => false
def xa_tyD (d : String) : Nat := match parseFieldDescriptor d with
  | some t => xa_tt t
  | none => 9
def xa_ck (cl : List vw_C) (Ts : List Jvm.Cond) (M : xa_M) (pc : Nat) (i : Jvm.ClassFile.Instr) (len nip r q : Nat) (ts : List Nat) : Bool :=
  decide (decode (xa_by M) pc = .ok (i, len)) && match i with
  | .iconst n => decide (len = 1) && (decide (xa_pc M nip = pc + 1) && (decide (Int32.ofInt n = xa_con r q)))
  | .bipush n => decide (len = 2) && (decide (xa_pc M nip = pc + 2) && (decide ((Int8.ofInt n).toInt32 = xa_con r q)))
  | .sipush n => decide (len = 3) && (decide (xa_pc M nip = pc + 3) && (decide ((Int16.ofInt n).toInt32 = xa_con r q)))
  | .ldc x => decide (len = 2) && (decide (xa_pc M nip = pc + 2) && (decide (Jvm.Cond.constant (xa_nm M).cls x (xa_con r q) ∈ Ts)))
  | .ldc_w x => decide (len = 3) && (decide (xa_pc M nip = pc + 3) && (decide (Jvm.Cond.constant (xa_nm M).cls x (xa_con r q) ∈ Ts)))
  | .lconst n => decide (len = 1) && (decide (xa_pc M nip = pc + 1) && (decide (Int64.ofNat (n : Nat) = lN r)))
  | .ldc2_w x => decide (len = 3) && (decide (xa_pc M nip = pc + 3) && (decide (Jvm.Cond.constantLong (xa_nm M).cls x (lN r) ∈ Ts)))
  | .iload_n n => decide (len = 1) && (decide (xa_pc M nip = pc + 1) && (decide ((n : Nat) = r)))
  | .iload n => decide (len = 2) && (decide (xa_pc M nip = pc + 2) && (decide (n = r)))
  | .lload_n n => decide (len = 1) && (decide (xa_pc M nip = pc + 1) && (decide ((n : Nat) = r)))
  | .lload n => decide (len = 2) && (decide (xa_pc M nip = pc + 2) && (decide (n = r)))
  | .aload_n n => decide (len = 1) && (decide (xa_pc M nip = pc + 1) && (decide ((n : Nat) = r)))
  | .aload n => decide (len = 2) && (decide (xa_pc M nip = pc + 2) && (decide (n = r)))
  | .istore_n n => decide (len = 1) && (decide (xa_pc M nip = pc + 1) && (decide ((n : Nat) = r) && (decide (r < xa_mL M))))
  | .istore n => decide (len = 2) && (decide (xa_pc M nip = pc + 2) && (decide (n = r) && (decide (r < xa_mL M))))
  | .astore_n n => decide (len = 1) && (decide (xa_pc M nip = pc + 1) && (decide ((n : Nat) = r) && (decide (r < xa_mL M))))
  | .astore n => decide (len = 2) && (decide (xa_pc M nip = pc + 2) && (decide (n = r) && (decide (r < xa_mL M))))
  | .lstore_n n => decide (len = 1) && (decide (xa_pc M nip = pc + 1) && (decide ((n : Nat) = r) && (decide (r + 1 < xa_mL M))))
  | .lstore n => decide (len = 2) && (decide (xa_pc M nip = pc + 2) && (decide (n = r) && (decide (r + 1 < xa_mL M))))
  | .iinc n c => decide (len = 3) && (decide (xa_pc M nip = pc + 3) && (decide (n = r) && (decide (Int32.ofInt c = xa_con q ts.length) && (decide (r < xa_mL M)))))
  | .iadd => decide (len = 1) && (decide (xa_pc M nip = pc + 1))
  | .isub => decide (len = 1) && (decide (xa_pc M nip = pc + 1))
  | .imul => decide (len = 1) && (decide (xa_pc M nip = pc + 1))
  | .iand => decide (len = 1) && (decide (xa_pc M nip = pc + 1))
  | .idiv => decide (len = 1) && (decide (xa_pc M nip = pc + 1))
  | .irem => decide (len = 1) && (decide (xa_pc M nip = pc + 1))
  | .ineg => decide (len = 1) && (decide (xa_pc M nip = pc + 1))
  | .ladd => decide (len = 1) && (decide (xa_pc M nip = pc + 1))
  | .lsub => decide (len = 1) && (decide (xa_pc M nip = pc + 1))
  | .lmul => decide (len = 1) && (decide (xa_pc M nip = pc + 1))
  | .ldiv => decide (len = 1) && (decide (xa_pc M nip = pc + 1))
  | .lrem => decide (len = 1) && (decide (xa_pc M nip = pc + 1))
  | .lcmp => decide (len = 1) && (decide (xa_pc M nip = pc + 1))
  | .i2l => decide (len = 1) && (decide (xa_pc M nip = pc + 1))
  | .l2i => decide (len = 1) && (decide (xa_pc M nip = pc + 1))
  | .dup => decide (len = 1) && (decide (xa_pc M nip = pc + 1))
  | .pop => decide (len = 1) && (decide (xa_pc M nip = pc + 1))
  | .dup2 => decide (len = 1) && (decide (xa_pc M nip = pc + 1))
  | .arraylength => decide (len = 1) && (decide (xa_pc M nip = pc + 1))
  | .iaload => decide (len = 1) && (decide (xa_pc M nip = pc + 1))
  | .baload => decide (len = 1) && (decide (xa_pc M nip = pc + 1))
  | .laload => decide (len = 1) && (decide (xa_pc M nip = pc + 1))
  | .iastore => decide (len = 1) && (decide (xa_pc M nip = pc + 1))
  | .bastore => decide (len = 1) && (decide (xa_pc M nip = pc + 1))
  | .lastore => decide (len = 1) && (decide (xa_pc M nip = pc + 1))
  | .ifCond _ off => decide (len = 3) && (decide (xa_pc M nip = pc + 3) && (decide ((pc : Int) + off = (xa_pc M r : Int))))
  | .if_icmp _ off => decide (len = 3) && (decide (xa_pc M nip = pc + 3) && (decide ((pc : Int) + off = (xa_pc M r : Int))))
  | .goto off => decide (len = 3) && (decide ((pc : Int) + off = (xa_pc M r : Int)))
  | .tableswitch df lo hi offs => decide (lo = (r : Int)) && (decide (hi = (q : Int)) && (decide (q < 1000) && (decide (r ≤ q) && (decide ((pc : Int) + df = (xa_pc M (ts.headD 0) : Int)) && ((List.range (q - r + 1)).all (fun j => match offs[j]? with
    | some off => decide ((pc : Int) + off = (xa_pc M (ts.getD (j + 1) 0) : Int))
    | none => false))))))
  | .getfield x => decide (len = 3) && (decide (xa_pc M nip = pc + 3) && (xa_ckF cl r q (fun _ T _ => decide (Jvm.Cond.fieldLink (xa_nm M).cls x (T q).1 (T q).2.1 (T q).2.2.1 ∈ Ts))))
  | .putfield x => decide (len = 3) && (decide (xa_pc M nip = pc + 3) && (xa_ckF cl r q (fun _ T _ => decide (Jvm.Cond.fieldLink (xa_nm M).cls x (T q).1 (T q).2.1 (T q).2.2.1 ∈ Ts) && (decide (xa_tyD (T q).2.2.1 = ts.headD 9) && (!(T q).2.2.2 || (decide ((xa_nm M).name = "<init>") && decide ((T q).1 = (xa_nm M).cls)))))))
  | .newarray t => decide (len = 2) && (decide (xa_pc M nip = pc + 2) && (decide (xa_ta t = r) && (decide (r < 3) && (decide (Jvm.Cond.arrayClass (newarray.typeOf t) ∈ Ts)))))
  | .new x => decide (len = 3) && (decide (xa_pc M nip = pc + 3) && ((match cl[r]? with
    | some (C, T, N) => decide (N = ts.length) && (decide (Jvm.Cond.classLink (xa_nm M).cls x C ∈ Ts) && (decide (Jvm.Cond.instantiable C N ∈ Ts) && (decide (Jvm.Cond.initialized C ∈ Ts) && (List.range N).all (fun j => decide (xa_tyD (T j).2.2.1 = ts.getD j 9) && decide (xa_tyD (T j).2.2.1 < 4)))))
    | none => false)))
  | .invokespecial x => decide (len = 3) && (decide (xa_pc M nip = pc + 3) && (decide (r = 1000) && (decide (Jvm.Cond.methodLink (xa_nm M).cls x Lib.objectInit ∈ Ts) && (decide (Jvm.Cond.instanceMethod Lib.objectInit ∈ Ts) && (decide (Jvm.Cond.code Lib.objectInit ⟨#[0xb1]⟩ 1 none ∈ Ts))))))
  | .invokestatic x => decide (len = 3) && (decide (xa_pc M nip = pc + 3) && (match r with
    | 1001 => decide (Jvm.Cond.methodLink (xa_nm M).cls x Lib.Math.abs.name ∈ Ts) && (decide (Jvm.Cond.static Lib.Math.abs.name ∈ Ts) && (decide (Jvm.Cond.initialized "java/lang/Math" ∈ Ts) && decide (Jvm.Cond.code Lib.Math.abs.name Lib.Math.abs.code 1 (some .int) ∈ Ts)))
    | 1002 => decide (Jvm.Cond.methodLink (xa_nm M).cls x arraycopyName ∈ Ts) && (decide (Jvm.Cond.native arraycopyName ∈ Ts) && (decide (Jvm.Cond.static arraycopyName ∈ Ts) && decide (Jvm.Cond.initialized "java/lang/System" ∈ Ts)))
    | _ => false))
  | _ => false
/-- of the classes: their fields' words are there, their types are types, their names differ -/
def xa_ckC (cl : List vw_C) (Ts : List Jvm.Cond) : Bool := cl.all fun q => (List.range q.2.2).all fun k => decide (u_lay q.1 q.2.1 k ∈ Ts) && ((parseFieldDescriptor (q.2.1 k).2.2.1).isSome && (List.range q.2.2).all fun j => decide (k = j) || !decide ((q.2.1 k).2.1 = (q.2.1 j).2.1))
def xa_ty0 (T : u_T) (k : Nat) : FieldType := (parseFieldDescriptor (T k).2.2.1).getD .int
theorem xa_ckC_in {cl : List vw_C} {Ts : List Jvm.Cond} (h : xa_ckC cl Ts = true) {r : Nat} {C : String} {T : u_T} {N : Nat} (hr : cl[r]? = some (C, T, N)) : (∀ w ∈ u_ws C T N, w ∈ Ts) ∧ (∀ k, k < N → parseFieldDescriptor (T k).2.2.1 = some (xa_ty0 T k)) ∧ (∀ a, a < N → ∀ b, b < N → a ≠ b → (T a).2.1 ≠ (T b).2.1) := by
  have h1 := List.all_eq_true.mp h _ (List.mem_of_getElem? hr)
  have h2 : ∀ k, k < N → u_lay C T k ∈ Ts ∧ (parseFieldDescriptor (T k).2.2.1).isSome = true ∧ ∀ j, j < N → k = j ∨ ¬ (T k).2.1 = (T j).2.1 := by
    intro k hk
    have h3 := List.all_eq_true.mp h1 k (List.mem_range.mpr hk)
    simp only [Bool.and_eq_true, decide_eq_true_eq] at h3
    refine ⟨h3.1, h3.2.1, fun j hj => ?_⟩
    have h4 := List.all_eq_true.mp h3.2.2 j (List.mem_range.mpr hj)
    simpa using h4
  refine ⟨fun w hw => ?_, fun k hk => ?_, fun a ha b hb hab => ?_⟩
  · obtain ⟨k, hk, rfl⟩ := List.mem_map.mp hw
    exact (h2 k (List.mem_range.mp hk)).1
  · obtain ⟨t, ht⟩ := Option.isSome_iff_exists.mp (h2 k hk).2.1
    rw [xa_ty0, ht]; rfl
  · exact ((h2 a ha).2.2 b hb).resolve_left hab
end
section
/-! A PLAIN ROW: the real machine follows -/
/-- what holds in a frame of the method M -/
def xa_Fr (D : va_G) (cl : List vw_C) (Ts : List Jvm.Cond) (cs : ClassId × ClassId × ClassId) (b base L : Nat) (xs : Nat → Int32) (M : xa_M) (p : Program) (s : State) (m : MethodId) (args : Array Value) (meth : Method) (c : Code) : Prop :=
  p.tables.exec = Jvm.exec ∧ c.code = xa_by M ∧ c.maxLocals = xa_mL M ∧ s.vm.findClass (xa_nm M).cls = some m.cls ∧ (∀ w ∈ Ts, w.before args s = true) ∧ va_K D cl (xa_tys cs) s ∧ va_X b L xs s s.heap ∧ b < base ∧ base ≤ s.heap.size ∧ meth.locks = false ∧ meth.sig.returnType = xa_rt M ∧ meth.name = (xa_nm M).name ∧ c.exceptionTable.toList = tableOf (xa_hh M)
section XSim
variable {p : Program} {l : Launch} {e : Env} {R : Room} {s : State} {m : MethodId} {args : Array Value} {below : List Frame} {meth : Method} {c : Code} {H : Heap} {locs : List Loc} {cells slots : Nat} {Q : State → Prop}
variable {D : va_G} {cl : List vw_C} {Ts : List Jvm.Cond} {cs : ClassId × ClassId × ClassId} {b base L : Nat} {xs : Nat → Int32} {M : xa_M} {ls : Array Slot} {pc : Nat} {rest : List Value}
theorem xa_ldcw {own : String} {index : Nat} {v : Int32} (hx : p.tables.exec = Jvm.exec) (hb : c.code = xa_by M) (hown : s.vm.findClass own = some m.cls) (hconst : (Jvm.Cond.constant own index v).before args s = true) (hd : decode (xa_by M) pc = .ok (.ldc_w index, 3))
    (k : W p l e R s m args below meth c H locs cells slots Q (F0 m (pc + 3) ls (.int v :: rest))) : W p l e R s m args below meth c H locs cells slots Q (F0 m pc ls rest) := by
  intro T hT X
  obtain ⟨t, a, h⟩ := k T hT X
  exact ⟨t, va_ldcwI X hx hown hconst (g := F0 m pc ls rest) rfl (by rw [hb]; exact hd) t a, h⟩
theorem xa_Mt.set {h : List va_E} {H H1 : Heap} {k : Nat} {e : va_E} (hM : xa_Mt D cl cs b base h H) (hP : va_P D cl ((xa_W cs b base h).set k (base + k, xa_re cs b base e)) H1) (hz : H.size ≤ H1.size) : xa_Mt D cl cs b base (h.set k e) H1 := by
  refine ⟨by rw [List.length_set]; exact Nat.le_trans hM.1 hz, ?_⟩
  rw [xa_W_set]
  exact hP
theorem xa_Mt.push {h : List va_E} {H H1 : Heap} {e : va_E} (hM : xa_Mt D cl cs b base h H) (hz : H1.size = base + h.length + 1) (ho : ∀ q, q < H.size → H1[q]? = H[q]?) (he : va_at D cl (base + h.length, xa_re cs b base e) H1) : xa_Mt D cl cs b base (h ++ [e]) H1 := by
  refine ⟨by rw [hz, List.length_append]; exact Nat.le_refl _, ?_⟩
  rw [xa_W_push]
  refine va_P.app (hM.2.kept fun k q hk => ho q.1 (hM.2 k q hk).lt) (fun k q hk => ?_)
  have h1 : k < 1 := (List.getElem?_eq_some_iff.mp hk).1
  rw [show k = 0 by omega] at hk
  cases hk
  exact he
theorem xa_S.two {A : Nat → Prop} {H0 H H1 : Heap} {locs locs1 : List Loc} (h : va_S A H0 H locs) (h1 : va_S A H H1 locs1) : va_S A H0 H1 locs1 :=
  ⟨Nat.le_trans h.1 h1.1, fun q hq hA => (h1.2.1 q (Nat.lt_of_lt_of_le hq h.1) hA).trans (h.2.1 q hq hA), h1.2.2⟩
theorem xa_S.now {A : Nat → Prop} {H0 H : Heap} {locs : List Loc} (h : va_S A H0 H locs) : va_S A H H locs := ⟨Nat.le_refl _, fun _ _ _ => rfl, h.2.2⟩
theorem xa_S.push {A : Nat → Prop} {H0 H H1 : Heap} {locs : List Loc} (h : va_S A H0 H locs) (hz : H.size ≤ H1.size) (ho : ∀ q, q < H.size → H1[q]? = H[q]?) : va_S A H0 H1 locs :=
  ⟨Nat.le_trans h.1 hz, fun q hq hA => (ho q (Nat.lt_of_lt_of_le hq h.1)).trans (h.2.1 q hq hA), h.2.2⟩
theorem xa_tys_at (cs : ClassId × ClassId × ClassId) (t : Nat) : ∃ (t0 : Nat) (ty : FieldType), (xa_tys cs)[t0]? = some (xa_tag cs t, ty) := by
  match t with
  | 0 => exact ⟨0, _, rfl⟩
  | 1 => exact ⟨1, _, rfl⟩
  | _ + 2 => exact ⟨2, _, rfl⟩
theorem xa_fits {d : String} {ty : FieldType} {t : Nat} {v : Value} (hp : parseFieldDescriptor d = some ty) (ht : xa_tyD d = t) (hf : xa_fit t v = true) : narrow ty (xa_rv b base v) = xa_rv b base v ∧ fits ty (xa_rv b base v) = true := by
  have h1 : xa_tt ty = t := by rw [xa_tyD, hp] at ht; exact ht
  subst h1
  cases v with
  | int x => cases ty <;> first
    | exact ⟨rfl, rfl⟩
    | (simp [xa_tt, xa_fit] at hf; done)
    | (have hx : x = 0 ∨ x = 1 := by simpa [xa_tt, xa_fit] using hf
       rcases hx with rfl | rfl <;> exact ⟨rfl, rfl⟩)
  | long x => cases ty <;> first
    | exact ⟨rfl, rfl⟩
    | (simp [xa_tt, xa_fit] at hf; done)
  | ref a => cases ty <;> first
    | (simp [xa_tt, xa_fit] at hf; done)
    | (cases a <;> exact ⟨rfl, rfl⟩)
  | _ => cases ty <;> (simp [xa_tt, xa_fit] at hf)

theorem xa_con0 {r : Nat} (h : r < 2 ^ 31) : (xa_con r 0).toInt = (r : Int) := nI_toInt h
theorem xa_sw_out {r q : Nat} {x : Int32} (hr : r < 2 ^ 31) (hq : q < 2 ^ 31) (h : x < xa_con r 0 ∨ xa_con q 0 < x) : x.toInt < (r : Int) ∨ (q : Int) < x.toInt := by
  rcases h with h | h
  · have := Int32.lt_iff_toInt_lt.mp h
    rw [xa_con0 hr] at this
    exact Or.inl this
  · have := Int32.lt_iff_toInt_lt.mp h
    rw [xa_con0 hq] at this
    exact Or.inr this
theorem xa_sw_in {r q : Nat} {x : Int32} (hr : r < 2 ^ 31) (hq : q < 2 ^ 31) (h : ¬ (x < xa_con r 0 ∨ xa_con q 0 < x)) : ¬ x.toInt < (r : Int) ∧ ¬ (q : Int) < x.toInt ∧ (x.toInt - (r : Int)).toNat = x.toNatClampNeg - r ∧ x.toNatClampNeg - r < q - r + 1 := by
  have h1 : ¬ x.toInt < (r : Int) := fun hc => h (Or.inl (Int32.lt_iff_toInt_lt.mpr (by rw [xa_con0 hr]; exact hc)))
  have h2 : ¬ (q : Int) < x.toInt := fun hc => h (Or.inr (Int32.lt_iff_toInt_lt.mpr (by rw [xa_con0 hq]; exact hc)))
  have h3 : x.toNatClampNeg = x.toInt.toNat := rfl
  refine ⟨h1, h2, ?_, ?_⟩
  · rw [h3]; omega
  · rw [h3]; omega
theorem xa_dflt_ok {d : String} {ty : FieldType} {ts : List Nat} {k : Nat} (hp : parseFieldDescriptor d = some ty) (ht : xa_tyD d = ts.getD k 9) (h4 : xa_tyD d < 4) (hk : k < ts.length) : defaultValue ty = vp_V ((ts.map xa_dflt).map (xa_rv b base)) k := by
  have h1 : xa_tt ty = ts.getD k 9 := by rw [xa_tyD, hp] at ht; exact ht
  have h2 : xa_tt ty < 4 := by rw [xa_tyD, hp] at h4; exact h4
  have h3 : vp_V ((ts.map xa_dflt).map (xa_rv b base)) k = xa_rv b base (xa_dflt (ts.getD k 9)) := by
    simp [vp_V, hk]
  rw [h3, ← h1]
  cases ty <;> first | rfl | (simp [xa_tt] at h2)

set_option maxHeartbeats 1000000 in
theorem xs_iconst {n : Int} {len nip r q : Nat} {ts : List Nat} {lv lv' : List (Nat × Value)} {st st' : List Value} {h h' : List va_E} {ip' k z : Nat} (hC : xa_ckC cl Ts = true)
    (F : xa_Fr D cl Ts cs b base L xs M p s m args meth c) {Tk : List Jvm.Cond} (hsub : ∀ w ∈ Tk, w ∈ Ts) (hck : xa_ck cl Tk M pc (.iconst n) len nip r q ts = true) (hn : xa_nx L xs (.iconst n) nip r q ts lv st h = some (ip', lv', st', h', k, z))
    (hl : lv_has ls (xa_mL M) (xa_lv b base lv)) (hM : xa_Mt D cl cs b base h H) (hS : va_S (xa_A base) s.heap H locs) (hcs : s.heap.size + cells ≤ base + h.length) (hc : cells + k ≤ R.cells) (hz : slots + z ≤ R.slots) (hro : xa_kind (.iconst n) r q = 4 → 1 ≤ R.frames ∧ 30 ≤ R.locals)
    (kk : ∀ (pc' : Nat) (ls' : Array Slot) (H' : Heap) (locs' : List Loc), xa_pc M ip' = pc' → lv_has ls' (xa_mL M) (xa_lv b base lv') → xa_Mt D cl cs b base h' H' → va_S (xa_A base) s.heap H' locs' →
      W p l e R s m args below meth c H' locs' (cells + k) (slots + z) Q (F0 m pc' ls' (st'.map (xa_rv b base)))) :
    W p l e R s m args below meth c H locs cells slots Q (F0 m pc ls (st.map (xa_rv b base))) := by
  obtain ⟨hx, hb, hml, hown, hts, hK, hX, hbb, hbs, hlk, hrt, hnm, hxt⟩ := F
  have htk : ∀ w ∈ Tk, w.before args s = true := fun w hw => hts w (hsub w hw)
  have hD := xa_W_D cs b base h
  have hA : ∀ q, s.heap.size ≤ q → xa_A base q := fun q hq => Nat.le_trans hbs hq
  have hbA : ¬ xa_A base b := Nat.not_le.mpr hbb
  have hbl : b < s.heap.size := Nat.lt_of_lt_of_le hbb hbs
  unfold xa_ck at hck
  rw [Bool.and_eq_true, decide_eq_true_eq] at hck
  obtain ⟨hd, hck⟩ := hck
  simp only [Bool.and_eq_true, decide_eq_true_eq] at hck
  obtain ⟨rfl, hp, hv⟩ := hck
  obtain ⟨rfl, rfl, rfl, rfl, rfl, rfl⟩ := xa_go_some hn
  refine lv_iconst hx hb hd hv ?_
  exact kk _ ls H locs hp hl hM hS
set_option maxHeartbeats 1000000 in
theorem xs_bipush {n : Int} {len nip r q : Nat} {ts : List Nat} {lv lv' : List (Nat × Value)} {st st' : List Value} {h h' : List va_E} {ip' k z : Nat} (hC : xa_ckC cl Ts = true)
    (F : xa_Fr D cl Ts cs b base L xs M p s m args meth c) {Tk : List Jvm.Cond} (hsub : ∀ w ∈ Tk, w ∈ Ts) (hck : xa_ck cl Tk M pc (.bipush n) len nip r q ts = true) (hn : xa_nx L xs (.bipush n) nip r q ts lv st h = some (ip', lv', st', h', k, z))
    (hl : lv_has ls (xa_mL M) (xa_lv b base lv)) (hM : xa_Mt D cl cs b base h H) (hS : va_S (xa_A base) s.heap H locs) (hcs : s.heap.size + cells ≤ base + h.length) (hc : cells + k ≤ R.cells) (hz : slots + z ≤ R.slots) (hro : xa_kind (.bipush n) r q = 4 → 1 ≤ R.frames ∧ 30 ≤ R.locals)
    (kk : ∀ (pc' : Nat) (ls' : Array Slot) (H' : Heap) (locs' : List Loc), xa_pc M ip' = pc' → lv_has ls' (xa_mL M) (xa_lv b base lv') → xa_Mt D cl cs b base h' H' → va_S (xa_A base) s.heap H' locs' →
      W p l e R s m args below meth c H' locs' (cells + k) (slots + z) Q (F0 m pc' ls' (st'.map (xa_rv b base)))) :
    W p l e R s m args below meth c H locs cells slots Q (F0 m pc ls (st.map (xa_rv b base))) := by
  obtain ⟨hx, hb, hml, hown, hts, hK, hX, hbb, hbs, hlk, hrt, hnm, hxt⟩ := F
  have htk : ∀ w ∈ Tk, w.before args s = true := fun w hw => hts w (hsub w hw)
  have hD := xa_W_D cs b base h
  have hA : ∀ q, s.heap.size ≤ q → xa_A base q := fun q hq => Nat.le_trans hbs hq
  have hbA : ¬ xa_A base b := Nat.not_le.mpr hbb
  have hbl : b < s.heap.size := Nat.lt_of_lt_of_le hbb hbs
  unfold xa_ck at hck
  rw [Bool.and_eq_true, decide_eq_true_eq] at hck
  obtain ⟨hd, hck⟩ := hck
  simp only [Bool.and_eq_true, decide_eq_true_eq] at hck
  obtain ⟨rfl, hp, hv⟩ := hck
  obtain ⟨rfl, rfl, rfl, rfl, rfl, rfl⟩ := xa_go_some hn
  refine lv_bipush hx hb hd hv ?_
  exact kk _ ls H locs hp hl hM hS
set_option maxHeartbeats 1000000 in
theorem xs_sipush {n : Int} {len nip r q : Nat} {ts : List Nat} {lv lv' : List (Nat × Value)} {st st' : List Value} {h h' : List va_E} {ip' k z : Nat} (hC : xa_ckC cl Ts = true)
    (F : xa_Fr D cl Ts cs b base L xs M p s m args meth c) {Tk : List Jvm.Cond} (hsub : ∀ w ∈ Tk, w ∈ Ts) (hck : xa_ck cl Tk M pc (.sipush n) len nip r q ts = true) (hn : xa_nx L xs (.sipush n) nip r q ts lv st h = some (ip', lv', st', h', k, z))
    (hl : lv_has ls (xa_mL M) (xa_lv b base lv)) (hM : xa_Mt D cl cs b base h H) (hS : va_S (xa_A base) s.heap H locs) (hcs : s.heap.size + cells ≤ base + h.length) (hc : cells + k ≤ R.cells) (hz : slots + z ≤ R.slots) (hro : xa_kind (.sipush n) r q = 4 → 1 ≤ R.frames ∧ 30 ≤ R.locals)
    (kk : ∀ (pc' : Nat) (ls' : Array Slot) (H' : Heap) (locs' : List Loc), xa_pc M ip' = pc' → lv_has ls' (xa_mL M) (xa_lv b base lv') → xa_Mt D cl cs b base h' H' → va_S (xa_A base) s.heap H' locs' →
      W p l e R s m args below meth c H' locs' (cells + k) (slots + z) Q (F0 m pc' ls' (st'.map (xa_rv b base)))) :
    W p l e R s m args below meth c H locs cells slots Q (F0 m pc ls (st.map (xa_rv b base))) := by
  obtain ⟨hx, hb, hml, hown, hts, hK, hX, hbb, hbs, hlk, hrt, hnm, hxt⟩ := F
  have htk : ∀ w ∈ Tk, w.before args s = true := fun w hw => hts w (hsub w hw)
  have hD := xa_W_D cs b base h
  have hA : ∀ q, s.heap.size ≤ q → xa_A base q := fun q hq => Nat.le_trans hbs hq
  have hbA : ¬ xa_A base b := Nat.not_le.mpr hbb
  have hbl : b < s.heap.size := Nat.lt_of_lt_of_le hbb hbs
  unfold xa_ck at hck
  rw [Bool.and_eq_true, decide_eq_true_eq] at hck
  obtain ⟨hd, hck⟩ := hck
  simp only [Bool.and_eq_true, decide_eq_true_eq] at hck
  obtain ⟨rfl, hp, hv⟩ := hck
  obtain ⟨rfl, rfl, rfl, rfl, rfl, rfl⟩ := xa_go_some hn
  refine lv_sipush hx hb hd hv ?_
  exact kk _ ls H locs hp hl hM hS
set_option maxHeartbeats 1000000 in
theorem xs_ldc {x : Nat} {len nip r q : Nat} {ts : List Nat} {lv lv' : List (Nat × Value)} {st st' : List Value} {h h' : List va_E} {ip' k z : Nat} (hC : xa_ckC cl Ts = true)
    (F : xa_Fr D cl Ts cs b base L xs M p s m args meth c) {Tk : List Jvm.Cond} (hsub : ∀ w ∈ Tk, w ∈ Ts) (hck : xa_ck cl Tk M pc (.ldc x) len nip r q ts = true) (hn : xa_nx L xs (.ldc x) nip r q ts lv st h = some (ip', lv', st', h', k, z))
    (hl : lv_has ls (xa_mL M) (xa_lv b base lv)) (hM : xa_Mt D cl cs b base h H) (hS : va_S (xa_A base) s.heap H locs) (hcs : s.heap.size + cells ≤ base + h.length) (hc : cells + k ≤ R.cells) (hz : slots + z ≤ R.slots) (hro : xa_kind (.ldc x) r q = 4 → 1 ≤ R.frames ∧ 30 ≤ R.locals)
    (kk : ∀ (pc' : Nat) (ls' : Array Slot) (H' : Heap) (locs' : List Loc), xa_pc M ip' = pc' → lv_has ls' (xa_mL M) (xa_lv b base lv') → xa_Mt D cl cs b base h' H' → va_S (xa_A base) s.heap H' locs' →
      W p l e R s m args below meth c H' locs' (cells + k) (slots + z) Q (F0 m pc' ls' (st'.map (xa_rv b base)))) :
    W p l e R s m args below meth c H locs cells slots Q (F0 m pc ls (st.map (xa_rv b base))) := by
  obtain ⟨hx, hb, hml, hown, hts, hK, hX, hbb, hbs, hlk, hrt, hnm, hxt⟩ := F
  have htk : ∀ w ∈ Tk, w.before args s = true := fun w hw => hts w (hsub w hw)
  have hD := xa_W_D cs b base h
  have hA : ∀ q, s.heap.size ≤ q → xa_A base q := fun q hq => Nat.le_trans hbs hq
  have hbA : ¬ xa_A base b := Nat.not_le.mpr hbb
  have hbl : b < s.heap.size := Nat.lt_of_lt_of_le hbb hbs
  unfold xa_ck at hck
  rw [Bool.and_eq_true, decide_eq_true_eq] at hck
  obtain ⟨hd, hck⟩ := hck
  simp only [Bool.and_eq_true, decide_eq_true_eq] at hck
  obtain ⟨rfl, hp, hv⟩ := hck
  obtain ⟨rfl, rfl, rfl, rfl, rfl, rfl⟩ := xa_go_some hn
  refine W.ldc hx hb hown (htk _ hv) rfl hd ?_
  exact kk _ ls H locs hp hl hM hS
set_option maxHeartbeats 1000000 in
theorem xs_ldc_w {x : Nat} {len nip r q : Nat} {ts : List Nat} {lv lv' : List (Nat × Value)} {st st' : List Value} {h h' : List va_E} {ip' k z : Nat} (hC : xa_ckC cl Ts = true)
    (F : xa_Fr D cl Ts cs b base L xs M p s m args meth c) {Tk : List Jvm.Cond} (hsub : ∀ w ∈ Tk, w ∈ Ts) (hck : xa_ck cl Tk M pc (.ldc_w x) len nip r q ts = true) (hn : xa_nx L xs (.ldc_w x) nip r q ts lv st h = some (ip', lv', st', h', k, z))
    (hl : lv_has ls (xa_mL M) (xa_lv b base lv)) (hM : xa_Mt D cl cs b base h H) (hS : va_S (xa_A base) s.heap H locs) (hcs : s.heap.size + cells ≤ base + h.length) (hc : cells + k ≤ R.cells) (hz : slots + z ≤ R.slots) (hro : xa_kind (.ldc_w x) r q = 4 → 1 ≤ R.frames ∧ 30 ≤ R.locals)
    (kk : ∀ (pc' : Nat) (ls' : Array Slot) (H' : Heap) (locs' : List Loc), xa_pc M ip' = pc' → lv_has ls' (xa_mL M) (xa_lv b base lv') → xa_Mt D cl cs b base h' H' → va_S (xa_A base) s.heap H' locs' →
      W p l e R s m args below meth c H' locs' (cells + k) (slots + z) Q (F0 m pc' ls' (st'.map (xa_rv b base)))) :
    W p l e R s m args below meth c H locs cells slots Q (F0 m pc ls (st.map (xa_rv b base))) := by
  obtain ⟨hx, hb, hml, hown, hts, hK, hX, hbb, hbs, hlk, hrt, hnm, hxt⟩ := F
  have htk : ∀ w ∈ Tk, w.before args s = true := fun w hw => hts w (hsub w hw)
  have hD := xa_W_D cs b base h
  have hA : ∀ q, s.heap.size ≤ q → xa_A base q := fun q hq => Nat.le_trans hbs hq
  have hbA : ¬ xa_A base b := Nat.not_le.mpr hbb
  have hbl : b < s.heap.size := Nat.lt_of_lt_of_le hbb hbs
  unfold xa_ck at hck
  rw [Bool.and_eq_true, decide_eq_true_eq] at hck
  obtain ⟨hd, hck⟩ := hck
  simp only [Bool.and_eq_true, decide_eq_true_eq] at hck
  obtain ⟨rfl, hp, hv⟩ := hck
  obtain ⟨rfl, rfl, rfl, rfl, rfl, rfl⟩ := xa_go_some hn
  refine xa_ldcw hx hb hown (htk _ hv) hd ?_
  exact kk _ ls H locs hp hl hM hS
set_option maxHeartbeats 1000000 in
theorem xs_lconst {n : Fin 2} {len nip r q : Nat} {ts : List Nat} {lv lv' : List (Nat × Value)} {st st' : List Value} {h h' : List va_E} {ip' k z : Nat} (hC : xa_ckC cl Ts = true)
    (F : xa_Fr D cl Ts cs b base L xs M p s m args meth c) {Tk : List Jvm.Cond} (hsub : ∀ w ∈ Tk, w ∈ Ts) (hck : xa_ck cl Tk M pc (.lconst n) len nip r q ts = true) (hn : xa_nx L xs (.lconst n) nip r q ts lv st h = some (ip', lv', st', h', k, z))
    (hl : lv_has ls (xa_mL M) (xa_lv b base lv)) (hM : xa_Mt D cl cs b base h H) (hS : va_S (xa_A base) s.heap H locs) (hcs : s.heap.size + cells ≤ base + h.length) (hc : cells + k ≤ R.cells) (hz : slots + z ≤ R.slots) (hro : xa_kind (.lconst n) r q = 4 → 1 ≤ R.frames ∧ 30 ≤ R.locals)
    (kk : ∀ (pc' : Nat) (ls' : Array Slot) (H' : Heap) (locs' : List Loc), xa_pc M ip' = pc' → lv_has ls' (xa_mL M) (xa_lv b base lv') → xa_Mt D cl cs b base h' H' → va_S (xa_A base) s.heap H' locs' →
      W p l e R s m args below meth c H' locs' (cells + k) (slots + z) Q (F0 m pc' ls' (st'.map (xa_rv b base)))) :
    W p l e R s m args below meth c H locs cells slots Q (F0 m pc ls (st.map (xa_rv b base))) := by
  obtain ⟨hx, hb, hml, hown, hts, hK, hX, hbb, hbs, hlk, hrt, hnm, hxt⟩ := F
  have htk : ∀ w ∈ Tk, w.before args s = true := fun w hw => hts w (hsub w hw)
  have hD := xa_W_D cs b base h
  have hA : ∀ q, s.heap.size ≤ q → xa_A base q := fun q hq => Nat.le_trans hbs hq
  have hbA : ¬ xa_A base b := Nat.not_le.mpr hbb
  have hbl : b < s.heap.size := Nat.lt_of_lt_of_le hbb hbs
  unfold xa_ck at hck
  rw [Bool.and_eq_true, decide_eq_true_eq] at hck
  obtain ⟨hd, hck⟩ := hck
  simp only [Bool.and_eq_true, decide_eq_true_eq] at hck
  obtain ⟨rfl, hp, hv⟩ := hck
  obtain ⟨rfl, rfl, rfl, rfl, rfl, rfl⟩ := xa_go_some hn
  refine lv_lconst hx hb hd hv ?_
  exact kk _ ls H locs hp hl hM hS
set_option maxHeartbeats 1000000 in
theorem xs_ldc2_w {x : Nat} {len nip r q : Nat} {ts : List Nat} {lv lv' : List (Nat × Value)} {st st' : List Value} {h h' : List va_E} {ip' k z : Nat} (hC : xa_ckC cl Ts = true)
    (F : xa_Fr D cl Ts cs b base L xs M p s m args meth c) {Tk : List Jvm.Cond} (hsub : ∀ w ∈ Tk, w ∈ Ts) (hck : xa_ck cl Tk M pc (.ldc2_w x) len nip r q ts = true) (hn : xa_nx L xs (.ldc2_w x) nip r q ts lv st h = some (ip', lv', st', h', k, z))
    (hl : lv_has ls (xa_mL M) (xa_lv b base lv)) (hM : xa_Mt D cl cs b base h H) (hS : va_S (xa_A base) s.heap H locs) (hcs : s.heap.size + cells ≤ base + h.length) (hc : cells + k ≤ R.cells) (hz : slots + z ≤ R.slots) (hro : xa_kind (.ldc2_w x) r q = 4 → 1 ≤ R.frames ∧ 30 ≤ R.locals)
    (kk : ∀ (pc' : Nat) (ls' : Array Slot) (H' : Heap) (locs' : List Loc), xa_pc M ip' = pc' → lv_has ls' (xa_mL M) (xa_lv b base lv') → xa_Mt D cl cs b base h' H' → va_S (xa_A base) s.heap H' locs' →
      W p l e R s m args below meth c H' locs' (cells + k) (slots + z) Q (F0 m pc' ls' (st'.map (xa_rv b base)))) :
    W p l e R s m args below meth c H locs cells slots Q (F0 m pc ls (st.map (xa_rv b base))) := by
  obtain ⟨hx, hb, hml, hown, hts, hK, hX, hbb, hbs, hlk, hrt, hnm, hxt⟩ := F
  have htk : ∀ w ∈ Tk, w.before args s = true := fun w hw => hts w (hsub w hw)
  have hD := xa_W_D cs b base h
  have hA : ∀ q, s.heap.size ≤ q → xa_A base q := fun q hq => Nat.le_trans hbs hq
  have hbA : ¬ xa_A base b := Nat.not_le.mpr hbb
  have hbl : b < s.heap.size := Nat.lt_of_lt_of_le hbb hbs
  unfold xa_ck at hck
  rw [Bool.and_eq_true, decide_eq_true_eq] at hck
  obtain ⟨hd, hck⟩ := hck
  simp only [Bool.and_eq_true, decide_eq_true_eq] at hck
  obtain ⟨rfl, hp, hv⟩ := hck
  obtain ⟨rfl, rfl, rfl, rfl, rfl, rfl⟩ := xa_go_some hn
  refine W.ldc2 hx hb hown (htk _ hv) rfl hd ?_
  exact kk _ ls H locs hp hl hM hS
set_option maxHeartbeats 1000000 in
theorem xs_iload_n {n : Fin 4} {len nip r q : Nat} {ts : List Nat} {lv lv' : List (Nat × Value)} {st st' : List Value} {h h' : List va_E} {ip' k z : Nat} (hC : xa_ckC cl Ts = true)
    (F : xa_Fr D cl Ts cs b base L xs M p s m args meth c) {Tk : List Jvm.Cond} (hsub : ∀ w ∈ Tk, w ∈ Ts) (hck : xa_ck cl Tk M pc (.iload_n n) len nip r q ts = true) (hn : xa_nx L xs (.iload_n n) nip r q ts lv st h = some (ip', lv', st', h', k, z))
    (hl : lv_has ls (xa_mL M) (xa_lv b base lv)) (hM : xa_Mt D cl cs b base h H) (hS : va_S (xa_A base) s.heap H locs) (hcs : s.heap.size + cells ≤ base + h.length) (hc : cells + k ≤ R.cells) (hz : slots + z ≤ R.slots) (hro : xa_kind (.iload_n n) r q = 4 → 1 ≤ R.frames ∧ 30 ≤ R.locals)
    (kk : ∀ (pc' : Nat) (ls' : Array Slot) (H' : Heap) (locs' : List Loc), xa_pc M ip' = pc' → lv_has ls' (xa_mL M) (xa_lv b base lv') → xa_Mt D cl cs b base h' H' → va_S (xa_A base) s.heap H' locs' →
      W p l e R s m args below meth c H' locs' (cells + k) (slots + z) Q (F0 m pc' ls' (st'.map (xa_rv b base)))) :
    W p l e R s m args below meth c H locs cells slots Q (F0 m pc ls (st.map (xa_rv b base))) := by
  obtain ⟨hx, hb, hml, hown, hts, hK, hX, hbb, hbs, hlk, hrt, hnm, hxt⟩ := F
  have htk : ∀ w ∈ Tk, w.before args s = true := fun w hw => hts w (hsub w hw)
  have hD := xa_W_D cs b base h
  have hA : ∀ q, s.heap.size ≤ q → xa_A base q := fun q hq => Nat.le_trans hbs hq
  have hbA : ¬ xa_A base b := Nat.not_le.mpr hbb
  have hbl : b < s.heap.size := Nat.lt_of_lt_of_le hbb hbs
  unfold xa_ck at hck
  rw [Bool.and_eq_true, decide_eq_true_eq] at hck
  obtain ⟨hd, hck⟩ := hck
  simp only [Bool.and_eq_true, decide_eq_true_eq] at hck
  obtain ⟨rfl, hp, hv⟩ := hck
  obtain ⟨x, hg, hn⟩ := xa_li_some hn
  obtain ⟨rfl, rfl, rfl, rfl, rfl, rfl⟩ := xa_go_some hn
  refine lv_iload_n hx hb hd hv (xa_slot hl hg) ?_
  exact kk _ ls H locs hp hl hM hS
set_option maxHeartbeats 1000000 in
theorem xs_iload {n : Nat} {len nip r q : Nat} {ts : List Nat} {lv lv' : List (Nat × Value)} {st st' : List Value} {h h' : List va_E} {ip' k z : Nat} (hC : xa_ckC cl Ts = true)
    (F : xa_Fr D cl Ts cs b base L xs M p s m args meth c) {Tk : List Jvm.Cond} (hsub : ∀ w ∈ Tk, w ∈ Ts) (hck : xa_ck cl Tk M pc (.iload n) len nip r q ts = true) (hn : xa_nx L xs (.iload n) nip r q ts lv st h = some (ip', lv', st', h', k, z))
    (hl : lv_has ls (xa_mL M) (xa_lv b base lv)) (hM : xa_Mt D cl cs b base h H) (hS : va_S (xa_A base) s.heap H locs) (hcs : s.heap.size + cells ≤ base + h.length) (hc : cells + k ≤ R.cells) (hz : slots + z ≤ R.slots) (hro : xa_kind (.iload n) r q = 4 → 1 ≤ R.frames ∧ 30 ≤ R.locals)
    (kk : ∀ (pc' : Nat) (ls' : Array Slot) (H' : Heap) (locs' : List Loc), xa_pc M ip' = pc' → lv_has ls' (xa_mL M) (xa_lv b base lv') → xa_Mt D cl cs b base h' H' → va_S (xa_A base) s.heap H' locs' →
      W p l e R s m args below meth c H' locs' (cells + k) (slots + z) Q (F0 m pc' ls' (st'.map (xa_rv b base)))) :
    W p l e R s m args below meth c H locs cells slots Q (F0 m pc ls (st.map (xa_rv b base))) := by
  obtain ⟨hx, hb, hml, hown, hts, hK, hX, hbb, hbs, hlk, hrt, hnm, hxt⟩ := F
  have htk : ∀ w ∈ Tk, w.before args s = true := fun w hw => hts w (hsub w hw)
  have hD := xa_W_D cs b base h
  have hA : ∀ q, s.heap.size ≤ q → xa_A base q := fun q hq => Nat.le_trans hbs hq
  have hbA : ¬ xa_A base b := Nat.not_le.mpr hbb
  have hbl : b < s.heap.size := Nat.lt_of_lt_of_le hbb hbs
  unfold xa_ck at hck
  rw [Bool.and_eq_true, decide_eq_true_eq] at hck
  obtain ⟨hd, hck⟩ := hck
  simp only [Bool.and_eq_true, decide_eq_true_eq] at hck
  obtain ⟨rfl, hp, rfl⟩ := hck
  obtain ⟨x, hg, hn⟩ := xa_li_some hn
  obtain ⟨rfl, rfl, rfl, rfl, rfl, rfl⟩ := xa_go_some hn
  refine lv_iload hx hb hd (xa_slot hl hg) ?_
  exact kk _ ls H locs hp hl hM hS
set_option maxHeartbeats 1000000 in
theorem xs_lload_n {n : Fin 4} {len nip r q : Nat} {ts : List Nat} {lv lv' : List (Nat × Value)} {st st' : List Value} {h h' : List va_E} {ip' k z : Nat} (hC : xa_ckC cl Ts = true)
    (F : xa_Fr D cl Ts cs b base L xs M p s m args meth c) {Tk : List Jvm.Cond} (hsub : ∀ w ∈ Tk, w ∈ Ts) (hck : xa_ck cl Tk M pc (.lload_n n) len nip r q ts = true) (hn : xa_nx L xs (.lload_n n) nip r q ts lv st h = some (ip', lv', st', h', k, z))
    (hl : lv_has ls (xa_mL M) (xa_lv b base lv)) (hM : xa_Mt D cl cs b base h H) (hS : va_S (xa_A base) s.heap H locs) (hcs : s.heap.size + cells ≤ base + h.length) (hc : cells + k ≤ R.cells) (hz : slots + z ≤ R.slots) (hro : xa_kind (.lload_n n) r q = 4 → 1 ≤ R.frames ∧ 30 ≤ R.locals)
    (kk : ∀ (pc' : Nat) (ls' : Array Slot) (H' : Heap) (locs' : List Loc), xa_pc M ip' = pc' → lv_has ls' (xa_mL M) (xa_lv b base lv') → xa_Mt D cl cs b base h' H' → va_S (xa_A base) s.heap H' locs' →
      W p l e R s m args below meth c H' locs' (cells + k) (slots + z) Q (F0 m pc' ls' (st'.map (xa_rv b base)))) :
    W p l e R s m args below meth c H locs cells slots Q (F0 m pc ls (st.map (xa_rv b base))) := by
  obtain ⟨hx, hb, hml, hown, hts, hK, hX, hbb, hbs, hlk, hrt, hnm, hxt⟩ := F
  have htk : ∀ w ∈ Tk, w.before args s = true := fun w hw => hts w (hsub w hw)
  have hD := xa_W_D cs b base h
  have hA : ∀ q, s.heap.size ≤ q → xa_A base q := fun q hq => Nat.le_trans hbs hq
  have hbA : ¬ xa_A base b := Nat.not_le.mpr hbb
  have hbl : b < s.heap.size := Nat.lt_of_lt_of_le hbb hbs
  unfold xa_ck at hck
  rw [Bool.and_eq_true, decide_eq_true_eq] at hck
  obtain ⟨hd, hck⟩ := hck
  simp only [Bool.and_eq_true, decide_eq_true_eq] at hck
  obtain ⟨rfl, hp, hv⟩ := hck
  obtain ⟨x, hg, hn⟩ := xa_ll_some hn
  obtain ⟨rfl, rfl, rfl, rfl, rfl, rfl⟩ := xa_go_some hn
  refine lv_lload_n hx hb hd hv (xa_slot hl hg) ?_
  exact kk _ ls H locs hp hl hM hS
set_option maxHeartbeats 1000000 in
theorem xs_lload {n : Nat} {len nip r q : Nat} {ts : List Nat} {lv lv' : List (Nat × Value)} {st st' : List Value} {h h' : List va_E} {ip' k z : Nat} (hC : xa_ckC cl Ts = true)
    (F : xa_Fr D cl Ts cs b base L xs M p s m args meth c) {Tk : List Jvm.Cond} (hsub : ∀ w ∈ Tk, w ∈ Ts) (hck : xa_ck cl Tk M pc (.lload n) len nip r q ts = true) (hn : xa_nx L xs (.lload n) nip r q ts lv st h = some (ip', lv', st', h', k, z))
    (hl : lv_has ls (xa_mL M) (xa_lv b base lv)) (hM : xa_Mt D cl cs b base h H) (hS : va_S (xa_A base) s.heap H locs) (hcs : s.heap.size + cells ≤ base + h.length) (hc : cells + k ≤ R.cells) (hz : slots + z ≤ R.slots) (hro : xa_kind (.lload n) r q = 4 → 1 ≤ R.frames ∧ 30 ≤ R.locals)
    (kk : ∀ (pc' : Nat) (ls' : Array Slot) (H' : Heap) (locs' : List Loc), xa_pc M ip' = pc' → lv_has ls' (xa_mL M) (xa_lv b base lv') → xa_Mt D cl cs b base h' H' → va_S (xa_A base) s.heap H' locs' →
      W p l e R s m args below meth c H' locs' (cells + k) (slots + z) Q (F0 m pc' ls' (st'.map (xa_rv b base)))) :
    W p l e R s m args below meth c H locs cells slots Q (F0 m pc ls (st.map (xa_rv b base))) := by
  obtain ⟨hx, hb, hml, hown, hts, hK, hX, hbb, hbs, hlk, hrt, hnm, hxt⟩ := F
  have htk : ∀ w ∈ Tk, w.before args s = true := fun w hw => hts w (hsub w hw)
  have hD := xa_W_D cs b base h
  have hA : ∀ q, s.heap.size ≤ q → xa_A base q := fun q hq => Nat.le_trans hbs hq
  have hbA : ¬ xa_A base b := Nat.not_le.mpr hbb
  have hbl : b < s.heap.size := Nat.lt_of_lt_of_le hbb hbs
  unfold xa_ck at hck
  rw [Bool.and_eq_true, decide_eq_true_eq] at hck
  obtain ⟨hd, hck⟩ := hck
  simp only [Bool.and_eq_true, decide_eq_true_eq] at hck
  obtain ⟨rfl, hp, rfl⟩ := hck
  obtain ⟨x, hg, hn⟩ := xa_ll_some hn
  obtain ⟨rfl, rfl, rfl, rfl, rfl, rfl⟩ := xa_go_some hn
  refine lv_lload hx hb hd (xa_slot hl hg) ?_
  exact kk _ ls H locs hp hl hM hS
set_option maxHeartbeats 1000000 in
theorem xs_aload_n {n : Fin 4} {len nip r q : Nat} {ts : List Nat} {lv lv' : List (Nat × Value)} {st st' : List Value} {h h' : List va_E} {ip' k z : Nat} (hC : xa_ckC cl Ts = true)
    (F : xa_Fr D cl Ts cs b base L xs M p s m args meth c) {Tk : List Jvm.Cond} (hsub : ∀ w ∈ Tk, w ∈ Ts) (hck : xa_ck cl Tk M pc (.aload_n n) len nip r q ts = true) (hn : xa_nx L xs (.aload_n n) nip r q ts lv st h = some (ip', lv', st', h', k, z))
    (hl : lv_has ls (xa_mL M) (xa_lv b base lv)) (hM : xa_Mt D cl cs b base h H) (hS : va_S (xa_A base) s.heap H locs) (hcs : s.heap.size + cells ≤ base + h.length) (hc : cells + k ≤ R.cells) (hz : slots + z ≤ R.slots) (hro : xa_kind (.aload_n n) r q = 4 → 1 ≤ R.frames ∧ 30 ≤ R.locals)
    (kk : ∀ (pc' : Nat) (ls' : Array Slot) (H' : Heap) (locs' : List Loc), xa_pc M ip' = pc' → lv_has ls' (xa_mL M) (xa_lv b base lv') → xa_Mt D cl cs b base h' H' → va_S (xa_A base) s.heap H' locs' →
      W p l e R s m args below meth c H' locs' (cells + k) (slots + z) Q (F0 m pc' ls' (st'.map (xa_rv b base)))) :
    W p l e R s m args below meth c H locs cells slots Q (F0 m pc ls (st.map (xa_rv b base))) := by
  obtain ⟨hx, hb, hml, hown, hts, hK, hX, hbb, hbs, hlk, hrt, hnm, hxt⟩ := F
  have htk : ∀ w ∈ Tk, w.before args s = true := fun w hw => hts w (hsub w hw)
  have hD := xa_W_D cs b base h
  have hA : ∀ q, s.heap.size ≤ q → xa_A base q := fun q hq => Nat.le_trans hbs hq
  have hbA : ¬ xa_A base b := Nat.not_le.mpr hbb
  have hbl : b < s.heap.size := Nat.lt_of_lt_of_le hbb hbs
  unfold xa_ck at hck
  rw [Bool.and_eq_true, decide_eq_true_eq] at hck
  obtain ⟨hd, hck⟩ := hck
  simp only [Bool.and_eq_true, decide_eq_true_eq] at hck
  obtain ⟨rfl, hp, hv⟩ := hck
  obtain ⟨x, hg, hn⟩ := xa_lr_some hn
  obtain ⟨rfl, rfl, rfl, rfl, rfl, rfl⟩ := xa_go_some hn
  cases x with
  | zero => refine lv_aload_n hx hb hd hv (xa_slot hl hg) ?_; exact kk _ ls H locs hp hl hM hS
  | succ x => refine lv_aload_n hx hb hd hv (xa_slot hl hg) ?_; exact kk _ ls H locs hp hl hM hS
set_option maxHeartbeats 1000000 in
theorem xs_aload {n : Nat} {len nip r q : Nat} {ts : List Nat} {lv lv' : List (Nat × Value)} {st st' : List Value} {h h' : List va_E} {ip' k z : Nat} (hC : xa_ckC cl Ts = true)
    (F : xa_Fr D cl Ts cs b base L xs M p s m args meth c) {Tk : List Jvm.Cond} (hsub : ∀ w ∈ Tk, w ∈ Ts) (hck : xa_ck cl Tk M pc (.aload n) len nip r q ts = true) (hn : xa_nx L xs (.aload n) nip r q ts lv st h = some (ip', lv', st', h', k, z))
    (hl : lv_has ls (xa_mL M) (xa_lv b base lv)) (hM : xa_Mt D cl cs b base h H) (hS : va_S (xa_A base) s.heap H locs) (hcs : s.heap.size + cells ≤ base + h.length) (hc : cells + k ≤ R.cells) (hz : slots + z ≤ R.slots) (hro : xa_kind (.aload n) r q = 4 → 1 ≤ R.frames ∧ 30 ≤ R.locals)
    (kk : ∀ (pc' : Nat) (ls' : Array Slot) (H' : Heap) (locs' : List Loc), xa_pc M ip' = pc' → lv_has ls' (xa_mL M) (xa_lv b base lv') → xa_Mt D cl cs b base h' H' → va_S (xa_A base) s.heap H' locs' →
      W p l e R s m args below meth c H' locs' (cells + k) (slots + z) Q (F0 m pc' ls' (st'.map (xa_rv b base)))) :
    W p l e R s m args below meth c H locs cells slots Q (F0 m pc ls (st.map (xa_rv b base))) := by
  obtain ⟨hx, hb, hml, hown, hts, hK, hX, hbb, hbs, hlk, hrt, hnm, hxt⟩ := F
  have htk : ∀ w ∈ Tk, w.before args s = true := fun w hw => hts w (hsub w hw)
  have hD := xa_W_D cs b base h
  have hA : ∀ q, s.heap.size ≤ q → xa_A base q := fun q hq => Nat.le_trans hbs hq
  have hbA : ¬ xa_A base b := Nat.not_le.mpr hbb
  have hbl : b < s.heap.size := Nat.lt_of_lt_of_le hbb hbs
  unfold xa_ck at hck
  rw [Bool.and_eq_true, decide_eq_true_eq] at hck
  obtain ⟨hd, hck⟩ := hck
  simp only [Bool.and_eq_true, decide_eq_true_eq] at hck
  obtain ⟨rfl, hp, rfl⟩ := hck
  obtain ⟨x, hg, hn⟩ := xa_lr_some hn
  obtain ⟨rfl, rfl, rfl, rfl, rfl, rfl⟩ := xa_go_some hn
  cases x with
  | zero => refine lv_aload hx hb hd (xa_slot hl hg) ?_; exact kk _ ls H locs hp hl hM hS
  | succ x => refine lv_aload hx hb hd (xa_slot hl hg) ?_; exact kk _ ls H locs hp hl hM hS
set_option maxHeartbeats 1000000 in
theorem xs_istore_n {n : Fin 4} {len nip r q : Nat} {ts : List Nat} {lv lv' : List (Nat × Value)} {st st' : List Value} {h h' : List va_E} {ip' k z : Nat} (hC : xa_ckC cl Ts = true)
    (F : xa_Fr D cl Ts cs b base L xs M p s m args meth c) {Tk : List Jvm.Cond} (hsub : ∀ w ∈ Tk, w ∈ Ts) (hck : xa_ck cl Tk M pc (.istore_n n) len nip r q ts = true) (hn : xa_nx L xs (.istore_n n) nip r q ts lv st h = some (ip', lv', st', h', k, z))
    (hl : lv_has ls (xa_mL M) (xa_lv b base lv)) (hM : xa_Mt D cl cs b base h H) (hS : va_S (xa_A base) s.heap H locs) (hcs : s.heap.size + cells ≤ base + h.length) (hc : cells + k ≤ R.cells) (hz : slots + z ≤ R.slots) (hro : xa_kind (.istore_n n) r q = 4 → 1 ≤ R.frames ∧ 30 ≤ R.locals)
    (kk : ∀ (pc' : Nat) (ls' : Array Slot) (H' : Heap) (locs' : List Loc), xa_pc M ip' = pc' → lv_has ls' (xa_mL M) (xa_lv b base lv') → xa_Mt D cl cs b base h' H' → va_S (xa_A base) s.heap H' locs' →
      W p l e R s m args below meth c H' locs' (cells + k) (slots + z) Q (F0 m pc' ls' (st'.map (xa_rv b base)))) :
    W p l e R s m args below meth c H locs cells slots Q (F0 m pc ls (st.map (xa_rv b base))) := by
  obtain ⟨hx, hb, hml, hown, hts, hK, hX, hbb, hbs, hlk, hrt, hnm, hxt⟩ := F
  have htk : ∀ w ∈ Tk, w.before args s = true := fun w hw => hts w (hsub w hw)
  have hD := xa_W_D cs b base h
  have hA : ∀ q, s.heap.size ≤ q → xa_A base q := fun q hq => Nat.le_trans hbs hq
  have hbA : ¬ xa_A base b := Nat.not_le.mpr hbb
  have hbl : b < s.heap.size := Nat.lt_of_lt_of_le hbb hbs
  unfold xa_ck at hck
  rw [Bool.and_eq_true, decide_eq_true_eq] at hck
  obtain ⟨hd, hck⟩ := hck
  simp only [Bool.and_eq_true, decide_eq_true_eq] at hck
  obtain ⟨rfl, hp, hv, hr⟩ := hck
  obtain ⟨x, st, rfl, hn⟩ := xa_pi_some hn
  obtain ⟨rfl, rfl, rfl, rfl, rfl, rfl⟩ := xa_go_some hn
  refine lv_istore_n hx hb hd hv hl hr (xa_lv_put1 b base lv _ (.int x)) (fun ls1 hl1 => ?_)
  exact kk _ ls1 H locs hp hl1 hM hS
set_option maxHeartbeats 1000000 in
theorem xs_istore {n : Nat} {len nip r q : Nat} {ts : List Nat} {lv lv' : List (Nat × Value)} {st st' : List Value} {h h' : List va_E} {ip' k z : Nat} (hC : xa_ckC cl Ts = true)
    (F : xa_Fr D cl Ts cs b base L xs M p s m args meth c) {Tk : List Jvm.Cond} (hsub : ∀ w ∈ Tk, w ∈ Ts) (hck : xa_ck cl Tk M pc (.istore n) len nip r q ts = true) (hn : xa_nx L xs (.istore n) nip r q ts lv st h = some (ip', lv', st', h', k, z))
    (hl : lv_has ls (xa_mL M) (xa_lv b base lv)) (hM : xa_Mt D cl cs b base h H) (hS : va_S (xa_A base) s.heap H locs) (hcs : s.heap.size + cells ≤ base + h.length) (hc : cells + k ≤ R.cells) (hz : slots + z ≤ R.slots) (hro : xa_kind (.istore n) r q = 4 → 1 ≤ R.frames ∧ 30 ≤ R.locals)
    (kk : ∀ (pc' : Nat) (ls' : Array Slot) (H' : Heap) (locs' : List Loc), xa_pc M ip' = pc' → lv_has ls' (xa_mL M) (xa_lv b base lv') → xa_Mt D cl cs b base h' H' → va_S (xa_A base) s.heap H' locs' →
      W p l e R s m args below meth c H' locs' (cells + k) (slots + z) Q (F0 m pc' ls' (st'.map (xa_rv b base)))) :
    W p l e R s m args below meth c H locs cells slots Q (F0 m pc ls (st.map (xa_rv b base))) := by
  obtain ⟨hx, hb, hml, hown, hts, hK, hX, hbb, hbs, hlk, hrt, hnm, hxt⟩ := F
  have htk : ∀ w ∈ Tk, w.before args s = true := fun w hw => hts w (hsub w hw)
  have hD := xa_W_D cs b base h
  have hA : ∀ q, s.heap.size ≤ q → xa_A base q := fun q hq => Nat.le_trans hbs hq
  have hbA : ¬ xa_A base b := Nat.not_le.mpr hbb
  have hbl : b < s.heap.size := Nat.lt_of_lt_of_le hbb hbs
  unfold xa_ck at hck
  rw [Bool.and_eq_true, decide_eq_true_eq] at hck
  obtain ⟨hd, hck⟩ := hck
  simp only [Bool.and_eq_true, decide_eq_true_eq] at hck
  obtain ⟨rfl, hp, rfl, hr⟩ := hck
  obtain ⟨x, st, rfl, hn⟩ := xa_pi_some hn
  obtain ⟨rfl, rfl, rfl, rfl, rfl, rfl⟩ := xa_go_some hn
  refine lv_istore hx hb hd hl hr (xa_lv_put1 b base lv _ (.int x)) (fun ls1 hl1 => ?_)
  exact kk _ ls1 H locs hp hl1 hM hS
set_option maxHeartbeats 1000000 in
theorem xs_lstore_n {n : Fin 4} {len nip r q : Nat} {ts : List Nat} {lv lv' : List (Nat × Value)} {st st' : List Value} {h h' : List va_E} {ip' k z : Nat} (hC : xa_ckC cl Ts = true)
    (F : xa_Fr D cl Ts cs b base L xs M p s m args meth c) {Tk : List Jvm.Cond} (hsub : ∀ w ∈ Tk, w ∈ Ts) (hck : xa_ck cl Tk M pc (.lstore_n n) len nip r q ts = true) (hn : xa_nx L xs (.lstore_n n) nip r q ts lv st h = some (ip', lv', st', h', k, z))
    (hl : lv_has ls (xa_mL M) (xa_lv b base lv)) (hM : xa_Mt D cl cs b base h H) (hS : va_S (xa_A base) s.heap H locs) (hcs : s.heap.size + cells ≤ base + h.length) (hc : cells + k ≤ R.cells) (hz : slots + z ≤ R.slots) (hro : xa_kind (.lstore_n n) r q = 4 → 1 ≤ R.frames ∧ 30 ≤ R.locals)
    (kk : ∀ (pc' : Nat) (ls' : Array Slot) (H' : Heap) (locs' : List Loc), xa_pc M ip' = pc' → lv_has ls' (xa_mL M) (xa_lv b base lv') → xa_Mt D cl cs b base h' H' → va_S (xa_A base) s.heap H' locs' →
      W p l e R s m args below meth c H' locs' (cells + k) (slots + z) Q (F0 m pc' ls' (st'.map (xa_rv b base)))) :
    W p l e R s m args below meth c H locs cells slots Q (F0 m pc ls (st.map (xa_rv b base))) := by
  obtain ⟨hx, hb, hml, hown, hts, hK, hX, hbb, hbs, hlk, hrt, hnm, hxt⟩ := F
  have htk : ∀ w ∈ Tk, w.before args s = true := fun w hw => hts w (hsub w hw)
  have hD := xa_W_D cs b base h
  have hA : ∀ q, s.heap.size ≤ q → xa_A base q := fun q hq => Nat.le_trans hbs hq
  have hbA : ¬ xa_A base b := Nat.not_le.mpr hbb
  have hbl : b < s.heap.size := Nat.lt_of_lt_of_le hbb hbs
  unfold xa_ck at hck
  rw [Bool.and_eq_true, decide_eq_true_eq] at hck
  obtain ⟨hd, hck⟩ := hck
  simp only [Bool.and_eq_true, decide_eq_true_eq] at hck
  obtain ⟨rfl, hp, hv, hr⟩ := hck
  obtain ⟨x, st, rfl, hn⟩ := xa_pl_some hn
  obtain ⟨rfl, rfl, rfl, rfl, rfl, rfl⟩ := xa_go_some hn
  refine lv_lstore_n hx hb hd hv hl hr (xa_lv_put2 b base lv _ (.long x)) (fun ls1 hl1 => ?_)
  exact kk _ ls1 H locs hp hl1 hM hS
set_option maxHeartbeats 1000000 in
theorem xs_lstore {n : Nat} {len nip r q : Nat} {ts : List Nat} {lv lv' : List (Nat × Value)} {st st' : List Value} {h h' : List va_E} {ip' k z : Nat} (hC : xa_ckC cl Ts = true)
    (F : xa_Fr D cl Ts cs b base L xs M p s m args meth c) {Tk : List Jvm.Cond} (hsub : ∀ w ∈ Tk, w ∈ Ts) (hck : xa_ck cl Tk M pc (.lstore n) len nip r q ts = true) (hn : xa_nx L xs (.lstore n) nip r q ts lv st h = some (ip', lv', st', h', k, z))
    (hl : lv_has ls (xa_mL M) (xa_lv b base lv)) (hM : xa_Mt D cl cs b base h H) (hS : va_S (xa_A base) s.heap H locs) (hcs : s.heap.size + cells ≤ base + h.length) (hc : cells + k ≤ R.cells) (hz : slots + z ≤ R.slots) (hro : xa_kind (.lstore n) r q = 4 → 1 ≤ R.frames ∧ 30 ≤ R.locals)
    (kk : ∀ (pc' : Nat) (ls' : Array Slot) (H' : Heap) (locs' : List Loc), xa_pc M ip' = pc' → lv_has ls' (xa_mL M) (xa_lv b base lv') → xa_Mt D cl cs b base h' H' → va_S (xa_A base) s.heap H' locs' →
      W p l e R s m args below meth c H' locs' (cells + k) (slots + z) Q (F0 m pc' ls' (st'.map (xa_rv b base)))) :
    W p l e R s m args below meth c H locs cells slots Q (F0 m pc ls (st.map (xa_rv b base))) := by
  obtain ⟨hx, hb, hml, hown, hts, hK, hX, hbb, hbs, hlk, hrt, hnm, hxt⟩ := F
  have htk : ∀ w ∈ Tk, w.before args s = true := fun w hw => hts w (hsub w hw)
  have hD := xa_W_D cs b base h
  have hA : ∀ q, s.heap.size ≤ q → xa_A base q := fun q hq => Nat.le_trans hbs hq
  have hbA : ¬ xa_A base b := Nat.not_le.mpr hbb
  have hbl : b < s.heap.size := Nat.lt_of_lt_of_le hbb hbs
  unfold xa_ck at hck
  rw [Bool.and_eq_true, decide_eq_true_eq] at hck
  obtain ⟨hd, hck⟩ := hck
  simp only [Bool.and_eq_true, decide_eq_true_eq] at hck
  obtain ⟨rfl, hp, rfl, hr⟩ := hck
  obtain ⟨x, st, rfl, hn⟩ := xa_pl_some hn
  obtain ⟨rfl, rfl, rfl, rfl, rfl, rfl⟩ := xa_go_some hn
  refine lv_lstore hx hb hd hl hr (xa_lv_put2 b base lv _ (.long x)) (fun ls1 hl1 => ?_)
  exact kk _ ls1 H locs hp hl1 hM hS
set_option maxHeartbeats 1000000 in
theorem xs_astore_n {n : Fin 4} {len nip r q : Nat} {ts : List Nat} {lv lv' : List (Nat × Value)} {st st' : List Value} {h h' : List va_E} {ip' k z : Nat} (hC : xa_ckC cl Ts = true)
    (F : xa_Fr D cl Ts cs b base L xs M p s m args meth c) {Tk : List Jvm.Cond} (hsub : ∀ w ∈ Tk, w ∈ Ts) (hck : xa_ck cl Tk M pc (.astore_n n) len nip r q ts = true) (hn : xa_nx L xs (.astore_n n) nip r q ts lv st h = some (ip', lv', st', h', k, z))
    (hl : lv_has ls (xa_mL M) (xa_lv b base lv)) (hM : xa_Mt D cl cs b base h H) (hS : va_S (xa_A base) s.heap H locs) (hcs : s.heap.size + cells ≤ base + h.length) (hc : cells + k ≤ R.cells) (hz : slots + z ≤ R.slots) (hro : xa_kind (.astore_n n) r q = 4 → 1 ≤ R.frames ∧ 30 ≤ R.locals)
    (kk : ∀ (pc' : Nat) (ls' : Array Slot) (H' : Heap) (locs' : List Loc), xa_pc M ip' = pc' → lv_has ls' (xa_mL M) (xa_lv b base lv') → xa_Mt D cl cs b base h' H' → va_S (xa_A base) s.heap H' locs' →
      W p l e R s m args below meth c H' locs' (cells + k) (slots + z) Q (F0 m pc' ls' (st'.map (xa_rv b base)))) :
    W p l e R s m args below meth c H locs cells slots Q (F0 m pc ls (st.map (xa_rv b base))) := by
  obtain ⟨hx, hb, hml, hown, hts, hK, hX, hbb, hbs, hlk, hrt, hnm, hxt⟩ := F
  have htk : ∀ w ∈ Tk, w.before args s = true := fun w hw => hts w (hsub w hw)
  have hD := xa_W_D cs b base h
  have hA : ∀ q, s.heap.size ≤ q → xa_A base q := fun q hq => Nat.le_trans hbs hq
  have hbA : ¬ xa_A base b := Nat.not_le.mpr hbb
  have hbl : b < s.heap.size := Nat.lt_of_lt_of_le hbb hbs
  unfold xa_ck at hck
  rw [Bool.and_eq_true, decide_eq_true_eq] at hck
  obtain ⟨hd, hck⟩ := hck
  simp only [Bool.and_eq_true, decide_eq_true_eq] at hck
  obtain ⟨rfl, hp, hv, hr⟩ := hck
  obtain ⟨x, st, rfl, hn⟩ := xa_pr_some hn
  obtain ⟨rfl, rfl, rfl, rfl, rfl, rfl⟩ := xa_go_some hn
  cases x with
  | zero => refine lv_astore_n hx hb hd hv hl hr (xa_lv_put1 b base lv _ (.ref 0)) (fun ls1 hl1 => ?_); exact kk _ ls1 H locs hp hl1 hM hS
  | succ x => refine lv_astore_n hx hb hd hv hl hr (xa_lv_put1 b base lv _ (.ref (x + 1))) (fun ls1 hl1 => ?_); exact kk _ ls1 H locs hp hl1 hM hS
set_option maxHeartbeats 1000000 in
theorem xs_astore {n : Nat} {len nip r q : Nat} {ts : List Nat} {lv lv' : List (Nat × Value)} {st st' : List Value} {h h' : List va_E} {ip' k z : Nat} (hC : xa_ckC cl Ts = true)
    (F : xa_Fr D cl Ts cs b base L xs M p s m args meth c) {Tk : List Jvm.Cond} (hsub : ∀ w ∈ Tk, w ∈ Ts) (hck : xa_ck cl Tk M pc (.astore n) len nip r q ts = true) (hn : xa_nx L xs (.astore n) nip r q ts lv st h = some (ip', lv', st', h', k, z))
    (hl : lv_has ls (xa_mL M) (xa_lv b base lv)) (hM : xa_Mt D cl cs b base h H) (hS : va_S (xa_A base) s.heap H locs) (hcs : s.heap.size + cells ≤ base + h.length) (hc : cells + k ≤ R.cells) (hz : slots + z ≤ R.slots) (hro : xa_kind (.astore n) r q = 4 → 1 ≤ R.frames ∧ 30 ≤ R.locals)
    (kk : ∀ (pc' : Nat) (ls' : Array Slot) (H' : Heap) (locs' : List Loc), xa_pc M ip' = pc' → lv_has ls' (xa_mL M) (xa_lv b base lv') → xa_Mt D cl cs b base h' H' → va_S (xa_A base) s.heap H' locs' →
      W p l e R s m args below meth c H' locs' (cells + k) (slots + z) Q (F0 m pc' ls' (st'.map (xa_rv b base)))) :
    W p l e R s m args below meth c H locs cells slots Q (F0 m pc ls (st.map (xa_rv b base))) := by
  obtain ⟨hx, hb, hml, hown, hts, hK, hX, hbb, hbs, hlk, hrt, hnm, hxt⟩ := F
  have htk : ∀ w ∈ Tk, w.before args s = true := fun w hw => hts w (hsub w hw)
  have hD := xa_W_D cs b base h
  have hA : ∀ q, s.heap.size ≤ q → xa_A base q := fun q hq => Nat.le_trans hbs hq
  have hbA : ¬ xa_A base b := Nat.not_le.mpr hbb
  have hbl : b < s.heap.size := Nat.lt_of_lt_of_le hbb hbs
  unfold xa_ck at hck
  rw [Bool.and_eq_true, decide_eq_true_eq] at hck
  obtain ⟨hd, hck⟩ := hck
  simp only [Bool.and_eq_true, decide_eq_true_eq] at hck
  obtain ⟨rfl, hp, rfl, hr⟩ := hck
  obtain ⟨x, st, rfl, hn⟩ := xa_pr_some hn
  obtain ⟨rfl, rfl, rfl, rfl, rfl, rfl⟩ := xa_go_some hn
  cases x with
  | zero => refine lv_astore hx hb hd hl hr (xa_lv_put1 b base lv _ (.ref 0)) (fun ls1 hl1 => ?_); exact kk _ ls1 H locs hp hl1 hM hS
  | succ x => refine lv_astore hx hb hd hl hr (xa_lv_put1 b base lv _ (.ref (x + 1))) (fun ls1 hl1 => ?_); exact kk _ ls1 H locs hp hl1 hM hS
set_option maxHeartbeats 1000000 in
theorem xs_iinc {n : Nat} {cc : Int} {len nip r q : Nat} {ts : List Nat} {lv lv' : List (Nat × Value)} {st st' : List Value} {h h' : List va_E} {ip' k z : Nat} (hC : xa_ckC cl Ts = true)
    (F : xa_Fr D cl Ts cs b base L xs M p s m args meth c) {Tk : List Jvm.Cond} (hsub : ∀ w ∈ Tk, w ∈ Ts) (hck : xa_ck cl Tk M pc (.iinc n cc) len nip r q ts = true) (hn : xa_nx L xs (.iinc n cc) nip r q ts lv st h = some (ip', lv', st', h', k, z))
    (hl : lv_has ls (xa_mL M) (xa_lv b base lv)) (hM : xa_Mt D cl cs b base h H) (hS : va_S (xa_A base) s.heap H locs) (hcs : s.heap.size + cells ≤ base + h.length) (hc : cells + k ≤ R.cells) (hz : slots + z ≤ R.slots) (hro : xa_kind (.iinc n cc) r q = 4 → 1 ≤ R.frames ∧ 30 ≤ R.locals)
    (kk : ∀ (pc' : Nat) (ls' : Array Slot) (H' : Heap) (locs' : List Loc), xa_pc M ip' = pc' → lv_has ls' (xa_mL M) (xa_lv b base lv') → xa_Mt D cl cs b base h' H' → va_S (xa_A base) s.heap H' locs' →
      W p l e R s m args below meth c H' locs' (cells + k) (slots + z) Q (F0 m pc' ls' (st'.map (xa_rv b base)))) :
    W p l e R s m args below meth c H locs cells slots Q (F0 m pc ls (st.map (xa_rv b base))) := by
  obtain ⟨hx, hb, hml, hown, hts, hK, hX, hbb, hbs, hlk, hrt, hnm, hxt⟩ := F
  have htk : ∀ w ∈ Tk, w.before args s = true := fun w hw => hts w (hsub w hw)
  have hD := xa_W_D cs b base h
  have hA : ∀ q, s.heap.size ≤ q → xa_A base q := fun q hq => Nat.le_trans hbs hq
  have hbA : ¬ xa_A base b := Nat.not_le.mpr hbb
  have hbl : b < s.heap.size := Nat.lt_of_lt_of_le hbb hbs
  unfold xa_ck at hck
  rw [Bool.and_eq_true, decide_eq_true_eq] at hck
  obtain ⟨hd, hck⟩ := hck
  simp only [Bool.and_eq_true, decide_eq_true_eq] at hck
  obtain ⟨rfl, hp, rfl, hv, hr⟩ := hck
  obtain ⟨x, hg, hn⟩ := xa_li_some hn
  obtain ⟨rfl, rfl, rfl, rfl, rfl, rfl⟩ := xa_go_some hn
  obtain ⟨kq, hkq⟩ := xa_place hl hg
  refine lv_iinc hx hb hd hl hkq (by rw [hv]) hr (xa_lv_put1 b base lv _ (.int (x + xa_con q ts.length))) (fun ls1 hl1 => ?_)
  exact kk _ ls1 H locs hp hl1 hM hS
set_option maxHeartbeats 1000000 in
theorem xs_iadd {len nip r q : Nat} {ts : List Nat} {lv lv' : List (Nat × Value)} {st st' : List Value} {h h' : List va_E} {ip' k z : Nat} (hC : xa_ckC cl Ts = true)
    (F : xa_Fr D cl Ts cs b base L xs M p s m args meth c) {Tk : List Jvm.Cond} (hsub : ∀ w ∈ Tk, w ∈ Ts) (hck : xa_ck cl Tk M pc .iadd len nip r q ts = true) (hn : xa_nx L xs .iadd nip r q ts lv st h = some (ip', lv', st', h', k, z))
    (hl : lv_has ls (xa_mL M) (xa_lv b base lv)) (hM : xa_Mt D cl cs b base h H) (hS : va_S (xa_A base) s.heap H locs) (hcs : s.heap.size + cells ≤ base + h.length) (hc : cells + k ≤ R.cells) (hz : slots + z ≤ R.slots) (hro : xa_kind .iadd r q = 4 → 1 ≤ R.frames ∧ 30 ≤ R.locals)
    (kk : ∀ (pc' : Nat) (ls' : Array Slot) (H' : Heap) (locs' : List Loc), xa_pc M ip' = pc' → lv_has ls' (xa_mL M) (xa_lv b base lv') → xa_Mt D cl cs b base h' H' → va_S (xa_A base) s.heap H' locs' →
      W p l e R s m args below meth c H' locs' (cells + k) (slots + z) Q (F0 m pc' ls' (st'.map (xa_rv b base)))) :
    W p l e R s m args below meth c H locs cells slots Q (F0 m pc ls (st.map (xa_rv b base))) := by
  obtain ⟨hx, hb, hml, hown, hts, hK, hX, hbb, hbs, hlk, hrt, hnm, hxt⟩ := F
  have htk : ∀ w ∈ Tk, w.before args s = true := fun w hw => hts w (hsub w hw)
  have hD := xa_W_D cs b base h
  have hA : ∀ q, s.heap.size ≤ q → xa_A base q := fun q hq => Nat.le_trans hbs hq
  have hbA : ¬ xa_A base b := Nat.not_le.mpr hbb
  have hbl : b < s.heap.size := Nat.lt_of_lt_of_le hbb hbs
  unfold xa_ck at hck
  rw [Bool.and_eq_true, decide_eq_true_eq] at hck
  obtain ⟨hd, hck⟩ := hck
  simp only [Bool.and_eq_true, decide_eq_true_eq] at hck
  obtain ⟨rfl, hp⟩ := hck
  obtain ⟨y, st, rfl, hn⟩ := xa_pi_some hn
  obtain ⟨x, st, rfl, hn⟩ := xa_pi_some hn
  obtain ⟨rfl, rfl, rfl, rfl, rfl, rfl⟩ := xa_go_some hn
  refine lv_iadd hx hb hd ?_
  exact kk _ ls H locs hp hl hM hS
set_option maxHeartbeats 1000000 in
theorem xs_isub {len nip r q : Nat} {ts : List Nat} {lv lv' : List (Nat × Value)} {st st' : List Value} {h h' : List va_E} {ip' k z : Nat} (hC : xa_ckC cl Ts = true)
    (F : xa_Fr D cl Ts cs b base L xs M p s m args meth c) {Tk : List Jvm.Cond} (hsub : ∀ w ∈ Tk, w ∈ Ts) (hck : xa_ck cl Tk M pc .isub len nip r q ts = true) (hn : xa_nx L xs .isub nip r q ts lv st h = some (ip', lv', st', h', k, z))
    (hl : lv_has ls (xa_mL M) (xa_lv b base lv)) (hM : xa_Mt D cl cs b base h H) (hS : va_S (xa_A base) s.heap H locs) (hcs : s.heap.size + cells ≤ base + h.length) (hc : cells + k ≤ R.cells) (hz : slots + z ≤ R.slots) (hro : xa_kind .isub r q = 4 → 1 ≤ R.frames ∧ 30 ≤ R.locals)
    (kk : ∀ (pc' : Nat) (ls' : Array Slot) (H' : Heap) (locs' : List Loc), xa_pc M ip' = pc' → lv_has ls' (xa_mL M) (xa_lv b base lv') → xa_Mt D cl cs b base h' H' → va_S (xa_A base) s.heap H' locs' →
      W p l e R s m args below meth c H' locs' (cells + k) (slots + z) Q (F0 m pc' ls' (st'.map (xa_rv b base)))) :
    W p l e R s m args below meth c H locs cells slots Q (F0 m pc ls (st.map (xa_rv b base))) := by
  obtain ⟨hx, hb, hml, hown, hts, hK, hX, hbb, hbs, hlk, hrt, hnm, hxt⟩ := F
  have htk : ∀ w ∈ Tk, w.before args s = true := fun w hw => hts w (hsub w hw)
  have hD := xa_W_D cs b base h
  have hA : ∀ q, s.heap.size ≤ q → xa_A base q := fun q hq => Nat.le_trans hbs hq
  have hbA : ¬ xa_A base b := Nat.not_le.mpr hbb
  have hbl : b < s.heap.size := Nat.lt_of_lt_of_le hbb hbs
  unfold xa_ck at hck
  rw [Bool.and_eq_true, decide_eq_true_eq] at hck
  obtain ⟨hd, hck⟩ := hck
  simp only [Bool.and_eq_true, decide_eq_true_eq] at hck
  obtain ⟨rfl, hp⟩ := hck
  obtain ⟨y, st, rfl, hn⟩ := xa_pi_some hn
  obtain ⟨x, st, rfl, hn⟩ := xa_pi_some hn
  obtain ⟨rfl, rfl, rfl, rfl, rfl, rfl⟩ := xa_go_some hn
  refine lv_isub hx hb hd ?_
  exact kk _ ls H locs hp hl hM hS
set_option maxHeartbeats 1000000 in
theorem xs_imul {len nip r q : Nat} {ts : List Nat} {lv lv' : List (Nat × Value)} {st st' : List Value} {h h' : List va_E} {ip' k z : Nat} (hC : xa_ckC cl Ts = true)
    (F : xa_Fr D cl Ts cs b base L xs M p s m args meth c) {Tk : List Jvm.Cond} (hsub : ∀ w ∈ Tk, w ∈ Ts) (hck : xa_ck cl Tk M pc .imul len nip r q ts = true) (hn : xa_nx L xs .imul nip r q ts lv st h = some (ip', lv', st', h', k, z))
    (hl : lv_has ls (xa_mL M) (xa_lv b base lv)) (hM : xa_Mt D cl cs b base h H) (hS : va_S (xa_A base) s.heap H locs) (hcs : s.heap.size + cells ≤ base + h.length) (hc : cells + k ≤ R.cells) (hz : slots + z ≤ R.slots) (hro : xa_kind .imul r q = 4 → 1 ≤ R.frames ∧ 30 ≤ R.locals)
    (kk : ∀ (pc' : Nat) (ls' : Array Slot) (H' : Heap) (locs' : List Loc), xa_pc M ip' = pc' → lv_has ls' (xa_mL M) (xa_lv b base lv') → xa_Mt D cl cs b base h' H' → va_S (xa_A base) s.heap H' locs' →
      W p l e R s m args below meth c H' locs' (cells + k) (slots + z) Q (F0 m pc' ls' (st'.map (xa_rv b base)))) :
    W p l e R s m args below meth c H locs cells slots Q (F0 m pc ls (st.map (xa_rv b base))) := by
  obtain ⟨hx, hb, hml, hown, hts, hK, hX, hbb, hbs, hlk, hrt, hnm, hxt⟩ := F
  have htk : ∀ w ∈ Tk, w.before args s = true := fun w hw => hts w (hsub w hw)
  have hD := xa_W_D cs b base h
  have hA : ∀ q, s.heap.size ≤ q → xa_A base q := fun q hq => Nat.le_trans hbs hq
  have hbA : ¬ xa_A base b := Nat.not_le.mpr hbb
  have hbl : b < s.heap.size := Nat.lt_of_lt_of_le hbb hbs
  unfold xa_ck at hck
  rw [Bool.and_eq_true, decide_eq_true_eq] at hck
  obtain ⟨hd, hck⟩ := hck
  simp only [Bool.and_eq_true, decide_eq_true_eq] at hck
  obtain ⟨rfl, hp⟩ := hck
  obtain ⟨y, st, rfl, hn⟩ := xa_pi_some hn
  obtain ⟨x, st, rfl, hn⟩ := xa_pi_some hn
  obtain ⟨rfl, rfl, rfl, rfl, rfl, rfl⟩ := xa_go_some hn
  refine lv_imul hx hb hd ?_
  exact kk _ ls H locs hp hl hM hS
set_option maxHeartbeats 1000000 in
theorem xs_iand {len nip r q : Nat} {ts : List Nat} {lv lv' : List (Nat × Value)} {st st' : List Value} {h h' : List va_E} {ip' k z : Nat} (hC : xa_ckC cl Ts = true)
    (F : xa_Fr D cl Ts cs b base L xs M p s m args meth c) {Tk : List Jvm.Cond} (hsub : ∀ w ∈ Tk, w ∈ Ts) (hck : xa_ck cl Tk M pc .iand len nip r q ts = true) (hn : xa_nx L xs .iand nip r q ts lv st h = some (ip', lv', st', h', k, z))
    (hl : lv_has ls (xa_mL M) (xa_lv b base lv)) (hM : xa_Mt D cl cs b base h H) (hS : va_S (xa_A base) s.heap H locs) (hcs : s.heap.size + cells ≤ base + h.length) (hc : cells + k ≤ R.cells) (hz : slots + z ≤ R.slots) (hro : xa_kind .iand r q = 4 → 1 ≤ R.frames ∧ 30 ≤ R.locals)
    (kk : ∀ (pc' : Nat) (ls' : Array Slot) (H' : Heap) (locs' : List Loc), xa_pc M ip' = pc' → lv_has ls' (xa_mL M) (xa_lv b base lv') → xa_Mt D cl cs b base h' H' → va_S (xa_A base) s.heap H' locs' →
      W p l e R s m args below meth c H' locs' (cells + k) (slots + z) Q (F0 m pc' ls' (st'.map (xa_rv b base)))) :
    W p l e R s m args below meth c H locs cells slots Q (F0 m pc ls (st.map (xa_rv b base))) := by
  obtain ⟨hx, hb, hml, hown, hts, hK, hX, hbb, hbs, hlk, hrt, hnm, hxt⟩ := F
  have htk : ∀ w ∈ Tk, w.before args s = true := fun w hw => hts w (hsub w hw)
  have hD := xa_W_D cs b base h
  have hA : ∀ q, s.heap.size ≤ q → xa_A base q := fun q hq => Nat.le_trans hbs hq
  have hbA : ¬ xa_A base b := Nat.not_le.mpr hbb
  have hbl : b < s.heap.size := Nat.lt_of_lt_of_le hbb hbs
  unfold xa_ck at hck
  rw [Bool.and_eq_true, decide_eq_true_eq] at hck
  obtain ⟨hd, hck⟩ := hck
  simp only [Bool.and_eq_true, decide_eq_true_eq] at hck
  obtain ⟨rfl, hp⟩ := hck
  obtain ⟨y, st, rfl, hn⟩ := xa_pi_some hn
  obtain ⟨x, st, rfl, hn⟩ := xa_pi_some hn
  obtain ⟨rfl, rfl, rfl, rfl, rfl, rfl⟩ := xa_go_some hn
  refine lv_iand hx hb hd ?_
  exact kk _ ls H locs hp hl hM hS
set_option maxHeartbeats 1000000 in
theorem xs_ladd {len nip r q : Nat} {ts : List Nat} {lv lv' : List (Nat × Value)} {st st' : List Value} {h h' : List va_E} {ip' k z : Nat} (hC : xa_ckC cl Ts = true)
    (F : xa_Fr D cl Ts cs b base L xs M p s m args meth c) {Tk : List Jvm.Cond} (hsub : ∀ w ∈ Tk, w ∈ Ts) (hck : xa_ck cl Tk M pc .ladd len nip r q ts = true) (hn : xa_nx L xs .ladd nip r q ts lv st h = some (ip', lv', st', h', k, z))
    (hl : lv_has ls (xa_mL M) (xa_lv b base lv)) (hM : xa_Mt D cl cs b base h H) (hS : va_S (xa_A base) s.heap H locs) (hcs : s.heap.size + cells ≤ base + h.length) (hc : cells + k ≤ R.cells) (hz : slots + z ≤ R.slots) (hro : xa_kind .ladd r q = 4 → 1 ≤ R.frames ∧ 30 ≤ R.locals)
    (kk : ∀ (pc' : Nat) (ls' : Array Slot) (H' : Heap) (locs' : List Loc), xa_pc M ip' = pc' → lv_has ls' (xa_mL M) (xa_lv b base lv') → xa_Mt D cl cs b base h' H' → va_S (xa_A base) s.heap H' locs' →
      W p l e R s m args below meth c H' locs' (cells + k) (slots + z) Q (F0 m pc' ls' (st'.map (xa_rv b base)))) :
    W p l e R s m args below meth c H locs cells slots Q (F0 m pc ls (st.map (xa_rv b base))) := by
  obtain ⟨hx, hb, hml, hown, hts, hK, hX, hbb, hbs, hlk, hrt, hnm, hxt⟩ := F
  have htk : ∀ w ∈ Tk, w.before args s = true := fun w hw => hts w (hsub w hw)
  have hD := xa_W_D cs b base h
  have hA : ∀ q, s.heap.size ≤ q → xa_A base q := fun q hq => Nat.le_trans hbs hq
  have hbA : ¬ xa_A base b := Nat.not_le.mpr hbb
  have hbl : b < s.heap.size := Nat.lt_of_lt_of_le hbb hbs
  unfold xa_ck at hck
  rw [Bool.and_eq_true, decide_eq_true_eq] at hck
  obtain ⟨hd, hck⟩ := hck
  simp only [Bool.and_eq_true, decide_eq_true_eq] at hck
  obtain ⟨rfl, hp⟩ := hck
  obtain ⟨y, st, rfl, hn⟩ := xa_pl_some hn
  obtain ⟨x, st, rfl, hn⟩ := xa_pl_some hn
  obtain ⟨rfl, rfl, rfl, rfl, rfl, rfl⟩ := xa_go_some hn
  refine lv_ladd hx hb hd ?_
  exact kk _ ls H locs hp hl hM hS
set_option maxHeartbeats 1000000 in
theorem xs_lsub {len nip r q : Nat} {ts : List Nat} {lv lv' : List (Nat × Value)} {st st' : List Value} {h h' : List va_E} {ip' k z : Nat} (hC : xa_ckC cl Ts = true)
    (F : xa_Fr D cl Ts cs b base L xs M p s m args meth c) {Tk : List Jvm.Cond} (hsub : ∀ w ∈ Tk, w ∈ Ts) (hck : xa_ck cl Tk M pc .lsub len nip r q ts = true) (hn : xa_nx L xs .lsub nip r q ts lv st h = some (ip', lv', st', h', k, z))
    (hl : lv_has ls (xa_mL M) (xa_lv b base lv)) (hM : xa_Mt D cl cs b base h H) (hS : va_S (xa_A base) s.heap H locs) (hcs : s.heap.size + cells ≤ base + h.length) (hc : cells + k ≤ R.cells) (hz : slots + z ≤ R.slots) (hro : xa_kind .lsub r q = 4 → 1 ≤ R.frames ∧ 30 ≤ R.locals)
    (kk : ∀ (pc' : Nat) (ls' : Array Slot) (H' : Heap) (locs' : List Loc), xa_pc M ip' = pc' → lv_has ls' (xa_mL M) (xa_lv b base lv') → xa_Mt D cl cs b base h' H' → va_S (xa_A base) s.heap H' locs' →
      W p l e R s m args below meth c H' locs' (cells + k) (slots + z) Q (F0 m pc' ls' (st'.map (xa_rv b base)))) :
    W p l e R s m args below meth c H locs cells slots Q (F0 m pc ls (st.map (xa_rv b base))) := by
  obtain ⟨hx, hb, hml, hown, hts, hK, hX, hbb, hbs, hlk, hrt, hnm, hxt⟩ := F
  have htk : ∀ w ∈ Tk, w.before args s = true := fun w hw => hts w (hsub w hw)
  have hD := xa_W_D cs b base h
  have hA : ∀ q, s.heap.size ≤ q → xa_A base q := fun q hq => Nat.le_trans hbs hq
  have hbA : ¬ xa_A base b := Nat.not_le.mpr hbb
  have hbl : b < s.heap.size := Nat.lt_of_lt_of_le hbb hbs
  unfold xa_ck at hck
  rw [Bool.and_eq_true, decide_eq_true_eq] at hck
  obtain ⟨hd, hck⟩ := hck
  simp only [Bool.and_eq_true, decide_eq_true_eq] at hck
  obtain ⟨rfl, hp⟩ := hck
  obtain ⟨y, st, rfl, hn⟩ := xa_pl_some hn
  obtain ⟨x, st, rfl, hn⟩ := xa_pl_some hn
  obtain ⟨rfl, rfl, rfl, rfl, rfl, rfl⟩ := xa_go_some hn
  refine lv_lsub hx hb hd ?_
  exact kk _ ls H locs hp hl hM hS
set_option maxHeartbeats 1000000 in
theorem xs_lmul {len nip r q : Nat} {ts : List Nat} {lv lv' : List (Nat × Value)} {st st' : List Value} {h h' : List va_E} {ip' k z : Nat} (hC : xa_ckC cl Ts = true)
    (F : xa_Fr D cl Ts cs b base L xs M p s m args meth c) {Tk : List Jvm.Cond} (hsub : ∀ w ∈ Tk, w ∈ Ts) (hck : xa_ck cl Tk M pc .lmul len nip r q ts = true) (hn : xa_nx L xs .lmul nip r q ts lv st h = some (ip', lv', st', h', k, z))
    (hl : lv_has ls (xa_mL M) (xa_lv b base lv)) (hM : xa_Mt D cl cs b base h H) (hS : va_S (xa_A base) s.heap H locs) (hcs : s.heap.size + cells ≤ base + h.length) (hc : cells + k ≤ R.cells) (hz : slots + z ≤ R.slots) (hro : xa_kind .lmul r q = 4 → 1 ≤ R.frames ∧ 30 ≤ R.locals)
    (kk : ∀ (pc' : Nat) (ls' : Array Slot) (H' : Heap) (locs' : List Loc), xa_pc M ip' = pc' → lv_has ls' (xa_mL M) (xa_lv b base lv') → xa_Mt D cl cs b base h' H' → va_S (xa_A base) s.heap H' locs' →
      W p l e R s m args below meth c H' locs' (cells + k) (slots + z) Q (F0 m pc' ls' (st'.map (xa_rv b base)))) :
    W p l e R s m args below meth c H locs cells slots Q (F0 m pc ls (st.map (xa_rv b base))) := by
  obtain ⟨hx, hb, hml, hown, hts, hK, hX, hbb, hbs, hlk, hrt, hnm, hxt⟩ := F
  have htk : ∀ w ∈ Tk, w.before args s = true := fun w hw => hts w (hsub w hw)
  have hD := xa_W_D cs b base h
  have hA : ∀ q, s.heap.size ≤ q → xa_A base q := fun q hq => Nat.le_trans hbs hq
  have hbA : ¬ xa_A base b := Nat.not_le.mpr hbb
  have hbl : b < s.heap.size := Nat.lt_of_lt_of_le hbb hbs
  unfold xa_ck at hck
  rw [Bool.and_eq_true, decide_eq_true_eq] at hck
  obtain ⟨hd, hck⟩ := hck
  simp only [Bool.and_eq_true, decide_eq_true_eq] at hck
  obtain ⟨rfl, hp⟩ := hck
  obtain ⟨y, st, rfl, hn⟩ := xa_pl_some hn
  obtain ⟨x, st, rfl, hn⟩ := xa_pl_some hn
  obtain ⟨rfl, rfl, rfl, rfl, rfl, rfl⟩ := xa_go_some hn
  refine lv_lmul hx hb hd ?_
  exact kk _ ls H locs hp hl hM hS
set_option maxHeartbeats 1000000 in
theorem xs_idiv {len nip r q : Nat} {ts : List Nat} {lv lv' : List (Nat × Value)} {st st' : List Value} {h h' : List va_E} {ip' k z : Nat} (hC : xa_ckC cl Ts = true)
    (F : xa_Fr D cl Ts cs b base L xs M p s m args meth c) {Tk : List Jvm.Cond} (hsub : ∀ w ∈ Tk, w ∈ Ts) (hck : xa_ck cl Tk M pc .idiv len nip r q ts = true) (hn : xa_nx L xs .idiv nip r q ts lv st h = some (ip', lv', st', h', k, z))
    (hl : lv_has ls (xa_mL M) (xa_lv b base lv)) (hM : xa_Mt D cl cs b base h H) (hS : va_S (xa_A base) s.heap H locs) (hcs : s.heap.size + cells ≤ base + h.length) (hc : cells + k ≤ R.cells) (hz : slots + z ≤ R.slots) (hro : xa_kind .idiv r q = 4 → 1 ≤ R.frames ∧ 30 ≤ R.locals)
    (kk : ∀ (pc' : Nat) (ls' : Array Slot) (H' : Heap) (locs' : List Loc), xa_pc M ip' = pc' → lv_has ls' (xa_mL M) (xa_lv b base lv') → xa_Mt D cl cs b base h' H' → va_S (xa_A base) s.heap H' locs' →
      W p l e R s m args below meth c H' locs' (cells + k) (slots + z) Q (F0 m pc' ls' (st'.map (xa_rv b base)))) :
    W p l e R s m args below meth c H locs cells slots Q (F0 m pc ls (st.map (xa_rv b base))) := by
  obtain ⟨hx, hb, hml, hown, hts, hK, hX, hbb, hbs, hlk, hrt, hnm, hxt⟩ := F
  have htk : ∀ w ∈ Tk, w.before args s = true := fun w hw => hts w (hsub w hw)
  have hD := xa_W_D cs b base h
  have hA : ∀ q, s.heap.size ≤ q → xa_A base q := fun q hq => Nat.le_trans hbs hq
  have hbA : ¬ xa_A base b := Nat.not_le.mpr hbb
  have hbl : b < s.heap.size := Nat.lt_of_lt_of_le hbb hbs
  unfold xa_ck at hck
  rw [Bool.and_eq_true, decide_eq_true_eq] at hck
  obtain ⟨hd, hck⟩ := hck
  simp only [Bool.and_eq_true, decide_eq_true_eq] at hck
  obtain ⟨rfl, hp⟩ := hck
  obtain ⟨y, st, rfl, hn⟩ := xa_pi_some hn
  obtain ⟨x, st, rfl, hn⟩ := xa_pi_some hn
  obtain ⟨hy, hn⟩ := xa_if_some hn
  obtain ⟨rfl, rfl, rfl, rfl, rfl, rfl⟩ := xa_go_some hn
  refine lv_idiv hx hb hd (by simpa using hy) ?_
  exact kk _ ls H locs hp hl hM hS
set_option maxHeartbeats 1000000 in
theorem xs_irem {len nip r q : Nat} {ts : List Nat} {lv lv' : List (Nat × Value)} {st st' : List Value} {h h' : List va_E} {ip' k z : Nat} (hC : xa_ckC cl Ts = true)
    (F : xa_Fr D cl Ts cs b base L xs M p s m args meth c) {Tk : List Jvm.Cond} (hsub : ∀ w ∈ Tk, w ∈ Ts) (hck : xa_ck cl Tk M pc .irem len nip r q ts = true) (hn : xa_nx L xs .irem nip r q ts lv st h = some (ip', lv', st', h', k, z))
    (hl : lv_has ls (xa_mL M) (xa_lv b base lv)) (hM : xa_Mt D cl cs b base h H) (hS : va_S (xa_A base) s.heap H locs) (hcs : s.heap.size + cells ≤ base + h.length) (hc : cells + k ≤ R.cells) (hz : slots + z ≤ R.slots) (hro : xa_kind .irem r q = 4 → 1 ≤ R.frames ∧ 30 ≤ R.locals)
    (kk : ∀ (pc' : Nat) (ls' : Array Slot) (H' : Heap) (locs' : List Loc), xa_pc M ip' = pc' → lv_has ls' (xa_mL M) (xa_lv b base lv') → xa_Mt D cl cs b base h' H' → va_S (xa_A base) s.heap H' locs' →
      W p l e R s m args below meth c H' locs' (cells + k) (slots + z) Q (F0 m pc' ls' (st'.map (xa_rv b base)))) :
    W p l e R s m args below meth c H locs cells slots Q (F0 m pc ls (st.map (xa_rv b base))) := by
  obtain ⟨hx, hb, hml, hown, hts, hK, hX, hbb, hbs, hlk, hrt, hnm, hxt⟩ := F
  have htk : ∀ w ∈ Tk, w.before args s = true := fun w hw => hts w (hsub w hw)
  have hD := xa_W_D cs b base h
  have hA : ∀ q, s.heap.size ≤ q → xa_A base q := fun q hq => Nat.le_trans hbs hq
  have hbA : ¬ xa_A base b := Nat.not_le.mpr hbb
  have hbl : b < s.heap.size := Nat.lt_of_lt_of_le hbb hbs
  unfold xa_ck at hck
  rw [Bool.and_eq_true, decide_eq_true_eq] at hck
  obtain ⟨hd, hck⟩ := hck
  simp only [Bool.and_eq_true, decide_eq_true_eq] at hck
  obtain ⟨rfl, hp⟩ := hck
  obtain ⟨y, st, rfl, hn⟩ := xa_pi_some hn
  obtain ⟨x, st, rfl, hn⟩ := xa_pi_some hn
  obtain ⟨hy, hn⟩ := xa_if_some hn
  obtain ⟨rfl, rfl, rfl, rfl, rfl, rfl⟩ := xa_go_some hn
  refine lv_irem hx hb hd (by simpa using hy) ?_
  exact kk _ ls H locs hp hl hM hS
set_option maxHeartbeats 1000000 in
theorem xs_ldiv {len nip r q : Nat} {ts : List Nat} {lv lv' : List (Nat × Value)} {st st' : List Value} {h h' : List va_E} {ip' k z : Nat} (hC : xa_ckC cl Ts = true)
    (F : xa_Fr D cl Ts cs b base L xs M p s m args meth c) {Tk : List Jvm.Cond} (hsub : ∀ w ∈ Tk, w ∈ Ts) (hck : xa_ck cl Tk M pc .ldiv len nip r q ts = true) (hn : xa_nx L xs .ldiv nip r q ts lv st h = some (ip', lv', st', h', k, z))
    (hl : lv_has ls (xa_mL M) (xa_lv b base lv)) (hM : xa_Mt D cl cs b base h H) (hS : va_S (xa_A base) s.heap H locs) (hcs : s.heap.size + cells ≤ base + h.length) (hc : cells + k ≤ R.cells) (hz : slots + z ≤ R.slots) (hro : xa_kind .ldiv r q = 4 → 1 ≤ R.frames ∧ 30 ≤ R.locals)
    (kk : ∀ (pc' : Nat) (ls' : Array Slot) (H' : Heap) (locs' : List Loc), xa_pc M ip' = pc' → lv_has ls' (xa_mL M) (xa_lv b base lv') → xa_Mt D cl cs b base h' H' → va_S (xa_A base) s.heap H' locs' →
      W p l e R s m args below meth c H' locs' (cells + k) (slots + z) Q (F0 m pc' ls' (st'.map (xa_rv b base)))) :
    W p l e R s m args below meth c H locs cells slots Q (F0 m pc ls (st.map (xa_rv b base))) := by
  obtain ⟨hx, hb, hml, hown, hts, hK, hX, hbb, hbs, hlk, hrt, hnm, hxt⟩ := F
  have htk : ∀ w ∈ Tk, w.before args s = true := fun w hw => hts w (hsub w hw)
  have hD := xa_W_D cs b base h
  have hA : ∀ q, s.heap.size ≤ q → xa_A base q := fun q hq => Nat.le_trans hbs hq
  have hbA : ¬ xa_A base b := Nat.not_le.mpr hbb
  have hbl : b < s.heap.size := Nat.lt_of_lt_of_le hbb hbs
  unfold xa_ck at hck
  rw [Bool.and_eq_true, decide_eq_true_eq] at hck
  obtain ⟨hd, hck⟩ := hck
  simp only [Bool.and_eq_true, decide_eq_true_eq] at hck
  obtain ⟨rfl, hp⟩ := hck
  obtain ⟨y, st, rfl, hn⟩ := xa_pl_some hn
  obtain ⟨x, st, rfl, hn⟩ := xa_pl_some hn
  obtain ⟨hy, hn⟩ := xa_if_some hn
  obtain ⟨rfl, rfl, rfl, rfl, rfl, rfl⟩ := xa_go_some hn
  refine lv_ldiv hx hb hd (by simpa using hy) ?_
  exact kk _ ls H locs hp hl hM hS
set_option maxHeartbeats 1000000 in
theorem xs_lrem {len nip r q : Nat} {ts : List Nat} {lv lv' : List (Nat × Value)} {st st' : List Value} {h h' : List va_E} {ip' k z : Nat} (hC : xa_ckC cl Ts = true)
    (F : xa_Fr D cl Ts cs b base L xs M p s m args meth c) {Tk : List Jvm.Cond} (hsub : ∀ w ∈ Tk, w ∈ Ts) (hck : xa_ck cl Tk M pc .lrem len nip r q ts = true) (hn : xa_nx L xs .lrem nip r q ts lv st h = some (ip', lv', st', h', k, z))
    (hl : lv_has ls (xa_mL M) (xa_lv b base lv)) (hM : xa_Mt D cl cs b base h H) (hS : va_S (xa_A base) s.heap H locs) (hcs : s.heap.size + cells ≤ base + h.length) (hc : cells + k ≤ R.cells) (hz : slots + z ≤ R.slots) (hro : xa_kind .lrem r q = 4 → 1 ≤ R.frames ∧ 30 ≤ R.locals)
    (kk : ∀ (pc' : Nat) (ls' : Array Slot) (H' : Heap) (locs' : List Loc), xa_pc M ip' = pc' → lv_has ls' (xa_mL M) (xa_lv b base lv') → xa_Mt D cl cs b base h' H' → va_S (xa_A base) s.heap H' locs' →
      W p l e R s m args below meth c H' locs' (cells + k) (slots + z) Q (F0 m pc' ls' (st'.map (xa_rv b base)))) :
    W p l e R s m args below meth c H locs cells slots Q (F0 m pc ls (st.map (xa_rv b base))) := by
  obtain ⟨hx, hb, hml, hown, hts, hK, hX, hbb, hbs, hlk, hrt, hnm, hxt⟩ := F
  have htk : ∀ w ∈ Tk, w.before args s = true := fun w hw => hts w (hsub w hw)
  have hD := xa_W_D cs b base h
  have hA : ∀ q, s.heap.size ≤ q → xa_A base q := fun q hq => Nat.le_trans hbs hq
  have hbA : ¬ xa_A base b := Nat.not_le.mpr hbb
  have hbl : b < s.heap.size := Nat.lt_of_lt_of_le hbb hbs
  unfold xa_ck at hck
  rw [Bool.and_eq_true, decide_eq_true_eq] at hck
  obtain ⟨hd, hck⟩ := hck
  simp only [Bool.and_eq_true, decide_eq_true_eq] at hck
  obtain ⟨rfl, hp⟩ := hck
  obtain ⟨y, st, rfl, hn⟩ := xa_pl_some hn
  obtain ⟨x, st, rfl, hn⟩ := xa_pl_some hn
  obtain ⟨hy, hn⟩ := xa_if_some hn
  obtain ⟨rfl, rfl, rfl, rfl, rfl, rfl⟩ := xa_go_some hn
  refine lv_lrem hx hb hd (by simpa using hy) ?_
  exact kk _ ls H locs hp hl hM hS
set_option maxHeartbeats 1000000 in
theorem xs_ineg {len nip r q : Nat} {ts : List Nat} {lv lv' : List (Nat × Value)} {st st' : List Value} {h h' : List va_E} {ip' k z : Nat} (hC : xa_ckC cl Ts = true)
    (F : xa_Fr D cl Ts cs b base L xs M p s m args meth c) {Tk : List Jvm.Cond} (hsub : ∀ w ∈ Tk, w ∈ Ts) (hck : xa_ck cl Tk M pc .ineg len nip r q ts = true) (hn : xa_nx L xs .ineg nip r q ts lv st h = some (ip', lv', st', h', k, z))
    (hl : lv_has ls (xa_mL M) (xa_lv b base lv)) (hM : xa_Mt D cl cs b base h H) (hS : va_S (xa_A base) s.heap H locs) (hcs : s.heap.size + cells ≤ base + h.length) (hc : cells + k ≤ R.cells) (hz : slots + z ≤ R.slots) (hro : xa_kind .ineg r q = 4 → 1 ≤ R.frames ∧ 30 ≤ R.locals)
    (kk : ∀ (pc' : Nat) (ls' : Array Slot) (H' : Heap) (locs' : List Loc), xa_pc M ip' = pc' → lv_has ls' (xa_mL M) (xa_lv b base lv') → xa_Mt D cl cs b base h' H' → va_S (xa_A base) s.heap H' locs' →
      W p l e R s m args below meth c H' locs' (cells + k) (slots + z) Q (F0 m pc' ls' (st'.map (xa_rv b base)))) :
    W p l e R s m args below meth c H locs cells slots Q (F0 m pc ls (st.map (xa_rv b base))) := by
  obtain ⟨hx, hb, hml, hown, hts, hK, hX, hbb, hbs, hlk, hrt, hnm, hxt⟩ := F
  have htk : ∀ w ∈ Tk, w.before args s = true := fun w hw => hts w (hsub w hw)
  have hD := xa_W_D cs b base h
  have hA : ∀ q, s.heap.size ≤ q → xa_A base q := fun q hq => Nat.le_trans hbs hq
  have hbA : ¬ xa_A base b := Nat.not_le.mpr hbb
  have hbl : b < s.heap.size := Nat.lt_of_lt_of_le hbb hbs
  unfold xa_ck at hck
  rw [Bool.and_eq_true, decide_eq_true_eq] at hck
  obtain ⟨hd, hck⟩ := hck
  simp only [Bool.and_eq_true, decide_eq_true_eq] at hck
  obtain ⟨rfl, hp⟩ := hck
  obtain ⟨x, st, rfl, hn⟩ := xa_pi_some hn
  obtain ⟨rfl, rfl, rfl, rfl, rfl, rfl⟩ := xa_go_some hn
  refine lv_ineg hx hb hd ?_
  exact kk _ ls H locs hp hl hM hS
set_option maxHeartbeats 1000000 in
theorem xs_lcmp {len nip r q : Nat} {ts : List Nat} {lv lv' : List (Nat × Value)} {st st' : List Value} {h h' : List va_E} {ip' k z : Nat} (hC : xa_ckC cl Ts = true)
    (F : xa_Fr D cl Ts cs b base L xs M p s m args meth c) {Tk : List Jvm.Cond} (hsub : ∀ w ∈ Tk, w ∈ Ts) (hck : xa_ck cl Tk M pc .lcmp len nip r q ts = true) (hn : xa_nx L xs .lcmp nip r q ts lv st h = some (ip', lv', st', h', k, z))
    (hl : lv_has ls (xa_mL M) (xa_lv b base lv)) (hM : xa_Mt D cl cs b base h H) (hS : va_S (xa_A base) s.heap H locs) (hcs : s.heap.size + cells ≤ base + h.length) (hc : cells + k ≤ R.cells) (hz : slots + z ≤ R.slots) (hro : xa_kind .lcmp r q = 4 → 1 ≤ R.frames ∧ 30 ≤ R.locals)
    (kk : ∀ (pc' : Nat) (ls' : Array Slot) (H' : Heap) (locs' : List Loc), xa_pc M ip' = pc' → lv_has ls' (xa_mL M) (xa_lv b base lv') → xa_Mt D cl cs b base h' H' → va_S (xa_A base) s.heap H' locs' →
      W p l e R s m args below meth c H' locs' (cells + k) (slots + z) Q (F0 m pc' ls' (st'.map (xa_rv b base)))) :
    W p l e R s m args below meth c H locs cells slots Q (F0 m pc ls (st.map (xa_rv b base))) := by
  obtain ⟨hx, hb, hml, hown, hts, hK, hX, hbb, hbs, hlk, hrt, hnm, hxt⟩ := F
  have htk : ∀ w ∈ Tk, w.before args s = true := fun w hw => hts w (hsub w hw)
  have hD := xa_W_D cs b base h
  have hA : ∀ q, s.heap.size ≤ q → xa_A base q := fun q hq => Nat.le_trans hbs hq
  have hbA : ¬ xa_A base b := Nat.not_le.mpr hbb
  have hbl : b < s.heap.size := Nat.lt_of_lt_of_le hbb hbs
  unfold xa_ck at hck
  rw [Bool.and_eq_true, decide_eq_true_eq] at hck
  obtain ⟨hd, hck⟩ := hck
  simp only [Bool.and_eq_true, decide_eq_true_eq] at hck
  obtain ⟨rfl, hp⟩ := hck
  obtain ⟨y, st, rfl, hn⟩ := xa_pl_some hn
  obtain ⟨x, st, rfl, hn⟩ := xa_pl_some hn
  obtain ⟨rfl, rfl, rfl, rfl, rfl, rfl⟩ := xa_go_some hn
  refine W.lcmp hx hb hd ?_
  exact kk _ ls H locs hp hl hM hS
set_option maxHeartbeats 1000000 in
theorem xs_i2l {len nip r q : Nat} {ts : List Nat} {lv lv' : List (Nat × Value)} {st st' : List Value} {h h' : List va_E} {ip' k z : Nat} (hC : xa_ckC cl Ts = true)
    (F : xa_Fr D cl Ts cs b base L xs M p s m args meth c) {Tk : List Jvm.Cond} (hsub : ∀ w ∈ Tk, w ∈ Ts) (hck : xa_ck cl Tk M pc .i2l len nip r q ts = true) (hn : xa_nx L xs .i2l nip r q ts lv st h = some (ip', lv', st', h', k, z))
    (hl : lv_has ls (xa_mL M) (xa_lv b base lv)) (hM : xa_Mt D cl cs b base h H) (hS : va_S (xa_A base) s.heap H locs) (hcs : s.heap.size + cells ≤ base + h.length) (hc : cells + k ≤ R.cells) (hz : slots + z ≤ R.slots) (hro : xa_kind .i2l r q = 4 → 1 ≤ R.frames ∧ 30 ≤ R.locals)
    (kk : ∀ (pc' : Nat) (ls' : Array Slot) (H' : Heap) (locs' : List Loc), xa_pc M ip' = pc' → lv_has ls' (xa_mL M) (xa_lv b base lv') → xa_Mt D cl cs b base h' H' → va_S (xa_A base) s.heap H' locs' →
      W p l e R s m args below meth c H' locs' (cells + k) (slots + z) Q (F0 m pc' ls' (st'.map (xa_rv b base)))) :
    W p l e R s m args below meth c H locs cells slots Q (F0 m pc ls (st.map (xa_rv b base))) := by
  obtain ⟨hx, hb, hml, hown, hts, hK, hX, hbb, hbs, hlk, hrt, hnm, hxt⟩ := F
  have htk : ∀ w ∈ Tk, w.before args s = true := fun w hw => hts w (hsub w hw)
  have hD := xa_W_D cs b base h
  have hA : ∀ q, s.heap.size ≤ q → xa_A base q := fun q hq => Nat.le_trans hbs hq
  have hbA : ¬ xa_A base b := Nat.not_le.mpr hbb
  have hbl : b < s.heap.size := Nat.lt_of_lt_of_le hbb hbs
  unfold xa_ck at hck
  rw [Bool.and_eq_true, decide_eq_true_eq] at hck
  obtain ⟨hd, hck⟩ := hck
  simp only [Bool.and_eq_true, decide_eq_true_eq] at hck
  obtain ⟨rfl, hp⟩ := hck
  obtain ⟨x, st, rfl, hn⟩ := xa_pi_some hn
  obtain ⟨rfl, rfl, rfl, rfl, rfl, rfl⟩ := xa_go_some hn
  refine lv_i2l hx hb hd rfl ?_
  exact kk _ ls H locs hp hl hM hS
set_option maxHeartbeats 1000000 in
theorem xs_l2i {len nip r q : Nat} {ts : List Nat} {lv lv' : List (Nat × Value)} {st st' : List Value} {h h' : List va_E} {ip' k z : Nat} (hC : xa_ckC cl Ts = true)
    (F : xa_Fr D cl Ts cs b base L xs M p s m args meth c) {Tk : List Jvm.Cond} (hsub : ∀ w ∈ Tk, w ∈ Ts) (hck : xa_ck cl Tk M pc .l2i len nip r q ts = true) (hn : xa_nx L xs .l2i nip r q ts lv st h = some (ip', lv', st', h', k, z))
    (hl : lv_has ls (xa_mL M) (xa_lv b base lv)) (hM : xa_Mt D cl cs b base h H) (hS : va_S (xa_A base) s.heap H locs) (hcs : s.heap.size + cells ≤ base + h.length) (hc : cells + k ≤ R.cells) (hz : slots + z ≤ R.slots) (hro : xa_kind .l2i r q = 4 → 1 ≤ R.frames ∧ 30 ≤ R.locals)
    (kk : ∀ (pc' : Nat) (ls' : Array Slot) (H' : Heap) (locs' : List Loc), xa_pc M ip' = pc' → lv_has ls' (xa_mL M) (xa_lv b base lv') → xa_Mt D cl cs b base h' H' → va_S (xa_A base) s.heap H' locs' →
      W p l e R s m args below meth c H' locs' (cells + k) (slots + z) Q (F0 m pc' ls' (st'.map (xa_rv b base)))) :
    W p l e R s m args below meth c H locs cells slots Q (F0 m pc ls (st.map (xa_rv b base))) := by
  obtain ⟨hx, hb, hml, hown, hts, hK, hX, hbb, hbs, hlk, hrt, hnm, hxt⟩ := F
  have htk : ∀ w ∈ Tk, w.before args s = true := fun w hw => hts w (hsub w hw)
  have hD := xa_W_D cs b base h
  have hA : ∀ q, s.heap.size ≤ q → xa_A base q := fun q hq => Nat.le_trans hbs hq
  have hbA : ¬ xa_A base b := Nat.not_le.mpr hbb
  have hbl : b < s.heap.size := Nat.lt_of_lt_of_le hbb hbs
  unfold xa_ck at hck
  rw [Bool.and_eq_true, decide_eq_true_eq] at hck
  obtain ⟨hd, hck⟩ := hck
  simp only [Bool.and_eq_true, decide_eq_true_eq] at hck
  obtain ⟨rfl, hp⟩ := hck
  obtain ⟨x, st, rfl, hn⟩ := xa_pl_some hn
  obtain ⟨rfl, rfl, rfl, rfl, rfl, rfl⟩ := xa_go_some hn
  refine lv_l2i hx hb hd rfl ?_
  exact kk _ ls H locs hp hl hM hS
set_option maxHeartbeats 1000000 in
theorem xs_dup {len nip r q : Nat} {ts : List Nat} {lv lv' : List (Nat × Value)} {st st' : List Value} {h h' : List va_E} {ip' k z : Nat} (hC : xa_ckC cl Ts = true)
    (F : xa_Fr D cl Ts cs b base L xs M p s m args meth c) {Tk : List Jvm.Cond} (hsub : ∀ w ∈ Tk, w ∈ Ts) (hck : xa_ck cl Tk M pc .dup len nip r q ts = true) (hn : xa_nx L xs .dup nip r q ts lv st h = some (ip', lv', st', h', k, z))
    (hl : lv_has ls (xa_mL M) (xa_lv b base lv)) (hM : xa_Mt D cl cs b base h H) (hS : va_S (xa_A base) s.heap H locs) (hcs : s.heap.size + cells ≤ base + h.length) (hc : cells + k ≤ R.cells) (hz : slots + z ≤ R.slots) (hro : xa_kind .dup r q = 4 → 1 ≤ R.frames ∧ 30 ≤ R.locals)
    (kk : ∀ (pc' : Nat) (ls' : Array Slot) (H' : Heap) (locs' : List Loc), xa_pc M ip' = pc' → lv_has ls' (xa_mL M) (xa_lv b base lv') → xa_Mt D cl cs b base h' H' → va_S (xa_A base) s.heap H' locs' →
      W p l e R s m args below meth c H' locs' (cells + k) (slots + z) Q (F0 m pc' ls' (st'.map (xa_rv b base)))) :
    W p l e R s m args below meth c H locs cells slots Q (F0 m pc ls (st.map (xa_rv b base))) := by
  obtain ⟨hx, hb, hml, hown, hts, hK, hX, hbb, hbs, hlk, hrt, hnm, hxt⟩ := F
  have htk : ∀ w ∈ Tk, w.before args s = true := fun w hw => hts w (hsub w hw)
  have hD := xa_W_D cs b base h
  have hA : ∀ q, s.heap.size ≤ q → xa_A base q := fun q hq => Nat.le_trans hbs hq
  have hbA : ¬ xa_A base b := Nat.not_le.mpr hbb
  have hbl : b < s.heap.size := Nat.lt_of_lt_of_le hbb hbs
  unfold xa_ck at hck
  rw [Bool.and_eq_true, decide_eq_true_eq] at hck
  obtain ⟨hd, hck⟩ := hck
  simp only [Bool.and_eq_true, decide_eq_true_eq] at hck
  obtain ⟨rfl, hp⟩ := hck
  obtain ⟨v, st, rfl, hv, hn⟩ := xa_p1_some hn
  obtain ⟨rfl, rfl, rfl, rfl, rfl, rfl⟩ := xa_go_some hn
  refine lv_dup hx hb hd (by rw [xa_rv_cat]; exact xa_cat1 hv) ?_
  exact kk _ ls H locs hp hl hM hS
set_option maxHeartbeats 1000000 in
theorem xs_pop {len nip r q : Nat} {ts : List Nat} {lv lv' : List (Nat × Value)} {st st' : List Value} {h h' : List va_E} {ip' k z : Nat} (hC : xa_ckC cl Ts = true)
    (F : xa_Fr D cl Ts cs b base L xs M p s m args meth c) {Tk : List Jvm.Cond} (hsub : ∀ w ∈ Tk, w ∈ Ts) (hck : xa_ck cl Tk M pc .pop len nip r q ts = true) (hn : xa_nx L xs .pop nip r q ts lv st h = some (ip', lv', st', h', k, z))
    (hl : lv_has ls (xa_mL M) (xa_lv b base lv)) (hM : xa_Mt D cl cs b base h H) (hS : va_S (xa_A base) s.heap H locs) (hcs : s.heap.size + cells ≤ base + h.length) (hc : cells + k ≤ R.cells) (hz : slots + z ≤ R.slots) (hro : xa_kind .pop r q = 4 → 1 ≤ R.frames ∧ 30 ≤ R.locals)
    (kk : ∀ (pc' : Nat) (ls' : Array Slot) (H' : Heap) (locs' : List Loc), xa_pc M ip' = pc' → lv_has ls' (xa_mL M) (xa_lv b base lv') → xa_Mt D cl cs b base h' H' → va_S (xa_A base) s.heap H' locs' →
      W p l e R s m args below meth c H' locs' (cells + k) (slots + z) Q (F0 m pc' ls' (st'.map (xa_rv b base)))) :
    W p l e R s m args below meth c H locs cells slots Q (F0 m pc ls (st.map (xa_rv b base))) := by
  obtain ⟨hx, hb, hml, hown, hts, hK, hX, hbb, hbs, hlk, hrt, hnm, hxt⟩ := F
  have htk : ∀ w ∈ Tk, w.before args s = true := fun w hw => hts w (hsub w hw)
  have hD := xa_W_D cs b base h
  have hA : ∀ q, s.heap.size ≤ q → xa_A base q := fun q hq => Nat.le_trans hbs hq
  have hbA : ¬ xa_A base b := Nat.not_le.mpr hbb
  have hbl : b < s.heap.size := Nat.lt_of_lt_of_le hbb hbs
  unfold xa_ck at hck
  rw [Bool.and_eq_true, decide_eq_true_eq] at hck
  obtain ⟨hd, hck⟩ := hck
  simp only [Bool.and_eq_true, decide_eq_true_eq] at hck
  obtain ⟨rfl, hp⟩ := hck
  obtain ⟨v, st, rfl, hv, hn⟩ := xa_p1_some hn
  obtain ⟨rfl, rfl, rfl, rfl, rfl, rfl⟩ := xa_go_some hn
  refine lv_pop hx hb hd (by rw [xa_rv_cat]; exact xa_cat1 hv) ?_
  exact kk _ ls H locs hp hl hM hS
set_option maxHeartbeats 1000000 in
theorem xs_dup2 {len nip r q : Nat} {ts : List Nat} {lv lv' : List (Nat × Value)} {st st' : List Value} {h h' : List va_E} {ip' k z : Nat} (hC : xa_ckC cl Ts = true)
    (F : xa_Fr D cl Ts cs b base L xs M p s m args meth c) {Tk : List Jvm.Cond} (hsub : ∀ w ∈ Tk, w ∈ Ts) (hck : xa_ck cl Tk M pc .dup2 len nip r q ts = true) (hn : xa_nx L xs .dup2 nip r q ts lv st h = some (ip', lv', st', h', k, z))
    (hl : lv_has ls (xa_mL M) (xa_lv b base lv)) (hM : xa_Mt D cl cs b base h H) (hS : va_S (xa_A base) s.heap H locs) (hcs : s.heap.size + cells ≤ base + h.length) (hc : cells + k ≤ R.cells) (hz : slots + z ≤ R.slots) (hro : xa_kind .dup2 r q = 4 → 1 ≤ R.frames ∧ 30 ≤ R.locals)
    (kk : ∀ (pc' : Nat) (ls' : Array Slot) (H' : Heap) (locs' : List Loc), xa_pc M ip' = pc' → lv_has ls' (xa_mL M) (xa_lv b base lv') → xa_Mt D cl cs b base h' H' → va_S (xa_A base) s.heap H' locs' →
      W p l e R s m args below meth c H' locs' (cells + k) (slots + z) Q (F0 m pc' ls' (st'.map (xa_rv b base)))) :
    W p l e R s m args below meth c H locs cells slots Q (F0 m pc ls (st.map (xa_rv b base))) := by
  obtain ⟨hx, hb, hml, hown, hts, hK, hX, hbb, hbs, hlk, hrt, hnm, hxt⟩ := F
  have htk : ∀ w ∈ Tk, w.before args s = true := fun w hw => hts w (hsub w hw)
  have hD := xa_W_D cs b base h
  have hA : ∀ q, s.heap.size ≤ q → xa_A base q := fun q hq => Nat.le_trans hbs hq
  have hbA : ¬ xa_A base b := Nat.not_le.mpr hbb
  have hbl : b < s.heap.size := Nat.lt_of_lt_of_le hbb hbs
  unfold xa_ck at hck
  rw [Bool.and_eq_true, decide_eq_true_eq] at hck
  obtain ⟨hd, hck⟩ := hck
  simp only [Bool.and_eq_true, decide_eq_true_eq] at hck
  obtain ⟨rfl, hp⟩ := hck
  obtain ⟨v, st, rfl, hv, hn⟩ := xa_p1_some hn
  obtain ⟨u, st, rfl, hu, hn⟩ := xa_p1_some hn
  obtain ⟨rfl, rfl, rfl, rfl, rfl, rfl⟩ := xa_go_some hn
  refine lv_dup2_11 hx hb hd (by rw [xa_rv_cat]; exact xa_cat1 hv) (by rw [xa_rv_cat]; exact xa_cat1 hu) ?_
  exact kk _ ls H locs hp hl hM hS
set_option maxHeartbeats 1000000 in
theorem xs_ifCond {cd : Jvm.ClassFile.Cond} {off : Int} {len nip r q : Nat} {ts : List Nat} {lv lv' : List (Nat × Value)} {st st' : List Value} {h h' : List va_E} {ip' k z : Nat} (hC : xa_ckC cl Ts = true)
    (F : xa_Fr D cl Ts cs b base L xs M p s m args meth c) {Tk : List Jvm.Cond} (hsub : ∀ w ∈ Tk, w ∈ Ts) (hck : xa_ck cl Tk M pc (.ifCond cd off) len nip r q ts = true) (hn : xa_nx L xs (.ifCond cd off) nip r q ts lv st h = some (ip', lv', st', h', k, z))
    (hl : lv_has ls (xa_mL M) (xa_lv b base lv)) (hM : xa_Mt D cl cs b base h H) (hS : va_S (xa_A base) s.heap H locs) (hcs : s.heap.size + cells ≤ base + h.length) (hc : cells + k ≤ R.cells) (hz : slots + z ≤ R.slots) (hro : xa_kind (.ifCond cd off) r q = 4 → 1 ≤ R.frames ∧ 30 ≤ R.locals)
    (kk : ∀ (pc' : Nat) (ls' : Array Slot) (H' : Heap) (locs' : List Loc), xa_pc M ip' = pc' → lv_has ls' (xa_mL M) (xa_lv b base lv') → xa_Mt D cl cs b base h' H' → va_S (xa_A base) s.heap H' locs' →
      W p l e R s m args below meth c H' locs' (cells + k) (slots + z) Q (F0 m pc' ls' (st'.map (xa_rv b base)))) :
    W p l e R s m args below meth c H locs cells slots Q (F0 m pc ls (st.map (xa_rv b base))) := by
  obtain ⟨hx, hb, hml, hown, hts, hK, hX, hbb, hbs, hlk, hrt, hnm, hxt⟩ := F
  have htk : ∀ w ∈ Tk, w.before args s = true := fun w hw => hts w (hsub w hw)
  have hD := xa_W_D cs b base h
  have hA : ∀ q, s.heap.size ≤ q → xa_A base q := fun q hq => Nat.le_trans hbs hq
  have hbA : ¬ xa_A base b := Nat.not_le.mpr hbb
  have hbl : b < s.heap.size := Nat.lt_of_lt_of_le hbb hbs
  unfold xa_ck at hck
  rw [Bool.and_eq_true, decide_eq_true_eq] at hck
  obtain ⟨hd, hck⟩ := hck
  simp only [Bool.and_eq_true, decide_eq_true_eq] at hck
  obtain ⟨rfl, hp, ht⟩ := hck
  obtain ⟨x, st, rfl, hn⟩ := xa_pi_some hn
  obtain ⟨rfl, rfl, rfl, rfl, rfl, rfl⟩ := xa_go_some hn
  cases cd with
  | eq => exact lv_if_eq hx hb hd ht (fun hh => kk _ ls H locs (by simp [xa_cmp, hh]) hl hM hS) (fun hh => kk _ ls H locs (by simpa [xa_cmp, hh] using hp) hl hM hS)
  | ne => exact lv_if_ne hx hb hd ht (fun hh => kk _ ls H locs (by simp [xa_cmp, hh]) hl hM hS) (fun hh => kk _ ls H locs (by simpa [xa_cmp, hh] using hp) hl hM hS)
  | lt => exact lv_if_lt hx hb hd ht (fun hh => kk _ ls H locs (by simp [xa_cmp, hh]) hl hM hS) (fun hh => kk _ ls H locs (by simpa [xa_cmp, hh] using hp) hl hM hS)
  | ge => exact lv_if_ge hx hb hd ht (fun hh => kk _ ls H locs (by simp [xa_cmp, hh]) hl hM hS) (fun hh => kk _ ls H locs (by simpa [xa_cmp, hh] using hp) hl hM hS)
  | gt => exact lv_if_gt hx hb hd ht (fun hh => kk _ ls H locs (by simp [xa_cmp, hh]) hl hM hS) (fun hh => kk _ ls H locs (by simpa [xa_cmp, hh] using hp) hl hM hS)
  | le => exact lv_if_le hx hb hd ht (fun hh => kk _ ls H locs (by simp [xa_cmp, hh]) hl hM hS) (fun hh => kk _ ls H locs (by simpa [xa_cmp, hh] using hp) hl hM hS)
set_option maxHeartbeats 1000000 in
theorem xs_if_icmp {cd : Jvm.ClassFile.Cond} {off : Int} {len nip r q : Nat} {ts : List Nat} {lv lv' : List (Nat × Value)} {st st' : List Value} {h h' : List va_E} {ip' k z : Nat} (hC : xa_ckC cl Ts = true)
    (F : xa_Fr D cl Ts cs b base L xs M p s m args meth c) {Tk : List Jvm.Cond} (hsub : ∀ w ∈ Tk, w ∈ Ts) (hck : xa_ck cl Tk M pc (.if_icmp cd off) len nip r q ts = true) (hn : xa_nx L xs (.if_icmp cd off) nip r q ts lv st h = some (ip', lv', st', h', k, z))
    (hl : lv_has ls (xa_mL M) (xa_lv b base lv)) (hM : xa_Mt D cl cs b base h H) (hS : va_S (xa_A base) s.heap H locs) (hcs : s.heap.size + cells ≤ base + h.length) (hc : cells + k ≤ R.cells) (hz : slots + z ≤ R.slots) (hro : xa_kind (.if_icmp cd off) r q = 4 → 1 ≤ R.frames ∧ 30 ≤ R.locals)
    (kk : ∀ (pc' : Nat) (ls' : Array Slot) (H' : Heap) (locs' : List Loc), xa_pc M ip' = pc' → lv_has ls' (xa_mL M) (xa_lv b base lv') → xa_Mt D cl cs b base h' H' → va_S (xa_A base) s.heap H' locs' →
      W p l e R s m args below meth c H' locs' (cells + k) (slots + z) Q (F0 m pc' ls' (st'.map (xa_rv b base)))) :
    W p l e R s m args below meth c H locs cells slots Q (F0 m pc ls (st.map (xa_rv b base))) := by
  obtain ⟨hx, hb, hml, hown, hts, hK, hX, hbb, hbs, hlk, hrt, hnm, hxt⟩ := F
  have htk : ∀ w ∈ Tk, w.before args s = true := fun w hw => hts w (hsub w hw)
  have hD := xa_W_D cs b base h
  have hA : ∀ q, s.heap.size ≤ q → xa_A base q := fun q hq => Nat.le_trans hbs hq
  have hbA : ¬ xa_A base b := Nat.not_le.mpr hbb
  have hbl : b < s.heap.size := Nat.lt_of_lt_of_le hbb hbs
  unfold xa_ck at hck
  rw [Bool.and_eq_true, decide_eq_true_eq] at hck
  obtain ⟨hd, hck⟩ := hck
  simp only [Bool.and_eq_true, decide_eq_true_eq] at hck
  obtain ⟨rfl, hp, ht⟩ := hck
  obtain ⟨y, st, rfl, hn⟩ := xa_pi_some hn
  obtain ⟨x, st, rfl, hn⟩ := xa_pi_some hn
  obtain ⟨rfl, rfl, rfl, rfl, rfl, rfl⟩ := xa_go_some hn
  cases cd with
  | eq => exact lv_icmp_eq hx hb hd ht (fun hh => kk _ ls H locs (by simp [xa_cmp, hh]) hl hM hS) (fun hh => kk _ ls H locs (by simpa [xa_cmp, hh] using hp) hl hM hS)
  | ne => exact lv_icmp_ne hx hb hd ht (fun hh => kk _ ls H locs (by simp [xa_cmp, hh]) hl hM hS) (fun hh => kk _ ls H locs (by simpa [xa_cmp, hh] using hp) hl hM hS)
  | lt => exact lv_icmp_lt hx hb hd ht (fun hh => kk _ ls H locs (by simp [xa_cmp, hh]) hl hM hS) (fun hh => kk _ ls H locs (by simpa [xa_cmp, hh] using hp) hl hM hS)
  | ge => exact lv_icmp_ge hx hb hd ht (fun hh => kk _ ls H locs (by simp [xa_cmp, hh]) hl hM hS) (fun hh => kk _ ls H locs (by simpa [xa_cmp, hh] using hp) hl hM hS)
  | gt => exact lv_icmp_gt hx hb hd ht (fun hh => kk _ ls H locs (by simp [xa_cmp, hh]) hl hM hS) (fun hh => kk _ ls H locs (by simpa [xa_cmp, hh] using hp) hl hM hS)
  | le => exact lv_icmp_le hx hb hd ht (fun hh => kk _ ls H locs (by simp [xa_cmp, hh]) hl hM hS) (fun hh => kk _ ls H locs (by simpa [xa_cmp, hh] using hp) hl hM hS)
set_option maxHeartbeats 1000000 in
theorem xs_goto {off : Int} {len nip r q : Nat} {ts : List Nat} {lv lv' : List (Nat × Value)} {st st' : List Value} {h h' : List va_E} {ip' k z : Nat} (hC : xa_ckC cl Ts = true)
    (F : xa_Fr D cl Ts cs b base L xs M p s m args meth c) {Tk : List Jvm.Cond} (hsub : ∀ w ∈ Tk, w ∈ Ts) (hck : xa_ck cl Tk M pc (.goto off) len nip r q ts = true) (hn : xa_nx L xs (.goto off) nip r q ts lv st h = some (ip', lv', st', h', k, z))
    (hl : lv_has ls (xa_mL M) (xa_lv b base lv)) (hM : xa_Mt D cl cs b base h H) (hS : va_S (xa_A base) s.heap H locs) (hcs : s.heap.size + cells ≤ base + h.length) (hc : cells + k ≤ R.cells) (hz : slots + z ≤ R.slots) (hro : xa_kind (.goto off) r q = 4 → 1 ≤ R.frames ∧ 30 ≤ R.locals)
    (kk : ∀ (pc' : Nat) (ls' : Array Slot) (H' : Heap) (locs' : List Loc), xa_pc M ip' = pc' → lv_has ls' (xa_mL M) (xa_lv b base lv') → xa_Mt D cl cs b base h' H' → va_S (xa_A base) s.heap H' locs' →
      W p l e R s m args below meth c H' locs' (cells + k) (slots + z) Q (F0 m pc' ls' (st'.map (xa_rv b base)))) :
    W p l e R s m args below meth c H locs cells slots Q (F0 m pc ls (st.map (xa_rv b base))) := by
  obtain ⟨hx, hb, hml, hown, hts, hK, hX, hbb, hbs, hlk, hrt, hnm, hxt⟩ := F
  have htk : ∀ w ∈ Tk, w.before args s = true := fun w hw => hts w (hsub w hw)
  have hD := xa_W_D cs b base h
  have hA : ∀ q, s.heap.size ≤ q → xa_A base q := fun q hq => Nat.le_trans hbs hq
  have hbA : ¬ xa_A base b := Nat.not_le.mpr hbb
  have hbl : b < s.heap.size := Nat.lt_of_lt_of_le hbb hbs
  unfold xa_ck at hck
  rw [Bool.and_eq_true, decide_eq_true_eq] at hck
  obtain ⟨hd, hck⟩ := hck
  simp only [Bool.and_eq_true, decide_eq_true_eq] at hck
  obtain ⟨rfl, ht⟩ := hck
  obtain ⟨rfl, rfl, rfl, rfl, rfl, rfl⟩ := xa_go_some hn
  exact lv_goto hx hb hd ht (kk _ ls H locs rfl hl hM hS)
set_option maxHeartbeats 1000000 in
theorem xs_getfield {x : Nat} {len nip r q : Nat} {ts : List Nat} {lv lv' : List (Nat × Value)} {st st' : List Value} {h h' : List va_E} {ip' k z : Nat} (hC : xa_ckC cl Ts = true)
    (F : xa_Fr D cl Ts cs b base L xs M p s m args meth c) {Tk : List Jvm.Cond} (hsub : ∀ w ∈ Tk, w ∈ Ts) (hck : xa_ck cl Tk M pc (.getfield x) len nip r q ts = true) (hn : xa_nx L xs (.getfield x) nip r q ts lv st h = some (ip', lv', st', h', k, z))
    (hl : lv_has ls (xa_mL M) (xa_lv b base lv)) (hM : xa_Mt D cl cs b base h H) (hS : va_S (xa_A base) s.heap H locs) (hcs : s.heap.size + cells ≤ base + h.length) (hc : cells + k ≤ R.cells) (hz : slots + z ≤ R.slots) (hro : xa_kind (.getfield x) r q = 4 → 1 ≤ R.frames ∧ 30 ≤ R.locals)
    (kk : ∀ (pc' : Nat) (ls' : Array Slot) (H' : Heap) (locs' : List Loc), xa_pc M ip' = pc' → lv_has ls' (xa_mL M) (xa_lv b base lv') → xa_Mt D cl cs b base h' H' → va_S (xa_A base) s.heap H' locs' →
      W p l e R s m args below meth c H' locs' (cells + k) (slots + z) Q (F0 m pc' ls' (st'.map (xa_rv b base)))) :
    W p l e R s m args below meth c H locs cells slots Q (F0 m pc ls (st.map (xa_rv b base))) := by
  obtain ⟨hx, hb, hml, hown, hts, hK, hX, hbb, hbs, hlk, hrt, hnm, hxt⟩ := F
  have htk : ∀ w ∈ Tk, w.before args s = true := fun w hw => hts w (hsub w hw)
  have hD := xa_W_D cs b base h
  have hA : ∀ q, s.heap.size ≤ q → xa_A base q := fun q hq => Nat.le_trans hbs hq
  have hbA : ¬ xa_A base b := Nat.not_le.mpr hbb
  have hbl : b < s.heap.size := Nat.lt_of_lt_of_le hbb hbs
  unfold xa_ck at hck
  rw [Bool.and_eq_true, decide_eq_true_eq] at hck
  obtain ⟨hd, hck⟩ := hck
  simp only [Bool.and_eq_true, decide_eq_true_eq] at hck
  obtain ⟨rfl, hp, hv⟩ := hck
  obtain ⟨a, st, rfl, hn⟩ := xa_pr_some hn
  obtain ⟨j, fs, rfl, hj, hn⟩ := xa_ob_some hn
  obtain ⟨v, hfv, hn⟩ := xa_fd_some hn
  obtain ⟨rfl, rfl, rfl, rfl, rfl, rfl⟩ := xa_go_some hn
  unfold xa_ckF at hv
  split at hv
  · rename_i C T N hcl
    rw [Bool.and_eq_true, decide_eq_true_eq, decide_eq_true_eq] at hv
    refine va_get hx hb hts (xa_ckC_in hC hcl).1 hown hK hM.2 j (xa_W_at hj) hcl q hv.1 (htk _ hv.2) (fun _ hh => hh) (v := xa_rv b base v) (by rw [List.getElem?_map, hfv]; rfl) hd ?_
    exact kk _ ls H locs hp hl hM hS
  · cases hv
set_option maxHeartbeats 1000000 in
theorem xs_putfield {x : Nat} {len nip r q : Nat} {ts : List Nat} {lv lv' : List (Nat × Value)} {st st' : List Value} {h h' : List va_E} {ip' k z : Nat} (hC : xa_ckC cl Ts = true)
    (F : xa_Fr D cl Ts cs b base L xs M p s m args meth c) {Tk : List Jvm.Cond} (hsub : ∀ w ∈ Tk, w ∈ Ts) (hck : xa_ck cl Tk M pc (.putfield x) len nip r q ts = true) (hn : xa_nx L xs (.putfield x) nip r q ts lv st h = some (ip', lv', st', h', k, z))
    (hl : lv_has ls (xa_mL M) (xa_lv b base lv)) (hM : xa_Mt D cl cs b base h H) (hS : va_S (xa_A base) s.heap H locs) (hcs : s.heap.size + cells ≤ base + h.length) (hc : cells + k ≤ R.cells) (hz : slots + z ≤ R.slots) (hro : xa_kind (.putfield x) r q = 4 → 1 ≤ R.frames ∧ 30 ≤ R.locals)
    (kk : ∀ (pc' : Nat) (ls' : Array Slot) (H' : Heap) (locs' : List Loc), xa_pc M ip' = pc' → lv_has ls' (xa_mL M) (xa_lv b base lv') → xa_Mt D cl cs b base h' H' → va_S (xa_A base) s.heap H' locs' →
      W p l e R s m args below meth c H' locs' (cells + k) (slots + z) Q (F0 m pc' ls' (st'.map (xa_rv b base)))) :
    W p l e R s m args below meth c H locs cells slots Q (F0 m pc ls (st.map (xa_rv b base))) := by
  obtain ⟨hx, hb, hml, hown, hts, hK, hX, hbb, hbs, hlk, hrt, hnm, hxt⟩ := F
  have htk : ∀ w ∈ Tk, w.before args s = true := fun w hw => hts w (hsub w hw)
  have hD := xa_W_D cs b base h
  have hA : ∀ q, s.heap.size ≤ q → xa_A base q := fun q hq => Nat.le_trans hbs hq
  have hbA : ¬ xa_A base b := Nat.not_le.mpr hbb
  have hbl : b < s.heap.size := Nat.lt_of_lt_of_le hbb hbs
  unfold xa_ck at hck
  rw [Bool.and_eq_true, decide_eq_true_eq] at hck
  obtain ⟨hd, hck⟩ := hck
  simp only [Bool.and_eq_true, decide_eq_true_eq] at hck
  obtain ⟨rfl, hp, hv⟩ := hck
  obtain ⟨v, st, rfl, hn⟩ := xa_pv_some hn
  obtain ⟨a, st, rfl, hn⟩ := xa_pr_some hn
  obtain ⟨j, fs, rfl, hj, hn⟩ := xa_ob_some hn
  obtain ⟨hf, hn⟩ := xa_if_some hn
  obtain ⟨rfl, rfl, rfl, rfl, rfl, rfl⟩ := xa_go_some hn
  unfold xa_ckF at hv
  split at hv
  · rename_i C T N hcl
    simp only [Bool.and_eq_true, decide_eq_true_eq] at hv hf
    obtain ⟨hq, hlk, hty, hfin⟩ := hv
    obtain ⟨hfit, hqf⟩ := hf
    obtain ⟨c1, c2, c3⟩ := xa_ckC_in hC hcl
    have hnf := xa_fits (b := b) (base := base) (c2 q hq) hty hfit
    have key : ∀ (H1 : Heap) (locs1 : List Loc), va_P D cl ((xa_W cs b base h).set j (base + j, .inr (r, (fs.map (xa_rv b base)).set q (xa_rv b base v)))) H1 → va_D (xa_A base) ((xa_W cs b base h).set j (base + j, .inr (r, (fs.map (xa_rv b base)).set q (xa_rv b base v)))) → va_S (xa_A base) H H1 locs1 → W p l e R s m args below meth c H1 locs1 cells slots Q (F0 m (pc + 3) ls (st.map (xa_rv b base))) := fun H1 locs1 hP1 _ hS1 => kk _ ls H1 locs1 hp hl (hM.set (by rw [show xa_re cs b base (.inr (r, fs.set q v)) = .inr (r, (fs.map (xa_rv b base)).set q (xa_rv b base v)) by simp [xa_re, List.map_set]]; exact hP1) hS1.1) (xa_S.two hS hS1)
    cases hfl : (T q).2.2.2 with
    | false => exact va_put hx hb hts c1 _ c2 c3 hown hK hM.2 hD (xa_S.now hS) j (xa_W_at hj) hcl q hq (htk _ hlk) (fun _ hh => hh) hfl (c2 q hq) hnf.1 hnf.2 (by rw [List.length_map]; exact hqf) hd key
    | true =>
      rw [hfl] at hfin
      simp only [Bool.not_true, Bool.false_or, Bool.and_eq_true, decide_eq_true_eq] at hfin
      exact va_putF hx hb hts c1 _ c2 c3 hown hK hM.2 hD (xa_S.now hS) j (xa_W_at hj) hcl q hq (htk _ hlk) (fun _ hh => hh) hfl (hnm.trans hfin.1) hfin.2 (c2 q hq) hnf.1 hnf.2 (by rw [List.length_map]; exact hqf) hd key
  · cases hv
set_option maxHeartbeats 1000000 in
theorem xs_arraylength {len nip r q : Nat} {ts : List Nat} {lv lv' : List (Nat × Value)} {st st' : List Value} {h h' : List va_E} {ip' k z : Nat} (hC : xa_ckC cl Ts = true)
    (F : xa_Fr D cl Ts cs b base L xs M p s m args meth c) {Tk : List Jvm.Cond} (hsub : ∀ w ∈ Tk, w ∈ Ts) (hck : xa_ck cl Tk M pc .arraylength len nip r q ts = true) (hn : xa_nx L xs .arraylength nip r q ts lv st h = some (ip', lv', st', h', k, z))
    (hl : lv_has ls (xa_mL M) (xa_lv b base lv)) (hM : xa_Mt D cl cs b base h H) (hS : va_S (xa_A base) s.heap H locs) (hcs : s.heap.size + cells ≤ base + h.length) (hc : cells + k ≤ R.cells) (hz : slots + z ≤ R.slots) (hro : xa_kind .arraylength r q = 4 → 1 ≤ R.frames ∧ 30 ≤ R.locals)
    (kk : ∀ (pc' : Nat) (ls' : Array Slot) (H' : Heap) (locs' : List Loc), xa_pc M ip' = pc' → lv_has ls' (xa_mL M) (xa_lv b base lv') → xa_Mt D cl cs b base h' H' → va_S (xa_A base) s.heap H' locs' →
      W p l e R s m args below meth c H' locs' (cells + k) (slots + z) Q (F0 m pc' ls' (st'.map (xa_rv b base)))) :
    W p l e R s m args below meth c H locs cells slots Q (F0 m pc ls (st.map (xa_rv b base))) := by
  obtain ⟨hx, hb, hml, hown, hts, hK, hX, hbb, hbs, hlk, hrt, hnm, hxt⟩ := F
  have htk : ∀ w ∈ Tk, w.before args s = true := fun w hw => hts w (hsub w hw)
  have hD := xa_W_D cs b base h
  have hA : ∀ q, s.heap.size ≤ q → xa_A base q := fun q hq => Nat.le_trans hbs hq
  have hbA : ¬ xa_A base b := Nat.not_le.mpr hbb
  have hbl : b < s.heap.size := Nat.lt_of_lt_of_le hbb hbs
  unfold xa_ck at hck
  rw [Bool.and_eq_true, decide_eq_true_eq] at hck
  obtain ⟨hd, hck⟩ := hck
  simp only [Bool.and_eq_true, decide_eq_true_eq] at hck
  obtain ⟨rfl, hp⟩ := hck
  obtain ⟨a, st, rfl, hn1⟩ := xa_pr_some hn
  rcases xa_ln_some hn1 with ⟨rfl, hn⟩ | ⟨j, t, n, y, rfl, hj, hn⟩
  · obtain ⟨rfl, rfl, rfl, rfl, rfl, rfl⟩ := xa_go_some hn
    refine va_slen hx hb hX hbl hbA hS hd ?_
    exact kk _ ls H locs hp hl hM hS
  · obtain ⟨rfl, rfl, rfl, rfl, rfl, rfl⟩ := xa_go_some hn
    obtain ⟨t0, ty, ht0⟩ := xa_tys_at cs t
    refine va_alen hx hb hK hM.2 j t0 (xa_W_at hj) ht0 rfl hd ?_
    exact kk _ ls H locs hp hl hM hS
set_option maxHeartbeats 1000000 in
theorem xs_iaload {len nip r q : Nat} {ts : List Nat} {lv lv' : List (Nat × Value)} {st st' : List Value} {h h' : List va_E} {ip' k z : Nat} (hC : xa_ckC cl Ts = true)
    (F : xa_Fr D cl Ts cs b base L xs M p s m args meth c) {Tk : List Jvm.Cond} (hsub : ∀ w ∈ Tk, w ∈ Ts) (hck : xa_ck cl Tk M pc .iaload len nip r q ts = true) (hn : xa_nx L xs .iaload nip r q ts lv st h = some (ip', lv', st', h', k, z))
    (hl : lv_has ls (xa_mL M) (xa_lv b base lv)) (hM : xa_Mt D cl cs b base h H) (hS : va_S (xa_A base) s.heap H locs) (hcs : s.heap.size + cells ≤ base + h.length) (hc : cells + k ≤ R.cells) (hz : slots + z ≤ R.slots) (hro : xa_kind .iaload r q = 4 → 1 ≤ R.frames ∧ 30 ≤ R.locals)
    (kk : ∀ (pc' : Nat) (ls' : Array Slot) (H' : Heap) (locs' : List Loc), xa_pc M ip' = pc' → lv_has ls' (xa_mL M) (xa_lv b base lv') → xa_Mt D cl cs b base h' H' → va_S (xa_A base) s.heap H' locs' →
      W p l e R s m args below meth c H' locs' (cells + k) (slots + z) Q (F0 m pc' ls' (st'.map (xa_rv b base)))) :
    W p l e R s m args below meth c H locs cells slots Q (F0 m pc ls (st.map (xa_rv b base))) := by
  obtain ⟨hx, hb, hml, hown, hts, hK, hX, hbb, hbs, hlk, hrt, hnm, hxt⟩ := F
  have htk : ∀ w ∈ Tk, w.before args s = true := fun w hw => hts w (hsub w hw)
  have hD := xa_W_D cs b base h
  have hA : ∀ q, s.heap.size ≤ q → xa_A base q := fun q hq => Nat.le_trans hbs hq
  have hbA : ¬ xa_A base b := Nat.not_le.mpr hbb
  have hbl : b < s.heap.size := Nat.lt_of_lt_of_le hbb hbs
  unfold xa_ck at hck
  rw [Bool.and_eq_true, decide_eq_true_eq] at hck
  obtain ⟨hd, hck⟩ := hck
  simp only [Bool.and_eq_true, decide_eq_true_eq] at hck
  obtain ⟨rfl, hp⟩ := hck
  obtain ⟨i, st, rfl, hn1⟩ := xa_pi_some hn
  obtain ⟨a, st, rfl, hn2⟩ := xa_pr_some hn1
  rcases xa_is_some hn2 with ⟨rfl, hn⟩ | ⟨j, n, f, rfl, hj, hn⟩
  · obtain ⟨hi, hn⟩ := xa_if_some hn
    obtain ⟨rfl, rfl, rfl, rfl, rfl, rfl⟩ := xa_go_some hn
    refine va_sld hx hb hX hbl hbA hS (xa_inB_vp hi) hd ?_
    exact kk _ ls H locs hp hl hM hS
  · obtain ⟨hi, hn⟩ := xa_if_some hn
    obtain ⟨rfl, rfl, rfl, rfl, rfl, rfl⟩ := xa_go_some hn
    refine va_iald hx hb hK hM.2 j 0 (xa_W_at hj) rfl (xa_inB_vp hi) hd ?_
    exact kk _ ls H locs hp hl hM hS
set_option maxHeartbeats 1000000 in
theorem xs_baload {len nip r q : Nat} {ts : List Nat} {lv lv' : List (Nat × Value)} {st st' : List Value} {h h' : List va_E} {ip' k z : Nat} (hC : xa_ckC cl Ts = true)
    (F : xa_Fr D cl Ts cs b base L xs M p s m args meth c) {Tk : List Jvm.Cond} (hsub : ∀ w ∈ Tk, w ∈ Ts) (hck : xa_ck cl Tk M pc .baload len nip r q ts = true) (hn : xa_nx L xs .baload nip r q ts lv st h = some (ip', lv', st', h', k, z))
    (hl : lv_has ls (xa_mL M) (xa_lv b base lv)) (hM : xa_Mt D cl cs b base h H) (hS : va_S (xa_A base) s.heap H locs) (hcs : s.heap.size + cells ≤ base + h.length) (hc : cells + k ≤ R.cells) (hz : slots + z ≤ R.slots) (hro : xa_kind .baload r q = 4 → 1 ≤ R.frames ∧ 30 ≤ R.locals)
    (kk : ∀ (pc' : Nat) (ls' : Array Slot) (H' : Heap) (locs' : List Loc), xa_pc M ip' = pc' → lv_has ls' (xa_mL M) (xa_lv b base lv') → xa_Mt D cl cs b base h' H' → va_S (xa_A base) s.heap H' locs' →
      W p l e R s m args below meth c H' locs' (cells + k) (slots + z) Q (F0 m pc' ls' (st'.map (xa_rv b base)))) :
    W p l e R s m args below meth c H locs cells slots Q (F0 m pc ls (st.map (xa_rv b base))) := by
  obtain ⟨hx, hb, hml, hown, hts, hK, hX, hbb, hbs, hlk, hrt, hnm, hxt⟩ := F
  have htk : ∀ w ∈ Tk, w.before args s = true := fun w hw => hts w (hsub w hw)
  have hD := xa_W_D cs b base h
  have hA : ∀ q, s.heap.size ≤ q → xa_A base q := fun q hq => Nat.le_trans hbs hq
  have hbA : ¬ xa_A base b := Nat.not_le.mpr hbb
  have hbl : b < s.heap.size := Nat.lt_of_lt_of_le hbb hbs
  unfold xa_ck at hck
  rw [Bool.and_eq_true, decide_eq_true_eq] at hck
  obtain ⟨hd, hck⟩ := hck
  simp only [Bool.and_eq_true, decide_eq_true_eq] at hck
  obtain ⟨rfl, hp⟩ := hck
  obtain ⟨i, st, rfl, hn⟩ := xa_pi_some hn
  obtain ⟨a, st, rfl, hn⟩ := xa_pr_some hn
  obtain ⟨j, n, f, rfl, hj, hn⟩ := xa_ai_some hn
  obtain ⟨hi, hn⟩ := xa_if_some hn
  obtain ⟨rfl, rfl, rfl, rfl, rfl, rfl⟩ := xa_go_some hn
  refine va_zald hx hb hK hM.2 j 1 (xa_W_at hj) rfl (xa_inB_vp hi) hd ?_
  exact kk _ ls H locs hp hl hM hS
set_option maxHeartbeats 1000000 in
theorem xs_laload {len nip r q : Nat} {ts : List Nat} {lv lv' : List (Nat × Value)} {st st' : List Value} {h h' : List va_E} {ip' k z : Nat} (hC : xa_ckC cl Ts = true)
    (F : xa_Fr D cl Ts cs b base L xs M p s m args meth c) {Tk : List Jvm.Cond} (hsub : ∀ w ∈ Tk, w ∈ Ts) (hck : xa_ck cl Tk M pc .laload len nip r q ts = true) (hn : xa_nx L xs .laload nip r q ts lv st h = some (ip', lv', st', h', k, z))
    (hl : lv_has ls (xa_mL M) (xa_lv b base lv)) (hM : xa_Mt D cl cs b base h H) (hS : va_S (xa_A base) s.heap H locs) (hcs : s.heap.size + cells ≤ base + h.length) (hc : cells + k ≤ R.cells) (hz : slots + z ≤ R.slots) (hro : xa_kind .laload r q = 4 → 1 ≤ R.frames ∧ 30 ≤ R.locals)
    (kk : ∀ (pc' : Nat) (ls' : Array Slot) (H' : Heap) (locs' : List Loc), xa_pc M ip' = pc' → lv_has ls' (xa_mL M) (xa_lv b base lv') → xa_Mt D cl cs b base h' H' → va_S (xa_A base) s.heap H' locs' →
      W p l e R s m args below meth c H' locs' (cells + k) (slots + z) Q (F0 m pc' ls' (st'.map (xa_rv b base)))) :
    W p l e R s m args below meth c H locs cells slots Q (F0 m pc ls (st.map (xa_rv b base))) := by
  obtain ⟨hx, hb, hml, hown, hts, hK, hX, hbb, hbs, hlk, hrt, hnm, hxt⟩ := F
  have htk : ∀ w ∈ Tk, w.before args s = true := fun w hw => hts w (hsub w hw)
  have hD := xa_W_D cs b base h
  have hA : ∀ q, s.heap.size ≤ q → xa_A base q := fun q hq => Nat.le_trans hbs hq
  have hbA : ¬ xa_A base b := Nat.not_le.mpr hbb
  have hbl : b < s.heap.size := Nat.lt_of_lt_of_le hbb hbs
  unfold xa_ck at hck
  rw [Bool.and_eq_true, decide_eq_true_eq] at hck
  obtain ⟨hd, hck⟩ := hck
  simp only [Bool.and_eq_true, decide_eq_true_eq] at hck
  obtain ⟨rfl, hp⟩ := hck
  obtain ⟨i, st, rfl, hn⟩ := xa_pi_some hn
  obtain ⟨a, st, rfl, hn⟩ := xa_pr_some hn
  obtain ⟨j, n, f, rfl, hj, hn⟩ := xa_al_some hn
  obtain ⟨hi, hn⟩ := xa_if_some hn
  obtain ⟨rfl, rfl, rfl, rfl, rfl, rfl⟩ := xa_go_some hn
  refine va_lald hx hb hK hM.2 j 2 (xa_W_at hj) rfl (xa_inB_vp hi) hd ?_
  exact kk _ ls H locs hp hl hM hS
set_option maxHeartbeats 1000000 in
theorem xs_iastore {len nip r q : Nat} {ts : List Nat} {lv lv' : List (Nat × Value)} {st st' : List Value} {h h' : List va_E} {ip' k z : Nat} (hC : xa_ckC cl Ts = true)
    (F : xa_Fr D cl Ts cs b base L xs M p s m args meth c) {Tk : List Jvm.Cond} (hsub : ∀ w ∈ Tk, w ∈ Ts) (hck : xa_ck cl Tk M pc .iastore len nip r q ts = true) (hn : xa_nx L xs .iastore nip r q ts lv st h = some (ip', lv', st', h', k, z))
    (hl : lv_has ls (xa_mL M) (xa_lv b base lv)) (hM : xa_Mt D cl cs b base h H) (hS : va_S (xa_A base) s.heap H locs) (hcs : s.heap.size + cells ≤ base + h.length) (hc : cells + k ≤ R.cells) (hz : slots + z ≤ R.slots) (hro : xa_kind .iastore r q = 4 → 1 ≤ R.frames ∧ 30 ≤ R.locals)
    (kk : ∀ (pc' : Nat) (ls' : Array Slot) (H' : Heap) (locs' : List Loc), xa_pc M ip' = pc' → lv_has ls' (xa_mL M) (xa_lv b base lv') → xa_Mt D cl cs b base h' H' → va_S (xa_A base) s.heap H' locs' →
      W p l e R s m args below meth c H' locs' (cells + k) (slots + z) Q (F0 m pc' ls' (st'.map (xa_rv b base)))) :
    W p l e R s m args below meth c H locs cells slots Q (F0 m pc ls (st.map (xa_rv b base))) := by
  obtain ⟨hx, hb, hml, hown, hts, hK, hX, hbb, hbs, hlk, hrt, hnm, hxt⟩ := F
  have htk : ∀ w ∈ Tk, w.before args s = true := fun w hw => hts w (hsub w hw)
  have hD := xa_W_D cs b base h
  have hA : ∀ q, s.heap.size ≤ q → xa_A base q := fun q hq => Nat.le_trans hbs hq
  have hbA : ¬ xa_A base b := Nat.not_le.mpr hbb
  have hbl : b < s.heap.size := Nat.lt_of_lt_of_le hbb hbs
  unfold xa_ck at hck
  rw [Bool.and_eq_true, decide_eq_true_eq] at hck
  obtain ⟨hd, hck⟩ := hck
  simp only [Bool.and_eq_true, decide_eq_true_eq] at hck
  obtain ⟨rfl, hp⟩ := hck
  obtain ⟨x, st, rfl, hn⟩ := xa_pi_some hn
  obtain ⟨i, st, rfl, hn⟩ := xa_pi_some hn
  obtain ⟨a, st, rfl, hn⟩ := xa_pr_some hn
  obtain ⟨j, n, f, rfl, hj, hn⟩ := xa_ai_some hn
  obtain ⟨hi, hn⟩ := xa_if_some hn
  obtain ⟨rfl, rfl, rfl, rfl, rfl, rfl⟩ := xa_go_some hn
  refine va_iast hx hb hK hM.2 hD (xa_S.now hS) j 0 (xa_W_at hj) rfl (xa_inB_vp hi) hd (fun H1 locs1 hP1 _ hS1 => ?_)
  exact kk _ ls H1 locs1 hp hl (hM.set hP1 hS1.1) (xa_S.two hS hS1)
set_option maxHeartbeats 1000000 in
theorem xs_bastore {len nip r q : Nat} {ts : List Nat} {lv lv' : List (Nat × Value)} {st st' : List Value} {h h' : List va_E} {ip' k z : Nat} (hC : xa_ckC cl Ts = true)
    (F : xa_Fr D cl Ts cs b base L xs M p s m args meth c) {Tk : List Jvm.Cond} (hsub : ∀ w ∈ Tk, w ∈ Ts) (hck : xa_ck cl Tk M pc .bastore len nip r q ts = true) (hn : xa_nx L xs .bastore nip r q ts lv st h = some (ip', lv', st', h', k, z))
    (hl : lv_has ls (xa_mL M) (xa_lv b base lv)) (hM : xa_Mt D cl cs b base h H) (hS : va_S (xa_A base) s.heap H locs) (hcs : s.heap.size + cells ≤ base + h.length) (hc : cells + k ≤ R.cells) (hz : slots + z ≤ R.slots) (hro : xa_kind .bastore r q = 4 → 1 ≤ R.frames ∧ 30 ≤ R.locals)
    (kk : ∀ (pc' : Nat) (ls' : Array Slot) (H' : Heap) (locs' : List Loc), xa_pc M ip' = pc' → lv_has ls' (xa_mL M) (xa_lv b base lv') → xa_Mt D cl cs b base h' H' → va_S (xa_A base) s.heap H' locs' →
      W p l e R s m args below meth c H' locs' (cells + k) (slots + z) Q (F0 m pc' ls' (st'.map (xa_rv b base)))) :
    W p l e R s m args below meth c H locs cells slots Q (F0 m pc ls (st.map (xa_rv b base))) := by
  obtain ⟨hx, hb, hml, hown, hts, hK, hX, hbb, hbs, hlk, hrt, hnm, hxt⟩ := F
  have htk : ∀ w ∈ Tk, w.before args s = true := fun w hw => hts w (hsub w hw)
  have hD := xa_W_D cs b base h
  have hA : ∀ q, s.heap.size ≤ q → xa_A base q := fun q hq => Nat.le_trans hbs hq
  have hbA : ¬ xa_A base b := Nat.not_le.mpr hbb
  have hbl : b < s.heap.size := Nat.lt_of_lt_of_le hbb hbs
  unfold xa_ck at hck
  rw [Bool.and_eq_true, decide_eq_true_eq] at hck
  obtain ⟨hd, hck⟩ := hck
  simp only [Bool.and_eq_true, decide_eq_true_eq] at hck
  obtain ⟨rfl, hp⟩ := hck
  obtain ⟨x, st, rfl, hn⟩ := xa_pi_some hn
  obtain ⟨i, st, rfl, hn⟩ := xa_pi_some hn
  obtain ⟨a, st, rfl, hn⟩ := xa_pr_some hn
  obtain ⟨j, n, f, rfl, hj, hn⟩ := xa_ai_some hn
  obtain ⟨hi, hn⟩ := xa_if_some hn
  obtain ⟨rfl, rfl, rfl, rfl, rfl, rfl⟩ := xa_go_some hn
  refine va_zast hx hb hK hM.2 hD (xa_S.now hS) j 1 (xa_W_at hj) rfl (xa_inB_vp hi) hd (fun H1 locs1 hP1 _ hS1 => ?_)
  exact kk _ ls H1 locs1 hp hl (hM.set hP1 hS1.1) (xa_S.two hS hS1)
set_option maxHeartbeats 1000000 in
theorem xs_lastore {len nip r q : Nat} {ts : List Nat} {lv lv' : List (Nat × Value)} {st st' : List Value} {h h' : List va_E} {ip' k z : Nat} (hC : xa_ckC cl Ts = true)
    (F : xa_Fr D cl Ts cs b base L xs M p s m args meth c) {Tk : List Jvm.Cond} (hsub : ∀ w ∈ Tk, w ∈ Ts) (hck : xa_ck cl Tk M pc .lastore len nip r q ts = true) (hn : xa_nx L xs .lastore nip r q ts lv st h = some (ip', lv', st', h', k, z))
    (hl : lv_has ls (xa_mL M) (xa_lv b base lv)) (hM : xa_Mt D cl cs b base h H) (hS : va_S (xa_A base) s.heap H locs) (hcs : s.heap.size + cells ≤ base + h.length) (hc : cells + k ≤ R.cells) (hz : slots + z ≤ R.slots) (hro : xa_kind .lastore r q = 4 → 1 ≤ R.frames ∧ 30 ≤ R.locals)
    (kk : ∀ (pc' : Nat) (ls' : Array Slot) (H' : Heap) (locs' : List Loc), xa_pc M ip' = pc' → lv_has ls' (xa_mL M) (xa_lv b base lv') → xa_Mt D cl cs b base h' H' → va_S (xa_A base) s.heap H' locs' →
      W p l e R s m args below meth c H' locs' (cells + k) (slots + z) Q (F0 m pc' ls' (st'.map (xa_rv b base)))) :
    W p l e R s m args below meth c H locs cells slots Q (F0 m pc ls (st.map (xa_rv b base))) := by
  obtain ⟨hx, hb, hml, hown, hts, hK, hX, hbb, hbs, hlk, hrt, hnm, hxt⟩ := F
  have htk : ∀ w ∈ Tk, w.before args s = true := fun w hw => hts w (hsub w hw)
  have hD := xa_W_D cs b base h
  have hA : ∀ q, s.heap.size ≤ q → xa_A base q := fun q hq => Nat.le_trans hbs hq
  have hbA : ¬ xa_A base b := Nat.not_le.mpr hbb
  have hbl : b < s.heap.size := Nat.lt_of_lt_of_le hbb hbs
  unfold xa_ck at hck
  rw [Bool.and_eq_true, decide_eq_true_eq] at hck
  obtain ⟨hd, hck⟩ := hck
  simp only [Bool.and_eq_true, decide_eq_true_eq] at hck
  obtain ⟨rfl, hp⟩ := hck
  obtain ⟨x, st, rfl, hn⟩ := xa_pl_some hn
  obtain ⟨i, st, rfl, hn⟩ := xa_pi_some hn
  obtain ⟨a, st, rfl, hn⟩ := xa_pr_some hn
  obtain ⟨j, n, f, rfl, hj, hn⟩ := xa_al_some hn
  obtain ⟨hi, hn⟩ := xa_if_some hn
  obtain ⟨rfl, rfl, rfl, rfl, rfl, rfl⟩ := xa_go_some hn
  refine va_last hx hb hK hM.2 hD (xa_S.now hS) j 2 (xa_W_at hj) rfl (xa_inB_vp hi) hd (fun H1 locs1 hP1 _ hS1 => ?_)
  exact kk _ ls H1 locs1 hp hl (hM.set hP1 hS1.1) (xa_S.two hS hS1)
set_option maxHeartbeats 1000000 in
theorem xs_tableswitch {df : Int} {lo : Int} {hi : Int} {offs : Array Int} {len nip r q : Nat} {ts : List Nat} {lv lv' : List (Nat × Value)} {st st' : List Value} {h h' : List va_E} {ip' k z : Nat} (hC : xa_ckC cl Ts = true)
    (F : xa_Fr D cl Ts cs b base L xs M p s m args meth c) {Tk : List Jvm.Cond} (hsub : ∀ w ∈ Tk, w ∈ Ts) (hck : xa_ck cl Tk M pc (.tableswitch df lo hi offs) len nip r q ts = true) (hn : xa_nx L xs (.tableswitch df lo hi offs) nip r q ts lv st h = some (ip', lv', st', h', k, z))
    (hl : lv_has ls (xa_mL M) (xa_lv b base lv)) (hM : xa_Mt D cl cs b base h H) (hS : va_S (xa_A base) s.heap H locs) (hcs : s.heap.size + cells ≤ base + h.length) (hc : cells + k ≤ R.cells) (hz : slots + z ≤ R.slots) (hro : xa_kind (.tableswitch df lo hi offs) r q = 4 → 1 ≤ R.frames ∧ 30 ≤ R.locals)
    (kk : ∀ (pc' : Nat) (ls' : Array Slot) (H' : Heap) (locs' : List Loc), xa_pc M ip' = pc' → lv_has ls' (xa_mL M) (xa_lv b base lv') → xa_Mt D cl cs b base h' H' → va_S (xa_A base) s.heap H' locs' →
      W p l e R s m args below meth c H' locs' (cells + k) (slots + z) Q (F0 m pc' ls' (st'.map (xa_rv b base)))) :
    W p l e R s m args below meth c H locs cells slots Q (F0 m pc ls (st.map (xa_rv b base))) := by
  obtain ⟨hx, hb, hml, hown, hts, hK, hX, hbb, hbs, hlk, hrt, hnm, hxt⟩ := F
  have htk : ∀ w ∈ Tk, w.before args s = true := fun w hw => hts w (hsub w hw)
  have hD := xa_W_D cs b base h
  have hA : ∀ q, s.heap.size ≤ q → xa_A base q := fun q hq => Nat.le_trans hbs hq
  have hbA : ¬ xa_A base b := Nat.not_le.mpr hbb
  have hbl : b < s.heap.size := Nat.lt_of_lt_of_le hbb hbs
  unfold xa_ck at hck
  rw [Bool.and_eq_true, decide_eq_true_eq] at hck
  obtain ⟨hd, hck⟩ := hck
  simp only [Bool.and_eq_true, decide_eq_true_eq] at hck
  obtain ⟨rfl, rfl, hq, hrq, hdf, hall⟩ := hck
  obtain ⟨x, st, rfl, hn⟩ := xa_pi_some hn
  obtain ⟨rfl, rfl, rfl, rfl, rfl, rfl⟩ := xa_go_some hn
  by_cases hin : x < xa_con r 0 ∨ xa_con q 0 < x
  · refine lv_tableOut hx hb hd (xa_sw_out (by omega) (by omega) hin) hdf ?_
    refine kk _ ls H locs ?_ hl hM hS
    rw [show (decide (x < xa_con r 0) || decide (xa_con q 0 < x)) = true by simpa using hin]; rfl
  · obtain ⟨g1, g2, g3, g4⟩ := xa_sw_in (r := r) (q := q) (x := x) (by omega) (by omega) hin
    have h1 := List.all_eq_true.mp hall _ (List.mem_range.mpr g4)
    split at h1
    · rename_i off hoff
      refine lv_tableIn hx hb hd g1 g2 (by rw [g3]; exact hoff) (of_decide_eq_true h1) ?_
      refine kk _ ls H locs ?_ hl hM hS
      rw [show (decide (x < xa_con r 0) || decide (xa_con q 0 < x)) = false by simpa using hin]; rfl
    · cases h1
set_option maxHeartbeats 1000000 in
theorem xs_new {x : Nat} {len nip r q : Nat} {ts : List Nat} {lv lv' : List (Nat × Value)} {st st' : List Value} {h h' : List va_E} {ip' k z : Nat} (hC : xa_ckC cl Ts = true)
    (F : xa_Fr D cl Ts cs b base L xs M p s m args meth c) {Tk : List Jvm.Cond} (hsub : ∀ w ∈ Tk, w ∈ Ts) (hck : xa_ck cl Tk M pc (.new x) len nip r q ts = true) (hn : xa_nx L xs (.new x) nip r q ts lv st h = some (ip', lv', st', h', k, z))
    (hl : lv_has ls (xa_mL M) (xa_lv b base lv)) (hM : xa_Mt D cl cs b base h H) (hS : va_S (xa_A base) s.heap H locs) (hcs : s.heap.size + cells ≤ base + h.length) (hc : cells + k ≤ R.cells) (hz : slots + z ≤ R.slots) (hro : xa_kind (.new x) r q = 4 → 1 ≤ R.frames ∧ 30 ≤ R.locals)
    (kk : ∀ (pc' : Nat) (ls' : Array Slot) (H' : Heap) (locs' : List Loc), xa_pc M ip' = pc' → lv_has ls' (xa_mL M) (xa_lv b base lv') → xa_Mt D cl cs b base h' H' → va_S (xa_A base) s.heap H' locs' →
      W p l e R s m args below meth c H' locs' (cells + k) (slots + z) Q (F0 m pc' ls' (st'.map (xa_rv b base)))) :
    W p l e R s m args below meth c H locs cells slots Q (F0 m pc ls (st.map (xa_rv b base))) := by
  obtain ⟨hx, hb, hml, hown, hts, hK, hX, hbb, hbs, hlk, hrt, hnm, hxt⟩ := F
  have htk : ∀ w ∈ Tk, w.before args s = true := fun w hw => hts w (hsub w hw)
  have hD := xa_W_D cs b base h
  have hA : ∀ q, s.heap.size ≤ q → xa_A base q := fun q hq => Nat.le_trans hbs hq
  have hbA : ¬ xa_A base b := Nat.not_le.mpr hbb
  have hbl : b < s.heap.size := Nat.lt_of_lt_of_le hbb hbs
  unfold xa_ck at hck
  rw [Bool.and_eq_true, decide_eq_true_eq] at hck
  obtain ⟨hd, hck⟩ := hck
  rw [Bool.and_eq_true, Bool.and_eq_true, decide_eq_true_eq, decide_eq_true_eq] at hck
  obtain ⟨rfl, hp, hv⟩ := hck
  cases hn
  split at hv
  · rename_i C T N hcl
    simp only [Bool.and_eq_true, decide_eq_true_eq] at hv
    obtain ⟨rfl, v1, v2, v3, v4⟩ := hv
    obtain ⟨c1, c2, c3⟩ := xa_ckC_in hC hcl
    have hKn := hK.1 r _ hcl
    have K : H.size = base + h.length → W p l e R s m args below meth c H locs cells slots Q (F0 m pc ls (st.map (xa_rv b base))) := by
      intro hsz
      refine W.newcK (g := F0 m pc ls (st.map (xa_rv b base))) hx hb hown (htk _ v1) (htk _ v2) (htk _ v3) rfl hd hc hz hKn.2.1 hsz (fun H1 kC hkC e1 z1 o1 => ?_)
      refine kk (pc + 3) ls H1 locs hp hl (hM.push z1 (fun q hq => o1 q (by omega)) ⟨_, hcl, (u_born _ hts c1 hKn hkC e1 c2).to (fun k hk => ?_)⟩) (xa_S.push hS (by omega) (fun q hq => o1 q (by omega)))
      have h1 := List.all_eq_true.mp v4 k (List.mem_range.mpr hk)
      simp only [Bool.and_eq_true, decide_eq_true_eq] at h1
      exact xa_dflt_ok (c2 k hk) h1.1 h1.2 hk
    exact fun TT hT X => K (by have h1 := X.heapSize; rw [hT] at h1; have h2 := hM.1; omega) TT hT X
  · cases hv
set_option maxHeartbeats 1000000 in
theorem xs_newarray {t : Jvm.ClassFile.ArrayType} {len nip r q : Nat} {ts : List Nat} {lv lv' : List (Nat × Value)} {st st' : List Value} {h h' : List va_E} {ip' k z : Nat} (hC : xa_ckC cl Ts = true)
    (F : xa_Fr D cl Ts cs b base L xs M p s m args meth c) {Tk : List Jvm.Cond} (hsub : ∀ w ∈ Tk, w ∈ Ts) (hck : xa_ck cl Tk M pc (.newarray t) len nip r q ts = true) (hn : xa_nx L xs (.newarray t) nip r q ts lv st h = some (ip', lv', st', h', k, z))
    (hl : lv_has ls (xa_mL M) (xa_lv b base lv)) (hM : xa_Mt D cl cs b base h H) (hS : va_S (xa_A base) s.heap H locs) (hcs : s.heap.size + cells ≤ base + h.length) (hc : cells + k ≤ R.cells) (hz : slots + z ≤ R.slots) (hro : xa_kind (.newarray t) r q = 4 → 1 ≤ R.frames ∧ 30 ≤ R.locals)
    (kk : ∀ (pc' : Nat) (ls' : Array Slot) (H' : Heap) (locs' : List Loc), xa_pc M ip' = pc' → lv_has ls' (xa_mL M) (xa_lv b base lv') → xa_Mt D cl cs b base h' H' → va_S (xa_A base) s.heap H' locs' →
      W p l e R s m args below meth c H' locs' (cells + k) (slots + z) Q (F0 m pc' ls' (st'.map (xa_rv b base)))) :
    W p l e R s m args below meth c H locs cells slots Q (F0 m pc ls (st.map (xa_rv b base))) := by
  obtain ⟨hx, hb, hml, hown, hts, hK, hX, hbb, hbs, hlk, hrt, hnm, hxt⟩ := F
  have htk : ∀ w ∈ Tk, w.before args s = true := fun w hw => hts w (hsub w hw)
  have hD := xa_W_D cs b base h
  have hA : ∀ q, s.heap.size ≤ q → xa_A base q := fun q hq => Nat.le_trans hbs hq
  have hbA : ¬ xa_A base b := Nat.not_le.mpr hbb
  have hbl : b < s.heap.size := Nat.lt_of_lt_of_le hbb hbs
  unfold xa_ck at hck
  rw [Bool.and_eq_true, decide_eq_true_eq] at hck
  obtain ⟨hd, hck⟩ := hck
  simp only [Bool.and_eq_true, decide_eq_true_eq] at hck
  obtain ⟨rfl, hp, hta, hr3, hw⟩ := hck
  obtain ⟨n, st, rfl, hn⟩ := xa_pi_some hn
  obtain ⟨hi, hn⟩ := xa_if_some hn
  simp only [Bool.and_eq_true, Bool.not_eq_true', decide_eq_false_iff_not, decide_eq_true_eq] at hi
  cases hn
  have K : H.size = base + h.length → W p l e R s m args below meth c H locs cells slots Q (F0 m pc ls ((.int n :: st).map (xa_rv b base))) := by
    intro hsz
    cases t
    case int =>
      subst hta
      refine va_newaK (g := F0 m pc ls (.int n :: st.map (xa_rv b base))) hx hb (htk _ hw) rfl hd rfl hi.1 rfl (by show _ * 4 ≤ _; omega) hc hz hsz (fun H1 cA e1 z1 o1 _ hNm => ?_)
      have hcA : cA = cs.1 := Option.some.inj (hNm.symm.trans (hK.2 0 _ rfl).2)
      subst hcA
      exact kk (pc + 2) ls H1 locs hp hl (hM.push z1 (fun q hq => o1 q (by omega)) e1) (xa_S.push hS (by omega) (fun q hq => o1 q (by omega)))
    case boolean =>
      subst hta
      refine va_newaK (g := F0 m pc ls (.int n :: st.map (xa_rv b base))) hx hb (htk _ hw) rfl hd rfl hi.1 rfl (by show _ * 1 ≤ _; omega) hc hz hsz (fun H1 cA e1 z1 o1 _ hNm => ?_)
      have hcA : cA = cs.2.1 := Option.some.inj (hNm.symm.trans (hK.2 1 _ rfl).2)
      subst hcA
      exact kk (pc + 2) ls H1 locs hp hl (hM.push z1 (fun q hq => o1 q (by omega)) e1) (xa_S.push hS (by omega) (fun q hq => o1 q (by omega)))
    case long =>
      subst hta
      refine va_newaK (g := F0 m pc ls (.int n :: st.map (xa_rv b base))) hx hb (htk _ hw) rfl hd rfl hi.1 rfl (by show _ * 8 ≤ _; omega) hc hz hsz (fun H1 cA e1 z1 o1 _ hNm => ?_)
      have hcA : cA = cs.2.2 := Option.some.inj (hNm.symm.trans (hK.2 2 _ rfl).2)
      subst hcA
      exact kk (pc + 2) ls H1 locs hp hl (hM.push z1 (fun q hq => o1 q (by omega)) e1) (xa_S.push hS (by omega) (fun q hq => o1 q (by omega)))
    all_goals (exfalso; simp only [xa_ta] at hta; omega)
  exact fun TT hT X => K (by have h1 := X.heapSize; rw [hT] at h1; have h2 := hM.1; omega) TT hT X
set_option maxHeartbeats 1000000 in
theorem xs_invokespecial {x : Nat} {len nip r q : Nat} {ts : List Nat} {lv lv' : List (Nat × Value)} {st st' : List Value} {h h' : List va_E} {ip' k z : Nat} (hC : xa_ckC cl Ts = true)
    (F : xa_Fr D cl Ts cs b base L xs M p s m args meth c) {Tk : List Jvm.Cond} (hsub : ∀ w ∈ Tk, w ∈ Ts) (hck : xa_ck cl Tk M pc (.invokespecial x) len nip r q ts = true) (hn : xa_nx L xs (.invokespecial x) nip r q ts lv st h = some (ip', lv', st', h', k, z))
    (hl : lv_has ls (xa_mL M) (xa_lv b base lv)) (hM : xa_Mt D cl cs b base h H) (hS : va_S (xa_A base) s.heap H locs) (hcs : s.heap.size + cells ≤ base + h.length) (hc : cells + k ≤ R.cells) (hz : slots + z ≤ R.slots) (hro : xa_kind (.invokespecial x) r q = 4 → 1 ≤ R.frames ∧ 30 ≤ R.locals)
    (kk : ∀ (pc' : Nat) (ls' : Array Slot) (H' : Heap) (locs' : List Loc), xa_pc M ip' = pc' → lv_has ls' (xa_mL M) (xa_lv b base lv') → xa_Mt D cl cs b base h' H' → va_S (xa_A base) s.heap H' locs' →
      W p l e R s m args below meth c H' locs' (cells + k) (slots + z) Q (F0 m pc' ls' (st'.map (xa_rv b base)))) :
    W p l e R s m args below meth c H locs cells slots Q (F0 m pc ls (st.map (xa_rv b base))) := by
  obtain ⟨hx, hb, hml, hown, hts, hK, hX, hbb, hbs, hlk, hrt, hnm, hxt⟩ := F
  have htk : ∀ w ∈ Tk, w.before args s = true := fun w hw => hts w (hsub w hw)
  have hD := xa_W_D cs b base h
  have hA : ∀ q, s.heap.size ≤ q → xa_A base q := fun q hq => Nat.le_trans hbs hq
  have hbA : ¬ xa_A base b := Nat.not_le.mpr hbb
  have hbl : b < s.heap.size := Nat.lt_of_lt_of_le hbb hbs
  unfold xa_ck at hck
  rw [Bool.and_eq_true, decide_eq_true_eq] at hck
  obtain ⟨hd, hck⟩ := hck
  simp only [Bool.and_eq_true, decide_eq_true_eq] at hck
  obtain ⟨rfl, hp, rfl, v1, v2, v3⟩ := hck
  obtain ⟨a, st, rfl, hn⟩ := xa_pr_some hn
  obtain ⟨hi, hn⟩ := xa_if_some hn
  obtain ⟨rfl, rfl, rfl, rfl, rfl, rfl⟩ := xa_go_some hn
  have hcat := Nat.le_of_ble_eq_true hi
  obtain ⟨hfr, hlo⟩ := hro rfl
  cases a with
  | zero => exact W.objInit hx hb hown (htk _ v1) (htk _ v2) (htk _ v3) rfl (hl.1.trans hml.symm) rfl hd (by omega) (by rw [xa_cats_rv]; show 2 * 0 + _ + _ ≤ _; omega) (kk _ ls H locs hp hl hM hS)
  | succ a => exact W.objInit hx hb hown (htk _ v1) (htk _ v2) (htk _ v3) rfl (hl.1.trans hml.symm) rfl hd (by omega) (by rw [xa_cats_rv]; show 2 * 0 + _ + _ ≤ _; omega) (kk _ ls H locs hp hl hM hS)
set_option maxHeartbeats 1000000 in
theorem xs_invokestatic {x : Nat} {len nip r q : Nat} {ts : List Nat} {lv lv' : List (Nat × Value)} {st st' : List Value} {h h' : List va_E} {ip' k z : Nat} (hC : xa_ckC cl Ts = true)
    (F : xa_Fr D cl Ts cs b base L xs M p s m args meth c) {Tk : List Jvm.Cond} (hsub : ∀ w ∈ Tk, w ∈ Ts) (hck : xa_ck cl Tk M pc (.invokestatic x) len nip r q ts = true) (hn : xa_nx L xs (.invokestatic x) nip r q ts lv st h = some (ip', lv', st', h', k, z))
    (hl : lv_has ls (xa_mL M) (xa_lv b base lv)) (hM : xa_Mt D cl cs b base h H) (hS : va_S (xa_A base) s.heap H locs) (hcs : s.heap.size + cells ≤ base + h.length) (hc : cells + k ≤ R.cells) (hz : slots + z ≤ R.slots) (hro : xa_kind (.invokestatic x) r q = 4 → 1 ≤ R.frames ∧ 30 ≤ R.locals)
    (kk : ∀ (pc' : Nat) (ls' : Array Slot) (H' : Heap) (locs' : List Loc), xa_pc M ip' = pc' → lv_has ls' (xa_mL M) (xa_lv b base lv') → xa_Mt D cl cs b base h' H' → va_S (xa_A base) s.heap H' locs' →
      W p l e R s m args below meth c H' locs' (cells + k) (slots + z) Q (F0 m pc' ls' (st'.map (xa_rv b base)))) :
    W p l e R s m args below meth c H locs cells slots Q (F0 m pc ls (st.map (xa_rv b base))) := by
  obtain ⟨hx, hb, hml, hown, hts, hK, hX, hbb, hbs, hlk, hrt, hnm, hxt⟩ := F
  have htk : ∀ w ∈ Tk, w.before args s = true := fun w hw => hts w (hsub w hw)
  have hD := xa_W_D cs b base h
  have hA : ∀ q, s.heap.size ≤ q → xa_A base q := fun q hq => Nat.le_trans hbs hq
  have hbA : ¬ xa_A base b := Nat.not_le.mpr hbb
  have hbl : b < s.heap.size := Nat.lt_of_lt_of_le hbb hbs
  unfold xa_ck at hck
  rw [Bool.and_eq_true, decide_eq_true_eq] at hck
  obtain ⟨hd, hck⟩ := hck
  rw [Bool.and_eq_true, Bool.and_eq_true, decide_eq_true_eq, decide_eq_true_eq] at hck
  obtain ⟨rfl, hp, hv⟩ := hck
  split at hv
  · simp only [Bool.and_eq_true, decide_eq_true_eq] at hv
    obtain ⟨v1, v2, v3, v4⟩ := hv
    obtain ⟨y, st, rfl, hn⟩ := xa_pi_some hn
    obtain ⟨hi, hn⟩ := xa_if_some hn
    obtain ⟨rfl, rfl, rfl, rfl, rfl, rfl⟩ := xa_go_some hn
    have hcat := Nat.le_of_ble_eq_true hi
    obtain ⟨hfr, hlo⟩ := hro rfl
    exact va_mabs hx hb (hml.trans hl.1.symm) hown (htk _ v1) (htk _ v2) (htk _ v3) (htk _ v4) (by omega) (by rw [xa_cats_rv]; omega) hc hz hd (kk _ ls H locs hp hl hM hS)
  · simp only [Bool.and_eq_true, decide_eq_true_eq] at hv
    obtain ⟨v1, v2, v3, v4⟩ := hv
    obtain ⟨n, st, rfl, hn⟩ := xa_pi_some hn
    obtain ⟨dp, st, rfl, hn⟩ := xa_pi_some hn
    obtain ⟨a, st, rfl, hn⟩ := xa_pr_some hn
    obtain ⟨sp, st, rfl, hn⟩ := xa_pi_some hn
    obtain ⟨a0, st, rfl, hn⟩ := xa_pr_some hn
    obtain ⟨j0, n0, f, rfl, hj0, hn⟩ := xa_ai_some hn
    obtain ⟨j, n1, g, rfl, hj, hn⟩ := xa_ai_some hn
    obtain ⟨hi, hn⟩ := xa_if_some hn
    obtain ⟨rfl, rfl, rfl, rfl, rfl, rfl⟩ := xa_go_some hn
    simp only [Bool.and_eq_true, Bool.not_eq_true', decide_eq_false_iff_not, decide_eq_true_eq] at hi
    obtain ⟨⟨⟨⟨⟨i0, i1⟩, i2⟩, i3⟩, i4⟩, i5⟩ := hi
    have hcat := Nat.le_of_ble_eq_true i0
    obtain ⟨hfr, hlo⟩ := hro rfl
    refine va_copyi hx hb (hml.trans hl.1.symm) hown (htk _ v1) (htk _ v2) (htk _ v3) (htk _ v4) hK hM.2 hD (xa_S.now hS) j0 j 0 0 (xa_W_at hj0) (xa_W_at hj) rfl rfl rfl i1 i2 i3 i4 i5 (fun _ _ => rfl) (by omega) (by rw [xa_cats_rv]; have h1 : nativeFrameWords "java/lang/System" "arraycopy" 5 = 7 := (by decide); omega) hd (fun H1 locs1 hP1 _ hS1 => ?_)
    exact kk _ ls H1 locs1 hp hl (hM.set hP1 hS1.1) (xa_S.two hS hS1)
  · cases hv
set_option maxHeartbeats 4000000 in
theorem xa_sim_nx {i : Jvm.ClassFile.Instr} {len nip r q : Nat} {ts : List Nat} {lv lv' : List (Nat × Value)} {st st' : List Value} {h h' : List va_E} {ip' k z : Nat} (hC : xa_ckC cl Ts = true)
    (F : xa_Fr D cl Ts cs b base L xs M p s m args meth c) {Tk : List Jvm.Cond} (hsub : ∀ w ∈ Tk, w ∈ Ts) (hck : xa_ck cl Tk M pc i len nip r q ts = true) (hn : xa_nx L xs i nip r q ts lv st h = some (ip', lv', st', h', k, z))
    (hl : lv_has ls (xa_mL M) (xa_lv b base lv)) (hM : xa_Mt D cl cs b base h H) (hS : va_S (xa_A base) s.heap H locs) (hcs : s.heap.size + cells ≤ base + h.length) (hc : cells + k ≤ R.cells) (hz : slots + z ≤ R.slots) (hro : xa_kind i r q = 4 → 1 ≤ R.frames ∧ 30 ≤ R.locals)
    (kk : ∀ (pc' : Nat) (ls' : Array Slot) (H' : Heap) (locs' : List Loc), xa_pc M ip' = pc' → lv_has ls' (xa_mL M) (xa_lv b base lv') → xa_Mt D cl cs b base h' H' → va_S (xa_A base) s.heap H' locs' →
      W p l e R s m args below meth c H' locs' (cells + k) (slots + z) Q (F0 m pc' ls' (st'.map (xa_rv b base)))) :
    W p l e R s m args below meth c H locs cells slots Q (F0 m pc ls (st.map (xa_rv b base))) := by
  cases i
  case iconst n => exact xs_iconst hC F hsub hck hn hl hM hS hcs hc hz hro kk
  case bipush n => exact xs_bipush hC F hsub hck hn hl hM hS hcs hc hz hro kk
  case sipush n => exact xs_sipush hC F hsub hck hn hl hM hS hcs hc hz hro kk
  case ldc x => exact xs_ldc hC F hsub hck hn hl hM hS hcs hc hz hro kk
  case ldc_w x => exact xs_ldc_w hC F hsub hck hn hl hM hS hcs hc hz hro kk
  case lconst n => exact xs_lconst hC F hsub hck hn hl hM hS hcs hc hz hro kk
  case ldc2_w x => exact xs_ldc2_w hC F hsub hck hn hl hM hS hcs hc hz hro kk
  case iload_n n => exact xs_iload_n hC F hsub hck hn hl hM hS hcs hc hz hro kk
  case iload n => exact xs_iload hC F hsub hck hn hl hM hS hcs hc hz hro kk
  case lload_n n => exact xs_lload_n hC F hsub hck hn hl hM hS hcs hc hz hro kk
  case lload n => exact xs_lload hC F hsub hck hn hl hM hS hcs hc hz hro kk
  case aload_n n => exact xs_aload_n hC F hsub hck hn hl hM hS hcs hc hz hro kk
  case aload n => exact xs_aload hC F hsub hck hn hl hM hS hcs hc hz hro kk
  case istore_n n => exact xs_istore_n hC F hsub hck hn hl hM hS hcs hc hz hro kk
  case istore n => exact xs_istore hC F hsub hck hn hl hM hS hcs hc hz hro kk
  case lstore_n n => exact xs_lstore_n hC F hsub hck hn hl hM hS hcs hc hz hro kk
  case lstore n => exact xs_lstore hC F hsub hck hn hl hM hS hcs hc hz hro kk
  case astore_n n => exact xs_astore_n hC F hsub hck hn hl hM hS hcs hc hz hro kk
  case astore n => exact xs_astore hC F hsub hck hn hl hM hS hcs hc hz hro kk
  case iinc n cc => exact xs_iinc hC F hsub hck hn hl hM hS hcs hc hz hro kk
  case iadd => exact xs_iadd hC F hsub hck hn hl hM hS hcs hc hz hro kk
  case isub => exact xs_isub hC F hsub hck hn hl hM hS hcs hc hz hro kk
  case imul => exact xs_imul hC F hsub hck hn hl hM hS hcs hc hz hro kk
  case iand => exact xs_iand hC F hsub hck hn hl hM hS hcs hc hz hro kk
  case ladd => exact xs_ladd hC F hsub hck hn hl hM hS hcs hc hz hro kk
  case lsub => exact xs_lsub hC F hsub hck hn hl hM hS hcs hc hz hro kk
  case lmul => exact xs_lmul hC F hsub hck hn hl hM hS hcs hc hz hro kk
  case idiv => exact xs_idiv hC F hsub hck hn hl hM hS hcs hc hz hro kk
  case irem => exact xs_irem hC F hsub hck hn hl hM hS hcs hc hz hro kk
  case ldiv => exact xs_ldiv hC F hsub hck hn hl hM hS hcs hc hz hro kk
  case lrem => exact xs_lrem hC F hsub hck hn hl hM hS hcs hc hz hro kk
  case ineg => exact xs_ineg hC F hsub hck hn hl hM hS hcs hc hz hro kk
  case lcmp => exact xs_lcmp hC F hsub hck hn hl hM hS hcs hc hz hro kk
  case i2l => exact xs_i2l hC F hsub hck hn hl hM hS hcs hc hz hro kk
  case l2i => exact xs_l2i hC F hsub hck hn hl hM hS hcs hc hz hro kk
  case dup => exact xs_dup hC F hsub hck hn hl hM hS hcs hc hz hro kk
  case pop => exact xs_pop hC F hsub hck hn hl hM hS hcs hc hz hro kk
  case dup2 => exact xs_dup2 hC F hsub hck hn hl hM hS hcs hc hz hro kk
  case ifCond cd off => exact xs_ifCond hC F hsub hck hn hl hM hS hcs hc hz hro kk
  case if_icmp cd off => exact xs_if_icmp hC F hsub hck hn hl hM hS hcs hc hz hro kk
  case goto off => exact xs_goto hC F hsub hck hn hl hM hS hcs hc hz hro kk
  case getfield x => exact xs_getfield hC F hsub hck hn hl hM hS hcs hc hz hro kk
  case putfield x => exact xs_putfield hC F hsub hck hn hl hM hS hcs hc hz hro kk
  case arraylength => exact xs_arraylength hC F hsub hck hn hl hM hS hcs hc hz hro kk
  case iaload => exact xs_iaload hC F hsub hck hn hl hM hS hcs hc hz hro kk
  case baload => exact xs_baload hC F hsub hck hn hl hM hS hcs hc hz hro kk
  case laload => exact xs_laload hC F hsub hck hn hl hM hS hcs hc hz hro kk
  case iastore => exact xs_iastore hC F hsub hck hn hl hM hS hcs hc hz hro kk
  case bastore => exact xs_bastore hC F hsub hck hn hl hM hS hcs hc hz hro kk
  case lastore => exact xs_lastore hC F hsub hck hn hl hM hS hcs hc hz hro kk
  case tableswitch df lo hi offs => exact xs_tableswitch hC F hsub hck hn hl hM hS hcs hc hz hro kk
  case new x => exact xs_new hC F hsub hck hn hl hM hS hcs hc hz hro kk
  case newarray t => exact xs_newarray hC F hsub hck hn hl hM hS hcs hc hz hro kk
  case invokespecial x => exact xs_invokespecial hC F hsub hck hn hl hM hS hcs hc hz hro kk
  case invokestatic x => exact xs_invokestatic hC F hsub hck hn hl hM hS hcs hc hz hro kk
  all_goals exact nomatch (show (none : Option xa_N) = some _ from hn)
end XSim
end
section
/-! A CONTRACT OF A METHOD THAT MAY THROW, and a call by it -/
def xb_E (first t : State) (L : List Loc) (k n : Nat) : Prop := first.WarmedH t.vm ∧ first.sameButNew ({ t with vm := first.vm } : State) L k n
def xb_Q (Qc : Array Value → State → Outcome → State → Prop) (mc ms : Nat) (free : Addr → Prop) : Array Value → State → Outcome → State → Prop := fun a st o t => Qc a st o t ∧ ∃ L, xb_E st t L mc ms ∧ ∀ q ∈ L, free q.base
def xb_Met (l : Launch) (y : MethodName) (ws : List Jvm.Cond) (rm : Room) (Pc : Array Value → State → Prop) (Qc : Array Value → State → Outcome → State → Prop) (mc ms : Nat) (free : Addr → Prop) : Prop :=
  MetFree l y (headSpec ws rm) Pc (fun _ _ _ _ _ => True) (xb_Q Qc mc ms free)
def xb_MQ (below : List Frame) (Qc : Array Value → State → Outcome → State → Prop) (a : Array Value) (s : State) (mc ms : Nat) (free : Addr → Prop) : State → Prop := fun t =>
  ∃ o, t.status = .running ∧ Ended t below o ∧ xb_Q Qc mc ms free a s o t
/-- a method's code word, with or without handlers -/
def xb_cw (y : MethodName) (cc : ByteArray) (maxL : Nat) (ret : Option FieldType) (hh : List (Nat × Nat × Nat × Nat)) : Jvm.Cond := match hh with
  | [] => .code y cc maxL ret
  | hh => .codeWith y cc maxL ret hh
theorem xb_cw_spec {y : MethodName} {cc : ByteArray} {maxL : Nat} {ret : Option FieldType} {hh : List (Nat × Nat × Nat × Nat)} {args : Array Value} {s : State} {m : MethodId} (hn : s.methodNamed? y = some m) (h : (xb_cw y cc maxL ret hh).before args s = true) :
    ∃ meth c, s.vm.method? m = some meth ∧ meth.code = some c ∧ c.code = cc ∧ c.maxLocals = maxL ∧ meth.sig.returnType = ret ∧ meth.locks = false ∧ c.exceptionTable.toList = tableOf hh ∧ parseMethodDescriptor y.desc = some meth.sig := by
  cases hh with
  | nil =>
    obtain ⟨meth, c, h1, h2, h3, h4, h5, h6, h7, h8⟩ := Cond.code_spec hn h
    refine ⟨meth, c, h1, h2, h3, h4, h5, h6, ?_, h8⟩
    have h0 : c.exceptionTable.size = 0 := by simpa [Array.isEmpty] using h7
    exact List.eq_nil_of_length_eq_zero (by simpa using h0)
  | cons q t =>
    obtain ⟨m9, meth, c, hn9, h1, h2, h3, h4, ht, h5, h6, h8⟩ := Cond.codeWith_spec h
    cases hn.symm.trans hn9
    exact ⟨meth, c, h1, h2, h3, h4, h5, h6, by rw [← ht, table_eq], h8⟩
section XB
variable {l : Launch}
theorem xb_ofW {y : MethodName} {ws : List Jvm.Cond} {rm : Room} {Pc : Array Value → State → Prop} {Qc : Array Value → State → Outcome → State → Prop} {mc ms : Nat} {free : Addr → Prop} {cc : ByteArray} {maxL : Nat} {ret : Option FieldType} {hh : List (Nat × Nat × Nat × Nat)}
    (hy : plainName y.cls = true) (hw : xb_cw y cc maxL ret hh ∈ ws)
    (body : ∀ p e s m args below meth c s₁, BodyLoose p l y (headSpec ws rm) cc maxL ret e s m args below meth c s₁ → c.maxLocals = maxL → c.exceptionTable.toList = tableOf hh → Pc args s →
      W p l e rm s m args below meth c s.heap [] 0 0 (xb_MQ below Qc args s mc ms free) (entryFrame m args maxL)) : xb_Met l y ws rm Pc Qc mc ms free := by
  refine MetFree.of_bodyS (code := cc) (maxLocals := maxL) (ret := ret) hy ?_ ?_
  · intro args s m h hn
    obtain ⟨meth, c, h1, h2, h3, h4, h5, h6, -⟩ := xb_cw_spec hn (atoms_spec (ws := ws) h _ hw)
    exact ⟨meth, c, h1, h2, h3, h4, h5, h6⟩
  · intro p e s m args below meth c s₁ B hml hP _
    have hh0 : s₁.heap = s.heap := by rw [B.state]; rfl
    have X := Stand.of_body B
    obtain ⟨meth', c', h1, h2, -, -, -, -, h7, -⟩ := xb_cw_spec B.named (atoms_spec (ws := ws) B.pre _ hw)
    cases B.method.symm.trans h1
    cases X.code.symm.trans h2
    obtain ⟨t, a1, o, b1, b2, b3⟩ := body p e s m args below meth c s₁ B hml h7 hP s₁ hh0 X
    exact ⟨t, o, a1, b1, b2, b3⟩
end XB
section XC
variable {p : Program} {l : Launch} {e : Env} {R : Room} {s : State} {m : MethodId} {args : Array Value} {below : List Frame} {meth : Method} {c : Code} {U : State} {locs : List Loc} {cells slots : Nat}
set_option maxHeartbeats 2000000 in
/-- behind the invoking instruction's own step: the callee comes back, or throws -/
theorem xb_call {y : MethodName} {ws : List Jvm.Cond} {rm : Room} {Pc : Array Value → State → Prop} {Qc : Array Value → State → Outcome → State → Prop} {mc ms : Nat} {free : Addr → Prop} {cc : ByteArray} {maxL : Nat} {ret : Option FieldType} {hh : List (Nat × Nat × Nat × Nat)}
    (X : Stand p l e R s m args below meth c U locs cells slots) (hM : xb_Met l y ws rm Pc Qc mc ms free) {mk : MethodId} (hn : U.methodNamed? y = some mk) {g : JFrame} (hg : g.method = m) (hsize : g.locals.size = c.maxLocals) {ig : Jvm.ClassFile.Instr} (hdg : decode c.code g.pc = .ok (ig, 3))
    (hws : ∀ w ∈ ws, ∀ a' : Array Value, w.before a' U = true) (hcw : xb_cw y cc maxL ret hh ∈ ws) (hini : ∀ a' : Array Value, (Jvm.Cond.initialized y.cls).before a' U = true)
    (hframes : rm.frames + 1 ≤ R.frames) (hlocals : 2 * g.monitorRoom + (g.stack.map fun v => v.category).sum + (maxL + 11) + rm.locals ≤ R.locals) (hcells : cells + rm.cells ≤ R.cells) (hslots : slots + rm.slots ≤ R.slots)
    {a : Array Value} (hP : Pc a (U.calling g mk a)) :
    (∃ (v : Option Value) (t B : State) (L : List Loc), Stand p l e R s m args below meth c B (locs ++ L) (cells + mc) (slots + ms) ∧ (∀ q ∈ L, free q.base) ∧ B.heap = t.heap ∧ B.vm = t.vm ∧ Qc a (U.calling g mk a) (.returned v) t ∧ Steps p.tables e below (doInvoke e (U.setTop g) [] mk a).1 (B.setTop { g with pc := g.pc + 3, stack := v.toList ++ g.stack })) ∨
    (∃ (x : Addr) (t B : State) (L : List Loc), Stand p l e R s m args below meth c B (locs ++ L) (cells + mc) (slots + ms) ∧ (∀ q ∈ L, free q.base) ∧ B.heap = t.heap ∧ B.vm = t.vm ∧ Qc a (U.calling g mk a) (.threw x) t ∧ Steps p.tables e below (doInvoke e (U.setTop g) [] mk a).1 ((B.setTop g).pushFrame (.throwing x))) := by
  subst hg
  obtain ⟨methY, cY, hmY, hcY, -, hlY, -, -, -, -⟩ := xb_cw_spec (args := a) hn (hws _ hcw a)
  obtain ⟨kY, hkY, -⟩ := className_of_methodNamed hn
  have hinitY : kY.init = .initialized := Cond.initialized_spec (findClass_of_methodNamed hn) hkY (hini a)
  have h : At U g.method c below := X.here
  have happ : (headSpec ws rm).appliesLoose y e.platform (U.calling g mk a) = true :=
    Spec.appliesLoose_calling (g := g) h hdg hn hkY hinitY
      (X.room_calling (g := g) (R' := rm) hsize hmY hcY hframes (by rw [hlY]; exact hlocals) hcells hslots) (atoms_intro fun w hw => hws w hw a)
  obtain ⟨mid, hmid⟩ := h.above
  have hfr : (U.setTop g).frames = (.java g :: mid) ++ below := by rw [State.frames_setTop' g h.top, hmid]; rfl
  obtain ⟨o, s₂, hsteps, -, hend, hq⟩ := Steps.callFree hM p X.admits X.cas X.clock (acts := []) hfr happ hP trivial
  have hq' : xb_Q Qc mc ms free a (U.calling g mk a) o s₂ := hq
  rw [State.frames_setTop' g h.top] at hend
  obtain ⟨hqc, L, ⟨hW₂, hsm⟩, hL⟩ := hq'
  obtain ⟨e2, q2, q3, q4, q5, q6⟩ := id hsm
  have e3 : s₂ = ({ (U.calling g mk a).setFrames s₂.frames with heap := s₂.heap, slotsUsed := s₂.slotsUsed } : State).setVm s₂.vm := by
    have : s₂ = ({ s₂ with vm := (U.calling g mk a).vm } : State).setVm s₂.vm := rfl
    rw [e2] at this
    exact this
  have hW' : U.WarmedH s₂.vm := hW₂
  obtain ⟨g₀, hg0⟩ := Option.isSome_iff_exists.mp h.top
  obtain ⟨r, hr⟩ := State.topJava?_eq_some.mp hg0
  have hsame : U.sameButNew ({ U with heap := s₂.heap, slotsUsed := s₂.slotsUsed } : State) L mc ms := by
    refine ⟨?_, q2, q3, q4, q5, q6⟩
    obtain ⟨t, ht, -⟩ := State.frames_cons hr
    show ({ U with heap := s₂.heap, slotsUsed := s₂.slotsUsed } : State) = { U.setFrames U.frames with heap := s₂.heap, slotsUsed := s₂.slotsUsed }
    rw [State.setFrames_self ht]
  have hr' : (({ U with heap := s₂.heap, slotsUsed := s₂.slotsUsed } : State).setVm s₂.vm).frames = .java g₀ :: r := hr
  have XB : Stand p l e R s g.method args below meth c (({ U with heap := s₂.heap, slotsUsed := s₂.slotsUsed } : State).setVm s₂.vm) (locs ++ L) (cells + mc) (slots + ms) :=
    ⟨X.admits, X.cas, X.clock, X.frames, X.room, X.hears, X.method, X.code, (X.here.setHeapUsed s₂.heap s₂.slotsUsed).setVm hW'.alike, X.tail, State.WarmedH.trans X.warmed hW', X.limits, X.bytes, X.same.trans (hsame.setVm s.vm)⟩
  cases o with
  | returned v =>
    left
    obtain ⟨c₂, i₂, len₂, hc₂, hd₂, hf₂⟩ := hend
    have hcc : c₂ = c := by
      have h1 : s₂.code? g.method = U.code? g.method := by
        rw [State.code?_eq, State.code?_eq, hW'.alike.method?]
      exact Option.some.inj (hc₂.symm.trans (h1.trans h.code))
    subst hcc
    have hlen : len₂ = 3 := by rw [hdg] at hd₂; cases hd₂; rfl
    subst hlen
    have hs₂ : s₂ = (({ U with heap := s₂.heap, slotsUsed := s₂.slotsUsed } : State).setVm s₂.vm).setTop { g with pc := g.pc + 3, stack := v.toList ++ g.stack } := by
      refine e3.trans ?_
      rw [hf₂, State.calling_eq h.top, State.setFrames_setFrames, State.setTop_of_frames _ hr', hr]
      rfl
    refine ⟨v, s₂, _, L, XB, hL, rfl, rfl, hqc, ?_⟩
    rw [← hs₂]
    exact hsteps
  | threw x =>
    right
    have hf₂ : s₂.frames = .throwing x :: .java g :: U.frames.tail := hend
    have hs₂ : s₂ = ((({ U with heap := s₂.heap, slotsUsed := s₂.slotsUsed } : State).setVm s₂.vm).setTop g).pushFrame (.throwing x) := by
      refine e3.trans ?_
      rw [hf₂, State.calling_eq h.top, State.setFrames_setFrames, State.pushFrame, State.frames_setTop _ hr', State.setTop_of_frames _ hr', State.setFrames_setFrames, hr]
      rfl
    refine ⟨x, s₂, _, L, XB, hL, rfl, rfl, hqc, ?_⟩
    rw [← hs₂]
    exact hsteps
end XC
end
section
/-! THE WHOLE RUN OF A METHOD -/
theorem xl_go {ip ip' : Nat} {lv lv' : List (Nat × Value)} {st st' : List Value} {h h1 h' : List va_E} {k z : Nat} (hl : h1.length = h.length) (e : xa_go ip lv st h1 = some (ip', lv', st', h', k, z)) : h'.length = h.length + k := by
  obtain ⟨-, -, -, rfl, rfl, -⟩ := xa_go_some e
  exact hl
set_option maxHeartbeats 4000000 in
theorem xa_nx_len {L : Nat} {xs : Nat → Int32} {i : Jvm.ClassFile.Instr} {nip r q : Nat} {ts : List Nat} {lv lv' : List (Nat × Value)} {st st' : List Value} {h h' : List va_E} {ip' k z : Nat} (hn : xa_nx L xs i nip r q ts lv st h = some (ip', lv', st', h', k, z)) : h'.length = h.length + k := by
  cases i
  case iconst _ =>
    exact xl_go rfl hn
  case bipush _ =>
    exact xl_go rfl hn
  case sipush _ =>
    exact xl_go rfl hn
  case ldc _ =>
    exact xl_go rfl hn
  case ldc_w _ =>
    exact xl_go rfl hn
  case lconst _ =>
    exact xl_go rfl hn
  case ldc2_w _ =>
    exact xl_go rfl hn
  case iload_n _ =>
    obtain ⟨_, _, h0⟩ := xa_li_some hn
    exact xl_go rfl h0
  case iload _ =>
    obtain ⟨_, _, h0⟩ := xa_li_some hn
    exact xl_go rfl h0
  case lload_n _ =>
    obtain ⟨_, _, h0⟩ := xa_ll_some hn
    exact xl_go rfl h0
  case lload _ =>
    obtain ⟨_, _, h0⟩ := xa_ll_some hn
    exact xl_go rfl h0
  case aload_n _ =>
    obtain ⟨_, _, h0⟩ := xa_lr_some hn
    exact xl_go rfl h0
  case aload _ =>
    obtain ⟨_, _, h0⟩ := xa_lr_some hn
    exact xl_go rfl h0
  case istore_n _ =>
    obtain ⟨_, _, _, h0⟩ := xa_pi_some hn
    exact xl_go rfl h0
  case istore _ =>
    obtain ⟨_, _, _, h0⟩ := xa_pi_some hn
    exact xl_go rfl h0
  case astore_n _ =>
    obtain ⟨_, _, _, h0⟩ := xa_pr_some hn
    exact xl_go rfl h0
  case astore _ =>
    obtain ⟨_, _, _, h0⟩ := xa_pr_some hn
    exact xl_go rfl h0
  case lstore_n _ =>
    obtain ⟨_, _, _, h0⟩ := xa_pl_some hn
    exact xl_go rfl h0
  case lstore _ =>
    obtain ⟨_, _, _, h0⟩ := xa_pl_some hn
    exact xl_go rfl h0
  case iinc _ _ =>
    obtain ⟨_, _, h0⟩ := xa_li_some hn
    exact xl_go rfl h0
  case iadd =>
    obtain ⟨_, _, _, h0⟩ := xa_pi_some hn
    obtain ⟨_, _, _, h1⟩ := xa_pi_some h0
    exact xl_go rfl h1
  case isub =>
    obtain ⟨_, _, _, h0⟩ := xa_pi_some hn
    obtain ⟨_, _, _, h1⟩ := xa_pi_some h0
    exact xl_go rfl h1
  case imul =>
    obtain ⟨_, _, _, h0⟩ := xa_pi_some hn
    obtain ⟨_, _, _, h1⟩ := xa_pi_some h0
    exact xl_go rfl h1
  case iand =>
    obtain ⟨_, _, _, h0⟩ := xa_pi_some hn
    obtain ⟨_, _, _, h1⟩ := xa_pi_some h0
    exact xl_go rfl h1
  case idiv =>
    obtain ⟨_, _, _, h0⟩ := xa_pi_some hn
    obtain ⟨_, _, _, h1⟩ := xa_pi_some h0
    obtain ⟨_, h2⟩ := xa_if_some h1
    exact xl_go rfl h2
  case irem =>
    obtain ⟨_, _, _, h0⟩ := xa_pi_some hn
    obtain ⟨_, _, _, h1⟩ := xa_pi_some h0
    obtain ⟨_, h2⟩ := xa_if_some h1
    exact xl_go rfl h2
  case ineg =>
    obtain ⟨_, _, _, h0⟩ := xa_pi_some hn
    exact xl_go rfl h0
  case ladd =>
    obtain ⟨_, _, _, h0⟩ := xa_pl_some hn
    obtain ⟨_, _, _, h1⟩ := xa_pl_some h0
    exact xl_go rfl h1
  case lsub =>
    obtain ⟨_, _, _, h0⟩ := xa_pl_some hn
    obtain ⟨_, _, _, h1⟩ := xa_pl_some h0
    exact xl_go rfl h1
  case lmul =>
    obtain ⟨_, _, _, h0⟩ := xa_pl_some hn
    obtain ⟨_, _, _, h1⟩ := xa_pl_some h0
    exact xl_go rfl h1
  case ldiv =>
    obtain ⟨_, _, _, h0⟩ := xa_pl_some hn
    obtain ⟨_, _, _, h1⟩ := xa_pl_some h0
    obtain ⟨_, h2⟩ := xa_if_some h1
    exact xl_go rfl h2
  case lrem =>
    obtain ⟨_, _, _, h0⟩ := xa_pl_some hn
    obtain ⟨_, _, _, h1⟩ := xa_pl_some h0
    obtain ⟨_, h2⟩ := xa_if_some h1
    exact xl_go rfl h2
  case lcmp =>
    obtain ⟨_, _, _, h0⟩ := xa_pl_some hn
    obtain ⟨_, _, _, h1⟩ := xa_pl_some h0
    exact xl_go rfl h1
  case i2l =>
    obtain ⟨_, _, _, h0⟩ := xa_pi_some hn
    exact xl_go rfl h0
  case l2i =>
    obtain ⟨_, _, _, h0⟩ := xa_pl_some hn
    exact xl_go rfl h0
  case dup =>
    obtain ⟨_, _, _, _, h0⟩ := xa_p1_some hn
    exact xl_go rfl h0
  case pop =>
    obtain ⟨_, _, _, _, h0⟩ := xa_p1_some hn
    exact xl_go rfl h0
  case dup2 =>
    obtain ⟨_, _, _, _, h0⟩ := xa_p1_some hn
    obtain ⟨_, _, _, _, h1⟩ := xa_p1_some h0
    exact xl_go rfl h1
  case ifCond _ _ =>
    obtain ⟨_, _, _, h0⟩ := xa_pi_some hn
    exact xl_go rfl h0
  case if_icmp _ _ =>
    obtain ⟨_, _, _, h0⟩ := xa_pi_some hn
    obtain ⟨_, _, _, h1⟩ := xa_pi_some h0
    exact xl_go rfl h1
  case goto _ =>
    exact xl_go rfl hn
  case tableswitch _ _ _ _ =>
    obtain ⟨_, _, _, h0⟩ := xa_pi_some hn
    exact xl_go rfl h0
  case getfield _ =>
    obtain ⟨_, _, _, h0⟩ := xa_pr_some hn
    obtain ⟨_, _, _, _, h1⟩ := xa_ob_some h0
    obtain ⟨_, _, h2⟩ := xa_fd_some h1
    exact xl_go rfl h2
  case putfield _ =>
    obtain ⟨_, _, _, h0⟩ := xa_pv_some hn
    obtain ⟨_, _, _, h1⟩ := xa_pr_some h0
    obtain ⟨_, _, _, _, h2⟩ := xa_ob_some h1
    obtain ⟨_, h3⟩ := xa_if_some h2
    exact xl_go (List.length_set ..) h3
  case arraylength =>
    obtain ⟨_, _, _, h0⟩ := xa_pr_some hn
    rcases xa_ln_some h0 with ⟨_, h9⟩ | ⟨_, _, _, _, _, _, h9⟩ <;> exact xl_go rfl h9
  case iaload =>
    obtain ⟨_, _, _, h0⟩ := xa_pi_some hn
    obtain ⟨_, _, _, h1⟩ := xa_pr_some h0
    rcases xa_is_some h1 with ⟨_, h9⟩ | ⟨_, _, _, _, _, h9⟩ <;> exact xl_go rfl (xa_if_some h9).2
  case baload =>
    obtain ⟨_, _, _, h0⟩ := xa_pi_some hn
    obtain ⟨_, _, _, h1⟩ := xa_pr_some h0
    obtain ⟨_, _, _, _, _, h2⟩ := xa_ai_some h1
    obtain ⟨_, h3⟩ := xa_if_some h2
    exact xl_go rfl h3
  case laload =>
    obtain ⟨_, _, _, h0⟩ := xa_pi_some hn
    obtain ⟨_, _, _, h1⟩ := xa_pr_some h0
    obtain ⟨_, _, _, _, _, h2⟩ := xa_al_some h1
    obtain ⟨_, h3⟩ := xa_if_some h2
    exact xl_go rfl h3
  case iastore =>
    obtain ⟨_, _, _, h0⟩ := xa_pi_some hn
    obtain ⟨_, _, _, h1⟩ := xa_pi_some h0
    obtain ⟨_, _, _, h2⟩ := xa_pr_some h1
    obtain ⟨_, _, _, _, _, h3⟩ := xa_ai_some h2
    obtain ⟨_, h4⟩ := xa_if_some h3
    exact xl_go (List.length_set ..) h4
  case bastore =>
    obtain ⟨_, _, _, h0⟩ := xa_pi_some hn
    obtain ⟨_, _, _, h1⟩ := xa_pi_some h0
    obtain ⟨_, _, _, h2⟩ := xa_pr_some h1
    obtain ⟨_, _, _, _, _, h3⟩ := xa_ai_some h2
    obtain ⟨_, h4⟩ := xa_if_some h3
    exact xl_go (List.length_set ..) h4
  case lastore =>
    obtain ⟨_, _, _, h0⟩ := xa_pl_some hn
    obtain ⟨_, _, _, h1⟩ := xa_pi_some h0
    obtain ⟨_, _, _, h2⟩ := xa_pr_some h1
    obtain ⟨_, _, _, _, _, h3⟩ := xa_al_some h2
    obtain ⟨_, h4⟩ := xa_if_some h3
    exact xl_go (List.length_set ..) h4
  case newarray _ =>
    obtain ⟨_, _, _, h0⟩ := xa_pi_some hn
    obtain ⟨_, h1⟩ := xa_if_some h0
    cases h1; simp
  case new _ =>
    cases hn; simp
  case invokespecial _ =>
    replace hn : xa_own r nip lv st h = some (ip', lv', st', h', k, z) := hn
    unfold xa_own at hn
    split at hn
    · obtain ⟨_, _, _, h0⟩ := xa_pr_some hn
      exact xl_go rfl (xa_if_some h0).2
    · obtain ⟨_, _, _, h0⟩ := xa_pi_some hn
      exact xl_go rfl (xa_if_some h0).2
    · obtain ⟨_, _, _, h0⟩ := xa_pi_some hn
      obtain ⟨_, _, _, h1⟩ := xa_pi_some h0
      obtain ⟨_, _, _, h2⟩ := xa_pr_some h1
      obtain ⟨_, _, _, h3⟩ := xa_pi_some h2
      obtain ⟨_, _, _, h4⟩ := xa_pr_some h3
      obtain ⟨_, _, _, _, _, h5⟩ := xa_ai_some h4
      obtain ⟨_, _, _, _, _, h6⟩ := xa_ai_some h5
      exact xl_go (List.length_set ..) (xa_if_some h6).2
    · cases hn
  case invokestatic _ =>
    replace hn : xa_own r nip lv st h = some (ip', lv', st', h', k, z) := hn
    unfold xa_own at hn
    split at hn
    · obtain ⟨_, _, _, h0⟩ := xa_pr_some hn
      exact xl_go rfl (xa_if_some h0).2
    · obtain ⟨_, _, _, h0⟩ := xa_pi_some hn
      exact xl_go rfl (xa_if_some h0).2
    · obtain ⟨_, _, _, h0⟩ := xa_pi_some hn
      obtain ⟨_, _, _, h1⟩ := xa_pi_some h0
      obtain ⟨_, _, _, h2⟩ := xa_pr_some h1
      obtain ⟨_, _, _, h3⟩ := xa_pi_some h2
      obtain ⟨_, _, _, h4⟩ := xa_pr_some h3
      obtain ⟨_, _, _, _, _, h5⟩ := xa_ai_some h4
      obtain ⟨_, _, _, _, _, h6⟩ := xa_ai_some h5
      exact xl_go (List.length_set ..) (xa_if_some h6).2
    · cases hn
  all_goals exact nomatch (show (none : Option xa_N) = some _ from hn)
theorem xa_lv_args (b base : Nat) : ∀ (vs : List Value) (i : Nat), xa_lv b base (lv_args i vs) = lv_args i (vs.map (xa_rv b base))
  | [], _ => rfl
  | v :: vs, i => by
    show (i, xa_rv b base v) :: xa_lv b base (lv_args _ vs) = _
    rw [xa_lv_args b base vs]
    simp only [List.map_cons, lv_args, xa_rv_cat]
theorem xa_sl_len (vs : List Value) : (lg_sl vs).length = xa_cats vs := by
  induction vs with
  | nil => rfl
  | cons v vs ih =>
    have h1 : lg_sl (v :: vs) = (if v.category = 2 then [.val v, .second] else [.val v]) ++ lg_sl vs := rfl
    rw [h1, List.length_append, ih]
    show _ = v.category + xa_cats vs
    cases v <;> rfl
/-- an outcome with addresses -/
def xa_ad (b base a : Nat) : Nat := match a with
  | 0 => b
  | k + 1 => base + k
theorem xa_rv_ref (b base a : Nat) : xa_rv b base (.ref a) = .ref (xa_ad b base a) := by cases a <;> rfl
def xa_oc (b base : Nat) (o : Outcome) : Outcome := match o with
  | .returned v => .returned (v.map (xa_rv b base))
  | .threw a => .threw (xa_ad b base a)
/-- a state of the run: the tables warmer than at the start, the old cells as they were -/
def xa_Rl (s0 : State) (base : Nat) (U : State) : Prop := s0.WarmedH U.vm ∧ base ≤ U.heap.size ∧ ∀ q, q < base → U.heap[q]? = s0.heap[q]?
def xa_Pc (D : va_G) (cl : List vw_C) (cs : ClassId × ClassId × ClassId) (b base : Nat) (s0 : State) (vs : List Value) (h : List va_E) : Array Value → State → Prop := fun a U => a = (vs.map (xa_rv b base)).toArray ∧ xa_Rl s0 base U ∧ xa_Mt D cl cs b base h U.heap ∧ U.heap.size ≤ base + h.length
def xa_Qc (D : va_G) (cl : List vw_C) (cs : ClassId × ClassId × ClassId) (b base : Nat) (s0 : State) (o : Outcome) (h' : List va_E) : Array Value → State → Outcome → State → Prop := fun _ _ o' t => o' = xa_oc b base o ∧ xa_Rl s0 base t ∧ xa_Mt D cl cs b base h' t.heap
end
section
/-! RULES OVER THE PURE MACHINE: 'xv': it comes to an end with the outcome o, the cells h', so many cells and slots more -/
def xv (mt : Nat → xa_M) (L : Nat) (xs : Nat → Int32) (d w y ip : Nat) (lv : List (Nat × Value)) (st : List Value) (h : List va_E) (o : Outcome) (h' : List va_E) (k z : Nat) : Prop := ∃ n, xa_ev mt L xs n d w y ip lv st h = some (o, h', k, z)
/-- one plain row -/
def xa_1 (mt : Nat → xa_M) (L : Nat) (xs : Nat → Int32) (y ip : Nat) (lv : List (Nat × Value)) (st : List Value) (h : List va_E) : Option xa_N := match (xa_rows (mt y))[ip]? with
  | none => none
  | some (_, i, _, nip, r, q, ts) => match xa_kind i r q with
    | 0 => xa_nx L xs i nip r q ts lv st h
    | _ => none
/-- n plain rows that make nothing -/
def xa_m (mt : Nat → xa_M) (L : Nat) (xs : Nat → Int32) (y : Nat) : Nat → Nat → List (Nat × Value) → List Value → List va_E → Option (Nat × List (Nat × Value) × List Value × List va_E)
  | 0, ip, lv, st, h => some (ip, lv, st, h)
  | n + 1, ip, lv, st, h => match xa_1 mt L xs y ip lv st h with
    | some (ip', lv', st', h', 0, 0) => xa_m mt L xs y n ip' lv' st' h'
    | _ => none
/-- a call of the JDK's; a return; a 'throw new'; a call -/
def xa_o (mt : Nat → xa_M) (L : Nat) (xs : Nat → Int32) (y ip : Nat) (lv : List (Nat × Value)) (st : List Value) (h : List va_E) : Option xa_N := match (xa_rows (mt y))[ip]? with
  | none => none
  | some (_, i, _, nip, r, q, ts) => match xa_kind i r q with
    | 4 => xa_nx L xs i nip r q ts lv st h
    | _ => none
def xa_r (mt : Nat → xa_M) (y ip : Nat) (st : List Value) (h : List va_E) : Option xa_O := match (xa_rows (mt y))[ip]? with
  | none => none
  | some (_, i, _, _, r, q, _) => match xa_kind i r q with
    | 1 => xa_ret (xa_rt (mt y)) i st h
    | _ => none
def xa_th (mt : Nat → xa_M) (y ip : Nat) (st : List Value) : Option Nat := match (xa_rows (mt y))[ip]? with
  | none => none
  | some (_, i, _, _, r, q, _) => match xa_kind i r q with
    | 2 => xa_if (Nat.ble (xa_cats st) 8) (some r)
    | _ => none
def xa_cl (mt : Nat → xa_M) (y ip : Nat) (st : List Value) (h : List va_E) : Option (Nat × Nat × Nat × List (Nat × Value) × List Value) := match (xa_rows (mt y))[ip]? with
  | none => none
  | some (_, i, _, nip, r, q, ts) => match xa_kind i r q with
    | 3 => xa_if (xa_cok i (xa_mL (mt r)) q ts st h) (some (r, nip, ts.getD 1 0, lv_args 0 (st.take q).reverse, st.drop q))
    | _ => none
section XV
variable {mt : Nat → xa_M} {L : Nat} {xs : Nat → Int32} {d w y ip : Nat} {lv : List (Nat × Value)} {st : List Value} {h : List va_E} {o : Outcome} {h' : List va_E} {k z : Nat}
theorem xa_1_spec {nn : xa_N} (hn : xa_1 mt L xs y ip lv st h = some nn) : ∃ pc i len nip r q ts, (xa_rows (mt y))[ip]? = some (pc, i, len, nip, r, q, ts) ∧ xa_kind i r q = 0 ∧ xa_nx L xs i nip r q ts lv st h = some nn := by
  unfold xa_1 at hn
  split at hn
  · cases hn
  · rename_i hrow
    split at hn
    · rename_i hk
      exact ⟨_, _, _, _, _, _, _, hrow, hk, hn⟩
    · cases hn
theorem xv_1 {ip' k1 z1 : Nat} {lv' : List (Nat × Value)} {st' : List Value} {h1 : List va_E} (hn : xa_1 mt L xs y ip lv st h = some (ip', lv', st', h1, k1, z1)) (he : xv mt L xs d w y ip' lv' st' h1 o h' k z) : xv mt L xs d w y ip lv st h o h' (k1 + k) (z1 + z) := by
  obtain ⟨n, he⟩ := he
  obtain ⟨pc, i, len, nip, r, q, ts, hrow, hk, hn⟩ := xa_1_spec hn
  refine ⟨n + 1, ?_⟩
  show xa_stp mt L xs (xa_ev mt L xs n) d w y ip lv st h = _
  unfold xa_stp
  simp only [hrow, hk, hn, he, xa_add]
theorem xv_s {ip' : Nat} {lv' : List (Nat × Value)} {st' : List Value} {h1 : List va_E} (hn : xa_1 mt L xs y ip lv st h = some (ip', lv', st', h1, 0, 0)) (he : xv mt L xs d w y ip' lv' st' h1 o h' k z) : xv mt L xs d w y ip lv st h o h' k z := by
  have h1 := xv_1 hn he
  rw [Nat.zero_add, Nat.zero_add] at h1
  exact h1
theorem xv_m (n : Nat) {ip' : Nat} {lv' : List (Nat × Value)} {st' : List Value} {h1 : List va_E} (hn : xa_m mt L xs y n ip lv st h = some (ip', lv', st', h1)) (he : xv mt L xs d w y ip' lv' st' h1 o h' k z) : xv mt L xs d w y ip lv st h o h' k z := by
  induction n generalizing ip lv st h with
  | zero => cases hn; exact he
  | succ n ih =>
    unfold xa_m at hn
    split at hn
    · rename_i hh
      exact xv_s hh (ih hn)
    · cases hn
theorem xv_o {ip' : Nat} {lv' : List (Nat × Value)} {st' : List Value} {h1 : List va_E} (hn : xa_o mt L xs y ip lv st h = some (ip', lv', st', h1, 0, 0)) (hd : 1 ≤ d) (hw : 30 ≤ w) (he : xv mt L xs d w y ip' lv' st' h1 o h' k z) : xv mt L xs d w y ip lv st h o h' k z := by
  obtain ⟨n, he⟩ := he
  refine ⟨n + 1, ?_⟩
  show xa_stp mt L xs (xa_ev mt L xs n) d w y ip lv st h = _
  unfold xa_o at hn
  split at hn
  · cases hn
  · rename_i hrow
    split at hn
    · rename_i hk
      unfold xa_stp
      simp only [hrow, hk, hn, he, xa_add, Nat.zero_add]
      rw [xa_ift]
      simp [hd, hw]
    · cases hn
theorem xv_r (hn : xa_r mt y ip st h = some (o, h', k, z)) : xv mt L xs d w y ip lv st h o h' k z := by
  refine ⟨1, ?_⟩
  show xa_stp mt L xs (xa_ev mt L xs 0) d w y ip lv st h = _
  unfold xa_r at hn
  split at hn
  · cases hn
  · rename_i hrow
    split at hn
    · rename_i hk
      unfold xa_stp
      simp only [hrow, hk, hn]
    · cases hn
theorem xv_t {r : Nat} (hn : xa_th mt y ip st = some r) (hd : 6 ≤ d) (hw : 100 ≤ w) : xv mt L xs d w y ip lv st h (.threw (h.length + 1)) (h ++ [.inr (r, [])]) 1 6 := by
  refine ⟨1, ?_⟩
  show xa_stp mt L xs (xa_ev mt L xs 0) d w y ip lv st h = _
  unfold xa_th at hn
  split at hn
  · cases hn
  · rename_i hrow
    split at hn
    · rename_i hk
      obtain ⟨hc, hn⟩ := xa_ifs hn
      cases hn
      unfold xa_stp
      simp only [hrow, hk]
      rw [xa_ift]
      simp only [Bool.and_eq_true]
      exact ⟨hc, Nat.ble_eq_true_of_le hd, Nat.ble_eq_true_of_le hw⟩
    · cases hn
theorem xa_cl_spec {r nip cost : Nat} {lc : List (Nat × Value)} {rest : List Value} (hc : xa_cl mt y ip st h = some (r, nip, cost, lc, rest)) : ∃ pc i len q ts, (xa_rows (mt y))[ip]? = some (pc, i, len, nip, r, q, ts) ∧ xa_kind i r q = 3 ∧ xa_cok i (xa_mL (mt r)) q ts st h = true ∧ cost = ts.getD 1 0 ∧ lc = lv_args 0 (st.take q).reverse ∧ rest = st.drop q := by
  unfold xa_cl at hc
  split at hc
  · cases hc
  · rename_i hrow
    split at hc
    · rename_i hk
      obtain ⟨h1, hc⟩ := xa_ifs hc
      cases hc
      exact ⟨_, _, _, _, _, hrow, hk, h1, rfl, rfl, rfl⟩
    · cases hc
theorem xv_c {r nip cost k1 z1 : Nat} {lc : List (Nat × Value)} {rest : List Value} {v : Option Value} {h1 : List va_E} (hc : xa_cl mt y ip st h = some (r, nip, cost, lc, rest)) (hd : 1 ≤ d) (hw : cost ≤ w) (hcal : xv mt L xs (d - 1) (w - cost) r 0 lc [] h (.returned v) h1 k1 z1) (he : xv mt L xs d w y nip lv (v.toList ++ rest) h1 o h' k z) : xv mt L xs d w y ip lv st h o h' (k1 + k) (z1 + z) := by
  obtain ⟨n1, hcal⟩ := hcal
  obtain ⟨n2, he⟩ := he
  refine ⟨n1 + n2 + 1, ?_⟩
  have e1 := xa_ev_le (n2 := n1 + n2) (by omega) hcal
  have e2 := xa_ev_le (n2 := n1 + n2) (by omega) he
  obtain ⟨pc, i, len, q, ts, hrow, hk, hcok, rfl, rfl, rfl⟩ := xa_cl_spec hc
  show xa_stp mt L xs (xa_ev mt L xs (n1 + n2)) d w y ip lv st h = _
  unfold xa_stp
  simp only [hrow, hk]
  rw [xa_ift]
  · simp only [e1, e2, xa_add]
  · simp only [Bool.and_eq_true]
    exact ⟨hcok, Nat.ble_eq_true_of_le hd, Nat.ble_eq_true_of_le hw⟩
theorem xv_c0 {r nip cost : Nat} {lc : List (Nat × Value)} {rest : List Value} {v : Option Value} {h1 : List va_E} (hc : xa_cl mt y ip st h = some (r, nip, cost, lc, rest)) (hd : 1 ≤ d) (hw : cost ≤ w) (hcal : xv mt L xs (d - 1) (w - cost) r 0 lc [] h (.returned v) h1 0 0) (he : xv mt L xs d w y nip lv (v.toList ++ rest) h1 o h' k z) : xv mt L xs d w y ip lv st h o h' k z := by
  have h1 := xv_c hc hd hw hcal he
  rw [Nat.zero_add, Nat.zero_add] at h1
  exact h1
/-- the callee throws, nobody here catches -/
theorem xv_ct {r nip cost x : Nat} {lc : List (Nat × Value)} {rest : List Value} (hc : xa_cl mt y ip st h = some (r, nip, cost, lc, rest)) (hd : 1 ≤ d) (hw : cost ≤ w) (hn : xa_hd (mt y) = []) (hcal : xv mt L xs (d - 1) (w - cost) r 0 lc [] h (.threw x) h' k z) : xv mt L xs d w y ip lv st h (.threw x) h' k z := by
  obtain ⟨n1, hcal⟩ := hcal
  refine ⟨n1 + 1, ?_⟩
  obtain ⟨pc, i, len, q, ts, hrow, hk, hcok, rfl, rfl, rfl⟩ := xa_cl_spec hc
  show xa_stp mt L xs (xa_ev mt L xs n1) d w y ip lv st h = _
  unfold xa_stp
  simp only [hrow, hk]
  rw [xa_ift]
  · simp only [hcal, hn, xa_hnd_nil]
    rfl
  · simp only [Bool.and_eq_true]
    exact ⟨hcok, Nat.ble_eq_true_of_le hd, Nat.ble_eq_true_of_le hw⟩
/-- the callee throws, and it is caught here -/
theorem xv_cc {r nip cost x ip' k1 z1 : Nat} {lc : List (Nat × Value)} {rest : List Value} {h1 : List va_E} (hc : xa_cl mt y ip st h = some (r, nip, cost, lc, rest)) (hd : 1 ≤ d) (hw : cost ≤ w) (hcal : xv mt L xs (d - 1) (w - cost) r 0 lc [] h (.threw x) h1 k1 z1) (hn : xa_hnd (xa_hd (mt y)) h1 x = some ip') (he : xv mt L xs d w y ip' lv [.ref x] h1 o h' k z) : xv mt L xs d w y ip lv st h o h' (k1 + k) (z1 + z) := by
  obtain ⟨n1, hcal⟩ := hcal
  obtain ⟨n2, he⟩ := he
  refine ⟨n1 + n2 + 1, ?_⟩
  have e1 := xa_ev_le (n2 := n1 + n2) (by omega) hcal
  have e2 := xa_ev_le (n2 := n1 + n2) (by omega) he
  obtain ⟨pc, i, len, q, ts, hrow, hk, hcok, rfl, rfl, rfl⟩ := xa_cl_spec hc
  show xa_stp mt L xs (xa_ev mt L xs (n1 + n2)) d w y ip lv st h = _
  unfold xa_stp
  simp only [hrow, hk]
  rw [xa_ift]
  · simp only [e1, hn, e2, xa_add]
  · simp only [Bool.and_eq_true]
    exact ⟨hcok, Nat.ble_eq_true_of_le hd, Nat.ble_eq_true_of_le hw⟩
/-- a branch -/
theorem xv_b {ip1 ip2 : Nat} {c : Bool} {lv' : List (Nat × Value)} {st' : List Value} {h1 : List va_E} (hn : xa_1 mt L xs y ip lv st h = some (bif c then ip1 else ip2, lv', st', h1, 0, 0)) (ht : c = true → xv mt L xs d w y ip1 lv' st' h1 o h' k z) (hf : c = false → xv mt L xs d w y ip2 lv' st' h1 o h' k z) : xv mt L xs d w y ip lv st h o h' k z := by
  cases c with
  | true => exact xv_s hn (ht rfl)
  | false => exact xv_s hn (hf rfl)
end XV
end
section
/-! 'throw new E("..")', and a search through a handler table -/
section XT
variable {p : Program} {l : Launch} {e : Env} {R : Room} {s : State} {m : MethodId} {args : Array Value} {below : List Frame} {meth : Method} {c : Code} {T : State} {locs : List Loc} {cells slots : Nat}
/-- nothing old has moved: each old cell is the same cell -/
theorem xt_old {s t : State} {cells slots : Nat} (h : s.sameButNew t [] cells slots) {q : Nat} (hq : q < s.heap.size) : t.heap[q]? = s.heap[q]? := by
  obtain ⟨c0, hc⟩ : ∃ c0, s.heap[q]? = some c0 := ⟨_, Array.getElem?_eq_getElem hq⟩
  obtain ⟨c', h1, h2, h3, h4⟩ := h.2.2.2.2.2 q c0 hc
  rw [h1, hc]
  have h5 : c'.slots = c0.slots := by
    apply Array.ext_getElem?
    intro i
    exact h4 i (by simp)
  rw [h2, h5]
/-- the start of the road, laid where the walk stands -/
def xt_s (s T : State) : State := { s with heap := T.heap, slotsUsed := T.slotsUsed }
theorem xt_same (X : Stand p l e R s m args below meth c T locs cells slots) : T.setVm s.vm = (xt_s s T).setFrames T.frames := by
  have h1 := X.same.1
  exact h1
theorem xt_stand (X : Stand p l e R s m args below meth c T locs cells slots) (hc : cells ≤ R.cells) (hz : slots ≤ R.slots) : Stand p l e { frames := R.frames, cells := R.cells - cells, slots := R.slots - slots, locals := R.locals } (xt_s s T) m args below meth c T [] 0 0 := by
  have hf : (xt_s s T).frames = .invoking m args :: below := X.frames
  obtain ⟨t, ht, -⟩ := State.frames_cons hf
  refine ⟨X.admits, X.cas, X.clock, hf, ?_, X.hears, X.method, X.code, X.here, X.tail, X.warmed, X.limits, X.bytes, ?_⟩
  · have h1 := X.room
    have h2 := X.heapSize
    have h3 := X.used
    have h4 := X.book
    unfold State.hasRoom at h1 ⊢
    simp only [Bool.and_eq_true, decide_eq_true_eq] at h1 ⊢
    obtain ⟨⟨⟨⟨a1, a2⟩, a3⟩, a4⟩, -⟩ := h1
    refine ⟨⟨⟨⟨a1, a2⟩, ?_⟩, ?_⟩, h4⟩
    · show T.heap.size + (R.cells - cells) ≤ _
      omega
    · show T.slotsUsed + (R.slots - slots) ≤ _
      omega
  · have h := (State.sameButNew.refl (xt_s s T) ht).setFrames T.frames (State.cur_lt_of_frames hf)
    show (xt_s s T).sameButNew (T.setVm s.vm) [] 0 0
    rw [xt_same X]
    exact h
theorem xt_join (X : Stand p l e R s m args below meth c T locs cells slots) {U : State} {k n : Nat} (h : (xt_s s T).sameButNew ({ U with vm := s.vm } : State) [] k n) : s.sameButNew ({ U with vm := s.vm } : State) locs (cells + k) (slots + n) := by
  have h1 : (T.setVm s.vm).sameButNew ({ U with vm := s.vm } : State) [] k n := by
    obtain ⟨a1, a2⟩ := h
    refine ⟨?_, a2⟩
    rw [xt_same X, State.setFrames_setFrames]
    exact a1
  have h2 := X.same.trans h1
  rw [List.append_nil] at h2
  exact h2
theorem xt_ldcwS (X : Stand p l e R s m args below meth c T locs cells slots) (hexec : p.tables.exec = Jvm.exec) {own text : String} {index : Nat} {a : Addr} (hown : s.vm.findClass own = some m.cls)
    (hconst : (Jvm.Cond.stringRef own index text).before args s = true) (hev : (Term.string own index).eval args s none [] s = some (.ref a)) {g : JFrame} (hg : g.method = m) (hdg : decode c.code g.pc = .ok (.ldc_w index, 3)) :
    ∀ target, Steps p.tables e below (T.setTop { g with pc := g.pc + 3, stack := .ref a :: g.stack }) target → Steps p.tables e below (T.setTop g) target := by
  obtain ⟨k, cf, i, a', hk, hcf, hcp, -, hr, hev'⟩ := Cond.stringRef_spec hown hconst
  cases hev.symm.trans hev'
  obtain ⟨k', hk', he⟩ := X.warmed.alike.2.2 _ _ hk
  have hr' : k'.resolved[index]? = some (some (.string a)) := by
    rcases X.warmed.entry hk hk' index with h | ⟨h, -⟩
    · rw [h]; exact hr
    · rw [hr] at h; cases h
  intro target hrest
  subst hg
  jvm_step X.here [hexec, hdg, ldc_w.wp_string (e := e) (s := T) (f := g) X.here.top hk' (by rw [he]; exact hcf) hcp hr']
  exact hrest
set_option maxHeartbeats 2000000 in
/-- the five instructions of 'throw new E("..")' where no handler covers them -/
theorem xt_throw (X : Stand p l e R s m args below meth c T locs cells slots) (hexec : p.tables.exec = Jvm.exec) (htr : e.platform.stackTraces = false) {own E text : String} {names : List String} {ci sx ic w : Nat}
    (hown : s.vm.findClass own = some m.cls) (hE : Bundle.fit E = true) (hnames : ∀ n ∈ names, Bundle.fit n = true)
    (h : ∀ a ∈ Bundle.ownAtoms own ic E names, a.before args (xt_s s T) = true) (hcl : (Jvm.Cond.classLink own ci E).before args s = true) (hini : (Jvm.Cond.initialized E).before args s = true) (hins : (Jvm.Cond.instantiable E 6).before args s = true) (hstr : (Jvm.Cond.stringRef own sx text).before args s = true)
    {pc : Nat} {ls : Array Slot} {st : List Value} (hsize : ls.size = c.maxLocals) (d0 : decode c.code pc = .ok (.new ci, 3)) (d3 : decode c.code (pc + 3) = .ok (.dup, 1)) (d4 : decode c.code (pc + 4) = .ok (.ldc sx, 2) ∧ w = 2 ∨ decode c.code (pc + 4) = .ok (.ldc_w sx, 3) ∧ w = 3)
    (d6 : decode c.code (pc + 4 + w) = .ok (.invokespecial ic, 3)) (d9 : decode c.code (pc + 4 + w + 3) = .ok (.athrow, 1)) (hout : ∀ x ∈ c.exceptionTable.toList, covers x (pc + 4 + w + 3) = false)
    (hfr : names.length + 3 < R.frames) (hlo : (st.map fun v => v.category).sum + 1 + (13 * (names.length + 1) + 42) ≤ R.locals) (hc : cells + 1 ≤ R.cells) (hz : slots + 6 ≤ R.slots) (hlocks : meth.locks = false) :
    ∃ U : State, Steps p.tables e below (T.setTop (F0 m pc ls st)) U ∧ U.status = .running ∧ Ended U below (.threw T.heap.size) ∧ s.WarmedH U.vm ∧ s.sameButNew ({ U with vm := s.vm } : State) locs (cells + 1) (slots + 6) ∧
      (∀ q, q < T.heap.size → U.heap[q]? = T.heap[q]?) ∧ ∃ ce, U.heap[T.heap.size]? = some ce ∧ s.vm.findClass E = some ce.cls ∧ ce.vm = .none := by
  have X0 := xt_stand X (by omega) (by omega)
  have hown0 : (xt_s s T).vm.findClass own = some m.cls := hown
  obtain ⟨vm₁, cX, kX, hfX, hkX, -, -, X₁, st1⟩ := X0.newCold hexec (own := own) (C := E) (index := ci) (n := 6) hown0 hcl hins hini (g := F0 m pc ls st) rfl d0 (by show 0 + 1 ≤ R.cells - cells; omega) (by show 0 + 6 ≤ R.slots - slots; omega)
  generalize hT : (T.setVm vm₁).pushCell { cls := cX, slots := kX.instanceTypes.map defaultValue, vm := .none } = T1 at X₁ st1
  have hcellA : T1.heap[T.heap.size]? = some (freshCell cX kX) := by rw [← hT]; exact State.heap_pushCell_size _ _
  have hstr0 : (Jvm.Cond.stringRef own sx text).before args (xt_s s T) = true := hstr
  obtain ⟨-, -, -, sa, -, -, -, -, -, hev⟩ := Cond.stringRef_spec hown0 hstr0
  obtain ⟨U, hsteps, hrun, hend, hW, hsame, ce, hce, K⟩ := X₁.ctorThrowS hexec htr (own := own) (cls := E) (names := names) (ic := ic) hown0 hE hnames h (fun y hy => by cases hy) hfX hkX hcellA (by exact Nat.le_refl _) (msg := .ref sa) rfl
    (g := F0 m (pc + 4 + w) ls (.ref sa :: .ref T.heap.size :: .ref T.heap.size :: st)) rfl hsize rfl rfl (rest := st) rfl d6 d9 hout hfr (by rw [List.map_cons, List.sum_cons]; show 2 * 0 + (1 + _) + _ ≤ R.locals; omega) hlocks
  refine ⟨U, ?_, hrun, hend, hW, xt_join X hsame, fun q hq => xt_old hsame hq, ce, hce, K.cls, K.vm⟩
  refine st1 _ ?_
  show Steps p.tables e below (T1.setTop (F0 m (pc + 3) ls (.ref T.heap.size :: st))) _
  jvm_step X₁.here [X₁.here.top, hexec, d3, Value.category]
  rcases d4 with ⟨d4, rfl⟩ | ⟨d4, rfl⟩
  · exact X₁.ldcString hexec (own := own) (text := text) (index := sx) (a := sa) hown0 hstr0 hev (g := F0 m (pc + 4) ls (.ref T.heap.size :: .ref T.heap.size :: st)) rfl d4 _ hsteps
  · exact xt_ldcwS X₁ hexec (own := own) (text := text) (index := sx) (a := sa) hown0 hstr0 hev (g := F0 m (pc + 4) ls (.ref T.heap.size :: .ref T.heap.size :: st)) rfl d4 _ hsteps
end XT
/-! the search -/
def xt_Fd (e : Env) (s : State) (f : JFrame) (a : Addr) (h : Handler) (vm' : Vm) : Prop :=
  ∀ (Q : Handler → Jvm.Pre) (E : Jvm.CtlPost) (d : Bool) (acts : List Action), Jvm.Sem.wp (findHandler f a) Q E e d acts s ↔ Q h d acts (s.setVm vm')
section XG
variable {Q : Handler → Jvm.Pre} {E : Jvm.CtlPost} {e : Env} {d : Bool} {acts : List Action} {s : State} {f : JFrame} {a : Addr}
/-- one row of the table that covers the pc: its class is resolved, then asked -/
theorem xt_row {x : ExceptionTableEntry} {t : List ExceptionTableEntry} {c : ClassId} {cell : Cell} (hx : covers x f.pc = true) (h0 : x.catchType ≠ 0)
    (hl : s.vm.ClassLinks e.platform f.method.cls x.catchType c) (hcell : s.heap[a]? = some cell) (hobj : ∀ k, cell.vm ≠ .statics k)
    (hk : ∃ k, s.vm.classes[cell.cls]? = some k) (hc : ∃ k, s.vm.classes[c]? = some k) :
    Jvm.Sem.wp (findHandler.go f a (x :: t)) Q E e d acts s ↔ (if s.vm.assignable cell.cls c = true then Q (.found x.handlerPc) d acts (s.setVm (s.vm.noted f.method.cls x.catchType (.cls c))) else Jvm.Sem.wp (findHandler.go f a t) Q E e d acts (s.setVm (s.vm.noted f.method.cls x.catchType (.cls c)))) := by
  simp only [covers] at hx
  obtain ⟨ha, ht⟩ := (resolveClass_links e.toSetting hl).op (op := VmOp.resolveClass f.method.cls x.catchType) rfl
  have hal : s.vm.Alike (s.vm.noted f.method.cls x.catchType (.cls c)) := (Vm.Alike.refl s.vm).noted _ _ _
  obtain ⟨k1, hk1⟩ := hk
  obtain ⟨k2, hk2⟩ := hc
  obtain ⟨k1', hk1', -⟩ := hal.2.2 _ _ hk1
  obtain ⟨k2', hk2', -⟩ := hal.2.2 _ _ hk2
  have hfit : (s.vm.noted f.method.cls x.catchType (.cls c)).assignable cell.cls c = s.vm.assignable cell.cls c := hal.assignable ..
  cases hb : s.vm.assignable cell.cls c with
  | true =>
    rw [hb] at hfit
    simp [findHandler.go, hx, h0, ha, ht, hcell, hobj, hk1', hk2', hfit, VmOp.dirties, VmOp.acts]
  | false =>
    rw [hb] at hfit
    simp [findHandler.go, hx, h0, ha, ht, hcell, hobj, hk1', hk2', hfit, VmOp.dirties, VmOp.acts]
def xt_res (zs : List (ExceptionTableEntry × Bool)) : Handler := match zs.find? (fun z => z.2) with
  | some z => .found z.1.handlerPc
  | none => .none
theorem xt_go {s₀ : State} {cell : Cell} (hobj : ∀ k, cell.vm ≠ .statics k) (hk0 : ∃ k, s₀.vm.classes[cell.cls]? = some k) :
    ∀ (zs : List (ExceptionTableEntry × Bool)) (S : State), s₀.WarmedH S.vm → S.heap[a]? = some cell → (∀ z ∈ zs, covers z.1 f.pc = true ∧ z.1.catchType ≠ 0 ∧ ∃ c, s₀.vm.ClassLinks e.platform f.method.cls z.1.catchType c ∧ s₀.vm.assignable cell.cls c = z.2) →
      ∃ vm', s₀.WarmedH vm' ∧ ∀ (Q : Handler → Jvm.Pre) (E : Jvm.CtlPost) (d : Bool) (acts : List Action), Jvm.Sem.wp (findHandler.go f a (zs.map fun z => z.1)) Q E e d acts S ↔ Q (xt_res zs) d acts (S.setVm vm') := by
  obtain ⟨k0, hk0⟩ := hk0
  intro zs
  induction zs with
  | nil =>
    intro S hW _ _
    exact ⟨S.vm, hW, fun Q E d acts => by rw [List.map_nil, W.findHandler_go_nil, State.setVm_self]; rfl⟩
  | cons y ys ih =>
    intro S hW hcell hes
    obtain ⟨hcov, h0, c, hl, has⟩ := hes y List.mem_cons_self
    obtain ⟨k0', hk0', -⟩ := hW.alike.2.2 _ _ hk0
    obtain ⟨dk, _, _, kt, hd, _, _, _, _, hkt, _, hopen⟩ := hl.here
    obtain ⟨kt', hkt', -⟩ := hW.alike.2.2 _ _ hkt
    have hW1 := hW.noted hd hopen (State.rightAt_cls hl)
    have hrow := fun Q E d acts => xt_row (Q := Q) (E := E) (e := e) (d := d) (acts := acts) (s := S) (f := f) (a := a) (x := y.1) (t := ys.map fun z => z.1) hcov h0 (hW.classLinks hl) hcell hobj ⟨k0', hk0'⟩ ⟨kt', hkt'⟩
    have has' : S.vm.assignable cell.cls c = y.2 := by rw [hW.alike.assignable]; exact has
    cases ht : y.2 with
    | true =>
      refine ⟨_, hW1, fun Q E d acts => ?_⟩
      rw [List.map_cons, hrow, has', ht, if_pos rfl]
      simp [xt_res, List.find?_cons, ht]
    | false =>
      obtain ⟨vm', hW', hq⟩ := ih (S.setVm (S.vm.noted f.method.cls y.1.catchType (.cls c))) hW1 hcell (fun z hz => hes z (List.mem_cons_of_mem _ hz))
      refine ⟨vm', hW', fun Q E d acts => ?_⟩
      rw [List.map_cons, hrow, has', ht, if_neg (by decide), hq, State.setVm_twice]
      simp [xt_res, List.find?_cons, ht]
theorem xt_step {r : List Frame} {pc : Nat} {vm' : Vm} (hfind : xt_Fd e s f a (.found pc) vm') :
    (stepThrowing e s a (.java f :: r)).Is ((s.setVm vm').setFrames (.java { f with pc := pc, stack := [.ref a] } :: r)) [] := by
  simp only [stepThrowing, searchFrame, vmDo]
  generalize hr : Sem.go _ e false [] s = res
  obtain ⟨as, rfl, ha⟩ := Sem.eq_ok_of hr (a := Handler.found pc) (s' := s.setVm vm') (acts' := []) (by simp [hfind _ _ _ _])
  exact ⟨rfl, ha⟩
end XG
section XH
variable {p : Program} {l : Launch} {e : Env} {R : Room} {s : State} {m : MethodId} {args : Array Value} {below : List Frame} {meth : Method} {c : Code} {T : State} {locs : List Loc} {cells slots : Nat}
/-- the note lies over the frame g: the search takes the first row that fits, the walk goes on there -/
theorem xt_caught (X : Stand p l e R s m args below meth c T locs cells slots) {a : Addr} {g : JFrame} (hg : g.method = m) {cell : Cell} (hcell : T.heap[a]? = some cell) (hobj : cell.vm.isStatics = false) (hk0 : ∃ k, s.vm.classes[cell.cls]? = some k)
    {zs : List (ExceptionTableEntry × Bool)} (htab : c.exceptionTable.toList = zs.map fun z => z.1) (hes : ∀ z ∈ zs, covers z.1 g.pc = true ∧ z.1.catchType ≠ 0 ∧ ∃ cc, s.vm.ClassLinks e.platform m.cls z.1.catchType cc ∧ s.vm.assignable cell.cls cc = z.2) {x : ExceptionTableEntry × Bool} (hx : zs.find? (fun z => z.2) = some x) :
    ∃ vm', Stand p l e R s m args below meth c (T.setVm vm') locs cells slots ∧ ∀ target, Steps p.tables e below ((T.setVm vm').setTop { g with pc := x.1.handlerPc, stack := [.ref a] }) target → Steps p.tables e below ((T.setTop g).pushFrame (.throwing a)) target := by
  subst hg
  obtain ⟨vm', hW', hq⟩ := xt_go (e := e) (f := g) (a := a) (s₀ := s) (VmData.ne_statics_of hobj) hk0 zs ((T.setTop g).pushFrame (.throwing a)) X.warmed hcell hes
  have hf : xt_Fd e ((T.setTop g).pushFrame (.throwing a)) g a (.found x.1.handlerPc) vm' := by
    intro Q E d acts
    rw [W.findHandler_eq (s := (T.setTop g).pushFrame (.throwing a)) (meth := meth) (code := c) X.method' X.code, htab, hq]
    rw [xt_res, hx]
  refine ⟨vm', X.noted hW', fun target hrest => ?_⟩
  have h : At T g.method c below := X.here
  obtain ⟨hgo, hw⟩ := h.throwing a
  refine Steps.head hgo hw ?_
  rw [stepThread_throwing (frames_entered h.top _), (xt_step (s := (T.setTop g).pushFrame (.throwing a)) hf).1]
  obtain ⟨g₀, hg⟩ := Option.isSome_iff_exists.mp h.top
  obtain ⟨r, hr⟩ := State.topJava?_eq_some.mp hg
  have hr' : (T.setVm vm').frames = .java g₀ :: r := hr
  rw [State.setTop_of_frames _ hr'] at hrest
  have key : ∀ (u : State) (F G : List Frame), ((u.setFrames F).setVm vm').setFrames G = (u.setVm vm').setFrames G := fun u F G => by
    have h1 : (u.setFrames F).setVm vm' = (u.setVm vm').setFrames F := rfl
    rw [h1, State.setFrames_setFrames]
  rw [hr, List.tail_cons, State.pushFrame, key, State.setTop_of_frames _ hr, key]
  exact hrest
end XH
end
section
/-! THE INVOKING INSTRUCTIONS' OWN STEPS -/
section XI
variable {p : Program} {l : Launch} {e : Env} {R : Room} {s : State} {m : MethodId} {args : Array Value} {below : List Frame} {meth : Method} {c : Code} {T : State} {locs : List Loc} {cells slots : Nat}
def xc_lk (own : String) (idx : Nat) (y : MethodName) (args : Array Value) (s : State) : Prop := (Jvm.Cond.methodLink own idx y).before args s = true ∨ ∃ host, (Jvm.Cond.methodLinkNest own idx y host).before args s = true
/-- where the machine goes: into the callee y, the arguments vs off the stack -/
def xc_In (p : Program) (l : Launch) (e : Env) (R : Room) (s : State) (m : MethodId) (args : Array Value) (below : List Frame) (meth : Method) (c : Code) (T : State) (locs : List Loc) (cells slots : Nat) (y : MethodName) (g : JFrame) (rest : List Value) (vs : List Value) : Prop :=
  ∃ (mk : MethodId) (vm₁ : Vm), s.methodNamed? y = some mk ∧ Stand p l e R s m args below meth c (T.setVm vm₁) locs cells slots ∧ ∀ target, Steps p.tables e below (doInvoke e ((T.setVm vm₁).setTop { g with stack := rest }) [] mk vs.toArray).1 target → Steps p.tables e below (T.setTop g) target
theorem xc_V (X : Stand p l e R s m args below meth c T locs cells slots) (hexec : p.tables.exec = Jvm.exec) {own C : String} {index : Nat} {y : MethodName}
    (hown : s.vm.findClass own = some m.cls) (hlink : xc_lk own index y args s) (hinst : (Jvm.Cond.instanceMethod y).before args s = true) (hsel : (Jvm.Cond.selects C y y).before args s = true)
    (hy : y.cls ≠ "java/lang/invoke/MethodHandle" ∧ y.cls ≠ "java/lang/invoke/VarHandle")
    {b : Addr} {cellB : Cell} (hcell : T.heap[b]? = some cellB) (hobj : cellB.vm.isStatics = false) (hcls : s.vm.findClass C = some cellB.cls)
    {cc : ByteArray} {maxL : Nat} {ret : Option FieldType} {hh : List (Nat × Nat × Nat × Nat)} (hcode : (xb_cw y cc maxL ret hh).before args s = true)
    {g : JFrame} (hg : g.method = m) {argsL rest : List Value} (hlen : ∀ sig, parseMethodDescriptor y.desc = some sig → argsL.length = sig.parameters.length)
    (hstack : g.stack = argsL.reverse ++ .ref b :: rest) (hdg : decode c.code g.pc = .ok (.invokevirtual index, 3)) :
    xc_In p l e R s m args below meth c T locs cells slots y g rest (.ref b :: argsL) := by
  obtain ⟨mk, methM, hnamed, hmethM, hstM, habM⟩ := Cond.instanceMethod_spec hinst
  obtain ⟨methM', cM, hmethM', -, -, -, -, -, -, hsigM⟩ := xb_cw_spec hnamed hcode
  cases hmethM.symm.trans hmethM'
  obtain ⟨c2, r2, m2, q1, q2, q3, q4, kP, hkP, hkPi⟩ := Cond.selects_spec hsel
  cases hcls.symm.trans q1
  cases (State.methodFound?_of_named hnamed hy).symm.trans q2
  cases hnamed.symm.trans q3
  have hselP : selectMethod e.platform s.vm cellB.cls mk = .method mk := by rw [Launch.admits_selectMethod X.admits]; exact q4
  rcases hlink with hlink | ⟨host, hlink⟩
  · obtain ⟨vm₁, X₁, hstep₁⟩ := X.invokevirtual hexec hown hlink hnamed hmethM hstM hkP hkPi hy (a := b) (cell := cellB) hcell
      (fun z h => by rw [h] at hobj; cases hobj) hselP hmethM habM hkP hkPi (g := g) hg (argsL := argsL) (rest := rest) (hlen _ hsigM) hstack hdg
    exact ⟨mk, vm₁, hnamed, X₁, fun target h => hstep₁ _ fun acts => by rw [doInvoke_state]; exact h⟩
  · obtain ⟨vm₁, X₁, hstep₁⟩ := X.invokevirtualNest hexec hown hlink hnamed hmethM hstM hkP hkPi hy (a := b) (cell := cellB) hcell
      (fun z h => by rw [h] at hobj; cases hobj) hselP hmethM habM hkP hkPi (g := g) hg (argsL := argsL) (rest := rest) (hlen _ hsigM) hstack hdg
    exact ⟨mk, vm₁, hnamed, X₁, fun target h => hstep₁ _ fun acts => by rw [doInvoke_state]; exact h⟩
theorem xc_S (X : Stand p l e R s m args below meth c T locs cells slots) (hexec : p.tables.exec = Jvm.exec) {own : String} {index : Nat} {y : MethodName}
    (hown : s.vm.findClass own = some m.cls) (hlink : xc_lk own index y args s) (hstat : (Jvm.Cond.static y).before args s = true) (hinit : (Jvm.Cond.initialized y.cls).before args s = true)
    (hy : y.cls ≠ "java/lang/invoke/MethodHandle" ∧ y.cls ≠ "java/lang/invoke/VarHandle")
    {cc : ByteArray} {maxL : Nat} {ret : Option FieldType} {hh : List (Nat × Nat × Nat × Nat)} (hcode : (xb_cw y cc maxL ret hh).before args s = true) {mk : MethodId} (hnamed : s.methodNamed? y = some mk)
    {g : JFrame} (hg : g.method = m) {argsL rest : List Value} (hlen : ∀ sig, parseMethodDescriptor y.desc = some sig → argsL.length = sig.parameters.length)
    (hstack : g.stack = argsL.reverse ++ rest) (hdg : decode c.code g.pc = .ok (.invokestatic index, 3)) :
    xc_In p l e R s m args below meth c T locs cells slots y g rest argsL := by
  obtain ⟨methM, cM, hmethM, -, -, -, -, -, -, hsigM⟩ := xb_cw_spec hnamed hcode
  have hstatic : methM.isStatic = true := Cond.static_spec hnamed hmethM hstat
  obtain ⟨kP, hkP, -⟩ := className_of_methodNamed hnamed
  have hinitP : kP.init = .initialized := Cond.initialized_spec (findClass_of_methodNamed hnamed) hkP hinit
  rcases hlink with hlink | ⟨host, hlink⟩
  · obtain ⟨vm₁, X₁, hstep₁⟩ := X.invokestatic hexec hown hlink hnamed hmethM hstatic hkP hinitP hy (g := g) hg (argsL := argsL) (rest := rest) (hlen _ hsigM) hstack hdg
    exact ⟨mk, vm₁, hnamed, X₁, fun target h => hstep₁ _ fun acts => by rw [doInvoke_state]; exact h⟩
  · obtain ⟨vm₁, X₁, hstep₁⟩ := X.invokestaticNest hexec hown hlink hnamed hmethM hstatic hkP hinitP hy (g := g) hg (argsL := argsL) (rest := rest) (hlen _ hsigM) hstack hdg
    exact ⟨mk, vm₁, hnamed, X₁, fun target h => hstep₁ _ fun acts => by rw [doInvoke_state]; exact h⟩
theorem xc_I (X : Stand p l e R s m args below meth c T locs cells slots) (hexec : p.tables.exec = Jvm.exec) {own : String} {index : Nat} {y : MethodName}
    (hown : s.vm.findClass own = some m.cls) (hy1 : y.name = "<init>") (hlink : xc_lk own index y args s) (hinst : (Jvm.Cond.instanceMethod y).before args s = true)
    (hy : y.cls ≠ "java/lang/invoke/MethodHandle" ∧ y.cls ≠ "java/lang/invoke/VarHandle")
    {cc : ByteArray} {maxL : Nat} (hcode : (Jvm.Cond.code y cc maxL none).before args s = true)
    {g : JFrame} (hg : g.method = m) {a : Addr} {argsL rest : List Value} (hlen : ∀ sig, parseMethodDescriptor y.desc = some sig → argsL.length = sig.parameters.length)
    (hstack : g.stack = argsL.reverse ++ .ref a :: rest) (hdg : decode c.code g.pc = .ok (.invokespecial index, 3)) :
    xc_In p l e R s m args below meth c T locs cells slots y g rest (.ref a :: argsL) := by
  subst hg
  have hpl : e.platform.magicAccessors = ({} : Platform).magicAccessors := by rw [X.admits.platform]
  rcases hlink with hlink | ⟨host, hlink⟩
  · obtain ⟨mk, methM, cM, kP, vm₁, hnamed, hmethM, hcodeM, -, hlocalsM, -, hkP, -, hW₁, hstep₁⟩ := Steps.initColdArgs (e := e) X.here hexec X.warmed hpl hown hy1 hy hlink hinst hcode (f := g) rfl hlen hstack hdg
    exact ⟨mk, vm₁, hnamed, X.noted hW₁, fun target h => hstep₁ _ fun acts => by rw [doInvoke_state]; exact h⟩
  · obtain ⟨mk, methM, cM, kP, vm₁, hnamed, hmethM, hcodeM, -, hlocalsM, -, hkP, -, hW₁, hstep₁⟩ := Steps.initColdArgsNest (e := e) X.here hexec X.warmed hpl hown hy1 hy hlink hinst hcode (f := g) rfl hlen hstack hdg
    exact ⟨mk, vm₁, hnamed, X.noted hW₁, fun target h => hstep₁ _ fun acts => by rw [doInvoke_state]; exact h⟩
end XI
end
section
/-! THE RUN OF THE REAL MACHINE OUT OF THE RUN OF THE PURE ONE -/
theorem xd_mono {p : Program} {l : Launch} {e : Env} {R : Room} {s : State} {m : MethodId} {args : Array Value} {below : List Frame} {meth : Method} {c : Code} {H : Heap} {locs : List Loc} {cells slots : Nat} {Q Q' : State → Prop} {g : JFrame} (h : ∀ t, Q t → Q' t) (k : W p l e R s m args below meth c H locs cells slots Q g) : W p l e R s m args below meth c H locs cells slots Q' g := by
  intro T hT X
  obtain ⟨t, a, b⟩ := k T hT X
  exact ⟨t, a, h t b⟩
theorem xd_MQ {below : List Frame} {Qc : Array Value → State → Outcome → State → Prop} {a : Array Value} {s : State} {mc ms : Nat} {free : Addr → Prop} (t : State) (h : MQ below Qc a s mc ms free t) : xb_MQ below Qc a s mc ms free t := by
  obtain ⟨o, h1, h2, h3, L, h4, h5⟩ := h
  exact ⟨o, h1, h2, h3, L, h4.2, h5⟩
def xe_names : List String := ["java/lang/RuntimeException", "java/lang/Exception"]
def xa_ckR (M : xa_M) (pc : Nat) (i : Jvm.ClassFile.Instr) (len : Nat) : Bool := decide (decode (xa_by M) pc = .ok (i, len)) && decide (len = 1)
def xa_ckT (cl : List vw_C) (Ts Th : List Jvm.Cond) (M : xa_M) (pc : Nat) (i : Jvm.ClassFile.Instr) (r : Nat) (ts : List Nat) : Bool := match i, ts, cl[r]? with
  | .new ci, [sx, ic, w], some (E, _, 0) => decide (decode (xa_by M) pc = .ok (.new ci, 3)) && ((xa_hz M).isEmpty && (decide (decode (xa_by M) (pc + 3) = .ok (.dup, 1)) && ((decide (decode (xa_by M) (pc + 4) = .ok (.ldc sx, 2)) && decide (w = 2) || decide (decode (xa_by M) (pc + 4) = .ok (.ldc_w sx, 3)) && decide (w = 3)) &&
    (decide (decode (xa_by M) (pc + 4 + w) = .ok (.invokespecial ic, 3)) && (decide (decode (xa_by M) (pc + 4 + w + 3) = .ok (.athrow, 1)) && (decide (Jvm.Cond.classLink (xa_nm M).cls ci E ∈ Ts) && (decide (Jvm.Cond.initialized E ∈ Ts) && (decide (Jvm.Cond.instantiable E 6 ∈ Ts) &&
    (Ts.any (fun q => match q with
      | .stringRef o x _ => decide (o = (xa_nm M).cls) && decide (x = sx)
      | _ => false) && (Bundle.fit E && (Bundle.ownAtoms (xa_nm M).cls ic E xe_names).all (fun q => decide (q ∈ Ts) || decide (q ∈ Th))))))))))))
  | _, _, _ => false
def xa_lk (Ts : List Jvm.Cond) (own : String) (x : Nat) (y : MethodName) : Bool := decide (Jvm.Cond.methodLink own x y ∈ Ts) || Ts.any (fun q => match q with
  | .methodLinkNest o i z _ => decide (o = own) && (decide (i = x) && decide (z = y))
  | _ => false)
def xa_cwM (M : xa_M) : Jvm.Cond := xb_cw (xa_nm M) (xa_by M) (xa_mL M) (xa_rt M) (xa_hh M)
def xa_ckH (cl : List vw_C) (Ts : List Jvm.Cond) (M : xa_M) (pc : Nat) : Bool := (xa_hz M).all fun z => decide (z.1.1 ≤ pc) && (decide (pc < z.1.2.1) && (!decide (z.1.2.2.2 = 0) && (decide (xa_pc M z.2.2 = z.1.2.2.1) && match cl[z.2.1]? with
  | some (E, _, _) => decide (Jvm.Cond.classLink (xa_nm M).cls z.1.2.2.2 E ∈ Ts) && (xa_hz M).all (fun u => Nat.beq u.2.1 z.2.1 || match cl[u.2.1]? with
    | some (E2, _, _) => decide (Jvm.Cond.not (.castable E2 E) ∈ Ts)
    | none => false)
  | none => false)))
def xa_ckK (cl : List vw_C) (Ts : List Jvm.Cond) (mt : Nat → xa_M) (NY : Nat) (M : xa_M) (pc : Nat) (i : Jvm.ClassFile.Instr) (len nip r q : Nat) (ts : List Nat) : Bool :=
  decide (decode (xa_by M) pc = .ok (i, len)) && (decide (len = 3) && (decide (xa_pc M nip = pc + 3) && (decide (r < NY) && (decide (xa_mL (mt r) ≤ 40) && (decide ((xa_nm (mt r)).cls ≠ "java/lang/invoke/MethodHandle") && (decide ((xa_nm (mt r)).cls ≠ "java/lang/invoke/VarHandle") && (decide (Jvm.Cond.initialized (xa_nm (mt r)).cls ∈ Ts) && (decide (xa_cwM (mt r) ∈ Ts) && (xa_ckH cl Ts M pc && match i with
  | .invokevirtual x => xa_lk Ts (xa_nm M).cls x (xa_nm (mt r)) && (decide (Jvm.Cond.instanceMethod (xa_nm (mt r)) ∈ Ts) && (decide (Jvm.Cond.selects (xa_nm (mt r)).cls (xa_nm (mt r)) (xa_nm (mt r)) ∈ Ts) && (decide (1 ≤ q) && (decide ((parseMethodDescriptor (xa_nm (mt r)).desc).map (fun d => d.parameters.length) = some (q - 1)) && decide ((cl[ts.headD 999]?).map (fun w => w.1) = some (xa_nm (mt r)).cls)))))
  | .invokestatic x => xa_lk Ts (xa_nm M).cls x (xa_nm (mt r)) && (decide (Jvm.Cond.static (xa_nm (mt r)) ∈ Ts) && decide ((parseMethodDescriptor (xa_nm (mt r)).desc).map (fun d => d.parameters.length) = some q))
  | .invokespecial x => xa_lk Ts (xa_nm M).cls x (xa_nm (mt r)) && (decide (Jvm.Cond.instanceMethod (xa_nm (mt r)) ∈ Ts) && (decide ((xa_nm (mt r)).name = "<init>") && (decide (1 ≤ q) && (decide ((parseMethodDescriptor (xa_nm (mt r)).desc).map (fun d => d.parameters.length) = some (q - 1)) && ((xa_hz (mt r)).isEmpty && decide (xa_rt (mt r) = none))))))
  | _ => false)))))))))
def xa_ckW (cl : List vw_C) (Ts Th : List Jvm.Cond) (mt : Nat → xa_M) (NY : Nat) (M : xa_M) (w : xa_R) : Bool := match w with
  | (pc, i, len, nip, r, q, ts) => match xa_kind i r q with
    | 0 => xa_ck cl Ts M pc i len nip r q ts
    | 1 => xa_ckR M pc i len
    | 2 => xa_ckT cl Ts Th M pc i r ts
    | 4 => xa_ck cl Ts M pc i len nip r q ts
    | _ => xa_ckK cl Ts mt NY M pc i len nip r q ts
def xa_ckM (cl : List vw_C) (Ts Th : List Jvm.Cond) (mt : Nat → xa_M) (NY : Nat) (M : xa_M) : Bool := decide (xa_pc M 0 = 0) && (plainName (xa_nm M).cls && (xa_rows M).all (xa_ckW cl Ts Th mt NY M))
/-- what is given, once, of the run's start -/
def xa_G (l : Launch) (D : va_G) (cl : List vw_C) (Ts Th : List Jvm.Cond) (cs : ClassId × ClassId × ClassId) (b base L : Nat) (xs : Nat → Int32) (s0 : State) (mt : Nat → xa_M) (NY : Nat) (tk : Nat → List Jvm.Cond) : Prop :=
  xa_ckC cl Ts = true ∧ (∀ y, y < NY → xa_ckM cl (tk y) Th mt NY (mt y) = true ∧ ∀ w ∈ tk y, w ∈ Ts) ∧ (∀ w ∈ Ts, ∀ (U : State) (a : Array Value), s0.WarmedH U.vm → w.before a U = true) ∧ (∀ w ∈ Th, ∀ (U : State) (a : Array Value), xa_Rl s0 base U → w.before a U = true) ∧ va_K D cl (xa_tys cs) s0 ∧ va_X b L xs s0 s0.heap ∧ b < base ∧ (∀ e : Env, l.admits e → e.platform.stackTraces = false)
section XZ
variable {l : Launch} {D : va_G} {cl : List vw_C} {Ts Th : List Jvm.Cond} {cs : ClassId × ClassId × ClassId} {b base L : Nat} {xs : Nat → Int32} {s0 : State} {mt : Nat → xa_M} {NY : Nat} {tk : Nat → List Jvm.Cond}
variable {p : Program} {e : Env} {R : Room} {s : State} {m : MethodId} {args : Array Value} {below : List Frame} {meth : Method} {c : Code} {H : Heap} {locs : List Loc} {cells slots : Nat}
theorem xd_Fr (G : xa_G l D cl Ts Th cs b base L xs s0 mt NY tk) {M : xa_M} (hR : xa_Rl s0 base s) (hx : p.tables.exec = Jvm.exec) (hb : c.code = xa_by M) (hml : c.maxLocals = xa_mL M) (hown : s.vm.findClass (xa_nm M).cls = some m.cls) (hlk : meth.locks = false) (hrt : meth.sig.returnType = xa_rt M) (hnm : meth.name = (xa_nm M).name) (hxt : c.exceptionTable.toList = tableOf (xa_hh M)) : xa_Fr D cl Ts cs b base L xs M p s m args meth c := by
  obtain ⟨-, -, g3, -, g5, g6, g7, -⟩ := G
  refine ⟨hx, hb, hml, hown, fun w hw => g3 w hw s args hR.1, va_K.moved hR.1.alike g5, ?_, g7, hR.2.1, hlk, hrt, hnm, hxt⟩
  exact va_X.moved hR.1.alike (va_X.kept g6 (hR.2.2 b g7))
theorem xd_S {H1 : Heap} {L1 : List Loc} (hR : xa_Rl s0 base s) (hS : va_S (xa_A base) s.heap H locs) {t : State} (ht : t.heap = H1) (hRt : xa_Rl s0 base t) (hz : H.size ≤ H1.size) (hL : ∀ q ∈ L1, xa_A base q.base) : va_S (xa_A base) s.heap H1 (locs ++ L1) := by
  refine ⟨Nat.le_trans hS.1 hz, fun q h1 h2 => ?_, fun q hq => ?_⟩
  · have hq : q < base := Nat.not_le.mp h2
    rw [← ht, hRt.2.2 q hq, hR.2.2 q hq]
  · rcases List.mem_append.mp hq with h | h
    · exact hS.2.2 q h
    · exact hL q h
/-- the return -/
theorem xd_ret {M : xa_M} (F : xa_Fr D cl Ts cs b base L xs M p s m args meth c) (hR : xa_Rl s0 base s) {pc : Nat} {i : Jvm.ClassFile.Instr} {len : Nat} (hck : xa_ckR M pc i len = true) {st : List Value} {h h' : List va_E} {o : Outcome} {k z : Nat} (hn : xa_ret (xa_rt M) i st h = some (o, h', k, z))
    (hM : xa_Mt D cl cs b base h H) (hS : va_S (xa_A base) s.heap H locs) {ls : Array Slot} : W p l e R s m args below meth c H locs cells slots (xb_MQ below (xa_Qc D cl cs b base s0 o h') args s (cells + k) (slots + z) (xa_A base)) (F0 m pc ls (st.map (xa_rv b base))) := by
  obtain ⟨hx, hb, hml, hown, hts, hK, hX, hbb, hbs, hlk, hrt, hnm, hxt⟩ := F
  unfold xa_ckR at hck
  simp only [Bool.and_eq_true, decide_eq_true_eq] at hck
  obtain ⟨hd, rfl⟩ := hck
  have hQ : ∀ t : State, t.heap = H → s.WarmedH t.vm → xa_Rl s0 base t ∧ xa_Mt D cl cs b base h t.heap := fun t ht hW =>
    ⟨⟨State.WarmedH.trans hR.1 hW, by rw [ht]; exact Nat.le_trans hR.2.1 hS.1, fun q hq => by rw [ht, hS.2.1 q (Nat.lt_of_lt_of_le hq hR.2.1) (Nat.not_le.mpr hq)]; exact hR.2.2 q hq⟩, by rw [ht]; exact hM⟩
  unfold xa_ret at hn
  split at hn
  · split at hn
    · split at hn
      · rename_i hr
        cases hn
        exact xd_mono xd_MQ (W.iret hx hb (hrt.trans hr) (fun t ht hW => ⟨rfl, hQ t ht hW⟩) (fun q hq => hS.2.2 q hq) hd hlk)
      · rename_i x _ hr
        cases hn
        intro T hT X
        obtain ⟨fs, hret, hrun, hended, hW, hframe⟩ := X.leave (v := some (.int (vp_nar .boolean x))) (fun h => by rw [hrt, hr] at h; cases h) hlk
        have hmeth' : T.vm.method? m = some meth := X.method'
        refine ⟨T.setFrames fs, ?_, .returned (some (.int (vp_nar .boolean x))), hrun, hended, ⟨rfl, hQ _ hT hW⟩, locs, ⟨hW, hframe⟩, fun q hq => hS.2.2 q hq⟩
        have hr' : meth.sig.returnType = some .boolean := hrt.trans hr
        have hnr : narrow .boolean (.int x) = .int (vp_nar .boolean x) := rfl
        show Steps p.tables e below (T.setTop (F0 m pc ls [.int x])) _
        jvm_step X.here [X.here.top, hx, hb, hd, hmeth', hr', hnr]
        (try refine ⟨rfl, ?_⟩); (try refine ⟨rfl, ?_⟩)
        first | (intro acts; rw [hret _ acts rfl rfl rfl]) | rw [hret _ _ rfl rfl rfl]
        exact Steps.refl _
      · cases hn
    · cases hn
  · split at hn
    · split at hn
      · rename_i hr
        cases hn
        exact xd_mono xd_MQ (W.lret hx hb (hrt.trans hr) (fun t ht hW => ⟨rfl, hQ t ht hW⟩) (fun q hq => hS.2.2 q hq) hd hlk)
      · cases hn
    · cases hn
  · split at hn
    · split at hn
      · rename_i hr
        cases hn
        exact xd_mono xd_MQ (W.vret hx hb (hrt.trans hr) (fun t ht hW => ⟨rfl, hQ t ht hW⟩) (fun q hq => hS.2.2 q hq) hd hlk)
      · cases hn
    · cases hn
  · cases hn
set_option maxHeartbeats 2000000 in
/-- 'throw new' -/
theorem xd_thr (G : xa_G l D cl Ts Th cs b base L xs s0 mt NY tk) {M : xa_M} (F : xa_Fr D cl Ts cs b base L xs M p s m args meth c) (hR : xa_Rl s0 base s) {pc : Nat} {i : Jvm.ClassFile.Instr} {r : Nat} {ts : List Nat} {Tk : List Jvm.Cond} (hsub : ∀ w ∈ Tk, w ∈ Ts) (hck : xa_ckT cl Tk Th M pc i r ts = true) {st : List Value} {h : List va_E}
    (hM : xa_Mt D cl cs b base h H) (hS : va_S (xa_A base) s.heap H locs) (hcs : s.heap.size + cells ≤ base + h.length) (hc : cells + 1 ≤ R.cells) (hz : slots + 6 ≤ R.slots) (hfr : 6 ≤ R.frames) (hlo : 100 ≤ R.locals) (hcat : xa_cats st ≤ 8) {ls : Array Slot} (hls : ls.size = xa_mL M) :
    W p l e R s m args below meth c H locs cells slots (xb_MQ below (xa_Qc D cl cs b base s0 (.threw (h.length + 1)) (h ++ [.inr (r, [])])) args s (cells + 1) (slots + 6) (xa_A base)) (F0 m pc ls (st.map (xa_rv b base))) := by
  obtain ⟨hx, hb, hml, hown, hts, hK, hX, hbb, hbs, hlk, hrt, hnm, hxt⟩ := F
  obtain ⟨-, -, g3, g4, -, -, -, g8⟩ := G
  unfold xa_ckT at hck
  split at hck
  · rename_i ci sx ic w E T0 hcl
    simp only [Bool.and_eq_true, Bool.or_eq_true, decide_eq_true_eq] at hck
    obtain ⟨d0, hhz, d3, d4, d6, d9, w1, w2, w3, w4, w5, w6⟩ := hck
    have htab : c.exceptionTable.toList = [] := by
      rw [hxt, xa_hh, List.isEmpty_iff.mp hhz]; rfl
    obtain ⟨q, hq, hqm⟩ := List.any_eq_true.mp w4
    split at hqm
    · rename_i o x text
      simp only [Bool.and_eq_true, decide_eq_true_eq] at hqm
      obtain ⟨rfl, rfl⟩ := hqm
      intro T hT X
      have hsz : T.heap.size = base + h.length := by have h1 := X.heapSize; have h2 := hM.1; rw [← hT] at h2; omega
      have hRx : xa_Rl s0 base (xt_s s T) := ⟨hR.1, by show base ≤ T.heap.size; omega, fun q hq => by
        show T.heap[q]? = _
        rw [hT, hS.2.1 q (Nat.lt_of_lt_of_le hq hR.2.1) (Nat.not_le.mpr hq)]
        exact hR.2.2 q hq⟩
      obtain ⟨U, u1, u2, u3, u4, u5, u6, ce, u7, u8, u9⟩ := xt_throw X hx (g8 e X.admits) (own := (xa_nm M).cls) (E := E) (text := text) (names := xe_names) (ci := ci) (sx := x) (ic := ic) (w := w) hown w5 (by decide)
        (fun a ha => by
          have h1 := List.all_eq_true.mp w6 a ha
          simp only [Bool.or_eq_true, decide_eq_true_eq] at h1
          rcases h1 with h1 | h1
          · exact g3 a (hsub a h1) _ _ hRx.1
          · exact g4 a h1 _ _ hRx)
        (hts _ (hsub _ w1)) (hts _ (hsub _ w2)) (hts _ (hsub _ w3)) (hts _ (hsub _ hq)) (pc := pc) (ls := ls) (st := st.map (xa_rv b base)) (hls.trans hml.symm) (by rw [hb]; exact d0) (by rw [hb]; exact d3) (by rw [hb]; exact d4) (by rw [hb]; exact d6) (by rw [hb]; exact d9) (by rw [htab]; intro y hy; cases hy)
        (by show 2 + 3 < R.frames; omega) (by rw [xa_cats_rv]; show _ + 1 + (13 * (2 + 1) + 42) ≤ R.locals; omega) hc hz hlk
      refine ⟨U, u1, .threw T.heap.size, u2, u3, ⟨by rw [hsz]; rfl, ⟨State.WarmedH.trans hR.1 u4, ?_, fun q hq => ?_⟩, ?_⟩, locs, ⟨u4, u5⟩, fun q hq => hS.2.2 q hq⟩
      · have := (Array.getElem?_eq_some_iff.mp u7).1
        omega
      · rw [u6 q (by omega)]
        exact hRx.2.2 q hq
      · have hMT : xa_Mt D cl cs b base h T.heap := by rw [hT]; exact hM
        refine ⟨?_, ?_⟩
        · have := (Array.getElem?_eq_some_iff.mp u7).1
          rw [List.length_append]
          show base + (h.length + 1) ≤ _
          omega
        · rw [xa_W_push]
          refine va_P.app (hMT.2.kept fun k q hk => u6 q.1 (hMT.2 k q hk).lt) (fun k q hk => ?_)
          have h1 : k < 1 := (List.getElem?_eq_some_iff.mp hk).1
          rw [show k = 0 by omega] at hk
          cases hk
          refine ⟨_, hcl, ce, by rw [← hsz]; exact u7, ?_, u9, fun k hk => absurd hk (Nat.not_lt_zero k)⟩
          exact Option.some.inj (u8.symm.trans (hK.1 r _ hcl).2.1)
    · cases hqm
  · cases hck
end XZ
/-- the induction's statement -/
def xa_I (l : Launch) (D : va_G) (cl : List vw_C) (Ts : List Jvm.Cond) (cs : ClassId × ClassId × ClassId) (b base L : Nat) (xs : Nat → Int32) (s0 : State) (mt : Nat → xa_M) (NY n : Nat) : Prop :=
  ∀ (d w y ip : Nat) (lv : List (Nat × Value)) (st : List Value) (h : List va_E) (o : Outcome) (h' : List va_E) (k z : Nat), y < NY → xa_ev mt L xs n d w y ip lv st h = some (o, h', k, z) →
    ∀ (p : Program) (e : Env) (R : Room) (s : State) (m : MethodId) (args : Array Value) (below : List Frame) (meth : Method) (c : Code) (H : Heap) (locs : List Loc) (cells slots : Nat) (ls : Array Slot),
      xa_Fr D cl Ts cs b base L xs (mt y) p s m args meth c → xa_Rl s0 base s → lv_has ls (xa_mL (mt y)) (xa_lv b base lv) → xa_Mt D cl cs b base h H → va_S (xa_A base) s.heap H locs → s.heap.size + cells ≤ base + h.length → cells + k ≤ R.cells → slots + z ≤ R.slots → d ≤ R.frames → w ≤ R.locals →
      W p l e R s m args below meth c H locs cells slots (xb_MQ below (xa_Qc D cl cs b base s0 o h') args s (cells + k) (slots + z) (xa_A base)) (F0 m (xa_pc (mt y) ip) ls (st.map (xa_rv b base)))
theorem xa_ev_len {mt : Nat → xa_M} {L : Nat} {xs : Nat → Int32} : ∀ (n d w y ip : Nat) (lv : List (Nat × Value)) (st : List Value) (h : List va_E) (o : Outcome) (h' : List va_E) (k z : Nat), xa_ev mt L xs n d w y ip lv st h = some (o, h', k, z) → h'.length = h.length + k := by
  intro n
  induction n with
  | zero => intro d w y ip lv st h o h' k z e; cases e
  | succ n ih =>
    intro d w y ip lv st h o h' k z e
    replace e : xa_stp mt L xs (xa_ev mt L xs n) d w y ip lv st h = some (o, h', k, z) := e
    unfold xa_stp at e
    (try dsimp only at e)
    split at e
    · cases e
    · split at e
      · split at e
        · cases e
        · rename_i hnx
          obtain ⟨k1, z1, e1, rfl, rfl⟩ := xa_add_some e
          have h1 := xa_nx_len hnx
          have h2 := ih _ _ _ _ _ _ _ _ _ _ _ e1
          omega
      · unfold xa_ret at e
        repeat' (first | (cases e; rfl) | (cases e; done) | (split at e))
      · obtain ⟨-, e⟩ := xa_if_some e
        cases e
        rw [List.length_append]; rfl
      · obtain ⟨-, e⟩ := xa_if_some e
        split at e
        · cases e
        · rename_i hc
          obtain ⟨k1, z1, e1, rfl, rfl⟩ := xa_add_some e
          have h1 := ih _ _ _ _ _ _ _ _ _ _ _ hc
          have h2 := ih _ _ _ _ _ _ _ _ _ _ _ e1
          omega
        · rename_i hc
          have h1 := ih _ _ _ _ _ _ _ _ _ _ _ hc
          split at e
          · obtain ⟨-, e⟩ := xa_if_some e
            cases e
            exact h1
          · obtain ⟨k1, z1, e1, rfl, rfl⟩ := xa_add_some e
            have h2 := ih _ _ _ _ _ _ _ _ _ _ _ e1
            omega
      · obtain ⟨-, e⟩ := xa_if_some e
        split at e
        · cases e
        · rename_i hnx
          obtain ⟨k1, z1, e1, rfl, rfl⟩ := xa_add_some e
          have h1 := xa_nx_len hnx
          have h2 := ih _ _ _ _ _ _ _ _ _ _ _ e1
          omega
section XY
variable {l : Launch} {D : va_G} {cl : List vw_C} {Ts Th : List Jvm.Cond} {cs : ClassId × ClassId × ClassId} {b base L : Nat} {xs : Nat → Int32} {s0 : State} {mt : Nat → xa_M} {NY : Nat} {tk : Nat → List Jvm.Cond}
theorem xd_met (G : xa_G l D cl Ts Th cs b base L xs s0 mt NY tk) {n : Nat} (IH : xa_I l D cl Ts cs b base L xs s0 mt NY n) {d w y : Nat} {vs : List Value} {h : List va_E} {o : Outcome} {h' : List va_E} {k z : Nat} (hy : y < NY) (hev : xa_ev mt L xs n d w y 0 (lv_args 0 vs) [] h = some (o, h', k, z)) (hcat : xa_cats vs ≤ xa_mL (mt y)) :
    xb_Met l (xa_nm (mt y)) [xa_cwM (mt y)] { frames := d, cells := k, slots := z, locals := w } (xa_Pc D cl cs b base s0 vs h) (xa_Qc D cl cs b base s0 o h') k z (xa_A base) := by
  have hck := (G.2.1 y hy).1
  unfold xa_ckM at hck
  simp only [Bool.and_eq_true, decide_eq_true_eq] at hck
  refine xb_ofW (cc := xa_by (mt y)) (maxL := xa_mL (mt y)) (ret := xa_rt (mt y)) (hh := xa_hh (mt y)) hck.2.1 (List.mem_singleton.mpr rfl) ?_
  intro p e s m args below meth c s₁ B hml hxt hP
  obtain ⟨rfl, hR, hM, hz⟩ := hP
  have F := xd_Fr (args := (vs.map (xa_rv b base)).toArray) G hR B.exec B.bytes hml (findClass_of_methodNamed B.named) B.notSynchronized B.returns (name_of_methodNamed B.named B.method).1 hxt
  have hl := lv_entry (vs.map (xa_rv b base)) (n := xa_mL (mt y)) (by rw [xa_sl_len]; unfold xa_cats; rw [xa_cats_rv]; exact hcat)
  rw [lg_entry_eq]
  have h1 := IH d w y 0 (lv_args 0 vs) [] h o h' k z hy hev p e { frames := d, cells := k, slots := z, locals := w } s m _ below meth c s.heap [] 0 0 _ F hR (by rw [xa_lv_args]; exact hl) hM va_S.rf (by omega) (by show 0 + k ≤ k; omega) (by show 0 + z ≤ z; omega) (Nat.le_refl _) (Nat.le_refl _)
  rw [hck.1, Nat.zero_add, Nat.zero_add] at h1
  exact h1
end XY
end
section
/-! THE CALL, AND THE INDUCTION -/
theorem xa_kind_in (i : Jvm.ClassFile.Instr) (r q : Nat) : xa_kind i r q = 0 ∨ xa_kind i r q = 1 ∨ xa_kind i r q = 2 ∨ xa_kind i r q = 3 ∨ xa_kind i r q = 4 := by
  unfold xa_kind
  split
  · exact Or.inr (Or.inl rfl)
  · exact Or.inr (Or.inl rfl)
  · exact Or.inr (Or.inl rfl)
  · cases Nat.beq q 99
    · exact Or.inl rfl
    · exact Or.inr (Or.inr (Or.inl rfl))
  · exact Or.inr (Or.inr (Or.inr (Or.inl rfl)))
  · cases Nat.blt r 1000
    · exact Or.inr (Or.inr (Or.inr (Or.inr rfl)))
    · exact Or.inr (Or.inr (Or.inr (Or.inl rfl)))
  · cases Nat.blt r 1000
    · exact Or.inr (Or.inr (Or.inr (Or.inr rfl)))
    · exact Or.inr (Or.inr (Or.inr (Or.inl rfl)))
  · exact Or.inl rfl
theorem xd_lk {Ts : List Jvm.Cond} {own : String} {x : Nat} {y : MethodName} {args : Array Value} {s : State} (h : xa_lk Ts own x y = true) (hts : ∀ w ∈ Ts, w.before args s = true) : xc_lk own x y args s := by
  unfold xa_lk at h
  rw [Bool.or_eq_true, decide_eq_true_eq] at h
  rcases h with h | h
  · exact Or.inl (hts _ h)
  · obtain ⟨q, hq, hm⟩ := List.any_eq_true.mp h
    split at hm
    · rename_i o i z hst
      simp only [Bool.and_eq_true, decide_eq_true_eq] at hm
      obtain ⟨rfl, rfl, rfl⟩ := hm
      exact Or.inr ⟨hst, hts _ hq⟩
    · cases hm
theorem xd_split {st : List Value} {q : Nat} (hq : 1 ≤ q) (hl : q ≤ st.length) {v : Value} (hv : st[q - 1]? = some v) : st = (st.take (q - 1)) ++ v :: st.drop q ∧ (st.take q).reverse = v :: (st.take (q - 1)).reverse := by
  obtain ⟨j, rfl⟩ : ∃ j, q = j + 1 := ⟨q - 1, by omega⟩
  rw [Nat.add_sub_cancel] at hv ⊢
  have h1 : st.take (j + 1) = st.take j ++ [v] := by rw [List.take_add_one, hv]; rfl
  refine ⟨?_, by rw [h1, List.reverse_append]; rfl⟩
  conv => lhs; rw [← List.take_append_drop (j + 1) st, h1]
  simp
section XK
variable {l : Launch} {D : va_G} {cl : List vw_C} {Ts Th : List Jvm.Cond} {cs : ClassId × ClassId × ClassId} {b base L : Nat} {xs : Nat → Int32} {s0 : State} {mt : Nat → xa_M} {NY : Nat} {tk : Nat → List Jvm.Cond}
variable {p : Program} {e : Env} {R : Room} {s : State} {m : MethodId} {args : Array Value} {below : List Frame} {meth : Method} {c : Code} {T : State} {locs : List Loc} {cells slots : Nat}
set_option maxHeartbeats 2000000 in
/-- the invoking instruction, by its row -/
theorem xd_inv {M : xa_M} (F : xa_Fr D cl Ts cs b base L xs M p s m args meth c) {pc : Nat} {i : Jvm.ClassFile.Instr} {len nip r q : Nat} {ts : List Nat} {Tk : List Jvm.Cond} (hsub : ∀ w ∈ Tk, w ∈ Ts) (hck : xa_ckK cl Tk mt NY M pc i len nip r q ts = true) {st : List Value} {h : List va_E} (hcok : xa_cok i (xa_mL (mt r)) q ts st h = true)
    (X : Stand p l e R s m args below meth c T locs cells slots) (hM : xa_Mt D cl cs b base h T.heap) {ls : Array Slot} :
    xc_In p l e R s m args below meth c T locs cells slots (xa_nm (mt r)) (F0 m pc ls (st.map (xa_rv b base))) ((st.drop q).map (xa_rv b base)) (((st.take q).reverse).map (xa_rv b base)) := by
  obtain ⟨hx, hb, hml, hown, hts, hK, hX, hbb, hbs, hlk, hrt, hnm, hxt⟩ := F
  have htk : ∀ w ∈ Tk, w.before args s = true := fun w hw => hts w (hsub w hw)
  unfold xa_ckK at hck
  unfold xa_cok at hcok
  simp only [Bool.and_eq_true, decide_eq_true_eq] at hck hcok
  obtain ⟨hd, rfl, hp, hrN, hmL, n1, n2, w1, w2, -, hck⟩ := hck
  obtain ⟨c1, c2, c3, c4⟩ := hcok
  have hq := Nat.le_of_ble_eq_true c1
  have hpar : ∀ {j : Nat}, (parseMethodDescriptor (xa_nm (mt r)).desc).map (fun d => d.parameters.length) = some j → ∀ sig, parseMethodDescriptor (xa_nm (mt r)).desc = some sig → j = sig.parameters.length := by
    intro j h1 sig h2
    rw [h2] at h1
    exact (Option.some.inj h1).symm
  cases i
  case invokevirtual x =>
    simp only [Bool.and_eq_true, decide_eq_true_eq] at hck
    obtain ⟨k1, k2, k3, k4, k5, k6⟩ := hck
    unfold xa_rec at c4
    dsimp only at c4
    split at c4
    · rename_i j hj
      split at c4
      · rename_i c0 fs hjh
        have hc0 : c0 = ts.headD 999 := Nat.eq_of_beq_eq_true c4
        subst hc0
        cases hcl : cl[ts.headD 999]? with
        | none => rw [hcl] at k6; cases k6
        | some w =>
          rw [hcl] at k6
          have hw : w.1 = (xa_nm (mt r)).cls := Option.some.inj k6
          obtain ⟨s1, s2⟩ := xd_split k4 hq hj
          obtain ⟨cellB, q1, q2, q3⟩ := va_recv hK hM.2 hcl (xa_W_at hjh)
          rw [hw] at q3
          rw [s2]
          refine xc_V X hx (C := (xa_nm (mt r)).cls) hown (xd_lk k1 htk) (htk _ k2) (htk _ k3) ⟨n1, n2⟩ q1 q2 q3 (htk _ w2) (g := F0 m pc ls (st.map (xa_rv b base))) rfl (argsL := ((st.take (q - 1)).reverse).map (xa_rv b base)) (fun sig h2 => ?_) ?_ (by rw [hb]; exact hd)
          · rw [List.length_map, List.length_reverse, List.length_take]
            rw [← hpar k5 sig h2]
            omega
          · show st.map (xa_rv b base) = _
            rw [List.map_reverse, List.reverse_reverse]
            conv => lhs; rw [s1]
            rw [List.map_append]
            rfl
      · cases c4
    · cases c4
  case invokestatic x =>
    simp only [Bool.and_eq_true, decide_eq_true_eq] at hck
    obtain ⟨k1, k2, k3⟩ := hck
    have hcode := htk _ w2
    obtain ⟨mk, hnamed⟩ : ∃ mk, s.methodNamed? (xa_nm (mt r)) = some mk := by
      unfold xa_cwM xb_cw at hcode
      split at hcode
      · exact Cond.code_named hcode
      · obtain ⟨m9, _, _, hn9, _⟩ := Cond.codeWith_spec hcode
        exact ⟨m9, hn9⟩
    refine xc_S X hx hown (xd_lk k1 htk) (htk _ k2) (htk _ w1) ⟨n1, n2⟩ (htk _ w2) hnamed (g := F0 m pc ls (st.map (xa_rv b base))) rfl (fun sig h2 => ?_) ?_ (by rw [hb]; exact hd)
    · rw [List.length_map, List.length_reverse, List.length_take]
      rw [← hpar k3 sig h2]
      omega
    · show st.map (xa_rv b base) = _
      rw [List.map_reverse, List.reverse_reverse, ← List.map_append, List.take_append_drop]
  case invokespecial x =>
    simp only [Bool.and_eq_true, decide_eq_true_eq] at hck
    obtain ⟨k1, k2, k3, k4, k5, k6, k7⟩ := hck
    unfold xa_rec at c4
    dsimp only at c4
    split at c4
    · rename_i a hj
      obtain ⟨s1, s2⟩ := xd_split k4 hq hj
      rw [s2, List.map_cons, xa_rv_ref]
      have hcode : (Jvm.Cond.code (xa_nm (mt r)) (xa_by (mt r)) (xa_mL (mt r)) none).before args s = true := by
        have h1 := htk _ w2
        unfold xa_cwM at h1
        rw [k7, xa_hh, List.isEmpty_iff.mp k6] at h1
        exact h1
      refine xc_I X hx hown k3 (xd_lk k1 htk) (htk _ k2) ⟨n1, n2⟩ hcode (g := F0 m pc ls (st.map (xa_rv b base))) rfl (fun sig h2 => ?_) ?_ (by rw [hb]; exact hd)
      · rw [List.length_map, List.length_reverse, List.length_take]
        rw [← hpar k5 sig h2]
        omega
      · show st.map (xa_rv b base) = _
        rw [List.map_reverse, List.reverse_reverse]
        conv => lhs; rw [s1]
        rw [List.map_append, List.map_cons, xa_rv_ref]
    · cases c4
  all_goals (cases hck)
set_option maxHeartbeats 4000000 in
theorem xa_sim (G : xa_G l D cl Ts Th cs b base L xs s0 mt NY tk) : ∀ n, xa_I l D cl Ts cs b base L xs s0 mt NY n := by
  intro n
  induction n with
  | zero => intro d w y ip lv st h o h' k z _ e; cases e
  | succ n ih =>
    intro d w y ip lv st h o h' k z hy hev p e R s m args below meth c H locs cells slots ls F hR hl hM hS hcs hc hz hfr hlo
    have hckM := (G.2.1 y hy).1
    have hsub := (G.2.1 y hy).2
    unfold xa_ckM at hckM
    simp only [Bool.and_eq_true, decide_eq_true_eq] at hckM
    replace hev : xa_stp mt L xs (xa_ev mt L xs n) d w y ip lv st h = some (o, h', k, z) := hev
    unfold xa_stp at hev
    (try dsimp only at hev)
    split at hev
    · cases hev
    · rename_i pc i len nip r q ts hrow
      have hpc : xa_pc (mt y) ip = pc := by unfold xa_pc; rw [hrow]
      rw [hpc]
      have hckw := List.all_eq_true.mp hckM.2.2 _ (List.mem_of_getElem? hrow)
      unfold xa_ckW at hckw
      (try dsimp only at hckw)
      split at hev
      · rename_i hk
        rw [hk] at hckw
        split at hev
        · cases hev
        · rename_i ip' lv' st' h1 k1 z1 hnx
          obtain ⟨k2, z2, e1, rfl, rfl⟩ := xa_add_some hev
          have hlen := xa_nx_len hnx
          refine xa_sim_nx G.1 F hsub hckw hnx hl hM hS hcs (by omega) (by omega) (fun h4 => by rw [hk] at h4; cases h4) ?_
          intro pc' ls' H1 locs1 hpc1 hl1 hM1 hS1
          have h2 := ih d w y ip' lv' st' h1 o h' k2 z2 hy e1 p e R s m args below meth c H1 locs1 (cells + k1) (slots + z1) ls' F hR hl1 hM1 hS1 (by omega) (by omega) (by omega) hfr hlo
          rw [hpc1, Nat.add_assoc, Nat.add_assoc] at h2
          exact h2
      · rename_i hk
        rw [hk] at hckw
        exact xd_ret F hR hckw hev hM hS
      · rename_i hk
        rw [hk] at hckw
        obtain ⟨hcat, hev⟩ := xa_if_some hev
        cases hev
        simp only [Bool.and_eq_true] at hcat
        obtain ⟨hc8, hd6, hw1⟩ := hcat
        have hd6' := Nat.le_of_ble_eq_true hd6
        have hw1' := Nat.le_of_ble_eq_true hw1
        exact xd_thr G F hR hsub hckw hM hS hcs hc hz (by omega) (by omega) (Nat.le_of_ble_eq_true hc8) hl.1
      · rename_i hk
        rw [hk] at hckw
        have hckK : xa_ckK cl (tk y) mt NY (mt y) pc i len nip r q ts = true := hckw
        · obtain ⟨hcok3, hev⟩ := xa_if_some hev
          rw [Bool.and_eq_true, Bool.and_eq_true] at hcok3
          obtain ⟨hcok, hd1, hcw⟩ := hcok3
          have hd1' := Nat.le_of_ble_eq_true hd1
          have hcw' := Nat.le_of_ble_eq_true hcw
          have hck2 := hckK
          unfold xa_ckK at hck2
          simp only [Bool.and_eq_true, decide_eq_true_eq] at hck2
          obtain ⟨hd, rfl, hp, hrN, hmL, n1, n2, w1, w2, hH, -⟩ := hck2
          have hcok2 := hcok
          unfold xa_cok at hcok2
          simp only [Bool.and_eq_true] at hcok2
          obtain ⟨c1, c2, c3, -⟩ := hcok2
          have c2' := Nat.le_of_ble_eq_true c2
          have c3' := Nat.le_of_ble_eq_true c3
          have c3r : xa_cats (st.take q).reverse ≤ xa_mL (mt r) := by
            have h1 : xa_cats (st.take q).reverse = xa_cats (st.take q) := by
              unfold xa_cats
              rw [List.map_reverse, List.sum_reverse]
            rw [h1]; exact c3'
          -- the callee's own run, whatever it ends in
          have step : ∀ (oc : Outcome) (h1 : List va_E) (k1 z1 : Nat), xa_ev mt L xs n (d - 1) (w - ts.getD 1 0) r 0 (lv_args 0 (st.take q).reverse) [] h = some (oc, h1, k1, z1) → cells + k1 ≤ R.cells → slots + z1 ≤ R.slots → ∀ T : State, T.heap = H → Stand p l e R s m args below meth c T locs cells slots →
              (∃ (v : Option Value) (B : State) (L1 : List Loc), oc = .returned v ∧ Stand p l e R s m args below meth c B (locs ++ L1) (cells + k1) (slots + z1) ∧ xa_Mt D cl cs b base h1 B.heap ∧ va_S (xa_A base) s.heap B.heap (locs ++ L1) ∧ ∀ t, Steps p.tables e below (B.setTop (F0 m (pc + 3) ls ((v.toList ++ st.drop q).map (xa_rv b base)))) t → Steps p.tables e below (T.setTop (F0 m pc ls (st.map (xa_rv b base)))) t) ∨
              (∃ (x : Nat) (B : State) (L1 : List Loc), oc = .threw x ∧ Stand p l e R s m args below meth c B (locs ++ L1) (cells + k1) (slots + z1) ∧ xa_Rl s0 base B ∧ xa_Mt D cl cs b base h1 B.heap ∧ va_S (xa_A base) s.heap B.heap (locs ++ L1) ∧ ∀ t, Steps p.tables e below ((B.setTop (F0 m pc ls ((st.drop q).map (xa_rv b base)))).pushFrame (.throwing (xa_ad b base x))) t → Steps p.tables e below (T.setTop (F0 m pc ls (st.map (xa_rv b base)))) t) := by
            intro oc h1 k1 z1 hcal hk1 hz1 T hT X
            have hlen := xa_ev_len _ _ _ _ _ _ _ _ _ _ _ _ hcal
            have hMT : xa_Mt D cl cs b base h T.heap := by rw [hT]; exact hM
            have hsz : T.heap.size = base + h.length := by have g1 := X.heapSize; have g2 := hMT.1; omega
            obtain ⟨mk, vm₁, hnamed, X₁, hstep⟩ := xd_inv F hsub hckK hcok X hMT (ls := ls)
            have hmet := xd_met G ih hrN hcal c3r
            have hx := F.1
            have hb := F.2.1
            have hml := F.2.2.1
            have hts := F.2.2.2.2.1
            have hwm : ∀ w ∈ Ts, ∀ a' : Array Value, w.before a' (T.setVm vm₁) = true := fun w hw a' => G.2.2.1 w hw _ a' (State.WarmedH.trans hR.1 X₁.warmed)
            have hRx : xa_Rl s0 base (T.setVm vm₁) := ⟨State.WarmedH.trans hR.1 X₁.warmed, by show base ≤ T.heap.size; omega, fun q hq => by
              show T.heap[q]? = _
              rw [hT, hS.2.1 q (Nat.lt_of_lt_of_le hq hR.2.1) (Nat.not_le.mpr hq)]
              exact hR.2.2 q hq⟩
            have hcall := xb_call (cc := xa_by (mt r)) (maxL := xa_mL (mt r)) (ret := xa_rt (mt r)) (hh := xa_hh (mt r)) X₁ hmet (X₁.named hnamed) (g := F0 m pc ls ((st.drop q).map (xa_rv b base))) rfl (hl.1.trans hml.symm) (ig := i) (by rw [hb]; exact hd)
              (fun w hw a' => by rw [List.mem_singleton.mp hw]; exact hwm _ (hsub _ w2) a') (List.mem_singleton.mpr rfl) (fun a' => hwm _ (hsub _ w1) a') (by show d - 1 + 1 ≤ _; omega)
              (by rw [xa_cats_rv]; show 2 * 0 + _ + _ + (w - ts.getD 1 0) ≤ _; omega) hk1 hz1 (a := (((st.take q).reverse).map (xa_rv b base)).toArray) ⟨rfl, hRx, hMT, by show T.heap.size ≤ _; omega⟩
            rcases hcall with ⟨v, t, B, L1, XB, hL1, hBt, hBv, hq, hsteps⟩ | ⟨x, t, B, L1, XB, hL1, hBt, hBv, hq, hsteps⟩
            · obtain ⟨ho, hRt, hMt⟩ := hq
              cases oc with
              | threw x => cases ho
              | returned v0 =>
                left
                have hv : v = v0.map (xa_rv b base) := by cases ho; rfl
                subst hv
                refine ⟨v0, B, L1, rfl, XB, by rw [hBt]; exact hMt, xd_S hR hS hBt.symm hRt (by rw [hBt, ← hT]; have g1 := hMt.1; omega) hL1, fun t' ht' => hstep _ (hsteps.trans ?_)⟩
                have hst : (v0.map (xa_rv b base)).toList ++ (st.drop q).map (xa_rv b base) = (v0.toList ++ st.drop q).map (xa_rv b base) := by cases v0 <;> simp
                show Steps p.tables e below (B.setTop (F0 m (pc + 3) ls ((v0.map (xa_rv b base)).toList ++ (st.drop q).map (xa_rv b base)))) t'
                rw [hst]
                exact ht'
            · obtain ⟨ho, hRt, hMt⟩ := hq
              cases oc with
              | returned v0 => cases ho
              | threw x0 =>
                right
                have hv : x = xa_ad b base x0 := by cases ho; rfl
                subst hv
                refine ⟨x0, B, L1, rfl, XB, ⟨by rw [hBv]; exact hRt.1, by rw [hBt]; exact hRt.2.1, fun q hq => by rw [hBt]; exact hRt.2.2 q hq⟩, by rw [hBt]; exact hMt, xd_S hR hS hBt.symm hRt (by rw [hBt, ← hT]; have g1 := hMt.1; omega) hL1, fun t' ht' => hstep _ (hsteps.trans ht')⟩
          split at hev
          · cases hev
          · rename_i v h1 k1 z1 hcal
            obtain ⟨k2, z2, e1, rfl, rfl⟩ := xa_add_some hev
            have hlen := xa_ev_len _ _ _ _ _ _ _ _ _ _ _ _ hcal
            intro T hT X
            rcases step _ _ _ _ hcal (by omega) (by omega) T hT X with ⟨v', B, L1, ho, XB, hMB, hSB, hgo⟩ | ⟨x, B, L1, ho, _⟩
            · cases ho
              have h2 := ih d w y nip lv (v.toList ++ st.drop q) h1 o h' k2 z2 hy e1 p e R s m args below meth c B.heap (locs ++ L1) (cells + k1) (slots + z1) ls F hR hl hMB hSB (by omega) (by omega) (by omega) hfr hlo
              rw [hp, Nat.add_assoc, Nat.add_assoc] at h2
              obtain ⟨t, a1, b1⟩ := h2 B rfl XB
              exact ⟨t, hgo t a1, b1⟩
            · cases ho
          · rename_i x h1 k1 z1 hcal
            have hlen := xa_ev_len _ _ _ _ _ _ _ _ _ _ _ _ hcal
            split at hev
            · obtain ⟨hemp, hev⟩ := xa_if_some hev
              cases hev
              intro T hT X
              rcases step _ _ _ _ hcal hc hz T hT X with ⟨v', B, L1, ho, _⟩ | ⟨x', B, L1, ho, XB, hRB, hMB, hSB, hgo⟩
              · cases ho
              · cases ho
                have htab : c.exceptionTable.toList = [] := by
                  rw [F.2.2.2.2.2.2.2.2.2.2.2.2]
                  have h3 : xa_hz (mt y) = [] := by
                    have h4 := List.isEmpty_iff.mp hemp
                    exact List.map_eq_nil_iff.mp h4
                  rw [xa_hh, h3]; rfl
                obtain ⟨l1, l2, l3, l4, l5⟩ := XB.leaveThrown (xa_ad b base x) (g := F0 m pc ls ((st.drop q).map (xa_rv b base))) rfl rfl rfl (by rw [htab]; intro y hy; cases hy) F.2.2.2.2.2.2.2.2.2.1
                refine ⟨_, hgo _ l1, .threw (xa_ad b base x), l2, l3, ⟨rfl, ?_, hMB⟩, _, ⟨l4, l5⟩, fun q hq => hSB.2.2 q hq⟩
                exact hRB
            · rename_i ip' hfound
              obtain ⟨k2, z2, e1, rfl, rfl⟩ := xa_add_some hev
              intro T hT X
              rcases step _ _ _ _ hcal (by omega) (by omega) T hT X with ⟨v', B, L1, ho, _⟩ | ⟨x', B, L1, ho, XB, hRB, hMB, hSB, hgo⟩
              · cases ho
              · cases ho
                unfold xa_hnd at hfound
                split at hfound
                · cases hfound
                · rename_i j
                  split at hfound
                  · rename_i cx fs hj
                    rw [xa_hd, List.find?_map] at hfound
                    cases hzf : (xa_hz (mt y)).find? ((fun q => Nat.beq q.1 cx) ∘ fun z => z.2) with
                    | none => rw [hzf] at hfound; cases hfound
                    | some z =>
                      rw [hzf] at hfound
                      have hip : z.2.2 = ip' := Option.some.inj hfound
                      have hzm := List.mem_of_find?_eq_some hzf
                      have hz9 : ((fun q : Nat × Nat => Nat.beq q.1 cx) ∘ fun z : (Nat × Nat × Nat × Nat) × Nat × Nat => z.2) z = true := List.find?_some hzf
                      have hzc : z.2.1 = cx := Nat.eq_of_beq_eq_true hz9
                      have hK := F.2.2.2.2.2.1
                      have hts := F.2.2.2.2.1
                      have hown := F.2.2.2.1
                      obtain ⟨r0, hr0, cell, hcell, hcls, hvm, -⟩ := hMB.2 j _ (xa_W_at hj)
                      have hadx : xa_ad b base (j + 1) = base + j := rfl
                      have hClx := (hK.1 cx _ hr0).2
                      have hHz := List.all_eq_true.mp hH
                      have hpl : e.platform.magicAccessors = ({} : Platform).magicAccessors := by rw [XB.admits.platform]
                      obtain ⟨vm', XC, hgo2⟩ := xt_caught XB (a := xa_ad b base (j + 1)) (g := F0 m pc ls ((st.drop q).map (xa_rv b base))) rfl (cell := cell) (by rw [hadx]; exact hcell) (by rw [hvm]; rfl) (by rw [hcls]; obtain ⟨-, kC, hkC, -⟩ := hClx; exact ⟨kC, hkC⟩)
                        (zs := (xa_hz (mt y)).map fun u => ((⟨u.1.1, u.1.2.1, u.1.2.2.1, u.1.2.2.2⟩ : ExceptionTableEntry), Nat.beq u.2.1 cx))
                        (by rw [F.2.2.2.2.2.2.2.2.2.2.2.2, xa_hh, tableOf, List.map_map, List.map_map]; rfl)
                        (fun u hu => by
                          obtain ⟨w, hw, rfl⟩ := List.mem_map.mp hu
                          have h3 := hHz w hw
                          simp only [Bool.and_eq_true, decide_eq_true_eq] at h3
                          obtain ⟨t1, t2, t3, t4, t5⟩ := h3
                          refine ⟨by simp [covers, t1, t2], by simpa using t3, ?_⟩
                          split at t5
                          · rename_i E T0 N0 hclw
                            rw [Bool.and_eq_true, decide_eq_true_eq] at t5
                            obtain ⟨c', hc', hcl'⟩ := Cond.classLink_spec hown (hts _ (hsub _ t5.1)) e.platform hpl
                            refine ⟨c', hcl', ?_⟩
                            have hcw : c' = D.1 w.2.1 := Option.some.inj (hc'.symm.trans (hK.1 w.2.1 _ hclw).2.1)
                            dsimp only
                            cases hbq : Nat.beq w.2.1 cx with
                            | true =>
                              have h5 : w.2.1 = cx := Nat.eq_of_beq_eq_true hbq
                              rw [hcls, hcw, h5]
                              show s.vm.assignableAux (255 + 1) _ _ = true
                              rw [Vm.assignableAux]
                              simp
                            | false =>
                              have h6 := List.all_eq_true.mp t5.2 z hzm
                              rw [hzc] at h6
                              have h7 : Nat.beq cx w.2.1 = false := by
                                cases h8 : Nat.beq cx w.2.1 with
                                | true =>
                                  have h9 := Nat.eq_of_beq_eq_true h8
                                  rw [h9, Nat.beq_refl] at hbq
                                  cases hbq
                                | false => rfl
                              rw [h7, Bool.false_or] at h6
                              split at h6
                              · rename_i E2 T2 N2 hclx
                                have hno := hts _ (hsub _ (of_decide_eq_true h6))
                                have hv := Cond.holds_not_iff.mp hno
                                have e2 : s.vm.findClass E2 = some (D.1 cx) := (hK.1 cx _ hclx).2.1
                                simp only [Cond.value, e2, hc'] at hv
                                rw [hcls]
                                exact Option.some.inj hv
                              · cases h6
                          · cases t5)
                        (x := (⟨z.1.1, z.1.2.1, z.1.2.2.1, z.1.2.2.2⟩, Nat.beq z.2.1 cx)) (by rw [List.find?_map]; show Option.map _ ((xa_hz (mt y)).find? (fun u => Nat.beq u.2.1 cx)) = _; rw [show (xa_hz (mt y)).find? (fun u => Nat.beq u.2.1 cx) = some z from hzf]; rfl)
                      have h3 := hHz z hzm
                      simp only [Bool.and_eq_true, decide_eq_true_eq] at h3
                      have h2 := ih d w y ip' lv [.ref (j + 1)] h1 o h' k2 z2 hy e1 p e R s m args below meth c B.heap (locs ++ L1) (cells + k1) (slots + z1) ls F hR hl hMB hSB (by omega) (by omega) (by omega) hfr hlo
                      rw [← hip, h3.2.2.2.1, Nat.add_assoc, Nat.add_assoc] at h2
                      obtain ⟨t, a1, b1⟩ := h2 (B.setVm vm') rfl XC
                      exact ⟨t, hgo t (hgo2 t a1), b1⟩
                  · cases hfound
      · rename_i hk0 hk1 hk2 hk3
        obtain ⟨hb4, hev⟩ := xa_if_some hev
        rw [Bool.and_eq_true] at hb4
        have hd1 := Nat.le_of_ble_eq_true hb4.1
        have hw30 := Nat.le_of_ble_eq_true hb4.2
        split at hev
        · cases hev
        · rename_i ip' lv' st' h1 k1 z1 hnx
          have hck4 : xa_ck cl (tk y) (mt y) pc i len nip r q ts = true := by
            split at hckw
            · exact hckw
            · rename_i hk; exact absurd hk hk1
            · rename_i hk; exact absurd hk hk2
            · exact hckw
            · rename_i hk4
              exfalso
              rcases xa_kind_in i r q with hh | hh | hh | hh | hh
              · exact hk0 hh
              · exact hk1 hh
              · exact hk2 hh
              · exact hk3 hh
              · exact hk4 hh
          obtain ⟨k2, z2, e1, rfl, rfl⟩ := xa_add_some hev
          have hlen := xa_nx_len hnx
          refine xa_sim_nx G.1 F hsub hck4 hnx hl hM hS hcs (by omega) (by omega) (fun _ => ⟨by omega, by omega⟩) ?_
          intro pc' ls' H1 locs1 hpc1 hl1 hM1 hS1
          have h2 := ih d w y ip' lv' st' h1 o h' k2 z2 hy e1 p e R s m args below meth c H1 locs1 (cells + k1) (slots + z1) ls' F hR hl1 hM1 hS1 (by omega) (by omega) (by omega) hfr hlo
          rw [hpc1, Nat.add_assoc, Nat.add_assoc] at h2
          exact h2
end XK
end
section
/-! WORDS THAT STAY -/
def xw_ok (w : Jvm.Cond) : Bool := match w with
  | .castable _ _ => true
  | .declares _ => true
  | .stringRef _ _ _ => true
  | .not (.castable _ _) => true
  | w => goodWord w || (w.onTables && w.keepsH)
theorem xw_at {w : Jvm.Cond} (h : xw_ok w = true) {s U : State} (hW : s.WarmedH U.vm) {a a' : Array Value} (hb : w.before a s = true) : w.before a' U = true := by
  unfold xw_ok at h
  split at h
  · rename_i c1 c2
    have h1 : (Jvm.Cond.castable c1 c2).before a (s.setVm U.vm) = true := by rw [Cond.castable_setVm hW.alike]; exact hb
    exact va_tabs rfl (rfl : (s.setVm U.vm).vm = U.vm) h1
  · rename_i c1
    have h1 : (Jvm.Cond.declares c1).before a (s.setVm U.vm) = true := by rw [Cond.declares_setVm hW.alike]; exact hb
    exact va_tabs rfl (rfl : (s.setVm U.vm).vm = U.vm) h1
  · exact Cond.stringRef_warmed hW hb
  · exact Cond.castAtom_setVm hW.alike (.not (.castable _ _)) rfl hb
  · rw [Bool.or_eq_true, Bool.and_eq_true] at h
    rcases h with h | ⟨h1, h2⟩
    · exact word_at hW (good_of_word h) hb
    · have h3 : w.before a (s.setVm U.vm) = true := Spec.cold_of_keepsH (S := { pre := w, room := {}, post := .tt, changes := none }) h2 a s (s.setVm U.vm) hb (Or.inr (State.WarmerH.of_warmed rfl hW))
      exact va_tabs h1 (rfl : (s.setVm U.vm).vm = U.vm) h3
/-- a static reference, where the old cells are as they were -/
theorem xh_ref {C f d : String} {s0 U : State} {base : Nat} (hbase : s0.heap.size = base) (hR : xa_Rl s0 base U) {a a' : Array Value} (h : (Jvm.Cond.isRef (.static C f d)).before a s0 = true) : (Jvm.Cond.isRef (.static C f d)).before a' U = true := by
  have h1 : (Jvm.Cond.isRef (.static C f d)).before a (s0.setVm U.vm) = true := by
    unfold Cond.before Cond.holds at h ⊢
    rw [Cond.value_setVm hR.1.alike _ _ rfl]
    exact h
  unfold Cond.before Cond.holds at h1 ⊢
  have e : (Term.static C f d).eval a' U none [] U = (Term.static C f d).eval a (s0.setVm U.vm) none [] (s0.setVm U.vm) := by
    have h2 : ((Jvm.Cond.isRef (.static C f d)).value a (s0.setVm U.vm) none (s0.setVm U.vm) []) = some true := by simpa using h1
    unfold Cond.value at h2
    cases hev : (Term.static C f d).eval a (s0.setVm U.vm) none [] (s0.setVm U.vm) with
    | none => simp [hev] at h2
    | some v =>
      rw [← hev]
      unfold Term.eval at hev ⊢
      have hfn : U.fieldNamed? C f d true = (s0.setVm U.vm).fieldNamed? C f d true := rfl
      rw [hfn]
      cases hq : (s0.setVm U.vm).fieldNamed? C f d true with
      | none => rfl
      | some q =>
        obtain ⟨q1, k, slot⟩ := q
        rw [hq] at hev
        cases hs : k.statics with
        | none => simp [hs]
        | some ad =>
          have hlt : ad < base := by
            cases hc : s0.heap[ad]? with
            | none =>
              exfalso
              simp [hs, hc, State.setVm] at hev
            | some cc => rw [← hbase]; exact (Array.getElem?_eq_some_iff.mp hc).1
          have hh : U.heap[ad]? = s0.heap[ad]? := hR.2.2 ad hlt
          simp [hs, hh, State.setVm]
  unfold Cond.value at h1 ⊢
  rw [e]
  exact h1
theorem xh_lays {C f d : String} {s0 U : State} {base : Nat} (hbase : s0.heap.size = base) (hR : xa_Rl s0 base U) {a a' : Array Value} (h : (Jvm.Cond.laysStatic C f d).before a s0 = true) : (Jvm.Cond.laysStatic C f d).before a' U = true := by
  have h1 : (Jvm.Cond.laysStatic C f d).before a (s0.setVm U.vm) = true := by
    unfold Cond.before Cond.holds at h ⊢
    rw [Cond.value_setVm hR.1.alike _ _ rfl]
    exact h
  unfold Cond.before Cond.holds at h1 ⊢
  unfold Cond.value at h1 ⊢
  have hf1 : U.vm.findClass C = (s0.setVm U.vm).vm.findClass C := rfl
  have hf2 : U.fieldFound? C f d = (s0.setVm U.vm).fieldFound? C f d := rfl
  rw [hf1, hf2]
  cases hc : (s0.setVm U.vm).vm.findClass C with
  | none => rw [hc] at h1; exact h1
  | some c =>
    cases hq : (s0.setVm U.vm).fieldFound? C f d with
    | none => rw [hc, hq] at h1; exact h1
    | some q =>
      obtain ⟨c', k, i, fd⟩ := q
      rw [hc, hq] at h1
      dsimp only at h1 ⊢
      cases hs : k.statics with
      | none => rw [hs] at h1; exact h1
      | some ad =>
        rw [hs] at h1
        have hlt : ad < base := by
          cases hcc : s0.heap[ad]? with
          | none =>
            exfalso
            simp [hcc, State.setVm] at h1
          | some cc => rw [← hbase]; exact (Array.getElem?_eq_some_iff.mp hcc).1
        have hh : U.heap[ad]? = s0.heap[ad]? := hR.2.2 ad hlt
        simp only [Option.bind_some] at h1 ⊢
        rw [hh]
        exact h1
end

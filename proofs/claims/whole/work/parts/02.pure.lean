abbrev xa_R : Type := Nat × Jvm.ClassFile.Instr × Nat × Nat × Nat × Nat × List Nat
abbrev xa_M : Type := MethodName × ByteArray × Nat × Option FieldType × List ((Nat × Nat × Nat × Nat) × Nat × Nat) × List xa_R
abbrev xa_nm (M : xa_M) : MethodName := M.1
abbrev xa_by (M : xa_M) : ByteArray := M.2.1
abbrev xa_mL (M : xa_M) : Nat := M.2.2.1
abbrev xa_rt (M : xa_M) : Option FieldType := M.2.2.2.1
abbrev xa_hz (M : xa_M) : List ((Nat × Nat × Nat × Nat) × Nat × Nat) := M.2.2.2.2.1
abbrev xa_hh (M : xa_M) : List (Nat × Nat × Nat × Nat) := (xa_hz M).map fun z => z.1
abbrev xa_hd (M : xa_M) : List (Nat × Nat) := (xa_hz M).map fun z => z.2
abbrev xa_rows (M : xa_M) : List xa_R := M.2.2.2.2.2
def xa_con (r q : Nat) : Int32 := bif Nat.beq q 0 then nI r else - nI r
def xa_cat2 (v : Value) : Bool := match v with
  | .long _ => true
  | .double _ => true
  | _ => false
def xa_put1 (lv : List (Nat × Value)) (i : Nat) (v : Value) : List (Nat × Value) := (i, v) :: lv.filter (fun q => !(Nat.beq q.1 i) && !(Nat.beq (q.1 + 1) i && xa_cat2 q.2))
def xa_put2 (lv : List (Nat × Value)) (i : Nat) (v : Value) : List (Nat × Value) := (i, v) :: lv.filter (fun q => !(Nat.beq q.1 i) && (!(Nat.beq q.1 (i + 1)) && !(Nat.beq (q.1 + 1) i && xa_cat2 q.2)))
def xa_get (i : Nat) : List (Nat × Value) → Option Value
  | [] => none
  | q :: l => bif Nat.beq q.1 i then some q.2 else xa_get i l
def xa_cmp (c : Jvm.ClassFile.Cond) (x y : Int32) : Bool := match c with
  | .eq => decide (x = y)
  | .ne => !decide (x = y)
  | .lt => decide (x < y)
  | .ge => decide (y ≤ x)
  | .gt => decide (y < x)
  | .le => decide (x ≤ y)
abbrev xa_N : Type := Nat × List (Nat × Value) × List Value × List va_E × Nat × Nat
abbrev xa_go (ip : Nat) (lv : List (Nat × Value)) (st : List Value) (h : List va_E) : Option xa_N := some (ip, lv, st, h, 0, 0)
def xa_inB (i : Int32) (n : Nat) : Bool := !(decide (i < 0) || decide (n ≤ i.toNatClampNeg))
def xa_pi {α : Type} (st : List Value) (k : Int32 → List Value → Option α) : Option α := match st with
  | .int x :: st => k x st
  | _ => none
def xa_pl {α : Type} (st : List Value) (k : Int64 → List Value → Option α) : Option α := match st with
  | .long x :: st => k x st
  | _ => none
def xa_pr {α : Type} (st : List Value) (k : Nat → List Value → Option α) : Option α := match st with
  | .ref x :: st => k x st
  | _ => none
def xa_p1 {α : Type} (st : List Value) (k : Value → List Value → Option α) : Option α := match st with
  | v :: st => bif xa_cat2 v then none else k v st
  | _ => none
def xa_li {α : Type} (r : Nat) (lv : List (Nat × Value)) (k : Int32 → Option α) : Option α := match xa_get r lv with
  | some (.int x) => k x
  | _ => none
def xa_ll {α : Type} (r : Nat) (lv : List (Nat × Value)) (k : Int64 → Option α) : Option α := match xa_get r lv with
  | some (.long x) => k x
  | _ => none
def xa_lr {α : Type} (r : Nat) (lv : List (Nat × Value)) (k : Nat → Option α) : Option α := match xa_get r lv with
  | some (.ref x) => k x
  | _ => none
def xa_if {α : Type} (c : Bool) (k : Option α) : Option α := match c with
  | true => k
  | false => none
def xa_ai {α : Type} (h : List va_E) (a t : Nat) (k : Nat → Nat → (Nat → Int32) → Option α) : Option α := match a with
  | 0 => none
  | j + 1 => match h[j]? with
    | some (.inl (t', n, .inl f)) => xa_if (Nat.beq t' t) (k j n f)
    | _ => none
def xa_al {α : Type} (h : List va_E) (a : Nat) (k : Nat → Nat → (Nat → Int64) → Option α) : Option α := match a with
  | 0 => none
  | j + 1 => match h[j]? with
    | some (.inl (t', n, .inr (.inl f))) => xa_if (Nat.beq t' 2) (k j n f)
    | _ => none
def xa_ob {α : Type} (h : List va_E) (a ci : Nat) (k : Nat → List Value → Option α) : Option α := match a with
  | 0 => none
  | j + 1 => match h[j]? with
    | some (.inr (c, fs)) => xa_if (Nat.beq c ci) (k j fs)
    | _ => none
def xa_ln {α : Type} (L : Nat) (h : List va_E) (a : Nat) (k : Nat → Option α) : Option α := match a with
  | 0 => k L
  | j + 1 => match h[j]? with
    | some (.inl (_, n, _)) => k n
    | _ => none
def xa_is {α : Type} (L : Nat) (xs : Nat → Int32) (h : List va_E) (a : Nat) (k : Nat → (Nat → Int32) → Option α) : Option α := match a with
  | 0 => k L xs
  | j + 1 => xa_ai h (j + 1) 0 fun _ n f => k n f
def xa_z (r n : Nat) : va_E := match r with
  | 2 => .inl (2, n, .inr (.inl fun _ => 0))
  | r => .inl (r, n, .inl fun _ => 0)
def xa_fd {α : Type} (fs : List Value) (q : Nat) (k : Value → Option α) : Option α := match fs[q]? with
  | some v => k v
  | none => none
def xa_fit (t : Nat) (v : Value) : Bool := match t, v with
  | 0, .int _ => true
  | 1, .ref _ => true
  | 2, .long _ => true
  | 3, .int x => decide (x = 0) || decide (x = 1)
  | _, _ => false
def xa_dflt (t : Nat) : Value := match t with
  | 1 => .null
  | 2 => .long 0
  | _ => .int 0
def xa_pv {α : Type} (st : List Value) (k : Value → List Value → Option α) : Option α := match st with
  | v :: st => k v st
  | _ => none
def xa_abs (x : Int32) : Int32 := if 0 ≤ x then x else 0 - x
def xa_cats (st : List Value) : Nat := (st.map fun v => v.category).sum
def xa_own (r nip : Nat) (lv : List (Nat × Value)) (st : List Value) (h : List va_E) : Option xa_N := match r with
  | 1000 => xa_pr st fun _ st => xa_if (Nat.ble (xa_cats st) 8) (xa_go nip lv st h)
  | 1001 => xa_pi st fun x st => xa_if (Nat.ble (xa_cats st) 8) (xa_go nip lv (.int (xa_abs x) :: st) h)
  | 1002 => xa_pi st fun n st => xa_pi st fun dp st => xa_pr st fun a st => xa_pi st fun sp st => xa_pr st fun a0 st => xa_ai h a0 0 fun _ n0 f => xa_ai h a 0 fun j n1 g =>
      xa_if (Nat.ble (xa_cats st) 8 && !(decide (sp < 0)) && !(decide (dp < 0)) && !(decide (n < 0)) && decide (sp.toNatClampNeg + n.toNatClampNeg ≤ n0) && decide (dp.toNatClampNeg + n.toNatClampNeg ≤ n1))
        (xa_go nip lv st (h.set j (.inl (0, n1, .inl (va_cpy f g sp.toNatClampNeg dp.toNatClampNeg n.toNatClampNeg)))))
  | _ => none
def xa_nx (L : Nat) (xs : Nat → Int32) (i : Jvm.ClassFile.Instr) (nip r q : Nat) (ts : List Nat) (lv : List (Nat × Value)) (st : List Value) (h : List va_E) : Option xa_N := match i with
  | .iconst _ => xa_go nip lv (.int (xa_con r q) :: st) h
  | .bipush _ => xa_go nip lv (.int (xa_con r q) :: st) h
  | .sipush _ => xa_go nip lv (.int (xa_con r q) :: st) h
  | .ldc _ => xa_go nip lv (.int (xa_con r q) :: st) h
  | .ldc_w _ => xa_go nip lv (.int (xa_con r q) :: st) h
  | .lconst _ => xa_go nip lv (.long (lN r) :: st) h
  | .ldc2_w _ => xa_go nip lv (.long (lN r) :: st) h
  | .iload_n _ => xa_li r lv fun x => xa_go nip lv (.int x :: st) h
  | .iload _ => xa_li r lv fun x => xa_go nip lv (.int x :: st) h
  | .lload_n _ => xa_ll r lv fun x => xa_go nip lv (.long x :: st) h
  | .lload _ => xa_ll r lv fun x => xa_go nip lv (.long x :: st) h
  | .aload_n _ => xa_lr r lv fun x => xa_go nip lv (.ref x :: st) h
  | .aload _ => xa_lr r lv fun x => xa_go nip lv (.ref x :: st) h
  | .istore_n _ => xa_pi st fun x st => xa_go nip (xa_put1 lv r (.int x)) st h
  | .istore _ => xa_pi st fun x st => xa_go nip (xa_put1 lv r (.int x)) st h
  | .astore_n _ => xa_pr st fun x st => xa_go nip (xa_put1 lv r (.ref x)) st h
  | .astore _ => xa_pr st fun x st => xa_go nip (xa_put1 lv r (.ref x)) st h
  | .lstore_n _ => xa_pl st fun x st => xa_go nip (xa_put2 lv r (.long x)) st h
  | .lstore _ => xa_pl st fun x st => xa_go nip (xa_put2 lv r (.long x)) st h
  | .iinc _ _ => xa_li r lv fun x => xa_go nip (xa_put1 lv r (.int (x + xa_con q ts.length))) st h
  | .iadd => xa_pi st fun y st => xa_pi st fun x st => xa_go nip lv (.int (x + y) :: st) h
  | .isub => xa_pi st fun y st => xa_pi st fun x st => xa_go nip lv (.int (x - y) :: st) h
  | .imul => xa_pi st fun y st => xa_pi st fun x st => xa_go nip lv (.int (x * y) :: st) h
  | .iand => xa_pi st fun y st => xa_pi st fun x st => xa_go nip lv (.int (x &&& y) :: st) h
  | .idiv => xa_pi st fun y st => xa_pi st fun x st => xa_if (!decide (y = 0)) (xa_go nip lv (.int (x / y) :: st) h)
  | .irem => xa_pi st fun y st => xa_pi st fun x st => xa_if (!decide (y = 0)) (xa_go nip lv (.int (x - x / y * y) :: st) h)
  | .ineg => xa_pi st fun x st => xa_go nip lv (.int (-x) :: st) h
  | .ladd => xa_pl st fun y st => xa_pl st fun x st => xa_go nip lv (.long (x + y) :: st) h
  | .lsub => xa_pl st fun y st => xa_pl st fun x st => xa_go nip lv (.long (x - y) :: st) h
  | .lmul => xa_pl st fun y st => xa_pl st fun x st => xa_go nip lv (.long (x * y) :: st) h
  | .ldiv => xa_pl st fun y st => xa_pl st fun x st => xa_if (!decide (y = 0)) (xa_go nip lv (.long (x / y) :: st) h)
  | .lrem => xa_pl st fun y st => xa_pl st fun x st => xa_if (!decide (y = 0)) (xa_go nip lv (.long (x - x / y * y) :: st) h)
  | .lcmp => xa_pl st fun y st => xa_pl st fun x st => xa_go nip lv (.int (lg_cmp x y) :: st) h
  | .i2l => xa_pi st fun x st => xa_go nip lv (.long x.toInt64 :: st) h
  | .l2i => xa_pl st fun x st => xa_go nip lv (.int x.toInt32 :: st) h
  | .dup => xa_p1 st fun v st => xa_go nip lv (v :: v :: st) h
  | .pop => xa_p1 st fun _ st => xa_go nip lv st h
  | .dup2 => xa_p1 st fun v st => xa_p1 st fun w st => xa_go nip lv (v :: w :: v :: w :: st) h
  | .ifCond c _ => xa_pi st fun x st => xa_go (bif xa_cmp c x 0 then r else nip) lv st h
  | .if_icmp c _ => xa_pi st fun y st => xa_pi st fun x st => xa_go (bif xa_cmp c x y then r else nip) lv st h
  | .goto _ => xa_go r lv st h
  | .tableswitch _ _ _ _ => xa_pi st fun x st => xa_go (bif decide (x < xa_con r 0) || decide (xa_con q 0 < x) then ts.headD 0 else ts.getD ((x.toNatClampNeg - r) + 1) 0) lv st h
  | .getfield _ => xa_pr st fun a st => xa_ob h a r fun _ fs => xa_fd fs q fun v => xa_go nip lv (v :: st) h
  | .putfield _ => xa_pv st fun v st => xa_pr st fun a st => xa_ob h a r fun j fs => xa_if (xa_fit (ts.headD 9) v && decide (q < fs.length)) (xa_go nip lv st (h.set j (.inr (r, fs.set q v))))
  | .arraylength => xa_pr st fun a st => xa_ln L h a fun n => xa_go nip lv (.int (nI n) :: st) h
  | .iaload => xa_pi st fun i st => xa_pr st fun a st => xa_is L xs h a fun n f => xa_if (xa_inB i n) (xa_go nip lv (.int (f i.toNatClampNeg) :: st) h)
  | .baload => xa_pi st fun i st => xa_pr st fun a st => xa_ai h a 1 fun _ n f => xa_if (xa_inB i n) (xa_go nip lv (.int (f i.toNatClampNeg) :: st) h)
  | .laload => xa_pi st fun i st => xa_pr st fun a st => xa_al h a fun _ n f => xa_if (xa_inB i n) (xa_go nip lv (.long (f i.toNatClampNeg) :: st) h)
  | .iastore => xa_pi st fun x st => xa_pi st fun i st => xa_pr st fun a st => xa_ai h a 0 fun j n f => xa_if (xa_inB i n) (xa_go nip lv st (h.set j (.inl (0, n, .inl (upd f i.toNatClampNeg x)))))
  | .bastore => xa_pi st fun x st => xa_pi st fun i st => xa_pr st fun a st => xa_ai h a 1 fun j n f => xa_if (xa_inB i n) (xa_go nip lv st (h.set j (.inl (1, n, .inl (upd f i.toNatClampNeg (vp_nar .boolean x))))))
  | .lastore => xa_pl st fun x st => xa_pi st fun i st => xa_pr st fun a st => xa_al h a fun j n f => xa_if (xa_inB i n) (xa_go nip lv st (h.set j (.inl (2, n, .inr (.inl (vp_updL f i.toNatClampNeg x))))))
  | .newarray _ => xa_pi st fun n st => xa_if (!(decide (n < 0)) && decide (n.toNatClampNeg ≤ 100000)) (some (nip, lv, .ref (h.length + 1) :: st, h ++ [xa_z r n.toNatClampNeg], 1, n.toNatClampNeg))
  | .new _ => some (nip, lv, .ref (h.length + 1) :: st, h ++ [.inr (r, ts.map xa_dflt)], 1, ts.length)
  | .invokespecial _ => xa_own r nip lv st h
  | .invokestatic _ => xa_own r nip lv st h
  | _ => none
def xa_kind (i : Jvm.ClassFile.Instr) (r q : Nat) : Nat := match i with
  | .ireturn => 1
  | .lreturn => 1
  | .return_ => 1
  | .new _ => bif Nat.beq q 99 then 2 else 0
  | .invokevirtual _ => 3
  | .invokespecial _ => bif Nat.blt r 1000 then 3 else 4
  | .invokestatic _ => bif Nat.blt r 1000 then 3 else 4
  | _ => 0
abbrev xa_O : Type := Outcome × List va_E × Nat × Nat
def xa_ret (rt : Option FieldType) (i : Jvm.ClassFile.Instr) (st : List Value) (h : List va_E) : Option xa_O := match i with
  | .ireturn => match st with
    | [.int x] => match rt with
      | some .int => some (.returned (some (.int x)), h, 0, 0)
      | some .boolean => some (.returned (some (.int (vp_nar .boolean x))), h, 0, 0)
      | _ => none
    | _ => none
  | .lreturn => match st with
    | [.long x] => match rt with
      | some .long => some (.returned (some (.long x)), h, 0, 0)
      | _ => none
    | _ => none
  | .return_ => match st with
    | [] => match rt with
      | none => some (.returned none, h, 0, 0)
      | _ => none
    | _ => none
  | _ => none
def xa_add (k z : Nat) (o : Option xa_O) : Option xa_O := match o with
  | some (o, h, k', z') => some (o, h, k + k', z + z')
  | none => none
def xa_rec (i : Jvm.ClassFile.Instr) (st : List Value) (h : List va_E) (q ci : Nat) : Bool := match i with
  | .invokevirtual _ => match st[q - 1]? with
    | some (.ref (j + 1)) => match h[j]? with
      | some (.inr (c, _)) => Nat.beq c ci
      | _ => false
    | _ => false
  | .invokespecial _ => match st[q - 1]? with
    | some (.ref _) => true
    | _ => false
  | _ => true
def xa_cok (i : Jvm.ClassFile.Instr) (mL q : Nat) (ts : List Nat) (st : List Value) (h : List va_E) : Bool :=
  Nat.ble q st.length && (Nat.ble (xa_cats (st.drop q) + mL + 11) (ts.getD 1 0) && (Nat.ble (xa_cats (st.take q)) mL && xa_rec i st h q (ts.headD 999)))
def xa_hnd (hs : List (Nat × Nat)) (h : List va_E) (a : Nat) : Option Nat := match a with
  | 0 => none
  | j + 1 => match h[j]? with
    | some (.inr (c, _)) => (hs.find? (fun q => Nat.beq q.1 c)).map (fun q => q.2)
    | _ => none
theorem xa_hnd_nil (h : List va_E) (a : Nat) : xa_hnd [] h a = none := by
  unfold xa_hnd
  split
  · rfl
  · split <;> rfl
abbrev xa_K : Type := Nat → Nat → Nat → Nat → List (Nat × Value) → List Value → List va_E → Option xa_O
def xa_stp (mt : Nat → xa_M) (L : Nat) (xs : Nat → Int32) (rc : xa_K) : xa_K := fun d w y ip lv st h => match (xa_rows (mt y))[ip]? with
  | none => none
  | some (_, i, _, nip, r, q, ts) => match xa_kind i r q with
    | 0 => match xa_nx L xs i nip r q ts lv st h with
      | none => none
      | some (ip', lv', st', h', k, z) => xa_add k z (rc d w y ip' lv' st' h')
    | 1 => xa_ret (xa_rt (mt y)) i st h
    | 2 => xa_if (Nat.ble (xa_cats st) 8 && (Nat.ble 6 d && Nat.ble 100 w)) (some (.threw (h.length + 1), h ++ [.inr (r, [])], 1, 6))
    | 3 => xa_if (xa_cok i (xa_mL (mt r)) q ts st h && (Nat.ble 1 d && Nat.ble (ts.getD 1 0) w)) (match rc (d - 1) (w - ts.getD 1 0) r 0 (lv_args 0 (st.take q).reverse) [] h with
      | none => none
      | some (.returned v, h1, k1, z1) => xa_add k1 z1 (rc d w y nip lv (v.toList ++ st.drop q) h1)
      | some (.threw x, h1, k1, z1) => match xa_hnd (xa_hd (mt y)) h1 x with
        | none => xa_if (xa_hd (mt y)).isEmpty (some (.threw x, h1, k1, z1))
        | some ip' => xa_add k1 z1 (rc d w y ip' lv [.ref x] h1))
    | _ => xa_if (Nat.ble 1 d && Nat.ble 30 w) (match xa_nx L xs i nip r q ts lv st h with
      | none => none
      | some (ip', lv', st', h', k, z) => xa_add k z (rc d w y ip' lv' st' h'))
def xa_ev (mt : Nat → xa_M) (L : Nat) (xs : Nat → Int32) : Nat → xa_K
  | 0 => fun _ _ _ _ _ _ _ => none
  | n + 1 => xa_stp mt L xs (xa_ev mt L xs n)
theorem xa_add_some {k z : Nat} {o : Option xa_O} {o' : Outcome} {h : List va_E} {k' z' : Nat} (e : xa_add k z o = some (o', h, k', z')) : ∃ k1 z1, o = some (o', h, k1, z1) ∧ k' = k + k1 ∧ z' = z + z1 := by
  unfold xa_add at e
  split at e
  · cases e; exact ⟨_, _, rfl, rfl, rfl⟩
  · cases e
theorem xa_add_mono {k z : Nat} {o o2 : Option xa_O} (h : ∀ r, o = some r → o2 = some r) {r : xa_O} (e : xa_add k z o = some r) : xa_add k z o2 = some r := by
  unfold xa_add at e
  split at e
  · rw [h _ rfl]; exact e
  · cases e
theorem xa_ifs {α : Type} {c : Bool} {k : Option α} {o : α} (h : xa_if c k = some o) : c = true ∧ k = some o := by
  cases c with
  | true => exact ⟨rfl, h⟩
  | false => cases h
theorem xa_ift {α : Type} {c : Bool} {k : Option α} (h : c = true) : xa_if c k = k := by subst h; rfl
theorem xa_stp_mono {mt : Nat → xa_M} {L : Nat} {xs : Nat → Int32} {rc rc2 : xa_K} (hr : ∀ d w y ip lv st h r, rc d w y ip lv st h = some r → rc2 d w y ip lv st h = some r) {d w y ip : Nat} {lv : List (Nat × Value)} {st : List Value} {h : List va_E} {r : xa_O} (e : xa_stp mt L xs rc d w y ip lv st h = some r) : xa_stp mt L xs rc2 d w y ip lv st h = some r := by
  unfold xa_stp at e ⊢
  (try dsimp only at e ⊢)
  split at e
  · cases e
  · rename_i pc i len nip r' q ts hrow
    split at e
    · split at e
      · cases e
      · rename_i ip' lv' st' h' k z hnx
        exact xa_add_mono (fun r hh => hr _ _ _ _ _ _ _ _ hh) e
    · exact e
    · exact e
    · obtain ⟨hc, e⟩ := xa_ifs e
      rw [xa_ift hc]
      split at e
      · cases e
      · rename_i v h1 k1 z1 hcal
        rw [hr _ _ _ _ _ _ _ _ hcal]
        exact xa_add_mono (fun r hh => hr _ _ _ _ _ _ _ _ hh) e
      · rename_i x h1 k1 z1 hcal
        rw [hr _ _ _ _ _ _ _ _ hcal]
        dsimp only
        split at e
        · exact e
        · exact xa_add_mono (fun r hh => hr _ _ _ _ _ _ _ _ hh) e
    · obtain ⟨hc, e⟩ := xa_ifs e
      rw [xa_ift hc]
      split at e
      · cases e
      · rename_i ip' lv' st' h' k z hnx
        exact xa_add_mono (fun r hh => hr _ _ _ _ _ _ _ _ hh) e
theorem xa_ev_up {mt : Nat → xa_M} {L : Nat} {xs : Nat → Int32} : ∀ (n d w y ip : Nat) (lv : List (Nat × Value)) (st : List Value) (h : List va_E) (r : xa_O), xa_ev mt L xs n d w y ip lv st h = some r → xa_ev mt L xs (n + 1) d w y ip lv st h = some r
  | 0, _, _, _, _, _, _, _, _, e => by cases e
  | n + 1, _, _, _, _, _, _, _, _, e => xa_stp_mono (xa_ev_up n) e
theorem xa_ev_le {mt : Nat → xa_M} {L : Nat} {xs : Nat → Int32} {n n2 : Nat} (hn : n ≤ n2) {d w y ip : Nat} {lv : List (Nat × Value)} {st : List Value} {h : List va_E} {r : xa_O} (e : xa_ev mt L xs n d w y ip lv st h = some r) : xa_ev mt L xs n2 d w y ip lv st h = some r := by
  induction hn with
  | refl => exact e
  | step _ ih => exact xa_ev_up _ _ _ _ _ _ _ _ _ ih

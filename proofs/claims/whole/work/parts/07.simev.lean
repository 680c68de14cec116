theorem xl_go {ip ip' : Nat} {lv lv' : List (Nat × Value)} {st st' : List Value} {h h1 h' : List va_E} {k z : Nat} (hl : h1.length = h.length) (e : xa_go ip lv st h1 = some (ip', lv', st', h', k, z)) : h'.length = h.length + k := by
  obtain ⟨-, -, -, rfl, rfl, -⟩ := xa_go_some e
  exact hl
set_option maxHeartbeats 4000000 in
theorem xa_nx_len {L : Nat} {xs : Nat → Int32} {i : Jvm.ClassFile.Instr} {nip r q : Nat} {ts : List Nat} {lv lv' : List (Nat × Value)} {st st' : List Value} {h h' : List va_E} {ip' k z : Nat} (hn : xa_nx L xs i nip r q ts lv st h = some (ip', lv', st', h', k, z)) : h'.length = h.length + k := by
  cases i
  case iconst _ =>
    exact xl_go rfl hn
  case bipush _ =>
    exact xl_go rfl hn
  case sipush _ =>
    exact xl_go rfl hn
  case ldc _ =>
    exact xl_go rfl hn
  case ldc_w _ =>
    exact xl_go rfl hn
  case lconst _ =>
    exact xl_go rfl hn
  case ldc2_w _ =>
    exact xl_go rfl hn
  case iload_n _ =>
    obtain ⟨_, _, h0⟩ := xa_li_some hn
    exact xl_go rfl h0
  case iload _ =>
    obtain ⟨_, _, h0⟩ := xa_li_some hn
    exact xl_go rfl h0
  case lload_n _ =>
    obtain ⟨_, _, h0⟩ := xa_ll_some hn
    exact xl_go rfl h0
  case lload _ =>
    obtain ⟨_, _, h0⟩ := xa_ll_some hn
    exact xl_go rfl h0
  case aload_n _ =>
    obtain ⟨_, _, h0⟩ := xa_lr_some hn
    exact xl_go rfl h0
  case aload _ =>
    obtain ⟨_, _, h0⟩ := xa_lr_some hn
    exact xl_go rfl h0
  case istore_n _ =>
    obtain ⟨_, _, _, h0⟩ := xa_pi_some hn
    exact xl_go rfl h0
  case istore _ =>
    obtain ⟨_, _, _, h0⟩ := xa_pi_some hn
    exact xl_go rfl h0
  case astore_n _ =>
    obtain ⟨_, _, _, h0⟩ := xa_pr_some hn
    exact xl_go rfl h0
  case astore _ =>
    obtain ⟨_, _, _, h0⟩ := xa_pr_some hn
    exact xl_go rfl h0
  case lstore_n _ =>
    obtain ⟨_, _, _, h0⟩ := xa_pl_some hn
    exact xl_go rfl h0
  case lstore _ =>
    obtain ⟨_, _, _, h0⟩ := xa_pl_some hn
    exact xl_go rfl h0
  case iinc _ _ =>
    obtain ⟨_, _, h0⟩ := xa_li_some hn
    exact xl_go rfl h0
  case iadd =>
    obtain ⟨_, _, _, h0⟩ := xa_pi_some hn
    obtain ⟨_, _, _, h1⟩ := xa_pi_some h0
    exact xl_go rfl h1
  case isub =>
    obtain ⟨_, _, _, h0⟩ := xa_pi_some hn
    obtain ⟨_, _, _, h1⟩ := xa_pi_some h0
    exact xl_go rfl h1
  case imul =>
    obtain ⟨_, _, _, h0⟩ := xa_pi_some hn
    obtain ⟨_, _, _, h1⟩ := xa_pi_some h0
    exact xl_go rfl h1
  case iand =>
    obtain ⟨_, _, _, h0⟩ := xa_pi_some hn
    obtain ⟨_, _, _, h1⟩ := xa_pi_some h0
    exact xl_go rfl h1
  case idiv =>
    obtain ⟨_, _, _, h0⟩ := xa_pi_some hn
    obtain ⟨_, _, _, h1⟩ := xa_pi_some h0
    obtain ⟨_, h2⟩ := xa_if_some h1
    exact xl_go rfl h2
  case irem =>
    obtain ⟨_, _, _, h0⟩ := xa_pi_some hn
    obtain ⟨_, _, _, h1⟩ := xa_pi_some h0
    obtain ⟨_, h2⟩ := xa_if_some h1
    exact xl_go rfl h2
  case ineg =>
    obtain ⟨_, _, _, h0⟩ := xa_pi_some hn
    exact xl_go rfl h0
  case ladd =>
    obtain ⟨_, _, _, h0⟩ := xa_pl_some hn
    obtain ⟨_, _, _, h1⟩ := xa_pl_some h0
    exact xl_go rfl h1
  case lsub =>
    obtain ⟨_, _, _, h0⟩ := xa_pl_some hn
    obtain ⟨_, _, _, h1⟩ := xa_pl_some h0
    exact xl_go rfl h1
  case lmul =>
    obtain ⟨_, _, _, h0⟩ := xa_pl_some hn
    obtain ⟨_, _, _, h1⟩ := xa_pl_some h0
    exact xl_go rfl h1
  case ldiv =>
    obtain ⟨_, _, _, h0⟩ := xa_pl_some hn
    obtain ⟨_, _, _, h1⟩ := xa_pl_some h0
    obtain ⟨_, h2⟩ := xa_if_some h1
    exact xl_go rfl h2
  case lrem =>
    obtain ⟨_, _, _, h0⟩ := xa_pl_some hn
    obtain ⟨_, _, _, h1⟩ := xa_pl_some h0
    obtain ⟨_, h2⟩ := xa_if_some h1
    exact xl_go rfl h2
  case lcmp =>
    obtain ⟨_, _, _, h0⟩ := xa_pl_some hn
    obtain ⟨_, _, _, h1⟩ := xa_pl_some h0
    exact xl_go rfl h1
  case i2l =>
    obtain ⟨_, _, _, h0⟩ := xa_pi_some hn
    exact xl_go rfl h0
  case l2i =>
    obtain ⟨_, _, _, h0⟩ := xa_pl_some hn
    exact xl_go rfl h0
  case dup =>
    obtain ⟨_, _, _, _, h0⟩ := xa_p1_some hn
    exact xl_go rfl h0
  case pop =>
    obtain ⟨_, _, _, _, h0⟩ := xa_p1_some hn
    exact xl_go rfl h0
  case dup2 =>
    obtain ⟨_, _, _, _, h0⟩ := xa_p1_some hn
    obtain ⟨_, _, _, _, h1⟩ := xa_p1_some h0
    exact xl_go rfl h1
  case ifCond _ _ =>
    obtain ⟨_, _, _, h0⟩ := xa_pi_some hn
    exact xl_go rfl h0
  case if_icmp _ _ =>
    obtain ⟨_, _, _, h0⟩ := xa_pi_some hn
    obtain ⟨_, _, _, h1⟩ := xa_pi_some h0
    exact xl_go rfl h1
  case goto _ =>
    exact xl_go rfl hn
  case tableswitch _ _ _ _ =>
    obtain ⟨_, _, _, h0⟩ := xa_pi_some hn
    exact xl_go rfl h0
  case getfield _ =>
    obtain ⟨_, _, _, h0⟩ := xa_pr_some hn
    obtain ⟨_, _, _, _, h1⟩ := xa_ob_some h0
    obtain ⟨_, _, h2⟩ := xa_fd_some h1
    exact xl_go rfl h2
  case putfield _ =>
    obtain ⟨_, _, _, h0⟩ := xa_pv_some hn
    obtain ⟨_, _, _, h1⟩ := xa_pr_some h0
    obtain ⟨_, _, _, _, h2⟩ := xa_ob_some h1
    obtain ⟨_, h3⟩ := xa_if_some h2
    exact xl_go (List.length_set ..) h3
  case arraylength =>
    obtain ⟨_, _, _, h0⟩ := xa_pr_some hn
    rcases xa_ln_some h0 with ⟨_, h9⟩ | ⟨_, _, _, _, _, _, h9⟩ <;> exact xl_go rfl h9
  case iaload =>
    obtain ⟨_, _, _, h0⟩ := xa_pi_some hn
    obtain ⟨_, _, _, h1⟩ := xa_pr_some h0
    rcases xa_is_some h1 with ⟨_, h9⟩ | ⟨_, _, _, _, _, h9⟩ <;> exact xl_go rfl (xa_if_some h9).2
  case baload =>
    obtain ⟨_, _, _, h0⟩ := xa_pi_some hn
    obtain ⟨_, _, _, h1⟩ := xa_pr_some h0
    obtain ⟨_, _, _, _, _, h2⟩ := xa_ai_some h1
    obtain ⟨_, h3⟩ := xa_if_some h2
    exact xl_go rfl h3
  case laload =>
    obtain ⟨_, _, _, h0⟩ := xa_pi_some hn
    obtain ⟨_, _, _, h1⟩ := xa_pr_some h0
    obtain ⟨_, _, _, _, _, h2⟩ := xa_al_some h1
    obtain ⟨_, h3⟩ := xa_if_some h2
    exact xl_go rfl h3
  case iastore =>
    obtain ⟨_, _, _, h0⟩ := xa_pi_some hn
    obtain ⟨_, _, _, h1⟩ := xa_pi_some h0
    obtain ⟨_, _, _, h2⟩ := xa_pr_some h1
    obtain ⟨_, _, _, _, _, h3⟩ := xa_ai_some h2
    obtain ⟨_, h4⟩ := xa_if_some h3
    exact xl_go (List.length_set ..) h4
  case bastore =>
    obtain ⟨_, _, _, h0⟩ := xa_pi_some hn
    obtain ⟨_, _, _, h1⟩ := xa_pi_some h0
    obtain ⟨_, _, _, h2⟩ := xa_pr_some h1
    obtain ⟨_, _, _, _, _, h3⟩ := xa_ai_some h2
    obtain ⟨_, h4⟩ := xa_if_some h3
    exact xl_go (List.length_set ..) h4
  case lastore =>
    obtain ⟨_, _, _, h0⟩ := xa_pl_some hn
    obtain ⟨_, _, _, h1⟩ := xa_pi_some h0
    obtain ⟨_, _, _, h2⟩ := xa_pr_some h1
    obtain ⟨_, _, _, _, _, h3⟩ := xa_al_some h2
    obtain ⟨_, h4⟩ := xa_if_some h3
    exact xl_go (List.length_set ..) h4
  case newarray _ =>
    obtain ⟨_, _, _, h0⟩ := xa_pi_some hn
    obtain ⟨_, h1⟩ := xa_if_some h0
    cases h1; simp
  case new _ =>
    cases hn; simp
  case invokespecial _ =>
    replace hn : xa_own r nip lv st h = some (ip', lv', st', h', k, z) := hn
    unfold xa_own at hn
    split at hn
    · obtain ⟨_, _, _, h0⟩ := xa_pr_some hn
      exact xl_go rfl (xa_if_some h0).2
    · obtain ⟨_, _, _, h0⟩ := xa_pi_some hn
      exact xl_go rfl (xa_if_some h0).2
    · obtain ⟨_, _, _, h0⟩ := xa_pi_some hn
      obtain ⟨_, _, _, h1⟩ := xa_pi_some h0
      obtain ⟨_, _, _, h2⟩ := xa_pr_some h1
      obtain ⟨_, _, _, h3⟩ := xa_pi_some h2
      obtain ⟨_, _, _, h4⟩ := xa_pr_some h3
      obtain ⟨_, _, _, _, _, h5⟩ := xa_ai_some h4
      obtain ⟨_, _, _, _, _, h6⟩ := xa_ai_some h5
      exact xl_go (List.length_set ..) (xa_if_some h6).2
    · cases hn
  case invokestatic _ =>
    replace hn : xa_own r nip lv st h = some (ip', lv', st', h', k, z) := hn
    unfold xa_own at hn
    split at hn
    · obtain ⟨_, _, _, h0⟩ := xa_pr_some hn
      exact xl_go rfl (xa_if_some h0).2
    · obtain ⟨_, _, _, h0⟩ := xa_pi_some hn
      exact xl_go rfl (xa_if_some h0).2
    · obtain ⟨_, _, _, h0⟩ := xa_pi_some hn
      obtain ⟨_, _, _, h1⟩ := xa_pi_some h0
      obtain ⟨_, _, _, h2⟩ := xa_pr_some h1
      obtain ⟨_, _, _, h3⟩ := xa_pi_some h2
      obtain ⟨_, _, _, h4⟩ := xa_pr_some h3
      obtain ⟨_, _, _, _, _, h5⟩ := xa_ai_some h4
      obtain ⟨_, _, _, _, _, h6⟩ := xa_ai_some h5
      exact xl_go (List.length_set ..) (xa_if_some h6).2
    · cases hn
  all_goals exact nomatch (show (none : Option xa_N) = some _ from hn)
theorem xa_lv_args (b base : Nat) : ∀ (vs : List Value) (i : Nat), xa_lv b base (lv_args i vs) = lv_args i (vs.map (xa_rv b base))
  | [], _ => rfl
  | v :: vs, i => by
    show (i, xa_rv b base v) :: xa_lv b base (lv_args _ vs) = _
    rw [xa_lv_args b base vs]
    simp only [List.map_cons, lv_args, xa_rv_cat]
theorem xa_sl_len (vs : List Value) : (lg_sl vs).length = xa_cats vs := by
  induction vs with
  | nil => rfl
  | cons v vs ih =>
    have h1 : lg_sl (v :: vs) = (if v.category = 2 then [.val v, .second] else [.val v]) ++ lg_sl vs := rfl
    rw [h1, List.length_append, ih]
    show _ = v.category + xa_cats vs
    cases v <;> rfl
def xa_ad (b base a : Nat) : Nat := match a with
  | 0 => b
  | k + 1 => base + k
theorem xa_rv_ref (b base a : Nat) : xa_rv b base (.ref a) = .ref (xa_ad b base a) := by cases a <;> rfl
def xa_oc (b base : Nat) (o : Outcome) : Outcome := match o with
  | .returned v => .returned (v.map (xa_rv b base))
  | .threw a => .threw (xa_ad b base a)
def xa_Rl (s0 : State) (base : Nat) (U : State) : Prop := s0.WarmedH U.vm ∧ base ≤ U.heap.size ∧ ∀ q, q < base → U.heap[q]? = s0.heap[q]?
def xa_Pc (D : va_G) (cl : List vw_C) (cs : ClassId × ClassId × ClassId) (b base : Nat) (s0 : State) (vs : List Value) (h : List va_E) : Array Value → State → Prop := fun a U => a = (vs.map (xa_rv b base)).toArray ∧ xa_Rl s0 base U ∧ xa_Mt D cl cs b base h U.heap ∧ U.heap.size ≤ base + h.length
def xa_Qc (D : va_G) (cl : List vw_C) (cs : ClassId × ClassId × ClassId) (b base : Nat) (s0 : State) (o : Outcome) (h' : List va_E) : Array Value → State → Outcome → State → Prop := fun _ _ o' t => o' = xa_oc b base o ∧ xa_Rl s0 base t ∧ xa_Mt D cl cs b base h' t.heap

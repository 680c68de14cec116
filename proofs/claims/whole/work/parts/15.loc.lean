def xq : List (Nat × Value) → List (Nat × Value) → Prop
  | [], _ => True
  | q :: l, lv' => xa_get q.1 lv' = some q.2 ∧ xq l lv'
theorem xq_mem : ∀ {lv lv' : List (Nat × Value)}, xq lv lv' → ∀ q ∈ lv, xa_get q.1 lv' = some q.2
  | [], _, _, _, hq => by cases hq
  | a :: l, _, h, q, hq => by
    rcases List.mem_cons.mp hq with rfl | hq
    · exact h.1
    · exact xq_mem h.2 q hq
theorem xq_of : ∀ {lv lv' : List (Nat × Value)}, (∀ q ∈ lv, xa_get q.1 lv' = some q.2) → xq lv lv'
  | [], _, _ => trivial
  | a :: l, _, h => ⟨h a (List.mem_cons_self ..), xq_of fun q hq => h q (List.mem_cons_of_mem _ hq)⟩
theorem xa_get_mem {i : Nat} {v : Value} : ∀ {lv : List (Nat × Value)}, xa_get i lv = some v → (i, v) ∈ lv
  | [], h => by cases h
  | q :: l, h => by
    unfold xa_get at h
    cases hq : Nat.beq q.1 i with
    | true =>
      rw [hq] at h
      have h1 : q.1 = i := Nat.eq_of_beq_eq_true hq
      have h2 : q.2 = v := Option.some.inj h
      rw [← h1, ← h2]
      exact List.mem_cons_self ..
    | false =>
      rw [hq] at h
      exact List.mem_cons_of_mem _ (xa_get_mem h)
theorem xa_get_fil {i : Nat} {v : Value} {p : Nat × Value → Bool} (hp : p (i, v) = true) : ∀ {lv : List (Nat × Value)}, xa_get i lv = some v → xa_get i (lv.filter p) = some v
  | [], h => by cases h
  | q :: l, h => by
    unfold xa_get at h
    cases hq : Nat.beq q.1 i with
    | true =>
      rw [hq] at h
      have h1 : q.1 = i := Nat.eq_of_beq_eq_true hq
      have h2 : q.2 = v := Option.some.inj h
      have h3 : q = (i, v) := by rw [← h1, ← h2]
      subst h3
      rw [List.filter_cons_of_pos hp]
      show (bif Nat.beq i i then some v else xa_get i (l.filter p)) = some v
      have h4 : Nat.beq i i = true := hq
      rw [h4]; rfl
    | false =>
      rw [hq] at h
      have ih := xa_get_fil hp h
      by_cases hp2 : p q = true
      · rw [List.filter_cons_of_pos hp2]
        show (bif Nat.beq q.1 i then some q.2 else xa_get i (l.filter p)) = some v
        rw [hq]; exact ih
      · rw [List.filter_cons_of_neg hp2]; exact ih
theorem xa_get_hd (i : Nat) (v : Value) (l : List (Nat × Value)) : xa_get i ((i, v) :: l) = some v := by
  show (bif Nat.beq i i then some v else xa_get i l) = some v
  rw [show Nat.beq i i = true from Nat.beq_refl i]; rfl
theorem xa_get_tl {i j : Nat} (v : Value) (l : List (Nat × Value)) (h : ¬ j = i) : xa_get i ((j, v) :: l) = xa_get i l := by
  show (bif Nat.beq j i then some v else xa_get i l) = _
  have h1 : Nat.beq j i = false := by
    cases hb : Nat.beq j i with
    | false => rfl
    | true => exact absurd (Nat.eq_of_beq_eq_true hb) h
  rw [h1]; rfl
theorem xq_put {lv lv' : List (Nat × Value)} {i : Nat} {v : Value} {p : Nat × Value → Bool} (hp : ∀ q, p q = true → ¬ q.1 = i) (h : xq lv lv') : xq ((i, v) :: lv.filter p) ((i, v) :: lv'.filter p) := by
  refine ⟨xa_get_hd .., xq_of fun q hq => ?_⟩
  obtain ⟨h1, h2⟩ := List.mem_filter.mp hq
  rw [xa_get_tl _ _ (fun e => hp q h2 e.symm)]
  exact xa_get_fil (p := p) h2 (xq_mem h q h1)
theorem xq_put1 {lv lv' : List (Nat × Value)} {i : Nat} {v : Value} (h : xq lv lv') : xq (xa_put1 lv i v) (xa_put1 lv' i v) := by
  refine xq_put (fun q hq e => ?_) h
  rw [e, show Nat.beq i i = true from Nat.beq_refl i] at hq
  cases hq
theorem xq_put2 {lv lv' : List (Nat × Value)} {i : Nat} {v : Value} (h : xq lv lv') : xq (xa_put2 lv i v) (xa_put2 lv' i v) := by
  refine xq_put (fun q hq e => ?_) h
  rw [e, show Nat.beq i i = true from Nat.beq_refl i] at hq
  cases hq
def xa_sub (lv' : List (Nat × Value)) (o : Option xa_N) : Option xa_N := match o with
  | none => none
  | some (ip, _, st, h, k, z) => some (ip, lv', st, h, k, z)
section XS
variable {lv' : List (Nat × Value)} {st : List Value} {h : List va_E}
theorem xs_pi {k : Int32 → List Value → Option xa_N} : xa_sub lv' (xa_pi st k) = xa_pi st (fun x st => xa_sub lv' (k x st)) := by unfold xa_pi; split <;> rfl
theorem xs_pl {k : Int64 → List Value → Option xa_N} : xa_sub lv' (xa_pl st k) = xa_pl st (fun x st => xa_sub lv' (k x st)) := by unfold xa_pl; split <;> rfl
theorem xs_pr {k : Nat → List Value → Option xa_N} : xa_sub lv' (xa_pr st k) = xa_pr st (fun x st => xa_sub lv' (k x st)) := by unfold xa_pr; split <;> rfl
theorem xs_pv {k : Value → List Value → Option xa_N} : xa_sub lv' (xa_pv st k) = xa_pv st (fun x st => xa_sub lv' (k x st)) := by unfold xa_pv; split <;> rfl
theorem xs_p1 {k : Value → List Value → Option xa_N} : xa_sub lv' (xa_p1 st k) = xa_p1 st (fun x st => xa_sub lv' (k x st)) := by
  unfold xa_p1
  split
  · rename_i v st2
    cases xa_cat2 v <;> rfl
  · rfl
theorem xs_if {c : Bool} {k : Option xa_N} : xa_sub lv' (xa_if c k) = xa_if c (xa_sub lv' k) := by cases c <;> rfl
theorem xs_ai {a t : Nat} {k : Nat → Nat → (Nat → Int32) → Option xa_N} : xa_sub lv' (xa_ai h a t k) = xa_ai h a t (fun j n f => xa_sub lv' (k j n f)) := by
  unfold xa_ai
  split
  · rfl
  · split
    · exact xs_if
    · rfl
theorem xs_al {a : Nat} {k : Nat → Nat → (Nat → Int64) → Option xa_N} : xa_sub lv' (xa_al h a k) = xa_al h a (fun j n f => xa_sub lv' (k j n f)) := by
  unfold xa_al
  split
  · rfl
  · split
    · exact xs_if
    · rfl
theorem xs_ob {a c : Nat} {k : Nat → List Value → Option xa_N} : xa_sub lv' (xa_ob h a c k) = xa_ob h a c (fun j f => xa_sub lv' (k j f)) := by
  unfold xa_ob
  split
  · rfl
  · split
    · exact xs_if
    · rfl
theorem xs_ln {L a : Nat} {k : Nat → Option xa_N} : xa_sub lv' (xa_ln L h a k) = xa_ln L h a (fun n => xa_sub lv' (k n)) := by
  unfold xa_ln
  split
  · rfl
  · split <;> rfl
theorem xs_is {L : Nat} {xs : Nat → Int32} {a : Nat} {k : Nat → (Nat → Int32) → Option xa_N} : xa_sub lv' (xa_is L xs h a k) = xa_is L xs h a (fun n f => xa_sub lv' (k n f)) := by
  unfold xa_is
  split
  · rfl
  · exact xs_ai
theorem xs_fd {fs : List Value} {q : Nat} {k : Value → Option xa_N} : xa_sub lv' (xa_fd fs q k) = xa_fd fs q (fun v => xa_sub lv' (k v)) := by unfold xa_fd; split <;> rfl
theorem xs_so {ip : Nat} {lv : List (Nat × Value)} {k z : Nat} : xa_sub lv' (some (ip, lv, st, h, k, z)) = some (ip, lv', st, h, k, z) := rfl
theorem xs_own {r nip : Nat} {lv : List (Nat × Value)} : xa_own r nip lv' st h = xa_sub lv' (xa_own r nip lv st h) := by
  unfold xa_own
  split <;> first | rfl | (simp only [xs_pi, xs_pr, xs_if, xs_ai, xa_go, xs_so])
end XS
def xq_N (o o' : Option xa_N) : Prop := match o with
  | none => True
  | some (ip, lv, st, h, k, z) => ∃ lv', o' = some (ip, lv', st, h, k, z) ∧ xq lv lv'
theorem xq_N_sub {lv lv' : List (Nat × Value)} {o : Option xa_N} (hl : xq lv lv') (ho : ∀ ip l st h k z, o = some (ip, l, st, h, k, z) → l = lv) : xq_N o (xa_sub lv' o) := by
  cases o with
  | none => trivial
  | some n =>
    obtain ⟨ip, l, st, h, k, z⟩ := n
    have := ho ip l st h k z rfl
    subst this
    exact ⟨lv', rfl, hl⟩
theorem xs_self {lv : List (Nat × Value)} {o : Option xa_N} (e : o = xa_sub lv o) : ∀ ip l st h k z, o = some (ip, l, st, h, k, z) → l = lv := by
  intro ip l st h k z ho
  subst ho
  have e1 : some (ip, l, st, h, k, z) = some (ip, lv, st, h, k, z) := e
  injection e1 with e2
  injection e2 with _ e3
  injection e3
theorem xq_go {lv lv' : List (Nat × Value)} {F : List (Nat × Value) → Option xa_N} (e : ∀ l l', F l' = xa_sub l' (F l)) (hl : xq lv lv') : xq_N (F lv) (F lv') := by
  rw [e lv lv']
  exact xq_N_sub hl (xs_self (e lv lv))
theorem xq_li {lv lv' : List (Nat × Value)} {r : Nat} {k k' : Int32 → Option xa_N} (hl : xq lv lv') (hk : ∀ x, xq_N (k x) (k' x)) : xq_N (xa_li r lv k) (xa_li r lv' k') := by
  cases e : xa_li r lv k with
  | none => trivial
  | some o =>
    obtain ⟨x, hx, ho⟩ := xa_li_some e
    have h1 : xa_get r lv' = some (.int x) := xq_mem hl _ (xa_get_mem hx)
    have h2 := hk x
    rw [ho] at h2
    unfold xa_li
    rw [h1]
    exact h2
theorem xq_ll {lv lv' : List (Nat × Value)} {r : Nat} {k k' : Int64 → Option xa_N} (hl : xq lv lv') (hk : ∀ x, xq_N (k x) (k' x)) : xq_N (xa_ll r lv k) (xa_ll r lv' k') := by
  cases e : xa_ll r lv k with
  | none => trivial
  | some o =>
    obtain ⟨x, hx, ho⟩ := xa_ll_some e
    have h1 : xa_get r lv' = some (.long x) := xq_mem hl _ (xa_get_mem hx)
    have h2 := hk x
    rw [ho] at h2
    unfold xa_ll
    rw [h1]
    exact h2
theorem xq_lr {lv lv' : List (Nat × Value)} {r : Nat} {k k' : Nat → Option xa_N} (hl : xq lv lv') (hk : ∀ x, xq_N (k x) (k' x)) : xq_N (xa_lr r lv k) (xa_lr r lv' k') := by
  cases e : xa_lr r lv k with
  | none => trivial
  | some o =>
    obtain ⟨x, hx, ho⟩ := xa_lr_some e
    have h1 : xa_get r lv' = some (.ref x) := xq_mem hl _ (xa_get_mem hx)
    have h2 := hk x
    rw [ho] at h2
    unfold xa_lr
    rw [h1]
    exact h2
theorem xq_pi {st : List Value} {k k' : Int32 → List Value → Option xa_N} (hk : ∀ x st, xq_N (k x st) (k' x st)) : xq_N (xa_pi st k) (xa_pi st k') := by
  unfold xa_pi
  split
  · exact hk _ _
  · trivial
theorem xq_pl {st : List Value} {k k' : Int64 → List Value → Option xa_N} (hk : ∀ x st, xq_N (k x st) (k' x st)) : xq_N (xa_pl st k) (xa_pl st k') := by
  unfold xa_pl
  split
  · exact hk _ _
  · trivial
theorem xq_pr {st : List Value} {k k' : Nat → List Value → Option xa_N} (hk : ∀ x st, xq_N (k x st) (k' x st)) : xq_N (xa_pr st k) (xa_pr st k') := by
  unfold xa_pr
  split
  · exact hk _ _
  · trivial
set_option maxHeartbeats 2000000 in
theorem xa_nx_sub {L : Nat} {xs : Nat → Int32} {i : Jvm.ClassFile.Instr} {nip r q : Nat} {ts : List Nat} {lv lv' : List (Nat × Value)} {st : List Value} {h : List va_E} (hl : xq lv lv') : xq_N (xa_nx L xs i nip r q ts lv st h) (xa_nx L xs i nip r q ts lv' st h) := by
  cases i
  case iload_n _ => exact xq_li hl fun x => ⟨_, rfl, hl⟩
  case iload _ => exact xq_li hl fun x => ⟨_, rfl, hl⟩
  case lload_n _ => exact xq_ll hl fun x => ⟨_, rfl, hl⟩
  case lload _ => exact xq_ll hl fun x => ⟨_, rfl, hl⟩
  case aload_n _ => exact xq_lr hl fun x => ⟨_, rfl, hl⟩
  case aload _ => exact xq_lr hl fun x => ⟨_, rfl, hl⟩
  case istore_n _ => exact xq_pi fun x st => ⟨_, rfl, xq_put1 hl⟩
  case istore _ => exact xq_pi fun x st => ⟨_, rfl, xq_put1 hl⟩
  case astore_n _ => exact xq_pr fun x st => ⟨_, rfl, xq_put1 hl⟩
  case astore _ => exact xq_pr fun x st => ⟨_, rfl, xq_put1 hl⟩
  case lstore_n _ => exact xq_pl fun x st => ⟨_, rfl, xq_put2 hl⟩
  case lstore _ => exact xq_pl fun x st => ⟨_, rfl, xq_put2 hl⟩
  case iinc _ _ => exact xq_li hl fun x => ⟨_, rfl, xq_put1 hl⟩
  case invokespecial _ =>
    have e : ∀ l l', xa_own r nip l' st h = xa_sub l' (xa_own r nip l st h) := fun l l' => xs_own
    show xq_N (xa_own r nip lv st h) (xa_own r nip lv' st h)
    rw [e lv lv']
    exact xq_N_sub hl (xs_self (e lv lv))
  case invokestatic _ =>
    have e : ∀ l l', xa_own r nip l' st h = xa_sub l' (xa_own r nip l st h) := fun l l' => xs_own
    show xq_N (xa_own r nip lv st h) (xa_own r nip lv' st h)
    rw [e lv lv']
    exact xq_N_sub hl (xs_self (e lv lv))
  all_goals first
    | trivial
    | exact ⟨_, rfl, hl⟩
    | (refine xq_go (F := fun l => xa_nx L xs _ nip r q ts l st h) (fun l l' => ?_) hl; simp only [xa_nx, xs_pi, xs_pl, xs_pr, xs_pv, xs_p1, xs_if, xs_ai, xs_al, xs_ob, xs_ln, xs_is, xs_fd, xa_go, xs_so]; done)
theorem xq_ev {mt : Nat → xa_M} {L : Nat} {xs : Nat → Int32} : ∀ (n d w y ip : Nat) (lv lv' : List (Nat × Value)) (st : List Value) (h : List va_E) (r : xa_O), xq lv lv' → xa_ev mt L xs n d w y ip lv st h = some r → xa_ev mt L xs n d w y ip lv' st h = some r
  | 0, _, _, _, _, _, _, _, _, _, _, e => by cases e
  | n + 1, d, w, y, ip, lv, lv', st, h, r, hl, e => by
    replace e : xa_stp mt L xs (xa_ev mt L xs n) d w y ip lv st h = some r := e
    show xa_stp mt L xs (xa_ev mt L xs n) d w y ip lv' st h = some r
    unfold xa_stp at e ⊢
    (try dsimp only at e ⊢)
    split at e
    · cases e
    · rename_i pc i len nip r' q ts hrow
      have hnx := xa_nx_sub (L := L) (xs := xs) (i := i) (nip := nip) (r := r') (q := q) (ts := ts) (st := st) (h := h) hl
      split at e
      · split at e
        · cases e
        · rename_i ip' lv1 st' h' k z hn
          rw [hn] at hnx
          obtain ⟨lv1', hn', hl'⟩ := hnx
          rw [hn']
          exact xa_add_mono (fun r hh => xq_ev n _ _ _ _ _ _ _ _ _ hl' hh) e
      · exact e
      · exact e
      · obtain ⟨hc, e⟩ := xa_ifs e
        rw [xa_ift hc]
        split at e
        · cases e
        · rename_i v h1 k1 z1 hcal
          exact xa_add_mono (fun r hh => xq_ev n _ _ _ _ _ _ _ _ _ hl hh) e
        · rename_i x h1 k1 z1 hcal
          (try dsimp only)
          split at e
          · exact e
          · exact xa_add_mono (fun r hh => xq_ev n _ _ _ _ _ _ _ _ _ hl hh) e
      · obtain ⟨hc, e⟩ := xa_ifs e
        rw [xa_ift hc]
        split at e
        · cases e
        · rename_i ip' lv1 st' h' k z hn
          rw [hn] at hnx
          obtain ⟨lv1', hn', hl'⟩ := hnx
          rw [hn']
          exact xa_add_mono (fun r hh => xq_ev n _ _ _ _ _ _ _ _ _ hl' hh) e
theorem xv_lv {mt : Nat → xa_M} {L : Nat} {xs : Nat → Int32} {d w y ip : Nat} (lv : List (Nat × Value)) {lv' : List (Nat × Value)} {st : List Value} {h : List va_E} {o : Outcome} {h' : List va_E} {k z : Nat} (hl : xq lv lv') (he : xv mt L xs d w y ip lv st h o h' k z) : xv mt L xs d w y ip lv' st h o h' k z := by
  obtain ⟨n, he⟩ := he
  exact ⟨n, xq_ev n _ _ _ _ _ _ _ _ _ hl he⟩

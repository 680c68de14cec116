def xa_rv (b base : Nat) (v : Value) : Value := match v with
  | .ref 0 => .ref b
  | .ref (k + 1) => .ref (base + k)
  | v => v
def xa_tag (cs : ClassId × ClassId × ClassId) (t : Nat) : ClassId := match t with
  | 0 => cs.1
  | 1 => cs.2.1
  | _ => cs.2.2
def xa_re (cs : ClassId × ClassId × ClassId) (b base : Nat) (e : va_E) : va_E := match e with
  | .inl (t, x) => .inl (xa_tag cs t, x)
  | .inr (c, fs) => .inr (c, fs.map (xa_rv b base))
def xa_W (cs : ClassId × ClassId × ClassId) (b base : Nat) (h : List va_E) : va_W := h.mapIdx fun k e => (base + k, xa_re cs b base e)
def xa_lv (b base : Nat) (lv : List (Nat × Value)) : List (Nat × Value) := lv.map fun q => (q.1, xa_rv b base q.2)
def xa_tys (cs : ClassId × ClassId × ClassId) : List (ClassId × FieldType) := [(cs.1, .int), (cs.2.1, .boolean), (cs.2.2, .long)]
def xa_Mt (D : va_G) (cl : List vw_C) (cs : ClassId × ClassId × ClassId) (b base : Nat) (h : List va_E) (H : Heap) : Prop := base + h.length ≤ H.size ∧ va_P D cl (xa_W cs b base h) H
abbrev xa_A (base : Nat) : Nat → Prop := fun q => base ≤ q
theorem xa_rv_cat (b base : Nat) (v : Value) : (xa_rv b base v).category = v.category := by
  cases v with
  | ref a => cases a <;> rfl
  | _ => rfl
theorem xa_cat2_iff (v : Value) : (v.category == 2) = xa_cat2 v := by cases v <;> rfl
theorem xa_cat2_iff' (v : Value) : Nat.beq v.category 2 = xa_cat2 v := by cases v <;> rfl
theorem xa_cat1 {v : Value} (h : xa_cat2 v = false) : v.category = 1 := by cases v <;> first | rfl | (simp [xa_cat2] at h)
theorem xa_cats_rv (b base : Nat) (st : List Value) : ((st.map (xa_rv b base)).map fun v => v.category).sum = xa_cats st := by
  induction st with
  | nil => rfl
  | cons v st ih =>
    simp only [List.map_cons, List.sum_cons, xa_cats] at ih ⊢
    rw [ih, xa_rv_cat]
theorem xa_W_get (cs : ClassId × ClassId × ClassId) (b base : Nat) (h : List va_E) (k : Nat) : (xa_W cs b base h)[k]? = (h[k]?).map fun e => (base + k, xa_re cs b base e) := by
  simp [xa_W]
theorem xa_W_at {cs : ClassId × ClassId × ClassId} {b base : Nat} {h : List va_E} {k : Nat} {e : va_E} (hk : h[k]? = some e) : (xa_W cs b base h)[k]? = some (base + k, xa_re cs b base e) := by
  rw [xa_W_get, hk]; rfl
theorem xa_W_len (cs : ClassId × ClassId × ClassId) (b base : Nat) (h : List va_E) : (xa_W cs b base h).length = h.length := by simp [xa_W]
theorem xa_W_set (cs : ClassId × ClassId × ClassId) (b base : Nat) (h : List va_E) (k : Nat) (e : va_E) : xa_W cs b base (h.set k e) = (xa_W cs b base h).set k (base + k, xa_re cs b base e) := by
  apply List.ext_getElem?
  intro i
  rw [xa_W_get, List.getElem?_set, List.getElem?_set, xa_W_len]
  by_cases hik : k = i
  · subst hik
    by_cases hl : k < h.length
    · simp [hl]
    · simp [hl]
  · simp [hik, xa_W_get]
theorem xa_W_push (cs : ClassId × ClassId × ClassId) (b base : Nat) (h : List va_E) (e : va_E) : xa_W cs b base (h ++ [e]) = xa_W cs b base h ++ [(base + h.length, xa_re cs b base e)] := by
  simp [xa_W, List.mapIdx_append]
theorem xa_W_D (cs : ClassId × ClassId × ClassId) (b base : Nat) (h : List va_E) : va_D (xa_A base) (xa_W cs b base h) := by
  have key : ∀ (k : Nat) (q : Nat × va_E), (xa_W cs b base h)[k]? = some q → q.1 = base + k := by
    intro k q hq
    rw [xa_W_get] at hq
    cases hk : h[k]? with
    | none => rw [hk] at hq; cases hq
    | some e => rw [hk] at hq; cases hq; rfl
  refine ⟨fun i j p q hi hj hpq => ?_, fun k q hk => ?_⟩
  · have h1 := key i p hi
    have h2 := key j q hj
    omega
  · have h1 := key k q hk
    show base ≤ q.1
    omega
theorem xa_lv_get {b base : Nat} {lv : List (Nat × Value)} {i : Nat} {v : Value} (h : xa_get i lv = some v) : (i, xa_rv b base v) ∈ xa_lv b base lv := by
  induction lv with
  | nil => cases h
  | cons q l ih =>
    unfold xa_get at h
    cases hb : Nat.beq q.1 i with
    | true =>
      rw [hb] at h
      have h1 : q.1 = i := Nat.eq_of_beq_eq_true hb
      have h2 : q.2 = v := Option.some.inj h
      subst h1; subst h2
      exact List.mem_cons_self
    | false =>
      rw [hb] at h
      exact List.mem_cons_of_mem _ (ih h)
theorem xa_slot {ls : Array Slot} {n b base : Nat} {lv : List (Nat × Value)} (hl : lv_has ls n (xa_lv b base lv)) {i : Nat} {v : Value} (h : xa_get i lv = some v) : ls[i]? = some (.val (xa_rv b base v)) := hl.2.2 _ (xa_lv_get h)
theorem xa_place {ls : Array Slot} {n b base : Nat} {lv : List (Nat × Value)} (hl : lv_has ls n (xa_lv b base lv)) {i : Nat} {v : Value} (h : xa_get i lv = some v) : ∃ k : Nat, (xa_lv b base lv)[k]? = some (i, xa_rv b base v) := List.getElem?_of_mem (xa_lv_get h)
theorem xa_beq (a b : Nat) : (a == b) = Nat.beq a b := by
  rw [Bool.eq_iff_iff, beq_iff_eq, Nat.beq_eq]
theorem xa_lv_put1 (b base : Nat) (lv : List (Nat × Value)) (i : Nat) (v : Value) : (i, xa_rv b base v) :: (xa_lv b base lv).filter (fun q => !(q.1 == i) && !(q.1 + 1 == i && q.2.category == 2)) = xa_lv b base (xa_put1 lv i v) := by
  simp only [xa_put1, xa_lv, List.map_cons, List.filter_map]
  congr 2
  apply List.filter_congr
  intro q _
  simp only [Function.comp, xa_rv_cat, xa_beq, xa_cat2_iff']
theorem xa_lv_put2 (b base : Nat) (lv : List (Nat × Value)) (i : Nat) (v : Value) : (i, xa_rv b base v) :: (xa_lv b base lv).filter (fun q => !(q.1 == i) && (!(q.1 == i + 1) && !(q.1 + 1 == i && q.2.category == 2))) = xa_lv b base (xa_put2 lv i v) := by
  simp only [xa_put2, xa_lv, List.map_cons, List.filter_map]
  congr 2
  apply List.filter_congr
  intro q _
  simp only [Function.comp, xa_rv_cat, xa_beq, xa_cat2_iff']
theorem xa_pi_some {α : Type} {st : List Value} {k : Int32 → List Value → Option α} {o : α} (h : xa_pi st k = some o) : ∃ x st', st = .int x :: st' ∧ k x st' = some o := by
  unfold xa_pi at h
  split at h
  · exact ⟨_, _, rfl, h⟩
  · cases h
theorem xa_pl_some {α : Type} {st : List Value} {k : Int64 → List Value → Option α} {o : α} (h : xa_pl st k = some o) : ∃ x st', st = .long x :: st' ∧ k x st' = some o := by
  unfold xa_pl at h
  split at h
  · exact ⟨_, _, rfl, h⟩
  · cases h
theorem xa_pr_some {α : Type} {st : List Value} {k : Nat → List Value → Option α} {o : α} (h : xa_pr st k = some o) : ∃ x st', st = .ref x :: st' ∧ k x st' = some o := by
  unfold xa_pr at h
  split at h
  · exact ⟨_, _, rfl, h⟩
  · cases h
theorem xa_p1_some {α : Type} {st : List Value} {k : Value → List Value → Option α} {o : α} (h : xa_p1 st k = some o) : ∃ v st', st = v :: st' ∧ xa_cat2 v = false ∧ k v st' = some o := by
  unfold xa_p1 at h
  split at h
  · rename_i v st
    cases hc : xa_cat2 v with
    | true => rw [hc] at h; cases h
    | false => rw [hc] at h; exact ⟨v, st, rfl, hc, h⟩
  · cases h
theorem xa_pv_some {α : Type} {st : List Value} {k : Value → List Value → Option α} {o : α} (h : xa_pv st k = some o) : ∃ v st', st = v :: st' ∧ k v st' = some o := by
  unfold xa_pv at h
  split at h
  · exact ⟨_, _, rfl, h⟩
  · cases h
theorem xa_li_some {α : Type} {r : Nat} {lv : List (Nat × Value)} {k : Int32 → Option α} {o : α} (h : xa_li r lv k = some o) : ∃ x, xa_get r lv = some (.int x) ∧ k x = some o := by
  unfold xa_li at h
  split at h
  · exact ⟨_, by assumption, h⟩
  · cases h
theorem xa_ll_some {α : Type} {r : Nat} {lv : List (Nat × Value)} {k : Int64 → Option α} {o : α} (h : xa_ll r lv k = some o) : ∃ x, xa_get r lv = some (.long x) ∧ k x = some o := by
  unfold xa_ll at h
  split at h
  · exact ⟨_, by assumption, h⟩
  · cases h
theorem xa_lr_some {α : Type} {r : Nat} {lv : List (Nat × Value)} {k : Nat → Option α} {o : α} (h : xa_lr r lv k = some o) : ∃ x, xa_get r lv = some (.ref x) ∧ k x = some o := by
  unfold xa_lr at h
  split at h
  · exact ⟨_, by assumption, h⟩
  · cases h
theorem xa_if_some {α : Type} {c : Bool} {k : Option α} {o : α} (h : xa_if c k = some o) : c = true ∧ k = some o := by
  cases c with
  | true => exact ⟨rfl, h⟩
  | false => cases h
theorem xa_ai_some {α : Type} {h : List va_E} {a t : Nat} {k : Nat → Nat → (Nat → Int32) → Option α} {o : α} (e : xa_ai h a t k = some o) : ∃ j n f, a = j + 1 ∧ h[j]? = some (.inl (t, n, .inl f)) ∧ k j n f = some o := by
  unfold xa_ai at e
  split at e
  · cases e
  · split at e
    · rename_i t' n f hj
      obtain ⟨h1, h2⟩ := xa_if_some e
      have h3 : t' = t := Nat.eq_of_beq_eq_true h1
      subst h3
      exact ⟨_, n, f, rfl, hj, h2⟩
    · cases e
theorem xa_al_some {α : Type} {h : List va_E} {a : Nat} {k : Nat → Nat → (Nat → Int64) → Option α} {o : α} (e : xa_al h a k = some o) : ∃ j n f, a = j + 1 ∧ h[j]? = some (.inl (2, n, .inr (.inl f))) ∧ k j n f = some o := by
  unfold xa_al at e
  split at e
  · cases e
  · split at e
    · rename_i t' n f hj
      obtain ⟨h1, h2⟩ := xa_if_some e
      have h3 : t' = 2 := Nat.eq_of_beq_eq_true h1
      subst h3
      exact ⟨_, n, f, rfl, hj, h2⟩
    · cases e
theorem xa_ob_some {α : Type} {h : List va_E} {a ci : Nat} {k : Nat → List Value → Option α} {o : α} (e : xa_ob h a ci k = some o) : ∃ j fs, a = j + 1 ∧ h[j]? = some (.inr (ci, fs)) ∧ k j fs = some o := by
  unfold xa_ob at e
  split at e
  · cases e
  · split at e
    · rename_i c fs hj
      obtain ⟨h1, h2⟩ := xa_if_some e
      have h3 : c = ci := Nat.eq_of_beq_eq_true h1
      subst h3
      exact ⟨_, fs, rfl, hj, h2⟩
    · cases e
theorem xa_ln_some {α : Type} {L : Nat} {h : List va_E} {a : Nat} {k : Nat → Option α} {o : α} (e : xa_ln L h a k = some o) : (a = 0 ∧ k L = some o) ∨ ∃ (j t n : Nat) (y : (Nat → Int32) ⊕ (Nat → Int64) ⊕ (Nat → UInt32) ⊕ (Nat → UInt64) ⊕ (Nat → Option Nat)), a = j + 1 ∧ h[j]? = some (.inl (t, n, y)) ∧ k n = some o := by
  unfold xa_ln at e
  split at e
  · exact Or.inl ⟨rfl, e⟩
  · split at e
    · rename_i hj
      exact Or.inr ⟨_, _, _, _, rfl, hj, e⟩
    · cases e
theorem xa_is_some {α : Type} {L : Nat} {xs : Nat → Int32} {h : List va_E} {a : Nat} {k : Nat → (Nat → Int32) → Option α} {o : α} (e : xa_is L xs h a k = some o) : (a = 0 ∧ k L xs = some o) ∨ ∃ j n f, a = j + 1 ∧ h[j]? = some (.inl (0, n, .inl f)) ∧ k n f = some o := by
  unfold xa_is at e
  split at e
  · exact Or.inl ⟨rfl, e⟩
  · obtain ⟨j, n, f, h1, h2, h3⟩ := xa_ai_some e
    exact Or.inr ⟨j, n, f, h1, h2, h3⟩
theorem xa_fd_some {α : Type} {fs : List Value} {q : Nat} {k : Value → Option α} {o : α} (e : xa_fd fs q k = some o) : ∃ v, fs[q]? = some v ∧ k v = some o := by
  unfold xa_fd at e
  split at e
  · exact ⟨_, by assumption, e⟩
  · cases e
theorem xa_go_some {ip ip' : Nat} {lv lv' : List (Nat × Value)} {st st' : List Value} {h h' : List va_E} {k z : Nat} (e : xa_go ip lv st h = some (ip', lv', st', h', k, z)) : ip = ip' ∧ lv = lv' ∧ st = st' ∧ h = h' ∧ k = 0 ∧ z = 0 := by
  cases e
  exact ⟨rfl, rfl, rfl, rfl, rfl, rfl⟩
theorem xa_inB_vp {i : Int32} {n : Nat} (h : xa_inB i n = true) : vp_in i n := by
  unfold xa_inB at h
  intro hc
  simp only [Bool.not_eq_true', Bool.or_eq_false_iff, decide_eq_false_iff_not] at h
  exact hc.elim h.1 h.2

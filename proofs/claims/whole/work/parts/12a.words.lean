def xw_ok (w : Jvm.Cond) : Bool := match w with
  | .castable _ _ => true
  | .declares _ => true
  | .stringRef _ _ _ => true
  | .not (.castable _ _) => true
  | w => goodWord w || (w.onTables && w.keepsH)
theorem xw_at {w : Jvm.Cond} (h : xw_ok w = true) {s U : State} (hW : s.WarmedH U.vm) {a a' : Array Value} (hb : w.before a s = true) : w.before a' U = true := by
  unfold xw_ok at h
  split at h
  · rename_i c1 c2
    have h1 : (Jvm.Cond.castable c1 c2).before a (s.setVm U.vm) = true := by rw [Cond.castable_setVm hW.alike]; exact hb
    exact va_tabs rfl (rfl : (s.setVm U.vm).vm = U.vm) h1
  · rename_i c1
    have h1 : (Jvm.Cond.declares c1).before a (s.setVm U.vm) = true := by rw [Cond.declares_setVm hW.alike]; exact hb
    exact va_tabs rfl (rfl : (s.setVm U.vm).vm = U.vm) h1
  · exact Cond.stringRef_warmed hW hb
  · exact Cond.castAtom_setVm hW.alike (.not (.castable _ _)) rfl hb
  · rw [Bool.or_eq_true, Bool.and_eq_true] at h
    rcases h with h | ⟨h1, h2⟩
    · exact word_at hW (good_of_word h) hb
    · have h3 : w.before a (s.setVm U.vm) = true := Spec.cold_of_keepsH (S := { pre := w, room := {}, post := .tt, changes := none }) h2 a s (s.setVm U.vm) hb (Or.inr (State.WarmerH.of_warmed rfl hW))
      exact va_tabs h1 (rfl : (s.setVm U.vm).vm = U.vm) h3
theorem xh_ref {C f d : String} {s0 U : State} {base : Nat} (hbase : s0.heap.size = base) (hR : xa_Rl s0 base U) {a a' : Array Value} (h : (Jvm.Cond.isRef (.static C f d)).before a s0 = true) : (Jvm.Cond.isRef (.static C f d)).before a' U = true := by
  have h1 : (Jvm.Cond.isRef (.static C f d)).before a (s0.setVm U.vm) = true := by
    unfold Cond.before Cond.holds at h ⊢
    rw [Cond.value_setVm hR.1.alike _ _ rfl]
    exact h
  unfold Cond.before Cond.holds at h1 ⊢
  have e : (Term.static C f d).eval a' U none [] U = (Term.static C f d).eval a (s0.setVm U.vm) none [] (s0.setVm U.vm) := by
    have h2 : ((Jvm.Cond.isRef (.static C f d)).value a (s0.setVm U.vm) none (s0.setVm U.vm) []) = some true := by simpa using h1
    unfold Cond.value at h2
    cases hev : (Term.static C f d).eval a (s0.setVm U.vm) none [] (s0.setVm U.vm) with
    | none => simp [hev] at h2
    | some v =>
      rw [← hev]
      unfold Term.eval at hev ⊢
      have hfn : U.fieldNamed? C f d true = (s0.setVm U.vm).fieldNamed? C f d true := rfl
      rw [hfn]
      cases hq : (s0.setVm U.vm).fieldNamed? C f d true with
      | none => rfl
      | some q =>
        obtain ⟨q1, k, slot⟩ := q
        rw [hq] at hev
        cases hs : k.statics with
        | none => simp [hs]
        | some ad =>
          have hlt : ad < base := by
            cases hc : s0.heap[ad]? with
            | none =>
              exfalso
              simp [hs, hc, State.setVm] at hev
            | some cc => rw [← hbase]; exact (Array.getElem?_eq_some_iff.mp hc).1
          have hh : U.heap[ad]? = s0.heap[ad]? := hR.2.2 ad hlt
          simp [hs, hh, State.setVm]
  unfold Cond.value at h1 ⊢
  rw [e]
  exact h1
theorem xh_lays {C f d : String} {s0 U : State} {base : Nat} (hbase : s0.heap.size = base) (hR : xa_Rl s0 base U) {a a' : Array Value} (h : (Jvm.Cond.laysStatic C f d).before a s0 = true) : (Jvm.Cond.laysStatic C f d).before a' U = true := by
  have h1 : (Jvm.Cond.laysStatic C f d).before a (s0.setVm U.vm) = true := by
    unfold Cond.before Cond.holds at h ⊢
    rw [Cond.value_setVm hR.1.alike _ _ rfl]
    exact h
  unfold Cond.before Cond.holds at h1 ⊢
  unfold Cond.value at h1 ⊢
  have hf1 : U.vm.findClass C = (s0.setVm U.vm).vm.findClass C := rfl
  have hf2 : U.fieldFound? C f d = (s0.setVm U.vm).fieldFound? C f d := rfl
  rw [hf1, hf2]
  cases hc : (s0.setVm U.vm).vm.findClass C with
  | none => rw [hc] at h1; exact h1
  | some c =>
    cases hq : (s0.setVm U.vm).fieldFound? C f d with
    | none => rw [hc, hq] at h1; exact h1
    | some q =>
      obtain ⟨c', k, i, fd⟩ := q
      rw [hc, hq] at h1
      dsimp only at h1 ⊢
      cases hs : k.statics with
      | none => rw [hs] at h1; exact h1
      | some ad =>
        rw [hs] at h1
        have hlt : ad < base := by
          cases hcc : s0.heap[ad]? with
          | none =>
            exfalso
            simp [hcc, State.setVm] at h1
          | some cc => rw [← hbase]; exact (Array.getElem?_eq_some_iff.mp hcc).1
        have hh : U.heap[ad]? = s0.heap[ad]? := hR.2.2 ad hlt
        simp only [Option.bind_some] at h1 ⊢
        rw [hh]
        exact h1

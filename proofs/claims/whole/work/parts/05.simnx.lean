def xa_Fr (D : va_G) (cl : List vw_C) (Ts : List Jvm.Cond) (cs : ClassId × ClassId × ClassId) (b base L : Nat) (xs : Nat → Int32) (M : xa_M) (p : Program) (s : State) (m : MethodId) (args : Array Value) (meth : Method) (c : Code) : Prop :=
  p.tables.exec = Jvm.exec ∧ c.code = xa_by M ∧ c.maxLocals = xa_mL M ∧ s.vm.findClass (xa_nm M).cls = some m.cls ∧ (∀ w ∈ Ts, w.before args s = true) ∧ va_K D cl (xa_tys cs) s ∧ va_X b L xs s s.heap ∧ b < base ∧ base ≤ s.heap.size ∧ meth.locks = false ∧ meth.sig.returnType = xa_rt M ∧ meth.name = (xa_nm M).name ∧ c.exceptionTable.toList = tableOf (xa_hh M)
section XSim
variable {p : Program} {l : Launch} {e : Env} {R : Room} {s : State} {m : MethodId} {args : Array Value} {below : List Frame} {meth : Method} {c : Code} {H : Heap} {locs : List Loc} {cells slots : Nat} {Q : State → Prop}
variable {D : va_G} {cl : List vw_C} {Ts : List Jvm.Cond} {cs : ClassId × ClassId × ClassId} {b base L : Nat} {xs : Nat → Int32} {M : xa_M} {ls : Array Slot} {pc : Nat} {rest : List Value}
theorem xa_ldcw {own : String} {index : Nat} {v : Int32} (hx : p.tables.exec = Jvm.exec) (hb : c.code = xa_by M) (hown : s.vm.findClass own = some m.cls) (hconst : (Jvm.Cond.constant own index v).before args s = true) (hd : decode (xa_by M) pc = .ok (.ldc_w index, 3))
    (k : W p l e R s m args below meth c H locs cells slots Q (F0 m (pc + 3) ls (.int v :: rest))) : W p l e R s m args below meth c H locs cells slots Q (F0 m pc ls rest) := by
  intro T hT X
  obtain ⟨t, a, h⟩ := k T hT X
  exact ⟨t, va_ldcwI X hx hown hconst (g := F0 m pc ls rest) rfl (by rw [hb]; exact hd) t a, h⟩
theorem xa_Mt.set {h : List va_E} {H H1 : Heap} {k : Nat} {e : va_E} (hM : xa_Mt D cl cs b base h H) (hP : va_P D cl ((xa_W cs b base h).set k (base + k, xa_re cs b base e)) H1) (hz : H.size ≤ H1.size) : xa_Mt D cl cs b base (h.set k e) H1 := by
  refine ⟨by rw [List.length_set]; exact Nat.le_trans hM.1 hz, ?_⟩
  rw [xa_W_set]
  exact hP
theorem xa_Mt.push {h : List va_E} {H H1 : Heap} {e : va_E} (hM : xa_Mt D cl cs b base h H) (hz : H1.size = base + h.length + 1) (ho : ∀ q, q < H.size → H1[q]? = H[q]?) (he : va_at D cl (base + h.length, xa_re cs b base e) H1) : xa_Mt D cl cs b base (h ++ [e]) H1 := by
  refine ⟨by rw [hz, List.length_append]; exact Nat.le_refl _, ?_⟩
  rw [xa_W_push]
  refine va_P.app (hM.2.kept fun k q hk => ho q.1 (hM.2 k q hk).lt) (fun k q hk => ?_)
  have h1 : k < 1 := (List.getElem?_eq_some_iff.mp hk).1
  rw [show k = 0 by omega] at hk
  cases hk
  exact he
theorem xa_S.two {A : Nat → Prop} {H0 H H1 : Heap} {locs locs1 : List Loc} (h : va_S A H0 H locs) (h1 : va_S A H H1 locs1) : va_S A H0 H1 locs1 :=
  ⟨Nat.le_trans h.1 h1.1, fun q hq hA => (h1.2.1 q (Nat.lt_of_lt_of_le hq h.1) hA).trans (h.2.1 q hq hA), h1.2.2⟩
theorem xa_S.now {A : Nat → Prop} {H0 H : Heap} {locs : List Loc} (h : va_S A H0 H locs) : va_S A H H locs := ⟨Nat.le_refl _, fun _ _ _ => rfl, h.2.2⟩
theorem xa_S.push {A : Nat → Prop} {H0 H H1 : Heap} {locs : List Loc} (h : va_S A H0 H locs) (hz : H.size ≤ H1.size) (ho : ∀ q, q < H.size → H1[q]? = H[q]?) : va_S A H0 H1 locs :=
  ⟨Nat.le_trans h.1 hz, fun q hq hA => (ho q (Nat.lt_of_lt_of_le hq h.1)).trans (h.2.1 q hq hA), h.2.2⟩
theorem xa_tys_at (cs : ClassId × ClassId × ClassId) (t : Nat) : ∃ (t0 : Nat) (ty : FieldType), (xa_tys cs)[t0]? = some (xa_tag cs t, ty) := by
  match t with
  | 0 => exact ⟨0, _, rfl⟩
  | 1 => exact ⟨1, _, rfl⟩
  | _ + 2 => exact ⟨2, _, rfl⟩
theorem xa_fits {d : String} {ty : FieldType} {t : Nat} {v : Value} (hp : parseFieldDescriptor d = some ty) (ht : xa_tyD d = t) (hf : xa_fit t v = true) : narrow ty (xa_rv b base v) = xa_rv b base v ∧ fits ty (xa_rv b base v) = true := by
  have h1 : xa_tt ty = t := by rw [xa_tyD, hp] at ht; exact ht
  subst h1
  cases v with
  | int x => cases ty <;> first
    | exact ⟨rfl, rfl⟩
    | (simp [xa_tt, xa_fit] at hf; done)
    | (have hx : x = 0 ∨ x = 1 := by simpa [xa_tt, xa_fit] using hf
       rcases hx with rfl | rfl <;> exact ⟨rfl, rfl⟩)
  | long x => cases ty <;> first
    | exact ⟨rfl, rfl⟩
    | (simp [xa_tt, xa_fit] at hf; done)
  | ref a => cases ty <;> first
    | (simp [xa_tt, xa_fit] at hf; done)
    | (cases a <;> exact ⟨rfl, rfl⟩)
  | _ => cases ty <;> (simp [xa_tt, xa_fit] at hf)
theorem xa_con0 {r : Nat} (h : r < 2 ^ 31) : (xa_con r 0).toInt = (r : Int) := nI_toInt h
theorem xa_sw_out {r q : Nat} {x : Int32} (hr : r < 2 ^ 31) (hq : q < 2 ^ 31) (h : x < xa_con r 0 ∨ xa_con q 0 < x) : x.toInt < (r : Int) ∨ (q : Int) < x.toInt := by
  rcases h with h | h
  · have := Int32.lt_iff_toInt_lt.mp h
    rw [xa_con0 hr] at this
    exact Or.inl this
  · have := Int32.lt_iff_toInt_lt.mp h
    rw [xa_con0 hq] at this
    exact Or.inr this
theorem xa_sw_in {r q : Nat} {x : Int32} (hr : r < 2 ^ 31) (hq : q < 2 ^ 31) (h : ¬ (x < xa_con r 0 ∨ xa_con q 0 < x)) : ¬ x.toInt < (r : Int) ∧ ¬ (q : Int) < x.toInt ∧ (x.toInt - (r : Int)).toNat = x.toNatClampNeg - r ∧ x.toNatClampNeg - r < q - r + 1 := by
  have h1 : ¬ x.toInt < (r : Int) := fun hc => h (Or.inl (Int32.lt_iff_toInt_lt.mpr (by rw [xa_con0 hr]; exact hc)))
  have h2 : ¬ (q : Int) < x.toInt := fun hc => h (Or.inr (Int32.lt_iff_toInt_lt.mpr (by rw [xa_con0 hq]; exact hc)))
  have h3 : x.toNatClampNeg = x.toInt.toNat := rfl
  refine ⟨h1, h2, ?_, ?_⟩
  · rw [h3]; omega
  · rw [h3]; omega
theorem xa_dflt_ok {d : String} {ty : FieldType} {ts : List Nat} {k : Nat} (hp : parseFieldDescriptor d = some ty) (ht : xa_tyD d = ts.getD k 9) (h4 : xa_tyD d < 4) (hk : k < ts.length) : defaultValue ty = vp_V ((ts.map xa_dflt).map (xa_rv b base)) k := by
  have h1 : xa_tt ty = ts.getD k 9 := by rw [xa_tyD, hp] at ht; exact ht
  have h2 : xa_tt ty < 4 := by rw [xa_tyD, hp] at h4; exact h4
  have h3 : vp_V ((ts.map xa_dflt).map (xa_rv b base)) k = xa_rv b base (xa_dflt (ts.getD k 9)) := by
    simp [vp_V, hk]
  rw [h3, ← h1]
  cases ty <;> first | rfl | (simp [xa_tt] at h2)
set_option maxHeartbeats 1000000 in
theorem xs_iconst {n : Int} {len nip r q : Nat} {ts : List Nat} {lv lv' : List (Nat × Value)} {st st' : List Value} {h h' : List va_E} {ip' k z : Nat} (hC : xa_ckC cl Ts = true)
    (F : xa_Fr D cl Ts cs b base L xs M p s m args meth c) {Tk : List Jvm.Cond} (hsub : ∀ w ∈ Tk, w ∈ Ts) (hck : xa_ck cl Tk M pc (.iconst n) len nip r q ts = true) (hn : xa_nx L xs (.iconst n) nip r q ts lv st h = some (ip', lv', st', h', k, z))
    (hl : lv_has ls (xa_mL M) (xa_lv b base lv)) (hM : xa_Mt D cl cs b base h H) (hS : va_S (xa_A base) s.heap H locs) (hcs : s.heap.size + cells ≤ base + h.length) (hc : cells + k ≤ R.cells) (hz : slots + z ≤ R.slots) (hro : xa_kind (.iconst n) r q = 4 → 1 ≤ R.frames ∧ 30 ≤ R.locals)
    (kk : ∀ (pc' : Nat) (ls' : Array Slot) (H' : Heap) (locs' : List Loc), xa_pc M ip' = pc' → lv_has ls' (xa_mL M) (xa_lv b base lv') → xa_Mt D cl cs b base h' H' → va_S (xa_A base) s.heap H' locs' →
      W p l e R s m args below meth c H' locs' (cells + k) (slots + z) Q (F0 m pc' ls' (st'.map (xa_rv b base)))) :
    W p l e R s m args below meth c H locs cells slots Q (F0 m pc ls (st.map (xa_rv b base))) := by
  obtain ⟨hx, hb, hml, hown, hts, hK, hX, hbb, hbs, hlk, hrt, hnm, hxt⟩ := F
  have htk : ∀ w ∈ Tk, w.before args s = true := fun w hw => hts w (hsub w hw)
  have hD := xa_W_D cs b base h
  have hA : ∀ q, s.heap.size ≤ q → xa_A base q := fun q hq => Nat.le_trans hbs hq
  have hbA : ¬ xa_A base b := Nat.not_le.mpr hbb
  have hbl : b < s.heap.size := Nat.lt_of_lt_of_le hbb hbs
  unfold xa_ck at hck
  rw [Bool.and_eq_true, decide_eq_true_eq] at hck
  obtain ⟨hd, hck⟩ := hck
  simp only [Bool.and_eq_true, decide_eq_true_eq] at hck
  obtain ⟨rfl, hp, hv⟩ := hck
  obtain ⟨rfl, rfl, rfl, rfl, rfl, rfl⟩ := xa_go_some hn
  refine lv_iconst hx hb hd hv ?_
  exact kk _ ls H locs hp hl hM hS
set_option maxHeartbeats 1000000 in
theorem xs_bipush {n : Int} {len nip r q : Nat} {ts : List Nat} {lv lv' : List (Nat × Value)} {st st' : List Value} {h h' : List va_E} {ip' k z : Nat} (hC : xa_ckC cl Ts = true)
    (F : xa_Fr D cl Ts cs b base L xs M p s m args meth c) {Tk : List Jvm.Cond} (hsub : ∀ w ∈ Tk, w ∈ Ts) (hck : xa_ck cl Tk M pc (.bipush n) len nip r q ts = true) (hn : xa_nx L xs (.bipush n) nip r q ts lv st h = some (ip', lv', st', h', k, z))
    (hl : lv_has ls (xa_mL M) (xa_lv b base lv)) (hM : xa_Mt D cl cs b base h H) (hS : va_S (xa_A base) s.heap H locs) (hcs : s.heap.size + cells ≤ base + h.length) (hc : cells + k ≤ R.cells) (hz : slots + z ≤ R.slots) (hro : xa_kind (.bipush n) r q = 4 → 1 ≤ R.frames ∧ 30 ≤ R.locals)
    (kk : ∀ (pc' : Nat) (ls' : Array Slot) (H' : Heap) (locs' : List Loc), xa_pc M ip' = pc' → lv_has ls' (xa_mL M) (xa_lv b base lv') → xa_Mt D cl cs b base h' H' → va_S (xa_A base) s.heap H' locs' →
      W p l e R s m args below meth c H' locs' (cells + k) (slots + z) Q (F0 m pc' ls' (st'.map (xa_rv b base)))) :
    W p l e R s m args below meth c H locs cells slots Q (F0 m pc ls (st.map (xa_rv b base))) := by
  obtain ⟨hx, hb, hml, hown, hts, hK, hX, hbb, hbs, hlk, hrt, hnm, hxt⟩ := F
  have htk : ∀ w ∈ Tk, w.before args s = true := fun w hw => hts w (hsub w hw)
  have hD := xa_W_D cs b base h
  have hA : ∀ q, s.heap.size ≤ q → xa_A base q := fun q hq => Nat.le_trans hbs hq
  have hbA : ¬ xa_A base b := Nat.not_le.mpr hbb
  have hbl : b < s.heap.size := Nat.lt_of_lt_of_le hbb hbs
  unfold xa_ck at hck
  rw [Bool.and_eq_true, decide_eq_true_eq] at hck
  obtain ⟨hd, hck⟩ := hck
  simp only [Bool.and_eq_true, decide_eq_true_eq] at hck
  obtain ⟨rfl, hp, hv⟩ := hck
  obtain ⟨rfl, rfl, rfl, rfl, rfl, rfl⟩ := xa_go_some hn
  refine lv_bipush hx hb hd hv ?_
  exact kk _ ls H locs hp hl hM hS
set_option maxHeartbeats 1000000 in
theorem xs_sipush {n : Int} {len nip r q : Nat} {ts : List Nat} {lv lv' : List (Nat × Value)} {st st' : List Value} {h h' : List va_E} {ip' k z : Nat} (hC : xa_ckC cl Ts = true)
    (F : xa_Fr D cl Ts cs b base L xs M p s m args meth c) {Tk : List Jvm.Cond} (hsub : ∀ w ∈ Tk, w ∈ Ts) (hck : xa_ck cl Tk M pc (.sipush n) len nip r q ts = true) (hn : xa_nx L xs (.sipush n) nip r q ts lv st h = some (ip', lv', st', h', k, z))
    (hl : lv_has ls (xa_mL M) (xa_lv b base lv)) (hM : xa_Mt D cl cs b base h H) (hS : va_S (xa_A base) s.heap H locs) (hcs : s.heap.size + cells ≤ base + h.length) (hc : cells + k ≤ R.cells) (hz : slots + z ≤ R.slots) (hro : xa_kind (.sipush n) r q = 4 → 1 ≤ R.frames ∧ 30 ≤ R.locals)
    (kk : ∀ (pc' : Nat) (ls' : Array Slot) (H' : Heap) (locs' : List Loc), xa_pc M ip' = pc' → lv_has ls' (xa_mL M) (xa_lv b base lv') → xa_Mt D cl cs b base h' H' → va_S (xa_A base) s.heap H' locs' →
      W p l e R s m args below meth c H' locs' (cells + k) (slots + z) Q (F0 m pc' ls' (st'.map (xa_rv b base)))) :
    W p l e R s m args below meth c H locs cells slots Q (F0 m pc ls (st.map (xa_rv b base))) := by
  obtain ⟨hx, hb, hml, hown, hts, hK, hX, hbb, hbs, hlk, hrt, hnm, hxt⟩ := F
  have htk : ∀ w ∈ Tk, w.before args s = true := fun w hw => hts w (hsub w hw)
  have hD := xa_W_D cs b base h
  have hA : ∀ q, s.heap.size ≤ q → xa_A base q := fun q hq => Nat.le_trans hbs hq
  have hbA : ¬ xa_A base b := Nat.not_le.mpr hbb
  have hbl : b < s.heap.size := Nat.lt_of_lt_of_le hbb hbs
  unfold xa_ck at hck
  rw [Bool.and_eq_true, decide_eq_true_eq] at hck
  obtain ⟨hd, hck⟩ := hck
  simp only [Bool.and_eq_true, decide_eq_true_eq] at hck
  obtain ⟨rfl, hp, hv⟩ := hck
  obtain ⟨rfl, rfl, rfl, rfl, rfl, rfl⟩ := xa_go_some hn
  refine lv_sipush hx hb hd hv ?_
  exact kk _ ls H locs hp hl hM hS
set_option maxHeartbeats 1000000 in
theorem xs_ldc {x : Nat} {len nip r q : Nat} {ts : List Nat} {lv lv' : List (Nat × Value)} {st st' : List Value} {h h' : List va_E} {ip' k z : Nat} (hC : xa_ckC cl Ts = true)
    (F : xa_Fr D cl Ts cs b base L xs M p s m args meth c) {Tk : List Jvm.Cond} (hsub : ∀ w ∈ Tk, w ∈ Ts) (hck : xa_ck cl Tk M pc (.ldc x) len nip r q ts = true) (hn : xa_nx L xs (.ldc x) nip r q ts lv st h = some (ip', lv', st', h', k, z))
    (hl : lv_has ls (xa_mL M) (xa_lv b base lv)) (hM : xa_Mt D cl cs b base h H) (hS : va_S (xa_A base) s.heap H locs) (hcs : s.heap.size + cells ≤ base + h.length) (hc : cells + k ≤ R.cells) (hz : slots + z ≤ R.slots) (hro : xa_kind (.ldc x) r q = 4 → 1 ≤ R.frames ∧ 30 ≤ R.locals)
    (kk : ∀ (pc' : Nat) (ls' : Array Slot) (H' : Heap) (locs' : List Loc), xa_pc M ip' = pc' → lv_has ls' (xa_mL M) (xa_lv b base lv') → xa_Mt D cl cs b base h' H' → va_S (xa_A base) s.heap H' locs' →
      W p l e R s m args below meth c H' locs' (cells + k) (slots + z) Q (F0 m pc' ls' (st'.map (xa_rv b base)))) :
    W p l e R s m args below meth c H locs cells slots Q (F0 m pc ls (st.map (xa_rv b base))) := by
  obtain ⟨hx, hb, hml, hown, hts, hK, hX, hbb, hbs, hlk, hrt, hnm, hxt⟩ := F
  have htk : ∀ w ∈ Tk, w.before args s = true := fun w hw => hts w (hsub w hw)
  have hD := xa_W_D cs b base h
  have hA : ∀ q, s.heap.size ≤ q → xa_A base q := fun q hq => Nat.le_trans hbs hq
  have hbA : ¬ xa_A base b := Nat.not_le.mpr hbb
  have hbl : b < s.heap.size := Nat.lt_of_lt_of_le hbb hbs
  unfold xa_ck at hck
  rw [Bool.and_eq_true, decide_eq_true_eq] at hck
  obtain ⟨hd, hck⟩ := hck
  simp only [Bool.and_eq_true, decide_eq_true_eq] at hck
  obtain ⟨rfl, hp, hv⟩ := hck
  obtain ⟨rfl, rfl, rfl, rfl, rfl, rfl⟩ := xa_go_some hn
  refine W.ldc hx hb hown (htk _ hv) rfl hd ?_
  exact kk _ ls H locs hp hl hM hS
set_option maxHeartbeats 1000000 in
theorem xs_ldc_w {x : Nat} {len nip r q : Nat} {ts : List Nat} {lv lv' : List (Nat × Value)} {st st' : List Value} {h h' : List va_E} {ip' k z : Nat} (hC : xa_ckC cl Ts = true)
    (F : xa_Fr D cl Ts cs b base L xs M p s m args meth c) {Tk : List Jvm.Cond} (hsub : ∀ w ∈ Tk, w ∈ Ts) (hck : xa_ck cl Tk M pc (.ldc_w x) len nip r q ts = true) (hn : xa_nx L xs (.ldc_w x) nip r q ts lv st h = some (ip', lv', st', h', k, z))
    (hl : lv_has ls (xa_mL M) (xa_lv b base lv)) (hM : xa_Mt D cl cs b base h H) (hS : va_S (xa_A base) s.heap H locs) (hcs : s.heap.size + cells ≤ base + h.length) (hc : cells + k ≤ R.cells) (hz : slots + z ≤ R.slots) (hro : xa_kind (.ldc_w x) r q = 4 → 1 ≤ R.frames ∧ 30 ≤ R.locals)
    (kk : ∀ (pc' : Nat) (ls' : Array Slot) (H' : Heap) (locs' : List Loc), xa_pc M ip' = pc' → lv_has ls' (xa_mL M) (xa_lv b base lv') → xa_Mt D cl cs b base h' H' → va_S (xa_A base) s.heap H' locs' →
      W p l e R s m args below meth c H' locs' (cells + k) (slots + z) Q (F0 m pc' ls' (st'.map (xa_rv b base)))) :
    W p l e R s m args below meth c H locs cells slots Q (F0 m pc ls (st.map (xa_rv b base))) := by
  obtain ⟨hx, hb, hml, hown, hts, hK, hX, hbb, hbs, hlk, hrt, hnm, hxt⟩ := F
  have htk : ∀ w ∈ Tk, w.before args s = true := fun w hw => hts w (hsub w hw)
  have hD := xa_W_D cs b base h
  have hA : ∀ q, s.heap.size ≤ q → xa_A base q := fun q hq => Nat.le_trans hbs hq
  have hbA : ¬ xa_A base b := Nat.not_le.mpr hbb
  have hbl : b < s.heap.size := Nat.lt_of_lt_of_le hbb hbs
  unfold xa_ck at hck
  rw [Bool.and_eq_true, decide_eq_true_eq] at hck
  obtain ⟨hd, hck⟩ := hck
  simp only [Bool.and_eq_true, decide_eq_true_eq] at hck
  obtain ⟨rfl, hp, hv⟩ := hck
  obtain ⟨rfl, rfl, rfl, rfl, rfl, rfl⟩ := xa_go_some hn
  refine xa_ldcw hx hb hown (htk _ hv) hd ?_
  exact kk _ ls H locs hp hl hM hS
set_option maxHeartbeats 1000000 in
theorem xs_lconst {n : Fin 2} {len nip r q : Nat} {ts : List Nat} {lv lv' : List (Nat × Value)} {st st' : List Value} {h h' : List va_E} {ip' k z : Nat} (hC : xa_ckC cl Ts = true)
    (F : xa_Fr D cl Ts cs b base L xs M p s m args meth c) {Tk : List Jvm.Cond} (hsub : ∀ w ∈ Tk, w ∈ Ts) (hck : xa_ck cl Tk M pc (.lconst n) len nip r q ts = true) (hn : xa_nx L xs (.lconst n) nip r q ts lv st h = some (ip', lv', st', h', k, z))
    (hl : lv_has ls (xa_mL M) (xa_lv b base lv)) (hM : xa_Mt D cl cs b base h H) (hS : va_S (xa_A base) s.heap H locs) (hcs : s.heap.size + cells ≤ base + h.length) (hc : cells + k ≤ R.cells) (hz : slots + z ≤ R.slots) (hro : xa_kind (.lconst n) r q = 4 → 1 ≤ R.frames ∧ 30 ≤ R.locals)
    (kk : ∀ (pc' : Nat) (ls' : Array Slot) (H' : Heap) (locs' : List Loc), xa_pc M ip' = pc' → lv_has ls' (xa_mL M) (xa_lv b base lv') → xa_Mt D cl cs b base h' H' → va_S (xa_A base) s.heap H' locs' →
      W p l e R s m args below meth c H' locs' (cells + k) (slots + z) Q (F0 m pc' ls' (st'.map (xa_rv b base)))) :
    W p l e R s m args below meth c H locs cells slots Q (F0 m pc ls (st.map (xa_rv b base))) := by
  obtain ⟨hx, hb, hml, hown, hts, hK, hX, hbb, hbs, hlk, hrt, hnm, hxt⟩ := F
  have htk : ∀ w ∈ Tk, w.before args s = true := fun w hw => hts w (hsub w hw)
  have hD := xa_W_D cs b base h
  have hA : ∀ q, s.heap.size ≤ q → xa_A base q := fun q hq => Nat.le_trans hbs hq
  have hbA : ¬ xa_A base b := Nat.not_le.mpr hbb
  have hbl : b < s.heap.size := Nat.lt_of_lt_of_le hbb hbs
  unfold xa_ck at hck
  rw [Bool.and_eq_true, decide_eq_true_eq] at hck
  obtain ⟨hd, hck⟩ := hck
  simp only [Bool.and_eq_true, decide_eq_true_eq] at hck
  obtain ⟨rfl, hp, hv⟩ := hck
  obtain ⟨rfl, rfl, rfl, rfl, rfl, rfl⟩ := xa_go_some hn
  refine lv_lconst hx hb hd hv ?_
  exact kk _ ls H locs hp hl hM hS
set_option maxHeartbeats 1000000 in
theorem xs_ldc2_w {x : Nat} {len nip r q : Nat} {ts : List Nat} {lv lv' : List (Nat × Value)} {st st' : List Value} {h h' : List va_E} {ip' k z : Nat} (hC : xa_ckC cl Ts = true)
    (F : xa_Fr D cl Ts cs b base L xs M p s m args meth c) {Tk : List Jvm.Cond} (hsub : ∀ w ∈ Tk, w ∈ Ts) (hck : xa_ck cl Tk M pc (.ldc2_w x) len nip r q ts = true) (hn : xa_nx L xs (.ldc2_w x) nip r q ts lv st h = some (ip', lv', st', h', k, z))
    (hl : lv_has ls (xa_mL M) (xa_lv b base lv)) (hM : xa_Mt D cl cs b base h H) (hS : va_S (xa_A base) s.heap H locs) (hcs : s.heap.size + cells ≤ base + h.length) (hc : cells + k ≤ R.cells) (hz : slots + z ≤ R.slots) (hro : xa_kind (.ldc2_w x) r q = 4 → 1 ≤ R.frames ∧ 30 ≤ R.locals)
    (kk : ∀ (pc' : Nat) (ls' : Array Slot) (H' : Heap) (locs' : List Loc), xa_pc M ip' = pc' → lv_has ls' (xa_mL M) (xa_lv b base lv') → xa_Mt D cl cs b base h' H' → va_S (xa_A base) s.heap H' locs' →
      W p l e R s m args below meth c H' locs' (cells + k) (slots + z) Q (F0 m pc' ls' (st'.map (xa_rv b base)))) :
    W p l e R s m args below meth c H locs cells slots Q (F0 m pc ls (st.map (xa_rv b base))) := by
  obtain ⟨hx, hb, hml, hown, hts, hK, hX, hbb, hbs, hlk, hrt, hnm, hxt⟩ := F
  have htk : ∀ w ∈ Tk, w.before args s = true := fun w hw => hts w (hsub w hw)
  have hD := xa_W_D cs b base h
  have hA : ∀ q, s.heap.size ≤ q → xa_A base q := fun q hq => Nat.le_trans hbs hq
  have hbA : ¬ xa_A base b := Nat.not_le.mpr hbb
  have hbl : b < s.heap.size := Nat.lt_of_lt_of_le hbb hbs
  unfold xa_ck at hck
  rw [Bool.and_eq_true, decide_eq_true_eq] at hck
  obtain ⟨hd, hck⟩ := hck
  simp only [Bool.and_eq_true, decide_eq_true_eq] at hck
  obtain ⟨rfl, hp, hv⟩ := hck
  obtain ⟨rfl, rfl, rfl, rfl, rfl, rfl⟩ := xa_go_some hn
  refine W.ldc2 hx hb hown (htk _ hv) rfl hd ?_
  exact kk _ ls H locs hp hl hM hS
set_option maxHeartbeats 1000000 in
theorem xs_iload_n {n : Fin 4} {len nip r q : Nat} {ts : List Nat} {lv lv' : List (Nat × Value)} {st st' : List Value} {h h' : List va_E} {ip' k z : Nat} (hC : xa_ckC cl Ts = true)
    (F : xa_Fr D cl Ts cs b base L xs M p s m args meth c) {Tk : List Jvm.Cond} (hsub : ∀ w ∈ Tk, w ∈ Ts) (hck : xa_ck cl Tk M pc (.iload_n n) len nip r q ts = true) (hn : xa_nx L xs (.iload_n n) nip r q ts lv st h = some (ip', lv', st', h', k, z))
    (hl : lv_has ls (xa_mL M) (xa_lv b base lv)) (hM : xa_Mt D cl cs b base h H) (hS : va_S (xa_A base) s.heap H locs) (hcs : s.heap.size + cells ≤ base + h.length) (hc : cells + k ≤ R.cells) (hz : slots + z ≤ R.slots) (hro : xa_kind (.iload_n n) r q = 4 → 1 ≤ R.frames ∧ 30 ≤ R.locals)
    (kk : ∀ (pc' : Nat) (ls' : Array Slot) (H' : Heap) (locs' : List Loc), xa_pc M ip' = pc' → lv_has ls' (xa_mL M) (xa_lv b base lv') → xa_Mt D cl cs b base h' H' → va_S (xa_A base) s.heap H' locs' →
      W p l e R s m args below meth c H' locs' (cells + k) (slots + z) Q (F0 m pc' ls' (st'.map (xa_rv b base)))) :
    W p l e R s m args below meth c H locs cells slots Q (F0 m pc ls (st.map (xa_rv b base))) := by
  obtain ⟨hx, hb, hml, hown, hts, hK, hX, hbb, hbs, hlk, hrt, hnm, hxt⟩ := F
  have htk : ∀ w ∈ Tk, w.before args s = true := fun w hw => hts w (hsub w hw)
  have hD := xa_W_D cs b base h
  have hA : ∀ q, s.heap.size ≤ q → xa_A base q := fun q hq => Nat.le_trans hbs hq
  have hbA : ¬ xa_A base b := Nat.not_le.mpr hbb
  have hbl : b < s.heap.size := Nat.lt_of_lt_of_le hbb hbs
  unfold xa_ck at hck
  rw [Bool.and_eq_true, decide_eq_true_eq] at hck
  obtain ⟨hd, hck⟩ := hck
  simp only [Bool.and_eq_true, decide_eq_true_eq] at hck
  obtain ⟨rfl, hp, hv⟩ := hck
  obtain ⟨x, hg, hn⟩ := xa_li_some hn
  obtain ⟨rfl, rfl, rfl, rfl, rfl, rfl⟩ := xa_go_some hn
  refine lv_iload_n hx hb hd hv (xa_slot hl hg) ?_
  exact kk _ ls H locs hp hl hM hS
set_option maxHeartbeats 1000000 in
theorem xs_iload {n : Nat} {len nip r q : Nat} {ts : List Nat} {lv lv' : List (Nat × Value)} {st st' : List Value} {h h' : List va_E} {ip' k z : Nat} (hC : xa_ckC cl Ts = true)
    (F : xa_Fr D cl Ts cs b base L xs M p s m args meth c) {Tk : List Jvm.Cond} (hsub : ∀ w ∈ Tk, w ∈ Ts) (hck : xa_ck cl Tk M pc (.iload n) len nip r q ts = true) (hn : xa_nx L xs (.iload n) nip r q ts lv st h = some (ip', lv', st', h', k, z))
    (hl : lv_has ls (xa_mL M) (xa_lv b base lv)) (hM : xa_Mt D cl cs b base h H) (hS : va_S (xa_A base) s.heap H locs) (hcs : s.heap.size + cells ≤ base + h.length) (hc : cells + k ≤ R.cells) (hz : slots + z ≤ R.slots) (hro : xa_kind (.iload n) r q = 4 → 1 ≤ R.frames ∧ 30 ≤ R.locals)
    (kk : ∀ (pc' : Nat) (ls' : Array Slot) (H' : Heap) (locs' : List Loc), xa_pc M ip' = pc' → lv_has ls' (xa_mL M) (xa_lv b base lv') → xa_Mt D cl cs b base h' H' → va_S (xa_A base) s.heap H' locs' →
      W p l e R s m args below meth c H' locs' (cells + k) (slots + z) Q (F0 m pc' ls' (st'.map (xa_rv b base)))) :
    W p l e R s m args below meth c H locs cells slots Q (F0 m pc ls (st.map (xa_rv b base))) := by
  obtain ⟨hx, hb, hml, hown, hts, hK, hX, hbb, hbs, hlk, hrt, hnm, hxt⟩ := F
  have htk : ∀ w ∈ Tk, w.before args s = true := fun w hw => hts w (hsub w hw)
  have hD := xa_W_D cs b base h
  have hA : ∀ q, s.heap.size ≤ q → xa_A base q := fun q hq => Nat.le_trans hbs hq
  have hbA : ¬ xa_A base b := Nat.not_le.mpr hbb
  have hbl : b < s.heap.size := Nat.lt_of_lt_of_le hbb hbs
  unfold xa_ck at hck
  rw [Bool.and_eq_true, decide_eq_true_eq] at hck
  obtain ⟨hd, hck⟩ := hck
  simp only [Bool.and_eq_true, decide_eq_true_eq] at hck
  obtain ⟨rfl, hp, rfl⟩ := hck
  obtain ⟨x, hg, hn⟩ := xa_li_some hn
  obtain ⟨rfl, rfl, rfl, rfl, rfl, rfl⟩ := xa_go_some hn
  refine lv_iload hx hb hd (xa_slot hl hg) ?_
  exact kk _ ls H locs hp hl hM hS
set_option maxHeartbeats 1000000 in
theorem xs_lload_n {n : Fin 4} {len nip r q : Nat} {ts : List Nat} {lv lv' : List (Nat × Value)} {st st' : List Value} {h h' : List va_E} {ip' k z : Nat} (hC : xa_ckC cl Ts = true)
    (F : xa_Fr D cl Ts cs b base L xs M p s m args meth c) {Tk : List Jvm.Cond} (hsub : ∀ w ∈ Tk, w ∈ Ts) (hck : xa_ck cl Tk M pc (.lload_n n) len nip r q ts = true) (hn : xa_nx L xs (.lload_n n) nip r q ts lv st h = some (ip', lv', st', h', k, z))
    (hl : lv_has ls (xa_mL M) (xa_lv b base lv)) (hM : xa_Mt D cl cs b base h H) (hS : va_S (xa_A base) s.heap H locs) (hcs : s.heap.size + cells ≤ base + h.length) (hc : cells + k ≤ R.cells) (hz : slots + z ≤ R.slots) (hro : xa_kind (.lload_n n) r q = 4 → 1 ≤ R.frames ∧ 30 ≤ R.locals)
    (kk : ∀ (pc' : Nat) (ls' : Array Slot) (H' : Heap) (locs' : List Loc), xa_pc M ip' = pc' → lv_has ls' (xa_mL M) (xa_lv b base lv') → xa_Mt D cl cs b base h' H' → va_S (xa_A base) s.heap H' locs' →
      W p l e R s m args below meth c H' locs' (cells + k) (slots + z) Q (F0 m pc' ls' (st'.map (xa_rv b base)))) :
    W p l e R s m args below meth c H locs cells slots Q (F0 m pc ls (st.map (xa_rv b base))) := by
  obtain ⟨hx, hb, hml, hown, hts, hK, hX, hbb, hbs, hlk, hrt, hnm, hxt⟩ := F
  have htk : ∀ w ∈ Tk, w.before args s = true := fun w hw => hts w (hsub w hw)
  have hD := xa_W_D cs b base h
  have hA : ∀ q, s.heap.size ≤ q → xa_A base q := fun q hq => Nat.le_trans hbs hq
  have hbA : ¬ xa_A base b := Nat.not_le.mpr hbb
  have hbl : b < s.heap.size := Nat.lt_of_lt_of_le hbb hbs
  unfold xa_ck at hck
  rw [Bool.and_eq_true, decide_eq_true_eq] at hck
  obtain ⟨hd, hck⟩ := hck
  simp only [Bool.and_eq_true, decide_eq_true_eq] at hck
  obtain ⟨rfl, hp, hv⟩ := hck
  obtain ⟨x, hg, hn⟩ := xa_ll_some hn
  obtain ⟨rfl, rfl, rfl, rfl, rfl, rfl⟩ := xa_go_some hn
  refine lv_lload_n hx hb hd hv (xa_slot hl hg) ?_
  exact kk _ ls H locs hp hl hM hS
set_option maxHeartbeats 1000000 in
theorem xs_lload {n : Nat} {len nip r q : Nat} {ts : List Nat} {lv lv' : List (Nat × Value)} {st st' : List Value} {h h' : List va_E} {ip' k z : Nat} (hC : xa_ckC cl Ts = true)
    (F : xa_Fr D cl Ts cs b base L xs M p s m args meth c) {Tk : List Jvm.Cond} (hsub : ∀ w ∈ Tk, w ∈ Ts) (hck : xa_ck cl Tk M pc (.lload n) len nip r q ts = true) (hn : xa_nx L xs (.lload n) nip r q ts lv st h = some (ip', lv', st', h', k, z))
    (hl : lv_has ls (xa_mL M) (xa_lv b base lv)) (hM : xa_Mt D cl cs b base h H) (hS : va_S (xa_A base) s.heap H locs) (hcs : s.heap.size + cells ≤ base + h.length) (hc : cells + k ≤ R.cells) (hz : slots + z ≤ R.slots) (hro : xa_kind (.lload n) r q = 4 → 1 ≤ R.frames ∧ 30 ≤ R.locals)
    (kk : ∀ (pc' : Nat) (ls' : Array Slot) (H' : Heap) (locs' : List Loc), xa_pc M ip' = pc' → lv_has ls' (xa_mL M) (xa_lv b base lv') → xa_Mt D cl cs b base h' H' → va_S (xa_A base) s.heap H' locs' →
      W p l e R s m args below meth c H' locs' (cells + k) (slots + z) Q (F0 m pc' ls' (st'.map (xa_rv b base)))) :
    W p l e R s m args below meth c H locs cells slots Q (F0 m pc ls (st.map (xa_rv b base))) := by
  obtain ⟨hx, hb, hml, hown, hts, hK, hX, hbb, hbs, hlk, hrt, hnm, hxt⟩ := F
  have htk : ∀ w ∈ Tk, w.before args s = true := fun w hw => hts w (hsub w hw)
  have hD := xa_W_D cs b base h
  have hA : ∀ q, s.heap.size ≤ q → xa_A base q := fun q hq => Nat.le_trans hbs hq
  have hbA : ¬ xa_A base b := Nat.not_le.mpr hbb
  have hbl : b < s.heap.size := Nat.lt_of_lt_of_le hbb hbs
  unfold xa_ck at hck
  rw [Bool.and_eq_true, decide_eq_true_eq] at hck
  obtain ⟨hd, hck⟩ := hck
  simp only [Bool.and_eq_true, decide_eq_true_eq] at hck
  obtain ⟨rfl, hp, rfl⟩ := hck
  obtain ⟨x, hg, hn⟩ := xa_ll_some hn
  obtain ⟨rfl, rfl, rfl, rfl, rfl, rfl⟩ := xa_go_some hn
  refine lv_lload hx hb hd (xa_slot hl hg) ?_
  exact kk _ ls H locs hp hl hM hS
set_option maxHeartbeats 1000000 in
theorem xs_aload_n {n : Fin 4} {len nip r q : Nat} {ts : List Nat} {lv lv' : List (Nat × Value)} {st st' : List Value} {h h' : List va_E} {ip' k z : Nat} (hC : xa_ckC cl Ts = true)
    (F : xa_Fr D cl Ts cs b base L xs M p s m args meth c) {Tk : List Jvm.Cond} (hsub : ∀ w ∈ Tk, w ∈ Ts) (hck : xa_ck cl Tk M pc (.aload_n n) len nip r q ts = true) (hn : xa_nx L xs (.aload_n n) nip r q ts lv st h = some (ip', lv', st', h', k, z))
    (hl : lv_has ls (xa_mL M) (xa_lv b base lv)) (hM : xa_Mt D cl cs b base h H) (hS : va_S (xa_A base) s.heap H locs) (hcs : s.heap.size + cells ≤ base + h.length) (hc : cells + k ≤ R.cells) (hz : slots + z ≤ R.slots) (hro : xa_kind (.aload_n n) r q = 4 → 1 ≤ R.frames ∧ 30 ≤ R.locals)
    (kk : ∀ (pc' : Nat) (ls' : Array Slot) (H' : Heap) (locs' : List Loc), xa_pc M ip' = pc' → lv_has ls' (xa_mL M) (xa_lv b base lv') → xa_Mt D cl cs b base h' H' → va_S (xa_A base) s.heap H' locs' →
      W p l e R s m args below meth c H' locs' (cells + k) (slots + z) Q (F0 m pc' ls' (st'.map (xa_rv b base)))) :
    W p l e R s m args below meth c H locs cells slots Q (F0 m pc ls (st.map (xa_rv b base))) := by
  obtain ⟨hx, hb, hml, hown, hts, hK, hX, hbb, hbs, hlk, hrt, hnm, hxt⟩ := F
  have htk : ∀ w ∈ Tk, w.before args s = true := fun w hw => hts w (hsub w hw)
  have hD := xa_W_D cs b base h
  have hA : ∀ q, s.heap.size ≤ q → xa_A base q := fun q hq => Nat.le_trans hbs hq
  have hbA : ¬ xa_A base b := Nat.not_le.mpr hbb
  have hbl : b < s.heap.size := Nat.lt_of_lt_of_le hbb hbs
  unfold xa_ck at hck
  rw [Bool.and_eq_true, decide_eq_true_eq] at hck
  obtain ⟨hd, hck⟩ := hck
  simp only [Bool.and_eq_true, decide_eq_true_eq] at hck
  obtain ⟨rfl, hp, hv⟩ := hck
  obtain ⟨x, hg, hn⟩ := xa_lr_some hn
  obtain ⟨rfl, rfl, rfl, rfl, rfl, rfl⟩ := xa_go_some hn
  cases x with
  | zero => refine lv_aload_n hx hb hd hv (xa_slot hl hg) ?_; exact kk _ ls H locs hp hl hM hS
  | succ x => refine lv_aload_n hx hb hd hv (xa_slot hl hg) ?_; exact kk _ ls H locs hp hl hM hS
set_option maxHeartbeats 1000000 in
theorem xs_aload {n : Nat} {len nip r q : Nat} {ts : List Nat} {lv lv' : List (Nat × Value)} {st st' : List Value} {h h' : List va_E} {ip' k z : Nat} (hC : xa_ckC cl Ts = true)
    (F : xa_Fr D cl Ts cs b base L xs M p s m args meth c) {Tk : List Jvm.Cond} (hsub : ∀ w ∈ Tk, w ∈ Ts) (hck : xa_ck cl Tk M pc (.aload n) len nip r q ts = true) (hn : xa_nx L xs (.aload n) nip r q ts lv st h = some (ip', lv', st', h', k, z))
    (hl : lv_has ls (xa_mL M) (xa_lv b base lv)) (hM : xa_Mt D cl cs b base h H) (hS : va_S (xa_A base) s.heap H locs) (hcs : s.heap.size + cells ≤ base + h.length) (hc : cells + k ≤ R.cells) (hz : slots + z ≤ R.slots) (hro : xa_kind (.aload n) r q = 4 → 1 ≤ R.frames ∧ 30 ≤ R.locals)
    (kk : ∀ (pc' : Nat) (ls' : Array Slot) (H' : Heap) (locs' : List Loc), xa_pc M ip' = pc' → lv_has ls' (xa_mL M) (xa_lv b base lv') → xa_Mt D cl cs b base h' H' → va_S (xa_A base) s.heap H' locs' →
      W p l e R s m args below meth c H' locs' (cells + k) (slots + z) Q (F0 m pc' ls' (st'.map (xa_rv b base)))) :
    W p l e R s m args below meth c H locs cells slots Q (F0 m pc ls (st.map (xa_rv b base))) := by
  obtain ⟨hx, hb, hml, hown, hts, hK, hX, hbb, hbs, hlk, hrt, hnm, hxt⟩ := F
  have htk : ∀ w ∈ Tk, w.before args s = true := fun w hw => hts w (hsub w hw)
  have hD := xa_W_D cs b base h
  have hA : ∀ q, s.heap.size ≤ q → xa_A base q := fun q hq => Nat.le_trans hbs hq
  have hbA : ¬ xa_A base b := Nat.not_le.mpr hbb
  have hbl : b < s.heap.size := Nat.lt_of_lt_of_le hbb hbs
  unfold xa_ck at hck
  rw [Bool.and_eq_true, decide_eq_true_eq] at hck
  obtain ⟨hd, hck⟩ := hck
  simp only [Bool.and_eq_true, decide_eq_true_eq] at hck
  obtain ⟨rfl, hp, rfl⟩ := hck
  obtain ⟨x, hg, hn⟩ := xa_lr_some hn
  obtain ⟨rfl, rfl, rfl, rfl, rfl, rfl⟩ := xa_go_some hn
  cases x with
  | zero => refine lv_aload hx hb hd (xa_slot hl hg) ?_; exact kk _ ls H locs hp hl hM hS
  | succ x => refine lv_aload hx hb hd (xa_slot hl hg) ?_; exact kk _ ls H locs hp hl hM hS
set_option maxHeartbeats 1000000 in
theorem xs_istore_n {n : Fin 4} {len nip r q : Nat} {ts : List Nat} {lv lv' : List (Nat × Value)} {st st' : List Value} {h h' : List va_E} {ip' k z : Nat} (hC : xa_ckC cl Ts = true)
    (F : xa_Fr D cl Ts cs b base L xs M p s m args meth c) {Tk : List Jvm.Cond} (hsub : ∀ w ∈ Tk, w ∈ Ts) (hck : xa_ck cl Tk M pc (.istore_n n) len nip r q ts = true) (hn : xa_nx L xs (.istore_n n) nip r q ts lv st h = some (ip', lv', st', h', k, z))
    (hl : lv_has ls (xa_mL M) (xa_lv b base lv)) (hM : xa_Mt D cl cs b base h H) (hS : va_S (xa_A base) s.heap H locs) (hcs : s.heap.size + cells ≤ base + h.length) (hc : cells + k ≤ R.cells) (hz : slots + z ≤ R.slots) (hro : xa_kind (.istore_n n) r q = 4 → 1 ≤ R.frames ∧ 30 ≤ R.locals)
    (kk : ∀ (pc' : Nat) (ls' : Array Slot) (H' : Heap) (locs' : List Loc), xa_pc M ip' = pc' → lv_has ls' (xa_mL M) (xa_lv b base lv') → xa_Mt D cl cs b base h' H' → va_S (xa_A base) s.heap H' locs' →
      W p l e R s m args below meth c H' locs' (cells + k) (slots + z) Q (F0 m pc' ls' (st'.map (xa_rv b base)))) :
    W p l e R s m args below meth c H locs cells slots Q (F0 m pc ls (st.map (xa_rv b base))) := by
  obtain ⟨hx, hb, hml, hown, hts, hK, hX, hbb, hbs, hlk, hrt, hnm, hxt⟩ := F
  have htk : ∀ w ∈ Tk, w.before args s = true := fun w hw => hts w (hsub w hw)
  have hD := xa_W_D cs b base h
  have hA : ∀ q, s.heap.size ≤ q → xa_A base q := fun q hq => Nat.le_trans hbs hq
  have hbA : ¬ xa_A base b := Nat.not_le.mpr hbb
  have hbl : b < s.heap.size := Nat.lt_of_lt_of_le hbb hbs
  unfold xa_ck at hck
  rw [Bool.and_eq_true, decide_eq_true_eq] at hck
  obtain ⟨hd, hck⟩ := hck
  simp only [Bool.and_eq_true, decide_eq_true_eq] at hck
  obtain ⟨rfl, hp, hv, hr⟩ := hck
  obtain ⟨x, st, rfl, hn⟩ := xa_pi_some hn
  obtain ⟨rfl, rfl, rfl, rfl, rfl, rfl⟩ := xa_go_some hn
  refine lv_istore_n hx hb hd hv hl hr (xa_lv_put1 b base lv _ (.int x)) (fun ls1 hl1 => ?_)
  exact kk _ ls1 H locs hp hl1 hM hS
set_option maxHeartbeats 1000000 in
theorem xs_istore {n : Nat} {len nip r q : Nat} {ts : List Nat} {lv lv' : List (Nat × Value)} {st st' : List Value} {h h' : List va_E} {ip' k z : Nat} (hC : xa_ckC cl Ts = true)
    (F : xa_Fr D cl Ts cs b base L xs M p s m args meth c) {Tk : List Jvm.Cond} (hsub : ∀ w ∈ Tk, w ∈ Ts) (hck : xa_ck cl Tk M pc (.istore n) len nip r q ts = true) (hn : xa_nx L xs (.istore n) nip r q ts lv st h = some (ip', lv', st', h', k, z))
    (hl : lv_has ls (xa_mL M) (xa_lv b base lv)) (hM : xa_Mt D cl cs b base h H) (hS : va_S (xa_A base) s.heap H locs) (hcs : s.heap.size + cells ≤ base + h.length) (hc : cells + k ≤ R.cells) (hz : slots + z ≤ R.slots) (hro : xa_kind (.istore n) r q = 4 → 1 ≤ R.frames ∧ 30 ≤ R.locals)
    (kk : ∀ (pc' : Nat) (ls' : Array Slot) (H' : Heap) (locs' : List Loc), xa_pc M ip' = pc' → lv_has ls' (xa_mL M) (xa_lv b base lv') → xa_Mt D cl cs b base h' H' → va_S (xa_A base) s.heap H' locs' →
      W p l e R s m args below meth c H' locs' (cells + k) (slots + z) Q (F0 m pc' ls' (st'.map (xa_rv b base)))) :
    W p l e R s m args below meth c H locs cells slots Q (F0 m pc ls (st.map (xa_rv b base))) := by
  obtain ⟨hx, hb, hml, hown, hts, hK, hX, hbb, hbs, hlk, hrt, hnm, hxt⟩ := F
  have htk : ∀ w ∈ Tk, w.before args s = true := fun w hw => hts w (hsub w hw)
  have hD := xa_W_D cs b base h
  have hA : ∀ q, s.heap.size ≤ q → xa_A base q := fun q hq => Nat.le_trans hbs hq
  have hbA : ¬ xa_A base b := Nat.not_le.mpr hbb
  have hbl : b < s.heap.size := Nat.lt_of_lt_of_le hbb hbs
  unfold xa_ck at hck
  rw [Bool.and_eq_true, decide_eq_true_eq] at hck
  obtain ⟨hd, hck⟩ := hck
  simp only [Bool.and_eq_true, decide_eq_true_eq] at hck
  obtain ⟨rfl, hp, rfl, hr⟩ := hck
  obtain ⟨x, st, rfl, hn⟩ := xa_pi_some hn
  obtain ⟨rfl, rfl, rfl, rfl, rfl, rfl⟩ := xa_go_some hn
  refine lv_istore hx hb hd hl hr (xa_lv_put1 b base lv _ (.int x)) (fun ls1 hl1 => ?_)
  exact kk _ ls1 H locs hp hl1 hM hS
set_option maxHeartbeats 1000000 in
theorem xs_lstore_n {n : Fin 4} {len nip r q : Nat} {ts : List Nat} {lv lv' : List (Nat × Value)} {st st' : List Value} {h h' : List va_E} {ip' k z : Nat} (hC : xa_ckC cl Ts = true)
    (F : xa_Fr D cl Ts cs b base L xs M p s m args meth c) {Tk : List Jvm.Cond} (hsub : ∀ w ∈ Tk, w ∈ Ts) (hck : xa_ck cl Tk M pc (.lstore_n n) len nip r q ts = true) (hn : xa_nx L xs (.lstore_n n) nip r q ts lv st h = some (ip', lv', st', h', k, z))
    (hl : lv_has ls (xa_mL M) (xa_lv b base lv)) (hM : xa_Mt D cl cs b base h H) (hS : va_S (xa_A base) s.heap H locs) (hcs : s.heap.size + cells ≤ base + h.length) (hc : cells + k ≤ R.cells) (hz : slots + z ≤ R.slots) (hro : xa_kind (.lstore_n n) r q = 4 → 1 ≤ R.frames ∧ 30 ≤ R.locals)
    (kk : ∀ (pc' : Nat) (ls' : Array Slot) (H' : Heap) (locs' : List Loc), xa_pc M ip' = pc' → lv_has ls' (xa_mL M) (xa_lv b base lv') → xa_Mt D cl cs b base h' H' → va_S (xa_A base) s.heap H' locs' →
      W p l e R s m args below meth c H' locs' (cells + k) (slots + z) Q (F0 m pc' ls' (st'.map (xa_rv b base)))) :
    W p l e R s m args below meth c H locs cells slots Q (F0 m pc ls (st.map (xa_rv b base))) := by
  obtain ⟨hx, hb, hml, hown, hts, hK, hX, hbb, hbs, hlk, hrt, hnm, hxt⟩ := F
  have htk : ∀ w ∈ Tk, w.before args s = true := fun w hw => hts w (hsub w hw)
  have hD := xa_W_D cs b base h
  have hA : ∀ q, s.heap.size ≤ q → xa_A base q := fun q hq => Nat.le_trans hbs hq
  have hbA : ¬ xa_A base b := Nat.not_le.mpr hbb
  have hbl : b < s.heap.size := Nat.lt_of_lt_of_le hbb hbs
  unfold xa_ck at hck
  rw [Bool.and_eq_true, decide_eq_true_eq] at hck
  obtain ⟨hd, hck⟩ := hck
  simp only [Bool.and_eq_true, decide_eq_true_eq] at hck
  obtain ⟨rfl, hp, hv, hr⟩ := hck
  obtain ⟨x, st, rfl, hn⟩ := xa_pl_some hn
  obtain ⟨rfl, rfl, rfl, rfl, rfl, rfl⟩ := xa_go_some hn
  refine lv_lstore_n hx hb hd hv hl hr (xa_lv_put2 b base lv _ (.long x)) (fun ls1 hl1 => ?_)
  exact kk _ ls1 H locs hp hl1 hM hS
set_option maxHeartbeats 1000000 in
theorem xs_lstore {n : Nat} {len nip r q : Nat} {ts : List Nat} {lv lv' : List (Nat × Value)} {st st' : List Value} {h h' : List va_E} {ip' k z : Nat} (hC : xa_ckC cl Ts = true)
    (F : xa_Fr D cl Ts cs b base L xs M p s m args meth c) {Tk : List Jvm.Cond} (hsub : ∀ w ∈ Tk, w ∈ Ts) (hck : xa_ck cl Tk M pc (.lstore n) len nip r q ts = true) (hn : xa_nx L xs (.lstore n) nip r q ts lv st h = some (ip', lv', st', h', k, z))
    (hl : lv_has ls (xa_mL M) (xa_lv b base lv)) (hM : xa_Mt D cl cs b base h H) (hS : va_S (xa_A base) s.heap H locs) (hcs : s.heap.size + cells ≤ base + h.length) (hc : cells + k ≤ R.cells) (hz : slots + z ≤ R.slots) (hro : xa_kind (.lstore n) r q = 4 → 1 ≤ R.frames ∧ 30 ≤ R.locals)
    (kk : ∀ (pc' : Nat) (ls' : Array Slot) (H' : Heap) (locs' : List Loc), xa_pc M ip' = pc' → lv_has ls' (xa_mL M) (xa_lv b base lv') → xa_Mt D cl cs b base h' H' → va_S (xa_A base) s.heap H' locs' →
      W p l e R s m args below meth c H' locs' (cells + k) (slots + z) Q (F0 m pc' ls' (st'.map (xa_rv b base)))) :
    W p l e R s m args below meth c H locs cells slots Q (F0 m pc ls (st.map (xa_rv b base))) := by
  obtain ⟨hx, hb, hml, hown, hts, hK, hX, hbb, hbs, hlk, hrt, hnm, hxt⟩ := F
  have htk : ∀ w ∈ Tk, w.before args s = true := fun w hw => hts w (hsub w hw)
  have hD := xa_W_D cs b base h
  have hA : ∀ q, s.heap.size ≤ q → xa_A base q := fun q hq => Nat.le_trans hbs hq
  have hbA : ¬ xa_A base b := Nat.not_le.mpr hbb
  have hbl : b < s.heap.size := Nat.lt_of_lt_of_le hbb hbs
  unfold xa_ck at hck
  rw [Bool.and_eq_true, decide_eq_true_eq] at hck
  obtain ⟨hd, hck⟩ := hck
  simp only [Bool.and_eq_true, decide_eq_true_eq] at hck
  obtain ⟨rfl, hp, rfl, hr⟩ := hck
  obtain ⟨x, st, rfl, hn⟩ := xa_pl_some hn
  obtain ⟨rfl, rfl, rfl, rfl, rfl, rfl⟩ := xa_go_some hn
  refine lv_lstore hx hb hd hl hr (xa_lv_put2 b base lv _ (.long x)) (fun ls1 hl1 => ?_)
  exact kk _ ls1 H locs hp hl1 hM hS
set_option maxHeartbeats 1000000 in
theorem xs_astore_n {n : Fin 4} {len nip r q : Nat} {ts : List Nat} {lv lv' : List (Nat × Value)} {st st' : List Value} {h h' : List va_E} {ip' k z : Nat} (hC : xa_ckC cl Ts = true)
    (F : xa_Fr D cl Ts cs b base L xs M p s m args meth c) {Tk : List Jvm.Cond} (hsub : ∀ w ∈ Tk, w ∈ Ts) (hck : xa_ck cl Tk M pc (.astore_n n) len nip r q ts = true) (hn : xa_nx L xs (.astore_n n) nip r q ts lv st h = some (ip', lv', st', h', k, z))
    (hl : lv_has ls (xa_mL M) (xa_lv b base lv)) (hM : xa_Mt D cl cs b base h H) (hS : va_S (xa_A base) s.heap H locs) (hcs : s.heap.size + cells ≤ base + h.length) (hc : cells + k ≤ R.cells) (hz : slots + z ≤ R.slots) (hro : xa_kind (.astore_n n) r q = 4 → 1 ≤ R.frames ∧ 30 ≤ R.locals)
    (kk : ∀ (pc' : Nat) (ls' : Array Slot) (H' : Heap) (locs' : List Loc), xa_pc M ip' = pc' → lv_has ls' (xa_mL M) (xa_lv b base lv') → xa_Mt D cl cs b base h' H' → va_S (xa_A base) s.heap H' locs' →
      W p l e R s m args below meth c H' locs' (cells + k) (slots + z) Q (F0 m pc' ls' (st'.map (xa_rv b base)))) :
    W p l e R s m args below meth c H locs cells slots Q (F0 m pc ls (st.map (xa_rv b base))) := by
  obtain ⟨hx, hb, hml, hown, hts, hK, hX, hbb, hbs, hlk, hrt, hnm, hxt⟩ := F
  have htk : ∀ w ∈ Tk, w.before args s = true := fun w hw => hts w (hsub w hw)
  have hD := xa_W_D cs b base h
  have hA : ∀ q, s.heap.size ≤ q → xa_A base q := fun q hq => Nat.le_trans hbs hq
  have hbA : ¬ xa_A base b := Nat.not_le.mpr hbb
  have hbl : b < s.heap.size := Nat.lt_of_lt_of_le hbb hbs
  unfold xa_ck at hck
  rw [Bool.and_eq_true, decide_eq_true_eq] at hck
  obtain ⟨hd, hck⟩ := hck
  simp only [Bool.and_eq_true, decide_eq_true_eq] at hck
  obtain ⟨rfl, hp, hv, hr⟩ := hck
  obtain ⟨x, st, rfl, hn⟩ := xa_pr_some hn
  obtain ⟨rfl, rfl, rfl, rfl, rfl, rfl⟩ := xa_go_some hn
  cases x with
  | zero => refine lv_astore_n hx hb hd hv hl hr (xa_lv_put1 b base lv _ (.ref 0)) (fun ls1 hl1 => ?_); exact kk _ ls1 H locs hp hl1 hM hS
  | succ x => refine lv_astore_n hx hb hd hv hl hr (xa_lv_put1 b base lv _ (.ref (x + 1))) (fun ls1 hl1 => ?_); exact kk _ ls1 H locs hp hl1 hM hS
set_option maxHeartbeats 1000000 in
theorem xs_astore {n : Nat} {len nip r q : Nat} {ts : List Nat} {lv lv' : List (Nat × Value)} {st st' : List Value} {h h' : List va_E} {ip' k z : Nat} (hC : xa_ckC cl Ts = true)
    (F : xa_Fr D cl Ts cs b base L xs M p s m args meth c) {Tk : List Jvm.Cond} (hsub : ∀ w ∈ Tk, w ∈ Ts) (hck : xa_ck cl Tk M pc (.astore n) len nip r q ts = true) (hn : xa_nx L xs (.astore n) nip r q ts lv st h = some (ip', lv', st', h', k, z))
    (hl : lv_has ls (xa_mL M) (xa_lv b base lv)) (hM : xa_Mt D cl cs b base h H) (hS : va_S (xa_A base) s.heap H locs) (hcs : s.heap.size + cells ≤ base + h.length) (hc : cells + k ≤ R.cells) (hz : slots + z ≤ R.slots) (hro : xa_kind (.astore n) r q = 4 → 1 ≤ R.frames ∧ 30 ≤ R.locals)
    (kk : ∀ (pc' : Nat) (ls' : Array Slot) (H' : Heap) (locs' : List Loc), xa_pc M ip' = pc' → lv_has ls' (xa_mL M) (xa_lv b base lv') → xa_Mt D cl cs b base h' H' → va_S (xa_A base) s.heap H' locs' →
      W p l e R s m args below meth c H' locs' (cells + k) (slots + z) Q (F0 m pc' ls' (st'.map (xa_rv b base)))) :
    W p l e R s m args below meth c H locs cells slots Q (F0 m pc ls (st.map (xa_rv b base))) := by
  obtain ⟨hx, hb, hml, hown, hts, hK, hX, hbb, hbs, hlk, hrt, hnm, hxt⟩ := F
  have htk : ∀ w ∈ Tk, w.before args s = true := fun w hw => hts w (hsub w hw)
  have hD := xa_W_D cs b base h
  have hA : ∀ q, s.heap.size ≤ q → xa_A base q := fun q hq => Nat.le_trans hbs hq
  have hbA : ¬ xa_A base b := Nat.not_le.mpr hbb
  have hbl : b < s.heap.size := Nat.lt_of_lt_of_le hbb hbs
  unfold xa_ck at hck
  rw [Bool.and_eq_true, decide_eq_true_eq] at hck
  obtain ⟨hd, hck⟩ := hck
  simp only [Bool.and_eq_true, decide_eq_true_eq] at hck
  obtain ⟨rfl, hp, rfl, hr⟩ := hck
  obtain ⟨x, st, rfl, hn⟩ := xa_pr_some hn
  obtain ⟨rfl, rfl, rfl, rfl, rfl, rfl⟩ := xa_go_some hn
  cases x with
  | zero => refine lv_astore hx hb hd hl hr (xa_lv_put1 b base lv _ (.ref 0)) (fun ls1 hl1 => ?_); exact kk _ ls1 H locs hp hl1 hM hS
  | succ x => refine lv_astore hx hb hd hl hr (xa_lv_put1 b base lv _ (.ref (x + 1))) (fun ls1 hl1 => ?_); exact kk _ ls1 H locs hp hl1 hM hS
set_option maxHeartbeats 1000000 in
theorem xs_iinc {n : Nat} {cc : Int} {len nip r q : Nat} {ts : List Nat} {lv lv' : List (Nat × Value)} {st st' : List Value} {h h' : List va_E} {ip' k z : Nat} (hC : xa_ckC cl Ts = true)
    (F : xa_Fr D cl Ts cs b base L xs M p s m args meth c) {Tk : List Jvm.Cond} (hsub : ∀ w ∈ Tk, w ∈ Ts) (hck : xa_ck cl Tk M pc (.iinc n cc) len nip r q ts = true) (hn : xa_nx L xs (.iinc n cc) nip r q ts lv st h = some (ip', lv', st', h', k, z))
    (hl : lv_has ls (xa_mL M) (xa_lv b base lv)) (hM : xa_Mt D cl cs b base h H) (hS : va_S (xa_A base) s.heap H locs) (hcs : s.heap.size + cells ≤ base + h.length) (hc : cells + k ≤ R.cells) (hz : slots + z ≤ R.slots) (hro : xa_kind (.iinc n cc) r q = 4 → 1 ≤ R.frames ∧ 30 ≤ R.locals)
    (kk : ∀ (pc' : Nat) (ls' : Array Slot) (H' : Heap) (locs' : List Loc), xa_pc M ip' = pc' → lv_has ls' (xa_mL M) (xa_lv b base lv') → xa_Mt D cl cs b base h' H' → va_S (xa_A base) s.heap H' locs' →
      W p l e R s m args below meth c H' locs' (cells + k) (slots + z) Q (F0 m pc' ls' (st'.map (xa_rv b base)))) :
    W p l e R s m args below meth c H locs cells slots Q (F0 m pc ls (st.map (xa_rv b base))) := by
  obtain ⟨hx, hb, hml, hown, hts, hK, hX, hbb, hbs, hlk, hrt, hnm, hxt⟩ := F
  have htk : ∀ w ∈ Tk, w.before args s = true := fun w hw => hts w (hsub w hw)
  have hD := xa_W_D cs b base h
  have hA : ∀ q, s.heap.size ≤ q → xa_A base q := fun q hq => Nat.le_trans hbs hq
  have hbA : ¬ xa_A base b := Nat.not_le.mpr hbb
  have hbl : b < s.heap.size := Nat.lt_of_lt_of_le hbb hbs
  unfold xa_ck at hck
  rw [Bool.and_eq_true, decide_eq_true_eq] at hck
  obtain ⟨hd, hck⟩ := hck
  simp only [Bool.and_eq_true, decide_eq_true_eq] at hck
  obtain ⟨rfl, hp, rfl, hv, hr⟩ := hck
  obtain ⟨x, hg, hn⟩ := xa_li_some hn
  obtain ⟨rfl, rfl, rfl, rfl, rfl, rfl⟩ := xa_go_some hn
  obtain ⟨kq, hkq⟩ := xa_place hl hg
  refine lv_iinc hx hb hd hl hkq (by rw [hv]) hr (xa_lv_put1 b base lv _ (.int (x + xa_con q ts.length))) (fun ls1 hl1 => ?_)
  exact kk _ ls1 H locs hp hl1 hM hS
set_option maxHeartbeats 1000000 in
theorem xs_iadd {len nip r q : Nat} {ts : List Nat} {lv lv' : List (Nat × Value)} {st st' : List Value} {h h' : List va_E} {ip' k z : Nat} (hC : xa_ckC cl Ts = true)
    (F : xa_Fr D cl Ts cs b base L xs M p s m args meth c) {Tk : List Jvm.Cond} (hsub : ∀ w ∈ Tk, w ∈ Ts) (hck : xa_ck cl Tk M pc .iadd len nip r q ts = true) (hn : xa_nx L xs .iadd nip r q ts lv st h = some (ip', lv', st', h', k, z))
    (hl : lv_has ls (xa_mL M) (xa_lv b base lv)) (hM : xa_Mt D cl cs b base h H) (hS : va_S (xa_A base) s.heap H locs) (hcs : s.heap.size + cells ≤ base + h.length) (hc : cells + k ≤ R.cells) (hz : slots + z ≤ R.slots) (hro : xa_kind .iadd r q = 4 → 1 ≤ R.frames ∧ 30 ≤ R.locals)
    (kk : ∀ (pc' : Nat) (ls' : Array Slot) (H' : Heap) (locs' : List Loc), xa_pc M ip' = pc' → lv_has ls' (xa_mL M) (xa_lv b base lv') → xa_Mt D cl cs b base h' H' → va_S (xa_A base) s.heap H' locs' →
      W p l e R s m args below meth c H' locs' (cells + k) (slots + z) Q (F0 m pc' ls' (st'.map (xa_rv b base)))) :
    W p l e R s m args below meth c H locs cells slots Q (F0 m pc ls (st.map (xa_rv b base))) := by
  obtain ⟨hx, hb, hml, hown, hts, hK, hX, hbb, hbs, hlk, hrt, hnm, hxt⟩ := F
  have htk : ∀ w ∈ Tk, w.before args s = true := fun w hw => hts w (hsub w hw)
  have hD := xa_W_D cs b base h
  have hA : ∀ q, s.heap.size ≤ q → xa_A base q := fun q hq => Nat.le_trans hbs hq
  have hbA : ¬ xa_A base b := Nat.not_le.mpr hbb
  have hbl : b < s.heap.size := Nat.lt_of_lt_of_le hbb hbs
  unfold xa_ck at hck
  rw [Bool.and_eq_true, decide_eq_true_eq] at hck
  obtain ⟨hd, hck⟩ := hck
  simp only [Bool.and_eq_true, decide_eq_true_eq] at hck
  obtain ⟨rfl, hp⟩ := hck
  obtain ⟨y, st, rfl, hn⟩ := xa_pi_some hn
  obtain ⟨x, st, rfl, hn⟩ := xa_pi_some hn
  obtain ⟨rfl, rfl, rfl, rfl, rfl, rfl⟩ := xa_go_some hn
  refine lv_iadd hx hb hd ?_
  exact kk _ ls H locs hp hl hM hS
set_option maxHeartbeats 1000000 in
theorem xs_isub {len nip r q : Nat} {ts : List Nat} {lv lv' : List (Nat × Value)} {st st' : List Value} {h h' : List va_E} {ip' k z : Nat} (hC : xa_ckC cl Ts = true)
    (F : xa_Fr D cl Ts cs b base L xs M p s m args meth c) {Tk : List Jvm.Cond} (hsub : ∀ w ∈ Tk, w ∈ Ts) (hck : xa_ck cl Tk M pc .isub len nip r q ts = true) (hn : xa_nx L xs .isub nip r q ts lv st h = some (ip', lv', st', h', k, z))
    (hl : lv_has ls (xa_mL M) (xa_lv b base lv)) (hM : xa_Mt D cl cs b base h H) (hS : va_S (xa_A base) s.heap H locs) (hcs : s.heap.size + cells ≤ base + h.length) (hc : cells + k ≤ R.cells) (hz : slots + z ≤ R.slots) (hro : xa_kind .isub r q = 4 → 1 ≤ R.frames ∧ 30 ≤ R.locals)
    (kk : ∀ (pc' : Nat) (ls' : Array Slot) (H' : Heap) (locs' : List Loc), xa_pc M ip' = pc' → lv_has ls' (xa_mL M) (xa_lv b base lv') → xa_Mt D cl cs b base h' H' → va_S (xa_A base) s.heap H' locs' →
      W p l e R s m args below meth c H' locs' (cells + k) (slots + z) Q (F0 m pc' ls' (st'.map (xa_rv b base)))) :
    W p l e R s m args below meth c H locs cells slots Q (F0 m pc ls (st.map (xa_rv b base))) := by
  obtain ⟨hx, hb, hml, hown, hts, hK, hX, hbb, hbs, hlk, hrt, hnm, hxt⟩ := F
  have htk : ∀ w ∈ Tk, w.before args s = true := fun w hw => hts w (hsub w hw)
  have hD := xa_W_D cs b base h
  have hA : ∀ q, s.heap.size ≤ q → xa_A base q := fun q hq => Nat.le_trans hbs hq
  have hbA : ¬ xa_A base b := Nat.not_le.mpr hbb
  have hbl : b < s.heap.size := Nat.lt_of_lt_of_le hbb hbs
  unfold xa_ck at hck
  rw [Bool.and_eq_true, decide_eq_true_eq] at hck
  obtain ⟨hd, hck⟩ := hck
  simp only [Bool.and_eq_true, decide_eq_true_eq] at hck
  obtain ⟨rfl, hp⟩ := hck
  obtain ⟨y, st, rfl, hn⟩ := xa_pi_some hn
  obtain ⟨x, st, rfl, hn⟩ := xa_pi_some hn
  obtain ⟨rfl, rfl, rfl, rfl, rfl, rfl⟩ := xa_go_some hn
  refine lv_isub hx hb hd ?_
  exact kk _ ls H locs hp hl hM hS
set_option maxHeartbeats 1000000 in
theorem xs_imul {len nip r q : Nat} {ts : List Nat} {lv lv' : List (Nat × Value)} {st st' : List Value} {h h' : List va_E} {ip' k z : Nat} (hC : xa_ckC cl Ts = true)
    (F : xa_Fr D cl Ts cs b base L xs M p s m args meth c) {Tk : List Jvm.Cond} (hsub : ∀ w ∈ Tk, w ∈ Ts) (hck : xa_ck cl Tk M pc .imul len nip r q ts = true) (hn : xa_nx L xs .imul nip r q ts lv st h = some (ip', lv', st', h', k, z))
    (hl : lv_has ls (xa_mL M) (xa_lv b base lv)) (hM : xa_Mt D cl cs b base h H) (hS : va_S (xa_A base) s.heap H locs) (hcs : s.heap.size + cells ≤ base + h.length) (hc : cells + k ≤ R.cells) (hz : slots + z ≤ R.slots) (hro : xa_kind .imul r q = 4 → 1 ≤ R.frames ∧ 30 ≤ R.locals)
    (kk : ∀ (pc' : Nat) (ls' : Array Slot) (H' : Heap) (locs' : List Loc), xa_pc M ip' = pc' → lv_has ls' (xa_mL M) (xa_lv b base lv') → xa_Mt D cl cs b base h' H' → va_S (xa_A base) s.heap H' locs' →
      W p l e R s m args below meth c H' locs' (cells + k) (slots + z) Q (F0 m pc' ls' (st'.map (xa_rv b base)))) :
    W p l e R s m args below meth c H locs cells slots Q (F0 m pc ls (st.map (xa_rv b base))) := by
  obtain ⟨hx, hb, hml, hown, hts, hK, hX, hbb, hbs, hlk, hrt, hnm, hxt⟩ := F
  have htk : ∀ w ∈ Tk, w.before args s = true := fun w hw => hts w (hsub w hw)
  have hD := xa_W_D cs b base h
  have hA : ∀ q, s.heap.size ≤ q → xa_A base q := fun q hq => Nat.le_trans hbs hq
  have hbA : ¬ xa_A base b := Nat.not_le.mpr hbb
  have hbl : b < s.heap.size := Nat.lt_of_lt_of_le hbb hbs
  unfold xa_ck at hck
  rw [Bool.and_eq_true, decide_eq_true_eq] at hck
  obtain ⟨hd, hck⟩ := hck
  simp only [Bool.and_eq_true, decide_eq_true_eq] at hck
  obtain ⟨rfl, hp⟩ := hck
  obtain ⟨y, st, rfl, hn⟩ := xa_pi_some hn
  obtain ⟨x, st, rfl, hn⟩ := xa_pi_some hn
  obtain ⟨rfl, rfl, rfl, rfl, rfl, rfl⟩ := xa_go_some hn
  refine lv_imul hx hb hd ?_
  exact kk _ ls H locs hp hl hM hS
set_option maxHeartbeats 1000000 in
theorem xs_iand {len nip r q : Nat} {ts : List Nat} {lv lv' : List (Nat × Value)} {st st' : List Value} {h h' : List va_E} {ip' k z : Nat} (hC : xa_ckC cl Ts = true)
    (F : xa_Fr D cl Ts cs b base L xs M p s m args meth c) {Tk : List Jvm.Cond} (hsub : ∀ w ∈ Tk, w ∈ Ts) (hck : xa_ck cl Tk M pc .iand len nip r q ts = true) (hn : xa_nx L xs .iand nip r q ts lv st h = some (ip', lv', st', h', k, z))
    (hl : lv_has ls (xa_mL M) (xa_lv b base lv)) (hM : xa_Mt D cl cs b base h H) (hS : va_S (xa_A base) s.heap H locs) (hcs : s.heap.size + cells ≤ base + h.length) (hc : cells + k ≤ R.cells) (hz : slots + z ≤ R.slots) (hro : xa_kind .iand r q = 4 → 1 ≤ R.frames ∧ 30 ≤ R.locals)
    (kk : ∀ (pc' : Nat) (ls' : Array Slot) (H' : Heap) (locs' : List Loc), xa_pc M ip' = pc' → lv_has ls' (xa_mL M) (xa_lv b base lv') → xa_Mt D cl cs b base h' H' → va_S (xa_A base) s.heap H' locs' →
      W p l e R s m args below meth c H' locs' (cells + k) (slots + z) Q (F0 m pc' ls' (st'.map (xa_rv b base)))) :
    W p l e R s m args below meth c H locs cells slots Q (F0 m pc ls (st.map (xa_rv b base))) := by
  obtain ⟨hx, hb, hml, hown, hts, hK, hX, hbb, hbs, hlk, hrt, hnm, hxt⟩ := F
  have htk : ∀ w ∈ Tk, w.before args s = true := fun w hw => hts w (hsub w hw)
  have hD := xa_W_D cs b base h
  have hA : ∀ q, s.heap.size ≤ q → xa_A base q := fun q hq => Nat.le_trans hbs hq
  have hbA : ¬ xa_A base b := Nat.not_le.mpr hbb
  have hbl : b < s.heap.size := Nat.lt_of_lt_of_le hbb hbs
  unfold xa_ck at hck
  rw [Bool.and_eq_true, decide_eq_true_eq] at hck
  obtain ⟨hd, hck⟩ := hck
  simp only [Bool.and_eq_true, decide_eq_true_eq] at hck
  obtain ⟨rfl, hp⟩ := hck
  obtain ⟨y, st, rfl, hn⟩ := xa_pi_some hn
  obtain ⟨x, st, rfl, hn⟩ := xa_pi_some hn
  obtain ⟨rfl, rfl, rfl, rfl, rfl, rfl⟩ := xa_go_some hn
  refine lv_iand hx hb hd ?_
  exact kk _ ls H locs hp hl hM hS
set_option maxHeartbeats 1000000 in
theorem xs_ladd {len nip r q : Nat} {ts : List Nat} {lv lv' : List (Nat × Value)} {st st' : List Value} {h h' : List va_E} {ip' k z : Nat} (hC : xa_ckC cl Ts = true)
    (F : xa_Fr D cl Ts cs b base L xs M p s m args meth c) {Tk : List Jvm.Cond} (hsub : ∀ w ∈ Tk, w ∈ Ts) (hck : xa_ck cl Tk M pc .ladd len nip r q ts = true) (hn : xa_nx L xs .ladd nip r q ts lv st h = some (ip', lv', st', h', k, z))
    (hl : lv_has ls (xa_mL M) (xa_lv b base lv)) (hM : xa_Mt D cl cs b base h H) (hS : va_S (xa_A base) s.heap H locs) (hcs : s.heap.size + cells ≤ base + h.length) (hc : cells + k ≤ R.cells) (hz : slots + z ≤ R.slots) (hro : xa_kind .ladd r q = 4 → 1 ≤ R.frames ∧ 30 ≤ R.locals)
    (kk : ∀ (pc' : Nat) (ls' : Array Slot) (H' : Heap) (locs' : List Loc), xa_pc M ip' = pc' → lv_has ls' (xa_mL M) (xa_lv b base lv') → xa_Mt D cl cs b base h' H' → va_S (xa_A base) s.heap H' locs' →
      W p l e R s m args below meth c H' locs' (cells + k) (slots + z) Q (F0 m pc' ls' (st'.map (xa_rv b base)))) :
    W p l e R s m args below meth c H locs cells slots Q (F0 m pc ls (st.map (xa_rv b base))) := by
  obtain ⟨hx, hb, hml, hown, hts, hK, hX, hbb, hbs, hlk, hrt, hnm, hxt⟩ := F
  have htk : ∀ w ∈ Tk, w.before args s = true := fun w hw => hts w (hsub w hw)
  have hD := xa_W_D cs b base h
  have hA : ∀ q, s.heap.size ≤ q → xa_A base q := fun q hq => Nat.le_trans hbs hq
  have hbA : ¬ xa_A base b := Nat.not_le.mpr hbb
  have hbl : b < s.heap.size := Nat.lt_of_lt_of_le hbb hbs
  unfold xa_ck at hck
  rw [Bool.and_eq_true, decide_eq_true_eq] at hck
  obtain ⟨hd, hck⟩ := hck
  simp only [Bool.and_eq_true, decide_eq_true_eq] at hck
  obtain ⟨rfl, hp⟩ := hck
  obtain ⟨y, st, rfl, hn⟩ := xa_pl_some hn
  obtain ⟨x, st, rfl, hn⟩ := xa_pl_some hn
  obtain ⟨rfl, rfl, rfl, rfl, rfl, rfl⟩ := xa_go_some hn
  refine lv_ladd hx hb hd ?_
  exact kk _ ls H locs hp hl hM hS
set_option maxHeartbeats 1000000 in
theorem xs_lsub {len nip r q : Nat} {ts : List Nat} {lv lv' : List (Nat × Value)} {st st' : List Value} {h h' : List va_E} {ip' k z : Nat} (hC : xa_ckC cl Ts = true)
    (F : xa_Fr D cl Ts cs b base L xs M p s m args meth c) {Tk : List Jvm.Cond} (hsub : ∀ w ∈ Tk, w ∈ Ts) (hck : xa_ck cl Tk M pc .lsub len nip r q ts = true) (hn : xa_nx L xs .lsub nip r q ts lv st h = some (ip', lv', st', h', k, z))
    (hl : lv_has ls (xa_mL M) (xa_lv b base lv)) (hM : xa_Mt D cl cs b base h H) (hS : va_S (xa_A base) s.heap H locs) (hcs : s.heap.size + cells ≤ base + h.length) (hc : cells + k ≤ R.cells) (hz : slots + z ≤ R.slots) (hro : xa_kind .lsub r q = 4 → 1 ≤ R.frames ∧ 30 ≤ R.locals)
    (kk : ∀ (pc' : Nat) (ls' : Array Slot) (H' : Heap) (locs' : List Loc), xa_pc M ip' = pc' → lv_has ls' (xa_mL M) (xa_lv b base lv') → xa_Mt D cl cs b base h' H' → va_S (xa_A base) s.heap H' locs' →
      W p l e R s m args below meth c H' locs' (cells + k) (slots + z) Q (F0 m pc' ls' (st'.map (xa_rv b base)))) :
    W p l e R s m args below meth c H locs cells slots Q (F0 m pc ls (st.map (xa_rv b base))) := by
  obtain ⟨hx, hb, hml, hown, hts, hK, hX, hbb, hbs, hlk, hrt, hnm, hxt⟩ := F
  have htk : ∀ w ∈ Tk, w.before args s = true := fun w hw => hts w (hsub w hw)
  have hD := xa_W_D cs b base h
  have hA : ∀ q, s.heap.size ≤ q → xa_A base q := fun q hq => Nat.le_trans hbs hq
  have hbA : ¬ xa_A base b := Nat.not_le.mpr hbb
  have hbl : b < s.heap.size := Nat.lt_of_lt_of_le hbb hbs
  unfold xa_ck at hck
  rw [Bool.and_eq_true, decide_eq_true_eq] at hck
  obtain ⟨hd, hck⟩ := hck
  simp only [Bool.and_eq_true, decide_eq_true_eq] at hck
  obtain ⟨rfl, hp⟩ := hck
  obtain ⟨y, st, rfl, hn⟩ := xa_pl_some hn
  obtain ⟨x, st, rfl, hn⟩ := xa_pl_some hn
  obtain ⟨rfl, rfl, rfl, rfl, rfl, rfl⟩ := xa_go_some hn
  refine lv_lsub hx hb hd ?_
  exact kk _ ls H locs hp hl hM hS
set_option maxHeartbeats 1000000 in
theorem xs_lmul {len nip r q : Nat} {ts : List Nat} {lv lv' : List (Nat × Value)} {st st' : List Value} {h h' : List va_E} {ip' k z : Nat} (hC : xa_ckC cl Ts = true)
    (F : xa_Fr D cl Ts cs b base L xs M p s m args meth c) {Tk : List Jvm.Cond} (hsub : ∀ w ∈ Tk, w ∈ Ts) (hck : xa_ck cl Tk M pc .lmul len nip r q ts = true) (hn : xa_nx L xs .lmul nip r q ts lv st h = some (ip', lv', st', h', k, z))
    (hl : lv_has ls (xa_mL M) (xa_lv b base lv)) (hM : xa_Mt D cl cs b base h H) (hS : va_S (xa_A base) s.heap H locs) (hcs : s.heap.size + cells ≤ base + h.length) (hc : cells + k ≤ R.cells) (hz : slots + z ≤ R.slots) (hro : xa_kind .lmul r q = 4 → 1 ≤ R.frames ∧ 30 ≤ R.locals)
    (kk : ∀ (pc' : Nat) (ls' : Array Slot) (H' : Heap) (locs' : List Loc), xa_pc M ip' = pc' → lv_has ls' (xa_mL M) (xa_lv b base lv') → xa_Mt D cl cs b base h' H' → va_S (xa_A base) s.heap H' locs' →
      W p l e R s m args below meth c H' locs' (cells + k) (slots + z) Q (F0 m pc' ls' (st'.map (xa_rv b base)))) :
    W p l e R s m args below meth c H locs cells slots Q (F0 m pc ls (st.map (xa_rv b base))) := by
  obtain ⟨hx, hb, hml, hown, hts, hK, hX, hbb, hbs, hlk, hrt, hnm, hxt⟩ := F
  have htk : ∀ w ∈ Tk, w.before args s = true := fun w hw => hts w (hsub w hw)
  have hD := xa_W_D cs b base h
  have hA : ∀ q, s.heap.size ≤ q → xa_A base q := fun q hq => Nat.le_trans hbs hq
  have hbA : ¬ xa_A base b := Nat.not_le.mpr hbb
  have hbl : b < s.heap.size := Nat.lt_of_lt_of_le hbb hbs
  unfold xa_ck at hck
  rw [Bool.and_eq_true, decide_eq_true_eq] at hck
  obtain ⟨hd, hck⟩ := hck
  simp only [Bool.and_eq_true, decide_eq_true_eq] at hck
  obtain ⟨rfl, hp⟩ := hck
  obtain ⟨y, st, rfl, hn⟩ := xa_pl_some hn
  obtain ⟨x, st, rfl, hn⟩ := xa_pl_some hn
  obtain ⟨rfl, rfl, rfl, rfl, rfl, rfl⟩ := xa_go_some hn
  refine lv_lmul hx hb hd ?_
  exact kk _ ls H locs hp hl hM hS
set_option maxHeartbeats 1000000 in
theorem xs_idiv {len nip r q : Nat} {ts : List Nat} {lv lv' : List (Nat × Value)} {st st' : List Value} {h h' : List va_E} {ip' k z : Nat} (hC : xa_ckC cl Ts = true)
    (F : xa_Fr D cl Ts cs b base L xs M p s m args meth c) {Tk : List Jvm.Cond} (hsub : ∀ w ∈ Tk, w ∈ Ts) (hck : xa_ck cl Tk M pc .idiv len nip r q ts = true) (hn : xa_nx L xs .idiv nip r q ts lv st h = some (ip', lv', st', h', k, z))
    (hl : lv_has ls (xa_mL M) (xa_lv b base lv)) (hM : xa_Mt D cl cs b base h H) (hS : va_S (xa_A base) s.heap H locs) (hcs : s.heap.size + cells ≤ base + h.length) (hc : cells + k ≤ R.cells) (hz : slots + z ≤ R.slots) (hro : xa_kind .idiv r q = 4 → 1 ≤ R.frames ∧ 30 ≤ R.locals)
    (kk : ∀ (pc' : Nat) (ls' : Array Slot) (H' : Heap) (locs' : List Loc), xa_pc M ip' = pc' → lv_has ls' (xa_mL M) (xa_lv b base lv') → xa_Mt D cl cs b base h' H' → va_S (xa_A base) s.heap H' locs' →
      W p l e R s m args below meth c H' locs' (cells + k) (slots + z) Q (F0 m pc' ls' (st'.map (xa_rv b base)))) :
    W p l e R s m args below meth c H locs cells slots Q (F0 m pc ls (st.map (xa_rv b base))) := by
  obtain ⟨hx, hb, hml, hown, hts, hK, hX, hbb, hbs, hlk, hrt, hnm, hxt⟩ := F
  have htk : ∀ w ∈ Tk, w.before args s = true := fun w hw => hts w (hsub w hw)
  have hD := xa_W_D cs b base h
  have hA : ∀ q, s.heap.size ≤ q → xa_A base q := fun q hq => Nat.le_trans hbs hq
  have hbA : ¬ xa_A base b := Nat.not_le.mpr hbb
  have hbl : b < s.heap.size := Nat.lt_of_lt_of_le hbb hbs
  unfold xa_ck at hck
  rw [Bool.and_eq_true, decide_eq_true_eq] at hck
  obtain ⟨hd, hck⟩ := hck
  simp only [Bool.and_eq_true, decide_eq_true_eq] at hck
  obtain ⟨rfl, hp⟩ := hck
  obtain ⟨y, st, rfl, hn⟩ := xa_pi_some hn
  obtain ⟨x, st, rfl, hn⟩ := xa_pi_some hn
  obtain ⟨hy, hn⟩ := xa_if_some hn
  obtain ⟨rfl, rfl, rfl, rfl, rfl, rfl⟩ := xa_go_some hn
  refine lv_idiv hx hb hd (by simpa using hy) ?_
  exact kk _ ls H locs hp hl hM hS
set_option maxHeartbeats 1000000 in
theorem xs_irem {len nip r q : Nat} {ts : List Nat} {lv lv' : List (Nat × Value)} {st st' : List Value} {h h' : List va_E} {ip' k z : Nat} (hC : xa_ckC cl Ts = true)
    (F : xa_Fr D cl Ts cs b base L xs M p s m args meth c) {Tk : List Jvm.Cond} (hsub : ∀ w ∈ Tk, w ∈ Ts) (hck : xa_ck cl Tk M pc .irem len nip r q ts = true) (hn : xa_nx L xs .irem nip r q ts lv st h = some (ip', lv', st', h', k, z))
    (hl : lv_has ls (xa_mL M) (xa_lv b base lv)) (hM : xa_Mt D cl cs b base h H) (hS : va_S (xa_A base) s.heap H locs) (hcs : s.heap.size + cells ≤ base + h.length) (hc : cells + k ≤ R.cells) (hz : slots + z ≤ R.slots) (hro : xa_kind .irem r q = 4 → 1 ≤ R.frames ∧ 30 ≤ R.locals)
    (kk : ∀ (pc' : Nat) (ls' : Array Slot) (H' : Heap) (locs' : List Loc), xa_pc M ip' = pc' → lv_has ls' (xa_mL M) (xa_lv b base lv') → xa_Mt D cl cs b base h' H' → va_S (xa_A base) s.heap H' locs' →
      W p l e R s m args below meth c H' locs' (cells + k) (slots + z) Q (F0 m pc' ls' (st'.map (xa_rv b base)))) :
    W p l e R s m args below meth c H locs cells slots Q (F0 m pc ls (st.map (xa_rv b base))) := by
  obtain ⟨hx, hb, hml, hown, hts, hK, hX, hbb, hbs, hlk, hrt, hnm, hxt⟩ := F
  have htk : ∀ w ∈ Tk, w.before args s = true := fun w hw => hts w (hsub w hw)
  have hD := xa_W_D cs b base h
  have hA : ∀ q, s.heap.size ≤ q → xa_A base q := fun q hq => Nat.le_trans hbs hq
  have hbA : ¬ xa_A base b := Nat.not_le.mpr hbb
  have hbl : b < s.heap.size := Nat.lt_of_lt_of_le hbb hbs
  unfold xa_ck at hck
  rw [Bool.and_eq_true, decide_eq_true_eq] at hck
  obtain ⟨hd, hck⟩ := hck
  simp only [Bool.and_eq_true, decide_eq_true_eq] at hck
  obtain ⟨rfl, hp⟩ := hck
  obtain ⟨y, st, rfl, hn⟩ := xa_pi_some hn
  obtain ⟨x, st, rfl, hn⟩ := xa_pi_some hn
  obtain ⟨hy, hn⟩ := xa_if_some hn
  obtain ⟨rfl, rfl, rfl, rfl, rfl, rfl⟩ := xa_go_some hn
  refine lv_irem hx hb hd (by simpa using hy) ?_
  exact kk _ ls H locs hp hl hM hS
set_option maxHeartbeats 1000000 in
theorem xs_ldiv {len nip r q : Nat} {ts : List Nat} {lv lv' : List (Nat × Value)} {st st' : List Value} {h h' : List va_E} {ip' k z : Nat} (hC : xa_ckC cl Ts = true)
    (F : xa_Fr D cl Ts cs b base L xs M p s m args meth c) {Tk : List Jvm.Cond} (hsub : ∀ w ∈ Tk, w ∈ Ts) (hck : xa_ck cl Tk M pc .ldiv len nip r q ts = true) (hn : xa_nx L xs .ldiv nip r q ts lv st h = some (ip', lv', st', h', k, z))
    (hl : lv_has ls (xa_mL M) (xa_lv b base lv)) (hM : xa_Mt D cl cs b base h H) (hS : va_S (xa_A base) s.heap H locs) (hcs : s.heap.size + cells ≤ base + h.length) (hc : cells + k ≤ R.cells) (hz : slots + z ≤ R.slots) (hro : xa_kind .ldiv r q = 4 → 1 ≤ R.frames ∧ 30 ≤ R.locals)
    (kk : ∀ (pc' : Nat) (ls' : Array Slot) (H' : Heap) (locs' : List Loc), xa_pc M ip' = pc' → lv_has ls' (xa_mL M) (xa_lv b base lv') → xa_Mt D cl cs b base h' H' → va_S (xa_A base) s.heap H' locs' →
      W p l e R s m args below meth c H' locs' (cells + k) (slots + z) Q (F0 m pc' ls' (st'.map (xa_rv b base)))) :
    W p l e R s m args below meth c H locs cells slots Q (F0 m pc ls (st.map (xa_rv b base))) := by
  obtain ⟨hx, hb, hml, hown, hts, hK, hX, hbb, hbs, hlk, hrt, hnm, hxt⟩ := F
  have htk : ∀ w ∈ Tk, w.before args s = true := fun w hw => hts w (hsub w hw)
  have hD := xa_W_D cs b base h
  have hA : ∀ q, s.heap.size ≤ q → xa_A base q := fun q hq => Nat.le_trans hbs hq
  have hbA : ¬ xa_A base b := Nat.not_le.mpr hbb
  have hbl : b < s.heap.size := Nat.lt_of_lt_of_le hbb hbs
  unfold xa_ck at hck
  rw [Bool.and_eq_true, decide_eq_true_eq] at hck
  obtain ⟨hd, hck⟩ := hck
  simp only [Bool.and_eq_true, decide_eq_true_eq] at hck
  obtain ⟨rfl, hp⟩ := hck
  obtain ⟨y, st, rfl, hn⟩ := xa_pl_some hn
  obtain ⟨x, st, rfl, hn⟩ := xa_pl_some hn
  obtain ⟨hy, hn⟩ := xa_if_some hn
  obtain ⟨rfl, rfl, rfl, rfl, rfl, rfl⟩ := xa_go_some hn
  refine lv_ldiv hx hb hd (by simpa using hy) ?_
  exact kk _ ls H locs hp hl hM hS
set_option maxHeartbeats 1000000 in
theorem xs_lrem {len nip r q : Nat} {ts : List Nat} {lv lv' : List (Nat × Value)} {st st' : List Value} {h h' : List va_E} {ip' k z : Nat} (hC : xa_ckC cl Ts = true)
    (F : xa_Fr D cl Ts cs b base L xs M p s m args meth c) {Tk : List Jvm.Cond} (hsub : ∀ w ∈ Tk, w ∈ Ts) (hck : xa_ck cl Tk M pc .lrem len nip r q ts = true) (hn : xa_nx L xs .lrem nip r q ts lv st h = some (ip', lv', st', h', k, z))
    (hl : lv_has ls (xa_mL M) (xa_lv b base lv)) (hM : xa_Mt D cl cs b base h H) (hS : va_S (xa_A base) s.heap H locs) (hcs : s.heap.size + cells ≤ base + h.length) (hc : cells + k ≤ R.cells) (hz : slots + z ≤ R.slots) (hro : xa_kind .lrem r q = 4 → 1 ≤ R.frames ∧ 30 ≤ R.locals)
    (kk : ∀ (pc' : Nat) (ls' : Array Slot) (H' : Heap) (locs' : List Loc), xa_pc M ip' = pc' → lv_has ls' (xa_mL M) (xa_lv b base lv') → xa_Mt D cl cs b base h' H' → va_S (xa_A base) s.heap H' locs' →
      W p l e R s m args below meth c H' locs' (cells + k) (slots + z) Q (F0 m pc' ls' (st'.map (xa_rv b base)))) :
    W p l e R s m args below meth c H locs cells slots Q (F0 m pc ls (st.map (xa_rv b base))) := by
  obtain ⟨hx, hb, hml, hown, hts, hK, hX, hbb, hbs, hlk, hrt, hnm, hxt⟩ := F
  have htk : ∀ w ∈ Tk, w.before args s = true := fun w hw => hts w (hsub w hw)
  have hD := xa_W_D cs b base h
  have hA : ∀ q, s.heap.size ≤ q → xa_A base q := fun q hq => Nat.le_trans hbs hq
  have hbA : ¬ xa_A base b := Nat.not_le.mpr hbb
  have hbl : b < s.heap.size := Nat.lt_of_lt_of_le hbb hbs
  unfold xa_ck at hck
  rw [Bool.and_eq_true, decide_eq_true_eq] at hck
  obtain ⟨hd, hck⟩ := hck
  simp only [Bool.and_eq_true, decide_eq_true_eq] at hck
  obtain ⟨rfl, hp⟩ := hck
  obtain ⟨y, st, rfl, hn⟩ := xa_pl_some hn
  obtain ⟨x, st, rfl, hn⟩ := xa_pl_some hn
  obtain ⟨hy, hn⟩ := xa_if_some hn
  obtain ⟨rfl, rfl, rfl, rfl, rfl, rfl⟩ := xa_go_some hn
  refine lv_lrem hx hb hd (by simpa using hy) ?_
  exact kk _ ls H locs hp hl hM hS
set_option maxHeartbeats 1000000 in
theorem xs_ineg {len nip r q : Nat} {ts : List Nat} {lv lv' : List (Nat × Value)} {st st' : List Value} {h h' : List va_E} {ip' k z : Nat} (hC : xa_ckC cl Ts = true)
    (F : xa_Fr D cl Ts cs b base L xs M p s m args meth c) {Tk : List Jvm.Cond} (hsub : ∀ w ∈ Tk, w ∈ Ts) (hck : xa_ck cl Tk M pc .ineg len nip r q ts = true) (hn : xa_nx L xs .ineg nip r q ts lv st h = some (ip', lv', st', h', k, z))
    (hl : lv_has ls (xa_mL M) (xa_lv b base lv)) (hM : xa_Mt D cl cs b base h H) (hS : va_S (xa_A base) s.heap H locs) (hcs : s.heap.size + cells ≤ base + h.length) (hc : cells + k ≤ R.cells) (hz : slots + z ≤ R.slots) (hro : xa_kind .ineg r q = 4 → 1 ≤ R.frames ∧ 30 ≤ R.locals)
    (kk : ∀ (pc' : Nat) (ls' : Array Slot) (H' : Heap) (locs' : List Loc), xa_pc M ip' = pc' → lv_has ls' (xa_mL M) (xa_lv b base lv') → xa_Mt D cl cs b base h' H' → va_S (xa_A base) s.heap H' locs' →
      W p l e R s m args below meth c H' locs' (cells + k) (slots + z) Q (F0 m pc' ls' (st'.map (xa_rv b base)))) :
    W p l e R s m args below meth c H locs cells slots Q (F0 m pc ls (st.map (xa_rv b base))) := by
  obtain ⟨hx, hb, hml, hown, hts, hK, hX, hbb, hbs, hlk, hrt, hnm, hxt⟩ := F
  have htk : ∀ w ∈ Tk, w.before args s = true := fun w hw => hts w (hsub w hw)
  have hD := xa_W_D cs b base h
  have hA : ∀ q, s.heap.size ≤ q → xa_A base q := fun q hq => Nat.le_trans hbs hq
  have hbA : ¬ xa_A base b := Nat.not_le.mpr hbb
  have hbl : b < s.heap.size := Nat.lt_of_lt_of_le hbb hbs
  unfold xa_ck at hck
  rw [Bool.and_eq_true, decide_eq_true_eq] at hck
  obtain ⟨hd, hck⟩ := hck
  simp only [Bool.and_eq_true, decide_eq_true_eq] at hck
  obtain ⟨rfl, hp⟩ := hck
  obtain ⟨x, st, rfl, hn⟩ := xa_pi_some hn
  obtain ⟨rfl, rfl, rfl, rfl, rfl, rfl⟩ := xa_go_some hn
  refine lv_ineg hx hb hd ?_
  exact kk _ ls H locs hp hl hM hS
set_option maxHeartbeats 1000000 in
theorem xs_lcmp {len nip r q : Nat} {ts : List Nat} {lv lv' : List (Nat × Value)} {st st' : List Value} {h h' : List va_E} {ip' k z : Nat} (hC : xa_ckC cl Ts = true)
    (F : xa_Fr D cl Ts cs b base L xs M p s m args meth c) {Tk : List Jvm.Cond} (hsub : ∀ w ∈ Tk, w ∈ Ts) (hck : xa_ck cl Tk M pc .lcmp len nip r q ts = true) (hn : xa_nx L xs .lcmp nip r q ts lv st h = some (ip', lv', st', h', k, z))
    (hl : lv_has ls (xa_mL M) (xa_lv b base lv)) (hM : xa_Mt D cl cs b base h H) (hS : va_S (xa_A base) s.heap H locs) (hcs : s.heap.size + cells ≤ base + h.length) (hc : cells + k ≤ R.cells) (hz : slots + z ≤ R.slots) (hro : xa_kind .lcmp r q = 4 → 1 ≤ R.frames ∧ 30 ≤ R.locals)
    (kk : ∀ (pc' : Nat) (ls' : Array Slot) (H' : Heap) (locs' : List Loc), xa_pc M ip' = pc' → lv_has ls' (xa_mL M) (xa_lv b base lv') → xa_Mt D cl cs b base h' H' → va_S (xa_A base) s.heap H' locs' →
      W p l e R s m args below meth c H' locs' (cells + k) (slots + z) Q (F0 m pc' ls' (st'.map (xa_rv b base)))) :
    W p l e R s m args below meth c H locs cells slots Q (F0 m pc ls (st.map (xa_rv b base))) := by
  obtain ⟨hx, hb, hml, hown, hts, hK, hX, hbb, hbs, hlk, hrt, hnm, hxt⟩ := F
  have htk : ∀ w ∈ Tk, w.before args s = true := fun w hw => hts w (hsub w hw)
  have hD := xa_W_D cs b base h
  have hA : ∀ q, s.heap.size ≤ q → xa_A base q := fun q hq => Nat.le_trans hbs hq
  have hbA : ¬ xa_A base b := Nat.not_le.mpr hbb
  have hbl : b < s.heap.size := Nat.lt_of_lt_of_le hbb hbs
  unfold xa_ck at hck
  rw [Bool.and_eq_true, decide_eq_true_eq] at hck
  obtain ⟨hd, hck⟩ := hck
  simp only [Bool.and_eq_true, decide_eq_true_eq] at hck
  obtain ⟨rfl, hp⟩ := hck
  obtain ⟨y, st, rfl, hn⟩ := xa_pl_some hn
  obtain ⟨x, st, rfl, hn⟩ := xa_pl_some hn
  obtain ⟨rfl, rfl, rfl, rfl, rfl, rfl⟩ := xa_go_some hn
  refine W.lcmp hx hb hd ?_
  exact kk _ ls H locs hp hl hM hS
set_option maxHeartbeats 1000000 in
theorem xs_i2l {len nip r q : Nat} {ts : List Nat} {lv lv' : List (Nat × Value)} {st st' : List Value} {h h' : List va_E} {ip' k z : Nat} (hC : xa_ckC cl Ts = true)
    (F : xa_Fr D cl Ts cs b base L xs M p s m args meth c) {Tk : List Jvm.Cond} (hsub : ∀ w ∈ Tk, w ∈ Ts) (hck : xa_ck cl Tk M pc .i2l len nip r q ts = true) (hn : xa_nx L xs .i2l nip r q ts lv st h = some (ip', lv', st', h', k, z))
    (hl : lv_has ls (xa_mL M) (xa_lv b base lv)) (hM : xa_Mt D cl cs b base h H) (hS : va_S (xa_A base) s.heap H locs) (hcs : s.heap.size + cells ≤ base + h.length) (hc : cells + k ≤ R.cells) (hz : slots + z ≤ R.slots) (hro : xa_kind .i2l r q = 4 → 1 ≤ R.frames ∧ 30 ≤ R.locals)
    (kk : ∀ (pc' : Nat) (ls' : Array Slot) (H' : Heap) (locs' : List Loc), xa_pc M ip' = pc' → lv_has ls' (xa_mL M) (xa_lv b base lv') → xa_Mt D cl cs b base h' H' → va_S (xa_A base) s.heap H' locs' →
      W p l e R s m args below meth c H' locs' (cells + k) (slots + z) Q (F0 m pc' ls' (st'.map (xa_rv b base)))) :
    W p l e R s m args below meth c H locs cells slots Q (F0 m pc ls (st.map (xa_rv b base))) := by
  obtain ⟨hx, hb, hml, hown, hts, hK, hX, hbb, hbs, hlk, hrt, hnm, hxt⟩ := F
  have htk : ∀ w ∈ Tk, w.before args s = true := fun w hw => hts w (hsub w hw)
  have hD := xa_W_D cs b base h
  have hA : ∀ q, s.heap.size ≤ q → xa_A base q := fun q hq => Nat.le_trans hbs hq
  have hbA : ¬ xa_A base b := Nat.not_le.mpr hbb
  have hbl : b < s.heap.size := Nat.lt_of_lt_of_le hbb hbs
  unfold xa_ck at hck
  rw [Bool.and_eq_true, decide_eq_true_eq] at hck
  obtain ⟨hd, hck⟩ := hck
  simp only [Bool.and_eq_true, decide_eq_true_eq] at hck
  obtain ⟨rfl, hp⟩ := hck
  obtain ⟨x, st, rfl, hn⟩ := xa_pi_some hn
  obtain ⟨rfl, rfl, rfl, rfl, rfl, rfl⟩ := xa_go_some hn
  refine lv_i2l hx hb hd rfl ?_
  exact kk _ ls H locs hp hl hM hS
set_option maxHeartbeats 1000000 in
theorem xs_l2i {len nip r q : Nat} {ts : List Nat} {lv lv' : List (Nat × Value)} {st st' : List Value} {h h' : List va_E} {ip' k z : Nat} (hC : xa_ckC cl Ts = true)
    (F : xa_Fr D cl Ts cs b base L xs M p s m args meth c) {Tk : List Jvm.Cond} (hsub : ∀ w ∈ Tk, w ∈ Ts) (hck : xa_ck cl Tk M pc .l2i len nip r q ts = true) (hn : xa_nx L xs .l2i nip r q ts lv st h = some (ip', lv', st', h', k, z))
    (hl : lv_has ls (xa_mL M) (xa_lv b base lv)) (hM : xa_Mt D cl cs b base h H) (hS : va_S (xa_A base) s.heap H locs) (hcs : s.heap.size + cells ≤ base + h.length) (hc : cells + k ≤ R.cells) (hz : slots + z ≤ R.slots) (hro : xa_kind .l2i r q = 4 → 1 ≤ R.frames ∧ 30 ≤ R.locals)
    (kk : ∀ (pc' : Nat) (ls' : Array Slot) (H' : Heap) (locs' : List Loc), xa_pc M ip' = pc' → lv_has ls' (xa_mL M) (xa_lv b base lv') → xa_Mt D cl cs b base h' H' → va_S (xa_A base) s.heap H' locs' →
      W p l e R s m args below meth c H' locs' (cells + k) (slots + z) Q (F0 m pc' ls' (st'.map (xa_rv b base)))) :
    W p l e R s m args below meth c H locs cells slots Q (F0 m pc ls (st.map (xa_rv b base))) := by
  obtain ⟨hx, hb, hml, hown, hts, hK, hX, hbb, hbs, hlk, hrt, hnm, hxt⟩ := F
  have htk : ∀ w ∈ Tk, w.before args s = true := fun w hw => hts w (hsub w hw)
  have hD := xa_W_D cs b base h
  have hA : ∀ q, s.heap.size ≤ q → xa_A base q := fun q hq => Nat.le_trans hbs hq
  have hbA : ¬ xa_A base b := Nat.not_le.mpr hbb
  have hbl : b < s.heap.size := Nat.lt_of_lt_of_le hbb hbs
  unfold xa_ck at hck
  rw [Bool.and_eq_true, decide_eq_true_eq] at hck
  obtain ⟨hd, hck⟩ := hck
  simp only [Bool.and_eq_true, decide_eq_true_eq] at hck
  obtain ⟨rfl, hp⟩ := hck
  obtain ⟨x, st, rfl, hn⟩ := xa_pl_some hn
  obtain ⟨rfl, rfl, rfl, rfl, rfl, rfl⟩ := xa_go_some hn
  refine lv_l2i hx hb hd rfl ?_
  exact kk _ ls H locs hp hl hM hS
set_option maxHeartbeats 1000000 in
theorem xs_dup {len nip r q : Nat} {ts : List Nat} {lv lv' : List (Nat × Value)} {st st' : List Value} {h h' : List va_E} {ip' k z : Nat} (hC : xa_ckC cl Ts = true)
    (F : xa_Fr D cl Ts cs b base L xs M p s m args meth c) {Tk : List Jvm.Cond} (hsub : ∀ w ∈ Tk, w ∈ Ts) (hck : xa_ck cl Tk M pc .dup len nip r q ts = true) (hn : xa_nx L xs .dup nip r q ts lv st h = some (ip', lv', st', h', k, z))
    (hl : lv_has ls (xa_mL M) (xa_lv b base lv)) (hM : xa_Mt D cl cs b base h H) (hS : va_S (xa_A base) s.heap H locs) (hcs : s.heap.size + cells ≤ base + h.length) (hc : cells + k ≤ R.cells) (hz : slots + z ≤ R.slots) (hro : xa_kind .dup r q = 4 → 1 ≤ R.frames ∧ 30 ≤ R.locals)
    (kk : ∀ (pc' : Nat) (ls' : Array Slot) (H' : Heap) (locs' : List Loc), xa_pc M ip' = pc' → lv_has ls' (xa_mL M) (xa_lv b base lv') → xa_Mt D cl cs b base h' H' → va_S (xa_A base) s.heap H' locs' →
      W p l e R s m args below meth c H' locs' (cells + k) (slots + z) Q (F0 m pc' ls' (st'.map (xa_rv b base)))) :
    W p l e R s m args below meth c H locs cells slots Q (F0 m pc ls (st.map (xa_rv b base))) := by
  obtain ⟨hx, hb, hml, hown, hts, hK, hX, hbb, hbs, hlk, hrt, hnm, hxt⟩ := F
  have htk : ∀ w ∈ Tk, w.before args s = true := fun w hw => hts w (hsub w hw)
  have hD := xa_W_D cs b base h
  have hA : ∀ q, s.heap.size ≤ q → xa_A base q := fun q hq => Nat.le_trans hbs hq
  have hbA : ¬ xa_A base b := Nat.not_le.mpr hbb
  have hbl : b < s.heap.size := Nat.lt_of_lt_of_le hbb hbs
  unfold xa_ck at hck
  rw [Bool.and_eq_true, decide_eq_true_eq] at hck
  obtain ⟨hd, hck⟩ := hck
  simp only [Bool.and_eq_true, decide_eq_true_eq] at hck
  obtain ⟨rfl, hp⟩ := hck
  obtain ⟨v, st, rfl, hv, hn⟩ := xa_p1_some hn
  obtain ⟨rfl, rfl, rfl, rfl, rfl, rfl⟩ := xa_go_some hn
  refine lv_dup hx hb hd (by rw [xa_rv_cat]; exact xa_cat1 hv) ?_
  exact kk _ ls H locs hp hl hM hS
set_option maxHeartbeats 1000000 in
theorem xs_pop {len nip r q : Nat} {ts : List Nat} {lv lv' : List (Nat × Value)} {st st' : List Value} {h h' : List va_E} {ip' k z : Nat} (hC : xa_ckC cl Ts = true)
    (F : xa_Fr D cl Ts cs b base L xs M p s m args meth c) {Tk : List Jvm.Cond} (hsub : ∀ w ∈ Tk, w ∈ Ts) (hck : xa_ck cl Tk M pc .pop len nip r q ts = true) (hn : xa_nx L xs .pop nip r q ts lv st h = some (ip', lv', st', h', k, z))
    (hl : lv_has ls (xa_mL M) (xa_lv b base lv)) (hM : xa_Mt D cl cs b base h H) (hS : va_S (xa_A base) s.heap H locs) (hcs : s.heap.size + cells ≤ base + h.length) (hc : cells + k ≤ R.cells) (hz : slots + z ≤ R.slots) (hro : xa_kind .pop r q = 4 → 1 ≤ R.frames ∧ 30 ≤ R.locals)
    (kk : ∀ (pc' : Nat) (ls' : Array Slot) (H' : Heap) (locs' : List Loc), xa_pc M ip' = pc' → lv_has ls' (xa_mL M) (xa_lv b base lv') → xa_Mt D cl cs b base h' H' → va_S (xa_A base) s.heap H' locs' →
      W p l e R s m args below meth c H' locs' (cells + k) (slots + z) Q (F0 m pc' ls' (st'.map (xa_rv b base)))) :
    W p l e R s m args below meth c H locs cells slots Q (F0 m pc ls (st.map (xa_rv b base))) := by
  obtain ⟨hx, hb, hml, hown, hts, hK, hX, hbb, hbs, hlk, hrt, hnm, hxt⟩ := F
  have htk : ∀ w ∈ Tk, w.before args s = true := fun w hw => hts w (hsub w hw)
  have hD := xa_W_D cs b base h
  have hA : ∀ q, s.heap.size ≤ q → xa_A base q := fun q hq => Nat.le_trans hbs hq
  have hbA : ¬ xa_A base b := Nat.not_le.mpr hbb
  have hbl : b < s.heap.size := Nat.lt_of_lt_of_le hbb hbs
  unfold xa_ck at hck
  rw [Bool.and_eq_true, decide_eq_true_eq] at hck
  obtain ⟨hd, hck⟩ := hck
  simp only [Bool.and_eq_true, decide_eq_true_eq] at hck
  obtain ⟨rfl, hp⟩ := hck
  obtain ⟨v, st, rfl, hv, hn⟩ := xa_p1_some hn
  obtain ⟨rfl, rfl, rfl, rfl, rfl, rfl⟩ := xa_go_some hn
  refine lv_pop hx hb hd (by rw [xa_rv_cat]; exact xa_cat1 hv) ?_
  exact kk _ ls H locs hp hl hM hS
set_option maxHeartbeats 1000000 in
theorem xs_dup2 {len nip r q : Nat} {ts : List Nat} {lv lv' : List (Nat × Value)} {st st' : List Value} {h h' : List va_E} {ip' k z : Nat} (hC : xa_ckC cl Ts = true)
    (F : xa_Fr D cl Ts cs b base L xs M p s m args meth c) {Tk : List Jvm.Cond} (hsub : ∀ w ∈ Tk, w ∈ Ts) (hck : xa_ck cl Tk M pc .dup2 len nip r q ts = true) (hn : xa_nx L xs .dup2 nip r q ts lv st h = some (ip', lv', st', h', k, z))
    (hl : lv_has ls (xa_mL M) (xa_lv b base lv)) (hM : xa_Mt D cl cs b base h H) (hS : va_S (xa_A base) s.heap H locs) (hcs : s.heap.size + cells ≤ base + h.length) (hc : cells + k ≤ R.cells) (hz : slots + z ≤ R.slots) (hro : xa_kind .dup2 r q = 4 → 1 ≤ R.frames ∧ 30 ≤ R.locals)
    (kk : ∀ (pc' : Nat) (ls' : Array Slot) (H' : Heap) (locs' : List Loc), xa_pc M ip' = pc' → lv_has ls' (xa_mL M) (xa_lv b base lv') → xa_Mt D cl cs b base h' H' → va_S (xa_A base) s.heap H' locs' →
      W p l e R s m args below meth c H' locs' (cells + k) (slots + z) Q (F0 m pc' ls' (st'.map (xa_rv b base)))) :
    W p l e R s m args below meth c H locs cells slots Q (F0 m pc ls (st.map (xa_rv b base))) := by
  obtain ⟨hx, hb, hml, hown, hts, hK, hX, hbb, hbs, hlk, hrt, hnm, hxt⟩ := F
  have htk : ∀ w ∈ Tk, w.before args s = true := fun w hw => hts w (hsub w hw)
  have hD := xa_W_D cs b base h
  have hA : ∀ q, s.heap.size ≤ q → xa_A base q := fun q hq => Nat.le_trans hbs hq
  have hbA : ¬ xa_A base b := Nat.not_le.mpr hbb
  have hbl : b < s.heap.size := Nat.lt_of_lt_of_le hbb hbs
  unfold xa_ck at hck
  rw [Bool.and_eq_true, decide_eq_true_eq] at hck
  obtain ⟨hd, hck⟩ := hck
  simp only [Bool.and_eq_true, decide_eq_true_eq] at hck
  obtain ⟨rfl, hp⟩ := hck
  obtain ⟨v, st, rfl, hv, hn⟩ := xa_p1_some hn
  obtain ⟨u, st, rfl, hu, hn⟩ := xa_p1_some hn
  obtain ⟨rfl, rfl, rfl, rfl, rfl, rfl⟩ := xa_go_some hn
  refine lv_dup2_11 hx hb hd (by rw [xa_rv_cat]; exact xa_cat1 hv) (by rw [xa_rv_cat]; exact xa_cat1 hu) ?_
  exact kk _ ls H locs hp hl hM hS
set_option maxHeartbeats 1000000 in
theorem xs_ifCond {cd : Jvm.ClassFile.Cond} {off : Int} {len nip r q : Nat} {ts : List Nat} {lv lv' : List (Nat × Value)} {st st' : List Value} {h h' : List va_E} {ip' k z : Nat} (hC : xa_ckC cl Ts = true)
    (F : xa_Fr D cl Ts cs b base L xs M p s m args meth c) {Tk : List Jvm.Cond} (hsub : ∀ w ∈ Tk, w ∈ Ts) (hck : xa_ck cl Tk M pc (.ifCond cd off) len nip r q ts = true) (hn : xa_nx L xs (.ifCond cd off) nip r q ts lv st h = some (ip', lv', st', h', k, z))
    (hl : lv_has ls (xa_mL M) (xa_lv b base lv)) (hM : xa_Mt D cl cs b base h H) (hS : va_S (xa_A base) s.heap H locs) (hcs : s.heap.size + cells ≤ base + h.length) (hc : cells + k ≤ R.cells) (hz : slots + z ≤ R.slots) (hro : xa_kind (.ifCond cd off) r q = 4 → 1 ≤ R.frames ∧ 30 ≤ R.locals)
    (kk : ∀ (pc' : Nat) (ls' : Array Slot) (H' : Heap) (locs' : List Loc), xa_pc M ip' = pc' → lv_has ls' (xa_mL M) (xa_lv b base lv') → xa_Mt D cl cs b base h' H' → va_S (xa_A base) s.heap H' locs' →
      W p l e R s m args below meth c H' locs' (cells + k) (slots + z) Q (F0 m pc' ls' (st'.map (xa_rv b base)))) :
    W p l e R s m args below meth c H locs cells slots Q (F0 m pc ls (st.map (xa_rv b base))) := by
  obtain ⟨hx, hb, hml, hown, hts, hK, hX, hbb, hbs, hlk, hrt, hnm, hxt⟩ := F
  have htk : ∀ w ∈ Tk, w.before args s = true := fun w hw => hts w (hsub w hw)
  have hD := xa_W_D cs b base h
  have hA : ∀ q, s.heap.size ≤ q → xa_A base q := fun q hq => Nat.le_trans hbs hq
  have hbA : ¬ xa_A base b := Nat.not_le.mpr hbb
  have hbl : b < s.heap.size := Nat.lt_of_lt_of_le hbb hbs
  unfold xa_ck at hck
  rw [Bool.and_eq_true, decide_eq_true_eq] at hck
  obtain ⟨hd, hck⟩ := hck
  simp only [Bool.and_eq_true, decide_eq_true_eq] at hck
  obtain ⟨rfl, hp, ht⟩ := hck
  obtain ⟨x, st, rfl, hn⟩ := xa_pi_some hn
  obtain ⟨rfl, rfl, rfl, rfl, rfl, rfl⟩ := xa_go_some hn
  cases cd with
  | eq => exact lv_if_eq hx hb hd ht (fun hh => kk _ ls H locs (by simp [xa_cmp, hh]) hl hM hS) (fun hh => kk _ ls H locs (by simpa [xa_cmp, hh] using hp) hl hM hS)
  | ne => exact lv_if_ne hx hb hd ht (fun hh => kk _ ls H locs (by simp [xa_cmp, hh]) hl hM hS) (fun hh => kk _ ls H locs (by simpa [xa_cmp, hh] using hp) hl hM hS)
  | lt => exact lv_if_lt hx hb hd ht (fun hh => kk _ ls H locs (by simp [xa_cmp, hh]) hl hM hS) (fun hh => kk _ ls H locs (by simpa [xa_cmp, hh] using hp) hl hM hS)
  | ge => exact lv_if_ge hx hb hd ht (fun hh => kk _ ls H locs (by simp [xa_cmp, hh]) hl hM hS) (fun hh => kk _ ls H locs (by simpa [xa_cmp, hh] using hp) hl hM hS)
  | gt => exact lv_if_gt hx hb hd ht (fun hh => kk _ ls H locs (by simp [xa_cmp, hh]) hl hM hS) (fun hh => kk _ ls H locs (by simpa [xa_cmp, hh] using hp) hl hM hS)
  | le => exact lv_if_le hx hb hd ht (fun hh => kk _ ls H locs (by simp [xa_cmp, hh]) hl hM hS) (fun hh => kk _ ls H locs (by simpa [xa_cmp, hh] using hp) hl hM hS)
set_option maxHeartbeats 1000000 in
theorem xs_if_icmp {cd : Jvm.ClassFile.Cond} {off : Int} {len nip r q : Nat} {ts : List Nat} {lv lv' : List (Nat × Value)} {st st' : List Value} {h h' : List va_E} {ip' k z : Nat} (hC : xa_ckC cl Ts = true)
    (F : xa_Fr D cl Ts cs b base L xs M p s m args meth c) {Tk : List Jvm.Cond} (hsub : ∀ w ∈ Tk, w ∈ Ts) (hck : xa_ck cl Tk M pc (.if_icmp cd off) len nip r q ts = true) (hn : xa_nx L xs (.if_icmp cd off) nip r q ts lv st h = some (ip', lv', st', h', k, z))
    (hl : lv_has ls (xa_mL M) (xa_lv b base lv)) (hM : xa_Mt D cl cs b base h H) (hS : va_S (xa_A base) s.heap H locs) (hcs : s.heap.size + cells ≤ base + h.length) (hc : cells + k ≤ R.cells) (hz : slots + z ≤ R.slots) (hro : xa_kind (.if_icmp cd off) r q = 4 → 1 ≤ R.frames ∧ 30 ≤ R.locals)
    (kk : ∀ (pc' : Nat) (ls' : Array Slot) (H' : Heap) (locs' : List Loc), xa_pc M ip' = pc' → lv_has ls' (xa_mL M) (xa_lv b base lv') → xa_Mt D cl cs b base h' H' → va_S (xa_A base) s.heap H' locs' →
      W p l e R s m args below meth c H' locs' (cells + k) (slots + z) Q (F0 m pc' ls' (st'.map (xa_rv b base)))) :
    W p l e R s m args below meth c H locs cells slots Q (F0 m pc ls (st.map (xa_rv b base))) := by
  obtain ⟨hx, hb, hml, hown, hts, hK, hX, hbb, hbs, hlk, hrt, hnm, hxt⟩ := F
  have htk : ∀ w ∈ Tk, w.before args s = true := fun w hw => hts w (hsub w hw)
  have hD := xa_W_D cs b base h
  have hA : ∀ q, s.heap.size ≤ q → xa_A base q := fun q hq => Nat.le_trans hbs hq
  have hbA : ¬ xa_A base b := Nat.not_le.mpr hbb
  have hbl : b < s.heap.size := Nat.lt_of_lt_of_le hbb hbs
  unfold xa_ck at hck
  rw [Bool.and_eq_true, decide_eq_true_eq] at hck
  obtain ⟨hd, hck⟩ := hck
  simp only [Bool.and_eq_true, decide_eq_true_eq] at hck
  obtain ⟨rfl, hp, ht⟩ := hck
  obtain ⟨y, st, rfl, hn⟩ := xa_pi_some hn
  obtain ⟨x, st, rfl, hn⟩ := xa_pi_some hn
  obtain ⟨rfl, rfl, rfl, rfl, rfl, rfl⟩ := xa_go_some hn
  cases cd with
  | eq => exact lv_icmp_eq hx hb hd ht (fun hh => kk _ ls H locs (by simp [xa_cmp, hh]) hl hM hS) (fun hh => kk _ ls H locs (by simpa [xa_cmp, hh] using hp) hl hM hS)
  | ne => exact lv_icmp_ne hx hb hd ht (fun hh => kk _ ls H locs (by simp [xa_cmp, hh]) hl hM hS) (fun hh => kk _ ls H locs (by simpa [xa_cmp, hh] using hp) hl hM hS)
  | lt => exact lv_icmp_lt hx hb hd ht (fun hh => kk _ ls H locs (by simp [xa_cmp, hh]) hl hM hS) (fun hh => kk _ ls H locs (by simpa [xa_cmp, hh] using hp) hl hM hS)
  | ge => exact lv_icmp_ge hx hb hd ht (fun hh => kk _ ls H locs (by simp [xa_cmp, hh]) hl hM hS) (fun hh => kk _ ls H locs (by simpa [xa_cmp, hh] using hp) hl hM hS)
  | gt => exact lv_icmp_gt hx hb hd ht (fun hh => kk _ ls H locs (by simp [xa_cmp, hh]) hl hM hS) (fun hh => kk _ ls H locs (by simpa [xa_cmp, hh] using hp) hl hM hS)
  | le => exact lv_icmp_le hx hb hd ht (fun hh => kk _ ls H locs (by simp [xa_cmp, hh]) hl hM hS) (fun hh => kk _ ls H locs (by simpa [xa_cmp, hh] using hp) hl hM hS)
set_option maxHeartbeats 1000000 in
theorem xs_goto {off : Int} {len nip r q : Nat} {ts : List Nat} {lv lv' : List (Nat × Value)} {st st' : List Value} {h h' : List va_E} {ip' k z : Nat} (hC : xa_ckC cl Ts = true)
    (F : xa_Fr D cl Ts cs b base L xs M p s m args meth c) {Tk : List Jvm.Cond} (hsub : ∀ w ∈ Tk, w ∈ Ts) (hck : xa_ck cl Tk M pc (.goto off) len nip r q ts = true) (hn : xa_nx L xs (.goto off) nip r q ts lv st h = some (ip', lv', st', h', k, z))
    (hl : lv_has ls (xa_mL M) (xa_lv b base lv)) (hM : xa_Mt D cl cs b base h H) (hS : va_S (xa_A base) s.heap H locs) (hcs : s.heap.size + cells ≤ base + h.length) (hc : cells + k ≤ R.cells) (hz : slots + z ≤ R.slots) (hro : xa_kind (.goto off) r q = 4 → 1 ≤ R.frames ∧ 30 ≤ R.locals)
    (kk : ∀ (pc' : Nat) (ls' : Array Slot) (H' : Heap) (locs' : List Loc), xa_pc M ip' = pc' → lv_has ls' (xa_mL M) (xa_lv b base lv') → xa_Mt D cl cs b base h' H' → va_S (xa_A base) s.heap H' locs' →
      W p l e R s m args below meth c H' locs' (cells + k) (slots + z) Q (F0 m pc' ls' (st'.map (xa_rv b base)))) :
    W p l e R s m args below meth c H locs cells slots Q (F0 m pc ls (st.map (xa_rv b base))) := by
  obtain ⟨hx, hb, hml, hown, hts, hK, hX, hbb, hbs, hlk, hrt, hnm, hxt⟩ := F
  have htk : ∀ w ∈ Tk, w.before args s = true := fun w hw => hts w (hsub w hw)
  have hD := xa_W_D cs b base h
  have hA : ∀ q, s.heap.size ≤ q → xa_A base q := fun q hq => Nat.le_trans hbs hq
  have hbA : ¬ xa_A base b := Nat.not_le.mpr hbb
  have hbl : b < s.heap.size := Nat.lt_of_lt_of_le hbb hbs
  unfold xa_ck at hck
  rw [Bool.and_eq_true, decide_eq_true_eq] at hck
  obtain ⟨hd, hck⟩ := hck
  simp only [Bool.and_eq_true, decide_eq_true_eq] at hck
  obtain ⟨rfl, ht⟩ := hck
  obtain ⟨rfl, rfl, rfl, rfl, rfl, rfl⟩ := xa_go_some hn
  exact lv_goto hx hb hd ht (kk _ ls H locs rfl hl hM hS)
set_option maxHeartbeats 1000000 in
theorem xs_getfield {x : Nat} {len nip r q : Nat} {ts : List Nat} {lv lv' : List (Nat × Value)} {st st' : List Value} {h h' : List va_E} {ip' k z : Nat} (hC : xa_ckC cl Ts = true)
    (F : xa_Fr D cl Ts cs b base L xs M p s m args meth c) {Tk : List Jvm.Cond} (hsub : ∀ w ∈ Tk, w ∈ Ts) (hck : xa_ck cl Tk M pc (.getfield x) len nip r q ts = true) (hn : xa_nx L xs (.getfield x) nip r q ts lv st h = some (ip', lv', st', h', k, z))
    (hl : lv_has ls (xa_mL M) (xa_lv b base lv)) (hM : xa_Mt D cl cs b base h H) (hS : va_S (xa_A base) s.heap H locs) (hcs : s.heap.size + cells ≤ base + h.length) (hc : cells + k ≤ R.cells) (hz : slots + z ≤ R.slots) (hro : xa_kind (.getfield x) r q = 4 → 1 ≤ R.frames ∧ 30 ≤ R.locals)
    (kk : ∀ (pc' : Nat) (ls' : Array Slot) (H' : Heap) (locs' : List Loc), xa_pc M ip' = pc' → lv_has ls' (xa_mL M) (xa_lv b base lv') → xa_Mt D cl cs b base h' H' → va_S (xa_A base) s.heap H' locs' →
      W p l e R s m args below meth c H' locs' (cells + k) (slots + z) Q (F0 m pc' ls' (st'.map (xa_rv b base)))) :
    W p l e R s m args below meth c H locs cells slots Q (F0 m pc ls (st.map (xa_rv b base))) := by
  obtain ⟨hx, hb, hml, hown, hts, hK, hX, hbb, hbs, hlk, hrt, hnm, hxt⟩ := F
  have htk : ∀ w ∈ Tk, w.before args s = true := fun w hw => hts w (hsub w hw)
  have hD := xa_W_D cs b base h
  have hA : ∀ q, s.heap.size ≤ q → xa_A base q := fun q hq => Nat.le_trans hbs hq
  have hbA : ¬ xa_A base b := Nat.not_le.mpr hbb
  have hbl : b < s.heap.size := Nat.lt_of_lt_of_le hbb hbs
  unfold xa_ck at hck
  rw [Bool.and_eq_true, decide_eq_true_eq] at hck
  obtain ⟨hd, hck⟩ := hck
  simp only [Bool.and_eq_true, decide_eq_true_eq] at hck
  obtain ⟨rfl, hp, hv⟩ := hck
  obtain ⟨a, st, rfl, hn⟩ := xa_pr_some hn
  obtain ⟨j, fs, rfl, hj, hn⟩ := xa_ob_some hn
  obtain ⟨v, hfv, hn⟩ := xa_fd_some hn
  obtain ⟨rfl, rfl, rfl, rfl, rfl, rfl⟩ := xa_go_some hn
  unfold xa_ckF at hv
  split at hv
  · rename_i C T N hcl
    rw [Bool.and_eq_true, decide_eq_true_eq, decide_eq_true_eq] at hv
    refine va_get hx hb hts (xa_ckC_in hC hcl).1 hown hK hM.2 j (xa_W_at hj) hcl q hv.1 (htk _ hv.2) (fun _ hh => hh) (v := xa_rv b base v) (by rw [List.getElem?_map, hfv]; rfl) hd ?_
    exact kk _ ls H locs hp hl hM hS
  · cases hv
set_option maxHeartbeats 1000000 in
theorem xs_putfield {x : Nat} {len nip r q : Nat} {ts : List Nat} {lv lv' : List (Nat × Value)} {st st' : List Value} {h h' : List va_E} {ip' k z : Nat} (hC : xa_ckC cl Ts = true)
    (F : xa_Fr D cl Ts cs b base L xs M p s m args meth c) {Tk : List Jvm.Cond} (hsub : ∀ w ∈ Tk, w ∈ Ts) (hck : xa_ck cl Tk M pc (.putfield x) len nip r q ts = true) (hn : xa_nx L xs (.putfield x) nip r q ts lv st h = some (ip', lv', st', h', k, z))
    (hl : lv_has ls (xa_mL M) (xa_lv b base lv)) (hM : xa_Mt D cl cs b base h H) (hS : va_S (xa_A base) s.heap H locs) (hcs : s.heap.size + cells ≤ base + h.length) (hc : cells + k ≤ R.cells) (hz : slots + z ≤ R.slots) (hro : xa_kind (.putfield x) r q = 4 → 1 ≤ R.frames ∧ 30 ≤ R.locals)
    (kk : ∀ (pc' : Nat) (ls' : Array Slot) (H' : Heap) (locs' : List Loc), xa_pc M ip' = pc' → lv_has ls' (xa_mL M) (xa_lv b base lv') → xa_Mt D cl cs b base h' H' → va_S (xa_A base) s.heap H' locs' →
      W p l e R s m args below meth c H' locs' (cells + k) (slots + z) Q (F0 m pc' ls' (st'.map (xa_rv b base)))) :
    W p l e R s m args below meth c H locs cells slots Q (F0 m pc ls (st.map (xa_rv b base))) := by
  obtain ⟨hx, hb, hml, hown, hts, hK, hX, hbb, hbs, hlk, hrt, hnm, hxt⟩ := F
  have htk : ∀ w ∈ Tk, w.before args s = true := fun w hw => hts w (hsub w hw)
  have hD := xa_W_D cs b base h
  have hA : ∀ q, s.heap.size ≤ q → xa_A base q := fun q hq => Nat.le_trans hbs hq
  have hbA : ¬ xa_A base b := Nat.not_le.mpr hbb
  have hbl : b < s.heap.size := Nat.lt_of_lt_of_le hbb hbs
  unfold xa_ck at hck
  rw [Bool.and_eq_true, decide_eq_true_eq] at hck
  obtain ⟨hd, hck⟩ := hck
  simp only [Bool.and_eq_true, decide_eq_true_eq] at hck
  obtain ⟨rfl, hp, hv⟩ := hck
  obtain ⟨v, st, rfl, hn⟩ := xa_pv_some hn
  obtain ⟨a, st, rfl, hn⟩ := xa_pr_some hn
  obtain ⟨j, fs, rfl, hj, hn⟩ := xa_ob_some hn
  obtain ⟨hf, hn⟩ := xa_if_some hn
  obtain ⟨rfl, rfl, rfl, rfl, rfl, rfl⟩ := xa_go_some hn
  unfold xa_ckF at hv
  split at hv
  · rename_i C T N hcl
    simp only [Bool.and_eq_true, decide_eq_true_eq] at hv hf
    obtain ⟨hq, hlk, hty, hfin⟩ := hv
    obtain ⟨hfit, hqf⟩ := hf
    obtain ⟨c1, c2, c3⟩ := xa_ckC_in hC hcl
    have hnf := xa_fits (b := b) (base := base) (c2 q hq) hty hfit
    have key : ∀ (H1 : Heap) (locs1 : List Loc), va_P D cl ((xa_W cs b base h).set j (base + j, .inr (r, (fs.map (xa_rv b base)).set q (xa_rv b base v)))) H1 → va_D (xa_A base) ((xa_W cs b base h).set j (base + j, .inr (r, (fs.map (xa_rv b base)).set q (xa_rv b base v)))) → va_S (xa_A base) H H1 locs1 → W p l e R s m args below meth c H1 locs1 cells slots Q (F0 m (pc + 3) ls (st.map (xa_rv b base))) := fun H1 locs1 hP1 _ hS1 => kk _ ls H1 locs1 hp hl (hM.set (by rw [show xa_re cs b base (.inr (r, fs.set q v)) = .inr (r, (fs.map (xa_rv b base)).set q (xa_rv b base v)) by simp [xa_re, List.map_set]]; exact hP1) hS1.1) (xa_S.two hS hS1)
    cases hfl : (T q).2.2.2 with
    | false => exact va_put hx hb hts c1 _ c2 c3 hown hK hM.2 hD (xa_S.now hS) j (xa_W_at hj) hcl q hq (htk _ hlk) (fun _ hh => hh) hfl (c2 q hq) hnf.1 hnf.2 (by rw [List.length_map]; exact hqf) hd key
    | true =>
      rw [hfl] at hfin
      simp only [Bool.not_true, Bool.false_or, Bool.and_eq_true, decide_eq_true_eq] at hfin
      exact va_putF hx hb hts c1 _ c2 c3 hown hK hM.2 hD (xa_S.now hS) j (xa_W_at hj) hcl q hq (htk _ hlk) (fun _ hh => hh) hfl (hnm.trans hfin.1) hfin.2 (c2 q hq) hnf.1 hnf.2 (by rw [List.length_map]; exact hqf) hd key
  · cases hv
set_option maxHeartbeats 1000000 in
theorem xs_arraylength {len nip r q : Nat} {ts : List Nat} {lv lv' : List (Nat × Value)} {st st' : List Value} {h h' : List va_E} {ip' k z : Nat} (hC : xa_ckC cl Ts = true)
    (F : xa_Fr D cl Ts cs b base L xs M p s m args meth c) {Tk : List Jvm.Cond} (hsub : ∀ w ∈ Tk, w ∈ Ts) (hck : xa_ck cl Tk M pc .arraylength len nip r q ts = true) (hn : xa_nx L xs .arraylength nip r q ts lv st h = some (ip', lv', st', h', k, z))
    (hl : lv_has ls (xa_mL M) (xa_lv b base lv)) (hM : xa_Mt D cl cs b base h H) (hS : va_S (xa_A base) s.heap H locs) (hcs : s.heap.size + cells ≤ base + h.length) (hc : cells + k ≤ R.cells) (hz : slots + z ≤ R.slots) (hro : xa_kind .arraylength r q = 4 → 1 ≤ R.frames ∧ 30 ≤ R.locals)
    (kk : ∀ (pc' : Nat) (ls' : Array Slot) (H' : Heap) (locs' : List Loc), xa_pc M ip' = pc' → lv_has ls' (xa_mL M) (xa_lv b base lv') → xa_Mt D cl cs b base h' H' → va_S (xa_A base) s.heap H' locs' →
      W p l e R s m args below meth c H' locs' (cells + k) (slots + z) Q (F0 m pc' ls' (st'.map (xa_rv b base)))) :
    W p l e R s m args below meth c H locs cells slots Q (F0 m pc ls (st.map (xa_rv b base))) := by
  obtain ⟨hx, hb, hml, hown, hts, hK, hX, hbb, hbs, hlk, hrt, hnm, hxt⟩ := F
  have htk : ∀ w ∈ Tk, w.before args s = true := fun w hw => hts w (hsub w hw)
  have hD := xa_W_D cs b base h
  have hA : ∀ q, s.heap.size ≤ q → xa_A base q := fun q hq => Nat.le_trans hbs hq
  have hbA : ¬ xa_A base b := Nat.not_le.mpr hbb
  have hbl : b < s.heap.size := Nat.lt_of_lt_of_le hbb hbs
  unfold xa_ck at hck
  rw [Bool.and_eq_true, decide_eq_true_eq] at hck
  obtain ⟨hd, hck⟩ := hck
  simp only [Bool.and_eq_true, decide_eq_true_eq] at hck
  obtain ⟨rfl, hp⟩ := hck
  obtain ⟨a, st, rfl, hn1⟩ := xa_pr_some hn
  rcases xa_ln_some hn1 with ⟨rfl, hn⟩ | ⟨j, t, n, y, rfl, hj, hn⟩
  · obtain ⟨rfl, rfl, rfl, rfl, rfl, rfl⟩ := xa_go_some hn
    refine va_slen hx hb hX hbl hbA hS hd ?_
    exact kk _ ls H locs hp hl hM hS
  · obtain ⟨rfl, rfl, rfl, rfl, rfl, rfl⟩ := xa_go_some hn
    obtain ⟨t0, ty, ht0⟩ := xa_tys_at cs t
    refine va_alen hx hb hK hM.2 j t0 (xa_W_at hj) ht0 rfl hd ?_
    exact kk _ ls H locs hp hl hM hS
set_option maxHeartbeats 1000000 in
theorem xs_iaload {len nip r q : Nat} {ts : List Nat} {lv lv' : List (Nat × Value)} {st st' : List Value} {h h' : List va_E} {ip' k z : Nat} (hC : xa_ckC cl Ts = true)
    (F : xa_Fr D cl Ts cs b base L xs M p s m args meth c) {Tk : List Jvm.Cond} (hsub : ∀ w ∈ Tk, w ∈ Ts) (hck : xa_ck cl Tk M pc .iaload len nip r q ts = true) (hn : xa_nx L xs .iaload nip r q ts lv st h = some (ip', lv', st', h', k, z))
    (hl : lv_has ls (xa_mL M) (xa_lv b base lv)) (hM : xa_Mt D cl cs b base h H) (hS : va_S (xa_A base) s.heap H locs) (hcs : s.heap.size + cells ≤ base + h.length) (hc : cells + k ≤ R.cells) (hz : slots + z ≤ R.slots) (hro : xa_kind .iaload r q = 4 → 1 ≤ R.frames ∧ 30 ≤ R.locals)
    (kk : ∀ (pc' : Nat) (ls' : Array Slot) (H' : Heap) (locs' : List Loc), xa_pc M ip' = pc' → lv_has ls' (xa_mL M) (xa_lv b base lv') → xa_Mt D cl cs b base h' H' → va_S (xa_A base) s.heap H' locs' →
      W p l e R s m args below meth c H' locs' (cells + k) (slots + z) Q (F0 m pc' ls' (st'.map (xa_rv b base)))) :
    W p l e R s m args below meth c H locs cells slots Q (F0 m pc ls (st.map (xa_rv b base))) := by
  obtain ⟨hx, hb, hml, hown, hts, hK, hX, hbb, hbs, hlk, hrt, hnm, hxt⟩ := F
  have htk : ∀ w ∈ Tk, w.before args s = true := fun w hw => hts w (hsub w hw)
  have hD := xa_W_D cs b base h
  have hA : ∀ q, s.heap.size ≤ q → xa_A base q := fun q hq => Nat.le_trans hbs hq
  have hbA : ¬ xa_A base b := Nat.not_le.mpr hbb
  have hbl : b < s.heap.size := Nat.lt_of_lt_of_le hbb hbs
  unfold xa_ck at hck
  rw [Bool.and_eq_true, decide_eq_true_eq] at hck
  obtain ⟨hd, hck⟩ := hck
  simp only [Bool.and_eq_true, decide_eq_true_eq] at hck
  obtain ⟨rfl, hp⟩ := hck
  obtain ⟨i, st, rfl, hn1⟩ := xa_pi_some hn
  obtain ⟨a, st, rfl, hn2⟩ := xa_pr_some hn1
  rcases xa_is_some hn2 with ⟨rfl, hn⟩ | ⟨j, n, f, rfl, hj, hn⟩
  · obtain ⟨hi, hn⟩ := xa_if_some hn
    obtain ⟨rfl, rfl, rfl, rfl, rfl, rfl⟩ := xa_go_some hn
    refine va_sld hx hb hX hbl hbA hS (xa_inB_vp hi) hd ?_
    exact kk _ ls H locs hp hl hM hS
  · obtain ⟨hi, hn⟩ := xa_if_some hn
    obtain ⟨rfl, rfl, rfl, rfl, rfl, rfl⟩ := xa_go_some hn
    refine va_iald hx hb hK hM.2 j 0 (xa_W_at hj) rfl (xa_inB_vp hi) hd ?_
    exact kk _ ls H locs hp hl hM hS
set_option maxHeartbeats 1000000 in
theorem xs_baload {len nip r q : Nat} {ts : List Nat} {lv lv' : List (Nat × Value)} {st st' : List Value} {h h' : List va_E} {ip' k z : Nat} (hC : xa_ckC cl Ts = true)
    (F : xa_Fr D cl Ts cs b base L xs M p s m args meth c) {Tk : List Jvm.Cond} (hsub : ∀ w ∈ Tk, w ∈ Ts) (hck : xa_ck cl Tk M pc .baload len nip r q ts = true) (hn : xa_nx L xs .baload nip r q ts lv st h = some (ip', lv', st', h', k, z))
    (hl : lv_has ls (xa_mL M) (xa_lv b base lv)) (hM : xa_Mt D cl cs b base h H) (hS : va_S (xa_A base) s.heap H locs) (hcs : s.heap.size + cells ≤ base + h.length) (hc : cells + k ≤ R.cells) (hz : slots + z ≤ R.slots) (hro : xa_kind .baload r q = 4 → 1 ≤ R.frames ∧ 30 ≤ R.locals)
    (kk : ∀ (pc' : Nat) (ls' : Array Slot) (H' : Heap) (locs' : List Loc), xa_pc M ip' = pc' → lv_has ls' (xa_mL M) (xa_lv b base lv') → xa_Mt D cl cs b base h' H' → va_S (xa_A base) s.heap H' locs' →
      W p l e R s m args below meth c H' locs' (cells + k) (slots + z) Q (F0 m pc' ls' (st'.map (xa_rv b base)))) :
    W p l e R s m args below meth c H locs cells slots Q (F0 m pc ls (st.map (xa_rv b base))) := by
  obtain ⟨hx, hb, hml, hown, hts, hK, hX, hbb, hbs, hlk, hrt, hnm, hxt⟩ := F
  have htk : ∀ w ∈ Tk, w.before args s = true := fun w hw => hts w (hsub w hw)
  have hD := xa_W_D cs b base h
  have hA : ∀ q, s.heap.size ≤ q → xa_A base q := fun q hq => Nat.le_trans hbs hq
  have hbA : ¬ xa_A base b := Nat.not_le.mpr hbb
  have hbl : b < s.heap.size := Nat.lt_of_lt_of_le hbb hbs
  unfold xa_ck at hck
  rw [Bool.and_eq_true, decide_eq_true_eq] at hck
  obtain ⟨hd, hck⟩ := hck
  simp only [Bool.and_eq_true, decide_eq_true_eq] at hck
  obtain ⟨rfl, hp⟩ := hck
  obtain ⟨i, st, rfl, hn⟩ := xa_pi_some hn
  obtain ⟨a, st, rfl, hn⟩ := xa_pr_some hn
  obtain ⟨j, n, f, rfl, hj, hn⟩ := xa_ai_some hn
  obtain ⟨hi, hn⟩ := xa_if_some hn
  obtain ⟨rfl, rfl, rfl, rfl, rfl, rfl⟩ := xa_go_some hn
  refine va_zald hx hb hK hM.2 j 1 (xa_W_at hj) rfl (xa_inB_vp hi) hd ?_
  exact kk _ ls H locs hp hl hM hS
set_option maxHeartbeats 1000000 in
theorem xs_laload {len nip r q : Nat} {ts : List Nat} {lv lv' : List (Nat × Value)} {st st' : List Value} {h h' : List va_E} {ip' k z : Nat} (hC : xa_ckC cl Ts = true)
    (F : xa_Fr D cl Ts cs b base L xs M p s m args meth c) {Tk : List Jvm.Cond} (hsub : ∀ w ∈ Tk, w ∈ Ts) (hck : xa_ck cl Tk M pc .laload len nip r q ts = true) (hn : xa_nx L xs .laload nip r q ts lv st h = some (ip', lv', st', h', k, z))
    (hl : lv_has ls (xa_mL M) (xa_lv b base lv)) (hM : xa_Mt D cl cs b base h H) (hS : va_S (xa_A base) s.heap H locs) (hcs : s.heap.size + cells ≤ base + h.length) (hc : cells + k ≤ R.cells) (hz : slots + z ≤ R.slots) (hro : xa_kind .laload r q = 4 → 1 ≤ R.frames ∧ 30 ≤ R.locals)
    (kk : ∀ (pc' : Nat) (ls' : Array Slot) (H' : Heap) (locs' : List Loc), xa_pc M ip' = pc' → lv_has ls' (xa_mL M) (xa_lv b base lv') → xa_Mt D cl cs b base h' H' → va_S (xa_A base) s.heap H' locs' →
      W p l e R s m args below meth c H' locs' (cells + k) (slots + z) Q (F0 m pc' ls' (st'.map (xa_rv b base)))) :
    W p l e R s m args below meth c H locs cells slots Q (F0 m pc ls (st.map (xa_rv b base))) := by
  obtain ⟨hx, hb, hml, hown, hts, hK, hX, hbb, hbs, hlk, hrt, hnm, hxt⟩ := F
  have htk : ∀ w ∈ Tk, w.before args s = true := fun w hw => hts w (hsub w hw)
  have hD := xa_W_D cs b base h
  have hA : ∀ q, s.heap.size ≤ q → xa_A base q := fun q hq => Nat.le_trans hbs hq
  have hbA : ¬ xa_A base b := Nat.not_le.mpr hbb
  have hbl : b < s.heap.size := Nat.lt_of_lt_of_le hbb hbs
  unfold xa_ck at hck
  rw [Bool.and_eq_true, decide_eq_true_eq] at hck
  obtain ⟨hd, hck⟩ := hck
  simp only [Bool.and_eq_true, decide_eq_true_eq] at hck
  obtain ⟨rfl, hp⟩ := hck
  obtain ⟨i, st, rfl, hn⟩ := xa_pi_some hn
  obtain ⟨a, st, rfl, hn⟩ := xa_pr_some hn
  obtain ⟨j, n, f, rfl, hj, hn⟩ := xa_al_some hn
  obtain ⟨hi, hn⟩ := xa_if_some hn
  obtain ⟨rfl, rfl, rfl, rfl, rfl, rfl⟩ := xa_go_some hn
  refine va_lald hx hb hK hM.2 j 2 (xa_W_at hj) rfl (xa_inB_vp hi) hd ?_
  exact kk _ ls H locs hp hl hM hS
set_option maxHeartbeats 1000000 in
theorem xs_iastore {len nip r q : Nat} {ts : List Nat} {lv lv' : List (Nat × Value)} {st st' : List Value} {h h' : List va_E} {ip' k z : Nat} (hC : xa_ckC cl Ts = true)
    (F : xa_Fr D cl Ts cs b base L xs M p s m args meth c) {Tk : List Jvm.Cond} (hsub : ∀ w ∈ Tk, w ∈ Ts) (hck : xa_ck cl Tk M pc .iastore len nip r q ts = true) (hn : xa_nx L xs .iastore nip r q ts lv st h = some (ip', lv', st', h', k, z))
    (hl : lv_has ls (xa_mL M) (xa_lv b base lv)) (hM : xa_Mt D cl cs b base h H) (hS : va_S (xa_A base) s.heap H locs) (hcs : s.heap.size + cells ≤ base + h.length) (hc : cells + k ≤ R.cells) (hz : slots + z ≤ R.slots) (hro : xa_kind .iastore r q = 4 → 1 ≤ R.frames ∧ 30 ≤ R.locals)
    (kk : ∀ (pc' : Nat) (ls' : Array Slot) (H' : Heap) (locs' : List Loc), xa_pc M ip' = pc' → lv_has ls' (xa_mL M) (xa_lv b base lv') → xa_Mt D cl cs b base h' H' → va_S (xa_A base) s.heap H' locs' →
      W p l e R s m args below meth c H' locs' (cells + k) (slots + z) Q (F0 m pc' ls' (st'.map (xa_rv b base)))) :
    W p l e R s m args below meth c H locs cells slots Q (F0 m pc ls (st.map (xa_rv b base))) := by
  obtain ⟨hx, hb, hml, hown, hts, hK, hX, hbb, hbs, hlk, hrt, hnm, hxt⟩ := F
  have htk : ∀ w ∈ Tk, w.before args s = true := fun w hw => hts w (hsub w hw)
  have hD := xa_W_D cs b base h
  have hA : ∀ q, s.heap.size ≤ q → xa_A base q := fun q hq => Nat.le_trans hbs hq
  have hbA : ¬ xa_A base b := Nat.not_le.mpr hbb
  have hbl : b < s.heap.size := Nat.lt_of_lt_of_le hbb hbs
  unfold xa_ck at hck
  rw [Bool.and_eq_true, decide_eq_true_eq] at hck
  obtain ⟨hd, hck⟩ := hck
  simp only [Bool.and_eq_true, decide_eq_true_eq] at hck
  obtain ⟨rfl, hp⟩ := hck
  obtain ⟨x, st, rfl, hn⟩ := xa_pi_some hn
  obtain ⟨i, st, rfl, hn⟩ := xa_pi_some hn
  obtain ⟨a, st, rfl, hn⟩ := xa_pr_some hn
  obtain ⟨j, n, f, rfl, hj, hn⟩ := xa_ai_some hn
  obtain ⟨hi, hn⟩ := xa_if_some hn
  obtain ⟨rfl, rfl, rfl, rfl, rfl, rfl⟩ := xa_go_some hn
  refine va_iast hx hb hK hM.2 hD (xa_S.now hS) j 0 (xa_W_at hj) rfl (xa_inB_vp hi) hd (fun H1 locs1 hP1 _ hS1 => ?_)
  exact kk _ ls H1 locs1 hp hl (hM.set hP1 hS1.1) (xa_S.two hS hS1)
set_option maxHeartbeats 1000000 in
theorem xs_bastore {len nip r q : Nat} {ts : List Nat} {lv lv' : List (Nat × Value)} {st st' : List Value} {h h' : List va_E} {ip' k z : Nat} (hC : xa_ckC cl Ts = true)
    (F : xa_Fr D cl Ts cs b base L xs M p s m args meth c) {Tk : List Jvm.Cond} (hsub : ∀ w ∈ Tk, w ∈ Ts) (hck : xa_ck cl Tk M pc .bastore len nip r q ts = true) (hn : xa_nx L xs .bastore nip r q ts lv st h = some (ip', lv', st', h', k, z))
    (hl : lv_has ls (xa_mL M) (xa_lv b base lv)) (hM : xa_Mt D cl cs b base h H) (hS : va_S (xa_A base) s.heap H locs) (hcs : s.heap.size + cells ≤ base + h.length) (hc : cells + k ≤ R.cells) (hz : slots + z ≤ R.slots) (hro : xa_kind .bastore r q = 4 → 1 ≤ R.frames ∧ 30 ≤ R.locals)
    (kk : ∀ (pc' : Nat) (ls' : Array Slot) (H' : Heap) (locs' : List Loc), xa_pc M ip' = pc' → lv_has ls' (xa_mL M) (xa_lv b base lv') → xa_Mt D cl cs b base h' H' → va_S (xa_A base) s.heap H' locs' →
      W p l e R s m args below meth c H' locs' (cells + k) (slots + z) Q (F0 m pc' ls' (st'.map (xa_rv b base)))) :
    W p l e R s m args below meth c H locs cells slots Q (F0 m pc ls (st.map (xa_rv b base))) := by
  obtain ⟨hx, hb, hml, hown, hts, hK, hX, hbb, hbs, hlk, hrt, hnm, hxt⟩ := F
  have htk : ∀ w ∈ Tk, w.before args s = true := fun w hw => hts w (hsub w hw)
  have hD := xa_W_D cs b base h
  have hA : ∀ q, s.heap.size ≤ q → xa_A base q := fun q hq => Nat.le_trans hbs hq
  have hbA : ¬ xa_A base b := Nat.not_le.mpr hbb
  have hbl : b < s.heap.size := Nat.lt_of_lt_of_le hbb hbs
  unfold xa_ck at hck
  rw [Bool.and_eq_true, decide_eq_true_eq] at hck
  obtain ⟨hd, hck⟩ := hck
  simp only [Bool.and_eq_true, decide_eq_true_eq] at hck
  obtain ⟨rfl, hp⟩ := hck
  obtain ⟨x, st, rfl, hn⟩ := xa_pi_some hn
  obtain ⟨i, st, rfl, hn⟩ := xa_pi_some hn
  obtain ⟨a, st, rfl, hn⟩ := xa_pr_some hn
  obtain ⟨j, n, f, rfl, hj, hn⟩ := xa_ai_some hn
  obtain ⟨hi, hn⟩ := xa_if_some hn
  obtain ⟨rfl, rfl, rfl, rfl, rfl, rfl⟩ := xa_go_some hn
  refine va_zast hx hb hK hM.2 hD (xa_S.now hS) j 1 (xa_W_at hj) rfl (xa_inB_vp hi) hd (fun H1 locs1 hP1 _ hS1 => ?_)
  exact kk _ ls H1 locs1 hp hl (hM.set hP1 hS1.1) (xa_S.two hS hS1)
set_option maxHeartbeats 1000000 in
theorem xs_lastore {len nip r q : Nat} {ts : List Nat} {lv lv' : List (Nat × Value)} {st st' : List Value} {h h' : List va_E} {ip' k z : Nat} (hC : xa_ckC cl Ts = true)
    (F : xa_Fr D cl Ts cs b base L xs M p s m args meth c) {Tk : List Jvm.Cond} (hsub : ∀ w ∈ Tk, w ∈ Ts) (hck : xa_ck cl Tk M pc .lastore len nip r q ts = true) (hn : xa_nx L xs .lastore nip r q ts lv st h = some (ip', lv', st', h', k, z))
    (hl : lv_has ls (xa_mL M) (xa_lv b base lv)) (hM : xa_Mt D cl cs b base h H) (hS : va_S (xa_A base) s.heap H locs) (hcs : s.heap.size + cells ≤ base + h.length) (hc : cells + k ≤ R.cells) (hz : slots + z ≤ R.slots) (hro : xa_kind .lastore r q = 4 → 1 ≤ R.frames ∧ 30 ≤ R.locals)
    (kk : ∀ (pc' : Nat) (ls' : Array Slot) (H' : Heap) (locs' : List Loc), xa_pc M ip' = pc' → lv_has ls' (xa_mL M) (xa_lv b base lv') → xa_Mt D cl cs b base h' H' → va_S (xa_A base) s.heap H' locs' →
      W p l e R s m args below meth c H' locs' (cells + k) (slots + z) Q (F0 m pc' ls' (st'.map (xa_rv b base)))) :
    W p l e R s m args below meth c H locs cells slots Q (F0 m pc ls (st.map (xa_rv b base))) := by
  obtain ⟨hx, hb, hml, hown, hts, hK, hX, hbb, hbs, hlk, hrt, hnm, hxt⟩ := F
  have htk : ∀ w ∈ Tk, w.before args s = true := fun w hw => hts w (hsub w hw)
  have hD := xa_W_D cs b base h
  have hA : ∀ q, s.heap.size ≤ q → xa_A base q := fun q hq => Nat.le_trans hbs hq
  have hbA : ¬ xa_A base b := Nat.not_le.mpr hbb
  have hbl : b < s.heap.size := Nat.lt_of_lt_of_le hbb hbs
  unfold xa_ck at hck
  rw [Bool.and_eq_true, decide_eq_true_eq] at hck
  obtain ⟨hd, hck⟩ := hck
  simp only [Bool.and_eq_true, decide_eq_true_eq] at hck
  obtain ⟨rfl, hp⟩ := hck
  obtain ⟨x, st, rfl, hn⟩ := xa_pl_some hn
  obtain ⟨i, st, rfl, hn⟩ := xa_pi_some hn
  obtain ⟨a, st, rfl, hn⟩ := xa_pr_some hn
  obtain ⟨j, n, f, rfl, hj, hn⟩ := xa_al_some hn
  obtain ⟨hi, hn⟩ := xa_if_some hn
  obtain ⟨rfl, rfl, rfl, rfl, rfl, rfl⟩ := xa_go_some hn
  refine va_last hx hb hK hM.2 hD (xa_S.now hS) j 2 (xa_W_at hj) rfl (xa_inB_vp hi) hd (fun H1 locs1 hP1 _ hS1 => ?_)
  exact kk _ ls H1 locs1 hp hl (hM.set hP1 hS1.1) (xa_S.two hS hS1)
set_option maxHeartbeats 1000000 in
theorem xs_tableswitch {df : Int} {lo : Int} {hi : Int} {offs : Array Int} {len nip r q : Nat} {ts : List Nat} {lv lv' : List (Nat × Value)} {st st' : List Value} {h h' : List va_E} {ip' k z : Nat} (hC : xa_ckC cl Ts = true)
    (F : xa_Fr D cl Ts cs b base L xs M p s m args meth c) {Tk : List Jvm.Cond} (hsub : ∀ w ∈ Tk, w ∈ Ts) (hck : xa_ck cl Tk M pc (.tableswitch df lo hi offs) len nip r q ts = true) (hn : xa_nx L xs (.tableswitch df lo hi offs) nip r q ts lv st h = some (ip', lv', st', h', k, z))
    (hl : lv_has ls (xa_mL M) (xa_lv b base lv)) (hM : xa_Mt D cl cs b base h H) (hS : va_S (xa_A base) s.heap H locs) (hcs : s.heap.size + cells ≤ base + h.length) (hc : cells + k ≤ R.cells) (hz : slots + z ≤ R.slots) (hro : xa_kind (.tableswitch df lo hi offs) r q = 4 → 1 ≤ R.frames ∧ 30 ≤ R.locals)
    (kk : ∀ (pc' : Nat) (ls' : Array Slot) (H' : Heap) (locs' : List Loc), xa_pc M ip' = pc' → lv_has ls' (xa_mL M) (xa_lv b base lv') → xa_Mt D cl cs b base h' H' → va_S (xa_A base) s.heap H' locs' →
      W p l e R s m args below meth c H' locs' (cells + k) (slots + z) Q (F0 m pc' ls' (st'.map (xa_rv b base)))) :
    W p l e R s m args below meth c H locs cells slots Q (F0 m pc ls (st.map (xa_rv b base))) := by
  obtain ⟨hx, hb, hml, hown, hts, hK, hX, hbb, hbs, hlk, hrt, hnm, hxt⟩ := F
  have htk : ∀ w ∈ Tk, w.before args s = true := fun w hw => hts w (hsub w hw)
  have hD := xa_W_D cs b base h
  have hA : ∀ q, s.heap.size ≤ q → xa_A base q := fun q hq => Nat.le_trans hbs hq
  have hbA : ¬ xa_A base b := Nat.not_le.mpr hbb
  have hbl : b < s.heap.size := Nat.lt_of_lt_of_le hbb hbs
  unfold xa_ck at hck
  rw [Bool.and_eq_true, decide_eq_true_eq] at hck
  obtain ⟨hd, hck⟩ := hck
  simp only [Bool.and_eq_true, decide_eq_true_eq] at hck
  obtain ⟨rfl, rfl, hq, hrq, hdf, hall⟩ := hck
  obtain ⟨x, st, rfl, hn⟩ := xa_pi_some hn
  obtain ⟨rfl, rfl, rfl, rfl, rfl, rfl⟩ := xa_go_some hn
  by_cases hin : x < xa_con r 0 ∨ xa_con q 0 < x
  · refine lv_tableOut hx hb hd (xa_sw_out (by omega) (by omega) hin) hdf ?_
    refine kk _ ls H locs ?_ hl hM hS
    rw [show (decide (x < xa_con r 0) || decide (xa_con q 0 < x)) = true by simpa using hin]; rfl
  · obtain ⟨g1, g2, g3, g4⟩ := xa_sw_in (r := r) (q := q) (x := x) (by omega) (by omega) hin
    have h1 := List.all_eq_true.mp hall _ (List.mem_range.mpr g4)
    split at h1
    · rename_i off hoff
      refine lv_tableIn hx hb hd g1 g2 (by rw [g3]; exact hoff) (of_decide_eq_true h1) ?_
      refine kk _ ls H locs ?_ hl hM hS
      rw [show (decide (x < xa_con r 0) || decide (xa_con q 0 < x)) = false by simpa using hin]; rfl
    · cases h1
set_option maxHeartbeats 1000000 in
theorem xs_new {x : Nat} {len nip r q : Nat} {ts : List Nat} {lv lv' : List (Nat × Value)} {st st' : List Value} {h h' : List va_E} {ip' k z : Nat} (hC : xa_ckC cl Ts = true)
    (F : xa_Fr D cl Ts cs b base L xs M p s m args meth c) {Tk : List Jvm.Cond} (hsub : ∀ w ∈ Tk, w ∈ Ts) (hck : xa_ck cl Tk M pc (.new x) len nip r q ts = true) (hn : xa_nx L xs (.new x) nip r q ts lv st h = some (ip', lv', st', h', k, z))
    (hl : lv_has ls (xa_mL M) (xa_lv b base lv)) (hM : xa_Mt D cl cs b base h H) (hS : va_S (xa_A base) s.heap H locs) (hcs : s.heap.size + cells ≤ base + h.length) (hc : cells + k ≤ R.cells) (hz : slots + z ≤ R.slots) (hro : xa_kind (.new x) r q = 4 → 1 ≤ R.frames ∧ 30 ≤ R.locals)
    (kk : ∀ (pc' : Nat) (ls' : Array Slot) (H' : Heap) (locs' : List Loc), xa_pc M ip' = pc' → lv_has ls' (xa_mL M) (xa_lv b base lv') → xa_Mt D cl cs b base h' H' → va_S (xa_A base) s.heap H' locs' →
      W p l e R s m args below meth c H' locs' (cells + k) (slots + z) Q (F0 m pc' ls' (st'.map (xa_rv b base)))) :
    W p l e R s m args below meth c H locs cells slots Q (F0 m pc ls (st.map (xa_rv b base))) := by
  obtain ⟨hx, hb, hml, hown, hts, hK, hX, hbb, hbs, hlk, hrt, hnm, hxt⟩ := F
  have htk : ∀ w ∈ Tk, w.before args s = true := fun w hw => hts w (hsub w hw)
  have hD := xa_W_D cs b base h
  have hA : ∀ q, s.heap.size ≤ q → xa_A base q := fun q hq => Nat.le_trans hbs hq
  have hbA : ¬ xa_A base b := Nat.not_le.mpr hbb
  have hbl : b < s.heap.size := Nat.lt_of_lt_of_le hbb hbs
  unfold xa_ck at hck
  rw [Bool.and_eq_true, decide_eq_true_eq] at hck
  obtain ⟨hd, hck⟩ := hck
  rw [Bool.and_eq_true, Bool.and_eq_true, decide_eq_true_eq, decide_eq_true_eq] at hck
  obtain ⟨rfl, hp, hv⟩ := hck
  cases hn
  split at hv
  · rename_i C T N hcl
    simp only [Bool.and_eq_true, decide_eq_true_eq] at hv
    obtain ⟨rfl, v1, v2, v3, v4⟩ := hv
    obtain ⟨c1, c2, c3⟩ := xa_ckC_in hC hcl
    have hKn := hK.1 r _ hcl
    have K : H.size = base + h.length → W p l e R s m args below meth c H locs cells slots Q (F0 m pc ls (st.map (xa_rv b base))) := by
      intro hsz
      refine W.newcK (g := F0 m pc ls (st.map (xa_rv b base))) hx hb hown (htk _ v1) (htk _ v2) (htk _ v3) rfl hd hc hz hKn.2.1 hsz (fun H1 kC hkC e1 z1 o1 => ?_)
      refine kk (pc + 3) ls H1 locs hp hl (hM.push z1 (fun q hq => o1 q (by omega)) ⟨_, hcl, (u_born _ hts c1 hKn hkC e1 c2).to (fun k hk => ?_)⟩) (xa_S.push hS (by omega) (fun q hq => o1 q (by omega)))
      have h1 := List.all_eq_true.mp v4 k (List.mem_range.mpr hk)
      simp only [Bool.and_eq_true, decide_eq_true_eq] at h1
      exact xa_dflt_ok (c2 k hk) h1.1 h1.2 hk
    exact fun TT hT X => K (by have h1 := X.heapSize; rw [hT] at h1; have h2 := hM.1; omega) TT hT X
  · cases hv
set_option maxHeartbeats 1000000 in
theorem xs_newarray {t : Jvm.ClassFile.ArrayType} {len nip r q : Nat} {ts : List Nat} {lv lv' : List (Nat × Value)} {st st' : List Value} {h h' : List va_E} {ip' k z : Nat} (hC : xa_ckC cl Ts = true)
    (F : xa_Fr D cl Ts cs b base L xs M p s m args meth c) {Tk : List Jvm.Cond} (hsub : ∀ w ∈ Tk, w ∈ Ts) (hck : xa_ck cl Tk M pc (.newarray t) len nip r q ts = true) (hn : xa_nx L xs (.newarray t) nip r q ts lv st h = some (ip', lv', st', h', k, z))
    (hl : lv_has ls (xa_mL M) (xa_lv b base lv)) (hM : xa_Mt D cl cs b base h H) (hS : va_S (xa_A base) s.heap H locs) (hcs : s.heap.size + cells ≤ base + h.length) (hc : cells + k ≤ R.cells) (hz : slots + z ≤ R.slots) (hro : xa_kind (.newarray t) r q = 4 → 1 ≤ R.frames ∧ 30 ≤ R.locals)
    (kk : ∀ (pc' : Nat) (ls' : Array Slot) (H' : Heap) (locs' : List Loc), xa_pc M ip' = pc' → lv_has ls' (xa_mL M) (xa_lv b base lv') → xa_Mt D cl cs b base h' H' → va_S (xa_A base) s.heap H' locs' →
      W p l e R s m args below meth c H' locs' (cells + k) (slots + z) Q (F0 m pc' ls' (st'.map (xa_rv b base)))) :
    W p l e R s m args below meth c H locs cells slots Q (F0 m pc ls (st.map (xa_rv b base))) := by
  obtain ⟨hx, hb, hml, hown, hts, hK, hX, hbb, hbs, hlk, hrt, hnm, hxt⟩ := F
  have htk : ∀ w ∈ Tk, w.before args s = true := fun w hw => hts w (hsub w hw)
  have hD := xa_W_D cs b base h
  have hA : ∀ q, s.heap.size ≤ q → xa_A base q := fun q hq => Nat.le_trans hbs hq
  have hbA : ¬ xa_A base b := Nat.not_le.mpr hbb
  have hbl : b < s.heap.size := Nat.lt_of_lt_of_le hbb hbs
  unfold xa_ck at hck
  rw [Bool.and_eq_true, decide_eq_true_eq] at hck
  obtain ⟨hd, hck⟩ := hck
  simp only [Bool.and_eq_true, decide_eq_true_eq] at hck
  obtain ⟨rfl, hp, hta, hr3, hw⟩ := hck
  obtain ⟨n, st, rfl, hn⟩ := xa_pi_some hn
  obtain ⟨hi, hn⟩ := xa_if_some hn
  simp only [Bool.and_eq_true, Bool.not_eq_true', decide_eq_false_iff_not, decide_eq_true_eq] at hi
  cases hn
  have K : H.size = base + h.length → W p l e R s m args below meth c H locs cells slots Q (F0 m pc ls ((.int n :: st).map (xa_rv b base))) := by
    intro hsz
    cases t
    case int =>
      subst hta
      refine va_newaK (g := F0 m pc ls (.int n :: st.map (xa_rv b base))) hx hb (htk _ hw) rfl hd rfl hi.1 rfl (by show _ * 4 ≤ _; omega) hc hz hsz (fun H1 cA e1 z1 o1 _ hNm => ?_)
      have hcA : cA = cs.1 := Option.some.inj (hNm.symm.trans (hK.2 0 _ rfl).2)
      subst hcA
      exact kk (pc + 2) ls H1 locs hp hl (hM.push z1 (fun q hq => o1 q (by omega)) e1) (xa_S.push hS (by omega) (fun q hq => o1 q (by omega)))
    case boolean =>
      subst hta
      refine va_newaK (g := F0 m pc ls (.int n :: st.map (xa_rv b base))) hx hb (htk _ hw) rfl hd rfl hi.1 rfl (by show _ * 1 ≤ _; omega) hc hz hsz (fun H1 cA e1 z1 o1 _ hNm => ?_)
      have hcA : cA = cs.2.1 := Option.some.inj (hNm.symm.trans (hK.2 1 _ rfl).2)
      subst hcA
      exact kk (pc + 2) ls H1 locs hp hl (hM.push z1 (fun q hq => o1 q (by omega)) e1) (xa_S.push hS (by omega) (fun q hq => o1 q (by omega)))
    case long =>
      subst hta
      refine va_newaK (g := F0 m pc ls (.int n :: st.map (xa_rv b base))) hx hb (htk _ hw) rfl hd rfl hi.1 rfl (by show _ * 8 ≤ _; omega) hc hz hsz (fun H1 cA e1 z1 o1 _ hNm => ?_)
      have hcA : cA = cs.2.2 := Option.some.inj (hNm.symm.trans (hK.2 2 _ rfl).2)
      subst hcA
      exact kk (pc + 2) ls H1 locs hp hl (hM.push z1 (fun q hq => o1 q (by omega)) e1) (xa_S.push hS (by omega) (fun q hq => o1 q (by omega)))
    all_goals (exfalso; simp only [xa_ta] at hta; omega)
  exact fun TT hT X => K (by have h1 := X.heapSize; rw [hT] at h1; have h2 := hM.1; omega) TT hT X
set_option maxHeartbeats 1000000 in
theorem xs_invokespecial {x : Nat} {len nip r q : Nat} {ts : List Nat} {lv lv' : List (Nat × Value)} {st st' : List Value} {h h' : List va_E} {ip' k z : Nat} (hC : xa_ckC cl Ts = true)
    (F : xa_Fr D cl Ts cs b base L xs M p s m args meth c) {Tk : List Jvm.Cond} (hsub : ∀ w ∈ Tk, w ∈ Ts) (hck : xa_ck cl Tk M pc (.invokespecial x) len nip r q ts = true) (hn : xa_nx L xs (.invokespecial x) nip r q ts lv st h = some (ip', lv', st', h', k, z))
    (hl : lv_has ls (xa_mL M) (xa_lv b base lv)) (hM : xa_Mt D cl cs b base h H) (hS : va_S (xa_A base) s.heap H locs) (hcs : s.heap.size + cells ≤ base + h.length) (hc : cells + k ≤ R.cells) (hz : slots + z ≤ R.slots) (hro : xa_kind (.invokespecial x) r q = 4 → 1 ≤ R.frames ∧ 30 ≤ R.locals)
    (kk : ∀ (pc' : Nat) (ls' : Array Slot) (H' : Heap) (locs' : List Loc), xa_pc M ip' = pc' → lv_has ls' (xa_mL M) (xa_lv b base lv') → xa_Mt D cl cs b base h' H' → va_S (xa_A base) s.heap H' locs' →
      W p l e R s m args below meth c H' locs' (cells + k) (slots + z) Q (F0 m pc' ls' (st'.map (xa_rv b base)))) :
    W p l e R s m args below meth c H locs cells slots Q (F0 m pc ls (st.map (xa_rv b base))) := by
  obtain ⟨hx, hb, hml, hown, hts, hK, hX, hbb, hbs, hlk, hrt, hnm, hxt⟩ := F
  have htk : ∀ w ∈ Tk, w.before args s = true := fun w hw => hts w (hsub w hw)
  have hD := xa_W_D cs b base h
  have hA : ∀ q, s.heap.size ≤ q → xa_A base q := fun q hq => Nat.le_trans hbs hq
  have hbA : ¬ xa_A base b := Nat.not_le.mpr hbb
  have hbl : b < s.heap.size := Nat.lt_of_lt_of_le hbb hbs
  unfold xa_ck at hck
  rw [Bool.and_eq_true, decide_eq_true_eq] at hck
  obtain ⟨hd, hck⟩ := hck
  simp only [Bool.and_eq_true, decide_eq_true_eq] at hck
  obtain ⟨rfl, hp, rfl, v1, v2, v3⟩ := hck
  obtain ⟨a, st, rfl, hn⟩ := xa_pr_some hn
  obtain ⟨hi, hn⟩ := xa_if_some hn
  obtain ⟨rfl, rfl, rfl, rfl, rfl, rfl⟩ := xa_go_some hn
  have hcat := Nat.le_of_ble_eq_true hi
  obtain ⟨hfr, hlo⟩ := hro rfl
  cases a with
  | zero => exact W.objInit hx hb hown (htk _ v1) (htk _ v2) (htk _ v3) rfl (hl.1.trans hml.symm) rfl hd (by omega) (by rw [xa_cats_rv]; show 2 * 0 + _ + _ ≤ _; omega) (kk _ ls H locs hp hl hM hS)
  | succ a => exact W.objInit hx hb hown (htk _ v1) (htk _ v2) (htk _ v3) rfl (hl.1.trans hml.symm) rfl hd (by omega) (by rw [xa_cats_rv]; show 2 * 0 + _ + _ ≤ _; omega) (kk _ ls H locs hp hl hM hS)
set_option maxHeartbeats 1000000 in
theorem xs_invokestatic {x : Nat} {len nip r q : Nat} {ts : List Nat} {lv lv' : List (Nat × Value)} {st st' : List Value} {h h' : List va_E} {ip' k z : Nat} (hC : xa_ckC cl Ts = true)
    (F : xa_Fr D cl Ts cs b base L xs M p s m args meth c) {Tk : List Jvm.Cond} (hsub : ∀ w ∈ Tk, w ∈ Ts) (hck : xa_ck cl Tk M pc (.invokestatic x) len nip r q ts = true) (hn : xa_nx L xs (.invokestatic x) nip r q ts lv st h = some (ip', lv', st', h', k, z))
    (hl : lv_has ls (xa_mL M) (xa_lv b base lv)) (hM : xa_Mt D cl cs b base h H) (hS : va_S (xa_A base) s.heap H locs) (hcs : s.heap.size + cells ≤ base + h.length) (hc : cells + k ≤ R.cells) (hz : slots + z ≤ R.slots) (hro : xa_kind (.invokestatic x) r q = 4 → 1 ≤ R.frames ∧ 30 ≤ R.locals)
    (kk : ∀ (pc' : Nat) (ls' : Array Slot) (H' : Heap) (locs' : List Loc), xa_pc M ip' = pc' → lv_has ls' (xa_mL M) (xa_lv b base lv') → xa_Mt D cl cs b base h' H' → va_S (xa_A base) s.heap H' locs' →
      W p l e R s m args below meth c H' locs' (cells + k) (slots + z) Q (F0 m pc' ls' (st'.map (xa_rv b base)))) :
    W p l e R s m args below meth c H locs cells slots Q (F0 m pc ls (st.map (xa_rv b base))) := by
  obtain ⟨hx, hb, hml, hown, hts, hK, hX, hbb, hbs, hlk, hrt, hnm, hxt⟩ := F
  have htk : ∀ w ∈ Tk, w.before args s = true := fun w hw => hts w (hsub w hw)
  have hD := xa_W_D cs b base h
  have hA : ∀ q, s.heap.size ≤ q → xa_A base q := fun q hq => Nat.le_trans hbs hq
  have hbA : ¬ xa_A base b := Nat.not_le.mpr hbb
  have hbl : b < s.heap.size := Nat.lt_of_lt_of_le hbb hbs
  unfold xa_ck at hck
  rw [Bool.and_eq_true, decide_eq_true_eq] at hck
  obtain ⟨hd, hck⟩ := hck
  rw [Bool.and_eq_true, Bool.and_eq_true, decide_eq_true_eq, decide_eq_true_eq] at hck
  obtain ⟨rfl, hp, hv⟩ := hck
  split at hv
  · simp only [Bool.and_eq_true, decide_eq_true_eq] at hv
    obtain ⟨v1, v2, v3, v4⟩ := hv
    obtain ⟨y, st, rfl, hn⟩ := xa_pi_some hn
    obtain ⟨hi, hn⟩ := xa_if_some hn
    obtain ⟨rfl, rfl, rfl, rfl, rfl, rfl⟩ := xa_go_some hn
    have hcat := Nat.le_of_ble_eq_true hi
    obtain ⟨hfr, hlo⟩ := hro rfl
    exact va_mabs hx hb (hml.trans hl.1.symm) hown (htk _ v1) (htk _ v2) (htk _ v3) (htk _ v4) (by omega) (by rw [xa_cats_rv]; omega) hc hz hd (kk _ ls H locs hp hl hM hS)
  · simp only [Bool.and_eq_true, decide_eq_true_eq] at hv
    obtain ⟨v1, v2, v3, v4⟩ := hv
    obtain ⟨n, st, rfl, hn⟩ := xa_pi_some hn
    obtain ⟨dp, st, rfl, hn⟩ := xa_pi_some hn
    obtain ⟨a, st, rfl, hn⟩ := xa_pr_some hn
    obtain ⟨sp, st, rfl, hn⟩ := xa_pi_some hn
    obtain ⟨a0, st, rfl, hn⟩ := xa_pr_some hn
    obtain ⟨j0, n0, f, rfl, hj0, hn⟩ := xa_ai_some hn
    obtain ⟨j, n1, g, rfl, hj, hn⟩ := xa_ai_some hn
    obtain ⟨hi, hn⟩ := xa_if_some hn
    obtain ⟨rfl, rfl, rfl, rfl, rfl, rfl⟩ := xa_go_some hn
    simp only [Bool.and_eq_true, Bool.not_eq_true', decide_eq_false_iff_not, decide_eq_true_eq] at hi
    obtain ⟨⟨⟨⟨⟨i0, i1⟩, i2⟩, i3⟩, i4⟩, i5⟩ := hi
    have hcat := Nat.le_of_ble_eq_true i0
    obtain ⟨hfr, hlo⟩ := hro rfl
    refine va_copyi hx hb (hml.trans hl.1.symm) hown (htk _ v1) (htk _ v2) (htk _ v3) (htk _ v4) hK hM.2 hD (xa_S.now hS) j0 j 0 0 (xa_W_at hj0) (xa_W_at hj) rfl rfl rfl i1 i2 i3 i4 i5 (fun _ _ => rfl) (by omega) (by rw [xa_cats_rv]; have h1 : nativeFrameWords "java/lang/System" "arraycopy" 5 = 7 := (by decide); omega) hd (fun H1 locs1 hP1 _ hS1 => ?_)
    exact kk _ ls H1 locs1 hp hl (hM.set hP1 hS1.1) (xa_S.two hS hS1)
  · cases hv
set_option maxHeartbeats 4000000 in
theorem xa_sim_nx {i : Jvm.ClassFile.Instr} {len nip r q : Nat} {ts : List Nat} {lv lv' : List (Nat × Value)} {st st' : List Value} {h h' : List va_E} {ip' k z : Nat} (hC : xa_ckC cl Ts = true)
    (F : xa_Fr D cl Ts cs b base L xs M p s m args meth c) {Tk : List Jvm.Cond} (hsub : ∀ w ∈ Tk, w ∈ Ts) (hck : xa_ck cl Tk M pc i len nip r q ts = true) (hn : xa_nx L xs i nip r q ts lv st h = some (ip', lv', st', h', k, z))
    (hl : lv_has ls (xa_mL M) (xa_lv b base lv)) (hM : xa_Mt D cl cs b base h H) (hS : va_S (xa_A base) s.heap H locs) (hcs : s.heap.size + cells ≤ base + h.length) (hc : cells + k ≤ R.cells) (hz : slots + z ≤ R.slots) (hro : xa_kind i r q = 4 → 1 ≤ R.frames ∧ 30 ≤ R.locals)
    (kk : ∀ (pc' : Nat) (ls' : Array Slot) (H' : Heap) (locs' : List Loc), xa_pc M ip' = pc' → lv_has ls' (xa_mL M) (xa_lv b base lv') → xa_Mt D cl cs b base h' H' → va_S (xa_A base) s.heap H' locs' →
      W p l e R s m args below meth c H' locs' (cells + k) (slots + z) Q (F0 m pc' ls' (st'.map (xa_rv b base)))) :
    W p l e R s m args below meth c H locs cells slots Q (F0 m pc ls (st.map (xa_rv b base))) := by
  cases i
  case iconst n => exact xs_iconst hC F hsub hck hn hl hM hS hcs hc hz hro kk
  case bipush n => exact xs_bipush hC F hsub hck hn hl hM hS hcs hc hz hro kk
  case sipush n => exact xs_sipush hC F hsub hck hn hl hM hS hcs hc hz hro kk
  case ldc x => exact xs_ldc hC F hsub hck hn hl hM hS hcs hc hz hro kk
  case ldc_w x => exact xs_ldc_w hC F hsub hck hn hl hM hS hcs hc hz hro kk
  case lconst n => exact xs_lconst hC F hsub hck hn hl hM hS hcs hc hz hro kk
  case ldc2_w x => exact xs_ldc2_w hC F hsub hck hn hl hM hS hcs hc hz hro kk
  case iload_n n => exact xs_iload_n hC F hsub hck hn hl hM hS hcs hc hz hro kk
  case iload n => exact xs_iload hC F hsub hck hn hl hM hS hcs hc hz hro kk
  case lload_n n => exact xs_lload_n hC F hsub hck hn hl hM hS hcs hc hz hro kk
  case lload n => exact xs_lload hC F hsub hck hn hl hM hS hcs hc hz hro kk
  case aload_n n => exact xs_aload_n hC F hsub hck hn hl hM hS hcs hc hz hro kk
  case aload n => exact xs_aload hC F hsub hck hn hl hM hS hcs hc hz hro kk
  case istore_n n => exact xs_istore_n hC F hsub hck hn hl hM hS hcs hc hz hro kk
  case istore n => exact xs_istore hC F hsub hck hn hl hM hS hcs hc hz hro kk
  case lstore_n n => exact xs_lstore_n hC F hsub hck hn hl hM hS hcs hc hz hro kk
  case lstore n => exact xs_lstore hC F hsub hck hn hl hM hS hcs hc hz hro kk
  case astore_n n => exact xs_astore_n hC F hsub hck hn hl hM hS hcs hc hz hro kk
  case astore n => exact xs_astore hC F hsub hck hn hl hM hS hcs hc hz hro kk
  case iinc n cc => exact xs_iinc hC F hsub hck hn hl hM hS hcs hc hz hro kk
  case iadd => exact xs_iadd hC F hsub hck hn hl hM hS hcs hc hz hro kk
  case isub => exact xs_isub hC F hsub hck hn hl hM hS hcs hc hz hro kk
  case imul => exact xs_imul hC F hsub hck hn hl hM hS hcs hc hz hro kk
  case iand => exact xs_iand hC F hsub hck hn hl hM hS hcs hc hz hro kk
  case ladd => exact xs_ladd hC F hsub hck hn hl hM hS hcs hc hz hro kk
  case lsub => exact xs_lsub hC F hsub hck hn hl hM hS hcs hc hz hro kk
  case lmul => exact xs_lmul hC F hsub hck hn hl hM hS hcs hc hz hro kk
  case idiv => exact xs_idiv hC F hsub hck hn hl hM hS hcs hc hz hro kk
  case irem => exact xs_irem hC F hsub hck hn hl hM hS hcs hc hz hro kk
  case ldiv => exact xs_ldiv hC F hsub hck hn hl hM hS hcs hc hz hro kk
  case lrem => exact xs_lrem hC F hsub hck hn hl hM hS hcs hc hz hro kk
  case ineg => exact xs_ineg hC F hsub hck hn hl hM hS hcs hc hz hro kk
  case lcmp => exact xs_lcmp hC F hsub hck hn hl hM hS hcs hc hz hro kk
  case i2l => exact xs_i2l hC F hsub hck hn hl hM hS hcs hc hz hro kk
  case l2i => exact xs_l2i hC F hsub hck hn hl hM hS hcs hc hz hro kk
  case dup => exact xs_dup hC F hsub hck hn hl hM hS hcs hc hz hro kk
  case pop => exact xs_pop hC F hsub hck hn hl hM hS hcs hc hz hro kk
  case dup2 => exact xs_dup2 hC F hsub hck hn hl hM hS hcs hc hz hro kk
  case ifCond cd off => exact xs_ifCond hC F hsub hck hn hl hM hS hcs hc hz hro kk
  case if_icmp cd off => exact xs_if_icmp hC F hsub hck hn hl hM hS hcs hc hz hro kk
  case goto off => exact xs_goto hC F hsub hck hn hl hM hS hcs hc hz hro kk
  case getfield x => exact xs_getfield hC F hsub hck hn hl hM hS hcs hc hz hro kk
  case putfield x => exact xs_putfield hC F hsub hck hn hl hM hS hcs hc hz hro kk
  case arraylength => exact xs_arraylength hC F hsub hck hn hl hM hS hcs hc hz hro kk
  case iaload => exact xs_iaload hC F hsub hck hn hl hM hS hcs hc hz hro kk
  case baload => exact xs_baload hC F hsub hck hn hl hM hS hcs hc hz hro kk
  case laload => exact xs_laload hC F hsub hck hn hl hM hS hcs hc hz hro kk
  case iastore => exact xs_iastore hC F hsub hck hn hl hM hS hcs hc hz hro kk
  case bastore => exact xs_bastore hC F hsub hck hn hl hM hS hcs hc hz hro kk
  case lastore => exact xs_lastore hC F hsub hck hn hl hM hS hcs hc hz hro kk
  case tableswitch df lo hi offs => exact xs_tableswitch hC F hsub hck hn hl hM hS hcs hc hz hro kk
  case new x => exact xs_new hC F hsub hck hn hl hM hS hcs hc hz hro kk
  case newarray t => exact xs_newarray hC F hsub hck hn hl hM hS hcs hc hz hro kk
  case invokespecial x => exact xs_invokespecial hC F hsub hck hn hl hM hS hcs hc hz hro kk
  case invokestatic x => exact xs_invokestatic hC F hsub hck hn hl hM hS hcs hc hz hro kk
  all_goals exact nomatch (show (none : Option xa_N) = some _ from hn)
end XSim

def R_law : String := "ServiceRowsLaw"
def lw_P (b : Addr) (xs : List Int32) (args : Array Value) (s : State) : Prop := args = #[.ref b] ∧ s.IntsAt b xs ∧ xs.length ≤ 2560 ∧ (Jvm.Cond.and given_1 narrow_1).before args s = true
def lw_Q (_ : Array Value) (s : State) (o : Outcome) (t : State) : Prop := o = .returned (some (.int 1)) ∧ Framed s o t [] 1089 26050
def lw_Z (below : List Frame) (a : Array Value) (s : State) : State → Prop := fun t => ∃ o, t.status = .running ∧ Ended t below o ∧ lw_Q a s o t
def lw_At (p : Program) (s : State) (m : MethodId) (meth : Method) (c : Code) (b L : Nat) (xs : Nat → Int32) : Prop :=
  p.tables.exec = Jvm.exec ∧ c.code = code ∧ meth.sig.returnType = ret ∧ c.maxLocals = 8 ∧ s.vm.findClass R_law = some m.cls ∧ (∀ w ∈ lw_tbl, w.before #[Value.ref b] s = true) ∧ va_X b L xs s s.heap ∧ b < s.heap.size ∧ meth.locks = false ∧ (Jvm.Cond.and given_1 narrow_1).before #[Value.ref b] s = true ∧ meth.name = x.name ∧ c.exceptionTable.toList = tableOf []
theorem xarr {ty : FieldType} {args : Array Value} {s : State} (h : (Jvm.Cond.arrayClass ty).before args s = true) : ∃ cA : ClassId, ArrOfT s cA ty ∧ s.vm.findClass ("[" ++ ty.toString) = some cA := by
  obtain ⟨c, k, comp, h1, h2, h3⟩ := Cond.arrayClass_spec h
  exact ⟨c, fun n z => ⟨fun k h => (by cases h), k, h2, comp, h3⟩, h1⟩
theorem xsame {s t : State} {L : List Loc} {c n c' n' : Nat} (h : s.sameButNew t L c n) (hL : ∀ q ∈ L, s.heap.size ≤ q.base) (hc : c ≤ c') (hn : n ≤ n') : s.sameButNew t [] c' n' := by
  obtain ⟨h1, h2, h3, h4, h5, h6⟩ := h
  refine ⟨h1, h2, Nat.le_trans h3 (by omega), h4, Nat.le_trans h5 hn, fun a cc hcc => ?_⟩
  obtain ⟨c1, e1, e2, e3, e4⟩ := h6 a cc hcc
  refine ⟨c1, e1, e2, e3, fun i _ => e4 i (fun hm => ?_)⟩
  have h7 := hL _ hm
  have h8 := (Array.getElem?_eq_some_iff.mp hcc).1
  exact absurd h8 (Nat.not_lt.mpr h7)
set_option maxRecDepth 100000 in
theorem xinst : ∀ q ∈ xcl, ∃ n, Jvm.Cond.instantiable q.1 n ∈ xts := by
  unfold xcl
  refine List.forall_mem_cons.mpr ⟨⟨9, by decide +kernel⟩, List.forall_mem_cons.mpr ⟨⟨8, by decide +kernel⟩, List.forall_mem_cons.mpr ⟨⟨3, by decide +kernel⟩, List.forall_mem_cons.mpr ⟨⟨5, by decide +kernel⟩, List.forall_mem_cons.mpr ⟨⟨7, by decide +kernel⟩, List.forall_mem_cons.mpr ⟨⟨4, by decide +kernel⟩, List.forall_mem_cons.mpr ⟨⟨27, by decide +kernel⟩, List.forall_mem_cons.mpr ⟨⟨6, by decide +kernel⟩, List.forall_mem_cons.mpr ⟨⟨6, by decide +kernel⟩, List.forall_mem_cons.mpr ⟨⟨6, by decide +kernel⟩, List.forall_mem_cons.mpr ⟨⟨6, by decide +kernel⟩, List.forall_mem_cons.mpr ⟨⟨6, by decide +kernel⟩, fun _ h => absurd h List.not_mem_nil⟩⟩⟩⟩⟩⟩⟩⟩⟩⟩⟩⟩
set_option maxRecDepth 100000 in
theorem xknown {args : Array Value} {s : State} (hts : ∀ w ∈ xts, w.before args s = true) : ∃ (D : va_G) (cs : ClassId × ClassId × ClassId), va_K D xcl (xa_tys cs) s := by
  have hC := xk_C
  unfold xa_ckC at hC
  have hall : ∀ k : Nat, ∃ x : ClassId × (Nat → Nat), ∀ q : vw_C, xcl[k]? = some q → u_Kn s q.1 q.2.1 q.2.2 x.1 x.2 := by
    intro k
    cases hq : xcl[k]? with
    | none => exact ⟨(0, fun _ => 0), fun q e => by cases e⟩
    | some q =>
      have hm := List.mem_of_getElem? hq
      obtain ⟨n, hn⟩ := xinst q hm
      have hck := List.all_eq_true.mp hC q hm
      obtain ⟨cC, iS, hK⟩ := u_known (C := q.1) (T := q.2.1) (N := q.2.2) (n := n) hts (fun w hw => by
        obtain ⟨j, hj, rfl⟩ := List.mem_map.mp hw
        have h1 := List.all_eq_true.mp hck j hj
        rw [Bool.and_eq_true] at h1
        exact of_decide_eq_true h1.1) (hts _ hn)
      exact ⟨(cC, iS), fun q2 e => by cases e; exact hK⟩
  obtain ⟨c1, a1, b1⟩ := xarr (hts (.arrayClass .int) (by decide +kernel))
  obtain ⟨c2, a2, b2⟩ := xarr (hts (.arrayClass .boolean) (by decide +kernel))
  obtain ⟨c3, a3, b3⟩ := xarr (hts (.arrayClass .long) (by decide +kernel))
  refine ⟨(fun k => (Classical.choose (hall k)).1, fun k => (Classical.choose (hall k)).2), (c1, c2, c3), fun k q hq => Classical.choose_spec (hall k) q hq, fun k q hq => ?_⟩
  match k, hq with
  | 0, hq => cases hq; exact ⟨a1, b1⟩
  | 1, hq => cases hq; exact ⟨a2, b2⟩
  | 2, hq => cases hq; exact ⟨a3, b3⟩
  | k + 3, hq => cases hq
theorem xst {l : Launch} (hfl : l.flags = flags0) : ∀ e : Env, l.admits e → e.platform.stackTraces = false := by
  intro e h
  rw [h.2.2.2.2.1]
  show l.stackTraces = false
  unfold Launch.stackTraces
  rw [hfl]
  decide +kernel
set_option maxRecDepth 100000 in
set_option maxHeartbeats 4000000 in
theorem whole_start {p : Program} {e : Env} {s : State} {m : MethodId} {below : List Frame} {meth : Method} {c : Code} (l : Launch) (hst : ∀ e : Env, l.admits e → e.platform.stackTraces = false) {b L : Nat} {xs : Nat → Int32} (hL : L ≤ 2560) (C0 : lw_At p s m meth c b L xs) : W p l e room_1 s m #[Value.ref b] below meth c s.heap [] 0 0 (lw_Z below #[Value.ref b] s) (entryFrame m ([Value.ref b] : List Value).toArray 8) := by
  obtain ⟨hx, hb, hr, hml, hown, hts0, hX, hbl, hlocks, hgv, hnm, hxt⟩ := C0
  have hs := flat_of_before _ hgv
  have hnc : ∀ w ∈ xnc, w.before #[Value.ref b] s = true := by
    unfold xnc
    exact List.forall_mem_cons.mpr ⟨hs _ (by decide +kernel), List.forall_mem_cons.mpr ⟨hs _ (by decide +kernel), List.forall_mem_cons.mpr ⟨hs _ (by decide +kernel), List.forall_mem_cons.mpr ⟨hs _ (by decide +kernel), List.forall_mem_cons.mpr ⟨hs _ (by decide +kernel), List.forall_mem_cons.mpr ⟨hs _ (by decide +kernel), List.forall_mem_cons.mpr ⟨hs _ (by decide +kernel), List.forall_mem_cons.mpr ⟨hs _ (by decide +kernel), List.forall_mem_cons.mpr ⟨hs _ (by decide +kernel), List.forall_mem_cons.mpr ⟨hs _ (by decide +kernel), List.forall_mem_cons.mpr ⟨hs _ (by decide +kernel), List.forall_mem_cons.mpr ⟨hs _ (by decide +kernel), List.forall_mem_cons.mpr ⟨hs _ (by decide +kernel), List.forall_mem_cons.mpr ⟨hs _ (by decide +kernel), fun _ h => absurd h List.not_mem_nil⟩⟩⟩⟩⟩⟩⟩⟩⟩⟩⟩⟩⟩⟩
  have hts : ∀ w ∈ xts, w.before #[Value.ref b] s = true := fun w hw => by
    rcases List.mem_append.mp (xts_in w hw) with h | h
    · exact hts0 w h
    · exact hnc w h
  obtain ⟨D, cs, hK⟩ := xknown hts
  have hR : xa_Rl s s.heap.size s := ⟨State.WarmedH.refl s, Nat.le_refl _, fun _ _ => rfl⟩
  have hth : ∀ w ∈ xth, ∀ (U : State) (a : Array Value), xa_Rl s s.heap.size U → w.before a U = true := by
    unfold xth
    exact List.forall_mem_cons.mpr ⟨fun U a hU => xh_lays rfl hU (hts0 _ (by decide +kernel)), List.forall_mem_cons.mpr ⟨fun U a hU => xh_lays rfl hU (hts0 _ (by decide +kernel)), List.forall_mem_cons.mpr ⟨fun U a hU => xh_ref rfl hU (hs _ (by decide +kernel)), List.forall_mem_cons.mpr ⟨fun U a hU => xh_ref rfl hU (hs _ (by decide +kernel)), fun _ h => absurd h List.not_mem_nil⟩⟩⟩⟩
  have G : xa_G l D xcl xts xth cs b s.heap.size L xs s xm 156 xtk := ⟨xk_C, xk_all, fun w hw U a hW => xw_at (List.all_eq_true.mp xts_good w hw) hW (hts w hw), hth, hK, hX, hbl, hst⟩
  have F : xa_Fr D xcl xts cs b s.heap.size L xs (xm 154) p s m #[Value.ref b] meth c := xd_Fr G hR hx hb hml hown hlocks hr hnm hxt
  obtain ⟨h', k, z, hk, hz, n, hev⟩ := w_law (xs := xs) hL
  have hl := lv_entry ([Value.ref b]) (n := 8) (Nat.le_of_ble_eq_true rfl)
  rw [lg_entry_eq]
  have hl2 : lv_has _ (xa_mL (xm 154)) (xa_lv b s.heap.size [(0, .ref 0)]) := hl
  have h1 := xa_sim G n 11 396 154 0 [(0, .ref 0)] [] [] _ h' k z (by omega) hev p e room_1 s m #[Value.ref b] below meth c s.heap [] 0 0 _ F hR hl2 ⟨Nat.le_refl _, fun k q h => by cases h⟩ va_S.rf (Nat.le_refl _) (by show 0 + k ≤ 1089; omega) (by show 0 + z ≤ 26050; omega) (by decide) (by decide)
  have hp : xa_pc (xm 154) 0 = 0 := by
    have h2 := (xk_all 154 (by omega)).1
    unfold xa_ckM at h2
    simp only [Bool.and_eq_true, decide_eq_true_eq] at h2
    exact h2.1
  rw [hp] at h1
  refine xd_mono (fun t ht => ?_) h1
  obtain ⟨o, r1, r2, ⟨ho, -, -⟩, L1, ⟨hW, hsm⟩, hLb⟩ := ht
  have ho : o = .returned (some (.int 1)) := ho
  subst ho
  exact ⟨_, r1, r2, rfl, ⟨_, rfl⟩, hW, xsame hsm hLb (by omega) (by omega)⟩
set_option maxHeartbeats 4000000 in
theorem lw_walk (l : Launch) (hst : ∀ e : Env, l.admits e → e.platform.stackTraces = false) (b : Addr) (xs : List Int32) : MetFree l x (headSpec (Jvm.Cond.code x code maxLocals ret :: tables_1) room_1) (lw_P b xs) (fun _ _ _ _ _ => True) lw_Q := by
  refine MetFree.of_bodyS (code := code) (maxLocals := maxLocals) (ret := ret) (by decide) ?_ ?_
  · intro args s m h hn
    obtain ⟨meth, c, h1, h2, h3, h4, h5, h6, -, -⟩ := Cond.code_spec hn (atoms_spec (ws := Jvm.Cond.code x code maxLocals ret :: tables_1) h _ List.mem_cons_self)
    exact ⟨meth, c, h1, h2, h3, h4, h5, h6⟩
  · intro p e s m args below meth c s₁ B hml0 hP _
    obtain ⟨rfl, hx, hbd, hgv⟩ := hP
    obtain ⟨scr, harrAt, hlist, hof, hsmall⟩ := hx
    obtain ⟨hcb, hkn, -, -⟩ := State.arrayAt?_spec harrAt
    have hown : s.vm.findClass R_law = some m.cls := findClass_of_methodNamed B.named
    have hts0 : ∀ c ∈ (Jvm.Cond.code x code maxLocals ret :: tables_1), c.before #[Value.ref b] s = true := atoms_spec (ws := Jvm.Cond.code x code maxLocals ret :: tables_1) B.pre
    have hts : ∀ w ∈ lw_tbl, w.before #[Value.ref b] s = true := k2_hts_sels lw_privs (fun w hw => hts0 w (List.mem_cons_of_mem _ hw)) lw_privs_ok
    have hml : c.maxLocals = 8 := B.maxLocals_eq (hts0 _ List.mem_cons_self)
    have X₀ : Stand p l e room_1 s m #[Value.ref b] below meth c s₁ [] 0 0 := Stand.of_body B
    have hh0 : s₁.heap = s.heap := by rw [B.state]; rfl
    obtain ⟨meth', c', k1, k2, -, -, -, -, hxt, -⟩ := xb_cw_spec (hh := []) B.named (hts0 _ List.mem_cons_self)
    cases B.method.symm.trans k1
    cases X₀.code.symm.trans k2
    have hsz : scr.slots.size = xs.length := by rw [← Array.length_toList, hlist, List.length_map]
    have hval : ∀ j : Nat, j < xs.length → scr.slots[j]? = some (.int (xs.getD j 0)) := fun j hj => by
      rw [← Array.getElem?_toList, hlist]
      simp [hj]
    have hbl : b < s.heap.size := (Array.getElem?_eq_some_iff.mp hcb).1
    have hX : va_X b xs.length (fun j => xs.getD j 0) s s.heap := ⟨scr, hcb, hof, hkn, hsz, hval⟩
    have K : W p l e room_1 s m #[Value.ref b] below meth c s₁.heap [] 0 0 (lw_Z below #[Value.ref b] s) (entryFrame m ([Value.ref b] : List Value).toArray 8) := by
      rw [hh0]
      exact whole_start l hst hbd ⟨B.exec, B.bytes, B.returns, hml, hown, hts, hX, hbl, B.notSynchronized, hgv, (name_of_methodNamed B.named B.method).1, hxt⟩
    obtain ⟨t, a1, o, b1, b2, b3⟩ := K s₁ rfl X₀
    exact ⟨t, o, a1, b1, b2, b3⟩
theorem lw_pre_spec {args : Array Value} {s : State} (h : (Jvm.Cond.and given_1 narrow_1).before args s = true) (hr : rest_1_c.before args s = true) : ∃ (b : Addr) (xs : List Int32), lw_P b xs args s := by
  have hs := flat_of_before _ h
  have hq := flat_of_before _ hr
  have hc : (Cond.count 1).before args s = true := hs _ (by decide +kernel)
  have harr : (Cond.arrayOf (.arg 0) .int).before args s = true := hs _ (by decide +kernel)
  have hle : (Cond.le (.length (.arg 0)) (.int 2560)).before args s = true := hs _ (by decide +kernel)
  have hlen : (Cond.isInt (.length (.arg 0))).before args s = true := hq _ (by decide +kernel)
  have hall : (Cond.all (.arg 0) (.isInt (.elem (.arg 0) (.index 0)))).before args s = true := hq _ (by decide +kernel)
  obtain ⟨b, xs, hb, hx⟩ := State.ints_of_pre rfl harr hlen hall
  have hsm : xs.length < 2 ^ 31 := hx.choose_spec.2.2.2
  have hev : (Term.length (.arg 0)).eval args s none [] s = some (.int xs.length.toInt32) := hx.length_eval hb
  have hv := Cond.le_ints hev (show (Term.int 2560).eval args s none [] s = some (.int 2560) from rfl)
  have hd : xs.length.toInt32 ≤ 2560 := by
    simpa [Cond.before, Cond.holds, hv] using hle
  have hN : xs.length ≤ 2560 := (Int32.ofNat_le_ofNat hsm (by decide)).mp (show Int32.ofNat xs.length ≤ Int32.ofNat 2560 from hd)
  exact ⟨b, xs, Cond.one_arg hc (show args[0]? = some (.ref b) from hb), hx, hN, h⟩
theorem lw_comes (l : Launch) (hst : ∀ e : Env, l.admits e → e.platform.stackTraces = false) : Comes l x (Jvm.Cond.code x code maxLocals ret :: tables_1) room_1 (fun tb e args s => Calls_1 tb e args s ∧ rest_1 tb e args s ∧ Pre_1 tb e args s)
    (fun _ _ args s o t => lw_Q args s o t) := by
  intro p e ha hc hk s m args below hf hfit hheap happ hpre
  obtain ⟨b, xs, hP⟩ := lw_pre_spec hpre.2.2 hpre.2.1
  obtain ⟨k, o, h1, h2, h3, hQ⟩ := lw_walk l hst b xs p e ha hc hk s m args below hf ((Spec.applies_iff_loose hf).mp happ).1 hP trivial
  exact ⟨k, o, h1, h2, h3, hQ⟩
theorem lw_frame {s t : State} {o : Outcome} {args : Array Value} (h : Framed s o t [] 1089 26050) :
    Framed s o t (fieldLocs frame_1_writes args s ++ arrayLocs frame_1_arrays args s ++ staticLocs frame_1_statics s) 1089 26050 := h
theorem lw_limb (L : Cond) (hL : ∀ (args : Array Value) (s t : State), L.after args s (.returned (some (.int 1))) t = true) :
    ArmFor flags0 classFile x code maxLocals ret World_1 tables_1 room_1 Calls_1 rest_1 Pre_1
      (fun tb e a s o t => postC L tb e a s o t ∧ Framed s o t (fieldLocs frame_1_writes a s ++ arrayLocs frame_1_arrays a s ++ staticLocs frame_1_statics s) 1089 26050) := by
  intro l hfl _ _ p e ha hc hk s m args below hf hfit hheap happ hpre
  obtain ⟨k, o, h1, h2, h3, rfl, hF⟩ := lw_comes l (xst hfl) p e ha hc hk s m args below hf hfit hheap happ hpre
  exact ⟨k, _, h1, h2, h3, hL args s _, lw_frame hF⟩
theorem i_vc : Claimed_1_1 ∧ Claimed_1_2 := ⟨lw_limb limb_1_1 (fun args s t => by simp [limb_1_1, Cond.after, Cond.holds, Cond.value]), lw_limb limb_1_2 (fun args s t => Cond.after_iff.mpr (by
  first | (rw [show limb_1_2 = Cond.eq .result (.int 1) from rfl, Cond.eq_ints (x := 1) (y := 1) rfl rfl]; simp; done) | (simp [limb_1_2, Cond.value, Term.eval]; done)))⟩

theorem xd_mono {p : Program} {l : Launch} {e : Env} {R : Room} {s : State} {m : MethodId} {args : Array Value} {below : List Frame} {meth : Method} {c : Code} {H : Heap} {locs : List Loc} {cells slots : Nat} {Q Q' : State → Prop} {g : JFrame} (h : ∀ t, Q t → Q' t) (k : W p l e R s m args below meth c H locs cells slots Q g) : W p l e R s m args below meth c H locs cells slots Q' g := by
  intro T hT X
  obtain ⟨t, a, b⟩ := k T hT X
  exact ⟨t, a, h t b⟩
theorem xd_MQ {below : List Frame} {Qc : Array Value → State → Outcome → State → Prop} {a : Array Value} {s : State} {mc ms : Nat} {free : Addr → Prop} (t : State) (h : MQ below Qc a s mc ms free t) : xb_MQ below Qc a s mc ms free t := by
  obtain ⟨o, h1, h2, h3, L, h4, h5⟩ := h
  exact ⟨o, h1, h2, h3, L, h4.2, h5⟩
def xe_names : List String := ["java/lang/RuntimeException", "java/lang/Exception"]
def xa_ckR (M : xa_M) (pc : Nat) (i : Jvm.ClassFile.Instr) (len : Nat) : Bool := decide (decode (xa_by M) pc = .ok (i, len)) && decide (len = 1)
def xa_ckT (cl : List vw_C) (Ts Th : List Jvm.Cond) (M : xa_M) (pc : Nat) (i : Jvm.ClassFile.Instr) (r : Nat) (ts : List Nat) : Bool := match i, ts, cl[r]? with
  | .new ci, [sx, ic, w], some (E, _, 0) => decide (decode (xa_by M) pc = .ok (.new ci, 3)) && ((xa_hz M).isEmpty && (decide (decode (xa_by M) (pc + 3) = .ok (.dup, 1)) && ((decide (decode (xa_by M) (pc + 4) = .ok (.ldc sx, 2)) && decide (w = 2) || decide (decode (xa_by M) (pc + 4) = .ok (.ldc_w sx, 3)) && decide (w = 3)) &&
    (decide (decode (xa_by M) (pc + 4 + w) = .ok (.invokespecial ic, 3)) && (decide (decode (xa_by M) (pc + 4 + w + 3) = .ok (.athrow, 1)) && (decide (Jvm.Cond.classLink (xa_nm M).cls ci E ∈ Ts) && (decide (Jvm.Cond.initialized E ∈ Ts) && (decide (Jvm.Cond.instantiable E 6 ∈ Ts) &&
    (Ts.any (fun q => match q with
      | .stringRef o x _ => decide (o = (xa_nm M).cls) && decide (x = sx)
      | _ => false) && (Bundle.fit E && (Bundle.ownAtoms (xa_nm M).cls ic E xe_names).all (fun q => decide (q ∈ Ts) || decide (q ∈ Th))))))))))))
  | _, _, _ => false
def xa_lk (Ts : List Jvm.Cond) (own : String) (x : Nat) (y : MethodName) : Bool := decide (Jvm.Cond.methodLink own x y ∈ Ts) || Ts.any (fun q => match q with
  | .methodLinkNest o i z _ => decide (o = own) && (decide (i = x) && decide (z = y))
  | _ => false)
def xa_cwM (M : xa_M) : Jvm.Cond := xb_cw (xa_nm M) (xa_by M) (xa_mL M) (xa_rt M) (xa_hh M)
def xa_ckH (cl : List vw_C) (Ts : List Jvm.Cond) (M : xa_M) (pc : Nat) : Bool := (xa_hz M).all fun z => decide (z.1.1 ≤ pc) && (decide (pc < z.1.2.1) && (!decide (z.1.2.2.2 = 0) && (decide (xa_pc M z.2.2 = z.1.2.2.1) && match cl[z.2.1]? with
  | some (E, _, _) => decide (Jvm.Cond.classLink (xa_nm M).cls z.1.2.2.2 E ∈ Ts) && (xa_hz M).all (fun u => Nat.beq u.2.1 z.2.1 || match cl[u.2.1]? with
    | some (E2, _, _) => decide (Jvm.Cond.not (.castable E2 E) ∈ Ts)
    | none => false)
  | none => false)))
def xa_ckK (cl : List vw_C) (Ts : List Jvm.Cond) (mt : Nat → xa_M) (NY : Nat) (M : xa_M) (pc : Nat) (i : Jvm.ClassFile.Instr) (len nip r q : Nat) (ts : List Nat) : Bool :=
  decide (decode (xa_by M) pc = .ok (i, len)) && (decide (len = 3) && (decide (xa_pc M nip = pc + 3) && (decide (r < NY) && (decide (xa_mL (mt r) ≤ 40) && (decide ((xa_nm (mt r)).cls ≠ "java/lang/invoke/MethodHandle") && (decide ((xa_nm (mt r)).cls ≠ "java/lang/invoke/VarHandle") && (decide (Jvm.Cond.initialized (xa_nm (mt r)).cls ∈ Ts) && (decide (xa_cwM (mt r) ∈ Ts) && (xa_ckH cl Ts M pc && match i with
  | .invokevirtual x => xa_lk Ts (xa_nm M).cls x (xa_nm (mt r)) && (decide (Jvm.Cond.instanceMethod (xa_nm (mt r)) ∈ Ts) && (decide (Jvm.Cond.selects (xa_nm (mt r)).cls (xa_nm (mt r)) (xa_nm (mt r)) ∈ Ts) && (decide (1 ≤ q) && (decide ((parseMethodDescriptor (xa_nm (mt r)).desc).map (fun d => d.parameters.length) = some (q - 1)) && decide ((cl[ts.headD 999]?).map (fun w => w.1) = some (xa_nm (mt r)).cls)))))
  | .invokestatic x => xa_lk Ts (xa_nm M).cls x (xa_nm (mt r)) && (decide (Jvm.Cond.static (xa_nm (mt r)) ∈ Ts) && decide ((parseMethodDescriptor (xa_nm (mt r)).desc).map (fun d => d.parameters.length) = some q))
  | .invokespecial x => xa_lk Ts (xa_nm M).cls x (xa_nm (mt r)) && (decide (Jvm.Cond.instanceMethod (xa_nm (mt r)) ∈ Ts) && (decide ((xa_nm (mt r)).name = "<init>") && (decide (1 ≤ q) && (decide ((parseMethodDescriptor (xa_nm (mt r)).desc).map (fun d => d.parameters.length) = some (q - 1)) && ((xa_hz (mt r)).isEmpty && decide (xa_rt (mt r) = none))))))
  | _ => false)))))))))
def xa_ckW (cl : List vw_C) (Ts Th : List Jvm.Cond) (mt : Nat → xa_M) (NY : Nat) (M : xa_M) (w : xa_R) : Bool := match w with
  | (pc, i, len, nip, r, q, ts) => match xa_kind i r q with
    | 0 => xa_ck cl Ts M pc i len nip r q ts
    | 1 => xa_ckR M pc i len
    | 2 => xa_ckT cl Ts Th M pc i r ts
    | 4 => xa_ck cl Ts M pc i len nip r q ts
    | _ => xa_ckK cl Ts mt NY M pc i len nip r q ts
def xa_ckM (cl : List vw_C) (Ts Th : List Jvm.Cond) (mt : Nat → xa_M) (NY : Nat) (M : xa_M) : Bool := decide (xa_pc M 0 = 0) && (xa_pnm (xa_nm M) && (xa_rows M).all (xa_ckW cl Ts Th mt NY M))
def xa_G (l : Launch) (D : va_G) (cl : List vw_C) (Ts Th : List Jvm.Cond) (cs : ClassId × ClassId × ClassId) (b base L : Nat) (xs : Nat → Int32) (s0 : State) (mt : Nat → xa_M) (NY : Nat) (tk : Nat → List Jvm.Cond) : Prop :=
  xa_ckC cl Ts = true ∧ (∀ y, y < NY → xa_ckM cl (tk y) Th mt NY (mt y) = true ∧ ∀ w ∈ tk y, w ∈ Ts) ∧ (∀ w ∈ Ts, ∀ (U : State) (a : Array Value), s0.WarmedH U.vm → w.before a U = true) ∧ (∀ w ∈ Th, ∀ (U : State) (a : Array Value), xa_Rl s0 base U → w.before a U = true) ∧ va_K D cl (xa_tys cs) s0 ∧ va_X b L xs s0 s0.heap ∧ b < base ∧ (∀ e : Env, l.admits e → e.platform.stackTraces = false)
section XZ
variable {l : Launch} {D : va_G} {cl : List vw_C} {Ts Th : List Jvm.Cond} {cs : ClassId × ClassId × ClassId} {b base L : Nat} {xs : Nat → Int32} {s0 : State} {mt : Nat → xa_M} {NY : Nat} {tk : Nat → List Jvm.Cond}
variable {p : Program} {e : Env} {R : Room} {s : State} {m : MethodId} {args : Array Value} {below : List Frame} {meth : Method} {c : Code} {H : Heap} {locs : List Loc} {cells slots : Nat}
theorem xd_Fr (G : xa_G l D cl Ts Th cs b base L xs s0 mt NY tk) {M : xa_M} (hR : xa_Rl s0 base s) (hx : p.tables.exec = Jvm.exec) (hb : c.code = xa_by M) (hml : c.maxLocals = xa_mL M) (hown : s.vm.findClass (xa_nm M).cls = some m.cls) (hlk : meth.locks = false) (hrt : meth.sig.returnType = xa_rt M) (hnm : meth.name = (xa_nm M).name) (hxt : c.exceptionTable.toList = tableOf (xa_hh M)) : xa_Fr D cl Ts cs b base L xs M p s m args meth c := by
  obtain ⟨-, -, g3, -, g5, g6, g7, -⟩ := G
  refine ⟨hx, hb, hml, hown, fun w hw => g3 w hw s args hR.1, va_K.moved hR.1.alike g5, ?_, g7, hR.2.1, hlk, hrt, hnm, hxt⟩
  exact va_X.moved hR.1.alike (va_X.kept g6 (hR.2.2 b g7))
theorem xd_S {H1 : Heap} {L1 : List Loc} (hR : xa_Rl s0 base s) (hS : va_S (xa_A base) s.heap H locs) {t : State} (ht : t.heap = H1) (hRt : xa_Rl s0 base t) (hz : H.size ≤ H1.size) (hL : ∀ q ∈ L1, xa_A base q.base) : va_S (xa_A base) s.heap H1 (locs ++ L1) := by
  refine ⟨Nat.le_trans hS.1 hz, fun q h1 h2 => ?_, fun q hq => ?_⟩
  · have hq : q < base := Nat.not_le.mp h2
    rw [← ht, hRt.2.2 q hq, hR.2.2 q hq]
  · rcases List.mem_append.mp hq with h | h
    · exact hS.2.2 q h
    · exact hL q h
theorem xd_ret {M : xa_M} (F : xa_Fr D cl Ts cs b base L xs M p s m args meth c) (hR : xa_Rl s0 base s) {pc : Nat} {i : Jvm.ClassFile.Instr} {len : Nat} (hck : xa_ckR M pc i len = true) {st : List Value} {h h' : List va_E} {o : Outcome} {k z : Nat} (hn : xa_ret (xa_rt M) i st h = some (o, h', k, z))
    (hM : xa_Mt D cl cs b base h H) (hS : va_S (xa_A base) s.heap H locs) {ls : Array Slot} : W p l e R s m args below meth c H locs cells slots (xb_MQ below (xa_Qc D cl cs b base s0 o h') args s (cells + k) (slots + z) (xa_A base)) (F0 m pc ls (st.map (xa_rv b base))) := by
  obtain ⟨hx, hb, hml, hown, hts, hK, hX, hbb, hbs, hlk, hrt, hnm, hxt⟩ := F
  unfold xa_ckR at hck
  simp only [Bool.and_eq_true, decide_eq_true_eq] at hck
  obtain ⟨hd, rfl⟩ := hck
  have hQ : ∀ t : State, t.heap = H → s.WarmedH t.vm → xa_Rl s0 base t ∧ xa_Mt D cl cs b base h t.heap := fun t ht hW =>
    ⟨⟨State.WarmedH.trans hR.1 hW, by rw [ht]; exact Nat.le_trans hR.2.1 hS.1, fun q hq => by rw [ht, hS.2.1 q (Nat.lt_of_lt_of_le hq hR.2.1) (Nat.not_le.mpr hq)]; exact hR.2.2 q hq⟩, by rw [ht]; exact hM⟩
  unfold xa_ret at hn
  split at hn
  · split at hn
    · split at hn
      · rename_i hr
        cases hn
        exact xd_mono xd_MQ (W.iret hx hb (hrt.trans hr) (fun t ht hW => ⟨rfl, hQ t ht hW⟩) (fun q hq => hS.2.2 q hq) hd hlk)
      · rename_i x _ hr
        cases hn
        intro T hT X
        obtain ⟨fs, hret, hrun, hended, hW, hframe⟩ := X.leave (v := some (.int (vp_nar .boolean x))) (fun h => by rw [hrt, hr] at h; cases h) hlk
        have hmeth' : T.vm.method? m = some meth := X.method'
        refine ⟨T.setFrames fs, ?_, .returned (some (.int (vp_nar .boolean x))), hrun, hended, ⟨rfl, hQ _ hT hW⟩, locs, ⟨hW, hframe⟩, fun q hq => hS.2.2 q hq⟩
        have hr' : meth.sig.returnType = some .boolean := hrt.trans hr
        have hnr : narrow .boolean (.int x) = .int (vp_nar .boolean x) := rfl
        show Steps p.tables e below (T.setTop (F0 m pc ls [.int x])) _
        jvm_step X.here [X.here.top, hx, hb, hd, hmeth', hr', hnr]
        (try refine ⟨rfl, ?_⟩); (try refine ⟨rfl, ?_⟩)
        first | (intro acts; rw [hret _ acts rfl rfl rfl]) | rw [hret _ _ rfl rfl rfl]
        exact Steps.refl _
      · cases hn
    · cases hn
  · split at hn
    · split at hn
      · rename_i hr
        cases hn
        exact xd_mono xd_MQ (W.lret hx hb (hrt.trans hr) (fun t ht hW => ⟨rfl, hQ t ht hW⟩) (fun q hq => hS.2.2 q hq) hd hlk)
      · cases hn
    · cases hn
  · split at hn
    · split at hn
      · rename_i hr
        cases hn
        exact xd_mono xd_MQ (W.vret hx hb (hrt.trans hr) (fun t ht hW => ⟨rfl, hQ t ht hW⟩) (fun q hq => hS.2.2 q hq) hd hlk)
      · cases hn
    · cases hn
  · cases hn
set_option maxHeartbeats 2000000 in
theorem xd_thr (G : xa_G l D cl Ts Th cs b base L xs s0 mt NY tk) {M : xa_M} (F : xa_Fr D cl Ts cs b base L xs M p s m args meth c) (hR : xa_Rl s0 base s) {pc : Nat} {i : Jvm.ClassFile.Instr} {r : Nat} {ts : List Nat} {Tk : List Jvm.Cond} (hsub : ∀ w ∈ Tk, w ∈ Ts) (hck : xa_ckT cl Tk Th M pc i r ts = true) {st : List Value} {h : List va_E}
    (hM : xa_Mt D cl cs b base h H) (hS : va_S (xa_A base) s.heap H locs) (hcs : s.heap.size + cells ≤ base + h.length) (hc : cells + 1 ≤ R.cells) (hz : slots + 6 ≤ R.slots) (hfr : 6 ≤ R.frames) (hlo : 100 ≤ R.locals) (hcat : xa_cats st ≤ 8) {ls : Array Slot} (hls : ls.size = xa_mL M) :
    W p l e R s m args below meth c H locs cells slots (xb_MQ below (xa_Qc D cl cs b base s0 (.threw (h.length + 1)) (h ++ [.inr (r, [])])) args s (cells + 1) (slots + 6) (xa_A base)) (F0 m pc ls (st.map (xa_rv b base))) := by
  obtain ⟨hx, hb, hml, hown, hts, hK, hX, hbb, hbs, hlk, hrt, hnm, hxt⟩ := F
  obtain ⟨-, -, g3, g4, -, -, -, g8⟩ := G
  unfold xa_ckT at hck
  split at hck
  · rename_i ci sx ic w E T0 hcl
    simp only [Bool.and_eq_true, Bool.or_eq_true, decide_eq_true_eq] at hck
    obtain ⟨d0, hhz, d3, d4, d6, d9, w1, w2, w3, w4, w5, w6⟩ := hck
    have htab : c.exceptionTable.toList = [] := by
      rw [hxt, xa_hh, List.isEmpty_iff.mp hhz]; rfl
    obtain ⟨q, hq, hqm⟩ := List.any_eq_true.mp w4
    split at hqm
    · rename_i o x text
      simp only [Bool.and_eq_true, decide_eq_true_eq] at hqm
      obtain ⟨rfl, rfl⟩ := hqm
      intro T hT X
      have hsz : T.heap.size = base + h.length := by have h1 := X.heapSize; have h2 := hM.1; rw [← hT] at h2; omega
      have hRx : xa_Rl s0 base (xt_s s T) := ⟨hR.1, by show base ≤ T.heap.size; omega, fun q hq => by
        show T.heap[q]? = _
        rw [hT, hS.2.1 q (Nat.lt_of_lt_of_le hq hR.2.1) (Nat.not_le.mpr hq)]
        exact hR.2.2 q hq⟩
      obtain ⟨U, u1, u2, u3, u4, u5, u6, ce, u7, u8, u9⟩ := xt_throw X hx (g8 e X.admits) (own := (xa_nm M).cls) (E := E) (text := text) (names := xe_names) (ci := ci) (sx := x) (ic := ic) (w := w) hown w5 (by decide)
        (fun a ha => by
          have h1 := List.all_eq_true.mp w6 a ha
          simp only [Bool.or_eq_true, decide_eq_true_eq] at h1
          rcases h1 with h1 | h1
          · exact g3 a (hsub a h1) _ _ hRx.1
          · exact g4 a h1 _ _ hRx)
        (hts _ (hsub _ w1)) (hts _ (hsub _ w2)) (hts _ (hsub _ w3)) (hts _ (hsub _ hq)) (pc := pc) (ls := ls) (st := st.map (xa_rv b base)) (hls.trans hml.symm) (by rw [hb]; exact d0) (by rw [hb]; exact d3) (by rw [hb]; exact d4) (by rw [hb]; exact d6) (by rw [hb]; exact d9) (by rw [htab]; intro y hy; cases hy)
        (by show 2 + 3 < R.frames; omega) (by rw [xa_cats_rv]; show _ + 1 + (13 * (2 + 1) + 42) ≤ R.locals; omega) hc hz hlk
      refine ⟨U, u1, .threw T.heap.size, u2, u3, ⟨by rw [hsz]; rfl, ⟨State.WarmedH.trans hR.1 u4, ?_, fun q hq => ?_⟩, ?_⟩, locs, ⟨u4, u5⟩, fun q hq => hS.2.2 q hq⟩
      · have := (Array.getElem?_eq_some_iff.mp u7).1
        omega
      · rw [u6 q (by omega)]
        exact hRx.2.2 q hq
      · have hMT : xa_Mt D cl cs b base h T.heap := by rw [hT]; exact hM
        refine ⟨?_, ?_⟩
        · have := (Array.getElem?_eq_some_iff.mp u7).1
          rw [List.length_append]
          show base + (h.length + 1) ≤ _
          omega
        · rw [xa_W_push]
          refine va_P.app (hMT.2.kept fun k q hk => u6 q.1 (hMT.2 k q hk).lt) (fun k q hk => ?_)
          have h1 : k < 1 := (List.getElem?_eq_some_iff.mp hk).1
          rw [show k = 0 by omega] at hk
          cases hk
          refine ⟨_, hcl, ce, by rw [← hsz]; exact u7, ?_, u9, fun k hk => absurd hk (Nat.not_lt_zero k)⟩
          exact Option.some.inj (u8.symm.trans (hK.1 r _ hcl).2.1)
    · cases hqm
  · cases hck
end XZ
def xa_I (l : Launch) (D : va_G) (cl : List vw_C) (Ts : List Jvm.Cond) (cs : ClassId × ClassId × ClassId) (b base L : Nat) (xs : Nat → Int32) (s0 : State) (mt : Nat → xa_M) (NY n : Nat) : Prop :=
  ∀ (d w y ip : Nat) (lv : List (Nat × Value)) (st : List Value) (h : List va_E) (o : Outcome) (h' : List va_E) (k z : Nat), y < NY → xa_ev mt L xs n d w y ip lv st h = some (o, h', k, z) →
    ∀ (p : Program) (e : Env) (R : Room) (s : State) (m : MethodId) (args : Array Value) (below : List Frame) (meth : Method) (c : Code) (H : Heap) (locs : List Loc) (cells slots : Nat) (ls : Array Slot),
      xa_Fr D cl Ts cs b base L xs (mt y) p s m args meth c → xa_Rl s0 base s → lv_has ls (xa_mL (mt y)) (xa_lv b base lv) → xa_Mt D cl cs b base h H → va_S (xa_A base) s.heap H locs → s.heap.size + cells ≤ base + h.length → cells + k ≤ R.cells → slots + z ≤ R.slots → d ≤ R.frames → w ≤ R.locals →
      W p l e R s m args below meth c H locs cells slots (xb_MQ below (xa_Qc D cl cs b base s0 o h') args s (cells + k) (slots + z) (xa_A base)) (F0 m (xa_pc (mt y) ip) ls (st.map (xa_rv b base)))
theorem xa_ev_len {mt : Nat → xa_M} {L : Nat} {xs : Nat → Int32} : ∀ (n d w y ip : Nat) (lv : List (Nat × Value)) (st : List Value) (h : List va_E) (o : Outcome) (h' : List va_E) (k z : Nat), xa_ev mt L xs n d w y ip lv st h = some (o, h', k, z) → h'.length = h.length + k := by
  intro n
  induction n with
  | zero => intro d w y ip lv st h o h' k z e; cases e
  | succ n ih =>
    intro d w y ip lv st h o h' k z e
    replace e : xa_stp mt L xs (xa_ev mt L xs n) d w y ip lv st h = some (o, h', k, z) := e
    unfold xa_stp at e
    (try dsimp only at e)
    split at e
    · cases e
    · split at e
      · split at e
        · cases e
        · rename_i hnx
          obtain ⟨k1, z1, e1, rfl, rfl⟩ := xa_add_some e
          have h1 := xa_nx_len hnx
          have h2 := ih _ _ _ _ _ _ _ _ _ _ _ e1
          omega
      · unfold xa_ret at e
        repeat' (first | (cases e; rfl) | (cases e; done) | (split at e))
      · obtain ⟨-, e⟩ := xa_if_some e
        cases e
        rw [List.length_append]; rfl
      · obtain ⟨-, e⟩ := xa_if_some e
        split at e
        · cases e
        · rename_i hc
          obtain ⟨k1, z1, e1, rfl, rfl⟩ := xa_add_some e
          have h1 := ih _ _ _ _ _ _ _ _ _ _ _ hc
          have h2 := ih _ _ _ _ _ _ _ _ _ _ _ e1
          omega
        · rename_i hc
          have h1 := ih _ _ _ _ _ _ _ _ _ _ _ hc
          split at e
          · obtain ⟨-, e⟩ := xa_if_some e
            cases e
            exact h1
          · obtain ⟨k1, z1, e1, rfl, rfl⟩ := xa_add_some e
            have h2 := ih _ _ _ _ _ _ _ _ _ _ _ e1
            omega
      · obtain ⟨-, e⟩ := xa_if_some e
        split at e
        · cases e
        · rename_i hnx
          obtain ⟨k1, z1, e1, rfl, rfl⟩ := xa_add_some e
          have h1 := xa_nx_len hnx
          have h2 := ih _ _ _ _ _ _ _ _ _ _ _ e1
          omega
section XY
variable {l : Launch} {D : va_G} {cl : List vw_C} {Ts Th : List Jvm.Cond} {cs : ClassId × ClassId × ClassId} {b base L : Nat} {xs : Nat → Int32} {s0 : State} {mt : Nat → xa_M} {NY : Nat} {tk : Nat → List Jvm.Cond}
theorem xd_met (G : xa_G l D cl Ts Th cs b base L xs s0 mt NY tk) {n : Nat} (IH : xa_I l D cl Ts cs b base L xs s0 mt NY n) {d w y : Nat} {vs : List Value} {h : List va_E} {o : Outcome} {h' : List va_E} {k z : Nat} (hy : y < NY) (hev : xa_ev mt L xs n d w y 0 (lv_args 0 vs) [] h = some (o, h', k, z)) (hcat : xa_cats vs ≤ xa_mL (mt y)) :
    xb_Met l (xa_nm (mt y)) [xa_cwM (mt y)] { frames := d, cells := k, slots := z, locals := w } (xa_Pc D cl cs b base s0 vs h) (xa_Qc D cl cs b base s0 o h') k z (xa_A base) := by
  have hck := (G.2.1 y hy).1
  unfold xa_ckM at hck
  simp only [Bool.and_eq_true, decide_eq_true_eq] at hck
  refine xb_ofW (cc := xa_by (mt y)) (maxL := xa_mL (mt y)) (ret := xa_rt (mt y)) (hh := xa_hh (mt y)) (xa_pnm_ok hck.2.1) (List.mem_singleton.mpr rfl) ?_
  intro p e s m args below meth c s₁ B hml hxt hP
  obtain ⟨rfl, hR, hM, hz⟩ := hP
  have F := xd_Fr (args := (vs.map (xa_rv b base)).toArray) G hR B.exec B.bytes hml (findClass_of_methodNamed B.named) B.notSynchronized B.returns (name_of_methodNamed B.named B.method).1 hxt
  have hl := lv_entry (vs.map (xa_rv b base)) (n := xa_mL (mt y)) (by rw [xa_sl_len]; unfold xa_cats; rw [xa_cats_rv]; exact hcat)
  rw [lg_entry_eq]
  have h1 := IH d w y 0 (lv_args 0 vs) [] h o h' k z hy hev p e { frames := d, cells := k, slots := z, locals := w } s m _ below meth c s.heap [] 0 0 _ F hR (by rw [xa_lv_args]; exact hl) hM va_S.rf (by omega) (by show 0 + k ≤ k; omega) (by show 0 + z ≤ z; omega) (Nat.le_refl _) (Nat.le_refl _)
  rw [hck.1, Nat.zero_add, Nat.zero_add] at h1
  exact h1
end XY

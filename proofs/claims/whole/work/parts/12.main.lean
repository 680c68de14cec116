theorem xa_kind_in (i : Jvm.ClassFile.Instr) (r q : Nat) : xa_kind i r q = 0 ∨ xa_kind i r q = 1 ∨ xa_kind i r q = 2 ∨ xa_kind i r q = 3 ∨ xa_kind i r q = 4 := by
  unfold xa_kind
  split
  · exact Or.inr (Or.inl rfl)
  · exact Or.inr (Or.inl rfl)
  · exact Or.inr (Or.inl rfl)
  · cases Nat.beq q 99
    · exact Or.inl rfl
    · exact Or.inr (Or.inr (Or.inl rfl))
  · exact Or.inr (Or.inr (Or.inr (Or.inl rfl)))
  · cases Nat.blt r 1000
    · exact Or.inr (Or.inr (Or.inr (Or.inr rfl)))
    · exact Or.inr (Or.inr (Or.inr (Or.inl rfl)))
  · cases Nat.blt r 1000
    · exact Or.inr (Or.inr (Or.inr (Or.inr rfl)))
    · exact Or.inr (Or.inr (Or.inr (Or.inl rfl)))
  · exact Or.inl rfl
theorem xd_lk {Ts : List Jvm.Cond} {own : String} {x : Nat} {y : MethodName} {args : Array Value} {s : State} (h : xa_lk Ts own x y = true) (hts : ∀ w ∈ Ts, w.before args s = true) : xc_lk own x y args s := by
  unfold xa_lk at h
  rw [Bool.or_eq_true, decide_eq_true_eq] at h
  rcases h with h | h
  · exact Or.inl (hts _ h)
  · obtain ⟨q, hq, hm⟩ := List.any_eq_true.mp h
    split at hm
    · rename_i o i z hst
      simp only [Bool.and_eq_true, decide_eq_true_eq] at hm
      obtain ⟨rfl, rfl, rfl⟩ := hm
      exact Or.inr ⟨hst, hts _ hq⟩
    · cases hm
theorem xd_split {st : List Value} {q : Nat} (hq : 1 ≤ q) (hl : q ≤ st.length) {v : Value} (hv : st[q - 1]? = some v) : st = (st.take (q - 1)) ++ v :: st.drop q ∧ (st.take q).reverse = v :: (st.take (q - 1)).reverse := by
  obtain ⟨j, rfl⟩ : ∃ j, q = j + 1 := ⟨q - 1, by omega⟩
  rw [Nat.add_sub_cancel] at hv ⊢
  have h1 : st.take (j + 1) = st.take j ++ [v] := by rw [List.take_add_one, hv]; rfl
  refine ⟨?_, by rw [h1, List.reverse_append]; rfl⟩
  conv => lhs; rw [← List.take_append_drop (j + 1) st, h1]
  simp
section XK
variable {l : Launch} {D : va_G} {cl : List vw_C} {Ts Th : List Jvm.Cond} {cs : ClassId × ClassId × ClassId} {b base L : Nat} {xs : Nat → Int32} {s0 : State} {mt : Nat → xa_M} {NY : Nat} {tk : Nat → List Jvm.Cond}
variable {p : Program} {e : Env} {R : Room} {s : State} {m : MethodId} {args : Array Value} {below : List Frame} {meth : Method} {c : Code} {T : State} {locs : List Loc} {cells slots : Nat}
set_option maxHeartbeats 2000000 in
theorem xd_inv {M : xa_M} (F : xa_Fr D cl Ts cs b base L xs M p s m args meth c) {pc : Nat} {i : Jvm.ClassFile.Instr} {len nip r q : Nat} {ts : List Nat} {Tk : List Jvm.Cond} (hsub : ∀ w ∈ Tk, w ∈ Ts) (hck : xa_ckK cl Tk mt NY M pc i len nip r q ts = true) {st : List Value} {h : List va_E} (hcok : xa_cok i (xa_mL (mt r)) q ts st h = true)
    (X : Stand p l e R s m args below meth c T locs cells slots) (hM : xa_Mt D cl cs b base h T.heap) {ls : Array Slot} :
    xc_In p l e R s m args below meth c T locs cells slots (xa_nm (mt r)) (F0 m pc ls (st.map (xa_rv b base))) ((st.drop q).map (xa_rv b base)) (((st.take q).reverse).map (xa_rv b base)) := by
  obtain ⟨hx, hb, hml, hown, hts, hK, hX, hbb, hbs, hlk, hrt, hnm, hxt⟩ := F
  have htk : ∀ w ∈ Tk, w.before args s = true := fun w hw => hts w (hsub w hw)
  unfold xa_ckK at hck
  unfold xa_cok at hcok
  simp only [Bool.and_eq_true, decide_eq_true_eq] at hck hcok
  obtain ⟨hd, rfl, hp, hrN, hmL, n1, n2, w1, w2, -, hck⟩ := hck
  obtain ⟨c1, c2, c3, c4⟩ := hcok
  have hq := Nat.le_of_ble_eq_true c1
  have hpar : ∀ {j : Nat}, (parseMethodDescriptor (xa_nm (mt r)).desc).map (fun d => d.parameters.length) = some j → ∀ sig, parseMethodDescriptor (xa_nm (mt r)).desc = some sig → j = sig.parameters.length := by
    intro j h1 sig h2
    rw [h2] at h1
    exact (Option.some.inj h1).symm
  cases i
  case invokevirtual x =>
    simp only [Bool.and_eq_true, decide_eq_true_eq] at hck
    obtain ⟨k1, k2, k3, k4, k5, k6⟩ := hck
    unfold xa_rec at c4
    dsimp only at c4
    split at c4
    · rename_i j hj
      split at c4
      · rename_i c0 fs hjh
        have hc0 : c0 = ts.headD 999 := Nat.eq_of_beq_eq_true c4
        subst hc0
        cases hcl : cl[ts.headD 999]? with
        | none => rw [hcl] at k6; cases k6
        | some w =>
          rw [hcl] at k6
          have hw : w.1 = (xa_nm (mt r)).cls := Option.some.inj k6
          obtain ⟨s1, s2⟩ := xd_split k4 hq hj
          obtain ⟨cellB, q1, q2, q3⟩ := va_recv hK hM.2 hcl (xa_W_at hjh)
          rw [hw] at q3
          rw [s2]
          refine xc_V X hx (C := (xa_nm (mt r)).cls) hown (xd_lk k1 htk) (htk _ k2) (htk _ k3) ⟨n1, n2⟩ q1 q2 q3 (htk _ w2) (g := F0 m pc ls (st.map (xa_rv b base))) rfl (argsL := ((st.take (q - 1)).reverse).map (xa_rv b base)) (fun sig h2 => ?_) ?_ (by rw [hb]; exact hd)
          · rw [List.length_map, List.length_reverse, List.length_take]
            rw [← hpar k5 sig h2]
            omega
          · show st.map (xa_rv b base) = _
            rw [List.map_reverse, List.reverse_reverse]
            conv => lhs; rw [s1]
            rw [List.map_append]
            rfl
      · cases c4
    · cases c4
  case invokestatic x =>
    simp only [Bool.and_eq_true, decide_eq_true_eq] at hck
    obtain ⟨k1, k2, k3⟩ := hck
    have hcode := htk _ w2
    obtain ⟨mk, hnamed⟩ : ∃ mk, s.methodNamed? (xa_nm (mt r)) = some mk := by
      unfold xa_cwM xb_cw at hcode
      split at hcode
      · exact Cond.code_named hcode
      · obtain ⟨m9, _, _, hn9, _⟩ := Cond.codeWith_spec hcode
        exact ⟨m9, hn9⟩
    refine xc_S X hx hown (xd_lk k1 htk) (htk _ k2) (htk _ w1) ⟨n1, n2⟩ (htk _ w2) hnamed (g := F0 m pc ls (st.map (xa_rv b base))) rfl (fun sig h2 => ?_) ?_ (by rw [hb]; exact hd)
    · rw [List.length_map, List.length_reverse, List.length_take]
      rw [← hpar k3 sig h2]
      omega
    · show st.map (xa_rv b base) = _
      rw [List.map_reverse, List.reverse_reverse, ← List.map_append, List.take_append_drop]
  case invokespecial x =>
    simp only [Bool.and_eq_true, decide_eq_true_eq] at hck
    obtain ⟨k1, k2, k3, k4, k5, k6, k7⟩ := hck
    unfold xa_rec at c4
    dsimp only at c4
    split at c4
    · rename_i a hj
      obtain ⟨s1, s2⟩ := xd_split k4 hq hj
      rw [s2, List.map_cons, xa_rv_ref]
      have hcode : (Jvm.Cond.code (xa_nm (mt r)) (xa_by (mt r)) (xa_mL (mt r)) none).before args s = true := by
        have h1 := htk _ w2
        unfold xa_cwM at h1
        rw [k7, xa_hh, List.isEmpty_iff.mp k6] at h1
        exact h1
      refine xc_I X hx hown k3 (xd_lk k1 htk) (htk _ k2) ⟨n1, n2⟩ hcode (g := F0 m pc ls (st.map (xa_rv b base))) rfl (fun sig h2 => ?_) ?_ (by rw [hb]; exact hd)
      · rw [List.length_map, List.length_reverse, List.length_take]
        rw [← hpar k5 sig h2]
        omega
      · show st.map (xa_rv b base) = _
        rw [List.map_reverse, List.reverse_reverse]
        conv => lhs; rw [s1]
        rw [List.map_append, List.map_cons, xa_rv_ref]
    · cases c4
  all_goals (cases hck)
set_option maxHeartbeats 4000000 in
theorem xa_sim (G : xa_G l D cl Ts Th cs b base L xs s0 mt NY tk) : ∀ n, xa_I l D cl Ts cs b base L xs s0 mt NY n := by
  intro n
  induction n with
  | zero => intro d w y ip lv st h o h' k z _ e; cases e
  | succ n ih =>
    intro d w y ip lv st h o h' k z hy hev p e R s m args below meth c H locs cells slots ls F hR hl hM hS hcs hc hz hfr hlo
    have hckM := (G.2.1 y hy).1
    have hsub := (G.2.1 y hy).2
    unfold xa_ckM at hckM
    simp only [Bool.and_eq_true, decide_eq_true_eq] at hckM
    replace hev : xa_stp mt L xs (xa_ev mt L xs n) d w y ip lv st h = some (o, h', k, z) := hev
    unfold xa_stp at hev
    (try dsimp only at hev)
    split at hev
    · cases hev
    · rename_i pc i len nip r q ts hrow
      have hpc : xa_pc (mt y) ip = pc := by unfold xa_pc; rw [hrow]
      rw [hpc]
      have hckw := List.all_eq_true.mp hckM.2.2 _ (List.mem_of_getElem? hrow)
      unfold xa_ckW at hckw
      (try dsimp only at hckw)
      split at hev
      · rename_i hk
        rw [hk] at hckw
        split at hev
        · cases hev
        · rename_i ip' lv' st' h1 k1 z1 hnx
          obtain ⟨k2, z2, e1, rfl, rfl⟩ := xa_add_some hev
          have hlen := xa_nx_len hnx
          refine xa_sim_nx G.1 F hsub hckw hnx hl hM hS hcs (by omega) (by omega) (fun h4 => by rw [hk] at h4; cases h4) ?_
          intro pc' ls' H1 locs1 hpc1 hl1 hM1 hS1
          have h2 := ih d w y ip' lv' st' h1 o h' k2 z2 hy e1 p e R s m args below meth c H1 locs1 (cells + k1) (slots + z1) ls' F hR hl1 hM1 hS1 (by omega) (by omega) (by omega) hfr hlo
          rw [hpc1, Nat.add_assoc, Nat.add_assoc] at h2
          exact h2
      · rename_i hk
        rw [hk] at hckw
        exact xd_ret F hR hckw hev hM hS
      · rename_i hk
        rw [hk] at hckw
        obtain ⟨hcat, hev⟩ := xa_if_some hev
        cases hev
        simp only [Bool.and_eq_true] at hcat
        obtain ⟨hc8, hd6, hw1⟩ := hcat
        have hd6' := Nat.le_of_ble_eq_true hd6
        have hw1' := Nat.le_of_ble_eq_true hw1
        exact xd_thr G F hR hsub hckw hM hS hcs hc hz (by omega) (by omega) (Nat.le_of_ble_eq_true hc8) hl.1
      · rename_i hk
        rw [hk] at hckw
        have hckK : xa_ckK cl (tk y) mt NY (mt y) pc i len nip r q ts = true := hckw
        · obtain ⟨hcok3, hev⟩ := xa_if_some hev
          rw [Bool.and_eq_true, Bool.and_eq_true] at hcok3
          obtain ⟨hcok, hd1, hcw⟩ := hcok3
          have hd1' := Nat.le_of_ble_eq_true hd1
          have hcw' := Nat.le_of_ble_eq_true hcw
          have hck2 := hckK
          unfold xa_ckK at hck2
          simp only [Bool.and_eq_true, decide_eq_true_eq] at hck2
          obtain ⟨hd, rfl, hp, hrN, hmL, n1, n2, w1, w2, hH, -⟩ := hck2
          have hcok2 := hcok
          unfold xa_cok at hcok2
          simp only [Bool.and_eq_true] at hcok2
          obtain ⟨c1, c2, c3, -⟩ := hcok2
          have c2' := Nat.le_of_ble_eq_true c2
          have c3' := Nat.le_of_ble_eq_true c3
          have c3r : xa_cats (st.take q).reverse ≤ xa_mL (mt r) := by
            have h1 : xa_cats (st.take q).reverse = xa_cats (st.take q) := by
              unfold xa_cats
              rw [List.map_reverse, List.sum_reverse]
            rw [h1]; exact c3'
          have step : ∀ (oc : Outcome) (h1 : List va_E) (k1 z1 : Nat), xa_ev mt L xs n (d - 1) (w - ts.getD 1 0) r 0 (lv_args 0 (st.take q).reverse) [] h = some (oc, h1, k1, z1) → cells + k1 ≤ R.cells → slots + z1 ≤ R.slots → ∀ T : State, T.heap = H → Stand p l e R s m args below meth c T locs cells slots →
              (∃ (v : Option Value) (B : State) (L1 : List Loc), oc = .returned v ∧ Stand p l e R s m args below meth c B (locs ++ L1) (cells + k1) (slots + z1) ∧ xa_Mt D cl cs b base h1 B.heap ∧ va_S (xa_A base) s.heap B.heap (locs ++ L1) ∧ ∀ t, Steps p.tables e below (B.setTop (F0 m (pc + 3) ls ((v.toList ++ st.drop q).map (xa_rv b base)))) t → Steps p.tables e below (T.setTop (F0 m pc ls (st.map (xa_rv b base)))) t) ∨
              (∃ (x : Nat) (B : State) (L1 : List Loc), oc = .threw x ∧ Stand p l e R s m args below meth c B (locs ++ L1) (cells + k1) (slots + z1) ∧ xa_Rl s0 base B ∧ xa_Mt D cl cs b base h1 B.heap ∧ va_S (xa_A base) s.heap B.heap (locs ++ L1) ∧ ∀ t, Steps p.tables e below ((B.setTop (F0 m pc ls ((st.drop q).map (xa_rv b base)))).pushFrame (.throwing (xa_ad b base x))) t → Steps p.tables e below (T.setTop (F0 m pc ls (st.map (xa_rv b base)))) t) := by
            intro oc h1 k1 z1 hcal hk1 hz1 T hT X
            have hlen := xa_ev_len _ _ _ _ _ _ _ _ _ _ _ _ hcal
            have hMT : xa_Mt D cl cs b base h T.heap := by rw [hT]; exact hM
            have hsz : T.heap.size = base + h.length := by have g1 := X.heapSize; have g2 := hMT.1; omega
            obtain ⟨mk, vm₁, hnamed, X₁, hstep⟩ := xd_inv F hsub hckK hcok X hMT (ls := ls)
            have hmet := xd_met G ih hrN hcal c3r
            have hx := F.1
            have hb := F.2.1
            have hml := F.2.2.1
            have hts := F.2.2.2.2.1
            have hwm : ∀ w ∈ Ts, ∀ a' : Array Value, w.before a' (T.setVm vm₁) = true := fun w hw a' => G.2.2.1 w hw _ a' (State.WarmedH.trans hR.1 X₁.warmed)
            have hRx : xa_Rl s0 base (T.setVm vm₁) := ⟨State.WarmedH.trans hR.1 X₁.warmed, by show base ≤ T.heap.size; omega, fun q hq => by
              show T.heap[q]? = _
              rw [hT, hS.2.1 q (Nat.lt_of_lt_of_le hq hR.2.1) (Nat.not_le.mpr hq)]
              exact hR.2.2 q hq⟩
            have hcall := xb_call (cc := xa_by (mt r)) (maxL := xa_mL (mt r)) (ret := xa_rt (mt r)) (hh := xa_hh (mt r)) X₁ hmet (X₁.named hnamed) (g := F0 m pc ls ((st.drop q).map (xa_rv b base))) rfl (hl.1.trans hml.symm) (ig := i) (by rw [hb]; exact hd)
              (fun w hw a' => by rw [List.mem_singleton.mp hw]; exact hwm _ (hsub _ w2) a') (List.mem_singleton.mpr rfl) (fun a' => hwm _ (hsub _ w1) a') (by show d - 1 + 1 ≤ _; omega)
              (by rw [xa_cats_rv]; show 2 * 0 + _ + _ + (w - ts.getD 1 0) ≤ _; omega) hk1 hz1 (a := (((st.take q).reverse).map (xa_rv b base)).toArray) ⟨rfl, hRx, hMT, by show T.heap.size ≤ _; omega⟩
            rcases hcall with ⟨v, t, B, L1, XB, hL1, hBt, hBv, hq, hsteps⟩ | ⟨x, t, B, L1, XB, hL1, hBt, hBv, hq, hsteps⟩
            · obtain ⟨ho, hRt, hMt⟩ := hq
              cases oc with
              | threw x => cases ho
              | returned v0 =>
                left
                have hv : v = v0.map (xa_rv b base) := by cases ho; rfl
                subst hv
                refine ⟨v0, B, L1, rfl, XB, by rw [hBt]; exact hMt, xd_S hR hS hBt.symm hRt (by rw [hBt, ← hT]; have g1 := hMt.1; omega) hL1, fun t' ht' => hstep _ (hsteps.trans ?_)⟩
                have hst : (v0.map (xa_rv b base)).toList ++ (st.drop q).map (xa_rv b base) = (v0.toList ++ st.drop q).map (xa_rv b base) := by cases v0 <;> simp
                show Steps p.tables e below (B.setTop (F0 m (pc + 3) ls ((v0.map (xa_rv b base)).toList ++ (st.drop q).map (xa_rv b base)))) t'
                rw [hst]
                exact ht'
            · obtain ⟨ho, hRt, hMt⟩ := hq
              cases oc with
              | returned v0 => cases ho
              | threw x0 =>
                right
                have hv : x = xa_ad b base x0 := by cases ho; rfl
                subst hv
                refine ⟨x0, B, L1, rfl, XB, ⟨by rw [hBv]; exact hRt.1, by rw [hBt]; exact hRt.2.1, fun q hq => by rw [hBt]; exact hRt.2.2 q hq⟩, by rw [hBt]; exact hMt, xd_S hR hS hBt.symm hRt (by rw [hBt, ← hT]; have g1 := hMt.1; omega) hL1, fun t' ht' => hstep _ (hsteps.trans ht')⟩
          split at hev
          · cases hev
          · rename_i v h1 k1 z1 hcal
            obtain ⟨k2, z2, e1, rfl, rfl⟩ := xa_add_some hev
            have hlen := xa_ev_len _ _ _ _ _ _ _ _ _ _ _ _ hcal
            intro T hT X
            rcases step _ _ _ _ hcal (by omega) (by omega) T hT X with ⟨v', B, L1, ho, XB, hMB, hSB, hgo⟩ | ⟨x, B, L1, ho, _⟩
            · cases ho
              have h2 := ih d w y nip lv (v.toList ++ st.drop q) h1 o h' k2 z2 hy e1 p e R s m args below meth c B.heap (locs ++ L1) (cells + k1) (slots + z1) ls F hR hl hMB hSB (by omega) (by omega) (by omega) hfr hlo
              rw [hp, Nat.add_assoc, Nat.add_assoc] at h2
              obtain ⟨t, a1, b1⟩ := h2 B rfl XB
              exact ⟨t, hgo t a1, b1⟩
            · cases ho
          · rename_i x h1 k1 z1 hcal
            have hlen := xa_ev_len _ _ _ _ _ _ _ _ _ _ _ _ hcal
            split at hev
            · obtain ⟨hemp, hev⟩ := xa_if_some hev
              cases hev
              intro T hT X
              rcases step _ _ _ _ hcal hc hz T hT X with ⟨v', B, L1, ho, _⟩ | ⟨x', B, L1, ho, XB, hRB, hMB, hSB, hgo⟩
              · cases ho
              · cases ho
                have htab : c.exceptionTable.toList = [] := by
                  rw [F.2.2.2.2.2.2.2.2.2.2.2.2]
                  have h3 : xa_hz (mt y) = [] := by
                    have h4 := List.isEmpty_iff.mp hemp
                    exact List.map_eq_nil_iff.mp h4
                  rw [xa_hh, h3]; rfl
                obtain ⟨l1, l2, l3, l4, l5⟩ := XB.leaveThrown (xa_ad b base x) (g := F0 m pc ls ((st.drop q).map (xa_rv b base))) rfl rfl rfl (by rw [htab]; intro y hy; cases hy) F.2.2.2.2.2.2.2.2.2.1
                refine ⟨_, hgo _ l1, .threw (xa_ad b base x), l2, l3, ⟨rfl, ?_, hMB⟩, _, ⟨l4, l5⟩, fun q hq => hSB.2.2 q hq⟩
                exact hRB
            · rename_i ip' hfound
              obtain ⟨k2, z2, e1, rfl, rfl⟩ := xa_add_some hev
              intro T hT X
              rcases step _ _ _ _ hcal (by omega) (by omega) T hT X with ⟨v', B, L1, ho, _⟩ | ⟨x', B, L1, ho, XB, hRB, hMB, hSB, hgo⟩
              · cases ho
              · cases ho
                unfold xa_hnd at hfound
                split at hfound
                · cases hfound
                · rename_i j
                  split at hfound
                  · rename_i cx fs hj
                    rw [xa_hd, List.find?_map] at hfound
                    cases hzf : (xa_hz (mt y)).find? ((fun q => Nat.beq q.1 cx) ∘ fun z => z.2) with
                    | none => rw [hzf] at hfound; cases hfound
                    | some z =>
                      rw [hzf] at hfound
                      have hip : z.2.2 = ip' := Option.some.inj hfound
                      have hzm := List.mem_of_find?_eq_some hzf
                      have hz9 : ((fun q : Nat × Nat => Nat.beq q.1 cx) ∘ fun z : (Nat × Nat × Nat × Nat) × Nat × Nat => z.2) z = true := List.find?_some hzf
                      have hzc : z.2.1 = cx := Nat.eq_of_beq_eq_true hz9
                      have hK := F.2.2.2.2.2.1
                      have hts := F.2.2.2.2.1
                      have hown := F.2.2.2.1
                      obtain ⟨r0, hr0, cell, hcell, hcls, hvm, -⟩ := hMB.2 j _ (xa_W_at hj)
                      have hadx : xa_ad b base (j + 1) = base + j := rfl
                      have hClx := (hK.1 cx _ hr0).2
                      have hHz := List.all_eq_true.mp hH
                      have hpl : e.platform.magicAccessors = ({} : Platform).magicAccessors := by rw [XB.admits.platform]
                      obtain ⟨vm', XC, hgo2⟩ := xt_caught XB (a := xa_ad b base (j + 1)) (g := F0 m pc ls ((st.drop q).map (xa_rv b base))) rfl (cell := cell) (by rw [hadx]; exact hcell) (by rw [hvm]; rfl) (by rw [hcls]; obtain ⟨-, kC, hkC, -⟩ := hClx; exact ⟨kC, hkC⟩)
                        (zs := (xa_hz (mt y)).map fun u => ((⟨u.1.1, u.1.2.1, u.1.2.2.1, u.1.2.2.2⟩ : ExceptionTableEntry), Nat.beq u.2.1 cx))
                        (by rw [F.2.2.2.2.2.2.2.2.2.2.2.2, xa_hh, tableOf, List.map_map, List.map_map]; rfl)
                        (fun u hu => by
                          obtain ⟨w, hw, rfl⟩ := List.mem_map.mp hu
                          have h3 := hHz w hw
                          simp only [Bool.and_eq_true, decide_eq_true_eq] at h3
                          obtain ⟨t1, t2, t3, t4, t5⟩ := h3
                          refine ⟨by simp [covers, t1, t2], by simpa using t3, ?_⟩
                          split at t5
                          · rename_i E T0 N0 hclw
                            rw [Bool.and_eq_true, decide_eq_true_eq] at t5
                            obtain ⟨c', hc', hcl'⟩ := Cond.classLink_spec hown (hts _ (hsub _ t5.1)) e.platform hpl
                            refine ⟨c', hcl', ?_⟩
                            have hcw : c' = D.1 w.2.1 := Option.some.inj (hc'.symm.trans (hK.1 w.2.1 _ hclw).2.1)
                            dsimp only
                            cases hbq : Nat.beq w.2.1 cx with
                            | true =>
                              have h5 : w.2.1 = cx := Nat.eq_of_beq_eq_true hbq
                              rw [hcls, hcw, h5]
                              show s.vm.assignableAux (255 + 1) _ _ = true
                              rw [Vm.assignableAux]
                              simp
                            | false =>
                              have h6 := List.all_eq_true.mp t5.2 z hzm
                              rw [hzc] at h6
                              have h7 : Nat.beq cx w.2.1 = false := by
                                cases h8 : Nat.beq cx w.2.1 with
                                | true =>
                                  have h9 := Nat.eq_of_beq_eq_true h8
                                  rw [h9, Nat.beq_refl] at hbq
                                  cases hbq
                                | false => rfl
                              rw [h7, Bool.false_or] at h6
                              split at h6
                              · rename_i E2 T2 N2 hclx
                                have hno := hts _ (hsub _ (of_decide_eq_true h6))
                                have hv := Cond.holds_not_iff.mp hno
                                have e2 : s.vm.findClass E2 = some (D.1 cx) := (hK.1 cx _ hclx).2.1
                                simp only [Cond.value, e2, hc'] at hv
                                rw [hcls]
                                exact Option.some.inj hv
                              · cases h6
                          · cases t5)
                        (x := (⟨z.1.1, z.1.2.1, z.1.2.2.1, z.1.2.2.2⟩, Nat.beq z.2.1 cx)) (by rw [List.find?_map]; show Option.map _ ((xa_hz (mt y)).find? (fun u => Nat.beq u.2.1 cx)) = _; rw [show (xa_hz (mt y)).find? (fun u => Nat.beq u.2.1 cx) = some z from hzf]; rfl)
                      have h3 := hHz z hzm
                      simp only [Bool.and_eq_true, decide_eq_true_eq] at h3
                      have h2 := ih d w y ip' lv [.ref (j + 1)] h1 o h' k2 z2 hy e1 p e R s m args below meth c B.heap (locs ++ L1) (cells + k1) (slots + z1) ls F hR hl hMB hSB (by omega) (by omega) (by omega) hfr hlo
                      rw [← hip, h3.2.2.2.1, Nat.add_assoc, Nat.add_assoc] at h2
                      obtain ⟨t, a1, b1⟩ := h2 (B.setVm vm') rfl XC
                      exact ⟨t, hgo t (hgo2 t a1), b1⟩
                  · cases hfound
      · rename_i hk0 hk1 hk2 hk3
        obtain ⟨hb4, hev⟩ := xa_if_some hev
        rw [Bool.and_eq_true] at hb4
        have hd1 := Nat.le_of_ble_eq_true hb4.1
        have hw30 := Nat.le_of_ble_eq_true hb4.2
        split at hev
        · cases hev
        · rename_i ip' lv' st' h1 k1 z1 hnx
          have hck4 : xa_ck cl (tk y) (mt y) pc i len nip r q ts = true := by
            split at hckw
            · exact hckw
            · rename_i hk; exact absurd hk hk1
            · rename_i hk; exact absurd hk hk2
            · exact hckw
            · rename_i hk4
              exfalso
              rcases xa_kind_in i r q with hh | hh | hh | hh | hh
              · exact hk0 hh
              · exact hk1 hh
              · exact hk2 hh
              · exact hk3 hh
              · exact hk4 hh
          obtain ⟨k2, z2, e1, rfl, rfl⟩ := xa_add_some hev
          have hlen := xa_nx_len hnx
          refine xa_sim_nx G.1 F hsub hck4 hnx hl hM hS hcs (by omega) (by omega) (fun _ => ⟨by omega, by omega⟩) ?_
          intro pc' ls' H1 locs1 hpc1 hl1 hM1 hS1
          have h2 := ih d w y ip' lv' st' h1 o h' k2 z2 hy e1 p e R s m args below meth c H1 locs1 (cells + k1) (slots + z1) ls' F hR hl1 hM1 hS1 (by omega) (by omega) (by omega) hfr hlo
          rw [hpc1, Nat.add_assoc, Nat.add_assoc] at h2
          exact h2
end XK

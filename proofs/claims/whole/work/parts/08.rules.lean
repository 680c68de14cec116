def xv (mt : Nat → xa_M) (L : Nat) (xs : Nat → Int32) (d w y ip : Nat) (lv : List (Nat × Value)) (st : List Value) (h : List va_E) (o : Outcome) (h' : List va_E) (k z : Nat) : Prop := ∃ n, xa_ev mt L xs n d w y ip lv st h = some (o, h', k, z)
def xa_1 (mt : Nat → xa_M) (L : Nat) (xs : Nat → Int32) (y ip : Nat) (lv : List (Nat × Value)) (st : List Value) (h : List va_E) : Option xa_N := match (xa_rows (mt y))[ip]? with
  | none => none
  | some (_, i, _, nip, r, q, ts) => match xa_kind i r q with
    | 0 => xa_nx L xs i nip r q ts lv st h
    | _ => none
def xa_m (mt : Nat → xa_M) (L : Nat) (xs : Nat → Int32) (y : Nat) : Nat → Nat → List (Nat × Value) → List Value → List va_E → Option (Nat × List (Nat × Value) × List Value × List va_E)
  | 0, ip, lv, st, h => some (ip, lv, st, h)
  | n + 1, ip, lv, st, h => match xa_1 mt L xs y ip lv st h with
    | some (ip', lv', st', h', 0, 0) => xa_m mt L xs y n ip' lv' st' h'
    | _ => none
def xa_o (mt : Nat → xa_M) (L : Nat) (xs : Nat → Int32) (y ip : Nat) (lv : List (Nat × Value)) (st : List Value) (h : List va_E) : Option xa_N := match (xa_rows (mt y))[ip]? with
  | none => none
  | some (_, i, _, nip, r, q, ts) => match xa_kind i r q with
    | 4 => xa_nx L xs i nip r q ts lv st h
    | _ => none
def xa_r (mt : Nat → xa_M) (y ip : Nat) (st : List Value) (h : List va_E) : Option xa_O := match (xa_rows (mt y))[ip]? with
  | none => none
  | some (_, i, _, _, r, q, _) => match xa_kind i r q with
    | 1 => xa_ret (xa_rt (mt y)) i st h
    | _ => none
def xa_th (mt : Nat → xa_M) (y ip : Nat) (st : List Value) : Option Nat := match (xa_rows (mt y))[ip]? with
  | none => none
  | some (_, i, _, _, r, q, _) => match xa_kind i r q with
    | 2 => xa_if (Nat.ble (xa_cats st) 8) (some r)
    | _ => none
def xa_cl (mt : Nat → xa_M) (y ip : Nat) (st : List Value) (h : List va_E) : Option (Nat × Nat × Nat × List (Nat × Value) × List Value) := match (xa_rows (mt y))[ip]? with
  | none => none
  | some (_, i, _, nip, r, q, ts) => match xa_kind i r q with
    | 3 => xa_if (xa_cok i (xa_mL (mt r)) q ts st h) (some (r, nip, ts.getD 1 0, lv_args 0 (st.take q).reverse, st.drop q))
    | _ => none
section XV
variable {mt : Nat → xa_M} {L : Nat} {xs : Nat → Int32} {d w y ip : Nat} {lv : List (Nat × Value)} {st : List Value} {h : List va_E} {o : Outcome} {h' : List va_E} {k z : Nat}
theorem xa_1_spec {nn : xa_N} (hn : xa_1 mt L xs y ip lv st h = some nn) : ∃ pc i len nip r q ts, (xa_rows (mt y))[ip]? = some (pc, i, len, nip, r, q, ts) ∧ xa_kind i r q = 0 ∧ xa_nx L xs i nip r q ts lv st h = some nn := by
  unfold xa_1 at hn
  split at hn
  · cases hn
  · rename_i hrow
    split at hn
    · rename_i hk
      exact ⟨_, _, _, _, _, _, _, hrow, hk, hn⟩
    · cases hn
theorem xv_1 {ip' k1 z1 : Nat} {lv' : List (Nat × Value)} {st' : List Value} {h1 : List va_E} (hn : xa_1 mt L xs y ip lv st h = some (ip', lv', st', h1, k1, z1)) (he : xv mt L xs d w y ip' lv' st' h1 o h' k z) : xv mt L xs d w y ip lv st h o h' (k1 + k) (z1 + z) := by
  obtain ⟨n, he⟩ := he
  obtain ⟨pc, i, len, nip, r, q, ts, hrow, hk, hn⟩ := xa_1_spec hn
  refine ⟨n + 1, ?_⟩
  show xa_stp mt L xs (xa_ev mt L xs n) d w y ip lv st h = _
  unfold xa_stp
  simp only [hrow, hk, hn, he, xa_add]
theorem xv_s {ip' : Nat} {lv' : List (Nat × Value)} {st' : List Value} {h1 : List va_E} (hn : xa_1 mt L xs y ip lv st h = some (ip', lv', st', h1, 0, 0)) (he : xv mt L xs d w y ip' lv' st' h1 o h' k z) : xv mt L xs d w y ip lv st h o h' k z := by
  have h1 := xv_1 hn he
  rw [Nat.zero_add, Nat.zero_add] at h1
  exact h1
theorem xv_m (n : Nat) {ip' : Nat} {lv' : List (Nat × Value)} {st' : List Value} {h1 : List va_E} (hn : xa_m mt L xs y n ip lv st h = some (ip', lv', st', h1)) (he : xv mt L xs d w y ip' lv' st' h1 o h' k z) : xv mt L xs d w y ip lv st h o h' k z := by
  induction n generalizing ip lv st h with
  | zero => cases hn; exact he
  | succ n ih =>
    unfold xa_m at hn
    split at hn
    · rename_i hh
      exact xv_s hh (ih hn)
    · cases hn
theorem xv_o {ip' : Nat} {lv' : List (Nat × Value)} {st' : List Value} {h1 : List va_E} (hn : xa_o mt L xs y ip lv st h = some (ip', lv', st', h1, 0, 0)) (hd : 1 ≤ d) (hw : 30 ≤ w) (he : xv mt L xs d w y ip' lv' st' h1 o h' k z) : xv mt L xs d w y ip lv st h o h' k z := by
  obtain ⟨n, he⟩ := he
  refine ⟨n + 1, ?_⟩
  show xa_stp mt L xs (xa_ev mt L xs n) d w y ip lv st h = _
  unfold xa_o at hn
  split at hn
  · cases hn
  · rename_i hrow
    split at hn
    · rename_i hk
      unfold xa_stp
      simp only [hrow, hk, hn, he, xa_add, Nat.zero_add]
      rw [xa_ift]
      simp [hd, hw]
    · cases hn
theorem xv_r (hn : xa_r mt y ip st h = some (o, h', k, z)) : xv mt L xs d w y ip lv st h o h' k z := by
  refine ⟨1, ?_⟩
  show xa_stp mt L xs (xa_ev mt L xs 0) d w y ip lv st h = _
  unfold xa_r at hn
  split at hn
  · cases hn
  · rename_i hrow
    split at hn
    · rename_i hk
      unfold xa_stp
      simp only [hrow, hk, hn]
    · cases hn
theorem xv_t {r : Nat} (hn : xa_th mt y ip st = some r) (hd : 6 ≤ d) (hw : 100 ≤ w) : xv mt L xs d w y ip lv st h (.threw (h.length + 1)) (h ++ [.inr (r, [])]) 1 6 := by
  refine ⟨1, ?_⟩
  show xa_stp mt L xs (xa_ev mt L xs 0) d w y ip lv st h = _
  unfold xa_th at hn
  split at hn
  · cases hn
  · rename_i hrow
    split at hn
    · rename_i hk
      obtain ⟨hc, hn⟩ := xa_ifs hn
      cases hn
      unfold xa_stp
      simp only [hrow, hk]
      rw [xa_ift]
      simp only [Bool.and_eq_true]
      exact ⟨hc, Nat.ble_eq_true_of_le hd, Nat.ble_eq_true_of_le hw⟩
    · cases hn
theorem xa_cl_spec {r nip cost : Nat} {lc : List (Nat × Value)} {rest : List Value} (hc : xa_cl mt y ip st h = some (r, nip, cost, lc, rest)) : ∃ pc i len q ts, (xa_rows (mt y))[ip]? = some (pc, i, len, nip, r, q, ts) ∧ xa_kind i r q = 3 ∧ xa_cok i (xa_mL (mt r)) q ts st h = true ∧ cost = ts.getD 1 0 ∧ lc = lv_args 0 (st.take q).reverse ∧ rest = st.drop q := by
  unfold xa_cl at hc
  split at hc
  · cases hc
  · rename_i hrow
    split at hc
    · rename_i hk
      obtain ⟨h1, hc⟩ := xa_ifs hc
      cases hc
      exact ⟨_, _, _, _, _, hrow, hk, h1, rfl, rfl, rfl⟩
    · cases hc
theorem xv_c {r nip cost k1 z1 : Nat} {lc : List (Nat × Value)} {rest : List Value} {v : Option Value} {h1 : List va_E} (hc : xa_cl mt y ip st h = some (r, nip, cost, lc, rest)) (hd : 1 ≤ d) (hw : cost ≤ w) (hcal : xv mt L xs (d - 1) (w - cost) r 0 lc [] h (.returned v) h1 k1 z1) (he : xv mt L xs d w y nip lv (v.toList ++ rest) h1 o h' k z) : xv mt L xs d w y ip lv st h o h' (k1 + k) (z1 + z) := by
  obtain ⟨n1, hcal⟩ := hcal
  obtain ⟨n2, he⟩ := he
  refine ⟨n1 + n2 + 1, ?_⟩
  have e1 := xa_ev_le (n2 := n1 + n2) (by omega) hcal
  have e2 := xa_ev_le (n2 := n1 + n2) (by omega) he
  obtain ⟨pc, i, len, q, ts, hrow, hk, hcok, rfl, rfl, rfl⟩ := xa_cl_spec hc
  show xa_stp mt L xs (xa_ev mt L xs (n1 + n2)) d w y ip lv st h = _
  unfold xa_stp
  simp only [hrow, hk]
  rw [xa_ift]
  · simp only [e1, e2, xa_add]
  · simp only [Bool.and_eq_true]
    exact ⟨hcok, Nat.ble_eq_true_of_le hd, Nat.ble_eq_true_of_le hw⟩
theorem xv_c0 {r nip cost : Nat} {lc : List (Nat × Value)} {rest : List Value} {v : Option Value} {h1 : List va_E} (hc : xa_cl mt y ip st h = some (r, nip, cost, lc, rest)) (hd : 1 ≤ d) (hw : cost ≤ w) (hcal : xv mt L xs (d - 1) (w - cost) r 0 lc [] h (.returned v) h1 0 0) (he : xv mt L xs d w y nip lv (v.toList ++ rest) h1 o h' k z) : xv mt L xs d w y ip lv st h o h' k z := by
  have h1 := xv_c hc hd hw hcal he
  rw [Nat.zero_add, Nat.zero_add] at h1
  exact h1
theorem xv_ct {r nip cost x : Nat} {lc : List (Nat × Value)} {rest : List Value} (hc : xa_cl mt y ip st h = some (r, nip, cost, lc, rest)) (hd : 1 ≤ d) (hw : cost ≤ w) (hn : xa_hd (mt y) = []) (hcal : xv mt L xs (d - 1) (w - cost) r 0 lc [] h (.threw x) h' k z) : xv mt L xs d w y ip lv st h (.threw x) h' k z := by
  obtain ⟨n1, hcal⟩ := hcal
  refine ⟨n1 + 1, ?_⟩
  obtain ⟨pc, i, len, q, ts, hrow, hk, hcok, rfl, rfl, rfl⟩ := xa_cl_spec hc
  show xa_stp mt L xs (xa_ev mt L xs n1) d w y ip lv st h = _
  unfold xa_stp
  simp only [hrow, hk]
  rw [xa_ift]
  · simp only [hcal, hn, xa_hnd_nil]
    rfl
  · simp only [Bool.and_eq_true]
    exact ⟨hcok, Nat.ble_eq_true_of_le hd, Nat.ble_eq_true_of_le hw⟩
theorem xv_cc {r nip cost x ip' k1 z1 : Nat} {lc : List (Nat × Value)} {rest : List Value} {h1 : List va_E} (hc : xa_cl mt y ip st h = some (r, nip, cost, lc, rest)) (hd : 1 ≤ d) (hw : cost ≤ w) (hcal : xv mt L xs (d - 1) (w - cost) r 0 lc [] h (.threw x) h1 k1 z1) (hn : xa_hnd (xa_hd (mt y)) h1 x = some ip') (he : xv mt L xs d w y ip' lv [.ref x] h1 o h' k z) : xv mt L xs d w y ip lv st h o h' (k1 + k) (z1 + z) := by
  obtain ⟨n1, hcal⟩ := hcal
  obtain ⟨n2, he⟩ := he
  refine ⟨n1 + n2 + 1, ?_⟩
  have e1 := xa_ev_le (n2 := n1 + n2) (by omega) hcal
  have e2 := xa_ev_le (n2 := n1 + n2) (by omega) he
  obtain ⟨pc, i, len, q, ts, hrow, hk, hcok, rfl, rfl, rfl⟩ := xa_cl_spec hc
  show xa_stp mt L xs (xa_ev mt L xs (n1 + n2)) d w y ip lv st h = _
  unfold xa_stp
  simp only [hrow, hk]
  rw [xa_ift]
  · simp only [e1, hn, e2, xa_add]
  · simp only [Bool.and_eq_true]
    exact ⟨hcok, Nat.ble_eq_true_of_le hd, Nat.ble_eq_true_of_le hw⟩
theorem xv_b {ip1 ip2 : Nat} {c : Bool} {lv' : List (Nat × Value)} {st' : List Value} {h1 : List va_E} (hn : xa_1 mt L xs y ip lv st h = some (bif c then ip1 else ip2, lv', st', h1, 0, 0)) (ht : c = true → xv mt L xs d w y ip1 lv' st' h1 o h' k z) (hf : c = false → xv mt L xs d w y ip2 lv' st' h1 o h' k z) : xv mt L xs d w y ip lv st h o h' k z := by
  cases c with
  | true => exact xv_s hn (ht rfl)
  | false => exact xv_s hn (hf rfl)
end XV

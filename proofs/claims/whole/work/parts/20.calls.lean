section XSP
variable {L : Nat} {xs : Nat → Int32} {d w : Nat} {s : Nat → Nat → Int32} {g : List va_E}
theorem m_23v {h : List va_E} {v V : Nat} {y : Int32} (hy : y = nI V) (hv : v < V) (hV : V < 2 ^ 31) (hd : 6 ≤ d) (hw : 100 ≤ w) : xv xm L xs d w 23 0 [(0, .int (nI v)), (1, .int y)] [] h (.returned none) h 0 0 := m_23 (nI_pos' (by omega)) (by rw [hy]; exact nI_lt hv hV) hd hw
theorem xs_out {q a b : Int32} (hx : q < a ∨ b < q) : (decide (q < a) || decide (b < q)) = true := by
  rcases hx with h | h
  · rw [decide_eq_true h]; rfl
  · rw [decide_eq_true h]; exact Bool.or_true _
theorem xe_ne {x y : Int32} (h : xa_cmp .ne x y = false) : x = y := by
  replace h : (!decide (x = y)) = false := h
  by_cases e : x = y
  · exact e
  · rw [decide_eq_false e] at h; cases h
def f_veh (s : Nat → Nat → Int32) (V : Nat) (x y : Int32) : Nat → Nat → Int32 := xw (xu (xw (xu (xu s 2 V x) 3 V y) 7 (f_cert (s 7) V 5)) 1 7 (nI (V + 1))) 11 (xfo (f_start V (s 0 5)) (s 11) 10)
theorem c_1 {x y : Int32} {V : Nat} (hV : V < 30) (hSV : s 1 7 = nI V) (h0 : nI 0 ≤ x) (h1 : x ≤ nI 9) (hy : y = 0 ∨ y = 1) (hd : 7 ≤ d) (hw : 114 ≤ w) : xv xm L xs d w 1 0 [(0, .ref 1), (1, .int (x)), (2, .int (y))] [] (xC s ++ g) (.returned (some (.int (nI V)))) (xC (f_veh s V x y) ++ g) 0 0 := by
  refine xv_m 3 rfl ?_
  refine xv_c0 (r := 24) (nip := 4) (cost := 14) rfl (by omega) (by omega) (m_24 h0 h1 (hd := by omega) (hw := by omega)) ?_
  refine xv_m 2 rfl ?_
  refine xv_c0 (r := 41) (nip := 7) (cost := 12) rfl (by omega) (by omega) (m_41) ?_
  refine xv_m 1 rfl ?_
  refine xv_c0 (r := 25) (nip := 9) (cost := 13) rfl (by omega) (by omega) (m_25 (by rw [hSV]; exact nI_lt hV (by omega)) (hd := by omega) (hw := by omega)) ?_
  refine xv_m 4 rfl ?_
  refine xv_c0 (r := 42) (nip := 14) (cost := 15) rfl (by omega) (by omega) (m_42 hV hSV hy (hd := by omega) (hw := by omega)) ?_
  refine xv_m 6 rfl ?_
  refine xv_c0 (r := 57) (nip := 21) (cost := 15) rfl (by omega) (by omega) (m_57 (s := xu (xw (xu (xu s 2 V x) 3 V y) 7 (f_cert (s 7) V 5)) 1 7 (nI (V + 1))) hV (hd := by omega) (hw := by omega)) ?_
  refine xv_m 1 rfl ?_
  exact xv_r rfl
theorem c_1a {x y : Int32} (hx : x < nI 0 ∨ nI 9 < x) (hd : 7 ≤ d) (hw : 114 ≤ w) : xv xm L xs d w 1 0 [(0, .ref 1), (1, .int (x)), (2, .int (y))] [] (xC s ++ g) (.threw ((xC s ++ g).length + 1)) ((xC s ++ g) ++ [.inr (8, [])]) 1 6 := by
  refine xv_m 3 rfl ?_
  exact xv_ct (r := 24) (nip := 4) (cost := 14) rfl (by omega) (by omega) rfl (m_24t hx (hd := by omega) (hw := by omega))
theorem c_1b {x y : Int32} (h0 : nI 0 ≤ x) (h1 : x ≤ nI 9) (hV : nI 30 ≤ s 1 7) (hd : 7 ≤ d) (hw : 114 ≤ w) : xv xm L xs d w 1 0 [(0, .ref 1), (1, .int (x)), (2, .int (y))] [] (xC s ++ g) (.threw ((xC s ++ g).length + 1)) ((xC s ++ g) ++ [.inr (10, [])]) 1 6 := by
  refine xv_m 3 rfl ?_
  refine xv_c0 (r := 24) (nip := 4) (cost := 14) rfl (by omega) (by omega) (m_24 h0 h1 (hd := by omega) (hw := by omega)) ?_
  refine xv_m 2 rfl ?_
  refine xv_c0 (r := 41) (nip := 7) (cost := 12) rfl (by omega) (by omega) (m_41) ?_
  refine xv_m 1 rfl ?_
  exact xv_ct (r := 25) (nip := 9) (cost := 13) rfl (by omega) (by omega) rfl (m_25t hV (hd := by omega) (hw := by omega))
def f_rul (s : Nat → Nat → Int32) (r : Nat) (a b c : Int32) : Nat → Nat → Int32 := xu (xu (xu (xu s 10 (3 * r) a) 10 (3 * r + 1) b) 10 (3 * r + 2) c) 9 2 (nI (r + 1))
theorem c_2 {a b c : Int32} (h0 : nI 0 ≤ a) (h1 : a ≤ nI 100000) (h2 : nI 0 ≤ b) (h3 : b ≤ nI 100000) (h4 : nI 0 ≤ c) (h5 : c ≤ nI 100000) (hn : ¬ (a = 0 ∧ b = 0 ∧ c = 0)) {r : Nat} (hr : r < 10) (hSR : s 9 2 = nI r) (hd : 7 ≤ d) (hw : 114 ≤ w) : xv xm L xs d w 2 0 [(0, .ref 1), (1, .int (a)), (2, .int (b)), (3, .int (c))] [] (xC s ++ g) (.returned (some (.int (nI r)))) (xC (f_rul s r a b c) ++ g) 0 0 := by
  refine xv_m 3 rfl ?_
  refine xv_c0 (r := 24) (nip := 4) (cost := 14) rfl (by omega) (by omega) (m_24 h0 h1 (hd := by omega) (hw := by omega)) ?_
  refine xv_m 3 rfl ?_
  refine xv_c0 (r := 24) (nip := 8) (cost := 14) rfl (by omega) (by omega) (m_24 h2 h3 (hd := by omega) (hw := by omega)) ?_
  refine xv_m 3 rfl ?_
  refine xv_c0 (r := 24) (nip := 12) (cost := 14) rfl (by omega) (by omega) (m_24 h4 h5 (hd := by omega) (hw := by omega)) ?_
  refine xv_m 1 rfl ?_
  refine xv_b rfl (fun hc => ?_) (fun hc => ?_)
  · refine xv_m 2 rfl ?_
    refine xv_c0 (r := 55) (nip := 22) (cost := 12) rfl (by omega) (by omega) (m_55) ?_
    refine xv_m 1 rfl ?_
    refine xv_c0 (r := 25) (nip := 24) (cost := 13) rfl (by omega) (by omega) (m_25 (by rw [hSR]; exact nI_lt hr (by omega)) (hd := by omega) (hw := by omega)) ?_
    refine xv_m 5 rfl ?_
    refine xv_c0 (r := 56) (nip := 30) (cost := 15) rfl (by omega) (by omega) (m_56 hr hSR) ?_
    exact xv_r rfl
  · refine xv_m 1 rfl ?_
    refine xv_b rfl (fun hc2 => ?_) (fun hc2 => ?_)
    · refine xv_m 2 rfl ?_
      refine xv_c0 (r := 55) (nip := 22) (cost := 12) rfl (by omega) (by omega) (m_55) ?_
      refine xv_m 1 rfl ?_
      refine xv_c0 (r := 25) (nip := 24) (cost := 13) rfl (by omega) (by omega) (m_25 (by rw [hSR]; exact nI_lt hr (by omega)) (hd := by omega) (hw := by omega)) ?_
      refine xv_m 5 rfl ?_
      refine xv_c0 (r := 56) (nip := 30) (cost := 15) rfl (by omega) (by omega) (m_56 hr hSR) ?_
      exact xv_r rfl
    · refine xv_m 1 rfl ?_
      refine xv_bt rfl (xc_neT (fun e => hn ⟨xe_ne hc, xe_ne hc2, e⟩)) ?_
      refine xv_m 2 rfl ?_
      refine xv_c0 (r := 55) (nip := 22) (cost := 12) rfl (by omega) (by omega) (m_55) ?_
      refine xv_m 1 rfl ?_
      refine xv_c0 (r := 25) (nip := 24) (cost := 13) rfl (by omega) (by omega) (m_25 (by rw [hSR]; exact nI_lt hr (by omega)) (hd := by omega) (hw := by omega)) ?_
      refine xv_m 5 rfl ?_
      refine xv_c0 (r := 56) (nip := 30) (cost := 15) rfl (by omega) (by omega) (m_56 hr hSR) ?_
      exact xv_r rfl
theorem c_2a {a b c : Int32} (hx : a < nI 0 ∨ nI 100000 < a) (hd : 7 ≤ d) (hw : 114 ≤ w) : xv xm L xs d w 2 0 [(0, .ref 1), (1, .int (a)), (2, .int (b)), (3, .int (c))] [] (xC s ++ g) (.threw ((xC s ++ g).length + 1)) ((xC s ++ g) ++ [.inr (8, [])]) 1 6 := by
  refine xv_m 3 rfl ?_
  exact xv_ct (r := 24) (nip := 4) (cost := 14) rfl (by omega) (by omega) rfl (m_24t hx (hd := by omega) (hw := by omega))
theorem c_2b {a b c : Int32} (h0 : nI 0 ≤ a) (h1 : a ≤ nI 100000) (hx : b < nI 0 ∨ nI 100000 < b) (hd : 7 ≤ d) (hw : 114 ≤ w) : xv xm L xs d w 2 0 [(0, .ref 1), (1, .int (a)), (2, .int (b)), (3, .int (c))] [] (xC s ++ g) (.threw ((xC s ++ g).length + 1)) ((xC s ++ g) ++ [.inr (8, [])]) 1 6 := by
  refine xv_m 3 rfl ?_
  refine xv_c0 (r := 24) (nip := 4) (cost := 14) rfl (by omega) (by omega) (m_24 h0 h1 (hd := by omega) (hw := by omega)) ?_
  refine xv_m 3 rfl ?_
  exact xv_ct (r := 24) (nip := 8) (cost := 14) rfl (by omega) (by omega) rfl (m_24t hx (hd := by omega) (hw := by omega))
theorem c_2c {a b c : Int32} (h0 : nI 0 ≤ a) (h1 : a ≤ nI 100000)(h2 : nI 0 ≤ b) (h3 : b ≤ nI 100000) (hx : c < nI 0 ∨ nI 100000 < c) (hd : 7 ≤ d) (hw : 114 ≤ w) : xv xm L xs d w 2 0 [(0, .ref 1), (1, .int (a)), (2, .int (b)), (3, .int (c))] [] (xC s ++ g) (.threw ((xC s ++ g).length + 1)) ((xC s ++ g) ++ [.inr (8, [])]) 1 6 := by
  refine xv_m 3 rfl ?_
  refine xv_c0 (r := 24) (nip := 4) (cost := 14) rfl (by omega) (by omega) (m_24 h0 h1 (hd := by omega) (hw := by omega)) ?_
  refine xv_m 3 rfl ?_
  refine xv_c0 (r := 24) (nip := 8) (cost := 14) rfl (by omega) (by omega) (m_24 h2 h3 (hd := by omega) (hw := by omega)) ?_
  refine xv_m 3 rfl ?_
  exact xv_ct (r := 24) (nip := 12) (cost := 14) rfl (by omega) (by omega) rfl (m_24t hx (hd := by omega) (hw := by omega))
theorem c_2d {a b c : Int32} (h0 : nI 0 ≤ a) (h1 : a ≤ nI 100000)(h2 : nI 0 ≤ b) (h3 : b ≤ nI 100000)(h4 : nI 0 ≤ c) (h5 : c ≤ nI 100000) (ha : a = 0) (hb : b = 0) (hc : c = 0) (hd : 7 ≤ d) (hw : 114 ≤ w) : xv xm L xs d w 2 0 [(0, .ref 1), (1, .int (a)), (2, .int (b)), (3, .int (c))] [] (xC s ++ g) (.threw ((xC s ++ g).length + 1)) ((xC s ++ g) ++ [.inr (8, [])]) 1 6 := by
  refine xv_m 3 rfl ?_
  refine xv_c0 (r := 24) (nip := 4) (cost := 14) rfl (by omega) (by omega) (m_24 h0 h1 (hd := by omega) (hw := by omega)) ?_
  refine xv_m 3 rfl ?_
  refine xv_c0 (r := 24) (nip := 8) (cost := 14) rfl (by omega) (by omega) (m_24 h2 h3 (hd := by omega) (hw := by omega)) ?_
  refine xv_m 3 rfl ?_
  refine xv_c0 (r := 24) (nip := 12) (cost := 14) rfl (by omega) (by omega) (m_24 h4 h5 (hd := by omega) (hw := by omega)) ?_
  refine xv_m 1 rfl ?_
  refine xv_bf rfl (xc_neF ha) ?_
  refine xv_m 1 rfl ?_
  refine xv_bf rfl (xc_neF hb) ?_
  refine xv_m 1 rfl ?_
  refine xv_bf rfl (xc_neF hc) ?_
  exact xv_t rfl (by omega) (by omega)
theorem c_2e {a b c : Int32} (h0 : nI 0 ≤ a) (h1 : a ≤ nI 100000)(h2 : nI 0 ≤ b) (h3 : b ≤ nI 100000)(h4 : nI 0 ≤ c) (h5 : c ≤ nI 100000) (hn : ¬ (a = 0 ∧ b = 0 ∧ c = 0)) (hr : nI 10 ≤ s 9 2) (hd : 7 ≤ d) (hw : 114 ≤ w) : xv xm L xs d w 2 0 [(0, .ref 1), (1, .int (a)), (2, .int (b)), (3, .int (c))] [] (xC s ++ g) (.threw ((xC s ++ g).length + 1)) ((xC s ++ g) ++ [.inr (10, [])]) 1 6 := by
  refine xv_m 3 rfl ?_
  refine xv_c0 (r := 24) (nip := 4) (cost := 14) rfl (by omega) (by omega) (m_24 h0 h1 (hd := by omega) (hw := by omega)) ?_
  refine xv_m 3 rfl ?_
  refine xv_c0 (r := 24) (nip := 8) (cost := 14) rfl (by omega) (by omega) (m_24 h2 h3 (hd := by omega) (hw := by omega)) ?_
  refine xv_m 3 rfl ?_
  refine xv_c0 (r := 24) (nip := 12) (cost := 14) rfl (by omega) (by omega) (m_24 h4 h5 (hd := by omega) (hw := by omega)) ?_
  refine xv_m 1 rfl ?_
  refine xv_b rfl (fun hc => ?_) (fun hc => ?_)
  · refine xv_m 2 rfl ?_
    refine xv_c0 (r := 55) (nip := 22) (cost := 12) rfl (by omega) (by omega) (m_55) ?_
    refine xv_m 1 rfl ?_
    exact xv_ct (r := 25) (nip := 24) (cost := 13) rfl (by omega) (by omega) rfl (m_25t hr (hd := by omega) (hw := by omega))
  · refine xv_m 1 rfl ?_
    refine xv_b rfl (fun hc2 => ?_) (fun hc2 => ?_)
    · refine xv_m 2 rfl ?_
      refine xv_c0 (r := 55) (nip := 22) (cost := 12) rfl (by omega) (by omega) (m_55) ?_
      refine xv_m 1 rfl ?_
      exact xv_ct (r := 25) (nip := 24) (cost := 13) rfl (by omega) (by omega) rfl (m_25t hr (hd := by omega) (hw := by omega))
    · refine xv_m 1 rfl ?_
      refine xv_bt rfl (xc_neT (fun e => hn ⟨xe_ne hc, xe_ne hc2, e⟩)) ?_
      refine xv_m 2 rfl ?_
      refine xv_c0 (r := 55) (nip := 22) (cost := 12) rfl (by omega) (by omega) (m_55) ?_
      refine xv_m 1 rfl ?_
      exact xv_ct (r := 25) (nip := 24) (cost := 13) rfl (by omega) (by omega) rfl (m_25t hr (hd := by omega) (hw := by omega))
theorem c_3 {x : Int32} (h0 : nI 1 ≤ x) (h1 : x ≤ nI 100) (hd : 7 ≤ d) (hw : 114 ≤ w) : xv xm L xs d w 3 0 [(0, .ref 1), (1, .int (x))] [] (xC s ++ g) (.returned none) (xC (xu s 0 7 x) ++ g) 0 0 := by
  refine xv_m 3 rfl ?_
  refine xv_c0 (r := 24) (nip := 4) (cost := 14) rfl (by omega) (by omega) (m_24 h0 h1 (hd := by omega) (hw := by omega)) ?_
  refine xv_m 3 (h1 := xC (xu s 0 7 x) ++ g) rfl ?_
  exact xv_r rfl
theorem c_3a {x : Int32} (hx : x < nI 1 ∨ nI 100 < x) (hd : 7 ≤ d) (hw : 114 ≤ w) : xv xm L xs d w 3 0 [(0, .ref 1), (1, .int (x))] [] (xC s ++ g) (.threw ((xC s ++ g).length + 1)) ((xC s ++ g) ++ [.inr (8, [])]) 1 6 := by
  refine xv_m 3 rfl ?_
  exact xv_ct (r := 24) (nip := 4) (cost := 14) rfl (by omega) (by omega) rfl (m_24t hx (hd := by omega) (hw := by omega))
theorem c_4 {x : Int32} (h0 : s 0 5 ≤ x) (h1 : x ≤ nI 99999) (hd : 7 ≤ d) (hw : 114 ≤ w) : xv xm L xs d w 4 0 [(0, .ref 1), (1, .int (x))] [] (xC s ++ g) (.returned none) (xC (xu s 0 5 x) ++ g) 0 0 := by
  refine xv_m 4 rfl ?_
  refine xv_c0 (r := 24) (nip := 5) (cost := 14) rfl (by omega) (by omega) (m_24 h0 h1 (hd := by omega) (hw := by omega)) ?_
  refine xv_m 3 (h1 := xC (xu s 0 5 x) ++ g) rfl ?_
  exact xv_r rfl
theorem c_4a {x : Int32} (hx : x < s 0 5 ∨ nI 99999 < x) (hd : 7 ≤ d) (hw : 114 ≤ w) : xv xm L xs d w 4 0 [(0, .ref 1), (1, .int (x))] [] (xC s ++ g) (.threw ((xC s ++ g).length + 1)) ((xC s ++ g) ++ [.inr (8, [])]) 1 6 := by
  refine xv_m 4 rfl ?_
  exact xv_ct (r := 24) (nip := 5) (cost := 14) rfl (by omega) (by omega) rfl (m_24t hx (hd := by omega) (hw := by omega))
theorem c_5 {x y : Int32} {V : Nat} (hV : V ≤ 30) (hSV : s 1 7 = nI V) {v : Nat} (hv : v < V)(h0 : nI 0 ≤ x) (h1 : x ≤ nI 1000000)(h2 : nI 0 ≤ y) (h3 : y ≤ nI 1000000) (h4 : s 4 v ≤ x) (h5 : s 5 v ≤ y) (hd : 7 ≤ d) (hw : 114 ≤ w) : xv xm L xs d w 5 0 [(0, .ref 1), (1, .int (nI v)), (2, .int (x)), (3, .int (y))] [] (xC s ++ g) (.returned none) (xC (xu (xu s 4 v x) 5 v y) ++ g) 0 0 := by
  refine xv_m 3 rfl ?_
  refine xv_c0 (r := 41) (nip := 4) (cost := 13) rfl (by omega) (by omega) (m_41) ?_
  refine xv_c0 (r := 23) (nip := 5) (cost := 13) rfl (by omega) (by omega) (m_23v hSV hv (by omega) (hd := by omega) (hw := by omega)) ?_
  refine xv_m 3 rfl ?_
  refine xv_c0 (r := 24) (nip := 9) (cost := 14) rfl (by omega) (by omega) (m_24 h0 h1 (hd := by omega) (hw := by omega)) ?_
  refine xv_m 3 rfl ?_
  refine xv_c0 (r := 24) (nip := 13) (cost := 14) rfl (by omega) (by omega) (m_24 h2 h3 (hd := by omega) (hw := by omega)) ?_
  refine xv_m 4 rfl ?_
  refine xv_c0 (r := 45) (nip := 18) (cost := 14) rfl (by omega) (by omega) (m_45 (by omega)) ?_
  refine xv_bf rfl (xd_ltF h4) ?_
  refine xv_m 4 rfl ?_
  refine xv_c0 (r := 46) (nip := 24) (cost := 14) rfl (by omega) (by omega) (m_46 (by omega)) ?_
  refine xv_bt rfl (xd_geT h5) ?_
  refine xv_m 5 rfl ?_
  refine xv_c0 (r := 47) (nip := 38) (cost := 15) rfl (by omega) (by omega) (m_47 (by omega)) ?_
  exact xv_r rfl
theorem c_5a {p x y : Int32} (hx : p < 0 ∨ s 1 7 ≤ p) (hd : 7 ≤ d) (hw : 114 ≤ w) : xv xm L xs d w 5 0 [(0, .ref 1), (1, .int (p)), (2, .int (x)), (3, .int (y))] [] (xC s ++ g) (.threw ((xC s ++ g).length + 1)) ((xC s ++ g) ++ [.inr (7, [])]) 1 6 := by
  refine xv_m 3 rfl ?_
  refine xv_c0 (r := 41) (nip := 4) (cost := 13) rfl (by omega) (by omega) (m_41) ?_
  exact xv_ct (r := 23) (nip := 5) (cost := 13) rfl (by omega) (by omega) rfl (m_23t hx (hd := by omega) (hw := by omega))
theorem c_5b {x y : Int32} {V : Nat} (hV : V ≤ 30) (hSV : s 1 7 = nI V) {v : Nat} (hv : v < V) (hx : x < nI 0 ∨ nI 1000000 < x) (hd : 7 ≤ d) (hw : 114 ≤ w) : xv xm L xs d w 5 0 [(0, .ref 1), (1, .int (nI v)), (2, .int (x)), (3, .int (y))] [] (xC s ++ g) (.threw ((xC s ++ g).length + 1)) ((xC s ++ g) ++ [.inr (8, [])]) 1 6 := by
  refine xv_m 3 rfl ?_
  refine xv_c0 (r := 41) (nip := 4) (cost := 13) rfl (by omega) (by omega) (m_41) ?_
  refine xv_c0 (r := 23) (nip := 5) (cost := 13) rfl (by omega) (by omega) (m_23v hSV hv (by omega) (hd := by omega) (hw := by omega)) ?_
  refine xv_m 3 rfl ?_
  exact xv_ct (r := 24) (nip := 9) (cost := 14) rfl (by omega) (by omega) rfl (m_24t hx (hd := by omega) (hw := by omega))
theorem c_5c {x y : Int32} {V : Nat} (hV : V ≤ 30) (hSV : s 1 7 = nI V) {v : Nat} (hv : v < V)(h0 : nI 0 ≤ x) (h1 : x ≤ nI 1000000) (hx : y < nI 0 ∨ nI 1000000 < y) (hd : 7 ≤ d) (hw : 114 ≤ w) : xv xm L xs d w 5 0 [(0, .ref 1), (1, .int (nI v)), (2, .int (x)), (3, .int (y))] [] (xC s ++ g) (.threw ((xC s ++ g).length + 1)) ((xC s ++ g) ++ [.inr (8, [])]) 1 6 := by
  refine xv_m 3 rfl ?_
  refine xv_c0 (r := 41) (nip := 4) (cost := 13) rfl (by omega) (by omega) (m_41) ?_
  refine xv_c0 (r := 23) (nip := 5) (cost := 13) rfl (by omega) (by omega) (m_23v hSV hv (by omega) (hd := by omega) (hw := by omega)) ?_
  refine xv_m 3 rfl ?_
  refine xv_c0 (r := 24) (nip := 9) (cost := 14) rfl (by omega) (by omega) (m_24 h0 h1 (hd := by omega) (hw := by omega)) ?_
  refine xv_m 3 rfl ?_
  exact xv_ct (r := 24) (nip := 13) (cost := 14) rfl (by omega) (by omega) rfl (m_24t hx (hd := by omega) (hw := by omega))
theorem c_5d {x y : Int32} {V : Nat} (hV : V ≤ 30) (hSV : s 1 7 = nI V) {v : Nat} (hv : v < V)(h0 : nI 0 ≤ x) (h1 : x ≤ nI 1000000)(h2 : nI 0 ≤ y) (h3 : y ≤ nI 1000000) (hx : x < s 4 v) (hd : 7 ≤ d) (hw : 114 ≤ w) : xv xm L xs d w 5 0 [(0, .ref 1), (1, .int (nI v)), (2, .int (x)), (3, .int (y))] [] (xC s ++ g) (.threw ((xC (xu s 0 8 (s 0 8 + nI 1)) ++ g).length + 1)) ((xC (xu s 0 8 (s 0 8 + nI 1)) ++ g) ++ [.inr (9, [])]) 1 6 := by
  refine xv_m 3 rfl ?_
  refine xv_c0 (r := 41) (nip := 4) (cost := 13) rfl (by omega) (by omega) (m_41) ?_
  refine xv_c0 (r := 23) (nip := 5) (cost := 13) rfl (by omega) (by omega) (m_23v hSV hv (by omega) (hd := by omega) (hw := by omega)) ?_
  refine xv_m 3 rfl ?_
  refine xv_c0 (r := 24) (nip := 9) (cost := 14) rfl (by omega) (by omega) (m_24 h0 h1 (hd := by omega) (hw := by omega)) ?_
  refine xv_m 3 rfl ?_
  refine xv_c0 (r := 24) (nip := 13) (cost := 14) rfl (by omega) (by omega) (m_24 h2 h3 (hd := by omega) (hw := by omega)) ?_
  refine xv_m 4 rfl ?_
  refine xv_c0 (r := 45) (nip := 18) (cost := 14) rfl (by omega) (by omega) (m_45 (by omega)) ?_
  refine xv_bt rfl (xd_ltT hx) ?_
  refine xv_m 6 (h1 := xC (xu s 0 8 (s 0 8 + nI 1)) ++ g) rfl ?_
  exact xv_t rfl (by omega) (by omega)
theorem c_5e {x y : Int32} {V : Nat} (hV : V ≤ 30) (hSV : s 1 7 = nI V) {v : Nat} (hv : v < V)(h0 : nI 0 ≤ x) (h1 : x ≤ nI 1000000)(h2 : nI 0 ≤ y) (h3 : y ≤ nI 1000000) (h4 : s 4 v ≤ x) (hx : y < s 5 v) (hd : 7 ≤ d) (hw : 114 ≤ w) : xv xm L xs d w 5 0 [(0, .ref 1), (1, .int (nI v)), (2, .int (x)), (3, .int (y))] [] (xC s ++ g) (.threw ((xC (xu s 0 8 (s 0 8 + nI 1)) ++ g).length + 1)) ((xC (xu s 0 8 (s 0 8 + nI 1)) ++ g) ++ [.inr (9, [])]) 1 6 := by
  refine xv_m 3 rfl ?_
  refine xv_c0 (r := 41) (nip := 4) (cost := 13) rfl (by omega) (by omega) (m_41) ?_
  refine xv_c0 (r := 23) (nip := 5) (cost := 13) rfl (by omega) (by omega) (m_23v hSV hv (by omega) (hd := by omega) (hw := by omega)) ?_
  refine xv_m 3 rfl ?_
  refine xv_c0 (r := 24) (nip := 9) (cost := 14) rfl (by omega) (by omega) (m_24 h0 h1 (hd := by omega) (hw := by omega)) ?_
  refine xv_m 3 rfl ?_
  refine xv_c0 (r := 24) (nip := 13) (cost := 14) rfl (by omega) (by omega) (m_24 h2 h3 (hd := by omega) (hw := by omega)) ?_
  refine xv_m 4 rfl ?_
  refine xv_c0 (r := 45) (nip := 18) (cost := 14) rfl (by omega) (by omega) (m_45 (by omega)) ?_
  refine xv_bf rfl (xd_ltF h4) ?_
  refine xv_m 4 rfl ?_
  refine xv_c0 (r := 46) (nip := 24) (cost := 14) rfl (by omega) (by omega) (m_46 (by omega)) ?_
  refine xv_bf rfl (xd_geF hx) ?_
  refine xv_m 6 (h1 := xC (xu s 0 8 (s 0 8 + nI 1)) ++ g) rfl ?_
  exact xv_t rfl (by omega) (by omega)
theorem c_6 {V : Nat} (hV : V ≤ 30) (hSV : s 1 7 = nI V) {v : Nat} (hv : v < V){R : Nat} (hR : R ≤ 10) (hSR : s 9 2 = nI R) {r : Nat} (hr : r < R) {k : Nat} (hk : k < 3) (hb : f_by (s 10) r k = true) (hd : 7 ≤ d) (hw : 113 ≤ w) : xv xm L xs d w 6 0 [(0, .ref 1), (1, .int (nI v)), (2, .int (nI r)), (3, .int (nI k))] [] (xC s ++ g) (.returned (some (.int (f_left s v r k)))) (xC s ++ g) 0 0 := by
  refine xv_m 3 rfl ?_
  refine xv_c0 (r := 41) (nip := 4) (cost := 13) rfl (by omega) (by omega) (m_41) ?_
  refine xv_c0 (r := 23) (nip := 5) (cost := 13) rfl (by omega) (by omega) (m_23v hSV hv (by omega) (hd := by omega) (hw := by omega)) ?_
  refine xv_m 3 rfl ?_
  refine xv_c0 (r := 55) (nip := 9) (cost := 13) rfl (by omega) (by omega) (m_55) ?_
  refine xv_c0 (r := 23) (nip := 10) (cost := 13) rfl (by omega) (by omega) (m_23v hSR hr (by omega) (hd := by omega) (hw := by omega)) ?_
  refine xv_m 2 rfl ?_
  refine xv_c0 (r := 23) (nip := 13) (cost := 13) rfl (by omega) (by omega) (m_23v (V := 3) rfl hk (by omega) (hd := by omega) (hw := by omega)) ?_
  refine xv_m 4 rfl ?_
  refine xv_c0 (r := 59) (nip := 18) (cost := 14) rfl (by omega) (by omega) (m_59 (by omega) hk (hd := by omega) (hw := by omega)) ?_
  refine xv_bt rfl (xc_neT (by rw [hb]; decide)) ?_
  refine xv_m 4 rfl ?_
  refine xv_c0 (r := 28) (nip := 25) (cost := 16) rfl (by omega) (by omega) (m_28 (by omega) (by omega) hk (hd := by omega) (hw := by omega)) ?_
  exact xv_r rfl
theorem c_6a {p q x : Int32} (hx : p < 0 ∨ s 1 7 ≤ p) (hd : 7 ≤ d) (hw : 113 ≤ w) : xv xm L xs d w 6 0 [(0, .ref 1), (1, .int (p)), (2, .int (q)), (3, .int (x))] [] (xC s ++ g) (.threw ((xC s ++ g).length + 1)) ((xC s ++ g) ++ [.inr (7, [])]) 1 6 := by
  refine xv_m 3 rfl ?_
  refine xv_c0 (r := 41) (nip := 4) (cost := 13) rfl (by omega) (by omega) (m_41) ?_
  exact xv_ct (r := 23) (nip := 5) (cost := 13) rfl (by omega) (by omega) rfl (m_23t hx (hd := by omega) (hw := by omega))
theorem c_6b {q x : Int32} {V : Nat} (hV : V ≤ 30) (hSV : s 1 7 = nI V) {v : Nat} (hv : v < V) (hx : q < 0 ∨ s 9 2 ≤ q) (hd : 7 ≤ d) (hw : 113 ≤ w) : xv xm L xs d w 6 0 [(0, .ref 1), (1, .int (nI v)), (2, .int (q)), (3, .int (x))] [] (xC s ++ g) (.threw ((xC s ++ g).length + 1)) ((xC s ++ g) ++ [.inr (7, [])]) 1 6 := by
  refine xv_m 3 rfl ?_
  refine xv_c0 (r := 41) (nip := 4) (cost := 13) rfl (by omega) (by omega) (m_41) ?_
  refine xv_c0 (r := 23) (nip := 5) (cost := 13) rfl (by omega) (by omega) (m_23v hSV hv (by omega) (hd := by omega) (hw := by omega)) ?_
  refine xv_m 3 rfl ?_
  refine xv_c0 (r := 55) (nip := 9) (cost := 13) rfl (by omega) (by omega) (m_55) ?_
  exact xv_ct (r := 23) (nip := 10) (cost := 13) rfl (by omega) (by omega) rfl (m_23t hx (hd := by omega) (hw := by omega))
theorem c_6c {x : Int32} {V : Nat} (hV : V ≤ 30) (hSV : s 1 7 = nI V) {v : Nat} (hv : v < V){R : Nat} (hR : R ≤ 10) (hSR : s 9 2 = nI R) {r : Nat} (hr : r < R) (hx : x < 0 ∨ nI 3 ≤ x) (hd : 7 ≤ d) (hw : 113 ≤ w) : xv xm L xs d w 6 0 [(0, .ref 1), (1, .int (nI v)), (2, .int (nI r)), (3, .int (x))] [] (xC s ++ g) (.threw ((xC s ++ g).length + 1)) ((xC s ++ g) ++ [.inr (7, [])]) 1 6 := by
  refine xv_m 3 rfl ?_
  refine xv_c0 (r := 41) (nip := 4) (cost := 13) rfl (by omega) (by omega) (m_41) ?_
  refine xv_c0 (r := 23) (nip := 5) (cost := 13) rfl (by omega) (by omega) (m_23v hSV hv (by omega) (hd := by omega) (hw := by omega)) ?_
  refine xv_m 3 rfl ?_
  refine xv_c0 (r := 55) (nip := 9) (cost := 13) rfl (by omega) (by omega) (m_55) ?_
  refine xv_c0 (r := 23) (nip := 10) (cost := 13) rfl (by omega) (by omega) (m_23v hSR hr (by omega) (hd := by omega) (hw := by omega)) ?_
  refine xv_m 2 rfl ?_
  exact xv_ct (r := 23) (nip := 13) (cost := 13) rfl (by omega) (by omega) rfl (m_23t hx (hd := by omega) (hw := by omega))
theorem c_6d {V : Nat} (hV : V ≤ 30) (hSV : s 1 7 = nI V) {v : Nat} (hv : v < V){R : Nat} (hR : R ≤ 10) (hSR : s 9 2 = nI R) {r : Nat} (hr : r < R) {k : Nat} (hk : k < 3) (hb : f_by (s 10) r k = false) (hd : 7 ≤ d) (hw : 113 ≤ w) : xv xm L xs d w 6 0 [(0, .ref 1), (1, .int (nI v)), (2, .int (nI r)), (3, .int (nI k))] [] (xC s ++ g) (.threw ((xC s ++ g).length + 1)) ((xC s ++ g) ++ [.inr (9, [])]) 1 6 := by
  refine xv_m 3 rfl ?_
  refine xv_c0 (r := 41) (nip := 4) (cost := 13) rfl (by omega) (by omega) (m_41) ?_
  refine xv_c0 (r := 23) (nip := 5) (cost := 13) rfl (by omega) (by omega) (m_23v hSV hv (by omega) (hd := by omega) (hw := by omega)) ?_
  refine xv_m 3 rfl ?_
  refine xv_c0 (r := 55) (nip := 9) (cost := 13) rfl (by omega) (by omega) (m_55) ?_
  refine xv_c0 (r := 23) (nip := 10) (cost := 13) rfl (by omega) (by omega) (m_23v hSR hr (by omega) (hd := by omega) (hw := by omega)) ?_
  refine xv_m 2 rfl ?_
  refine xv_c0 (r := 23) (nip := 13) (cost := 13) rfl (by omega) (by omega) (m_23v (V := 3) rfl hk (by omega) (hd := by omega) (hw := by omega)) ?_
  refine xv_m 4 rfl ?_
  refine xv_c0 (r := 59) (nip := 18) (cost := 14) rfl (by omega) (by omega) (m_59 (by omega) hk (hd := by omega) (hw := by omega)) ?_
  refine xv_bf rfl (xc_neF (by rw [hb]; rfl)) ?_
  exact xv_t rfl (by omega) (by omega)
def f_def (s : Nat → Nat → Int32) (j : Nat) (x y : Int32) : Nat → Nat → Int32 := xu (xu (xu (xu (xu s 13 j x) 14 j y) 15 j (nI 0)) 16 j (xa_con 1 1)) 12 4 (nI (j + 1))
theorem c_8 {V : Nat} (hV : V ≤ 30) (hSV : s 1 7 = nI V) {v : Nat} (hv : v < V) {y : Int32} (hy : y = 0 ∨ y = 1) {D : Nat} (hD : D < 100) (hSD : s 12 4 = nI D) (hd : 7 ≤ d) (hw : 113 ≤ w) : xv xm L xs d w 8 0 [(0, .ref 1), (1, .int (nI v)), (2, .int (y))] [] (xC s ++ g) (.returned (some (.int (nI D)))) (xC (f_def s D (nI v) y) ++ g) 0 0 := by
  refine xv_m 3 rfl ?_
  refine xv_c0 (r := 41) (nip := 4) (cost := 13) rfl (by omega) (by omega) (m_41) ?_
  refine xv_c0 (r := 23) (nip := 5) (cost := 13) rfl (by omega) (by omega) (m_23v hSV hv (by omega) (hd := by omega) (hw := by omega)) ?_
  refine xv_m 2 rfl ?_
  refine xv_c0 (r := 63) (nip := 8) (cost := 12) rfl (by omega) (by omega) (m_63) ?_
  refine xv_m 1 rfl ?_
  refine xv_c0 (r := 25) (nip := 10) (cost := 13) rfl (by omega) (by omega) (m_25 (by rw [hSD]; exact nI_lt hD (by omega)) (hd := by omega) (hw := by omega)) ?_
  refine xv_m 4 rfl ?_
  refine xv_c0 (r := 64) (nip := 15) (cost := 14) rfl (by omega) (by omega) (m_64 hD hSD hy) ?_
  exact xv_r rfl
theorem c_8a {p y : Int32} (hx : p < 0 ∨ s 1 7 ≤ p) (hd : 7 ≤ d) (hw : 113 ≤ w) : xv xm L xs d w 8 0 [(0, .ref 1), (1, .int (p)), (2, .int (y))] [] (xC s ++ g) (.threw ((xC s ++ g).length + 1)) ((xC s ++ g) ++ [.inr (7, [])]) 1 6 := by
  refine xv_m 3 rfl ?_
  refine xv_c0 (r := 41) (nip := 4) (cost := 13) rfl (by omega) (by omega) (m_41) ?_
  exact xv_ct (r := 23) (nip := 5) (cost := 13) rfl (by omega) (by omega) rfl (m_23t hx (hd := by omega) (hw := by omega))
theorem c_8b {V : Nat} (hV : V ≤ 30) (hSV : s 1 7 = nI V) {v : Nat} (hv : v < V) {y : Int32} (hx : nI 100 ≤ s 12 4) (hd : 7 ≤ d) (hw : 113 ≤ w) : xv xm L xs d w 8 0 [(0, .ref 1), (1, .int (nI v)), (2, .int (y))] [] (xC s ++ g) (.threw ((xC s ++ g).length + 1)) ((xC s ++ g) ++ [.inr (10, [])]) 1 6 := by
  refine xv_m 3 rfl ?_
  refine xv_c0 (r := 41) (nip := 4) (cost := 13) rfl (by omega) (by omega) (m_41) ?_
  refine xv_c0 (r := 23) (nip := 5) (cost := 13) rfl (by omega) (by omega) (m_23v hSV hv (by omega) (hd := by omega) (hw := by omega)) ?_
  refine xv_m 2 rfl ?_
  refine xv_c0 (r := 63) (nip := 8) (cost := 12) rfl (by omega) (by omega) (m_63) ?_
  refine xv_m 1 rfl ?_
  exact xv_ct (r := 25) (nip := 10) (cost := 13) rfl (by omega) (by omega) rfl (m_25t hx (hd := by omega) (hw := by omega))
theorem c_9 {V : Nat} (hV : V ≤ 30) (hSV : s 1 7 = nI V) {v : Nat} (hv : v < V){D : Nat} (hD : D ≤ 100) (hSD : s 12 4 = nI D) {x l u : Int32} (h0 : l ≤ u) (h1 : l ≤ x) (h2 : x ≤ u) (hd : 7 ≤ d) (hw : 113 ≤ w) : xv xm L xs d w 9 0 [(0, .ref 1), (1, .int (nI v)), (2, .int (x)), (3, .int (l)), (4, .int (u))] [] (xC s ++ g) (.returned (some (.int (1)))) (xC (xw s 15 (xfo (f_clr (s 13) (nI v)) (s 15) D)) ++ g) 0 0 := by
  refine xv_m 3 rfl ?_
  refine xv_c0 (r := 41) (nip := 4) (cost := 13) rfl (by omega) (by omega) (m_41) ?_
  refine xv_c0 (r := 23) (nip := 5) (cost := 13) rfl (by omega) (by omega) (m_23v hSV hv (by omega) (hd := by omega) (hw := by omega)) ?_
  refine xv_m 2 rfl ?_
  refine xv_bt rfl (xd_leT h0) ?_
  refine xv_m 2 rfl ?_
  refine xv_bf rfl (xd_gtF h1) ?_
  refine xv_m 2 rfl ?_
  refine xv_bf rfl (xd_gtF h2) ?_
  refine xv_m 4 rfl ?_
  refine xv_bf rfl (by decide +kernel) ?_
  refine xv_m 3 rfl ?_
  refine xv_c0 (r := 71) (nip := 25) (cost := 14) rfl (by omega) (by omega) (m_71 hD hSD) ?_
  refine xv_m 1 rfl ?_
  exact xv_rb xn_1 rfl
theorem c_9n {V : Nat} (hV : V ≤ 30) (hSV : s 1 7 = nI V) {v : Nat} (hv : v < V) {x l u : Int32} (h0 : l ≤ u) (h1 : x < l) (hd : 7 ≤ d) (hw : 113 ≤ w) : xv xm L xs d w 9 0 [(0, .ref 1), (1, .int (nI v)), (2, .int (x)), (3, .int (l)), (4, .int (u))] [] (xC s ++ g) (.returned (some (.int (0)))) (xC s ++ g) 0 0 := by
  refine xv_m 3 rfl ?_
  refine xv_c0 (r := 41) (nip := 4) (cost := 13) rfl (by omega) (by omega) (m_41) ?_
  refine xv_c0 (r := 23) (nip := 5) (cost := 13) rfl (by omega) (by omega) (m_23v hSV hv (by omega) (hd := by omega) (hw := by omega)) ?_
  refine xv_m 2 rfl ?_
  refine xv_bt rfl (xd_leT h0) ?_
  refine xv_m 2 rfl ?_
  refine xv_bt rfl (xd_gtT h1) ?_
  refine xv_m 3 rfl ?_
  refine xv_bt rfl (by decide +kernel) ?_
  refine xv_m 1 rfl ?_
  exact xv_rb xn_0 rfl
theorem c_9m {V : Nat} (hV : V ≤ 30) (hSV : s 1 7 = nI V) {v : Nat} (hv : v < V) {x l u : Int32} (h0 : l ≤ u) (h1 : l ≤ x) (h2 : u < x) (hd : 7 ≤ d) (hw : 113 ≤ w) : xv xm L xs d w 9 0 [(0, .ref 1), (1, .int (nI v)), (2, .int (x)), (3, .int (l)), (4, .int (u))] [] (xC s ++ g) (.returned (some (.int (0)))) (xC s ++ g) 0 0 := by
  refine xv_m 3 rfl ?_
  refine xv_c0 (r := 41) (nip := 4) (cost := 13) rfl (by omega) (by omega) (m_41) ?_
  refine xv_c0 (r := 23) (nip := 5) (cost := 13) rfl (by omega) (by omega) (m_23v hSV hv (by omega) (hd := by omega) (hw := by omega)) ?_
  refine xv_m 2 rfl ?_
  refine xv_bt rfl (xd_leT h0) ?_
  refine xv_m 2 rfl ?_
  refine xv_bf rfl (xd_gtF h1) ?_
  refine xv_m 2 rfl ?_
  refine xv_bt rfl (xd_gtT h2) ?_
  refine xv_m 3 rfl ?_
  refine xv_bt rfl (by decide +kernel) ?_
  refine xv_m 1 rfl ?_
  exact xv_rb xn_0 rfl
theorem c_9a {p x l u : Int32} (hx : p < 0 ∨ s 1 7 ≤ p) (hd : 7 ≤ d) (hw : 113 ≤ w) : xv xm L xs d w 9 0 [(0, .ref 1), (1, .int (p)), (2, .int (x)), (3, .int (l)), (4, .int (u))] [] (xC s ++ g) (.threw ((xC s ++ g).length + 1)) ((xC s ++ g) ++ [.inr (7, [])]) 1 6 := by
  refine xv_m 3 rfl ?_
  refine xv_c0 (r := 41) (nip := 4) (cost := 13) rfl (by omega) (by omega) (m_41) ?_
  exact xv_ct (r := 23) (nip := 5) (cost := 13) rfl (by omega) (by omega) rfl (m_23t hx (hd := by omega) (hw := by omega))
theorem c_9b {V : Nat} (hV : V ≤ 30) (hSV : s 1 7 = nI V) {v : Nat} (hv : v < V) {x l u : Int32} (hx : u < l) (hd : 7 ≤ d) (hw : 113 ≤ w) : xv xm L xs d w 9 0 [(0, .ref 1), (1, .int (nI v)), (2, .int (x)), (3, .int (l)), (4, .int (u))] [] (xC s ++ g) (.threw ((xC s ++ g).length + 1)) ((xC s ++ g) ++ [.inr (8, [])]) 1 6 := by
  refine xv_m 3 rfl ?_
  refine xv_c0 (r := 41) (nip := 4) (cost := 13) rfl (by omega) (by omega) (m_41) ?_
  refine xv_c0 (r := 23) (nip := 5) (cost := 13) rfl (by omega) (by omega) (m_23v hSV hv (by omega) (hd := by omega) (hw := by omega)) ?_
  refine xv_m 2 rfl ?_
  refine xv_bf rfl (xd_leF hx) ?_
  exact xv_t rfl (by omega) (by omega)
theorem c_10 {V : Nat} (hV : V ≤ 30) (hSV : s 1 7 = nI V) {v : Nat} (hv : v < V) {k : Nat} (hk : k < 5) {x : Int32} (h0 : xa_con 1 1 ≤ x) (h1 : x ≤ nI 99999) (hd : 7 ≤ d) (hw : 114 ≤ w) : xv xm L xs d w 10 0 [(0, .ref 1), (1, .int (nI v)), (2, .int (nI k)), (3, .int (x))] [] (xC s ++ g) (.returned none) (xC (xu s 7 (5 * v + k) x) ++ g) 0 0 := by
  refine xv_m 3 rfl ?_
  refine xv_c0 (r := 41) (nip := 4) (cost := 13) rfl (by omega) (by omega) (m_41) ?_
  refine xv_c0 (r := 23) (nip := 5) (cost := 13) rfl (by omega) (by omega) (m_23v hSV hv (by omega) (hd := by omega) (hw := by omega)) ?_
  refine xv_m 2 rfl ?_
  refine xv_c0 (r := 23) (nip := 8) (cost := 13) rfl (by omega) (by omega) (m_23v (V := 5) rfl hk (by omega) (hd := by omega) (hw := by omega)) ?_
  refine xv_m 3 rfl ?_
  refine xv_c0 (r := 24) (nip := 12) (cost := 14) rfl (by omega) (by omega) (m_24 h0 h1 (hd := by omega) (hw := by omega)) ?_
  refine xv_m 5 rfl ?_
  refine xv_c0 (r := 50) (nip := 18) (cost := 15) rfl (by omega) (by omega) (m_50 (by omega) hk) ?_
  exact xv_r rfl
theorem c_10a {p q x : Int32} (hx : p < 0 ∨ s 1 7 ≤ p) (hd : 7 ≤ d) (hw : 114 ≤ w) : xv xm L xs d w 10 0 [(0, .ref 1), (1, .int (p)), (2, .int (q)), (3, .int (x))] [] (xC s ++ g) (.threw ((xC s ++ g).length + 1)) ((xC s ++ g) ++ [.inr (7, [])]) 1 6 := by
  refine xv_m 3 rfl ?_
  refine xv_c0 (r := 41) (nip := 4) (cost := 13) rfl (by omega) (by omega) (m_41) ?_
  exact xv_ct (r := 23) (nip := 5) (cost := 13) rfl (by omega) (by omega) rfl (m_23t hx (hd := by omega) (hw := by omega))
theorem c_10b {V : Nat} (hV : V ≤ 30) (hSV : s 1 7 = nI V) {v : Nat} (hv : v < V) {q x : Int32} (hx : q < 0 ∨ nI 5 ≤ q) (hd : 7 ≤ d) (hw : 114 ≤ w) : xv xm L xs d w 10 0 [(0, .ref 1), (1, .int (nI v)), (2, .int (q)), (3, .int (x))] [] (xC s ++ g) (.threw ((xC s ++ g).length + 1)) ((xC s ++ g) ++ [.inr (7, [])]) 1 6 := by
  refine xv_m 3 rfl ?_
  refine xv_c0 (r := 41) (nip := 4) (cost := 13) rfl (by omega) (by omega) (m_41) ?_
  refine xv_c0 (r := 23) (nip := 5) (cost := 13) rfl (by omega) (by omega) (m_23v hSV hv (by omega) (hd := by omega) (hw := by omega)) ?_
  refine xv_m 2 rfl ?_
  exact xv_ct (r := 23) (nip := 8) (cost := 13) rfl (by omega) (by omega) rfl (m_23t hx (hd := by omega) (hw := by omega))
theorem c_10c {V : Nat} (hV : V ≤ 30) (hSV : s 1 7 = nI V) {v : Nat} (hv : v < V) {k : Nat} (hk : k < 5) {x : Int32} (hx : x < xa_con 1 1 ∨ nI 99999 < x) (hd : 7 ≤ d) (hw : 114 ≤ w) : xv xm L xs d w 10 0 [(0, .ref 1), (1, .int (nI v)), (2, .int (nI k)), (3, .int (x))] [] (xC s ++ g) (.threw ((xC s ++ g).length + 1)) ((xC s ++ g) ++ [.inr (8, [])]) 1 6 := by
  refine xv_m 3 rfl ?_
  refine xv_c0 (r := 41) (nip := 4) (cost := 13) rfl (by omega) (by omega) (m_41) ?_
  refine xv_c0 (r := 23) (nip := 5) (cost := 13) rfl (by omega) (by omega) (m_23v hSV hv (by omega) (hd := by omega) (hw := by omega)) ?_
  refine xv_m 2 rfl ?_
  refine xv_c0 (r := 23) (nip := 8) (cost := 13) rfl (by omega) (by omega) (m_23v (V := 5) rfl hk (by omega) (hd := by omega) (hw := by omega)) ?_
  refine xv_m 3 rfl ?_
  exact xv_ct (r := 24) (nip := 12) (cost := 14) rfl (by omega) (by omega) rfl (m_24t hx (hd := by omega) (hw := by omega))
theorem c_11 {V : Nat} (hV : V ≤ 30) (hSV : s 1 7 = nI V) {v : Nat} (hv : v < V){O : Nat} (hO : O ≤ 60) (hSO : s 17 5 = nI O) (he : ¬ xfst (f_opn (s 19) (s 18) (nI v)) O 0 = xa_con 1 1) (hd : 7 ≤ d) (hw : 113 ≤ w) : xv xm L xs d w 11 0 [(0, .ref 1), (1, .int (nI v))] [] (xC s ++ g) (.returned (some (.int (xfst (f_opn (s 19) (s 18) (nI v)) O 0)))) (xC s ++ g) 0 0 := by
  refine xv_m 3 rfl ?_
  refine xv_c0 (r := 41) (nip := 4) (cost := 13) rfl (by omega) (by omega) (m_41) ?_
  refine xv_c0 (r := 23) (nip := 5) (cost := 13) rfl (by omega) (by omega) (m_23v hSV hv (by omega) (hd := by omega) (hw := by omega)) ?_
  refine xv_m 3 rfl ?_
  refine xv_c0 (r := 80) (nip := 9) (cost := 14) rfl (by omega) (by omega) (m_80 hO hSO) ?_
  refine xv_m 3 rfl ?_
  refine xv_bf rfl (xc_eqF he) ?_
  refine xv_m 1 rfl ?_
  exact xv_r rfl
def f_ord (s : Nat → Nat → Int32) (j : Nat) (x : Int32) : Nat → Nat → Int32 := xu (xu (xu s 18 j x) 19 j 1) 17 5 (nI (j + 1))
theorem c_11n {V : Nat} (hV : V ≤ 30) (hSV : s 1 7 = nI V) {v : Nat} (hv : v < V) {O : Nat} (hO : O < 60) (hSO : s 17 5 = nI O) (he : xfst (f_opn (s 19) (s 18) (nI v)) O 0 = xa_con 1 1) (hd : 7 ≤ d) (hw : 113 ≤ w) : xv xm L xs d w 11 0 [(0, .ref 1), (1, .int (nI v))] [] (xC s ++ g) (.returned (some (.int (nI O)))) (xC (f_ord s O (nI v)) ++ g) 0 0 := by
  refine xv_m 3 rfl ?_
  refine xv_c0 (r := 41) (nip := 4) (cost := 13) rfl (by omega) (by omega) (m_41) ?_
  refine xv_c0 (r := 23) (nip := 5) (cost := 13) rfl (by omega) (by omega) (m_23v hSV hv (by omega) (hd := by omega) (hw := by omega)) ?_
  refine xv_m 3 rfl ?_
  refine xv_c0 (r := 80) (nip := 9) (cost := 14) rfl (by omega) (by omega) (m_80 (by omega) hSO) ?_
  refine xv_m 3 rfl ?_
  refine xv_bt rfl (xc_eqT he) ?_
  refine xv_m 2 rfl ?_
  refine xv_c0 (r := 75) (nip := 18) (cost := 12) rfl (by omega) (by omega) (m_75) ?_
  refine xv_m 1 rfl ?_
  refine xv_c0 (r := 25) (nip := 20) (cost := 13) rfl (by omega) (by omega) (m_25 (by rw [hSO]; exact nI_lt hO (by omega)) (hd := by omega) (hw := by omega)) ?_
  refine xv_m 3 rfl ?_
  refine xv_c0 (r := 77) (nip := 24) (cost := 13) rfl (by omega) (by omega) (m_77 hO hSO) ?_
  exact xv_r rfl
theorem c_11a {p : Int32} (hx : p < 0 ∨ s 1 7 ≤ p) (hd : 7 ≤ d) (hw : 113 ≤ w) : xv xm L xs d w 11 0 [(0, .ref 1), (1, .int (p))] [] (xC s ++ g) (.threw ((xC s ++ g).length + 1)) ((xC s ++ g) ++ [.inr (7, [])]) 1 6 := by
  refine xv_m 3 rfl ?_
  refine xv_c0 (r := 41) (nip := 4) (cost := 13) rfl (by omega) (by omega) (m_41) ?_
  exact xv_ct (r := 23) (nip := 5) (cost := 13) rfl (by omega) (by omega) rfl (m_23t hx (hd := by omega) (hw := by omega))
theorem c_11b {V : Nat} (hV : V ≤ 30) (hSV : s 1 7 = nI V) {v : Nat} (hv : v < V){O : Nat} (hO : O ≤ 60) (hSO : s 17 5 = nI O) (he : xfst (f_opn (s 19) (s 18) (nI v)) O 0 = xa_con 1 1) (hx : nI 60 ≤ s 17 5) (hd : 7 ≤ d) (hw : 113 ≤ w) : xv xm L xs d w 11 0 [(0, .ref 1), (1, .int (nI v))] [] (xC s ++ g) (.threw ((xC s ++ g).length + 1)) ((xC s ++ g) ++ [.inr (10, [])]) 1 6 := by
  refine xv_m 3 rfl ?_
  refine xv_c0 (r := 41) (nip := 4) (cost := 13) rfl (by omega) (by omega) (m_41) ?_
  refine xv_c0 (r := 23) (nip := 5) (cost := 13) rfl (by omega) (by omega) (m_23v hSV hv (by omega) (hd := by omega) (hw := by omega)) ?_
  refine xv_m 3 rfl ?_
  refine xv_c0 (r := 80) (nip := 9) (cost := 14) rfl (by omega) (by omega) (m_80 hO hSO) ?_
  refine xv_m 3 rfl ?_
  refine xv_bt rfl (xc_eqT he) ?_
  refine xv_m 2 rfl ?_
  refine xv_c0 (r := 75) (nip := 18) (cost := 12) rfl (by omega) (by omega) (m_75) ?_
  refine xv_m 1 rfl ?_
  exact xv_ct (r := 25) (nip := 20) (cost := 13) rfl (by omega) (by omega) rfl (m_25t hx (hd := by omega) (hw := by omega))
def f_wr (s : Nat → Nat → Int32) (j r : Nat) : Nat → Nat → Int32 := xu (xu s 20 (10 * j + r) 1) 21 j (s 21 j + nI 1)
def f_wd (s : Nat → Nat → Int32) (j k : Nat) : Nat → Nat → Int32 := xu (xu s 16 k (nI j)) 21 j (s 21 j + nI 1)
theorem c_12r {O : Nat} (hO : O ≤ 60) (hSO : s 17 5 = nI O) {j : Nat} (hj : j < O) (hz : xz (s 19)) (hy : xz (s 20)){R : Nat} (hR : R ≤ 10) (hSR : s 9 2 = nI R) {r : Nat} (hr : r < R) (h1 : s 19 j = 1) (h2 : s 20 (10 * j + r) = 0) (hd : 7 ≤ d) (hw : 114 ≤ w) : xv xm L xs d w 12 0 [(0, .ref 1), (1, .int (nI j)), (2, .int (1)), (3, .int (nI r))] [] (xC s ++ g) (.returned (some (.int (s 21 j + nI 1)))) (xC (f_wr s j r) ++ g) 0 0 := by
  refine xv_m 3 rfl ?_
  refine xv_c0 (r := 75) (nip := 4) (cost := 13) rfl (by omega) (by omega) (m_75) ?_
  refine xv_c0 (r := 23) (nip := 5) (cost := 13) rfl (by omega) (by omega) (m_23v hSO hj (by omega) (hd := by omega) (hw := by omega)) ?_
  refine xv_m 2 rfl ?_
  refine xv_bf rfl (by decide +kernel) ?_
  refine xv_m 2 rfl ?_
  refine xv_c0 (r := 55) (nip := 11) (cost := 13) rfl (by omega) (by omega) (m_55) ?_
  refine xv_m 1 rfl ?_
  refine xv_c0 (r := 23) (nip := 16) (cost := 13) rfl (by omega) (by omega) (m_23v hSR hr (by omega) (hd := by omega) (hw := by omega)) ?_
  refine xv_m 2 rfl ?_
  refine xv_c0 (r := 26) (nip := 19) (cost := 13) rfl (by omega) (by omega) (m_26 hz (by omega) h1 (hd := by omega) (hw := by omega)) ?_
  refine xv_m 1 rfl ?_
  refine xv_bf rfl (by decide +kernel) ?_
  refine xv_m 3 rfl ?_
  refine xv_c0 (r := 32) (nip := 25) (cost := 14) rfl (by omega) (by omega) (m_32 hy (by omega) (by omega) h2 (hd := by omega) (hw := by omega)) ?_
  refine xv_m 4 rfl ?_
  refine xv_c0 (r := 85) (nip := 34) (cost := 13) rfl (by omega) (by omega) (m_85 (s := f_wr s j r) (by omega)) ?_
  exact xv_rn (upd_at _ _ _) rfl
theorem c_12a {p q x : Int32} (hx : p < 0 ∨ s 17 5 ≤ p) (hd : 7 ≤ d) (hw : 114 ≤ w) : xv xm L xs d w 12 0 [(0, .ref 1), (1, .int (p)), (2, .int (q)), (3, .int (x))] [] (xC s ++ g) (.threw ((xC s ++ g).length + 1)) ((xC s ++ g) ++ [.inr (7, [])]) 1 6 := by
  refine xv_m 3 rfl ?_
  refine xv_c0 (r := 75) (nip := 4) (cost := 13) rfl (by omega) (by omega) (m_75) ?_
  exact xv_ct (r := 23) (nip := 5) (cost := 13) rfl (by omega) (by omega) rfl (m_23t hx (hd := by omega) (hw := by omega))
theorem c_12rb {O : Nat} (hO : O ≤ 60) (hSO : s 17 5 = nI O) {j : Nat} (hj : j < O) (hz : xz (s 19)) (hy : xz (s 20)) {x : Int32} (hx : x < 0 ∨ s 9 2 ≤ x) (hd : 7 ≤ d) (hw : 114 ≤ w) : xv xm L xs d w 12 0 [(0, .ref 1), (1, .int (nI j)), (2, .int (1)), (3, .int (x))] [] (xC s ++ g) (.threw ((xC s ++ g).length + 1)) ((xC s ++ g) ++ [.inr (7, [])]) 1 6 := by
  refine xv_m 3 rfl ?_
  refine xv_c0 (r := 75) (nip := 4) (cost := 13) rfl (by omega) (by omega) (m_75) ?_
  refine xv_c0 (r := 23) (nip := 5) (cost := 13) rfl (by omega) (by omega) (m_23v hSO hj (by omega) (hd := by omega) (hw := by omega)) ?_
  refine xv_m 2 rfl ?_
  refine xv_bf rfl (by decide +kernel) ?_
  refine xv_m 2 rfl ?_
  refine xv_c0 (r := 55) (nip := 11) (cost := 13) rfl (by omega) (by omega) (m_55) ?_
  refine xv_m 1 rfl ?_
  exact xv_ct (r := 23) (nip := 16) (cost := 13) rfl (by omega) (by omega) rfl (m_23t hx (hd := by omega) (hw := by omega))
theorem c_12db {O : Nat} (hO : O ≤ 60) (hSO : s 17 5 = nI O) {j : Nat} (hj : j < O) (hz : xz (s 19)) (hy : xz (s 20)) {x : Int32} (hx : x < 0 ∨ s 12 4 ≤ x) (hd : 7 ≤ d) (hw : 114 ≤ w) : xv xm L xs d w 12 0 [(0, .ref 1), (1, .int (nI j)), (2, .int (0)), (3, .int (x))] [] (xC s ++ g) (.threw ((xC s ++ g).length + 1)) ((xC s ++ g) ++ [.inr (7, [])]) 1 6 := by
  refine xv_m 3 rfl ?_
  refine xv_c0 (r := 75) (nip := 4) (cost := 13) rfl (by omega) (by omega) (m_75) ?_
  refine xv_c0 (r := 23) (nip := 5) (cost := 13) rfl (by omega) (by omega) (m_23v hSO hj (by omega) (hd := by omega) (hw := by omega)) ?_
  refine xv_m 2 rfl ?_
  refine xv_bt rfl (by decide +kernel) ?_
  refine xv_m 2 rfl ?_
  refine xv_c0 (r := 63) (nip := 15) (cost := 13) rfl (by omega) (by omega) (m_63) ?_
  exact xv_ct (r := 23) (nip := 16) (cost := 13) rfl (by omega) (by omega) rfl (m_23t hx (hd := by omega) (hw := by omega))
theorem c_12rc {O : Nat} (hO : O ≤ 60) (hSO : s 17 5 = nI O) {j : Nat} (hj : j < O) (hz : xz (s 19)) (hy : xz (s 20)){R : Nat} (hR : R ≤ 10) (hSR : s 9 2 = nI R) {r : Nat} (hr : r < R) (h1 : s 19 j = 0) (hd : 7 ≤ d) (hw : 114 ≤ w) : xv xm L xs d w 12 0 [(0, .ref 1), (1, .int (nI j)), (2, .int (1)), (3, .int (nI r))] [] (xC s ++ g) (.threw ((xC s ++ g).length + 1)) ((xC s ++ g) ++ [.inr (9, [])]) 1 6 := by
  refine xv_m 3 rfl ?_
  refine xv_c0 (r := 75) (nip := 4) (cost := 13) rfl (by omega) (by omega) (m_75) ?_
  refine xv_c0 (r := 23) (nip := 5) (cost := 13) rfl (by omega) (by omega) (m_23v hSO hj (by omega) (hd := by omega) (hw := by omega)) ?_
  refine xv_m 2 rfl ?_
  refine xv_bf rfl (by decide +kernel) ?_
  refine xv_m 2 rfl ?_
  refine xv_c0 (r := 55) (nip := 11) (cost := 13) rfl (by omega) (by omega) (m_55) ?_
  refine xv_m 1 rfl ?_
  refine xv_c0 (r := 23) (nip := 16) (cost := 13) rfl (by omega) (by omega) (m_23v hSR hr (by omega) (hd := by omega) (hw := by omega)) ?_
  refine xv_m 2 rfl ?_
  exact xv_ct (r := 26) (nip := 19) (cost := 13) rfl (by omega) (by omega) rfl (m_26t hz (by omega) h1 (hd := by omega) (hw := by omega))
theorem c_12dc {O : Nat} (hO : O ≤ 60) (hSO : s 17 5 = nI O) {j : Nat} (hj : j < O) (hz : xz (s 19)) (hy : xz (s 20)){D : Nat} (hD : D ≤ 100) (hSD : s 12 4 = nI D) {k : Nat} (hk : k < D) (h1 : s 19 j = 0) (hd : 7 ≤ d) (hw : 114 ≤ w) : xv xm L xs d w 12 0 [(0, .ref 1), (1, .int (nI j)), (2, .int (0)), (3, .int (nI k))] [] (xC s ++ g) (.threw ((xC s ++ g).length + 1)) ((xC s ++ g) ++ [.inr (9, [])]) 1 6 := by
  refine xv_m 3 rfl ?_
  refine xv_c0 (r := 75) (nip := 4) (cost := 13) rfl (by omega) (by omega) (m_75) ?_
  refine xv_c0 (r := 23) (nip := 5) (cost := 13) rfl (by omega) (by omega) (m_23v hSO hj (by omega) (hd := by omega) (hw := by omega)) ?_
  refine xv_m 2 rfl ?_
  refine xv_bt rfl (by decide +kernel) ?_
  refine xv_m 2 rfl ?_
  refine xv_c0 (r := 63) (nip := 15) (cost := 13) rfl (by omega) (by omega) (m_63) ?_
  refine xv_c0 (r := 23) (nip := 16) (cost := 13) rfl (by omega) (by omega) (m_23v hSD hk (by omega) (hd := by omega) (hw := by omega)) ?_
  refine xv_m 2 rfl ?_
  exact xv_ct (r := 26) (nip := 19) (cost := 13) rfl (by omega) (by omega) rfl (m_26t hz (by omega) h1 (hd := by omega) (hw := by omega))
theorem c_12rd {O : Nat} (hO : O ≤ 60) (hSO : s 17 5 = nI O) {j : Nat} (hj : j < O) (hz : xz (s 19)) (hy : xz (s 20)){R : Nat} (hR : R ≤ 10) (hSR : s 9 2 = nI R) {r : Nat} (hr : r < R) (h1 : s 19 j = 1) (h2 : s 20 (10 * j + r) = 1) (hd : 7 ≤ d) (hw : 114 ≤ w) : xv xm L xs d w 12 0 [(0, .ref 1), (1, .int (nI j)), (2, .int (1)), (3, .int (nI r))] [] (xC s ++ g) (.threw ((xC s ++ g).length + 1)) ((xC s ++ g) ++ [.inr (9, [])]) 1 6 := by
  refine xv_m 3 rfl ?_
  refine xv_c0 (r := 75) (nip := 4) (cost := 13) rfl (by omega) (by omega) (m_75) ?_
  refine xv_c0 (r := 23) (nip := 5) (cost := 13) rfl (by omega) (by omega) (m_23v hSO hj (by omega) (hd := by omega) (hw := by omega)) ?_
  refine xv_m 2 rfl ?_
  refine xv_bf rfl (by decide +kernel) ?_
  refine xv_m 2 rfl ?_
  refine xv_c0 (r := 55) (nip := 11) (cost := 13) rfl (by omega) (by omega) (m_55) ?_
  refine xv_m 1 rfl ?_
  refine xv_c0 (r := 23) (nip := 16) (cost := 13) rfl (by omega) (by omega) (m_23v hSR hr (by omega) (hd := by omega) (hw := by omega)) ?_
  refine xv_m 2 rfl ?_
  refine xv_c0 (r := 26) (nip := 19) (cost := 13) rfl (by omega) (by omega) (m_26 hz (by omega) h1 (hd := by omega) (hw := by omega)) ?_
  refine xv_m 1 rfl ?_
  refine xv_bf rfl (by decide +kernel) ?_
  refine xv_m 3 rfl ?_
  exact xv_ct (r := 32) (nip := 25) (cost := 14) rfl (by omega) (by omega) rfl (m_32t hy (by omega) (by omega) h2 (hd := by omega) (hw := by omega))
theorem c_12d {O : Nat} (hO : O ≤ 60) (hSO : s 17 5 = nI O) {j : Nat} (hj : j < O) (hz : xz (s 19)) (hy : xz (s 20)){D : Nat} (hD : D ≤ 100) (hSD : s 12 4 = nI D) {k : Nat} (hk : k < D) (h1 : s 19 j = 1) (e1 : s 13 k = s 18 j) (e2 : s 15 k = 0) (e3 : ¬ s 16 k = nI j) (hd : 7 ≤ d) (hw : 114 ≤ w) : xv xm L xs d w 12 0 [(0, .ref 1), (1, .int (nI j)), (2, .int (0)), (3, .int (nI k))] [] (xC s ++ g) (.returned (some (.int (s 21 j + nI 1)))) (xC (f_wd s j k) ++ g) 0 0 := by
  refine xv_m 3 rfl ?_
  refine xv_c0 (r := 75) (nip := 4) (cost := 13) rfl (by omega) (by omega) (m_75) ?_
  refine xv_c0 (r := 23) (nip := 5) (cost := 13) rfl (by omega) (by omega) (m_23v hSO hj (by omega) (hd := by omega) (hw := by omega)) ?_
  refine xv_m 2 rfl ?_
  refine xv_bt rfl (by decide +kernel) ?_
  refine xv_m 2 rfl ?_
  refine xv_c0 (r := 63) (nip := 15) (cost := 13) rfl (by omega) (by omega) (m_63) ?_
  refine xv_c0 (r := 23) (nip := 16) (cost := 13) rfl (by omega) (by omega) (m_23v hSD hk (by omega) (hd := by omega) (hw := by omega)) ?_
  refine xv_m 2 rfl ?_
  refine xv_c0 (r := 26) (nip := 19) (cost := 13) rfl (by omega) (by omega) (m_26 hz (by omega) h1 (hd := by omega) (hw := by omega)) ?_
  refine xv_m 1 rfl ?_
  refine xv_bt rfl (by decide +kernel) ?_
  refine xv_m 3 rfl ?_
  refine xv_c0 (r := 33) (nip := 30) (cost := 14) rfl (by omega) (by omega) (m_33 (by omega) (by omega) e1 e2 e3 (hd := by omega) (hw := by omega)) ?_
  refine xv_m 3 rfl ?_
  refine xv_c0 (r := 85) (nip := 34) (cost := 13) rfl (by omega) (by omega) (m_85 (s := f_wd s j k) (by omega)) ?_
  exact xv_rn (upd_at _ _ _) rfl
theorem c_12dd {O : Nat} (hO : O ≤ 60) (hSO : s 17 5 = nI O) {j : Nat} (hj : j < O) (hz : xz (s 19)) (hy : xz (s 20)){D : Nat} (hD : D ≤ 100) (hSD : s 12 4 = nI D) {k : Nat} (hk : k < D) (h1 : s 19 j = 1) (e1 : ¬ s 13 k = s 18 j) (hd : 7 ≤ d) (hw : 114 ≤ w) : xv xm L xs d w 12 0 [(0, .ref 1), (1, .int (nI j)), (2, .int (0)), (3, .int (nI k))] [] (xC s ++ g) (.threw ((xC s ++ g).length + 1)) ((xC s ++ g) ++ [.inr (9, [])]) 1 6 := by
  refine xv_m 3 rfl ?_
  refine xv_c0 (r := 75) (nip := 4) (cost := 13) rfl (by omega) (by omega) (m_75) ?_
  refine xv_c0 (r := 23) (nip := 5) (cost := 13) rfl (by omega) (by omega) (m_23v hSO hj (by omega) (hd := by omega) (hw := by omega)) ?_
  refine xv_m 2 rfl ?_
  refine xv_bt rfl (by decide +kernel) ?_
  refine xv_m 2 rfl ?_
  refine xv_c0 (r := 63) (nip := 15) (cost := 13) rfl (by omega) (by omega) (m_63) ?_
  refine xv_c0 (r := 23) (nip := 16) (cost := 13) rfl (by omega) (by omega) (m_23v hSD hk (by omega) (hd := by omega) (hw := by omega)) ?_
  refine xv_m 2 rfl ?_
  refine xv_c0 (r := 26) (nip := 19) (cost := 13) rfl (by omega) (by omega) (m_26 hz (by omega) h1 (hd := by omega) (hw := by omega)) ?_
  refine xv_m 1 rfl ?_
  refine xv_bt rfl (by decide +kernel) ?_
  refine xv_m 3 rfl ?_
  exact xv_ct (r := 33) (nip := 30) (cost := 14) rfl (by omega) (by omega) rfl (m_33a (by omega) (by omega) e1 (hd := by omega) (hw := by omega))
theorem c_12de {O : Nat} (hO : O ≤ 60) (hSO : s 17 5 = nI O) {j : Nat} (hj : j < O) (hz : xz (s 19)) (hy : xz (s 20)){D : Nat} (hD : D ≤ 100) (hSD : s 12 4 = nI D) {k : Nat} (hk : k < D) (h1 : s 19 j = 1) (e1 : s 13 k = s 18 j) (e2 : ¬ s 15 k = 0) (hd : 7 ≤ d) (hw : 114 ≤ w) : xv xm L xs d w 12 0 [(0, .ref 1), (1, .int (nI j)), (2, .int (0)), (3, .int (nI k))] [] (xC s ++ g) (.threw ((xC s ++ g).length + 1)) ((xC s ++ g) ++ [.inr (9, [])]) 1 6 := by
  refine xv_m 3 rfl ?_
  refine xv_c0 (r := 75) (nip := 4) (cost := 13) rfl (by omega) (by omega) (m_75) ?_
  refine xv_c0 (r := 23) (nip := 5) (cost := 13) rfl (by omega) (by omega) (m_23v hSO hj (by omega) (hd := by omega) (hw := by omega)) ?_
  refine xv_m 2 rfl ?_
  refine xv_bt rfl (by decide +kernel) ?_
  refine xv_m 2 rfl ?_
  refine xv_c0 (r := 63) (nip := 15) (cost := 13) rfl (by omega) (by omega) (m_63) ?_
  refine xv_c0 (r := 23) (nip := 16) (cost := 13) rfl (by omega) (by omega) (m_23v hSD hk (by omega) (hd := by omega) (hw := by omega)) ?_
  refine xv_m 2 rfl ?_
  refine xv_c0 (r := 26) (nip := 19) (cost := 13) rfl (by omega) (by omega) (m_26 hz (by omega) h1 (hd := by omega) (hw := by omega)) ?_
  refine xv_m 1 rfl ?_
  refine xv_bt rfl (by decide +kernel) ?_
  refine xv_m 3 rfl ?_
  exact xv_ct (r := 33) (nip := 30) (cost := 14) rfl (by omega) (by omega) rfl (m_33b (by omega) (by omega) e1 e2 (hd := by omega) (hw := by omega))
theorem c_12df {O : Nat} (hO : O ≤ 60) (hSO : s 17 5 = nI O) {j : Nat} (hj : j < O) (hz : xz (s 19)) (hy : xz (s 20)){D : Nat} (hD : D ≤ 100) (hSD : s 12 4 = nI D) {k : Nat} (hk : k < D) (h1 : s 19 j = 1) (e1 : s 13 k = s 18 j) (e2 : s 15 k = 0) (e3 : s 16 k = nI j) (hd : 7 ≤ d) (hw : 114 ≤ w) : xv xm L xs d w 12 0 [(0, .ref 1), (1, .int (nI j)), (2, .int (0)), (3, .int (nI k))] [] (xC s ++ g) (.threw ((xC s ++ g).length + 1)) ((xC s ++ g) ++ [.inr (9, [])]) 1 6 := by
  refine xv_m 3 rfl ?_
  refine xv_c0 (r := 75) (nip := 4) (cost := 13) rfl (by omega) (by omega) (m_75) ?_
  refine xv_c0 (r := 23) (nip := 5) (cost := 13) rfl (by omega) (by omega) (m_23v hSO hj (by omega) (hd := by omega) (hw := by omega)) ?_
  refine xv_m 2 rfl ?_
  refine xv_bt rfl (by decide +kernel) ?_
  refine xv_m 2 rfl ?_
  refine xv_c0 (r := 63) (nip := 15) (cost := 13) rfl (by omega) (by omega) (m_63) ?_
  refine xv_c0 (r := 23) (nip := 16) (cost := 13) rfl (by omega) (by omega) (m_23v hSD hk (by omega) (hd := by omega) (hw := by omega)) ?_
  refine xv_m 2 rfl ?_
  refine xv_c0 (r := 26) (nip := 19) (cost := 13) rfl (by omega) (by omega) (m_26 hz (by omega) h1 (hd := by omega) (hw := by omega)) ?_
  refine xv_m 1 rfl ?_
  refine xv_bt rfl (by decide +kernel) ?_
  refine xv_m 3 rfl ?_
  exact xv_ct (r := 33) (nip := 30) (cost := 14) rfl (by omega) (by omega) rfl (m_33c (by omega) (by omega) e1 e2 e3 (hd := by omega) (hw := by omega))
def f_prt (s : Nat → Nat → Int32) (j : Nat) (x : Int32) : Nat → Nat → Int32 := xu (xu (xu s 0 6 (s 0 6 - x)) 22 j (s 22 j + x)) 17 6 (s 17 6 + nI 1)
theorem c_13w {O : Nat} (hO : O ≤ 60) (hSO : s 17 5 = nI O) {j : Nat} (hj : j < O) (hz : xz (s 19)) (hy : xz (s 20)) {p : Nat} (hp : p < 100){x y : Int32}(h2 : nI 1 ≤ x) (h3 : x ≤ nI 100)(h4 : nI 0 ≤ y) (h5 : y ≤ nI 1000000) (h1 : s 19 j = 1) {v : Nat} (hv : v < 30) (hOv : s 18 j = nI v) (hw1 : s 0 5 < s 8 (100 * v + p)) (hm : nI 0 ≤ s 0 6) (hq : s 17 6 < nI 100) (hd : 7 ≤ d) (hw : 114 ≤ w) : xv xm L xs d w 13 0 [(0, .ref 1), (1, .int (nI j)), (2, .int (nI p)), (3, .int (x)), (4, .int (y))] [] (xC s ++ g) (.returned (some (.int (nI 0)))) (xC (f_prt s j (nI 0)) ++ g) 0 0 := by
  refine xv_m 3 rfl ?_
  refine xv_c0 (r := 75) (nip := 4) (cost := 13) rfl (by omega) (by omega) (m_75) ?_
  refine xv_c0 (r := 23) (nip := 5) (cost := 13) rfl (by omega) (by omega) (m_23v hSO hj (by omega) (hd := by omega) (hw := by omega)) ?_
  refine xv_m 2 rfl ?_
  refine xv_c0 (r := 23) (nip := 8) (cost := 13) rfl (by omega) (by omega) (m_23v (V := 100) rfl hp (by omega) (hd := by omega) (hw := by omega)) ?_
  refine xv_m 3 rfl ?_
  refine xv_c0 (r := 24) (nip := 12) (cost := 14) rfl (by omega) (by omega) (m_24 h2 h3 (hd := by omega) (hw := by omega)) ?_
  refine xv_m 3 rfl ?_
  refine xv_c0 (r := 24) (nip := 16) (cost := 14) rfl (by omega) (by omega) (m_24 h4 h5 (hd := by omega) (hw := by omega)) ?_
  refine xv_m 2 rfl ?_
  refine xv_c0 (r := 26) (nip := 19) (cost := 13) rfl (by omega) (by omega) (m_26 hz (by omega) h1 (hd := by omega) (hw := by omega)) ?_
  refine xv_m 4 rfl ?_
  refine xv_c0 (r := 78) (nip := 24) (cost := 14) rfl (by omega) (by omega) (m_78 (by omega)) ?_
  refine xv_ei hOv ?_
  refine xv_m 1 rfl ?_
  refine xv_c0 (r := 34) (nip := 26) (cost := 14) rfl (by omega) (by omega) (m_34 hv hp hw1 (hd := by omega) (hw := by omega)) ?_
  refine xv_bf rfl (by decide +kernel) ?_
  refine xv_m 6 rfl ?_
  refine xv_bt rfl (xd_leT hm) ?_
  refine xv_m 2 rfl ?_
  refine xv_c0 (r := 76) (nip := 41) (cost := 12) rfl (by omega) (by omega) (m_76) ?_
  refine xv_m 1 rfl ?_
  refine xv_c0 (r := 25) (nip := 43) (cost := 13) rfl (by omega) (by omega) (m_25 hq (hd := by omega) (hw := by omega)) ?_
  refine xv_m 6 (h1 := xC (xu s 0 6 (s 0 6 - (nI 0))) ++ g) rfl ?_
  refine xv_m 4 rfl ?_
  refine xv_c0 (r := 86) (nip := 54) (cost := 14) rfl (by omega) (by omega) (m_86 (s := xu s 0 6 (s 0 6 - (nI 0))) (by omega)) ?_
  refine xv_m 1 rfl ?_
  exact xv_r rfl
theorem c_13fw {O : Nat} (hO : O ≤ 60) (hSO : s 17 5 = nI O) {j : Nat} (hj : j < O) (hz : xz (s 19)) (hy : xz (s 20)) {p : Nat} (hp : p < 100){x y : Int32}(h2 : nI 1 ≤ x) (h3 : x ≤ nI 100)(h4 : nI 0 ≤ y) (h5 : y ≤ nI 1000000) (h1 : s 19 j = 1) {v : Nat} (hv : v < 30) (hOv : s 18 j = nI v) (hw1 : s 0 5 < s 8 (100 * v + p)) (hm : s 0 6 < nI 0) (hd : 7 ≤ d) (hw : 114 ≤ w) : xv xm L xs d w 13 0 [(0, .ref 1), (1, .int (nI j)), (2, .int (nI p)), (3, .int (x)), (4, .int (y))] [] (xC s ++ g) (.threw ((xC s ++ g).length + 1)) ((xC s ++ g) ++ [.inr (9, [])]) 1 6 := by
  refine xv_m 3 rfl ?_
  refine xv_c0 (r := 75) (nip := 4) (cost := 13) rfl (by omega) (by omega) (m_75) ?_
  refine xv_c0 (r := 23) (nip := 5) (cost := 13) rfl (by omega) (by omega) (m_23v hSO hj (by omega) (hd := by omega) (hw := by omega)) ?_
  refine xv_m 2 rfl ?_
  refine xv_c0 (r := 23) (nip := 8) (cost := 13) rfl (by omega) (by omega) (m_23v (V := 100) rfl hp (by omega) (hd := by omega) (hw := by omega)) ?_
  refine xv_m 3 rfl ?_
  refine xv_c0 (r := 24) (nip := 12) (cost := 14) rfl (by omega) (by omega) (m_24 h2 h3 (hd := by omega) (hw := by omega)) ?_
  refine xv_m 3 rfl ?_
  refine xv_c0 (r := 24) (nip := 16) (cost := 14) rfl (by omega) (by omega) (m_24 h4 h5 (hd := by omega) (hw := by omega)) ?_
  refine xv_m 2 rfl ?_
  refine xv_c0 (r := 26) (nip := 19) (cost := 13) rfl (by omega) (by omega) (m_26 hz (by omega) h1 (hd := by omega) (hw := by omega)) ?_
  refine xv_m 4 rfl ?_
  refine xv_c0 (r := 78) (nip := 24) (cost := 14) rfl (by omega) (by omega) (m_78 (by omega)) ?_
  refine xv_ei hOv ?_
  refine xv_m 1 rfl ?_
  refine xv_c0 (r := 34) (nip := 26) (cost := 14) rfl (by omega) (by omega) (m_34 hv hp hw1 (hd := by omega) (hw := by omega)) ?_
  refine xv_bf rfl (by decide +kernel) ?_
  refine xv_m 6 rfl ?_
  refine xv_bf rfl (xd_leF hm) ?_
  exact xv_t rfl (by omega) (by omega)
theorem c_13gw {O : Nat} (hO : O ≤ 60) (hSO : s 17 5 = nI O) {j : Nat} (hj : j < O) (hz : xz (s 19)) (hy : xz (s 20)) {p : Nat} (hp : p < 100){x y : Int32}(h2 : nI 1 ≤ x) (h3 : x ≤ nI 100)(h4 : nI 0 ≤ y) (h5 : y ≤ nI 1000000) (h1 : s 19 j = 1) {v : Nat} (hv : v < 30) (hOv : s 18 j = nI v) (hw1 : s 0 5 < s 8 (100 * v + p)) (hm : nI 0 ≤ s 0 6) (hq : nI 100 ≤ s 17 6) (hd : 7 ≤ d) (hw : 114 ≤ w) : xv xm L xs d w 13 0 [(0, .ref 1), (1, .int (nI j)), (2, .int (nI p)), (3, .int (x)), (4, .int (y))] [] (xC s ++ g) (.threw ((xC s ++ g).length + 1)) ((xC s ++ g) ++ [.inr (10, [])]) 1 6 := by
  refine xv_m 3 rfl ?_
  refine xv_c0 (r := 75) (nip := 4) (cost := 13) rfl (by omega) (by omega) (m_75) ?_
  refine xv_c0 (r := 23) (nip := 5) (cost := 13) rfl (by omega) (by omega) (m_23v hSO hj (by omega) (hd := by omega) (hw := by omega)) ?_
  refine xv_m 2 rfl ?_
  refine xv_c0 (r := 23) (nip := 8) (cost := 13) rfl (by omega) (by omega) (m_23v (V := 100) rfl hp (by omega) (hd := by omega) (hw := by omega)) ?_
  refine xv_m 3 rfl ?_
  refine xv_c0 (r := 24) (nip := 12) (cost := 14) rfl (by omega) (by omega) (m_24 h2 h3 (hd := by omega) (hw := by omega)) ?_
  refine xv_m 3 rfl ?_
  refine xv_c0 (r := 24) (nip := 16) (cost := 14) rfl (by omega) (by omega) (m_24 h4 h5 (hd := by omega) (hw := by omega)) ?_
  refine xv_m 2 rfl ?_
  refine xv_c0 (r := 26) (nip := 19) (cost := 13) rfl (by omega) (by omega) (m_26 hz (by omega) h1 (hd := by omega) (hw := by omega)) ?_
  refine xv_m 4 rfl ?_
  refine xv_c0 (r := 78) (nip := 24) (cost := 14) rfl (by omega) (by omega) (m_78 (by omega)) ?_
  refine xv_ei hOv ?_
  refine xv_m 1 rfl ?_
  refine xv_c0 (r := 34) (nip := 26) (cost := 14) rfl (by omega) (by omega) (m_34 hv hp hw1 (hd := by omega) (hw := by omega)) ?_
  refine xv_bf rfl (by decide +kernel) ?_
  refine xv_m 6 rfl ?_
  refine xv_bt rfl (xd_leT hm) ?_
  refine xv_m 2 rfl ?_
  refine xv_c0 (r := 76) (nip := 41) (cost := 12) rfl (by omega) (by omega) (m_76) ?_
  refine xv_m 1 rfl ?_
  exact xv_ct (r := 25) (nip := 43) (cost := 13) rfl (by omega) (by omega) rfl (m_25t hq (hd := by omega) (hw := by omega))
theorem c_13n {O : Nat} (hO : O ≤ 60) (hSO : s 17 5 = nI O) {j : Nat} (hj : j < O) (hz : xz (s 19)) (hy : xz (s 20)) {p : Nat} (hp : p < 100){x y : Int32}(h2 : nI 1 ≤ x) (h3 : x ≤ nI 100)(h4 : nI 0 ≤ y) (h5 : y ≤ nI 1000000) (h1 : s 19 j = 1) {v : Nat} (hv : v < 30) (hOv : s 18 j = nI v) (hw1 : s 8 (100 * v + p) ≤ s 0 5) (hm : x * y ≤ s 0 6) (hq : s 17 6 < nI 100) (hd : 7 ≤ d) (hw : 114 ≤ w) : xv xm L xs d w 13 0 [(0, .ref 1), (1, .int (nI j)), (2, .int (nI p)), (3, .int (x)), (4, .int (y))] [] (xC s ++ g) (.returned (some (.int (x * y)))) (xC (f_prt s j (x * y)) ++ g) 0 0 := by
  refine xv_m 3 rfl ?_
  refine xv_c0 (r := 75) (nip := 4) (cost := 13) rfl (by omega) (by omega) (m_75) ?_
  refine xv_c0 (r := 23) (nip := 5) (cost := 13) rfl (by omega) (by omega) (m_23v hSO hj (by omega) (hd := by omega) (hw := by omega)) ?_
  refine xv_m 2 rfl ?_
  refine xv_c0 (r := 23) (nip := 8) (cost := 13) rfl (by omega) (by omega) (m_23v (V := 100) rfl hp (by omega) (hd := by omega) (hw := by omega)) ?_
  refine xv_m 3 rfl ?_
  refine xv_c0 (r := 24) (nip := 12) (cost := 14) rfl (by omega) (by omega) (m_24 h2 h3 (hd := by omega) (hw := by omega)) ?_
  refine xv_m 3 rfl ?_
  refine xv_c0 (r := 24) (nip := 16) (cost := 14) rfl (by omega) (by omega) (m_24 h4 h5 (hd := by omega) (hw := by omega)) ?_
  refine xv_m 2 rfl ?_
  refine xv_c0 (r := 26) (nip := 19) (cost := 13) rfl (by omega) (by omega) (m_26 hz (by omega) h1 (hd := by omega) (hw := by omega)) ?_
  refine xv_m 4 rfl ?_
  refine xv_c0 (r := 78) (nip := 24) (cost := 14) rfl (by omega) (by omega) (m_78 (by omega)) ?_
  refine xv_ei hOv ?_
  refine xv_m 1 rfl ?_
  refine xv_c0 (r := 34) (nip := 26) (cost := 14) rfl (by omega) (by omega) (m_34n hv hp hw1 (hd := by omega) (hw := by omega)) ?_
  refine xv_bt rfl (by decide +kernel) ?_
  refine xv_m 7 rfl ?_
  refine xv_bt rfl (xd_leT hm) ?_
  refine xv_m 2 rfl ?_
  refine xv_c0 (r := 76) (nip := 41) (cost := 12) rfl (by omega) (by omega) (m_76) ?_
  refine xv_m 1 rfl ?_
  refine xv_c0 (r := 25) (nip := 43) (cost := 13) rfl (by omega) (by omega) (m_25 hq (hd := by omega) (hw := by omega)) ?_
  refine xv_m 6 (h1 := xC (xu s 0 6 (s 0 6 - (x * y))) ++ g) rfl ?_
  refine xv_m 4 rfl ?_
  refine xv_c0 (r := 86) (nip := 54) (cost := 14) rfl (by omega) (by omega) (m_86 (s := xu s 0 6 (s 0 6 - (x * y))) (by omega)) ?_
  refine xv_m 1 rfl ?_
  exact xv_r rfl
theorem c_13fn {O : Nat} (hO : O ≤ 60) (hSO : s 17 5 = nI O) {j : Nat} (hj : j < O) (hz : xz (s 19)) (hy : xz (s 20)) {p : Nat} (hp : p < 100){x y : Int32}(h2 : nI 1 ≤ x) (h3 : x ≤ nI 100)(h4 : nI 0 ≤ y) (h5 : y ≤ nI 1000000) (h1 : s 19 j = 1) {v : Nat} (hv : v < 30) (hOv : s 18 j = nI v) (hw1 : s 8 (100 * v + p) ≤ s 0 5) (hm : s 0 6 < x * y) (hd : 7 ≤ d) (hw : 114 ≤ w) : xv xm L xs d w 13 0 [(0, .ref 1), (1, .int (nI j)), (2, .int (nI p)), (3, .int (x)), (4, .int (y))] [] (xC s ++ g) (.threw ((xC s ++ g).length + 1)) ((xC s ++ g) ++ [.inr (9, [])]) 1 6 := by
  refine xv_m 3 rfl ?_
  refine xv_c0 (r := 75) (nip := 4) (cost := 13) rfl (by omega) (by omega) (m_75) ?_
  refine xv_c0 (r := 23) (nip := 5) (cost := 13) rfl (by omega) (by omega) (m_23v hSO hj (by omega) (hd := by omega) (hw := by omega)) ?_
  refine xv_m 2 rfl ?_
  refine xv_c0 (r := 23) (nip := 8) (cost := 13) rfl (by omega) (by omega) (m_23v (V := 100) rfl hp (by omega) (hd := by omega) (hw := by omega)) ?_
  refine xv_m 3 rfl ?_
  refine xv_c0 (r := 24) (nip := 12) (cost := 14) rfl (by omega) (by omega) (m_24 h2 h3 (hd := by omega) (hw := by omega)) ?_
  refine xv_m 3 rfl ?_
  refine xv_c0 (r := 24) (nip := 16) (cost := 14) rfl (by omega) (by omega) (m_24 h4 h5 (hd := by omega) (hw := by omega)) ?_
  refine xv_m 2 rfl ?_
  refine xv_c0 (r := 26) (nip := 19) (cost := 13) rfl (by omega) (by omega) (m_26 hz (by omega) h1 (hd := by omega) (hw := by omega)) ?_
  refine xv_m 4 rfl ?_
  refine xv_c0 (r := 78) (nip := 24) (cost := 14) rfl (by omega) (by omega) (m_78 (by omega)) ?_
  refine xv_ei hOv ?_
  refine xv_m 1 rfl ?_
  refine xv_c0 (r := 34) (nip := 26) (cost := 14) rfl (by omega) (by omega) (m_34n hv hp hw1 (hd := by omega) (hw := by omega)) ?_
  refine xv_bt rfl (by decide +kernel) ?_
  refine xv_m 7 rfl ?_
  refine xv_bf rfl (xd_leF hm) ?_
  exact xv_t rfl (by omega) (by omega)
theorem c_13gn {O : Nat} (hO : O ≤ 60) (hSO : s 17 5 = nI O) {j : Nat} (hj : j < O) (hz : xz (s 19)) (hy : xz (s 20)) {p : Nat} (hp : p < 100){x y : Int32}(h2 : nI 1 ≤ x) (h3 : x ≤ nI 100)(h4 : nI 0 ≤ y) (h5 : y ≤ nI 1000000) (h1 : s 19 j = 1) {v : Nat} (hv : v < 30) (hOv : s 18 j = nI v) (hw1 : s 8 (100 * v + p) ≤ s 0 5) (hm : x * y ≤ s 0 6) (hq : nI 100 ≤ s 17 6) (hd : 7 ≤ d) (hw : 114 ≤ w) : xv xm L xs d w 13 0 [(0, .ref 1), (1, .int (nI j)), (2, .int (nI p)), (3, .int (x)), (4, .int (y))] [] (xC s ++ g) (.threw ((xC s ++ g).length + 1)) ((xC s ++ g) ++ [.inr (10, [])]) 1 6 := by
  refine xv_m 3 rfl ?_
  refine xv_c0 (r := 75) (nip := 4) (cost := 13) rfl (by omega) (by omega) (m_75) ?_
  refine xv_c0 (r := 23) (nip := 5) (cost := 13) rfl (by omega) (by omega) (m_23v hSO hj (by omega) (hd := by omega) (hw := by omega)) ?_
  refine xv_m 2 rfl ?_
  refine xv_c0 (r := 23) (nip := 8) (cost := 13) rfl (by omega) (by omega) (m_23v (V := 100) rfl hp (by omega) (hd := by omega) (hw := by omega)) ?_
  refine xv_m 3 rfl ?_
  refine xv_c0 (r := 24) (nip := 12) (cost := 14) rfl (by omega) (by omega) (m_24 h2 h3 (hd := by omega) (hw := by omega)) ?_
  refine xv_m 3 rfl ?_
  refine xv_c0 (r := 24) (nip := 16) (cost := 14) rfl (by omega) (by omega) (m_24 h4 h5 (hd := by omega) (hw := by omega)) ?_
  refine xv_m 2 rfl ?_
  refine xv_c0 (r := 26) (nip := 19) (cost := 13) rfl (by omega) (by omega) (m_26 hz (by omega) h1 (hd := by omega) (hw := by omega)) ?_
  refine xv_m 4 rfl ?_
  refine xv_c0 (r := 78) (nip := 24) (cost := 14) rfl (by omega) (by omega) (m_78 (by omega)) ?_
  refine xv_ei hOv ?_
  refine xv_m 1 rfl ?_
  refine xv_c0 (r := 34) (nip := 26) (cost := 14) rfl (by omega) (by omega) (m_34n hv hp hw1 (hd := by omega) (hw := by omega)) ?_
  refine xv_bt rfl (by decide +kernel) ?_
  refine xv_m 7 rfl ?_
  refine xv_bt rfl (xd_leT hm) ?_
  refine xv_m 2 rfl ?_
  refine xv_c0 (r := 76) (nip := 41) (cost := 12) rfl (by omega) (by omega) (m_76) ?_
  refine xv_m 1 rfl ?_
  exact xv_ct (r := 25) (nip := 43) (cost := 13) rfl (by omega) (by omega) rfl (m_25t hq (hd := by omega) (hw := by omega))
theorem c_13a {p q x y : Int32} (hx : p < 0 ∨ s 17 5 ≤ p) (hd : 7 ≤ d) (hw : 114 ≤ w) : xv xm L xs d w 13 0 [(0, .ref 1), (1, .int (p)), (2, .int (q)), (3, .int (x)), (4, .int (y))] [] (xC s ++ g) (.threw ((xC s ++ g).length + 1)) ((xC s ++ g) ++ [.inr (7, [])]) 1 6 := by
  refine xv_m 3 rfl ?_
  refine xv_c0 (r := 75) (nip := 4) (cost := 13) rfl (by omega) (by omega) (m_75) ?_
  exact xv_ct (r := 23) (nip := 5) (cost := 13) rfl (by omega) (by omega) rfl (m_23t hx (hd := by omega) (hw := by omega))
theorem c_13b {O : Nat} (hO : O ≤ 60) (hSO : s 17 5 = nI O) {j : Nat} (hj : j < O) (hz : xz (s 19)) (hy : xz (s 20)) {q x y : Int32} (hx : q < 0 ∨ nI 100 ≤ q) (hd : 7 ≤ d) (hw : 114 ≤ w) : xv xm L xs d w 13 0 [(0, .ref 1), (1, .int (nI j)), (2, .int (q)), (3, .int (x)), (4, .int (y))] [] (xC s ++ g) (.threw ((xC s ++ g).length + 1)) ((xC s ++ g) ++ [.inr (7, [])]) 1 6 := by
  refine xv_m 3 rfl ?_
  refine xv_c0 (r := 75) (nip := 4) (cost := 13) rfl (by omega) (by omega) (m_75) ?_
  refine xv_c0 (r := 23) (nip := 5) (cost := 13) rfl (by omega) (by omega) (m_23v hSO hj (by omega) (hd := by omega) (hw := by omega)) ?_
  refine xv_m 2 rfl ?_
  exact xv_ct (r := 23) (nip := 8) (cost := 13) rfl (by omega) (by omega) rfl (m_23t hx (hd := by omega) (hw := by omega))
theorem c_13c {O : Nat} (hO : O ≤ 60) (hSO : s 17 5 = nI O) {j : Nat} (hj : j < O) (hz : xz (s 19)) (hy : xz (s 20)) {p : Nat} (hp : p < 100){x y : Int32} (hx : x < nI 1 ∨ nI 100 < x) (hd : 7 ≤ d) (hw : 114 ≤ w) : xv xm L xs d w 13 0 [(0, .ref 1), (1, .int (nI j)), (2, .int (nI p)), (3, .int (x)), (4, .int (y))] [] (xC s ++ g) (.threw ((xC s ++ g).length + 1)) ((xC s ++ g) ++ [.inr (8, [])]) 1 6 := by
  refine xv_m 3 rfl ?_
  refine xv_c0 (r := 75) (nip := 4) (cost := 13) rfl (by omega) (by omega) (m_75) ?_
  refine xv_c0 (r := 23) (nip := 5) (cost := 13) rfl (by omega) (by omega) (m_23v hSO hj (by omega) (hd := by omega) (hw := by omega)) ?_
  refine xv_m 2 rfl ?_
  refine xv_c0 (r := 23) (nip := 8) (cost := 13) rfl (by omega) (by omega) (m_23v (V := 100) rfl hp (by omega) (hd := by omega) (hw := by omega)) ?_
  refine xv_m 3 rfl ?_
  exact xv_ct (r := 24) (nip := 12) (cost := 14) rfl (by omega) (by omega) rfl (m_24t hx (hd := by omega) (hw := by omega))
theorem c_13d {O : Nat} (hO : O ≤ 60) (hSO : s 17 5 = nI O) {j : Nat} (hj : j < O) (hz : xz (s 19)) (hy : xz (s 20)) {p : Nat} (hp : p < 100){x y : Int32}(h2 : nI 1 ≤ x) (h3 : x ≤ nI 100) (hx : y < nI 0 ∨ nI 1000000 < y) (hd : 7 ≤ d) (hw : 114 ≤ w) : xv xm L xs d w 13 0 [(0, .ref 1), (1, .int (nI j)), (2, .int (nI p)), (3, .int (x)), (4, .int (y))] [] (xC s ++ g) (.threw ((xC s ++ g).length + 1)) ((xC s ++ g) ++ [.inr (8, [])]) 1 6 := by
  refine xv_m 3 rfl ?_
  refine xv_c0 (r := 75) (nip := 4) (cost := 13) rfl (by omega) (by omega) (m_75) ?_
  refine xv_c0 (r := 23) (nip := 5) (cost := 13) rfl (by omega) (by omega) (m_23v hSO hj (by omega) (hd := by omega) (hw := by omega)) ?_
  refine xv_m 2 rfl ?_
  refine xv_c0 (r := 23) (nip := 8) (cost := 13) rfl (by omega) (by omega) (m_23v (V := 100) rfl hp (by omega) (hd := by omega) (hw := by omega)) ?_
  refine xv_m 3 rfl ?_
  refine xv_c0 (r := 24) (nip := 12) (cost := 14) rfl (by omega) (by omega) (m_24 h2 h3 (hd := by omega) (hw := by omega)) ?_
  refine xv_m 3 rfl ?_
  exact xv_ct (r := 24) (nip := 16) (cost := 14) rfl (by omega) (by omega) rfl (m_24t hx (hd := by omega) (hw := by omega))
theorem c_13e {O : Nat} (hO : O ≤ 60) (hSO : s 17 5 = nI O) {j : Nat} (hj : j < O) (hz : xz (s 19)) (hy : xz (s 20)) {p : Nat} (hp : p < 100){x y : Int32}(h2 : nI 1 ≤ x) (h3 : x ≤ nI 100)(h4 : nI 0 ≤ y) (h5 : y ≤ nI 1000000) (h1 : s 19 j = 0) (hd : 7 ≤ d) (hw : 114 ≤ w) : xv xm L xs d w 13 0 [(0, .ref 1), (1, .int (nI j)), (2, .int (nI p)), (3, .int (x)), (4, .int (y))] [] (xC s ++ g) (.threw ((xC s ++ g).length + 1)) ((xC s ++ g) ++ [.inr (9, [])]) 1 6 := by
  refine xv_m 3 rfl ?_
  refine xv_c0 (r := 75) (nip := 4) (cost := 13) rfl (by omega) (by omega) (m_75) ?_
  refine xv_c0 (r := 23) (nip := 5) (cost := 13) rfl (by omega) (by omega) (m_23v hSO hj (by omega) (hd := by omega) (hw := by omega)) ?_
  refine xv_m 2 rfl ?_
  refine xv_c0 (r := 23) (nip := 8) (cost := 13) rfl (by omega) (by omega) (m_23v (V := 100) rfl hp (by omega) (hd := by omega) (hw := by omega)) ?_
  refine xv_m 3 rfl ?_
  refine xv_c0 (r := 24) (nip := 12) (cost := 14) rfl (by omega) (by omega) (m_24 h2 h3 (hd := by omega) (hw := by omega)) ?_
  refine xv_m 3 rfl ?_
  refine xv_c0 (r := 24) (nip := 16) (cost := 14) rfl (by omega) (by omega) (m_24 h4 h5 (hd := by omega) (hw := by omega)) ?_
  refine xv_m 2 rfl ?_
  exact xv_ct (r := 26) (nip := 19) (cost := 13) rfl (by omega) (by omega) rfl (m_26t hz (by omega) h1 (hd := by omega) (hw := by omega))
theorem c_14 {V : Nat} (hV : V ≤ 30) (hSV : s 1 7 = nI V) {v : Nat} (hv : v < V) {k : Nat} (hk : k < 100) {x : Int32} (h0 : nI 0 ≤ x) (h1 : x ≤ nI 99999) (hd : 7 ≤ d) (hw : 114 ≤ w) : xv xm L xs d w 14 0 [(0, .ref 1), (1, .int (nI v)), (2, .int (nI k)), (3, .int (x))] [] (xC s ++ g) (.returned none) (xC (xu s 8 (100 * v + k) x) ++ g) 0 0 := by
  refine xv_m 3 rfl ?_
  refine xv_c0 (r := 41) (nip := 4) (cost := 13) rfl (by omega) (by omega) (m_41) ?_
  refine xv_c0 (r := 23) (nip := 5) (cost := 13) rfl (by omega) (by omega) (m_23v hSV hv (by omega) (hd := by omega) (hw := by omega)) ?_
  refine xv_m 2 rfl ?_
  refine xv_c0 (r := 23) (nip := 8) (cost := 13) rfl (by omega) (by omega) (m_23v (V := 100) rfl hk (by omega) (hd := by omega) (hw := by omega)) ?_
  refine xv_m 3 rfl ?_
  refine xv_c0 (r := 24) (nip := 12) (cost := 14) rfl (by omega) (by omega) (m_24 h0 h1 (hd := by omega) (hw := by omega)) ?_
  refine xv_m 5 rfl ?_
  refine xv_c0 (r := 53) (nip := 18) (cost := 15) rfl (by omega) (by omega) (m_53 (by omega) hk) ?_
  exact xv_r rfl
theorem c_14a {p q x : Int32} (hx : p < 0 ∨ s 1 7 ≤ p) (hd : 7 ≤ d) (hw : 114 ≤ w) : xv xm L xs d w 14 0 [(0, .ref 1), (1, .int (p)), (2, .int (q)), (3, .int (x))] [] (xC s ++ g) (.threw ((xC s ++ g).length + 1)) ((xC s ++ g) ++ [.inr (7, [])]) 1 6 := by
  refine xv_m 3 rfl ?_
  refine xv_c0 (r := 41) (nip := 4) (cost := 13) rfl (by omega) (by omega) (m_41) ?_
  exact xv_ct (r := 23) (nip := 5) (cost := 13) rfl (by omega) (by omega) rfl (m_23t hx (hd := by omega) (hw := by omega))
theorem c_14b {V : Nat} (hV : V ≤ 30) (hSV : s 1 7 = nI V) {v : Nat} (hv : v < V) {q x : Int32} (hx : q < 0 ∨ nI 100 ≤ q) (hd : 7 ≤ d) (hw : 114 ≤ w) : xv xm L xs d w 14 0 [(0, .ref 1), (1, .int (nI v)), (2, .int (q)), (3, .int (x))] [] (xC s ++ g) (.threw ((xC s ++ g).length + 1)) ((xC s ++ g) ++ [.inr (7, [])]) 1 6 := by
  refine xv_m 3 rfl ?_
  refine xv_c0 (r := 41) (nip := 4) (cost := 13) rfl (by omega) (by omega) (m_41) ?_
  refine xv_c0 (r := 23) (nip := 5) (cost := 13) rfl (by omega) (by omega) (m_23v hSV hv (by omega) (hd := by omega) (hw := by omega)) ?_
  refine xv_m 2 rfl ?_
  exact xv_ct (r := 23) (nip := 8) (cost := 13) rfl (by omega) (by omega) rfl (m_23t hx (hd := by omega) (hw := by omega))
theorem c_14c {V : Nat} (hV : V ≤ 30) (hSV : s 1 7 = nI V) {v : Nat} (hv : v < V) {k : Nat} (hk : k < 100) {x : Int32} (hx : x < nI 0 ∨ nI 99999 < x) (hd : 7 ≤ d) (hw : 114 ≤ w) : xv xm L xs d w 14 0 [(0, .ref 1), (1, .int (nI v)), (2, .int (nI k)), (3, .int (x))] [] (xC s ++ g) (.threw ((xC s ++ g).length + 1)) ((xC s ++ g) ++ [.inr (8, [])]) 1 6 := by
  refine xv_m 3 rfl ?_
  refine xv_c0 (r := 41) (nip := 4) (cost := 13) rfl (by omega) (by omega) (m_41) ?_
  refine xv_c0 (r := 23) (nip := 5) (cost := 13) rfl (by omega) (by omega) (m_23v hSV hv (by omega) (hd := by omega) (hw := by omega)) ?_
  refine xv_m 2 rfl ?_
  refine xv_c0 (r := 23) (nip := 8) (cost := 13) rfl (by omega) (by omega) (m_23v (V := 100) rfl hk (by omega) (hd := by omega) (hw := by omega)) ?_
  refine xv_m 3 rfl ?_
  exact xv_ct (r := 24) (nip := 12) (cost := 14) rfl (by omega) (by omega) rfl (m_24t hx (hd := by omega) (hw := by omega))
theorem c_15 {x : Int32} (h0 : nI 0 ≤ x) (h1 : x ≤ nI 100000000) (h2 : x ≤ nI 1000000000 - s 0 6) (hd : 7 ≤ d) (hw : 114 ≤ w) : xv xm L xs d w 15 0 [(0, .ref 1), (1, .int (x))] [] (xC s ++ g) (.returned (some (.int (s 0 6 + x)))) (xC (xu s 0 6 (s 0 6 + x)) ++ g) 0 0 := by
  refine xv_m 3 rfl ?_
  refine xv_c0 (r := 24) (nip := 4) (cost := 14) rfl (by omega) (by omega) (m_24 h0 h1 (hd := by omega) (hw := by omega)) ?_
  refine xv_m 5 rfl ?_
  refine xv_bt rfl (xd_leT h2) ?_
  refine xv_m 6 (h1 := xC (xu s 0 6 (s 0 6 + x)) ++ g) rfl ?_
  refine xv_m 2 rfl ?_
  exact xv_r rfl
theorem c_15a {x : Int32} (hx : x < nI 0 ∨ nI 100000000 < x) (hd : 7 ≤ d) (hw : 114 ≤ w) : xv xm L xs d w 15 0 [(0, .ref 1), (1, .int (x))] [] (xC s ++ g) (.threw ((xC s ++ g).length + 1)) ((xC s ++ g) ++ [.inr (8, [])]) 1 6 := by
  refine xv_m 3 rfl ?_
  exact xv_ct (r := 24) (nip := 4) (cost := 14) rfl (by omega) (by omega) rfl (m_24t hx (hd := by omega) (hw := by omega))
theorem c_15b {x : Int32} (h0 : nI 0 ≤ x) (h1 : x ≤ nI 100000000) (h2 : nI 1000000000 - s 0 6 < x) (hd : 7 ≤ d) (hw : 114 ≤ w) : xv xm L xs d w 15 0 [(0, .ref 1), (1, .int (x))] [] (xC s ++ g) (.threw ((xC s ++ g).length + 1)) ((xC s ++ g) ++ [.inr (10, [])]) 1 6 := by
  refine xv_m 3 rfl ?_
  refine xv_c0 (r := 24) (nip := 4) (cost := 14) rfl (by omega) (by omega) (m_24 h0 h1 (hd := by omega) (hw := by omega)) ?_
  refine xv_m 5 rfl ?_
  refine xv_bf rfl (xd_leF h2) ?_
  exact xv_t rfl (by omega) (by omega)
def f_don (s : Nat → Nat → Int32) (R D v j : Nat) : Nat → Nat → Int32 := xu (xw (xw s 11 (xfo (f_srv s v j) (s 11) R)) 15 (xfo (f_rep (s 16) (s 14) (nI j)) (s 15) D)) 19 j 0
theorem c_16 {O : Nat} (hO : O ≤ 60) (hSO : s 17 5 = nI O) {j : Nat} (hj : j < O) (hz : xz (s 19)) (hy : xz (s 20)){R : Nat} (hR : R ≤ 10) (hSR : s 9 2 = nI R){D : Nat} (hD : D ≤ 100) (hSD : s 12 4 = nI D) (h1 : s 19 j = 1) {v : Nat} (hv : v < 30) (hOv : s 18 j = nI v) (hd : 7 ≤ d) (hw : 113 ≤ w) : xv xm L xs d w 16 0 [(0, .ref 1), (1, .int (nI j))] [] (xC s ++ g) (.returned (some (.int (s 22 j)))) (xC (f_don s R D v j) ++ g) 0 0 := by
  refine xv_m 3 rfl ?_
  refine xv_c0 (r := 75) (nip := 4) (cost := 13) rfl (by omega) (by omega) (m_75) ?_
  refine xv_c0 (r := 23) (nip := 5) (cost := 13) rfl (by omega) (by omega) (m_23v hSO hj (by omega) (hd := by omega) (hw := by omega)) ?_
  refine xv_m 2 rfl ?_
  refine xv_c0 (r := 26) (nip := 8) (cost := 13) rfl (by omega) (by omega) (m_26 hz (by omega) h1 (hd := by omega) (hw := by omega)) ?_
  refine xv_m 2 rfl ?_
  refine xv_c0 (r := 35) (nip := 11) (cost := 16) rfl (by omega) (by omega) (m_35 hy hv (by omega) hR hSR hOv (hd := by omega) (hw := by omega)) ?_
  refine xv_m 3 rfl ?_
  refine xv_c0 (r := 70) (nip := 15) (cost := 14) rfl (by omega) (by omega) (m_70 (s := xw s 11 (xfo (f_srv s v j) (s 11) R)) hD hSD) ?_
  refine xv_m 3 rfl ?_
  refine xv_c0 (r := 88) (nip := 19) (cost := 13) rfl (by omega) (by omega) (m_88 (s := xw (xw s 11 (xfo (f_srv s v j) (s 11) R)) 15 (xfo (f_rep (s 16) (s 14) (nI j)) (s 15) D)) (by omega)) ?_
  refine xv_m 3 rfl ?_
  refine xv_c0 (r := 87) (nip := 23) (cost := 13) rfl (by omega) (by omega) (m_87 (s := xu (xw (xw s 11 (xfo (f_srv s v j) (s 11) R)) 15 (xfo (f_rep (s 16) (s 14) (nI j)) (s 15) D)) 19 j 0) (by omega)) ?_
  exact xv_r rfl
theorem c_16a {p : Int32} (hx : p < 0 ∨ s 17 5 ≤ p) (hd : 7 ≤ d) (hw : 113 ≤ w) : xv xm L xs d w 16 0 [(0, .ref 1), (1, .int (p))] [] (xC s ++ g) (.threw ((xC s ++ g).length + 1)) ((xC s ++ g) ++ [.inr (7, [])]) 1 6 := by
  refine xv_m 3 rfl ?_
  refine xv_c0 (r := 75) (nip := 4) (cost := 13) rfl (by omega) (by omega) (m_75) ?_
  exact xv_ct (r := 23) (nip := 5) (cost := 13) rfl (by omega) (by omega) rfl (m_23t hx (hd := by omega) (hw := by omega))
theorem c_16b {O : Nat} (hO : O ≤ 60) (hSO : s 17 5 = nI O) {j : Nat} (hj : j < O) (hz : xz (s 19)) (hy : xz (s 20)) (h1 : s 19 j = 0) (hd : 7 ≤ d) (hw : 113 ≤ w) : xv xm L xs d w 16 0 [(0, .ref 1), (1, .int (nI j))] [] (xC s ++ g) (.threw ((xC s ++ g).length + 1)) ((xC s ++ g) ++ [.inr (9, [])]) 1 6 := by
  refine xv_m 3 rfl ?_
  refine xv_c0 (r := 75) (nip := 4) (cost := 13) rfl (by omega) (by omega) (m_75) ?_
  refine xv_c0 (r := 23) (nip := 5) (cost := 13) rfl (by omega) (by omega) (m_23v hSO hj (by omega) (hd := by omega) (hw := by omega)) ?_
  refine xv_m 2 rfl ?_
  exact xv_ct (r := 26) (nip := 8) (cost := 13) rfl (by omega) (by omega) rfl (m_26t hz (by omega) h1 (hd := by omega) (hw := by omega))
theorem c_17 {V : Nat} (hV : V ≤ 30) (hSV : s 1 7 = nI V) {v : Nat} (hv : v < V){R D O : Nat} (hR : R ≤ 10) (hSR : s 9 2 = nI R) (hD : D ≤ 100) (hSD : s 12 4 = nI D) (hO : O ≤ 60) (hSO : s 17 5 = nI O) (hd : 7 ≤ d) (hw : 113 ≤ w) : xv xm L xs d w 17 0 [(0, .ref 1), (1, .int (nI v))] [] (xC s ++ g) (.returned (some (.int (f_rsn s R D O v)))) (xC s ++ g) 0 0 := by
  refine xv_m 3 rfl ?_
  refine xv_c0 (r := 41) (nip := 4) (cost := 13) rfl (by omega) (by omega) (m_41) ?_
  refine xv_c0 (r := 23) (nip := 5) (cost := 13) rfl (by omega) (by omega) (m_23v hSV hv (by omega) (hd := by omega) (hw := by omega)) ?_
  refine xv_m 2 rfl ?_
  refine xv_c0 (r := 36) (nip := 8) (cost := 13) rfl (by omega) (by omega) (m_36 hR hSR hD hSD hO hSO (by omega) (hd := by omega) (hw := by omega)) ?_
  exact xv_r rfl
theorem c_17a {p : Int32} (hx : p < 0 ∨ s 1 7 ≤ p) (hd : 7 ≤ d) (hw : 113 ≤ w) : xv xm L xs d w 17 0 [(0, .ref 1), (1, .int (p))] [] (xC s ++ g) (.threw ((xC s ++ g).length + 1)) ((xC s ++ g) ++ [.inr (7, [])]) 1 6 := by
  refine xv_m 3 rfl ?_
  refine xv_c0 (r := 41) (nip := 4) (cost := 13) rfl (by omega) (by omega) (m_41) ?_
  exact xv_ct (r := 23) (nip := 5) (cost := 13) rfl (by omega) (by omega) rfl (m_23t hx (hd := by omega) (hw := by omega))
def xO : Option Nat → Int32
  | none => xa_con 1 1
  | some j => nI j
def f_spn (s : Nat → Nat → Int32) (v k : Nat) : Option Nat → Bool
  | none => true
  | some j => f_near (s 2) v k j
def f_spc (s : Nat → Nat → Int32) (R D O v k : Nat) (b : Option Nat) : Bool := !(xa_cmp .eq (nI k) (nI v)) && (!(xa_cmp .eq (s 3 k) 0) && (f_spn s v k b && !(xa_cmp .ne (f_rsn s R D O k) 0)))
def f_spr (s : Nat → Nat → Int32) (R D O v : Nat) : Nat → Nat → Option Nat → Option Nat
  | 0, _, b => b
  | n + 1, k, b => f_spr s R D O v n (k + 1) (bif f_spc s R D O v k b then some k else b)
theorem f_spr_t {R D O v n k : Nat} {b : Option Nat} (h : f_spc s R D O v k b = true) : f_spr s R D O v (n + 1) k b = f_spr s R D O v n (k + 1) (some k) := by show f_spr s R D O v n (k + 1) (bif f_spc s R D O v k b then some k else b) = _; rw [h]; rfl
theorem f_spr_f {R D O v n k : Nat} {b : Option Nat} (h : f_spc s R D O v k b = false) : f_spr s R D O v (n + 1) k b = f_spr s R D O v n (k + 1) b := by show f_spr s R D O v n (k + 1) (bif f_spc s R D O v k b then some k else b) = _; rw [h]; rfl
theorem nI_n1 {j : Nat} (h : j < 2 ^ 31) : ¬ nI j = xa_con 1 1 := by
  intro e
  have e2 := congrArg Int32.toInt e
  rw [nI_toInt h, show (xa_con 1 1).toInt = -1 by decide +kernel] at e2
  omega
theorem l_18 {R D O : Nat} (hR : R ≤ 10) (hSR : s 9 2 = nI R) (hD : D ≤ 100) (hSD : s 12 4 = nI D) (hO : O ≤ 60) (hSO : s 17 5 = nI O) {V : Nat} (hV : V ≤ 30) (hSV : s 1 7 = nI V) (hz : xz (s 3)) {v : Nat} (hv : v < 30) (hd : 5 ≤ d) (hw : 72 ≤ w) : ∀ n k b, k + n = V → (∀ j, b = some j → j < k) → xv xm L xs d w 18 9 [(3, .int (nI k)), (2, .int (xO b)), (0, .ref 1), (1, .int (nI v))] [] (xC s ++ g) (.returned (some (.int (xO (f_spr s R D O v n k b))))) (xC s ++ g) 0 0
  | 0, k, b, hk, hb => by
    have hk : k = V := hk
    subst hk
    refine xv_m 3 rfl ?_
    refine xv_c0 (r := 41) (nip := 13) (cost := 13) rfl (by omega) (by omega) (m_41) ?_
    refine xv_ei hSV ?_
    refine xv_bt rfl (xc_geT (by omega) (by omega)) ?_
    refine xv_m 1 rfl ?_
    exact xv_r rfl
  | n + 1, k, b, hk, hb => by
    have hk30 : k < 30 := by omega
    cases b with
    | none =>
      refine xv_m 3 rfl ?_
      refine xv_c0 (r := 41) (nip := 13) (cost := 13) rfl (by omega) (by omega) (m_41) ?_
      refine xv_ei hSV ?_
      refine xv_bf rfl (xc_geF (by omega) (by omega)) ?_
      refine xv_m 2 rfl ?_
      refine xv_b rfl (fun hc => ?_) (fun hc => ?_)
      · rw [f_spr_f (show f_spc s R D O v k none = false by unfold f_spc; rw [hc]; rfl)]
        refine xv_m 2 rfl ?_
        exact xv_l (l_18 hR hSR hD hSD hO hSO hV hSV hz hv hd hw n (k + 1) none (by omega) (fun i hi => Nat.lt_succ_of_lt (hb i hi))) ⟨xk k, rfl, rfl, rfl, trivial⟩
      · refine xv_m 3 rfl ?_
        refine xv_c0 (r := 43) (nip := 21) (cost := 13) rfl (by omega) (by omega) (m_43 hz hk30) ?_
        refine xv_b rfl (fun hc2 => ?_) (fun hc2 => ?_)
        · rw [f_spr_f (show f_spc s R D O v k none = false by unfold f_spc; rw [hc, hc2]; rfl)]
          refine xv_m 2 rfl ?_
          exact xv_l (l_18 hR hSR hD hSD hO hSO hV hSV hz hv hd hw n (k + 1) none (by omega) (fun i hi => Nat.lt_succ_of_lt (hb i hi))) ⟨xk k, rfl, rfl, rfl, trivial⟩
        · refine xv_m 2 rfl ?_
          refine xv_bt rfl (xc_eqT rfl) ?_
          refine xv_m 2 rfl ?_
          refine xv_c0 (r := 36) (nip := 35) (cost := 13) rfl (by omega) (by omega) (m_36 hR hSR hD hSD hO hSO hk30 (hd := by omega) (hw := by omega)) ?_
          refine xv_b rfl (fun hc4 => ?_) (fun hc4 => ?_)
          · rw [f_spr_f (show f_spc s R D O v k none = false by unfold f_spc; rw [hc, hc2, show f_spn s v k none = true from rfl, hc4]; rfl)]
            refine xv_m 2 rfl ?_
            exact xv_l (l_18 hR hSR hD hSD hO hSO hV hSV hz hv hd hw n (k + 1) none (by omega) (fun i hi => Nat.lt_succ_of_lt (hb i hi))) ⟨xk k, rfl, rfl, rfl, trivial⟩
          · rw [f_spr_t (show f_spc s R D O v k none = true by unfold f_spc; rw [hc, hc2, show f_spn s v k none = true from rfl, hc4]; rfl)]
            refine xv_m 4 rfl ?_
            exact xv_l (l_18 hR hSR hD hSD hO hSO hV hSV hz hv hd hw n (k + 1) (some k) (by omega) (fun i hi => by cases hi; omega)) ⟨xk k, rfl, rfl, rfl, trivial⟩
    | some j =>
      have hj : j < k := hb j rfl
      refine xv_m 3 rfl ?_
      refine xv_c0 (r := 41) (nip := 13) (cost := 13) rfl (by omega) (by omega) (m_41) ?_
      refine xv_ei hSV ?_
      refine xv_bf rfl (xc_geF (by omega) (by omega)) ?_
      refine xv_m 2 rfl ?_
      refine xv_b rfl (fun hc => ?_) (fun hc => ?_)
      · rw [f_spr_f (show f_spc s R D O v k (some j) = false by unfold f_spc; rw [hc]; rfl)]
        refine xv_m 2 rfl ?_
        exact xv_l (l_18 hR hSR hD hSD hO hSO hV hSV hz hv hd hw n (k + 1) (some j) (by omega) (fun i hi => Nat.lt_succ_of_lt (hb i hi))) ⟨xk k, rfl, rfl, rfl, trivial⟩
      · refine xv_m 3 rfl ?_
        refine xv_c0 (r := 43) (nip := 21) (cost := 13) rfl (by omega) (by omega) (m_43 hz hk30) ?_
        refine xv_b rfl (fun hc2 => ?_) (fun hc2 => ?_)
        · rw [f_spr_f (show f_spc s R D O v k (some j) = false by unfold f_spc; rw [hc, hc2]; rfl)]
          refine xv_m 2 rfl ?_
          exact xv_l (l_18 hR hSR hD hSD hO hSO hV hSV hz hv hd hw n (k + 1) (some j) (by omega) (fun i hi => Nat.lt_succ_of_lt (hb i hi))) ⟨xk k, rfl, rfl, rfl, trivial⟩
        · refine xv_m 2 rfl ?_
          refine xv_bf rfl (xc_eqF (nI_n1 (by omega))) ?_
          refine xv_m 5 rfl ?_
          refine xv_c0 (r := 44) (nip := 31) (cost := 17) rfl (by omega) (by omega) (m_44 hv hk30 (by omega) (hd := by omega) (hw := by omega)) ?_
          refine xv_b rfl (fun hc3 => ?_) (fun hc3 => ?_)
          · rw [f_spr_f (show f_spc s R D O v k (some j) = false by unfold f_spc; rw [hc, hc2, show f_spn s v k (some j) = false from xB_f hc3]; rfl)]
            refine xv_m 2 rfl ?_
            exact xv_l (l_18 hR hSR hD hSD hO hSO hV hSV hz hv hd hw n (k + 1) (some j) (by omega) (fun i hi => Nat.lt_succ_of_lt (hb i hi))) ⟨xk k, rfl, rfl, rfl, trivial⟩
          · refine xv_m 2 rfl ?_
            refine xv_c0 (r := 36) (nip := 35) (cost := 13) rfl (by omega) (by omega) (m_36 hR hSR hD hSD hO hSO hk30 (hd := by omega) (hw := by omega)) ?_
            refine xv_b rfl (fun hc4 => ?_) (fun hc4 => ?_)
            · rw [f_spr_f (show f_spc s R D O v k (some j) = false by unfold f_spc; rw [hc, hc2, show f_spn s v k (some j) = true from xB_t hc3, hc4]; rfl)]
              refine xv_m 2 rfl ?_
              exact xv_l (l_18 hR hSR hD hSD hO hSO hV hSV hz hv hd hw n (k + 1) (some j) (by omega) (fun i hi => Nat.lt_succ_of_lt (hb i hi))) ⟨xk k, rfl, rfl, rfl, trivial⟩
            · rw [f_spr_t (show f_spc s R D O v k (some j) = true by unfold f_spc; rw [hc, hc2, show f_spn s v k (some j) = true from xB_t hc3, hc4]; rfl)]
              refine xv_m 4 rfl ?_
              exact xv_l (l_18 hR hSR hD hSD hO hSO hV hSV hz hv hd hw n (k + 1) (some k) (by omega) (fun i hi => by cases hi; omega)) ⟨xk k, rfl, rfl, rfl, trivial⟩
theorem c_18 {V : Nat} (hV : V ≤ 30) (hSV : s 1 7 = nI V) {v : Nat} (hv : v < V){R D O : Nat} (hR : R ≤ 10) (hSR : s 9 2 = nI R) (hD : D ≤ 100) (hSD : s 12 4 = nI D) (hO : O ≤ 60) (hSO : s 17 5 = nI O) (hz : xz (s 3)) (hd : 7 ≤ d) (hw : 113 ≤ w) : xv xm L xs d w 18 0 [(0, .ref 1), (1, .int (nI v))] [] (xC s ++ g) (.returned (some (.int (xO (f_spr s R D O v V 0 none))))) (xC s ++ g) 0 0 := by
  refine xv_m 3 rfl ?_
  refine xv_c0 (r := 41) (nip := 4) (cost := 13) rfl (by omega) (by omega) (m_41) ?_
  refine xv_c0 (r := 23) (nip := 5) (cost := 13) rfl (by omega) (by omega) (m_23v hSV hv (by omega) (hd := by omega) (hw := by omega)) ?_
  refine xv_m 4 rfl ?_
  exact xv_l (l_18 hR hSR hD hSD hO hSO hV hSV hz (by omega) (by omega) (by omega) V 0 none (Nat.zero_add V) (fun i hi => nomatch hi)) ⟨rfl, rfl, rfl, rfl, trivial⟩
theorem c_18a {p : Int32} (hx : p < 0 ∨ s 1 7 ≤ p) (hd : 7 ≤ d) (hw : 113 ≤ w) : xv xm L xs d w 18 0 [(0, .ref 1), (1, .int (p))] [] (xC s ++ g) (.threw ((xC s ++ g).length + 1)) ((xC s ++ g) ++ [.inr (7, [])]) 1 6 := by
  refine xv_m 3 rfl ?_
  refine xv_c0 (r := 41) (nip := 4) (cost := 13) rfl (by omega) (by omega) (m_41) ?_
  exact xv_ct (r := 23) (nip := 5) (cost := 13) rfl (by omega) (by omega) rfl (m_23t hx (hd := by omega) (hw := by omega))
theorem c_19 {V : Nat} (hV : V ≤ 30) (hSV : s 1 7 = nI V) {v : Nat} (hv : v < V){x : Int32} (h0 : nI 0 ≤ x) (h1 : x ≤ nI 100000) (h2 : x ≤ nI 1000000000 - s 6 v) (hd : 7 ≤ d) (hw : 114 ≤ w) : xv xm L xs d w 19 0 [(0, .ref 1), (1, .int (nI v)), (2, .int (x))] [] (xC s ++ g) (.returned (some (.int (s 6 v + x)))) (xC (xu s 6 v (s 6 v + x)) ++ g) 0 0 := by
  refine xv_m 3 rfl ?_
  refine xv_c0 (r := 41) (nip := 4) (cost := 13) rfl (by omega) (by omega) (m_41) ?_
  refine xv_c0 (r := 23) (nip := 5) (cost := 13) rfl (by omega) (by omega) (m_23v hSV hv (by omega) (hd := by omega) (hw := by omega)) ?_
  refine xv_m 3 rfl ?_
  refine xv_c0 (r := 24) (nip := 9) (cost := 14) rfl (by omega) (by omega) (m_24 h0 h1 (hd := by omega) (hw := by omega)) ?_
  refine xv_m 5 rfl ?_
  refine xv_c0 (r := 48) (nip := 15) (cost := 15) rfl (by omega) (by omega) (m_48 (by omega)) ?_
  refine xv_m 1 rfl ?_
  refine xv_bt rfl (xd_leT h2) ?_
  refine xv_m 4 rfl ?_
  refine xv_c0 (r := 49) (nip := 23) (cost := 14) rfl (by omega) (by omega) (m_49 (by omega)) ?_
  refine xv_m 3 rfl ?_
  refine xv_c0 (r := 48) (nip := 27) (cost := 13) rfl (by omega) (by omega) (m_48 (s := xu s 6 v (s 6 v + x)) (by omega)) ?_
  exact xv_rn (upd_at _ _ _) rfl
theorem c_19a {p x : Int32} (hx : p < 0 ∨ s 1 7 ≤ p) (hd : 7 ≤ d) (hw : 114 ≤ w) : xv xm L xs d w 19 0 [(0, .ref 1), (1, .int (p)), (2, .int (x))] [] (xC s ++ g) (.threw ((xC s ++ g).length + 1)) ((xC s ++ g) ++ [.inr (7, [])]) 1 6 := by
  refine xv_m 3 rfl ?_
  refine xv_c0 (r := 41) (nip := 4) (cost := 13) rfl (by omega) (by omega) (m_41) ?_
  exact xv_ct (r := 23) (nip := 5) (cost := 13) rfl (by omega) (by omega) rfl (m_23t hx (hd := by omega) (hw := by omega))
theorem c_19b {V : Nat} (hV : V ≤ 30) (hSV : s 1 7 = nI V) {v : Nat} (hv : v < V){x : Int32} (hx : x < nI 0 ∨ nI 100000 < x) (hd : 7 ≤ d) (hw : 114 ≤ w) : xv xm L xs d w 19 0 [(0, .ref 1), (1, .int (nI v)), (2, .int (x))] [] (xC s ++ g) (.threw ((xC s ++ g).length + 1)) ((xC s ++ g) ++ [.inr (8, [])]) 1 6 := by
  refine xv_m 3 rfl ?_
  refine xv_c0 (r := 41) (nip := 4) (cost := 13) rfl (by omega) (by omega) (m_41) ?_
  refine xv_c0 (r := 23) (nip := 5) (cost := 13) rfl (by omega) (by omega) (m_23v hSV hv (by omega) (hd := by omega) (hw := by omega)) ?_
  refine xv_m 3 rfl ?_
  exact xv_ct (r := 24) (nip := 9) (cost := 14) rfl (by omega) (by omega) rfl (m_24t hx (hd := by omega) (hw := by omega))
theorem c_19c {V : Nat} (hV : V ≤ 30) (hSV : s 1 7 = nI V) {v : Nat} (hv : v < V){x : Int32} (h0 : nI 0 ≤ x) (h1 : x ≤ nI 100000) (h2 : nI 1000000000 - s 6 v < x) (hd : 7 ≤ d) (hw : 114 ≤ w) : xv xm L xs d w 19 0 [(0, .ref 1), (1, .int (nI v)), (2, .int (x))] [] (xC s ++ g) (.threw ((xC s ++ g).length + 1)) ((xC s ++ g) ++ [.inr (10, [])]) 1 6 := by
  refine xv_m 3 rfl ?_
  refine xv_c0 (r := 41) (nip := 4) (cost := 13) rfl (by omega) (by omega) (m_41) ?_
  refine xv_c0 (r := 23) (nip := 5) (cost := 13) rfl (by omega) (by omega) (m_23v hSV hv (by omega) (hd := by omega) (hw := by omega)) ?_
  refine xv_m 3 rfl ?_
  refine xv_c0 (r := 24) (nip := 9) (cost := 14) rfl (by omega) (by omega) (m_24 h0 h1 (hd := by omega) (hw := by omega)) ?_
  refine xv_m 5 rfl ?_
  refine xv_c0 (r := 48) (nip := 15) (cost := 15) rfl (by omega) (by omega) (m_48 (by omega)) ?_
  refine xv_m 1 rfl ?_
  refine xv_bf rfl (xd_leF h2) ?_
  exact xv_t rfl (by omega) (by omega)
def f_gcd : Nat → Nat → Nat → Nat
  | 0, a, _ => a
  | n + 1, a, b => bif Nat.beq b 0 then a else f_gcd n b (a % b)
theorem xl_gt {a b : Nat} (h : b < a) (ha : a < 2 ^ 63) : lg_cmp (lN a) (lN b) = 1 := by
  unfold lg_cmp
  rw [if_pos ((pk_lLT (by omega) ha).mpr h)]
theorem xl_eq {x : Int64} : lg_cmp x x = 0 := by
  unfold lg_cmp
  rw [if_neg (fun h => Int64.lt_irrefl h), if_pos rfl]
theorem m_155 {h : List va_E} {a : Nat} (h0 : 0 < a) (h1 : a < 2 ^ 63) : xv xm L xs d w 155 0 [(0, .long (lN a)), (2, .long (lN 1))] [] h (.returned (some (.long (lN a)))) h 0 0 := by
  have e : lg_cmp (lN a) (lN 1) = 1 ∨ lg_cmp (lN a) (lN 1) = 0 := by
    by_cases h2 : a = 1
    · exact Or.inr (h2 ▸ xl_eq)
    · exact Or.inl (xl_gt (by omega) h1)
  refine xv_m 3 rfl ?_
  refine xv_bf rfl (by rcases e with e | e <;> (rw [e]; decide)) ?_
  refine xv_m 2 rfl ?_
  exact xv_r rfl
theorem l_39 {h : List va_E} {x y : Int64} (hd : 1 ≤ d) (hw : 15 ≤ w) : ∀ n k a b, k + n = 1000 → a < 2 ^ 63 → b < 2 ^ 63 → 0 < f_gcd n a b → f_gcd n a b < 2 ^ 63 → xv xm L xs d w 39 6 [(8, .int (nI k)), (6, .long (lN b)), (4, .long (lN a)), (0, .long x), (2, .long y)] [] h (.returned (some (.long (lN (f_gcd n a b))))) h 0 0
  | 0, k, a, b, hk, ha, hb, hp, hq => by
    refine xv_m 2 rfl ?_
    refine xv_bt rfl (xc_geT (by omega) (by omega)) ?_
    refine xv_m 2 rfl ?_
    refine xv_c0 (r := 155) (nip := 26) (cost := 15) rfl (by omega) (by omega) (m_155 hp hq) ?_
    exact xv_r rfl
  | n + 1, k, a, b, hk, ha, hb, hp, hq => by
    by_cases h0 : b = 0
    · subst h0
      refine xv_m 2 rfl ?_
      refine xv_bf rfl (xc_geF (by omega) (by omega)) ?_
      refine xv_m 3 rfl ?_
      refine xv_bt rfl (by rw [show lg_cmp (lN 0) (lN 0) = 0 from xl_eq]; decide) ?_
      refine xv_m 2 rfl ?_
      refine xv_c0 (r := 155) (nip := 26) (cost := 15) rfl (by omega) (by omega) (m_155 (a := a) hp hq) ?_
      exact xv_r rfl
    · have hb0 : 0 < b := Nat.pos_of_ne_zero h0
      have e : f_gcd (n + 1) a b = f_gcd n b (a % b) := by
        show (bif Nat.beq b 0 then a else f_gcd n b (a % b)) = _
        cases hb1 : Nat.beq b 0 with
        | true => exact absurd (Nat.eq_of_beq_eq_true hb1) h0
        | false => rfl
      rw [e] at hp hq ⊢
      refine xv_m 2 rfl ?_
      refine xv_bf rfl (xc_geF (by omega) (by omega)) ?_
      refine xv_m 3 rfl ?_
      refine xv_bf rfl (by rw [show lg_cmp (lN b) (lN 0) = 1 from xl_gt hb0 hb]; decide) ?_
      refine xv_m 2 rfl ?_
      refine xv_lrm rfl (pk_lRem ha hb0 hb) (by rw [show (lN b = 0) = (lN b = lN 0) from rfl, pk_lEQ hb (by omega)]; exact h0) ?_
      refine xv_m 7 rfl ?_
      exact xv_l (l_39 hd hw n (k + 1) b (a % b) (by omega) hb (Nat.lt_trans (Nat.mod_lt _ hb0) hb) hp hq) ⟨xk k, rfl, rfl, rfl, rfl, trivial⟩
theorem m_39 {h : List va_E} {a b : Nat} (ha : a < 2 ^ 63) (hb : b < 2 ^ 63) (hp : 0 < f_gcd 1000 a b) (hq : f_gcd 1000 a b < 2 ^ 63) (hd : 1 ≤ d) (hw : 15 ≤ w) : xv xm L xs d w 39 0 [(0, .long (lN a)), (2, .long (lN b))] [] h (.returned (some (.long (lN (f_gcd 1000 a b))))) h 0 0 := by
  refine xv_m 6 rfl ?_
  exact xv_l (l_39 hd hw 1000 0 a b rfl ha hb hp hq) ⟨rfl, rfl, rfl, rfl, rfl, trivial⟩
theorem c_20_0 {V : Nat} (hV : V ≤ 30) (hSV : s 1 7 = nI V) {v : Nat} (hv : v < V) {m q : Nat} (hm : s 4 v = nI m) (hm0 : 0 < m) (hm1 : m ≤ 1000000) (hq : s 6 v = nI q) (hq1 : q ≤ 1000000000) (hg : 0 < f_gcd 1000 (100 * q) m) (hg1 : f_gcd 1000 (100 * q) m < 2 ^ 63) (hd : 7 ≤ d) (hw : 113 ≤ w) : xv xm L xs d w 20 0 [(0, .ref 1), (1, .int (nI v)), (2, .int (nI 0))] [] (xC s ++ g) (.returned (some (.long (lN (100 * q / f_gcd 1000 (100 * q) m))))) (xC s ++ g) 0 0 := by
  refine xv_m 3 rfl ?_
  refine xv_c0 (r := 41) (nip := 4) (cost := 13) rfl (by omega) (by omega) (m_41) ?_
  refine xv_c0 (r := 23) (nip := 5) (cost := 13) rfl (by omega) (by omega) (m_23v hSV hv (by omega) (hd := by omega) (hw := by omega)) ?_
  refine xv_m 2 rfl ?_
  refine xv_c0 (r := 23) (nip := 8) (cost := 13) rfl (by omega) (by omega) (m_23v (V := 2) rfl (by omega) (by omega) (hd := by omega) (hw := by omega)) ?_
  refine xv_m 3 rfl ?_
  refine xv_c0 (r := 45) (nip := 12) (cost := 13) rfl (by omega) (by omega) (m_45 (by omega)) ?_
  refine xv_m 1 rfl ?_
  refine xv_el (show (s 4 v).toInt64 = lN m by rw [hm, nI_l (by omega)]) ?_
  refine xv_m 4 rfl ?_
  refine xv_bt rfl (by rw [show lg_cmp (lN m) (lN 0) = 1 from xl_gt hm0 (by omega)]; decide) ?_
  refine xv_m 4 rfl ?_
  refine xv_c0 (r := 48) (nip := 24) (cost := 15) rfl (by omega) (by omega) (m_48 (by omega)) ?_
  refine xv_m 2 rfl ?_
  refine xv_el (show lN 100 * (s 6 v).toInt64 = lN (100 * q) by rw [hq, nI_l (by omega), lN_mul]) ?_
  refine xv_m 3 rfl ?_
  refine xv_c0 (r := 39) (nip := 30) (cost := 22) rfl (by omega) (by omega) (m_39 (by omega) (by omega) hg hg1 (hd := by omega) (hw := by omega)) ?_
  refine xv_m 2 rfl ?_
  refine xv_bf rfl (by decide +kernel) ?_
  refine xv_m 3 rfl ?_
  refine xv_ldv rfl (pk_lDiv (by omega) hg hg1) (by rw [show (lN (f_gcd 1000 (100 * q) m) = 0) = (lN (f_gcd 1000 (100 * q) m) = lN 0) from rfl, pk_lEQ hg1 (by omega)]; omega) ?_
  exact xv_r rfl
theorem c_20_1 {V : Nat} (hV : V ≤ 30) (hSV : s 1 7 = nI V) {v : Nat} (hv : v < V) {m q : Nat} (hm : s 4 v = nI m) (hm0 : 0 < m) (hm1 : m ≤ 1000000) (hq : s 6 v = nI q) (hq1 : q ≤ 1000000000) (hg : 0 < f_gcd 1000 (100 * q) m) (hg1 : f_gcd 1000 (100 * q) m < 2 ^ 63) (hd : 7 ≤ d) (hw : 113 ≤ w) : xv xm L xs d w 20 0 [(0, .ref 1), (1, .int (nI v)), (2, .int (nI 1))] [] (xC s ++ g) (.returned (some (.long (lN (m / f_gcd 1000 (100 * q) m))))) (xC s ++ g) 0 0 := by
  refine xv_m 3 rfl ?_
  refine xv_c0 (r := 41) (nip := 4) (cost := 13) rfl (by omega) (by omega) (m_41) ?_
  refine xv_c0 (r := 23) (nip := 5) (cost := 13) rfl (by omega) (by omega) (m_23v hSV hv (by omega) (hd := by omega) (hw := by omega)) ?_
  refine xv_m 2 rfl ?_
  refine xv_c0 (r := 23) (nip := 8) (cost := 13) rfl (by omega) (by omega) (m_23v (V := 2) rfl (by omega) (by omega) (hd := by omega) (hw := by omega)) ?_
  refine xv_m 3 rfl ?_
  refine xv_c0 (r := 45) (nip := 12) (cost := 13) rfl (by omega) (by omega) (m_45 (by omega)) ?_
  refine xv_m 1 rfl ?_
  refine xv_el (show (s 4 v).toInt64 = lN m by rw [hm, nI_l (by omega)]) ?_
  refine xv_m 4 rfl ?_
  refine xv_bt rfl (by rw [show lg_cmp (lN m) (lN 0) = 1 from xl_gt hm0 (by omega)]; decide) ?_
  refine xv_m 4 rfl ?_
  refine xv_c0 (r := 48) (nip := 24) (cost := 15) rfl (by omega) (by omega) (m_48 (by omega)) ?_
  refine xv_m 2 rfl ?_
  refine xv_el (show lN 100 * (s 6 v).toInt64 = lN (100 * q) by rw [hq, nI_l (by omega), lN_mul]) ?_
  refine xv_m 3 rfl ?_
  refine xv_c0 (r := 39) (nip := 30) (cost := 22) rfl (by omega) (by omega) (m_39 (by omega) (by omega) hg hg1 (hd := by omega) (hw := by omega)) ?_
  refine xv_m 2 rfl ?_
  refine xv_bt rfl (by decide +kernel) ?_
  refine xv_m 2 rfl ?_
  refine xv_ldv rfl (pk_lDiv (by omega) hg hg1) (by rw [show (lN (f_gcd 1000 (100 * q) m) = 0) = (lN (f_gcd 1000 (100 * q) m) = lN 0) from rfl, pk_lEQ hg1 (by omega)]; omega) ?_
  exact xv_r rfl
theorem c_20a {p q : Int32} (hx : p < 0 ∨ s 1 7 ≤ p) (hd : 7 ≤ d) (hw : 113 ≤ w) : xv xm L xs d w 20 0 [(0, .ref 1), (1, .int (p)), (2, .int (q))] [] (xC s ++ g) (.threw ((xC s ++ g).length + 1)) ((xC s ++ g) ++ [.inr (7, [])]) 1 6 := by
  refine xv_m 3 rfl ?_
  refine xv_c0 (r := 41) (nip := 4) (cost := 13) rfl (by omega) (by omega) (m_41) ?_
  exact xv_ct (r := 23) (nip := 5) (cost := 13) rfl (by omega) (by omega) rfl (m_23t hx (hd := by omega) (hw := by omega))
theorem c_20b {V : Nat} (hV : V ≤ 30) (hSV : s 1 7 = nI V) {v : Nat} (hv : v < V) {q : Int32} (hx : q < 0 ∨ nI 2 ≤ q) (hd : 7 ≤ d) (hw : 113 ≤ w) : xv xm L xs d w 20 0 [(0, .ref 1), (1, .int (nI v)), (2, .int (q))] [] (xC s ++ g) (.threw ((xC s ++ g).length + 1)) ((xC s ++ g) ++ [.inr (7, [])]) 1 6 := by
  refine xv_m 3 rfl ?_
  refine xv_c0 (r := 41) (nip := 4) (cost := 13) rfl (by omega) (by omega) (m_41) ?_
  refine xv_c0 (r := 23) (nip := 5) (cost := 13) rfl (by omega) (by omega) (m_23v hSV hv (by omega) (hd := by omega) (hw := by omega)) ?_
  refine xv_m 2 rfl ?_
  exact xv_ct (r := 23) (nip := 8) (cost := 13) rfl (by omega) (by omega) rfl (m_23t hx (hd := by omega) (hw := by omega))
theorem c_20c {V : Nat} (hV : V ≤ 30) (hSV : s 1 7 = nI V) {v : Nat} (hv : v < V) {k : Nat} (hk : k < 2) (hm : s 4 v = nI 0) (hd : 7 ≤ d) (hw : 113 ≤ w) : xv xm L xs d w 20 0 [(0, .ref 1), (1, .int (nI v)), (2, .int (nI k))] [] (xC s ++ g) (.threw ((xC s ++ g).length + 1)) ((xC s ++ g) ++ [.inr (11, [])]) 1 6 := by
  refine xv_m 3 rfl ?_
  refine xv_c0 (r := 41) (nip := 4) (cost := 13) rfl (by omega) (by omega) (m_41) ?_
  refine xv_c0 (r := 23) (nip := 5) (cost := 13) rfl (by omega) (by omega) (m_23v hSV hv (by omega) (hd := by omega) (hw := by omega)) ?_
  refine xv_m 2 rfl ?_
  refine xv_c0 (r := 23) (nip := 8) (cost := 13) rfl (by omega) (by omega) (m_23v (V := 2) rfl hk (by omega) (hd := by omega) (hw := by omega)) ?_
  refine xv_m 3 rfl ?_
  refine xv_c0 (r := 45) (nip := 12) (cost := 13) rfl (by omega) (by omega) (m_45 (by omega)) ?_
  refine xv_m 1 rfl ?_
  refine xv_el (show (s 4 v).toInt64 = lN 0 by rw [hm, nI_l (by omega)]) ?_
  refine xv_m 4 rfl ?_
  refine xv_bf rfl (by rw [show lg_cmp (lN 0) (lN 0) = 0 from xl_eq]; decide) ?_
  exact xv_t rfl (by omega) (by omega)
theorem xe_eq {x y : Int32} (h : xa_cmp .eq x y = true) : x = y := of_decide_eq_true h
theorem xe_eqf {x y : Int32} (h : xa_cmp .eq x y = false) : ¬ x = y := of_decide_eq_false h
theorem c_21_0 {D : Nat} (hD : D ≤ 100) (hSD : s 12 4 = nI D) {k : Nat} (hk : k < D) (hd : 7 ≤ d) (hw : 113 ≤ w) : xv xm L xs d w 21 0 [(0, .ref 1), (1, .int (nI k)), (2, .int (nI 0))] [] (xC s ++ g) (.returned (some (.int (s 15 k)))) (xC s ++ g) 0 0 := by
  refine xv_m 3 rfl ?_
  refine xv_c0 (r := 63) (nip := 4) (cost := 13) rfl (by omega) (by omega) (m_63) ?_
  refine xv_c0 (r := 23) (nip := 5) (cost := 13) rfl (by omega) (by omega) (m_23v hSD hk (by omega) (hd := by omega) (hw := by omega)) ?_
  refine xv_m 1 rfl ?_
  refine xv_bf (ip2 := 7) rfl (by decide +kernel) ?_
  refine xv_m 3 rfl ?_
  refine xv_c0 (r := 67) (nip := 11) (cost := 13) rfl (by omega) (by omega) (m_67 (by omega)) ?_
  exact xv_r rfl
theorem c_21_1 {D : Nat} (hD : D ≤ 100) (hSD : s 12 4 = nI D) {k : Nat} (hk : k < D) (hd : 7 ≤ d) (hw : 113 ≤ w) : xv xm L xs d w 21 0 [(0, .ref 1), (1, .int (nI k)), (2, .int (nI 1))] [] (xC s ++ g) (.returned (some (.int (s 13 k)))) (xC s ++ g) 0 0 := by
  refine xv_m 3 rfl ?_
  refine xv_c0 (r := 63) (nip := 4) (cost := 13) rfl (by omega) (by omega) (m_63) ?_
  refine xv_c0 (r := 23) (nip := 5) (cost := 13) rfl (by omega) (by omega) (m_23v hSD hk (by omega) (hd := by omega) (hw := by omega)) ?_
  refine xv_m 1 rfl ?_
  refine xv_bf (ip2 := 12) rfl (by decide +kernel) ?_
  refine xv_m 3 rfl ?_
  refine xv_c0 (r := 65) (nip := 16) (cost := 13) rfl (by omega) (by omega) (m_65 (by omega)) ?_
  exact xv_r rfl
theorem c_21_2 {D : Nat} (hD : D ≤ 100) (hSD : s 12 4 = nI D) {k : Nat} (hk : k < D) (hz : xz (s 14)) (hd : 7 ≤ d) (hw : 113 ≤ w) : xv xm L xs d w 21 0 [(0, .ref 1), (1, .int (nI k)), (2, .int (nI 2))] [] (xC s ++ g) (.returned (some (.int (s 14 k)))) (xC s ++ g) 0 0 := by
  refine xv_m 3 rfl ?_
  refine xv_c0 (r := 63) (nip := 4) (cost := 13) rfl (by omega) (by omega) (m_63) ?_
  refine xv_c0 (r := 23) (nip := 5) (cost := 13) rfl (by omega) (by omega) (m_23v hSD hk (by omega) (hd := by omega) (hw := by omega)) ?_
  refine xv_m 1 rfl ?_
  refine xv_bf (ip2 := 17) rfl (by decide +kernel) ?_
  refine xv_m 3 rfl ?_
  refine xv_c0 (r := 66) (nip := 21) (cost := 13) rfl (by omega) (by omega) (m_66 hz (by omega)) ?_
  refine xv_b rfl (fun hc => ?_) (fun hc => ?_)
  · refine xv_m 1 rfl ?_
    exact xv_rn ((xe_eq hc).symm) rfl
  · refine xv_m 2 rfl ?_
    exact xv_rn (((hz k).resolve_left (xe_eqf hc)).symm) rfl
theorem c_21a {p q : Int32} (hx : p < 0 ∨ s 12 4 ≤ p) (hd : 7 ≤ d) (hw : 113 ≤ w) : xv xm L xs d w 21 0 [(0, .ref 1), (1, .int (p)), (2, .int (q))] [] (xC s ++ g) (.threw ((xC s ++ g).length + 1)) ((xC s ++ g) ++ [.inr (7, [])]) 1 6 := by
  refine xv_m 3 rfl ?_
  refine xv_c0 (r := 63) (nip := 4) (cost := 13) rfl (by omega) (by omega) (m_63) ?_
  exact xv_ct (r := 23) (nip := 5) (cost := 13) rfl (by omega) (by omega) rfl (m_23t hx (hd := by omega) (hw := by omega))
theorem c_21b {D : Nat} (hD : D ≤ 100) (hSD : s 12 4 = nI D) {k : Nat} (hk : k < D) {q : Int32} (hx : q < nI 0 ∨ nI 2 < q) (hd : 7 ≤ d) (hw : 113 ≤ w) : xv xm L xs d w 21 0 [(0, .ref 1), (1, .int (nI k)), (2, .int (q))] [] (xC s ++ g) (.threw ((xC s ++ g).length + 1)) ((xC s ++ g) ++ [.inr (7, [])]) 1 6 := by
  refine xv_m 3 rfl ?_
  refine xv_c0 (r := 63) (nip := 4) (cost := 13) rfl (by omega) (by omega) (m_63) ?_
  refine xv_c0 (r := 23) (nip := 5) (cost := 13) rfl (by omega) (by omega) (m_23v hSD hk (by omega) (hd := by omega) (hw := by omega)) ?_
  refine xv_m 1 rfl ?_
  refine xv_bt (ip1 := 26) rfl (xs_out hx) ?_
  exact xv_t rfl (by omega) (by omega)
theorem c_22_0  (hd : 6 ≤ d) (hw : 100 ≤ w) : xv xm L xs d w 22 0 [(0, .ref 1), (1, .int (nI 0))] [] (xC s ++ g) (.returned (some (.int (s 0 5)))) (xC s ++ g) 0 0 := by
  refine xv_m 1 rfl ?_
  refine xv_bf (ip2 := 2) rfl (by decide +kernel) ?_
  refine xv_m 2 rfl ?_
  exact xv_r rfl
theorem c_22_1  (hd : 6 ≤ d) (hw : 100 ≤ w) : xv xm L xs d w 22 0 [(0, .ref 1), (1, .int (nI 1))] [] (xC s ++ g) (.returned (some (.int (s 0 6)))) (xC s ++ g) 0 0 := by
  refine xv_m 1 rfl ?_
  refine xv_bf (ip2 := 5) rfl (by decide +kernel) ?_
  refine xv_m 2 rfl ?_
  exact xv_r rfl
theorem c_22_2 {O : Nat} (hO : O ≤ 60) (hSO : s 17 5 = nI O) (hd : 6 ≤ d) (hw : 100 ≤ w) : xv xm L xs d w 22 0 [(0, .ref 1), (1, .int (nI 2))] [] (xC s ++ g) (.returned (some (.int (xcnt (f_op (s 19)) O 0 (nI 0))))) (xC s ++ g) 0 0 := by
  refine xv_m 1 rfl ?_
  refine xv_bf (ip2 := 8) rfl (by decide +kernel) ?_
  refine xv_m 2 rfl ?_
  refine xv_c0 (r := 81) (nip := 11) (cost := 14) rfl (by omega) (by omega) (m_81 hO hSO) ?_
  exact xv_r rfl
theorem c_22_3  (hd : 6 ≤ d) (hw : 100 ≤ w) : xv xm L xs d w 22 0 [(0, .ref 1), (1, .int (nI 3))] [] (xC s ++ g) (.returned (some (.int (s 0 8)))) (xC s ++ g) 0 0 := by
  refine xv_m 1 rfl ?_
  refine xv_bf (ip2 := 12) rfl (by decide +kernel) ?_
  refine xv_m 2 rfl ?_
  exact xv_r rfl
theorem c_22_4 {R D O : Nat} (hR : R ≤ 10) (hSR : s 9 2 = nI R) (hD : D ≤ 100) (hSD : s 12 4 = nI D) (hO : O ≤ 60) (hSO : s 17 5 = nI O){V : Nat} (hV : V ≤ 30) (hSV : s 1 7 = nI V) (hd : 6 ≤ d) (hw : 100 ≤ w) : xv xm L xs d w 22 0 [(0, .ref 1), (1, .int (nI 4))] [] (xC s ++ g) (.returned (some (.int (xcnt (f_bar s R D O) V 0 (nI 0))))) (xC s ++ g) 0 0 := by
  refine xv_m 1 rfl ?_
  refine xv_bf (ip2 := 15) rfl (by decide +kernel) ?_
  refine xv_m 1 rfl ?_
  refine xv_c0 (r := 38) (nip := 17) (cost := 14) rfl (by omega) (by omega) (m_38 hR hSR hD hSD hO hSO hV hSV (hd := by omega) (hw := by omega)) ?_
  exact xv_r rfl
theorem c_22a {q : Int32} (hx : q < nI 0 ∨ nI 4 < q) (hd : 6 ≤ d) (hw : 100 ≤ w) : xv xm L xs d w 22 0 [(0, .ref 1), (1, .int (q))] [] (xC s ++ g) (.threw ((xC s ++ g).length + 1)) ((xC s ++ g) ++ [.inr (7, [])]) 1 6 := by
  refine xv_m 1 rfl ?_
  refine xv_bt (ip1 := 18) rfl (xs_out hx) ?_
  exact xv_t rfl (by omega) (by omega)
end XSP

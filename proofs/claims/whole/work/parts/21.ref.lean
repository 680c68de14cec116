section XRF
variable {L : Nat} {xs : Nat → Int32} {d w : Nat} {q s b : Nat → Nat → Int32} {g : List va_E}
theorem m_96  : xv xm L xs d w 96 0 [(0, .ref 28)] [] (xC q ++ (xD (s) (b) ++ g)) (.returned (some (.int (b 0 0)))) (xC q ++ (xD (s) (b) ++ g)) 0 0 := by
  refine xv_m 2 rfl ?_
  exact xv_r rfl
theorem m_97_0  : xv xm L xs d w 97 0 [(0, .ref 28), (1, .int (0)), (2, .int (0)), (3, .int (0)), (4, .int (0))] [] (xC q ++ (xD (s) (b) ++ g)) (.returned (some (.int (0)))) (xC q ++ (xD (s) (xu b 0 0 (nI 0)) ++ g)) 0 0 := by
  refine xv_m 2 rfl ?_
  refine xv_bt rfl (by decide +kernel) ?_
  refine xv_m 1 rfl ?_
  refine xv_bt rfl (by decide +kernel) ?_
  refine xv_m 1 rfl ?_
  refine xv_bt rfl (by decide +kernel) ?_
  refine xv_m 1 rfl ?_
  refine xv_bt rfl (by decide +kernel) ?_
  refine xv_m 2 (h1 := xC q ++ (xD (s) (xu b 0 0 (nI 0)) ++ g)) rfl ?_
  refine xv_m 2 rfl ?_
  refine xv_bt rfl (show xa_cmp .le (nI 0) 0 = true by decide +kernel) ?_
  refine xv_m 1 rfl ?_
  exact xv_rb xn_0 rfl
theorem m_97_1 {x y z : Int32} : xv xm L xs d w 97 0 [(0, .ref 28), (1, .int (1)), (2, .int (x)), (3, .int (y)), (4, .int (z))] [] (xC q ++ (xD (s) (b) ++ g)) (.returned (some (.int (1)))) (xC q ++ (xD (s) (xu b 0 0 (nI 1)) ++ g)) 0 0 := by
  refine xv_m 2 rfl ?_
  refine xv_bf rfl (by decide +kernel) ?_
  refine xv_m 3 (h1 := xC q ++ (xD (s) (xu b 0 0 (nI 1)) ++ g)) rfl ?_
  refine xv_m 2 rfl ?_
  refine xv_bf rfl (show xa_cmp .le (nI 1) 0 = false by decide +kernel) ?_
  refine xv_m 2 rfl ?_
  exact xv_rb xn_1 rfl
theorem m_97_2 {y z : Int32} : xv xm L xs d w 97 0 [(0, .ref 28), (1, .int (0)), (2, .int (1)), (3, .int (y)), (4, .int (z))] [] (xC q ++ (xD (s) (b) ++ g)) (.returned (some (.int (1)))) (xC q ++ (xD (s) (xu b 0 0 (nI 2)) ++ g)) 0 0 := by
  refine xv_m 2 rfl ?_
  refine xv_bt rfl (by decide +kernel) ?_
  refine xv_m 1 rfl ?_
  refine xv_bf rfl (by decide +kernel) ?_
  refine xv_m 3 (h1 := xC q ++ (xD (s) (xu b 0 0 (nI 2)) ++ g)) rfl ?_
  refine xv_m 2 rfl ?_
  refine xv_bf rfl (show xa_cmp .le (nI 2) 0 = false by decide +kernel) ?_
  refine xv_m 2 rfl ?_
  exact xv_rb xn_1 rfl
theorem m_97_3 {z : Int32} : xv xm L xs d w 97 0 [(0, .ref 28), (1, .int (0)), (2, .int (0)), (3, .int (1)), (4, .int (z))] [] (xC q ++ (xD (s) (b) ++ g)) (.returned (some (.int (1)))) (xC q ++ (xD (s) (xu b 0 0 (nI 3)) ++ g)) 0 0 := by
  refine xv_m 2 rfl ?_
  refine xv_bt rfl (by decide +kernel) ?_
  refine xv_m 1 rfl ?_
  refine xv_bt rfl (by decide +kernel) ?_
  refine xv_m 1 rfl ?_
  refine xv_bf rfl (by decide +kernel) ?_
  refine xv_m 3 (h1 := xC q ++ (xD (s) (xu b 0 0 (nI 3)) ++ g)) rfl ?_
  refine xv_m 2 rfl ?_
  refine xv_bf rfl (show xa_cmp .le (nI 3) 0 = false by decide +kernel) ?_
  refine xv_m 2 rfl ?_
  exact xv_rb xn_1 rfl
theorem m_97_4  : xv xm L xs d w 97 0 [(0, .ref 28), (1, .int (0)), (2, .int (0)), (3, .int (0)), (4, .int (1))] [] (xC q ++ (xD (s) (b) ++ g)) (.returned (some (.int (1)))) (xC q ++ (xD (s) (xu b 0 0 (nI 4)) ++ g)) 0 0 := by
  refine xv_m 2 rfl ?_
  refine xv_bt rfl (by decide +kernel) ?_
  refine xv_m 1 rfl ?_
  refine xv_bt rfl (by decide +kernel) ?_
  refine xv_m 1 rfl ?_
  refine xv_bt rfl (by decide +kernel) ?_
  refine xv_m 1 rfl ?_
  refine xv_bf rfl (by decide +kernel) ?_
  refine xv_m 3 (h1 := xC q ++ (xD (s) (xu b 0 0 (nI 4)) ++ g)) rfl ?_
  refine xv_m 2 rfl ?_
  refine xv_bf rfl (show xa_cmp .le (nI 4) 0 = false by decide +kernel) ?_
  refine xv_m 2 rfl ?_
  exact xv_rb xn_1 rfl
theorem m_98t {h : List va_E} {x y z : Int32} (h0 : y ≤ x) (h1 : x ≤ z) : xv xm L xs d w 98 0 [(0, .int (x)), (1, .int (y)), (2, .int (z))] [] (h) (.returned (some (.int (1)))) (h) 0 0 := by
  refine xv_m 2 rfl ?_
  refine xv_bf rfl (xd_ltF h0) ?_
  refine xv_m 2 rfl ?_
  refine xv_bf rfl (xd_gtF h1) ?_
  refine xv_m 2 rfl ?_
  exact xv_rb xn_1 rfl
theorem m_98f {h : List va_E} {x y z : Int32} (hx : x < y ∨ z < x) : xv xm L xs d w 98 0 [(0, .int (x)), (1, .int (y)), (2, .int (z))] [] h (.returned (some (.int (0)))) h 0 0 := by
  by_cases h0 : x < y
  · refine xv_m 2 rfl ?_
    refine xv_bt rfl (xd_ltT h0) ?_
    refine xv_m 1 rfl ?_
    exact xv_rb xn_0 rfl
  · refine xv_m 2 rfl ?_
    refine xv_bf rfl (xd_ltF (xi_le h0)) ?_
    refine xv_m 2 rfl ?_
    refine xv_bt rfl (xd_gtT (hx.resolve_left h0)) ?_
    refine xv_m 1 rfl ?_
    exact xv_rb xn_0 rfl
def f_in (x y z : Int32) : Bool := decide (y ≤ x) && decide (x ≤ z)
theorem m_98 {h : List va_E} {x y z : Int32} : xv xm L xs d w 98 0 [(0, .int (x)), (1, .int (y)), (2, .int (z))] [] h (.returned (some (.int (xB (f_in x y z))))) h 0 0 := by
  by_cases h0 : x < y ∨ z < x
  · have e : f_in x y z = false := by
      unfold f_in
      rcases h0 with h | h
      · rw [decide_eq_false (xi_nle h)]; rfl
      · rw [decide_eq_false (xi_nle h)]; exact Bool.and_false _
    rw [e]; exact m_98f h0
  · have h1 : y ≤ x := xi_le fun h => h0 (Or.inl h)
    have h2 : x ≤ z := xi_le fun h => h0 (Or.inr h)
    have e : f_in x y z = true := by unfold f_in; rw [decide_eq_true h1, decide_eq_true h2]; rfl
    rw [e]; exact m_98t h1 h2
theorem xi_1 {v V : Nat} (hv : v < V) (hV : V ≤ 1000) : nI v ≤ nI V - nI 1 := by
  rw [pk_sub (by omega)]
  exact nI_le (by omega) (by omega)
theorem xi_2 {p y : Int32} {V : Nat} (hV : V ≤ 1000) (hy : y = nI V) (hx : p < 0 ∨ y ≤ p) : p < nI 0 ∨ nI V - nI 1 < p := by
  rcases hx with h | h
  · exact Or.inl h
  · refine Or.inr ?_
    rw [hy, Int32.le_iff_toInt_le, nI_toInt (by omega)] at h
    rw [Int32.lt_iff_toInt_lt, pk_sub_toInt (by omega) (by omega)]
    omega
theorem m_99t {V : Nat} (hN : V ≤ 1000) (hS : s 1 7 = nI V) {v : Nat} (hv : v < V) (hd : 1 ≤ d) (hw : 14 ≤ w) : xv xm L xs d w 99 0 [(0, .ref 28), (1, .int (nI v))] [] (xC q ++ (xD (s) (b) ++ g)) (.returned (some (.int (1)))) (xC q ++ (xD (s) (b) ++ g)) 0 0 := by
  refine xv_m 6 rfl ?_
  refine xv_ei (show s 1 7 - nI 1 = nI V - nI 1 by rw [hS]) ?_
  refine xv_c0 (r := 98) (nip := 7) (cost := 14) rfl (by omega) (by omega) (m_98t (nI_pos' (by omega)) (xi_1 hv hN)) ?_
  exact xv_rb xn_1 rfl
theorem m_99f {V : Nat} (hN : V ≤ 1000) (hS : s 1 7 = nI V) {p : Int32} (hx : p < 0 ∨ s 1 7 ≤ p) (hd : 1 ≤ d) (hw : 14 ≤ w) : xv xm L xs d w 99 0 [(0, .ref 28), (1, .int (p))] [] (xC q ++ (xD (s) (b) ++ g)) (.returned (some (.int (0)))) (xC q ++ (xD (s) (b) ++ g)) 0 0 := by
  refine xv_m 6 rfl ?_
  refine xv_ei (show s 1 7 - nI 1 = nI V - nI 1 by rw [hS]) ?_
  refine xv_c0 (r := 98) (nip := 7) (cost := 14) rfl (by omega) (by omega) (m_98f (xi_2 hN hS hx)) ?_
  exact xv_rb xn_0 rfl
theorem m_100t {R : Nat} (hN : R ≤ 1000) (hS : s 9 2 = nI R) {v : Nat} (hv : v < R) (hd : 1 ≤ d) (hw : 14 ≤ w) : xv xm L xs d w 100 0 [(0, .ref 28), (1, .int (nI v))] [] (xC q ++ (xD (s) (b) ++ g)) (.returned (some (.int (1)))) (xC q ++ (xD (s) (b) ++ g)) 0 0 := by
  refine xv_m 6 rfl ?_
  refine xv_ei (show s 9 2 - nI 1 = nI R - nI 1 by rw [hS]) ?_
  refine xv_c0 (r := 98) (nip := 7) (cost := 14) rfl (by omega) (by omega) (m_98t (nI_pos' (by omega)) (xi_1 hv hN)) ?_
  exact xv_rb xn_1 rfl
theorem m_100f {R : Nat} (hN : R ≤ 1000) (hS : s 9 2 = nI R) {p : Int32} (hx : p < 0 ∨ s 9 2 ≤ p) (hd : 1 ≤ d) (hw : 14 ≤ w) : xv xm L xs d w 100 0 [(0, .ref 28), (1, .int (p))] [] (xC q ++ (xD (s) (b) ++ g)) (.returned (some (.int (0)))) (xC q ++ (xD (s) (b) ++ g)) 0 0 := by
  refine xv_m 6 rfl ?_
  refine xv_ei (show s 9 2 - nI 1 = nI R - nI 1 by rw [hS]) ?_
  refine xv_c0 (r := 98) (nip := 7) (cost := 14) rfl (by omega) (by omega) (m_98f (xi_2 hN hS hx)) ?_
  exact xv_rb xn_0 rfl
theorem m_101t {O : Nat} (hN : O ≤ 1000) (hS : s 17 5 = nI O) {v : Nat} (hv : v < O) (hd : 1 ≤ d) (hw : 14 ≤ w) : xv xm L xs d w 101 0 [(0, .ref 28), (1, .int (nI v))] [] (xC q ++ (xD (s) (b) ++ g)) (.returned (some (.int (1)))) (xC q ++ (xD (s) (b) ++ g)) 0 0 := by
  refine xv_m 6 rfl ?_
  refine xv_ei (show s 17 5 - nI 1 = nI O - nI 1 by rw [hS]) ?_
  refine xv_c0 (r := 98) (nip := 7) (cost := 14) rfl (by omega) (by omega) (m_98t (nI_pos' (by omega)) (xi_1 hv hN)) ?_
  exact xv_rb xn_1 rfl
theorem m_101f {O : Nat} (hN : O ≤ 1000) (hS : s 17 5 = nI O) {p : Int32} (hx : p < 0 ∨ s 17 5 ≤ p) (hd : 1 ≤ d) (hw : 14 ≤ w) : xv xm L xs d w 101 0 [(0, .ref 28), (1, .int (p))] [] (xC q ++ (xD (s) (b) ++ g)) (.returned (some (.int (0)))) (xC q ++ (xD (s) (b) ++ g)) 0 0 := by
  refine xv_m 6 rfl ?_
  refine xv_ei (show s 17 5 - nI 1 = nI O - nI 1 by rw [hS]) ?_
  refine xv_c0 (r := 98) (nip := 7) (cost := 14) rfl (by omega) (by omega) (m_98f (xi_2 hN hS hx)) ?_
  exact xv_rb xn_0 rfl
theorem nI_ne {a b : Nat} (h : a ≠ b) (ha : a < 2 ^ 31) (hb : b < 2 ^ 31) : ¬ nI a = nI b := fun e => h ((nI_eq ha hb).mp e)
theorem xk2 {k : Nat} {x : Int32} (h : x = nI k) : some (Value.int (x + xa_con 1 0)) = some (.int (nI (k + 1))) := by rw [h, xa_c0, nI_add]
theorem l_102a {x y : Int32} {V : Nat} (hV : V < 30) (hSV : s 1 7 = nI V) {f : Nat → Int32} {o : Outcome} {h' : List va_E} {k0 z : Nat} (he : xv xm L xs d w 102 56 [(0, .ref 28), (1, .int x), (2, .int y)] [] (xC q ++ (xD (xw s 11 (xfo (f_start V (s 0 5)) f 10)) (b) ++ g)) o h' k0 z) : ∀ n k, k + n = 10 → xv xm L xs d w 102 36 [(3, .int (nI k)), (0, .ref 28), (1, .int x), (2, .int y)] [] (xC q ++ (xD (xw s 11 (xfo (f_start V (s 0 5)) f k)) (b) ++ g)) o h' k0 z
  | 0, k, hk => by
    have hk : k = 10 := hk
    subst hk
    refine xv_m 2 rfl ?_
    refine xv_bt rfl (xc_geT (by omega) (by omega)) ?_
    exact xv_l he ⟨rfl, rfl, rfl, trivial⟩
  | n + 1, k, hk => by
    refine xv_m 2 rfl ?_
    refine xv_bf rfl (xc_geF (by omega) (by omega)) ?_
    refine xv_m 14 rfl ?_
    refine xv_ias (30 * V + 3 * k + 2) (xC q ++ (xD (xw s 11 (xfo (f_start V (s 0 5)) f (k + 1))) (b) ++ g)) rfl rfl (by show nI 30 * s 1 7 + nI 3 * nI k + nI 2 = _; rw [hSV, pk_mul, pk_mul, nI_add, nI_add]) (by omega) (by omega) rfl ?_
    refine xv_m 2 rfl ?_
    exact xv_l (l_102a hV hSV he n (k + 1) (by omega)) ⟨xk k, rfl, rfl, rfl, trivial⟩
theorem l_102b {x y : Int32} {V : Nat} (hV : V < 30) (hSV : s 1 7 = nI V) {f : Nat → Int32} {o : Outcome} {h' : List va_E} {k0 z : Nat} (he : xv xm L xs d w 102 73 [(0, .ref 28), (1, .int x), (2, .int y)] [] (xC q ++ (xD (xw s 7 (f_cert f V 5)) (b) ++ g)) o h' k0 z) : ∀ n k, k + n = 5 → xv xm L xs d w 102 58 [(3, .int (nI k)), (0, .ref 28), (1, .int x), (2, .int y)] [] (xC q ++ (xD (xw s 7 (f_cert f V k)) (b) ++ g)) o h' k0 z
  | 0, k, hk => by
    have hk : k = 5 := hk
    subst hk
    refine xv_m 2 rfl ?_
    refine xv_bt rfl (xc_geT (by omega) (by omega)) ?_
    exact xv_l he ⟨rfl, rfl, rfl, trivial⟩
  | n + 1, k, hk => by
    refine xv_m 2 rfl ?_
    refine xv_bf rfl (xc_geF (by omega) (by omega)) ?_
    refine xv_m 9 rfl ?_
    refine xv_ias (5 * V + k) (xC q ++ (xD (xw s 7 (f_cert f V (k + 1))) (b) ++ g)) rfl rfl (by show nI 5 * s 1 7 + nI k = _; rw [hSV, pk_mul, nI_add]) (by omega) (by omega) rfl ?_
    refine xv_m 2 rfl ?_
    exact xv_l (l_102b hV hSV he n (k + 1) (by omega)) ⟨xk k, rfl, rfl, rfl, trivial⟩
theorem r_1 {x y : Int32} {V : Nat} (hV : V < 30) (hSV : s 1 7 = nI V) (h0 : nI 0 ≤ x) (h1 : x ≤ nI 9) (hy : y = 0 ∨ y = 1) (hd : 1 ≤ d) (hw : 16 ≤ w) : xv xm L xs d w 102 0 [(0, .ref 28), (1, .int (x)), (2, .int (y))] [] (xC q ++ (xD (s) (b) ++ g)) (.returned (some (.int (nI V)))) (xC q ++ (xD (f_veh s V x y) (xu b 0 0 (nI 0)) ++ g)) 0 0 := by
  refine xv_m 4 rfl ?_
  refine xv_c0 (r := 98) (nip := 5) (cost := 15) rfl (by omega) (by omega) (m_98t h0 h1) ?_
  refine xv_bt rfl (by decide +kernel) ?_
  refine xv_m 4 rfl ?_
  refine xv_bt rfl (xc_neT (by rw [hSV]; exact nI_ne (by omega) (by omega) (by omega))) ?_
  refine xv_m 3 rfl ?_
  refine xv_c0 (r := 97) (nip := 19) (cost := 16) rfl (by omega) (by omega) (m_97_0) ?_
  refine xv_bt rfl (by decide +kernel) ?_
  refine xv_m 5 rfl ?_
  refine xv_ias (V) (xC q ++ (xD (xu s 2 V x) (xu b 0 0 (nI 0)) ++ g)) rfl rfl hSV (by omega) (by omega) rfl ?_
  refine xv_m 5 rfl ?_
  refine xv_bas (V) (xC q ++ (xD (xu (xu s 2 V x) 3 V y) (xu b 0 0 (nI 0)) ++ g)) rfl rfl hSV (by omega) (by omega) (xn_b hy) rfl ?_
  refine xv_m 2 rfl ?_
  refine xv_eh (h1 := xC q ++ (xD (xw (xu (xu s 2 V x) 3 V y) 11 (xfo (f_start V (s 0 5)) (s 11) 0)) (xu b 0 0 (nI 0)) ++ g)) rfl ?_
  refine xv_l (l_102a (s := xu (xu s 2 V x) 3 V y) (b := xu b 0 0 (nI 0)) (f := s 11) hV hSV ?_ 10 0 rfl) ⟨rfl, rfl, rfl, rfl, trivial⟩
  refine xv_m 2 rfl ?_
  refine xv_eh (h1 := xC q ++ (xD (xw (xw (xu (xu s 2 V x) 3 V y) 11 (xfo (f_start V (s 0 5)) (s 11) 10)) 7 (f_cert (s 7) V 0)) (xu b 0 0 (nI 0)) ++ g)) rfl ?_
  refine xv_l (l_102b (s := xw (xu (xu s 2 V x) 3 V y) 11 (xfo (f_start V (s 0 5)) (s 11) 10)) (b := xu b 0 0 (nI 0)) (f := s 7) hV hSV ?_ 5 0 rfl) ⟨rfl, rfl, rfl, rfl, trivial⟩
  refine xv_m 5 rfl ?_
  refine xv_ei (show s 1 7 + nI 1 = nI (V + 1) by rw [hSV, nI_add]) ?_
  refine xv_m 1 (h1 := xC q ++ (xD (f_veh s V x y) (xu b 0 0 (nI 0)) ++ g)) rfl ?_
  refine xv_m 4 rfl ?_
  exact xv_rn (by show nI (V + 1) - nI 1 = nI V; exact nI_pred V) rfl
theorem r_1a {x y : Int32} (hx : x < nI 0 ∨ nI 9 < x) (hd : 1 ≤ d) (hw : 16 ≤ w) : xv xm L xs d w 102 0 [(0, .ref 28), (1, .int (x)), (2, .int (y))] [] (xC q ++ (xD (s) (b) ++ g)) (.returned (some (.int (nI 0)))) (xC q ++ (xD (s) (xu b 0 0 (nI 1)) ++ g)) 0 0 := by
  refine xv_m 4 rfl ?_
  refine xv_c0 (r := 98) (nip := 5) (cost := 15) rfl (by omega) (by omega) (m_98f hx) ?_
  refine xv_bf rfl (by decide +kernel) ?_
  refine xv_m 5 rfl ?_
  refine xv_b rfl (fun hc => ?_) (fun hc => ?_)
  · refine xv_m 3 rfl ?_
    refine xv_c0 (r := 97) (nip := 19) (cost := 16) rfl (by omega) (by omega) (m_97_1) ?_
    refine xv_bf rfl (by decide +kernel) ?_
    refine xv_m 1 rfl ?_
    exact xv_r rfl
  · refine xv_m 4 rfl ?_
    refine xv_c0 (r := 97) (nip := 19) (cost := 16) rfl (by omega) (by omega) (m_97_1) ?_
    refine xv_bf rfl (by decide +kernel) ?_
    refine xv_m 1 rfl ?_
    exact xv_r rfl
theorem r_1b {x y : Int32} (h0 : nI 0 ≤ x) (h1 : x ≤ nI 9) (hV : s 1 7 = nI 30) (hd : 1 ≤ d) (hw : 16 ≤ w) : xv xm L xs d w 102 0 [(0, .ref 28), (1, .int (x)), (2, .int (y))] [] (xC q ++ (xD (s) (b) ++ g)) (.returned (some (.int (nI 0)))) (xC q ++ (xD (s) (xu b 0 0 (nI 2)) ++ g)) 0 0 := by
  refine xv_m 4 rfl ?_
  refine xv_c0 (r := 98) (nip := 5) (cost := 15) rfl (by omega) (by omega) (m_98t h0 h1) ?_
  refine xv_bt rfl (by decide +kernel) ?_
  refine xv_m 4 rfl ?_
  refine xv_bf rfl (xc_neF hV) ?_
  refine xv_m 4 rfl ?_
  refine xv_c0 (r := 97) (nip := 19) (cost := 16) rfl (by omega) (by omega) (m_97_2) ?_
  refine xv_bf rfl (by decide +kernel) ?_
  refine xv_m 1 rfl ?_
  exact xv_r rfl
theorem r_2 {a b1 c : Int32} (h0 : nI 0 ≤ a) (h1 : a ≤ nI 100000) (h2 : nI 0 ≤ b1) (h3 : b1 ≤ nI 100000) (h4 : nI 0 ≤ c) (h5 : c ≤ nI 100000) (hn : ¬ (a = 0 ∧ b1 = 0 ∧ c = 0)) {r : Nat} (hr : r < 10) (hSR : s 9 2 = nI r) (hd : 1 ≤ d) (hw : 16 ≤ w) : xv xm L xs d w 103 0 [(0, .ref 28), (1, .int (a)), (2, .int (b1)), (3, .int (c))] [] (xC q ++ (xD (s) (b) ++ g)) (.returned (some (.int (nI r)))) (xC q ++ (xD (f_rul s r a b1 c) (xu b 0 0 (nI 0)) ++ g)) 0 0 := by
  refine xv_m 3 rfl ?_
  refine xv_c0 (r := 98) (nip := 4) (cost := 14) rfl (by omega) (by omega) (m_98t h0 h1) ?_
  refine xv_bf rfl (by decide +kernel) ?_
  refine xv_m 3 rfl ?_
  refine xv_c0 (r := 98) (nip := 9) (cost := 14) rfl (by omega) (by omega) (m_98t h2 h3) ?_
  refine xv_bf rfl (by decide +kernel) ?_
  refine xv_m 3 rfl ?_
  refine xv_c0 (r := 98) (nip := 14) (cost := 14) rfl (by omega) (by omega) (m_98t h4 h5) ?_
  refine xv_bf rfl (by decide +kernel) ?_
  refine xv_m 1 rfl ?_
  refine xv_b rfl (fun hc => ?_) (fun hc => ?_)
  · refine xv_m 7 rfl ?_
    refine xv_bt rfl (xc_neT (by rw [hSR]; exact nI_ne (by omega) (by omega) (by omega))) ?_
    refine xv_m 3 rfl ?_
    refine xv_c0 (r := 97) (nip := 37) (cost := 16) rfl (by omega) (by omega) (m_97_0) ?_
    refine xv_bt rfl (by decide +kernel) ?_
    refine xv_m 7 rfl ?_
    refine xv_ias (3 * r) (xC q ++ (xD (xu s 10 (3 * r) a) (xu b 0 0 (nI 0)) ++ g)) rfl rfl (by show nI 3 * s 9 2 = _; rw [hSR, pk_mul]) (by omega) (by omega) rfl ?_
    refine xv_m 9 rfl ?_
    refine xv_ias (3 * r + 1) (xC q ++ (xD (xu (xu s 10 (3 * r) a) 10 (3 * r + 1) b1) (xu b 0 0 (nI 0)) ++ g)) rfl rfl (by show nI 3 * s 9 2 + nI 1 = _; rw [hSR, pk_mul, nI_add]) (by omega) (by omega) rfl ?_
    refine xv_m 9 rfl ?_
    refine xv_ias (3 * r + 2) (xC q ++ (xD (xu (xu (xu s 10 (3 * r) a) 10 (3 * r + 1) b1) 10 (3 * r + 2) c) (xu b 0 0 (nI 0)) ++ g)) rfl rfl (by show nI 3 * s 9 2 + nI 2 = _; rw [hSR, pk_mul, nI_add]) (by omega) (by omega) rfl ?_
    refine xv_m 5 rfl ?_
    refine xv_ei (show s 9 2 + nI 1 = nI (r + 1) by rw [hSR, nI_add]) ?_
    refine xv_m 1 (h1 := xC q ++ (xD (f_rul s r a b1 c) (xu b 0 0 (nI 0)) ++ g)) rfl ?_
    refine xv_m 4 rfl ?_
    exact xv_rn (by show nI (r + 1) - nI 1 = nI r; exact nI_pred r) rfl
  · refine xv_m 1 rfl ?_
    refine xv_b rfl (fun hc2 => ?_) (fun hc2 => ?_)
    · refine xv_m 7 rfl ?_
      refine xv_bt rfl (xc_neT (by rw [hSR]; exact nI_ne (by omega) (by omega) (by omega))) ?_
      refine xv_m 3 rfl ?_
      refine xv_c0 (r := 97) (nip := 37) (cost := 16) rfl (by omega) (by omega) (m_97_0) ?_
      refine xv_bt rfl (by decide +kernel) ?_
      refine xv_m 7 rfl ?_
      refine xv_ias (3 * r) (xC q ++ (xD (xu s 10 (3 * r) a) (xu b 0 0 (nI 0)) ++ g)) rfl rfl (by show nI 3 * s 9 2 = _; rw [hSR, pk_mul]) (by omega) (by omega) rfl ?_
      refine xv_m 9 rfl ?_
      refine xv_ias (3 * r + 1) (xC q ++ (xD (xu (xu s 10 (3 * r) a) 10 (3 * r + 1) b1) (xu b 0 0 (nI 0)) ++ g)) rfl rfl (by show nI 3 * s 9 2 + nI 1 = _; rw [hSR, pk_mul, nI_add]) (by omega) (by omega) rfl ?_
      refine xv_m 9 rfl ?_
      refine xv_ias (3 * r + 2) (xC q ++ (xD (xu (xu (xu s 10 (3 * r) a) 10 (3 * r + 1) b1) 10 (3 * r + 2) c) (xu b 0 0 (nI 0)) ++ g)) rfl rfl (by show nI 3 * s 9 2 + nI 2 = _; rw [hSR, pk_mul, nI_add]) (by omega) (by omega) rfl ?_
      refine xv_m 5 rfl ?_
      refine xv_ei (show s 9 2 + nI 1 = nI (r + 1) by rw [hSR, nI_add]) ?_
      refine xv_m 1 (h1 := xC q ++ (xD (f_rul s r a b1 c) (xu b 0 0 (nI 0)) ++ g)) rfl ?_
      refine xv_m 4 rfl ?_
      exact xv_rn (by show nI (r + 1) - nI 1 = nI r; exact nI_pred r) rfl
    · refine xv_m 1 rfl ?_
      refine xv_bt rfl (xc_neT (fun e => hn ⟨xe_ne hc, xe_ne hc2, e⟩)) ?_
      refine xv_m 7 rfl ?_
      refine xv_bt rfl (xc_neT (by rw [hSR]; exact nI_ne (by omega) (by omega) (by omega))) ?_
      refine xv_m 3 rfl ?_
      refine xv_c0 (r := 97) (nip := 37) (cost := 16) rfl (by omega) (by omega) (m_97_0) ?_
      refine xv_bt rfl (by decide +kernel) ?_
      refine xv_m 7 rfl ?_
      refine xv_ias (3 * r) (xC q ++ (xD (xu s 10 (3 * r) a) (xu b 0 0 (nI 0)) ++ g)) rfl rfl (by show nI 3 * s 9 2 = _; rw [hSR, pk_mul]) (by omega) (by omega) rfl ?_
      refine xv_m 9 rfl ?_
      refine xv_ias (3 * r + 1) (xC q ++ (xD (xu (xu s 10 (3 * r) a) 10 (3 * r + 1) b1) (xu b 0 0 (nI 0)) ++ g)) rfl rfl (by show nI 3 * s 9 2 + nI 1 = _; rw [hSR, pk_mul, nI_add]) (by omega) (by omega) rfl ?_
      refine xv_m 9 rfl ?_
      refine xv_ias (3 * r + 2) (xC q ++ (xD (xu (xu (xu s 10 (3 * r) a) 10 (3 * r + 1) b1) 10 (3 * r + 2) c) (xu b 0 0 (nI 0)) ++ g)) rfl rfl (by show nI 3 * s 9 2 + nI 2 = _; rw [hSR, pk_mul, nI_add]) (by omega) (by omega) rfl ?_
      refine xv_m 5 rfl ?_
      refine xv_ei (show s 9 2 + nI 1 = nI (r + 1) by rw [hSR, nI_add]) ?_
      refine xv_m 1 (h1 := xC q ++ (xD (f_rul s r a b1 c) (xu b 0 0 (nI 0)) ++ g)) rfl ?_
      refine xv_m 4 rfl ?_
      exact xv_rn (by show nI (r + 1) - nI 1 = nI r; exact nI_pred r) rfl
theorem r_2a {a b1 c : Int32} (hx : a < nI 0 ∨ nI 100000 < a) (hd : 1 ≤ d) (hw : 16 ≤ w) : xv xm L xs d w 103 0 [(0, .ref 28), (1, .int (a)), (2, .int (b1)), (3, .int (c))] [] (xC q ++ (xD (s) (b) ++ g)) (.returned (some (.int (nI 0)))) (xC q ++ (xD (s) (xu b 0 0 (nI 1)) ++ g)) 0 0 := by
  refine xv_m 3 rfl ?_
  refine xv_c0 (r := 98) (nip := 4) (cost := 14) rfl (by omega) (by omega) (m_98f hx) ?_
  refine xv_bt rfl (by decide +kernel) ?_
  refine xv_m 8 rfl ?_
  refine xv_b rfl (fun hc9 => ?_) (fun hc9 => ?_)
  · refine xv_m 3 rfl ?_
    refine xv_c0 (r := 97) (nip := 37) (cost := 16) rfl (by omega) (by omega) (m_97_1) ?_
    refine xv_bf rfl (by decide +kernel) ?_
    refine xv_m 1 rfl ?_
    exact xv_r rfl
  · refine xv_m 4 rfl ?_
    refine xv_c0 (r := 97) (nip := 37) (cost := 16) rfl (by omega) (by omega) (m_97_1) ?_
    refine xv_bf rfl (by decide +kernel) ?_
    refine xv_m 1 rfl ?_
    exact xv_r rfl
theorem r_2b {a b1 c : Int32} (h0 : nI 0 ≤ a) (h1 : a ≤ nI 100000) (hx : b1 < nI 0 ∨ nI 100000 < b1) (hd : 1 ≤ d) (hw : 16 ≤ w) : xv xm L xs d w 103 0 [(0, .ref 28), (1, .int (a)), (2, .int (b1)), (3, .int (c))] [] (xC q ++ (xD (s) (b) ++ g)) (.returned (some (.int (nI 0)))) (xC q ++ (xD (s) (xu b 0 0 (nI 1)) ++ g)) 0 0 := by
  refine xv_m 3 rfl ?_
  refine xv_c0 (r := 98) (nip := 4) (cost := 14) rfl (by omega) (by omega) (m_98t h0 h1) ?_
  refine xv_bf rfl (by decide +kernel) ?_
  refine xv_m 3 rfl ?_
  refine xv_c0 (r := 98) (nip := 9) (cost := 14) rfl (by omega) (by omega) (m_98f hx) ?_
  refine xv_bt rfl (by decide +kernel) ?_
  refine xv_m 8 rfl ?_
  refine xv_b rfl (fun hc9 => ?_) (fun hc9 => ?_)
  · refine xv_m 3 rfl ?_
    refine xv_c0 (r := 97) (nip := 37) (cost := 16) rfl (by omega) (by omega) (m_97_1) ?_
    refine xv_bf rfl (by decide +kernel) ?_
    refine xv_m 1 rfl ?_
    exact xv_r rfl
  · refine xv_m 4 rfl ?_
    refine xv_c0 (r := 97) (nip := 37) (cost := 16) rfl (by omega) (by omega) (m_97_1) ?_
    refine xv_bf rfl (by decide +kernel) ?_
    refine xv_m 1 rfl ?_
    exact xv_r rfl
theorem r_2c {a b1 c : Int32} (h0 : nI 0 ≤ a) (h1 : a ≤ nI 100000)(h2 : nI 0 ≤ b1) (h3 : b1 ≤ nI 100000) (hx : c < nI 0 ∨ nI 100000 < c) (hd : 1 ≤ d) (hw : 16 ≤ w) : xv xm L xs d w 103 0 [(0, .ref 28), (1, .int (a)), (2, .int (b1)), (3, .int (c))] [] (xC q ++ (xD (s) (b) ++ g)) (.returned (some (.int (nI 0)))) (xC q ++ (xD (s) (xu b 0 0 (nI 1)) ++ g)) 0 0 := by
  refine xv_m 3 rfl ?_
  refine xv_c0 (r := 98) (nip := 4) (cost := 14) rfl (by omega) (by omega) (m_98t h0 h1) ?_
  refine xv_bf rfl (by decide +kernel) ?_
  refine xv_m 3 rfl ?_
  refine xv_c0 (r := 98) (nip := 9) (cost := 14) rfl (by omega) (by omega) (m_98t h2 h3) ?_
  refine xv_bf rfl (by decide +kernel) ?_
  refine xv_m 3 rfl ?_
  refine xv_c0 (r := 98) (nip := 14) (cost := 14) rfl (by omega) (by omega) (m_98f hx) ?_
  refine xv_bt rfl (by decide +kernel) ?_
  refine xv_m 8 rfl ?_
  refine xv_b rfl (fun hc9 => ?_) (fun hc9 => ?_)
  · refine xv_m 3 rfl ?_
    refine xv_c0 (r := 97) (nip := 37) (cost := 16) rfl (by omega) (by omega) (m_97_1) ?_
    refine xv_bf rfl (by decide +kernel) ?_
    refine xv_m 1 rfl ?_
    exact xv_r rfl
  · refine xv_m 4 rfl ?_
    refine xv_c0 (r := 97) (nip := 37) (cost := 16) rfl (by omega) (by omega) (m_97_1) ?_
    refine xv_bf rfl (by decide +kernel) ?_
    refine xv_m 1 rfl ?_
    exact xv_r rfl
theorem r_2d {a b1 c : Int32} (h0 : nI 0 ≤ a) (h1 : a ≤ nI 100000)(h2 : nI 0 ≤ b1) (h3 : b1 ≤ nI 100000)(h4 : nI 0 ≤ c) (h5 : c ≤ nI 100000) (ha : a = 0) (hb : b1 = 0) (hc : c = 0) (hd : 1 ≤ d) (hw : 16 ≤ w) : xv xm L xs d w 103 0 [(0, .ref 28), (1, .int (a)), (2, .int (b1)), (3, .int (c))] [] (xC q ++ (xD (s) (b) ++ g)) (.returned (some (.int (nI 0)))) (xC q ++ (xD (s) (xu b 0 0 (nI 1)) ++ g)) 0 0 := by
  refine xv_m 3 rfl ?_
  refine xv_c0 (r := 98) (nip := 4) (cost := 14) rfl (by omega) (by omega) (m_98t h0 h1) ?_
  refine xv_bf rfl (by decide +kernel) ?_
  refine xv_m 3 rfl ?_
  refine xv_c0 (r := 98) (nip := 9) (cost := 14) rfl (by omega) (by omega) (m_98t h2 h3) ?_
  refine xv_bf rfl (by decide +kernel) ?_
  refine xv_m 3 rfl ?_
  refine xv_c0 (r := 98) (nip := 14) (cost := 14) rfl (by omega) (by omega) (m_98t h4 h5) ?_
  refine xv_bf rfl (by decide +kernel) ?_
  refine xv_m 1 rfl ?_
  refine xv_bf rfl (xc_neF ha) ?_
  refine xv_m 1 rfl ?_
  refine xv_bf rfl (xc_neF hb) ?_
  refine xv_m 1 rfl ?_
  refine xv_bf rfl (xc_neF hc) ?_
  refine xv_m 8 rfl ?_
  refine xv_b rfl (fun hc9 => ?_) (fun hc9 => ?_)
  · refine xv_m 3 rfl ?_
    refine xv_c0 (r := 97) (nip := 37) (cost := 16) rfl (by omega) (by omega) (m_97_1) ?_
    refine xv_bf rfl (by decide +kernel) ?_
    refine xv_m 1 rfl ?_
    exact xv_r rfl
  · refine xv_m 4 rfl ?_
    refine xv_c0 (r := 97) (nip := 37) (cost := 16) rfl (by omega) (by omega) (m_97_1) ?_
    refine xv_bf rfl (by decide +kernel) ?_
    refine xv_m 1 rfl ?_
    exact xv_r rfl
theorem r_2e {a b1 c : Int32} (h0 : nI 0 ≤ a) (h1 : a ≤ nI 100000)(h2 : nI 0 ≤ b1) (h3 : b1 ≤ nI 100000)(h4 : nI 0 ≤ c) (h5 : c ≤ nI 100000) (hn : ¬ (a = 0 ∧ b1 = 0 ∧ c = 0)) (hr : s 9 2 = nI 10) (hd : 1 ≤ d) (hw : 16 ≤ w) : xv xm L xs d w 103 0 [(0, .ref 28), (1, .int (a)), (2, .int (b1)), (3, .int (c))] [] (xC q ++ (xD (s) (b) ++ g)) (.returned (some (.int (nI 0)))) (xC q ++ (xD (s) (xu b 0 0 (nI 2)) ++ g)) 0 0 := by
  refine xv_m 3 rfl ?_
  refine xv_c0 (r := 98) (nip := 4) (cost := 14) rfl (by omega) (by omega) (m_98t h0 h1) ?_
  refine xv_bf rfl (by decide +kernel) ?_
  refine xv_m 3 rfl ?_
  refine xv_c0 (r := 98) (nip := 9) (cost := 14) rfl (by omega) (by omega) (m_98t h2 h3) ?_
  refine xv_bf rfl (by decide +kernel) ?_
  refine xv_m 3 rfl ?_
  refine xv_c0 (r := 98) (nip := 14) (cost := 14) rfl (by omega) (by omega) (m_98t h4 h5) ?_
  refine xv_bf rfl (by decide +kernel) ?_
  refine xv_m 1 rfl ?_
  refine xv_b rfl (fun hc => ?_) (fun hc => ?_)
  · refine xv_m 7 rfl ?_
    refine xv_bf rfl (xc_neF hr) ?_
    refine xv_m 4 rfl ?_
    refine xv_c0 (r := 97) (nip := 37) (cost := 16) rfl (by omega) (by omega) (m_97_2) ?_
    refine xv_bf rfl (by decide +kernel) ?_
    refine xv_m 1 rfl ?_
    exact xv_r rfl
  · refine xv_m 1 rfl ?_
    refine xv_b rfl (fun hc2 => ?_) (fun hc2 => ?_)
    · refine xv_m 7 rfl ?_
      refine xv_bf rfl (xc_neF hr) ?_
      refine xv_m 4 rfl ?_
      refine xv_c0 (r := 97) (nip := 37) (cost := 16) rfl (by omega) (by omega) (m_97_2) ?_
      refine xv_bf rfl (by decide +kernel) ?_
      refine xv_m 1 rfl ?_
      exact xv_r rfl
    · refine xv_m 1 rfl ?_
      refine xv_bt rfl (xc_neT (fun e => hn ⟨xe_ne hc, xe_ne hc2, e⟩)) ?_
      refine xv_m 7 rfl ?_
      refine xv_bf rfl (xc_neF hr) ?_
      refine xv_m 4 rfl ?_
      refine xv_c0 (r := 97) (nip := 37) (cost := 16) rfl (by omega) (by omega) (m_97_2) ?_
      refine xv_bf rfl (by decide +kernel) ?_
      refine xv_m 1 rfl ?_
      exact xv_r rfl
theorem r_3 {x : Int32} (h0 : nI 1 ≤ x) (h1 : x ≤ nI 100) (hd : 1 ≤ d) (hw : 16 ≤ w) : xv xm L xs d w 104 0 [(0, .ref 28), (1, .int (x))] [] (xC q ++ (xD (s) (b) ++ g)) (.returned none) (xC q ++ (xD (xu s 0 7 x) (xu b 0 0 (nI 0)) ++ g)) 0 0 := by
  refine xv_m 4 rfl ?_
  refine xv_c0 (r := 98) (nip := 5) (cost := 15) rfl (by omega) (by omega) (m_98t h0 h1) ?_
  refine xv_bt rfl (by decide +kernel) ?_
  refine xv_m 4 rfl ?_
  refine xv_c0 (r := 97) (nip := 13) (cost := 16) rfl (by omega) (by omega) (m_97_0) ?_
  refine xv_bt rfl (by decide +kernel) ?_
  refine xv_m 3 (h1 := xC q ++ (xD (xu s 0 7 x) (xu b 0 0 (nI 0)) ++ g)) rfl ?_
  exact xv_r rfl
theorem r_3a {x : Int32} (hx : x < nI 1 ∨ nI 100 < x) (hd : 1 ≤ d) (hw : 16 ≤ w) : xv xm L xs d w 104 0 [(0, .ref 28), (1, .int (x))] [] (xC q ++ (xD (s) (b) ++ g)) (.returned none) (xC q ++ (xD (s) (xu b 0 0 (nI 1)) ++ g)) 0 0 := by
  refine xv_m 4 rfl ?_
  refine xv_c0 (r := 98) (nip := 5) (cost := 15) rfl (by omega) (by omega) (m_98f hx) ?_
  refine xv_bf rfl (by decide +kernel) ?_
  refine xv_m 5 rfl ?_
  refine xv_c0 (r := 97) (nip := 13) (cost := 16) rfl (by omega) (by omega) (m_97_1) ?_
  refine xv_bf rfl (by decide +kernel) ?_
  exact xv_r rfl
theorem r_4 {x : Int32} (h0 : s 0 5 ≤ x) (h1 : x ≤ nI 99999) (hd : 1 ≤ d) (hw : 16 ≤ w) : xv xm L xs d w 105 0 [(0, .ref 28), (1, .int (x))] [] (xC q ++ (xD (s) (b) ++ g)) (.returned none) (xC q ++ (xD (xu s 0 5 x) (xu b 0 0 (nI 0)) ++ g)) 0 0 := by
  refine xv_m 4 rfl ?_
  refine xv_bf rfl (xd_ltF h0) ?_
  refine xv_m 2 rfl ?_
  refine xv_bt rfl (xd_leT h1) ?_
  refine xv_m 4 rfl ?_
  refine xv_c0 (r := 97) (nip := 15) (cost := 16) rfl (by omega) (by omega) (m_97_0) ?_
  refine xv_bt rfl (by decide +kernel) ?_
  refine xv_m 3 (h1 := xC q ++ (xD (xu s 0 5 x) (xu b 0 0 (nI 0)) ++ g)) rfl ?_
  exact xv_r rfl
theorem r_4a {x : Int32} (hx : x < s 0 5 ∨ nI 99999 < x) (hd : 1 ≤ d) (hw : 16 ≤ w) : xv xm L xs d w 105 0 [(0, .ref 28), (1, .int (x))] [] (xC q ++ (xD (s) (b) ++ g)) (.returned none) (xC q ++ (xD (s) (xu b 0 0 (nI 1)) ++ g)) 0 0 := by
  by_cases h0 : x < s 0 5
  · refine xv_m 4 rfl ?_
    refine xv_bt rfl (xd_ltT h0) ?_
    refine xv_m 5 rfl ?_
    refine xv_c0 (r := 97) (nip := 15) (cost := 16) rfl (by omega) (by omega) (m_97_1) ?_
    refine xv_bf rfl (by decide +kernel) ?_
    exact xv_r rfl
  · refine xv_m 4 rfl ?_
    refine xv_bf rfl (xd_ltF (xi_le h0)) ?_
    refine xv_m 2 rfl ?_
    refine xv_bf rfl (xd_leF (hx.resolve_left h0)) ?_
    refine xv_m 5 rfl ?_
    refine xv_c0 (r := 97) (nip := 15) (cost := 16) rfl (by omega) (by omega) (m_97_1) ?_
    refine xv_bf rfl (by decide +kernel) ?_
    exact xv_r rfl
theorem xi_p0 (x : Int32) : x + nI 0 = x := Int32.add_zero x
theorem r_5 {x y : Int32} {V : Nat} (hV : V ≤ 30) (hSV : s 1 7 = nI V) {v : Nat} (hv : v < V)(h0 : nI 0 ≤ x) (h1 : x ≤ nI 1000000)(h2 : nI 0 ≤ y) (h3 : y ≤ nI 1000000) (h4 : s 4 v ≤ x) (h5 : s 5 v ≤ y) (hd : 2 ≤ d) (hw : 27 ≤ w) : xv xm L xs d w 106 0 [(0, .ref 28), (1, .int (nI v)), (2, .int (x)), (3, .int (y))] [] (xC q ++ (xD (s) (b) ++ g)) (.returned none) (xC q ++ (xD (xu (xu s 4 v x) 5 v y) (xu b 0 0 (nI 0)) ++ g)) 0 0 := by
  refine xv_m 2 rfl ?_
  refine xv_c0 (r := 99) (nip := 3) (cost := 13) rfl (by omega) (by omega) (m_99t (by omega) hSV hv (hd := by omega) (hw := by omega)) ?_
  refine xv_bt rfl (by decide +kernel) ?_
  refine xv_m 5 rfl ?_
  refine xv_c0 (r := 98) (nip := 12) (cost := 14) rfl (by omega) (by omega) (m_98t h0 h1) ?_
  refine xv_bf rfl (by decide +kernel) ?_
  refine xv_m 3 rfl ?_
  refine xv_c0 (r := 98) (nip := 17) (cost := 14) rfl (by omega) (by omega) (m_98t h2 h3) ?_
  refine xv_bt rfl (by decide +kernel) ?_
  refine xv_m 3 rfl ?_
  refine xv_bf rfl (by decide +kernel) ?_
  refine xv_m 1 rfl ?_
  refine xv_bf rfl (by decide +kernel) ?_
  refine xv_m 4 rfl ?_
  refine xv_ia (_) rfl rfl rfl (by omega) (by omega) ?_
  refine xv_bf rfl (xd_ltF h4) ?_
  refine xv_m 4 rfl ?_
  refine xv_ia (_) rfl rfl rfl (by omega) (by omega) ?_
  refine xv_bt rfl (xd_geT h5) ?_
  refine xv_m 6 rfl ?_
  refine xv_bt rfl (by decide +kernel) ?_
  refine xv_m 2 rfl ?_
  refine xv_ei (xi_p0 _) ?_
  refine xv_m 1 (h1 := xC q ++ (xD (s) (b) ++ g)) rfl ?_
  refine xv_m 5 rfl ?_
  refine xv_c0 (r := 97) (nip := 58) (cost := 16) rfl (by omega) (by omega) (m_97_0) ?_
  refine xv_bt rfl (by decide +kernel) ?_
  refine xv_m 4 rfl ?_
  refine xv_ias (v) (xC q ++ (xD (xu s 4 v x) (xu b 0 0 (nI 0)) ++ g)) rfl rfl (by first | rfl | (simp only [xa_c0, pk_mul, nI_add]; done) | (simp only [xa_c0, pk_mul, nI_add]; congr 1; omega)) (by omega) (by omega) rfl ?_
  refine xv_m 4 rfl ?_
  refine xv_ias (v) (xC q ++ (xD (xu (xu s 4 v x) 5 v y) (xu b 0 0 (nI 0)) ++ g)) rfl rfl (by first | rfl | (simp only [xa_c0, pk_mul, nI_add]; done) | (simp only [xa_c0, pk_mul, nI_add]; congr 1; omega)) (by omega) (by omega) rfl ?_
  exact xv_r rfl
theorem r_5a {p x y : Int32} {V : Nat} (hV : V ≤ 30) (hSV : s 1 7 = nI V) (hx : p < 0 ∨ s 1 7 ≤ p) (hd : 2 ≤ d) (hw : 27 ≤ w) : xv xm L xs d w 106 0 [(0, .ref 28), (1, .int (p)), (2, .int (x)), (3, .int (y))] [] (xC q ++ (xD (s) (b) ++ g)) (.returned none) (xC q ++ (xD (s) (xu b 0 0 (nI 1)) ++ g)) 0 0 := by
  refine xv_m 2 rfl ?_
  refine xv_c0 (r := 99) (nip := 3) (cost := 13) rfl (by omega) (by omega) (m_99f (V := V) (by omega) hSV hx (hd := by omega) (hw := by omega)) ?_
  refine xv_bf rfl (by decide +kernel) ?_
  refine xv_m 6 rfl ?_
  refine xv_c0 (r := 98) (nip := 12) (cost := 14) rfl (by omega) (by omega) (m_98) ?_
  refine xv_b rfl (fun hc => ?_) (fun hc => ?_)
  · refine xv_m 4 rfl ?_
    refine xv_bt rfl (by decide +kernel) ?_
    refine xv_m 6 rfl ?_
    refine xv_bt rfl (by decide +kernel) ?_
    refine xv_m 2 rfl ?_
    refine xv_ei (xi_p0 _) ?_
    refine xv_m 1 (h1 := xC q ++ (xD (s) (b) ++ g)) rfl ?_
    refine xv_m 5 rfl ?_
    refine xv_c0 (r := 97) (nip := 58) (cost := 16) rfl (by omega) (by omega) (m_97_1) ?_
    refine xv_bf rfl (by decide +kernel) ?_
    exact xv_r rfl
  · refine xv_m 3 rfl ?_
    refine xv_c0 (r := 98) (nip := 17) (cost := 14) rfl (by omega) (by omega) (m_98) ?_
    refine xv_b rfl (fun hc2 => ?_) (fun hc2 => ?_)
    · refine xv_m 3 rfl ?_
      refine xv_bt rfl (by decide +kernel) ?_
      refine xv_m 6 rfl ?_
      refine xv_bt rfl (by decide +kernel) ?_
      refine xv_m 2 rfl ?_
      refine xv_ei (xi_p0 _) ?_
      refine xv_m 1 (h1 := xC q ++ (xD (s) (b) ++ g)) rfl ?_
      refine xv_m 5 rfl ?_
      refine xv_c0 (r := 97) (nip := 58) (cost := 16) rfl (by omega) (by omega) (m_97_1) ?_
      refine xv_bf rfl (by decide +kernel) ?_
      exact xv_r rfl
    · refine xv_m 4 rfl ?_
      refine xv_bt rfl (by decide +kernel) ?_
      refine xv_m 6 rfl ?_
      refine xv_bt rfl (by decide +kernel) ?_
      refine xv_m 2 rfl ?_
      refine xv_ei (xi_p0 _) ?_
      refine xv_m 1 (h1 := xC q ++ (xD (s) (b) ++ g)) rfl ?_
      refine xv_m 5 rfl ?_
      refine xv_c0 (r := 97) (nip := 58) (cost := 16) rfl (by omega) (by omega) (m_97_1) ?_
      refine xv_bf rfl (by decide +kernel) ?_
      exact xv_r rfl
theorem r_5b {x y : Int32} {V : Nat} (hV : V ≤ 30) (hSV : s 1 7 = nI V) {v : Nat} (hv : v < V) (hx : x < nI 0 ∨ nI 1000000 < x) (hd : 2 ≤ d) (hw : 27 ≤ w) : xv xm L xs d w 106 0 [(0, .ref 28), (1, .int (nI v)), (2, .int (x)), (3, .int (y))] [] (xC q ++ (xD (s) (b) ++ g)) (.returned none) (xC q ++ (xD (s) (xu b 0 0 (nI 2)) ++ g)) 0 0 := by
  refine xv_m 2 rfl ?_
  refine xv_c0 (r := 99) (nip := 3) (cost := 13) rfl (by omega) (by omega) (m_99t (by omega) hSV hv (hd := by omega) (hw := by omega)) ?_
  refine xv_bt rfl (by decide +kernel) ?_
  refine xv_m 5 rfl ?_
  refine xv_c0 (r := 98) (nip := 12) (cost := 14) rfl (by omega) (by omega) (m_98f hx) ?_
  refine xv_bt rfl (by decide +kernel) ?_
  refine xv_m 4 rfl ?_
  refine xv_bf rfl (by decide +kernel) ?_
  refine xv_m 1 rfl ?_
  refine xv_bt rfl (by decide +kernel) ?_
  refine xv_m 6 rfl ?_
  refine xv_bt rfl (by decide +kernel) ?_
  refine xv_m 2 rfl ?_
  refine xv_ei (xi_p0 _) ?_
  refine xv_m 1 (h1 := xC q ++ (xD (s) (b) ++ g)) rfl ?_
  refine xv_m 5 rfl ?_
  refine xv_c0 (r := 97) (nip := 58) (cost := 16) rfl (by omega) (by omega) (m_97_2) ?_
  refine xv_bf rfl (by decide +kernel) ?_
  exact xv_r rfl
theorem r_5c {x y : Int32} {V : Nat} (hV : V ≤ 30) (hSV : s 1 7 = nI V) {v : Nat} (hv : v < V)(h0 : nI 0 ≤ x) (h1 : x ≤ nI 1000000) (hx : y < nI 0 ∨ nI 1000000 < y) (hd : 2 ≤ d) (hw : 27 ≤ w) : xv xm L xs d w 106 0 [(0, .ref 28), (1, .int (nI v)), (2, .int (x)), (3, .int (y))] [] (xC q ++ (xD (s) (b) ++ g)) (.returned none) (xC q ++ (xD (s) (xu b 0 0 (nI 2)) ++ g)) 0 0 := by
  refine xv_m 2 rfl ?_
  refine xv_c0 (r := 99) (nip := 3) (cost := 13) rfl (by omega) (by omega) (m_99t (by omega) hSV hv (hd := by omega) (hw := by omega)) ?_
  refine xv_bt rfl (by decide +kernel) ?_
  refine xv_m 5 rfl ?_
  refine xv_c0 (r := 98) (nip := 12) (cost := 14) rfl (by omega) (by omega) (m_98t h0 h1) ?_
  refine xv_bf rfl (by decide +kernel) ?_
  refine xv_m 3 rfl ?_
  refine xv_c0 (r := 98) (nip := 17) (cost := 14) rfl (by omega) (by omega) (m_98f hx) ?_
  refine xv_bf rfl (by decide +kernel) ?_
  refine xv_m 4 rfl ?_
  refine xv_bf rfl (by decide +kernel) ?_
  refine xv_m 1 rfl ?_
  refine xv_bt rfl (by decide +kernel) ?_
  refine xv_m 6 rfl ?_
  refine xv_bt rfl (by decide +kernel) ?_
  refine xv_m 2 rfl ?_
  refine xv_ei (xi_p0 _) ?_
  refine xv_m 1 (h1 := xC q ++ (xD (s) (b) ++ g)) rfl ?_
  refine xv_m 5 rfl ?_
  refine xv_c0 (r := 97) (nip := 58) (cost := 16) rfl (by omega) (by omega) (m_97_2) ?_
  refine xv_bf rfl (by decide +kernel) ?_
  exact xv_r rfl
theorem r_5d {x y : Int32} {V : Nat} (hV : V ≤ 30) (hSV : s 1 7 = nI V) {v : Nat} (hv : v < V)(h0 : nI 0 ≤ x) (h1 : x ≤ nI 1000000)(h2 : nI 0 ≤ y) (h3 : y ≤ nI 1000000) (hx : x < s 4 v) (hd : 2 ≤ d) (hw : 27 ≤ w) : xv xm L xs d w 106 0 [(0, .ref 28), (1, .int (nI v)), (2, .int (x)), (3, .int (y))] [] (xC q ++ (xD (s) (b) ++ g)) (.returned none) (xC q ++ (xD (xu s 0 8 (s 0 8 + nI 1)) (xu b 0 0 (nI 3)) ++ g)) 0 0 := by
  refine xv_m 2 rfl ?_
  refine xv_c0 (r := 99) (nip := 3) (cost := 13) rfl (by omega) (by omega) (m_99t (by omega) hSV hv (hd := by omega) (hw := by omega)) ?_
  refine xv_bt rfl (by decide +kernel) ?_
  refine xv_m 5 rfl ?_
  refine xv_c0 (r := 98) (nip := 12) (cost := 14) rfl (by omega) (by omega) (m_98t h0 h1) ?_
  refine xv_bf rfl (by decide +kernel) ?_
  refine xv_m 3 rfl ?_
  refine xv_c0 (r := 98) (nip := 17) (cost := 14) rfl (by omega) (by omega) (m_98t h2 h3) ?_
  refine xv_bt rfl (by decide +kernel) ?_
  refine xv_m 3 rfl ?_
  refine xv_bf rfl (by decide +kernel) ?_
  refine xv_m 1 rfl ?_
  refine xv_bf rfl (by decide +kernel) ?_
  refine xv_m 4 rfl ?_
  refine xv_ia (_) rfl rfl rfl (by omega) (by omega) ?_
  refine xv_bt rfl (xd_ltT hx) ?_
  refine xv_m 7 rfl ?_
  refine xv_bf rfl (by decide +kernel) ?_
  refine xv_m 4 (h1 := xC q ++ (xD (xu s 0 8 (s 0 8 + nI 1)) (b) ++ g)) rfl ?_
  refine xv_m 5 rfl ?_
  refine xv_c0 (r := 97) (nip := 58) (cost := 16) rfl (by omega) (by omega) (m_97_3 (s := xu s 0 8 (s 0 8 + nI 1))) ?_
  refine xv_bf rfl (by decide +kernel) ?_
  exact xv_r rfl
theorem r_5e {x y : Int32} {V : Nat} (hV : V ≤ 30) (hSV : s 1 7 = nI V) {v : Nat} (hv : v < V)(h0 : nI 0 ≤ x) (h1 : x ≤ nI 1000000)(h2 : nI 0 ≤ y) (h3 : y ≤ nI 1000000) (h4 : s 4 v ≤ x) (hx : y < s 5 v) (hd : 2 ≤ d) (hw : 27 ≤ w) : xv xm L xs d w 106 0 [(0, .ref 28), (1, .int (nI v)), (2, .int (x)), (3, .int (y))] [] (xC q ++ (xD (s) (b) ++ g)) (.returned none) (xC q ++ (xD (xu s 0 8 (s 0 8 + nI 1)) (xu b 0 0 (nI 3)) ++ g)) 0 0 := by
  refine xv_m 2 rfl ?_
  refine xv_c0 (r := 99) (nip := 3) (cost := 13) rfl (by omega) (by omega) (m_99t (by omega) hSV hv (hd := by omega) (hw := by omega)) ?_
  refine xv_bt rfl (by decide +kernel) ?_
  refine xv_m 5 rfl ?_
  refine xv_c0 (r := 98) (nip := 12) (cost := 14) rfl (by omega) (by omega) (m_98t h0 h1) ?_
  refine xv_bf rfl (by decide +kernel) ?_
  refine xv_m 3 rfl ?_
  refine xv_c0 (r := 98) (nip := 17) (cost := 14) rfl (by omega) (by omega) (m_98t h2 h3) ?_
  refine xv_bt rfl (by decide +kernel) ?_
  refine xv_m 3 rfl ?_
  refine xv_bf rfl (by decide +kernel) ?_
  refine xv_m 1 rfl ?_
  refine xv_bf rfl (by decide +kernel) ?_
  refine xv_m 4 rfl ?_
  refine xv_ia (_) rfl rfl rfl (by omega) (by omega) ?_
  refine xv_bf rfl (xd_ltF h4) ?_
  refine xv_m 4 rfl ?_
  refine xv_ia (_) rfl rfl rfl (by omega) (by omega) ?_
  refine xv_bf rfl (xd_geF hx) ?_
  refine xv_m 7 rfl ?_
  refine xv_bf rfl (by decide +kernel) ?_
  refine xv_m 4 (h1 := xC q ++ (xD (xu s 0 8 (s 0 8 + nI 1)) (b) ++ g)) rfl ?_
  refine xv_m 5 rfl ?_
  refine xv_c0 (r := 97) (nip := 58) (cost := 16) rfl (by omega) (by omega) (m_97_3 (s := xu s 0 8 (s 0 8 + nI 1))) ?_
  refine xv_bf rfl (by decide +kernel) ?_
  exact xv_r rfl
theorem m_107_0 {v : Nat} (hv : v < 30) : xv xm L xs d w 107 0 [(0, .ref 28), (1, .int (nI v)), (2, .int (nI 0))] [] (xC q ++ (xD (s) (b) ++ g)) (.returned (some (.int (s 4 v)))) (xC q ++ (xD (s) (b) ++ g)) 0 0 := by
  refine xv_m 1 rfl ?_
  refine xv_bf rfl (by decide +kernel) ?_
  refine xv_m 3 rfl ?_
  refine xv_ia (_) rfl rfl rfl (by omega) (by omega) ?_
  refine xv_m 1 rfl ?_
  exact xv_r rfl
theorem m_107_1 {v : Nat} (hv : v < 30) : xv xm L xs d w 107 0 [(0, .ref 28), (1, .int (nI v)), (2, .int (nI 1))] [] (xC q ++ (xD (s) (b) ++ g)) (.returned (some (.int (s 5 v)))) (xC q ++ (xD (s) (b) ++ g)) 0 0 := by
  refine xv_m 1 rfl ?_
  refine xv_bt rfl (by decide +kernel) ?_
  refine xv_m 2 rfl ?_
  refine xv_bf rfl (by decide +kernel) ?_
  refine xv_m 3 rfl ?_
  refine xv_ia (_) rfl rfl rfl (by omega) (by omega) ?_
  refine xv_m 1 rfl ?_
  exact xv_r rfl
theorem m_107_2 {v : Nat} : xv xm L xs d w 107 0 [(0, .ref 28), (1, .int (nI v)), (2, .int (nI 2))] [] (xC q ++ (xD (s) (b) ++ g)) (.returned (some (.int (s 0 5)))) (xC q ++ (xD (s) (b) ++ g)) 0 0 := by
  refine xv_m 1 rfl ?_
  refine xv_bt rfl (by decide +kernel) ?_
  refine xv_m 2 rfl ?_
  refine xv_bt rfl (by decide +kernel) ?_
  refine xv_m 2 rfl ?_
  exact xv_r rfl
theorem m_107' : ∀ {v k : Nat}, v < 30 → k < 3 → xv xm L xs d w 107 0 [(0, .ref 28), (1, .int (nI v)), (2, .int (nI k))] [] (xC q ++ (xD (s) (b) ++ g)) (.returned (some (.int (f_now s v k)))) (xC q ++ (xD (s) (b) ++ g)) 0 0
  | _, 0, hv, _ => m_107_0 hv
  | _, 1, hv, _ => m_107_1 hv
  | _, 2, _, _ => m_107_2
  | _, _ + 3, _, hk => absurd hk (by omega)
theorem m_108 {v r k : Nat} (hv : v < 30) (hr : r < 10) (hk : k < 3) (hd : 1 ≤ d) (hw : 15 ≤ w) : xv xm L xs d w 108 0 [(0, .ref 28), (1, .int (nI v)), (2, .int (nI r)), (3, .int (nI k))] [] (xC q ++ (xD (s) (b) ++ g)) (.returned (some (.int (f_left s v r k)))) (xC q ++ (xD (s) (b) ++ g)) 0 0 := by
  refine xv_m 7 rfl ?_
  refine xv_ia (3 * r + k) rfl rfl (by first | rfl | (simp only [xa_c0, pk_mul, nI_add]; done) | (simp only [xa_c0, pk_mul, nI_add]; congr 1; omega)) (by omega) (by omega) ?_
  refine xv_m 3 rfl ?_
  refine xv_c0 (r := 107) (nip := 12) (cost := 15) rfl (by omega) (by omega) (m_107' hv hk) ?_
  refine xv_m 11 rfl ?_
  refine xv_ia (30 * v + 3 * r + k) rfl rfl (by first | rfl | (simp only [xa_c0, pk_mul, nI_add]; done) | (simp only [xa_c0, pk_mul, nI_add]; congr 1; omega)) (by omega) (by omega) ?_
  refine xv_m 2 rfl ?_
  exact xv_r rfl
theorem xby_t {f : Nat → Int32} {r k : Nat} (h : f_by f r k = true) : ¬ f (3 * r + k) = 0 := by
  intro e
  unfold f_by at h
  rw [e] at h
  exact absurd h (by decide)
theorem xby_f {f : Nat → Int32} {r k : Nat} (h : f_by f r k = false) : f (3 * r + k) = 0 := by
  unfold f_by at h
  by_cases e : f (3 * r + k) = 0
  · exact e
  · rw [xc_eqF e] at h; cases h
theorem r_6 {V : Nat} (hV : V ≤ 30) (hSV : s 1 7 = nI V) {v : Nat} (hv : v < V){R : Nat} (hR : R ≤ 10) (hSR : s 9 2 = nI R) {r : Nat} (hr : r < R) {k : Nat} (hk : k < 3) (hb : f_by (s 10) r k = true) (hd : 2 ≤ d) (hw : 30 ≤ w) : xv xm L xs d w 109 0 [(0, .ref 28), (1, .int (nI v)), (2, .int (nI r)), (3, .int (nI k))] [] (xC q ++ (xD (s) (b) ++ g)) (.returned (some (.int (f_left s v r k)))) (xC q ++ (xD (s) (xu b 0 0 (nI 0)) ++ g)) 0 0 := by
  refine xv_m 2 rfl ?_
  refine xv_c0 (r := 99) (nip := 3) (cost := 13) rfl (by omega) (by omega) (m_99t (by omega) hSV hv (hd := by omega) (hw := by omega)) ?_
  refine xv_bf rfl (by decide +kernel) ?_
  refine xv_m 2 rfl ?_
  refine xv_c0 (r := 100) (nip := 7) (cost := 13) rfl (by omega) (by omega) (m_100t (by omega) hSR hr (hd := by omega) (hw := by omega)) ?_
  refine xv_bf rfl (by decide +kernel) ?_
  refine xv_m 3 rfl ?_
  refine xv_c0 (r := 98) (nip := 12) (cost := 14) rfl (by omega) (by omega) (m_98t (nI_pos' (by omega)) (nI_le (b := 2) (by omega) (by omega))) ?_
  refine xv_bt rfl (by decide +kernel) ?_
  refine xv_m 5 rfl ?_
  refine xv_bf rfl (by decide +kernel) ?_
  refine xv_m 3 rfl ?_
  refine xv_bt rfl (by decide +kernel) ?_
  refine xv_m 5 rfl ?_
  refine xv_ia (3 * r + k) rfl rfl (by first | rfl | (simp only [xa_c0, pk_mul, nI_add]; done) | (simp only [xa_c0, pk_mul, nI_add]; congr 1; omega)) (by omega) (by omega) ?_
  refine xv_bt rfl (xc_neT (xby_t hb)) ?_
  refine xv_m 3 rfl ?_
  refine xv_c0 (r := 97) (nip := 40) (cost := 16) rfl (by omega) (by omega) (m_97_0) ?_
  refine xv_bt rfl (by decide +kernel) ?_
  refine xv_m 4 rfl ?_
  refine xv_c0 (r := 108) (nip := 48) (cost := 15) rfl (by omega) (by omega) (m_108 (by omega) (by omega) hk (hd := by omega) (hw := by omega)) ?_
  exact xv_r rfl
theorem r_6a {p q1 x : Int32} {V : Nat} (hV : V ≤ 30) (hSV : s 1 7 = nI V) (hx : p < 0 ∨ s 1 7 ≤ p) (hd : 2 ≤ d) (hw : 30 ≤ w) : xv xm L xs d w 109 0 [(0, .ref 28), (1, .int (p)), (2, .int (q1)), (3, .int (x))] [] (xC q ++ (xD (s) (b) ++ g)) (.returned (some (.int (nI 0)))) (xC q ++ (xD (s) (xu b 0 0 (nI 1)) ++ g)) 0 0 := by
  refine xv_m 2 rfl ?_
  refine xv_c0 (r := 99) (nip := 3) (cost := 13) rfl (by omega) (by omega) (m_99f (V := V) (by omega) hSV hx (hd := by omega) (hw := by omega)) ?_
  refine xv_bt rfl (by decide +kernel) ?_
  refine xv_m 6 rfl ?_
  refine xv_bt rfl (by decide +kernel) ?_
  refine xv_m 3 rfl ?_
  refine xv_c0 (r := 97) (nip := 40) (cost := 16) rfl (by omega) (by omega) (m_97_1) ?_
  refine xv_bf rfl (by decide +kernel) ?_
  refine xv_m 1 rfl ?_
  exact xv_r rfl
theorem r_6b {q1 x : Int32} {V : Nat} (hV : V ≤ 30) (hSV : s 1 7 = nI V) {v : Nat} (hv : v < V){R : Nat} (hR : R ≤ 10) (hSR : s 9 2 = nI R) (hx : q1 < 0 ∨ s 9 2 ≤ q1) (hd : 2 ≤ d) (hw : 30 ≤ w) : xv xm L xs d w 109 0 [(0, .ref 28), (1, .int (nI v)), (2, .int (q1)), (3, .int (x))] [] (xC q ++ (xD (s) (b) ++ g)) (.returned (some (.int (nI 0)))) (xC q ++ (xD (s) (xu b 0 0 (nI 1)) ++ g)) 0 0 := by
  refine xv_m 2 rfl ?_
  refine xv_c0 (r := 99) (nip := 3) (cost := 13) rfl (by omega) (by omega) (m_99t (by omega) hSV hv (hd := by omega) (hw := by omega)) ?_
  refine xv_bf rfl (by decide +kernel) ?_
  refine xv_m 2 rfl ?_
  refine xv_c0 (r := 100) (nip := 7) (cost := 13) rfl (by omega) (by omega) (m_100f (R := R) (by omega) hSR hx (hd := by omega) (hw := by omega)) ?_
  refine xv_bt rfl (by decide +kernel) ?_
  refine xv_m 6 rfl ?_
  refine xv_bt rfl (by decide +kernel) ?_
  refine xv_m 3 rfl ?_
  refine xv_c0 (r := 97) (nip := 40) (cost := 16) rfl (by omega) (by omega) (m_97_1) ?_
  refine xv_bf rfl (by decide +kernel) ?_
  refine xv_m 1 rfl ?_
  exact xv_r rfl
theorem r_6c {x : Int32} {V : Nat} (hV : V ≤ 30) (hSV : s 1 7 = nI V) {v : Nat} (hv : v < V){R : Nat} (hR : R ≤ 10) (hSR : s 9 2 = nI R) {r : Nat} (hr : r < R) (hx : x < nI 0 ∨ nI 2 < x) (hd : 2 ≤ d) (hw : 30 ≤ w) : xv xm L xs d w 109 0 [(0, .ref 28), (1, .int (nI v)), (2, .int (nI r)), (3, .int (x))] [] (xC q ++ (xD (s) (b) ++ g)) (.returned (some (.int (nI 0)))) (xC q ++ (xD (s) (xu b 0 0 (nI 1)) ++ g)) 0 0 := by
  refine xv_m 2 rfl ?_
  refine xv_c0 (r := 99) (nip := 3) (cost := 13) rfl (by omega) (by omega) (m_99t (by omega) hSV hv (hd := by omega) (hw := by omega)) ?_
  refine xv_bf rfl (by decide +kernel) ?_
  refine xv_m 2 rfl ?_
  refine xv_c0 (r := 100) (nip := 7) (cost := 13) rfl (by omega) (by omega) (m_100t (by omega) hSR hr (hd := by omega) (hw := by omega)) ?_
  refine xv_bf rfl (by decide +kernel) ?_
  refine xv_m 3 rfl ?_
  refine xv_c0 (r := 98) (nip := 12) (cost := 14) rfl (by omega) (by omega) (m_98f hx) ?_
  refine xv_bf rfl (by decide +kernel) ?_
  refine xv_m 6 rfl ?_
  refine xv_bt rfl (by decide +kernel) ?_
  refine xv_m 3 rfl ?_
  refine xv_c0 (r := 97) (nip := 40) (cost := 16) rfl (by omega) (by omega) (m_97_1) ?_
  refine xv_bf rfl (by decide +kernel) ?_
  refine xv_m 1 rfl ?_
  exact xv_r rfl
theorem r_6d {V : Nat} (hV : V ≤ 30) (hSV : s 1 7 = nI V) {v : Nat} (hv : v < V){R : Nat} (hR : R ≤ 10) (hSR : s 9 2 = nI R) {r : Nat} (hr : r < R) {k : Nat} (hk : k < 3) (hb : f_by (s 10) r k = false) (hd : 2 ≤ d) (hw : 30 ≤ w) : xv xm L xs d w 109 0 [(0, .ref 28), (1, .int (nI v)), (2, .int (nI r)), (3, .int (nI k))] [] (xC q ++ (xD (s) (b) ++ g)) (.returned (some (.int (nI 0)))) (xC q ++ (xD (s) (xu b 0 0 (nI 2)) ++ g)) 0 0 := by
  refine xv_m 2 rfl ?_
  refine xv_c0 (r := 99) (nip := 3) (cost := 13) rfl (by omega) (by omega) (m_99t (by omega) hSV hv (hd := by omega) (hw := by omega)) ?_
  refine xv_bf rfl (by decide +kernel) ?_
  refine xv_m 2 rfl ?_
  refine xv_c0 (r := 100) (nip := 7) (cost := 13) rfl (by omega) (by omega) (m_100t (by omega) hSR hr (hd := by omega) (hw := by omega)) ?_
  refine xv_bf rfl (by decide +kernel) ?_
  refine xv_m 3 rfl ?_
  refine xv_c0 (r := 98) (nip := 12) (cost := 14) rfl (by omega) (by omega) (m_98t (nI_pos' (by omega)) (nI_le (b := 2) (by omega) (by omega))) ?_
  refine xv_bt rfl (by decide +kernel) ?_
  refine xv_m 5 rfl ?_
  refine xv_bf rfl (by decide +kernel) ?_
  refine xv_m 3 rfl ?_
  refine xv_bt rfl (by decide +kernel) ?_
  refine xv_m 5 rfl ?_
  refine xv_ia (3 * r + k) rfl rfl (by first | rfl | (simp only [xa_c0, pk_mul, nI_add]; done) | (simp only [xa_c0, pk_mul, nI_add]; congr 1; omega)) (by omega) (by omega) ?_
  refine xv_bf rfl (xc_neF (xby_f hb)) ?_
  refine xv_m 4 rfl ?_
  refine xv_c0 (r := 97) (nip := 40) (cost := 16) rfl (by omega) (by omega) (m_97_2) ?_
  refine xv_bf rfl (by decide +kernel) ?_
  refine xv_m 1 rfl ?_
  exact xv_r rfl
def f_dfr (s : Nat → Nat → Int32) (j : Nat) (x y : Int32) : Nat → Nat → Int32 := xu (xu (xu (xu s 13 j x) 14 j y) 15 j (nI 0)) 12 4 (nI (j + 1))
theorem r_8 {V : Nat} (hV : V ≤ 30) (hSV : s 1 7 = nI V) {v : Nat} (hv : v < V) {y : Int32} (hy : y = 0 ∨ y = 1) {D : Nat} (hD : D < 100) (hSD : s 12 4 = nI D) (hd : 2 ≤ d) (hw : 28 ≤ w) : xv xm L xs d w 114 0 [(0, .ref 28), (1, .int (nI v)), (2, .int (y))] [] (xC q ++ (xD (s) (b) ++ g)) (.returned (some (.int (nI D)))) (xC q ++ (xD (f_dfr s D (nI v) y) (xu b 0 0 (nI 0)) ++ g)) 0 0 := by
  refine xv_m 3 rfl ?_
  refine xv_c0 (r := 99) (nip := 4) (cost := 14) rfl (by omega) (by omega) (m_99t (by omega) hSV hv (hd := by omega) (hw := by omega)) ?_
  refine xv_bt rfl (by decide +kernel) ?_
  refine xv_m 4 rfl ?_
  refine xv_bt rfl (xc_neT (by rw [hSD]; exact nI_ne (by omega) (by omega) (by omega))) ?_
  refine xv_m 3 rfl ?_
  refine xv_c0 (r := 97) (nip := 18) (cost := 16) rfl (by omega) (by omega) (m_97_0) ?_
  refine xv_bt rfl (by decide +kernel) ?_
  refine xv_m 5 rfl ?_
  refine xv_ias (D) (xC q ++ (xD (xu s 13 D (nI v)) (xu b 0 0 (nI 0)) ++ g)) rfl rfl hSD (by omega) (by omega) rfl ?_
  refine xv_m 5 rfl ?_
  refine xv_bas (D) (xC q ++ (xD (xu (xu s 13 D (nI v)) 14 D y) (xu b 0 0 (nI 0)) ++ g)) rfl rfl hSD (by omega) (by omega) (xn_b hy) rfl ?_
  refine xv_m 5 rfl ?_
  refine xv_ias (D) (xC q ++ (xD (xu (xu (xu s 13 D (nI v)) 14 D y) 15 D (nI 0)) (xu b 0 0 (nI 0)) ++ g)) rfl rfl hSD (by omega) (by omega) rfl ?_
  refine xv_m 5 rfl ?_
  refine xv_ei (show s 12 4 + nI 1 = nI (D + 1) by rw [hSD, nI_add]) ?_
  refine xv_m 1 (h1 := xC q ++ (xD (f_dfr s D (nI v) y) (xu b 0 0 (nI 0)) ++ g)) rfl ?_
  refine xv_m 4 rfl ?_
  exact xv_rn (by show nI (D + 1) - nI 1 = nI D; exact nI_pred D) rfl
theorem r_8a {p y : Int32} {V : Nat} (hV : V ≤ 30) (hSV : s 1 7 = nI V) (hx : p < 0 ∨ s 1 7 ≤ p) (hd : 2 ≤ d) (hw : 28 ≤ w) : xv xm L xs d w 114 0 [(0, .ref 28), (1, .int (p)), (2, .int (y))] [] (xC q ++ (xD (s) (b) ++ g)) (.returned (some (.int (nI 0)))) (xC q ++ (xD (s) (xu b 0 0 (nI 1)) ++ g)) 0 0 := by
  refine xv_m 3 rfl ?_
  refine xv_c0 (r := 99) (nip := 4) (cost := 14) rfl (by omega) (by omega) (m_99f (V := V) (by omega) hSV hx (hd := by omega) (hw := by omega)) ?_
  refine xv_bf rfl (by decide +kernel) ?_
  refine xv_m 5 rfl ?_
  refine xv_b rfl (fun hc => ?_) (fun hc => ?_)
  · refine xv_m 3 rfl ?_
    refine xv_c0 (r := 97) (nip := 18) (cost := 16) rfl (by omega) (by omega) (m_97_1) ?_
    refine xv_bf rfl (by decide +kernel) ?_
    refine xv_m 1 rfl ?_
    exact xv_r rfl
  · refine xv_m 4 rfl ?_
    refine xv_c0 (r := 97) (nip := 18) (cost := 16) rfl (by omega) (by omega) (m_97_1) ?_
    refine xv_bf rfl (by decide +kernel) ?_
    refine xv_m 1 rfl ?_
    exact xv_r rfl
theorem r_8b {V : Nat} (hV : V ≤ 30) (hSV : s 1 7 = nI V) {v : Nat} (hv : v < V) {y : Int32} (hx : s 12 4 = nI 100) (hd : 2 ≤ d) (hw : 28 ≤ w) : xv xm L xs d w 114 0 [(0, .ref 28), (1, .int (nI v)), (2, .int (y))] [] (xC q ++ (xD (s) (b) ++ g)) (.returned (some (.int (nI 0)))) (xC q ++ (xD (s) (xu b 0 0 (nI 2)) ++ g)) 0 0 := by
  refine xv_m 3 rfl ?_
  refine xv_c0 (r := 99) (nip := 4) (cost := 14) rfl (by omega) (by omega) (m_99t (by omega) hSV hv (hd := by omega) (hw := by omega)) ?_
  refine xv_bt rfl (by decide +kernel) ?_
  refine xv_m 4 rfl ?_
  refine xv_bf rfl (xc_neF hx) ?_
  refine xv_m 4 rfl ?_
  refine xv_c0 (r := 97) (nip := 18) (cost := 16) rfl (by omega) (by omega) (m_97_2) ?_
  refine xv_bf rfl (by decide +kernel) ?_
  refine xv_m 1 rfl ?_
  exact xv_r rfl
theorem l_115 {v : Nat} {D : Nat} (hD : D ≤ 100) (hSD : s 12 4 = nI D) : ∀ n k, k + n = D → xv xm L xs d w 115 27 [(6, .int (nI k)), (5, .int 1), (0, .ref 28), (1, .int (nI v))] [] (xC q ++ (xD (xw s 15 (xfo (f_clr (s 13) (nI v)) (s 15) k)) (b) ++ g)) (.returned (some (.int (1)))) (xC q ++ (xD (xw s 15 (xfo (f_clr (s 13) (nI v)) (s 15) D)) (b) ++ g)) 0 0
  | 0, k, hk => by
    have hk : k = D := hk
    subst hk
    refine xv_m 3 rfl ?_
    refine xv_ei (show (xw s 15 (xfo (f_clr (s 13) (nI v)) (s 15) k)) 12 4 = nI k from hSD) ?_
    refine xv_bt rfl (xc_geT (by omega) (by omega)) ?_
    refine xv_m 1 rfl ?_
    exact xv_rb xn_1 rfl
  | n + 1, k, hk => by
    refine xv_m 3 rfl ?_
    refine xv_ei (show (xw s 15 (xfo (f_clr (s 13) (nI v)) (s 15) k)) 12 4 = nI D from hSD) ?_
    refine xv_bf rfl (xc_geF (by omega) (by omega)) ?_
    refine xv_m 1 rfl ?_
    refine xv_bf rfl (by decide +kernel) ?_
    refine xv_m 3 rfl ?_
    refine xv_ia (_) rfl rfl rfl (by omega) (by omega) ?_
    refine xv_m 1 rfl ?_
    refine xv_b rfl (fun hc => ?_) (fun hc => ?_)
    · refine xv_m 2 rfl ?_
      refine xv_eh (h1 := xC q ++ (xD (xw s 15 (xfo (f_clr (s 13) (nI v)) (s 15) (k + 1))) (b) ++ g)) (congrArg (fun F => xC q ++ (xD (xw s 15 F) b ++ g)) (show (_ : Nat → Int32) = f_clr (s 13) (nI v) k (xfo (f_clr (s 13) (nI v)) (s 15) k) from (f_clr_1 hc).symm)) ?_
      exact xv_l (l_115 hD hSD n (k + 1) (by omega)) ⟨xk k, rfl, rfl, rfl, trivial⟩
    · refine xv_m 3 rfl ?_
      refine xv_ia (_) rfl rfl rfl (by omega) (by omega) ?_
      refine xv_m 1 rfl ?_
      refine xv_b rfl (fun hc2 => ?_) (fun hc2 => ?_)
      · refine xv_m 2 rfl ?_
        refine xv_eh (h1 := xC q ++ (xD (xw s 15 (xfo (f_clr (s 13) (nI v)) (s 15) (k + 1))) (b) ++ g)) (congrArg (fun F => xC q ++ (xD (xw s 15 F) b ++ g)) (show (_ : Nat → Int32) = f_clr (s 13) (nI v) k (xfo (f_clr (s 13) (nI v)) (s 15) k) from (f_clr_2 hc hc2).symm)) ?_
        exact xv_l (l_115 hD hSD n (k + 1) (by omega)) ⟨xk k, rfl, rfl, rfl, trivial⟩
      · refine xv_m 4 rfl ?_
        refine xv_ias (k) (xC q ++ (xD (xu (xw s 15 (xfo (f_clr (s 13) (nI v)) (s 15) k)) 15 k (xa_con 2 0)) (b) ++ g)) rfl rfl (by first | rfl | (simp only [xa_c0, pk_mul, nI_add]; done) | (simp only [xa_c0, pk_mul, nI_add]; congr 1; omega)) (by omega) (by omega) rfl ?_
        refine xv_m 2 rfl ?_
        refine xv_eh (h1 := xC q ++ (xD (xw s 15 (xfo (f_clr (s 13) (nI v)) (s 15) (k + 1))) (b) ++ g)) (congrArg (fun F => xC q ++ (xD (xw s 15 F) b ++ g)) (show (_ : Nat → Int32) = f_clr (s 13) (nI v) k (xfo (f_clr (s 13) (nI v)) (s 15) k) from (f_clr_3 hc hc2).symm)) ?_
        exact xv_l (l_115 hD hSD n (k + 1) (by omega)) ⟨xk k, rfl, rfl, rfl, trivial⟩
theorem r_9 {V : Nat} (hV : V ≤ 30) (hSV : s 1 7 = nI V) {v : Nat} (hv : v < V){D : Nat} (hD : D ≤ 100) (hSD : s 12 4 = nI D) {x l u : Int32} (h0 : l ≤ u) (h1 : l ≤ x) (h2 : x ≤ u) (hd : 2 ≤ d) (hw : 28 ≤ w) : xv xm L xs d w 115 0 [(0, .ref 28), (1, .int (nI v)), (2, .int (x)), (3, .int (l)), (4, .int (u))] [] (xC q ++ (xD (s) (b) ++ g)) (.returned (some (.int (1)))) (xC q ++ (xD (xw s 15 (xfo (f_clr (s 13) (nI v)) (s 15) D)) (xu b 0 0 (nI 0)) ++ g)) 0 0 := by
  refine xv_m 3 rfl ?_
  refine xv_c0 (r := 99) (nip := 4) (cost := 14) rfl (by omega) (by omega) (m_99t (by omega) hSV hv (hd := by omega) (hw := by omega)) ?_
  refine xv_bt rfl (by decide +kernel) ?_
  refine xv_m 3 rfl ?_
  refine xv_bt rfl (xd_leT h0) ?_
  refine xv_m 3 rfl ?_
  refine xv_c0 (r := 97) (nip := 17) (cost := 16) rfl (by omega) (by omega) (m_97_0) ?_
  refine xv_bt rfl (by decide +kernel) ?_
  refine xv_m 3 rfl ?_
  refine xv_c0 (r := 98) (nip := 24) (cost := 14) rfl (by omega) (by omega) (m_98t h1 h2) ?_
  refine xv_m 3 rfl ?_
  refine xv_eh (h1 := xC q ++ (xD (xw s 15 (xfo (f_clr (s 13) (nI v)) (s 15) 0)) (xu b 0 0 (nI 0)) ++ g)) rfl ?_
  exact xv_l (l_115 hD hSD D 0 (Nat.zero_add D)) ⟨rfl, rfl, rfl, rfl, trivial⟩
theorem r_9n {V : Nat} (hV : V ≤ 30) (hSV : s 1 7 = nI V) {v : Nat} (hv : v < V){D : Nat} (hD : D ≤ 100) (hSD : s 12 4 = nI D) {x l u : Int32} (h0 : l ≤ u) (hx : x < l ∨ u < x) (hd : 2 ≤ d) (hw : 28 ≤ w) : xv xm L xs d w 115 0 [(0, .ref 28), (1, .int (nI v)), (2, .int (x)), (3, .int (l)), (4, .int (u))] [] (xC q ++ (xD (s) (b) ++ g)) (.returned (some (.int (0)))) (xC q ++ (xD (s) (xu b 0 0 (nI 0)) ++ g)) 0 0 := by
  refine xv_m 3 rfl ?_
  refine xv_c0 (r := 99) (nip := 4) (cost := 14) rfl (by omega) (by omega) (m_99t (by omega) hSV hv (hd := by omega) (hw := by omega)) ?_
  refine xv_bt rfl (by decide +kernel) ?_
  refine xv_m 3 rfl ?_
  refine xv_bt rfl (xd_leT h0) ?_
  refine xv_m 3 rfl ?_
  refine xv_c0 (r := 97) (nip := 17) (cost := 16) rfl (by omega) (by omega) (m_97_0) ?_
  refine xv_bt rfl (by decide +kernel) ?_
  refine xv_m 3 rfl ?_
  refine xv_c0 (r := 98) (nip := 24) (cost := 14) rfl (by omega) (by omega) (m_98f hx) ?_
  refine xv_m 6 rfl ?_
  refine xv_b rfl (fun hc => ?_) (fun hc => ?_)
  · refine xv_m 1 rfl ?_
    exact xv_rb xn_0 rfl
  · refine xv_m 1 rfl ?_
    refine xv_bt rfl (by decide +kernel) ?_
    refine xv_m 1 rfl ?_
    exact xv_rb xn_0 rfl
theorem r_9a {p x l u : Int32} {V : Nat} (hV : V ≤ 30) (hSV : s 1 7 = nI V) (hx : p < 0 ∨ s 1 7 ≤ p) (hd : 2 ≤ d) (hw : 28 ≤ w) : xv xm L xs d w 115 0 [(0, .ref 28), (1, .int (p)), (2, .int (x)), (3, .int (l)), (4, .int (u))] [] (xC q ++ (xD (s) (b) ++ g)) (.returned (some (.int (0)))) (xC q ++ (xD (s) (xu b 0 0 (nI 1)) ++ g)) 0 0 := by
  refine xv_m 3 rfl ?_
  refine xv_c0 (r := 99) (nip := 4) (cost := 14) rfl (by omega) (by omega) (m_99f (V := V) (by omega) hSV hx (hd := by omega) (hw := by omega)) ?_
  refine xv_bf rfl (by decide +kernel) ?_
  refine xv_m 4 rfl ?_
  refine xv_b rfl (fun hc => ?_) (fun hc => ?_)
  · refine xv_m 3 rfl ?_
    refine xv_c0 (r := 97) (nip := 17) (cost := 16) rfl (by omega) (by omega) (m_97_1) ?_
    refine xv_bf rfl (by decide +kernel) ?_
    refine xv_m 1 rfl ?_
    exact xv_rb xn_0 rfl
  · refine xv_m 4 rfl ?_
    refine xv_c0 (r := 97) (nip := 17) (cost := 16) rfl (by omega) (by omega) (m_97_1) ?_
    refine xv_bf rfl (by decide +kernel) ?_
    refine xv_m 1 rfl ?_
    exact xv_rb xn_0 rfl
theorem r_9b {V : Nat} (hV : V ≤ 30) (hSV : s 1 7 = nI V) {v : Nat} (hv : v < V) {x l u : Int32} (hx : u < l) (hd : 2 ≤ d) (hw : 28 ≤ w) : xv xm L xs d w 115 0 [(0, .ref 28), (1, .int (nI v)), (2, .int (x)), (3, .int (l)), (4, .int (u))] [] (xC q ++ (xD (s) (b) ++ g)) (.returned (some (.int (0)))) (xC q ++ (xD (s) (xu b 0 0 (nI 2)) ++ g)) 0 0 := by
  refine xv_m 3 rfl ?_
  refine xv_c0 (r := 99) (nip := 4) (cost := 14) rfl (by omega) (by omega) (m_99t (by omega) hSV hv (hd := by omega) (hw := by omega)) ?_
  refine xv_bt rfl (by decide +kernel) ?_
  refine xv_m 3 rfl ?_
  refine xv_bf rfl (xd_leF hx) ?_
  refine xv_m 4 rfl ?_
  refine xv_c0 (r := 97) (nip := 17) (cost := 16) rfl (by omega) (by omega) (m_97_2) ?_
  refine xv_bf rfl (by decide +kernel) ?_
  refine xv_m 1 rfl ?_
  exact xv_rb xn_0 rfl
theorem r_10 {V : Nat} (hV : V ≤ 30) (hSV : s 1 7 = nI V) {v : Nat} (hv : v < V) {k : Nat} (hk : k < 5) {x : Int32} (h0 : xa_con 1 1 ≤ x) (h1 : x ≤ nI 99999) (hd : 2 ≤ d) (hw : 28 ≤ w) : xv xm L xs d w 116 0 [(0, .ref 28), (1, .int (nI v)), (2, .int (nI k)), (3, .int (x))] [] (xC q ++ (xD (s) (b) ++ g)) (.returned none) (xC q ++ (xD (xu s 7 (5 * v + k) x) (xu b 0 0 (nI 0)) ++ g)) 0 0 := by
  refine xv_m 3 rfl ?_
  refine xv_c0 (r := 99) (nip := 4) (cost := 14) rfl (by omega) (by omega) (m_99t (by omega) hSV hv (hd := by omega) (hw := by omega)) ?_
  refine xv_bf rfl (by decide +kernel) ?_
  refine xv_m 3 rfl ?_
  refine xv_c0 (r := 98) (nip := 9) (cost := 15) rfl (by omega) (by omega) (m_98t (nI_pos' (by omega)) (nI_le (b := 4) (by omega) (by omega))) ?_
  refine xv_bt rfl (by decide +kernel) ?_
  refine xv_m 4 rfl ?_
  refine xv_c0 (r := 98) (nip := 17) (cost := 16) rfl (by omega) (by omega) (m_98t h0 h1) ?_
  refine xv_bt rfl (by decide +kernel) ?_
  refine xv_m 3 rfl ?_
  refine xv_c0 (r := 97) (nip := 24) (cost := 16) rfl (by omega) (by omega) (m_97_0) ?_
  refine xv_bt rfl (by decide +kernel) ?_
  refine xv_m 8 rfl ?_
  refine xv_ias (5 * v + k) (xC q ++ (xD (xu s 7 (5 * v + k) x) (xu b 0 0 (nI 0)) ++ g)) rfl rfl (by first | rfl | (simp only [xa_c0, pk_mul, nI_add]; done) | (simp only [xa_c0, pk_mul, nI_add]; congr 1; omega)) (by omega) (by omega) rfl ?_
  exact xv_r rfl
theorem r_10a {p q1 x : Int32} {V : Nat} (hV : V ≤ 30) (hSV : s 1 7 = nI V) (hx : p < 0 ∨ s 1 7 ≤ p) (hd : 2 ≤ d) (hw : 28 ≤ w) : xv xm L xs d w 116 0 [(0, .ref 28), (1, .int (p)), (2, .int (q1)), (3, .int (x))] [] (xC q ++ (xD (s) (b) ++ g)) (.returned none) (xC q ++ (xD (s) (xu b 0 0 (nI 1)) ++ g)) 0 0 := by
  refine xv_m 3 rfl ?_
  refine xv_c0 (r := 99) (nip := 4) (cost := 14) rfl (by omega) (by omega) (m_99f (V := V) (by omega) hSV hx (hd := by omega) (hw := by omega)) ?_
  refine xv_bt rfl (by decide +kernel) ?_
  refine xv_m 5 rfl ?_
  refine xv_c0 (r := 98) (nip := 17) (cost := 16) rfl (by omega) (by omega) (m_98) ?_
  refine xv_b rfl (fun hc => ?_) (fun hc => ?_)
  · refine xv_m 3 rfl ?_
    refine xv_c0 (r := 97) (nip := 24) (cost := 16) rfl (by omega) (by omega) (m_97_1) ?_
    refine xv_bf rfl (by decide +kernel) ?_
    exact xv_r rfl
  · refine xv_m 4 rfl ?_
    refine xv_c0 (r := 97) (nip := 24) (cost := 16) rfl (by omega) (by omega) (m_97_1) ?_
    refine xv_bf rfl (by decide +kernel) ?_
    exact xv_r rfl
theorem r_10b {V : Nat} (hV : V ≤ 30) (hSV : s 1 7 = nI V) {v : Nat} (hv : v < V) {q1 x : Int32} (hx : q1 < nI 0 ∨ nI 4 < q1) (hd : 2 ≤ d) (hw : 28 ≤ w) : xv xm L xs d w 116 0 [(0, .ref 28), (1, .int (nI v)), (2, .int (q1)), (3, .int (x))] [] (xC q ++ (xD (s) (b) ++ g)) (.returned none) (xC q ++ (xD (s) (xu b 0 0 (nI 1)) ++ g)) 0 0 := by
  refine xv_m 3 rfl ?_
  refine xv_c0 (r := 99) (nip := 4) (cost := 14) rfl (by omega) (by omega) (m_99t (by omega) hSV hv (hd := by omega) (hw := by omega)) ?_
  refine xv_bf rfl (by decide +kernel) ?_
  refine xv_m 3 rfl ?_
  refine xv_c0 (r := 98) (nip := 9) (cost := 15) rfl (by omega) (by omega) (m_98f hx) ?_
  refine xv_bf rfl (by decide +kernel) ?_
  refine xv_m 5 rfl ?_
  refine xv_c0 (r := 98) (nip := 17) (cost := 16) rfl (by omega) (by omega) (m_98) ?_
  refine xv_b rfl (fun hc => ?_) (fun hc => ?_)
  · refine xv_m 3 rfl ?_
    refine xv_c0 (r := 97) (nip := 24) (cost := 16) rfl (by omega) (by omega) (m_97_1) ?_
    refine xv_bf rfl (by decide +kernel) ?_
    exact xv_r rfl
  · refine xv_m 4 rfl ?_
    refine xv_c0 (r := 97) (nip := 24) (cost := 16) rfl (by omega) (by omega) (m_97_1) ?_
    refine xv_bf rfl (by decide +kernel) ?_
    exact xv_r rfl
theorem r_10c {V : Nat} (hV : V ≤ 30) (hSV : s 1 7 = nI V) {v : Nat} (hv : v < V) {k : Nat} (hk : k < 5) {x : Int32} (hx : x < xa_con 1 1 ∨ nI 99999 < x) (hd : 2 ≤ d) (hw : 28 ≤ w) : xv xm L xs d w 116 0 [(0, .ref 28), (1, .int (nI v)), (2, .int (nI k)), (3, .int (x))] [] (xC q ++ (xD (s) (b) ++ g)) (.returned none) (xC q ++ (xD (s) (xu b 0 0 (nI 2)) ++ g)) 0 0 := by
  refine xv_m 3 rfl ?_
  refine xv_c0 (r := 99) (nip := 4) (cost := 14) rfl (by omega) (by omega) (m_99t (by omega) hSV hv (hd := by omega) (hw := by omega)) ?_
  refine xv_bf rfl (by decide +kernel) ?_
  refine xv_m 3 rfl ?_
  refine xv_c0 (r := 98) (nip := 9) (cost := 15) rfl (by omega) (by omega) (m_98t (nI_pos' (by omega)) (nI_le (b := 4) (by omega) (by omega))) ?_
  refine xv_bt rfl (by decide +kernel) ?_
  refine xv_m 4 rfl ?_
  refine xv_c0 (r := 98) (nip := 17) (cost := 16) rfl (by omega) (by omega) (m_98f hx) ?_
  refine xv_bf rfl (by decide +kernel) ?_
  refine xv_m 4 rfl ?_
  refine xv_c0 (r := 97) (nip := 24) (cost := 16) rfl (by omega) (by omega) (m_97_2) ?_
  refine xv_bf rfl (by decide +kernel) ?_
  exact xv_r rfl
theorem r_14 {V : Nat} (hV : V ≤ 30) (hSV : s 1 7 = nI V) {v : Nat} (hv : v < V) {k : Nat} (hk : k < 100) {x : Int32} (h0 : nI 0 ≤ x) (h1 : x ≤ nI 99999) (hd : 2 ≤ d) (hw : 28 ≤ w) : xv xm L xs d w 122 0 [(0, .ref 28), (1, .int (nI v)), (2, .int (nI k)), (3, .int (x))] [] (xC q ++ (xD (s) (b) ++ g)) (.returned none) (xC q ++ (xD (xu s 8 (100 * v + k) x) (xu b 0 0 (nI 0)) ++ g)) 0 0 := by
  refine xv_m 3 rfl ?_
  refine xv_c0 (r := 99) (nip := 4) (cost := 14) rfl (by omega) (by omega) (m_99t (by omega) hSV hv (hd := by omega) (hw := by omega)) ?_
  refine xv_bf rfl (by decide +kernel) ?_
  refine xv_m 3 rfl ?_
  refine xv_c0 (r := 98) (nip := 9) (cost := 15) rfl (by omega) (by omega) (m_98t (nI_pos' (by omega)) (nI_le (b := 99) (by omega) (by omega))) ?_
  refine xv_bt rfl (by decide +kernel) ?_
  refine xv_m 4 rfl ?_
  refine xv_c0 (r := 98) (nip := 17) (cost := 16) rfl (by omega) (by omega) (m_98t h0 h1) ?_
  refine xv_bt rfl (by decide +kernel) ?_
  refine xv_m 3 rfl ?_
  refine xv_c0 (r := 97) (nip := 24) (cost := 16) rfl (by omega) (by omega) (m_97_0) ?_
  refine xv_bt rfl (by decide +kernel) ?_
  refine xv_m 8 rfl ?_
  refine xv_ias (100 * v + k) (xC q ++ (xD (xu s 8 (100 * v + k) x) (xu b 0 0 (nI 0)) ++ g)) rfl rfl (by first | rfl | (simp only [xa_c0, pk_mul, nI_add]; done) | (simp only [xa_c0, pk_mul, nI_add]; congr 1; omega)) (by omega) (by omega) rfl ?_
  exact xv_r rfl
theorem r_14a {p q1 x : Int32} {V : Nat} (hV : V ≤ 30) (hSV : s 1 7 = nI V) (hx : p < 0 ∨ s 1 7 ≤ p) (hd : 2 ≤ d) (hw : 28 ≤ w) : xv xm L xs d w 122 0 [(0, .ref 28), (1, .int (p)), (2, .int (q1)), (3, .int (x))] [] (xC q ++ (xD (s) (b) ++ g)) (.returned none) (xC q ++ (xD (s) (xu b 0 0 (nI 1)) ++ g)) 0 0 := by
  refine xv_m 3 rfl ?_
  refine xv_c0 (r := 99) (nip := 4) (cost := 14) rfl (by omega) (by omega) (m_99f (V := V) (by omega) hSV hx (hd := by omega) (hw := by omega)) ?_
  refine xv_bt rfl (by decide +kernel) ?_
  refine xv_m 5 rfl ?_
  refine xv_c0 (r := 98) (nip := 17) (cost := 16) rfl (by omega) (by omega) (m_98) ?_
  refine xv_b rfl (fun hc => ?_) (fun hc => ?_)
  · refine xv_m 3 rfl ?_
    refine xv_c0 (r := 97) (nip := 24) (cost := 16) rfl (by omega) (by omega) (m_97_1) ?_
    refine xv_bf rfl (by decide +kernel) ?_
    exact xv_r rfl
  · refine xv_m 4 rfl ?_
    refine xv_c0 (r := 97) (nip := 24) (cost := 16) rfl (by omega) (by omega) (m_97_1) ?_
    refine xv_bf rfl (by decide +kernel) ?_
    exact xv_r rfl
theorem r_14b {V : Nat} (hV : V ≤ 30) (hSV : s 1 7 = nI V) {v : Nat} (hv : v < V) {q1 x : Int32} (hx : q1 < nI 0 ∨ nI 99 < q1) (hd : 2 ≤ d) (hw : 28 ≤ w) : xv xm L xs d w 122 0 [(0, .ref 28), (1, .int (nI v)), (2, .int (q1)), (3, .int (x))] [] (xC q ++ (xD (s) (b) ++ g)) (.returned none) (xC q ++ (xD (s) (xu b 0 0 (nI 1)) ++ g)) 0 0 := by
  refine xv_m 3 rfl ?_
  refine xv_c0 (r := 99) (nip := 4) (cost := 14) rfl (by omega) (by omega) (m_99t (by omega) hSV hv (hd := by omega) (hw := by omega)) ?_
  refine xv_bf rfl (by decide +kernel) ?_
  refine xv_m 3 rfl ?_
  refine xv_c0 (r := 98) (nip := 9) (cost := 15) rfl (by omega) (by omega) (m_98f hx) ?_
  refine xv_bf rfl (by decide +kernel) ?_
  refine xv_m 5 rfl ?_
  refine xv_c0 (r := 98) (nip := 17) (cost := 16) rfl (by omega) (by omega) (m_98) ?_
  refine xv_b rfl (fun hc => ?_) (fun hc => ?_)
  · refine xv_m 3 rfl ?_
    refine xv_c0 (r := 97) (nip := 24) (cost := 16) rfl (by omega) (by omega) (m_97_1) ?_
    refine xv_bf rfl (by decide +kernel) ?_
    exact xv_r rfl
  · refine xv_m 4 rfl ?_
    refine xv_c0 (r := 97) (nip := 24) (cost := 16) rfl (by omega) (by omega) (m_97_1) ?_
    refine xv_bf rfl (by decide +kernel) ?_
    exact xv_r rfl
theorem r_14c {V : Nat} (hV : V ≤ 30) (hSV : s 1 7 = nI V) {v : Nat} (hv : v < V) {k : Nat} (hk : k < 100) {x : Int32} (hx : x < nI 0 ∨ nI 99999 < x) (hd : 2 ≤ d) (hw : 28 ≤ w) : xv xm L xs d w 122 0 [(0, .ref 28), (1, .int (nI v)), (2, .int (nI k)), (3, .int (x))] [] (xC q ++ (xD (s) (b) ++ g)) (.returned none) (xC q ++ (xD (s) (xu b 0 0 (nI 2)) ++ g)) 0 0 := by
  refine xv_m 3 rfl ?_
  refine xv_c0 (r := 99) (nip := 4) (cost := 14) rfl (by omega) (by omega) (m_99t (by omega) hSV hv (hd := by omega) (hw := by omega)) ?_
  refine xv_bf rfl (by decide +kernel) ?_
  refine xv_m 3 rfl ?_
  refine xv_c0 (r := 98) (nip := 9) (cost := 15) rfl (by omega) (by omega) (m_98t (nI_pos' (by omega)) (nI_le (b := 99) (by omega) (by omega))) ?_
  refine xv_bt rfl (by decide +kernel) ?_
  refine xv_m 4 rfl ?_
  refine xv_c0 (r := 98) (nip := 17) (cost := 16) rfl (by omega) (by omega) (m_98f hx) ?_
  refine xv_bf rfl (by decide +kernel) ?_
  refine xv_m 4 rfl ?_
  refine xv_c0 (r := 97) (nip := 24) (cost := 16) rfl (by omega) (by omega) (m_97_2) ?_
  refine xv_bf rfl (by decide +kernel) ?_
  exact xv_r rfl
def f_ro (vh dn : Nat → Int32) (x : Int32) (k : Nat) : Bool := !(xa_cmp .ne (vh k) x) && !(xa_cmp .ne (dn k) 0)
def f_rol (p : Nat → Bool) : Nat → Nat → Option Nat → Option Nat
  | 0, _, a => a
  | n + 1, k, a => f_rol p n (k + 1) (bif p k then some k else a)
theorem f_rol_t {p : Nat → Bool} {n k : Nat} {a : Option Nat} (h : p k = true) : f_rol p (n + 1) k a = f_rol p n (k + 1) (some k) := by show f_rol p n (k + 1) (bif p k then some k else a) = _; rw [h]; rfl
theorem f_rol_f {p : Nat → Bool} {n k : Nat} {a : Option Nat} (h : p k = false) : f_rol p (n + 1) k a = f_rol p n (k + 1) a := by show f_rol p n (k + 1) (bif p k then some k else a) = _; rw [h]; rfl
theorem l_117 {O : Nat} (hO : O ≤ 60) (hSO : s 17 5 = nI O) {x : Int32} : ∀ n k a, k + n = O → xv xm L xs d w 117 4 [(3, .int (nI k)), (2, .int (xO a)), (0, .ref 28), (1, .int x)] [] (xC q ++ (xD (s) (b) ++ g)) (.returned (some (.int (xO (f_rol (f_ro (s 18) (b 1) x) n k a))))) (xC q ++ (xD (s) (b) ++ g)) 0 0
  | 0, k, a, hk => by
    have hk : k = O := hk
    subst hk
    refine xv_m 3 rfl ?_
    refine xv_ei hSO ?_
    refine xv_bt rfl (xc_geT (by omega) (by omega)) ?_
    refine xv_m 1 rfl ?_
    exact xv_r rfl
  | n + 1, k, a, hk => by
    refine xv_m 3 rfl ?_
    refine xv_ei hSO ?_
    refine xv_bf rfl (xc_geF (by omega) (by omega)) ?_
    refine xv_m 3 rfl ?_
    refine xv_ia (_) rfl rfl rfl (by omega) (by omega) ?_
    refine xv_m 1 rfl ?_
    refine xv_b rfl (fun hc => ?_) (fun hc => ?_)
    · refine xv_m 2 rfl ?_
      rw [f_rol_f (show (f_ro (s 18) (b 1) x) k = false by unfold f_ro; rw [hc]; rfl)]
      exact xv_l (l_117 hO hSO n (k + 1) a (by omega)) ⟨xk k, rfl, rfl, rfl, trivial⟩
    · refine xv_m 3 rfl ?_
      refine xv_ba (_) rfl rfl rfl (by omega) (by omega) ?_
      refine xv_b rfl (fun hc2 => ?_) (fun hc2 => ?_)
      · refine xv_m 2 rfl ?_
        rw [f_rol_f (show (f_ro (s 18) (b 1) x) k = false by unfold f_ro; rw [hc, hc2]; rfl)]
        exact xv_l (l_117 hO hSO n (k + 1) a (by omega)) ⟨xk k, rfl, rfl, rfl, trivial⟩
      · refine xv_m 4 rfl ?_
        rw [f_rol_t (show (f_ro (s 18) (b 1) x) k = true by unfold f_ro; rw [hc, hc2]; rfl)]
        exact xv_l (l_117 hO hSO n (k + 1) (some k) (by omega)) ⟨xk k, rfl, rfl, rfl, trivial⟩
theorem m_117 {O : Nat} (hO : O ≤ 60) (hSO : s 17 5 = nI O) {x : Int32} : xv xm L xs d w 117 0 [(0, .ref 28), (1, .int (x))] [] (xC q ++ (xD (s) (b) ++ g)) (.returned (some (.int (xO (f_rol (f_ro (s 18) (b 1) x) O 0 none))))) (xC q ++ (xD (s) (b) ++ g)) 0 0 := by
  refine xv_m 4 rfl ?_
  exact xv_l (l_117 hO hSO O 0 none (Nat.zero_add O)) ⟨rfl, rfl, rfl, rfl, trivial⟩
end XRF

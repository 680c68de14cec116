section XSR
variable {L : Nat} {xs : Nat → Int32} {d w : Nat} {s : Nat → Nat → Int32} {g : List va_E}
theorem m_23 {h : List va_E} {x y : Int32} (h0 : 0 ≤ x) (h1 : x < y) (hd : 6 ≤ d) (hw : 100 ≤ w) : xv xm L xs d w 23 0 [(0, .int (x)), (1, .int (y))] [] h (.returned none) (h) 0 0 := by
  refine xv_m 1 rfl ?_
  refine xv_bf rfl (xd_ltF h0) ?_
  refine xv_m 2 rfl ?_
  refine xv_bt rfl (xd_ltT h1) ?_
  exact xv_r rfl
theorem m_23t {h : List va_E} {x y : Int32} (hx : x < 0 ∨ y ≤ x) (hd : 6 ≤ d) (hw : 100 ≤ w) : xv xm L xs d w 23 0 [(0, .int (x)), (1, .int (y))] [] h (.threw (h.length + 1)) (h ++ [.inr (7, [])]) 1 6 := by
  by_cases h0 : x < 0
  · refine xv_m 1 rfl ?_
    refine xv_bt rfl (xd_ltT h0) ?_
    exact xv_t rfl (by omega) (by omega)
  · refine xv_m 1 rfl ?_
    refine xv_bf rfl (xd_ltF (xi_le h0)) ?_
    refine xv_m 2 rfl ?_
    refine xv_bf rfl (xd_ltF (hx.resolve_left h0)) ?_
    exact xv_t rfl (by omega) (by omega)
theorem m_24 {h : List va_E} {x y z : Int32} (h0 : y ≤ x) (h1 : x ≤ z) (hd : 6 ≤ d) (hw : 100 ≤ w) : xv xm L xs d w 24 0 [(0, .int (x)), (1, .int (y)), (2, .int (z))] [] h (.returned none) (h) 0 0 := by
  refine xv_m 2 rfl ?_
  refine xv_bf rfl (xd_ltF h0) ?_
  refine xv_m 2 rfl ?_
  refine xv_bt rfl (xd_leT h1) ?_
  exact xv_r rfl
theorem m_24t {h : List va_E} {x y z : Int32} (hx : x < y ∨ z < x) (hd : 6 ≤ d) (hw : 100 ≤ w) : xv xm L xs d w 24 0 [(0, .int (x)), (1, .int (y)), (2, .int (z))] [] h (.threw (h.length + 1)) (h ++ [.inr (8, [])]) 1 6 := by
  by_cases h0 : x < y
  · refine xv_m 2 rfl ?_
    refine xv_bt rfl (xd_ltT h0) ?_
    exact xv_t rfl (by omega) (by omega)
  · refine xv_m 2 rfl ?_
    refine xv_bf rfl (xd_ltF (xi_le h0)) ?_
    refine xv_m 2 rfl ?_
    refine xv_bf rfl (xd_leF (hx.resolve_left h0)) ?_
    exact xv_t rfl (by omega) (by omega)
theorem m_25 {h : List va_E} {x y : Int32} (h0 : x < y) (hd : 6 ≤ d) (hw : 100 ≤ w) : xv xm L xs d w 25 0 [(0, .int (x)), (1, .int (y))] [] h (.returned none) (h) 0 0 := by
  refine xv_m 2 rfl ?_
  refine xv_bt rfl (xd_ltT h0) ?_
  exact xv_r rfl
theorem m_25t {h : List va_E} {x y : Int32} (h0 : y ≤ x) (hd : 6 ≤ d) (hw : 100 ≤ w) : xv xm L xs d w 25 0 [(0, .int (x)), (1, .int (y))] [] h (.threw (h.length + 1)) (h ++ [.inr (10, [])]) 1 6 := by
  refine xv_m 2 rfl ?_
  refine xv_bf rfl (xd_ltF h0) ?_
  exact xv_t rfl (by omega) (by omega)
theorem m_26 (hz : xz (s 19)) {j : Nat} (hj : j < 60) (h1 : s 19 j = 1) (hd : 6 ≤ d) (hw : 100 ≤ w) : xv xm L xs d w 26 0 [(0, .ref 1), (1, .int (nI j))] [] (xC s ++ g) (.returned none) (xC s ++ g) 0 0 := by
  refine xv_m 3 rfl ?_
  refine xv_c0 (r := 79) (nip := 4) (cost := 13) rfl (by omega) (by omega) (m_79 hz hj) ?_
  refine xv_bt rfl (xc_neT (by rw [h1]; decide)) ?_
  exact xv_r rfl
theorem m_26t (hz : xz (s 19)) {j : Nat} (hj : j < 60) (h1 : s 19 j = 0) (hd : 6 ≤ d) (hw : 100 ≤ w) : xv xm L xs d w 26 0 [(0, .ref 1), (1, .int (nI j))] [] (xC s ++ g) (.threw ((xC s ++ g).length + 1)) ((xC s ++ g) ++ [.inr (9, [])]) 1 6 := by
  refine xv_m 3 rfl ?_
  refine xv_c0 (r := 79) (nip := 4) (cost := 13) rfl (by omega) (by omega) (m_79 hz hj) ?_
  refine xv_bf rfl (xc_neF h1) ?_
  exact xv_t rfl (by omega) (by omega)
def f_now (s : Nat → Nat → Int32) (v k : Nat) : Int32 := match k with
  | 0 => s 4 v
  | 1 => s 5 v
  | _ => s 0 5
theorem m_27_0 {v : Nat} (hv : v < 30) (hd : 1 ≤ d) (hw : 13 ≤ w) : xv xm L xs d w 27 0 [(0, .ref 1), (1, .int (nI v)), (2, .int (nI 0))] [] (xC s ++ g) (.returned (some (.int (s 4 v)))) (xC s ++ g) 0 0 := by
  refine xv_m 2 rfl ?_
  refine xv_bt rfl (by decide +kernel) ?_
  refine xv_m 2 rfl ?_
  refine xv_bt rfl (by decide +kernel) ?_
  refine xv_m 3 rfl ?_
  refine xv_c0 (r := 45) (nip := 18) (cost := 13) rfl (by omega) (by omega) (m_45 hv) ?_
  exact xv_r rfl
theorem m_27_1 {v : Nat} (hv : v < 30) (hd : 1 ≤ d) (hw : 13 ≤ w) : xv xm L xs d w 27 0 [(0, .ref 1), (1, .int (nI v)), (2, .int (nI 1))] [] (xC s ++ g) (.returned (some (.int (s 5 v)))) (xC s ++ g) 0 0 := by
  refine xv_m 2 rfl ?_
  refine xv_bt rfl (by decide +kernel) ?_
  refine xv_m 2 rfl ?_
  refine xv_bf rfl (by decide +kernel) ?_
  refine xv_m 3 rfl ?_
  refine xv_c0 (r := 46) (nip := 13) (cost := 13) rfl (by omega) (by omega) (m_46 hv) ?_
  refine xv_m 1 rfl ?_
  exact xv_r rfl
theorem m_27_2 {v : Nat} (hd : 1 ≤ d) (hw : 13 ≤ w) : xv xm L xs d w 27 0 [(0, .ref 1), (1, .int (nI v)), (2, .int (nI 2))] [] (xC s ++ g) (.returned (some (.int (s 0 5)))) (xC s ++ g) 0 0 := by
  refine xv_m 2 rfl ?_
  refine xv_bf rfl (by decide +kernel) ?_
  refine xv_m 2 rfl ?_
  exact xv_r rfl
theorem m_27 : ∀ {v k : Nat}, v < 30 → k < 3 → 1 ≤ d → 13 ≤ w → xv xm L xs d w 27 0 [(0, .ref 1), (1, .int (nI v)), (2, .int (nI k))] [] (xC s ++ g) (.returned (some (.int (f_now s v k)))) (xC s ++ g) 0 0
  | _, 0, hv, _, hd, hw => m_27_0 hv hd hw
  | _, 1, hv, _, hd, hw => m_27_1 hv hd hw
  | _, 2, hv, _, hd, hw => m_27_2 hd hw
  | _, _ + 3, _, hk, _, _ => absurd hk (by omega)
def f_left (s : Nat → Nat → Int32) (v r k : Nat) : Int32 := s 10 (3 * r + k) - (f_now s v k - s 11 (30 * v + 3 * r + k))
theorem m_27x {v k : Nat} (hv : v < 30) (hk : k < 3) (hd : 1 ≤ d) (hw : 13 ≤ w) : xv xm L xs d w 27 0 [(0, .ref 1), (1, .int (nI v)), (2, .int (nI k))] [] (xC s ++ g) (.returned (some (.int (f_now s v k)))) (xC s ++ g) 0 0 := m_27 hv hk hd hw
theorem m_28 {v r k : Nat} (hv : v < 30) (hr : r < 10) (hk : k < 3) (hd : 2 ≤ d) (hw : 27 ≤ w) : xv xm L xs d w 28 0 [(0, .ref 1), (1, .int (nI v)), (2, .int (nI r)), (3, .int (nI k))] [] (xC s ++ g) (.returned (some (.int (f_left s v r k)))) (xC s ++ g) 0 0 := by
  refine xv_m 3 rfl ?_
  refine xv_c0 (r := 27) (nip := 4) (cost := 14) rfl (by omega) (by omega) (m_27x hv hk (hd := by omega) (hw := by omega)) ?_
  refine xv_m 5 rfl ?_
  refine xv_c0 (r := 60) (nip := 10) (cost := 16) rfl (by omega) (by omega) (m_60 hv hr hk) ?_
  refine xv_m 6 rfl ?_
  refine xv_c0 (r := 58) (nip := 17) (cost := 14) rfl (by omega) (by omega) (m_58 hr hk) ?_
  refine xv_m 2 rfl ?_
  exact xv_r rfl
def f_blw (a b c e : Int32) : Bool := !(xa_cmp .ge (lg_cmp (a.toInt64 * e.toInt64) (c.toInt64 * b.toInt64)) 0)
theorem m_30 {h : List va_E} {a b c e : Int32} : xv xm L xs d w 30 0 [(0, .int (a)), (1, .int (b)), (2, .int (c)), (3, .int (e))] [] h (.returned (some (.int (xB (f_blw a b c e))))) h 0 0 := by
  refine xv_m 11 rfl ?_
  refine xv_b rfl (fun hc => ?_) (fun hc => ?_)
  · rw [show f_blw a b c e = false by unfold f_blw; rw [hc]; rfl]
    refine xv_m 1 rfl ?_
    exact xv_rb xn_0 rfl
  · rw [show f_blw a b c e = true by unfold f_blw; rw [hc]; rfl]
    refine xv_m 2 rfl ?_
    exact xv_rb xn_1 rfl
def f_lc (s : Nat → Nat → Int32) (v r k l : Nat) : Bool := f_by (s 10) r k && (!(f_by (s 10) r l) || f_blw (f_left s v r k) (s 10 (3 * r + k)) (f_left s v r l) (s 10 (3 * r + l)))
def f_lst (s : Nat → Nat → Int32) (v r : Nat) : Nat → Nat → Nat → Nat
  | 0, _, l => l
  | n + 1, k, l => f_lst s v r n (k + 1) (bif f_lc s v r k l then k else l)
theorem f_lst_t {v r n k l : Nat} (h : f_lc s v r k l = true) : f_lst s v r (n + 1) k l = f_lst s v r n (k + 1) k := by show f_lst s v r n (k + 1) (bif f_lc s v r k l then k else l) = _; rw [h]; rfl
theorem f_lst_f {v r n k l : Nat} (h : f_lc s v r k l = false) : f_lst s v r (n + 1) k l = f_lst s v r n (k + 1) l := by show f_lst s v r n (k + 1) (bif f_lc s v r k l then k else l) = _; rw [h]; rfl
theorem xB_t {b : Bool} (h : xa_cmp .eq (xB b) 0 = false) : b = true := by
  cases b
  · exact absurd h (by decide)
  · rfl
theorem xB_f {b : Bool} (h : xa_cmp .eq (xB b) 0 = true) : b = false := by
  cases b
  · rfl
  · exact absurd h (by decide)
theorem xB_nt {b : Bool} (h : xa_cmp .ne (xB b) 0 = true) : b = true := by
  cases b
  · exact absurd h (by decide)
  · rfl
theorem xB_nf {b : Bool} (h : xa_cmp .ne (xB b) 0 = false) : b = false := by
  cases b
  · rfl
  · exact absurd h (by decide)
theorem l_29 {v r : Nat} (hv : v < 30) (hr : r < 10) (hd : 3 ≤ d) (hw : 45 ≤ w) : ∀ n k l, k + n = 3 → l < 3 → xv xm L xs d w 29 4 [(4, .int (nI k)), (3, .int (nI l)), (0, .ref 1), (1, .int (nI v)), (2, .int (nI r))] [] (xC s ++ g) (.returned (some (.int (nI (f_lst s v r n k l))))) (xC s ++ g) 0 0
  | 0, k, l, hk, hl => by
    refine xv_m 2 rfl ?_
    refine xv_bt rfl (xc_gtT (by omega) (by omega)) ?_
    refine xv_m 1 rfl ?_
    exact xv_r rfl
  | n + 1, k, l, hk, hl => by
    have hk3 : k < 3 := by omega
    refine xv_m 2 rfl ?_
    refine xv_bf rfl (xc_gtF (by omega) (by omega)) ?_
    refine xv_m 4 rfl ?_
    refine xv_c0 (r := 59) (nip := 12) (cost := 14) rfl (by omega) (by omega) (m_59 (s := s) hr hk3 (hd := by omega) (hw := by omega)) ?_
    refine xv_b rfl (fun hc => ?_) (fun hc => ?_)
    · rw [f_lst_f (show f_lc s v r k l = false by unfold f_lc; rw [xB_f hc]; rfl)]
      refine xv_m 2 rfl ?_
      exact xv_l (l_29 hv hr hd hw n (k + 1) l (by omega) (by omega)) ⟨xk k, rfl, rfl, rfl, rfl, trivial⟩
    · refine xv_m 4 rfl ?_
      refine xv_c0 (r := 59) (nip := 18) (cost := 14) rfl (by omega) (by omega) (m_59 (s := s) hr hl (hd := by omega) (hw := by omega)) ?_
      refine xv_b rfl (fun hc2 => ?_) (fun hc2 => ?_)
      · rw [f_lst_t (show f_lc s v r k l = true by unfold f_lc; rw [xB_t hc, xB_f hc2]; rfl)]
        refine xv_m 4 rfl ?_
        exact xv_l (l_29 hv hr hd hw n (k + 1) k (by omega) (by omega)) ⟨xk k, rfl, rfl, rfl, rfl, trivial⟩
      · refine xv_m 4 rfl ?_
        refine xv_c0 (r := 28) (nip := 24) (cost := 16) rfl (by omega) (by omega) (m_28 hv hr hk3 (hd := by omega) (hw := by omega)) ?_
        refine xv_m 4 rfl ?_
        refine xv_c0 (r := 58) (nip := 29) (cost := 15) rfl (by omega) (by omega) (m_58 hr hk3) ?_
        refine xv_m 4 rfl ?_
        refine xv_c0 (r := 28) (nip := 34) (cost := 18) rfl (by omega) (by omega) (m_28 hv hr hl (hd := by omega) (hw := by omega)) ?_
        refine xv_m 4 rfl ?_
        refine xv_c0 (r := 58) (nip := 39) (cost := 17) rfl (by omega) (by omega) (m_58 hr hl) ?_
        refine xv_c0 (r := 30) (nip := 40) (cost := 15) rfl (by omega) (by omega) (m_30) ?_
        refine xv_b rfl (fun hc3 => ?_) (fun hc3 => ?_)
        · rw [f_lst_f (show f_lc s v r k l = false by unfold f_lc; rw [xB_t hc, xB_t hc2, xB_f hc3]; rfl)]
          refine xv_m 2 rfl ?_
          exact xv_l (l_29 hv hr hd hw n (k + 1) l (by omega) (by omega)) ⟨xk k, rfl, rfl, rfl, rfl, trivial⟩
        · rw [f_lst_t (show f_lc s v r k l = true by unfold f_lc; rw [xB_t hc, xB_t hc2, xB_t hc3]; rfl)]
          refine xv_m 4 rfl ?_
          exact xv_l (l_29 hv hr hd hw n (k + 1) k (by omega) (by omega)) ⟨xk k, rfl, rfl, rfl, rfl, trivial⟩
def f_least (s : Nat → Nat → Int32) (v r : Nat) : Nat := f_lst s v r 2 1 0
theorem m_29 {v r : Nat} (hv : v < 30) (hr : r < 10) (hd : 3 ≤ d) (hw : 45 ≤ w) : xv xm L xs d w 29 0 [(0, .ref 1), (1, .int (nI v)), (2, .int (nI r))] [] (xC s ++ g) (.returned (some (.int (nI (f_least s v r))))) (xC s ++ g) 0 0 := by
  refine xv_m 4 rfl ?_
  exact l_29 hv hr hd hw 2 1 0 rfl (by omega)
theorem m_32 (hz : xz (s 20)) {j r : Nat} (hj : j < 60) (hr : r < 10) (h1 : s 20 (10 * j + r) = 0) (hd : 6 ≤ d) (hw : 100 ≤ w) : xv xm L xs d w 32 0 [(0, .ref 1), (1, .int (nI j)), (2, .int (nI r))] [] (xC s ++ g) (.returned none) (xC (xu (xu s 20 (10 * j + r) 1) 21 j (s 21 j + nI 1)) ++ g) 0 0 := by
  refine xv_m 4 rfl ?_
  refine xv_c0 (r := 82) (nip := 5) (cost := 14) rfl (by omega) (by omega) (m_82 hz hj hr) ?_
  refine xv_bt rfl (xc_eqT h1) ?_
  refine xv_m 4 rfl ?_
  refine xv_c0 (r := 83) (nip := 12) (cost := 14) rfl (by omega) (by omega) (m_83 hj hr) ?_
  exact xv_r rfl
theorem m_32t (hz : xz (s 20)) {j r : Nat} (hj : j < 60) (hr : r < 10) (h1 : s 20 (10 * j + r) = 1) (hd : 6 ≤ d) (hw : 100 ≤ w) : xv xm L xs d w 32 0 [(0, .ref 1), (1, .int (nI j)), (2, .int (nI r))] [] (xC s ++ g) (.threw ((xC s ++ g).length + 1)) ((xC s ++ g) ++ [.inr (9, [])]) 1 6 := by
  refine xv_m 4 rfl ?_
  refine xv_c0 (r := 82) (nip := 5) (cost := 14) rfl (by omega) (by omega) (m_82 hz hj hr) ?_
  refine xv_bf rfl (xc_eqF (by rw [h1]; decide)) ?_
  exact xv_t rfl (by omega) (by omega)
theorem m_33 {j k : Nat} (hj : j < 60) (hk : k < 100) (h1 : s 13 k = s 18 j) (h2 : s 15 k = 0) (h3 : ¬ s 16 k = nI j) (hd : 6 ≤ d) (hw : 100 ≤ w) : xv xm L xs d w 33 0 [(0, .ref 1), (1, .int (nI j)), (2, .int (nI k))] [] (xC s ++ g) (.returned none) (xC (xu (xu s 16 k (nI j)) 21 j (s 21 j + nI 1)) ++ g) 0 0 := by
  refine xv_m 3 rfl ?_
  refine xv_c0 (r := 65) (nip := 4) (cost := 13) rfl (by omega) (by omega) (m_65 hk) ?_
  refine xv_m 3 rfl ?_
  refine xv_c0 (r := 78) (nip := 8) (cost := 14) rfl (by omega) (by omega) (m_78 hj) ?_
  refine xv_bt rfl (xc_eqT h1) ?_
  refine xv_m 3 rfl ?_
  refine xv_c0 (r := 67) (nip := 14) (cost := 13) rfl (by omega) (by omega) (m_67 hk) ?_
  refine xv_bt rfl (xc_eqT h2) ?_
  refine xv_m 3 rfl ?_
  refine xv_c0 (r := 68) (nip := 20) (cost := 13) rfl (by omega) (by omega) (m_68 hk) ?_
  refine xv_m 1 rfl ?_
  refine xv_bt rfl (xc_neT h3) ?_
  refine xv_m 4 rfl ?_
  refine xv_c0 (r := 69) (nip := 28) (cost := 14) rfl (by omega) (by omega) (m_69 hk) ?_
  refine xv_m 3 rfl ?_
  refine xv_c0 (r := 84) (nip := 32) (cost := 13) rfl (by omega) (by omega) (m_84 (s := xu s 16 k (nI j)) hj) ?_
  exact xv_r rfl
theorem m_33a {j k : Nat} (hj : j < 60) (hk : k < 100) (h1 : ¬ s 13 k = s 18 j) (hd : 6 ≤ d) (hw : 100 ≤ w) : xv xm L xs d w 33 0 [(0, .ref 1), (1, .int (nI j)), (2, .int (nI k))] [] (xC s ++ g) (.threw ((xC s ++ g).length + 1)) ((xC s ++ g) ++ [.inr (9, [])]) 1 6 := by
  refine xv_m 3 rfl ?_
  refine xv_c0 (r := 65) (nip := 4) (cost := 13) rfl (by omega) (by omega) (m_65 hk) ?_
  refine xv_m 3 rfl ?_
  refine xv_c0 (r := 78) (nip := 8) (cost := 14) rfl (by omega) (by omega) (m_78 hj) ?_
  refine xv_bf rfl (xc_eqF h1) ?_
  exact xv_t rfl (by omega) (by omega)
theorem m_33b {j k : Nat} (hj : j < 60) (hk : k < 100) (h1 : s 13 k = s 18 j) (h2 : ¬ s 15 k = 0) (hd : 6 ≤ d) (hw : 100 ≤ w) : xv xm L xs d w 33 0 [(0, .ref 1), (1, .int (nI j)), (2, .int (nI k))] [] (xC s ++ g) (.threw ((xC s ++ g).length + 1)) ((xC s ++ g) ++ [.inr (9, [])]) 1 6 := by
  refine xv_m 3 rfl ?_
  refine xv_c0 (r := 65) (nip := 4) (cost := 13) rfl (by omega) (by omega) (m_65 hk) ?_
  refine xv_m 3 rfl ?_
  refine xv_c0 (r := 78) (nip := 8) (cost := 14) rfl (by omega) (by omega) (m_78 hj) ?_
  refine xv_bt rfl (xc_eqT h1) ?_
  refine xv_m 3 rfl ?_
  refine xv_c0 (r := 67) (nip := 14) (cost := 13) rfl (by omega) (by omega) (m_67 hk) ?_
  refine xv_bf rfl (xc_eqF h2) ?_
  exact xv_t rfl (by omega) (by omega)
theorem m_33c {j k : Nat} (hj : j < 60) (hk : k < 100) (h1 : s 13 k = s 18 j) (h2 : s 15 k = 0) (h3 : s 16 k = nI j) (hd : 6 ≤ d) (hw : 100 ≤ w) : xv xm L xs d w 33 0 [(0, .ref 1), (1, .int (nI j)), (2, .int (nI k))] [] (xC s ++ g) (.threw ((xC s ++ g).length + 1)) ((xC s ++ g) ++ [.inr (9, [])]) 1 6 := by
  refine xv_m 3 rfl ?_
  refine xv_c0 (r := 65) (nip := 4) (cost := 13) rfl (by omega) (by omega) (m_65 hk) ?_
  refine xv_m 3 rfl ?_
  refine xv_c0 (r := 78) (nip := 8) (cost := 14) rfl (by omega) (by omega) (m_78 hj) ?_
  refine xv_bt rfl (xc_eqT h1) ?_
  refine xv_m 3 rfl ?_
  refine xv_c0 (r := 67) (nip := 14) (cost := 13) rfl (by omega) (by omega) (m_67 hk) ?_
  refine xv_bt rfl (xc_eqT h2) ?_
  refine xv_m 3 rfl ?_
  refine xv_c0 (r := 68) (nip := 20) (cost := 13) rfl (by omega) (by omega) (m_68 hk) ?_
  refine xv_m 1 rfl ?_
  refine xv_bf rfl (xc_neF h3) ?_
  exact xv_t rfl (by omega) (by omega)
theorem m_34 {v p : Nat} (hv : v < 30) (hp : p < 100) (h1 : s 0 5 < s 8 (100 * v + p)) (hd : 1 ≤ d) (hw : 15 ≤ w) : xv xm L xs d w 34 0 [(0, .ref 1), (1, .int (nI v)), (2, .int (nI p))] [] (xC s ++ g) (.returned (some (.int (1)))) (xC s ++ g) 0 0 := by
  refine xv_m 6 rfl ?_
  refine xv_c0 (r := 52) (nip := 7) (cost := 15) rfl (by omega) (by omega) (m_52 hv hp) ?_
  refine xv_bf rfl (xd_geF h1) ?_
  refine xv_m 2 rfl ?_
  exact xv_rb xn_1 rfl
theorem m_34n {v p : Nat} (hv : v < 30) (hp : p < 100) (h1 : s 8 (100 * v + p) ≤ s 0 5) (hd : 1 ≤ d) (hw : 15 ≤ w) : xv xm L xs d w 34 0 [(0, .ref 1), (1, .int (nI v)), (2, .int (nI p))] [] (xC s ++ g) (.returned (some (.int (0)))) (xC s ++ g) 0 0 := by
  refine xv_m 6 rfl ?_
  refine xv_c0 (r := 52) (nip := 7) (cost := 15) rfl (by omega) (by omega) (m_52 hv hp) ?_
  refine xv_bt rfl (xd_geT h1) ?_
  refine xv_m 1 rfl ?_
  exact xv_rb xn_0 rfl
def f_srv3 (s : Nat → Nat → Int32) (v r k : Nat) (f : Nat → Int32) : Nat → Int32 := upd f (30 * v + 3 * r + k) (f_now s v k)
def f_srv (s : Nat → Nat → Int32) (v j r : Nat) (f : Nat → Int32) : Nat → Int32 := bif xa_cmp .eq (s 20 (10 * j + r)) 0 then f else xfo (f_srv3 s v r) f 3
theorem f_srv_1 {v j r : Nat} {f : Nat → Int32} (h : xa_cmp .eq (s 20 (10 * j + r)) 0 = true) : f_srv s v j r f = f := by unfold f_srv; rw [h]; rfl
theorem f_srv_2 {v j r : Nat} {f : Nat → Int32} (h : xa_cmp .eq (s 20 (10 * j + r)) 0 = false) : f_srv s v j r f = xfo (f_srv3 s v r) f 3 := by unfold f_srv; rw [h]; rfl
theorem f_now_w {f : Nat → Int32} {v k : Nat} : f_now (xw s 11 f) v k = f_now s v k := by
  unfold f_now
  split <;> rfl
theorem l_35i {v r j : Nat} (hv : v < 30) (hr : r < 10) {f : Nat → Int32} {o : Outcome} {h' : List va_E} {k0 z : Nat} (hd : 2 ≤ d) (hw : 31 ≤ w) (he : xv xm L xs d w 35 35 [(3, .int (nI r)), (2, .int (nI v)), (0, .ref 1), (1, .int (nI j))] [] (xC (xw s 11 (xfo (f_srv3 s v r) f 3)) ++ g) o h' k0 z) : ∀ n k, k + n = 3 → xv xm L xs d w 35 20 [(4, .int (nI k)), (3, .int (nI r)), (2, .int (nI v)), (0, .ref 1), (1, .int (nI j))] [] (xC (xw s 11 (xfo (f_srv3 s v r) f k)) ++ g) o h' k0 z
  | 0, k, hk => by
    have hk : k = 3 := hk
    subst hk
    refine xv_m 2 rfl ?_
    refine xv_bt rfl (xc_geT (by omega) (by omega)) ?_
    exact xv_l he ⟨rfl, rfl, rfl, rfl, trivial⟩
  | n + 1, k, hk => by
    have hk3 : k < 3 := by omega
    refine xv_m 2 rfl ?_
    refine xv_bf rfl (xc_geF (by omega) (by omega)) ?_
    refine xv_m 8 rfl ?_
    refine xv_c0 (r := 27) (nip := 32) (cost := 18) rfl (by omega) (by omega) (m_27x (s := xw s 11 (xfo (f_srv3 s v r) f k)) hv hk3 (hd := by omega) (hw := by omega)) ?_
    rw [f_now_w]
    refine xv_c0 (r := 61) (nip := 33) (cost := 16) rfl (by omega) (by omega) (m_61 (s := xw s 11 (xfo (f_srv3 s v r) f k)) hv hr hk3) ?_
    refine xv_m 2 rfl ?_
    exact xv_l (l_35i hv hr hd hw he n (k + 1) (by omega)) ⟨xk k, rfl, rfl, rfl, rfl, trivial⟩
theorem l_35 (hz : xz (s 20)) {v j R : Nat} (hv : v < 30) (hj : j < 60) (hR : R ≤ 10) (hS : s 9 2 = nI R) (hd : 2 ≤ d) (hw : 31 ≤ w) : ∀ n r, r + n = R → xv xm L xs d w 35 7 [(3, .int (nI r)), (2, .int (nI v)), (0, .ref 1), (1, .int (nI j))] [] (xC (xw s 11 (xfo (f_srv s v j) (s 11) r)) ++ g) (.returned none) (xC (xw s 11 (xfo (f_srv s v j) (s 11) R)) ++ g) 0 0
  | 0, r, hk => by
    have hk : r = R := hk
    subst hk
    refine xv_m 3 rfl ?_
    refine xv_c0 (r := 55) (nip := 11) (cost := 13) rfl (by omega) (by omega) (m_55 (s := xw s 11 (xfo (f_srv s v j) (s 11) r))) ?_
    refine xv_ei (show (xw s 11 (xfo (f_srv s v j) (s 11) r)) 9 2 = nI r from hS) ?_
    refine xv_bt rfl (xc_geT (by omega) (by omega)) ?_
    exact xv_r rfl
  | n + 1, r, hk => by
    refine xv_m 3 rfl ?_
    refine xv_c0 (r := 55) (nip := 11) (cost := 13) rfl (by omega) (by omega) (m_55 (s := xw s 11 (xfo (f_srv s v j) (s 11) r))) ?_
    refine xv_ei (show (xw s 11 (xfo (f_srv s v j) (s 11) r)) 9 2 = nI R from hS) ?_
    refine xv_bf rfl (xc_geF (by omega) (by omega)) ?_
    refine xv_m 4 rfl ?_
    refine xv_c0 (r := 82) (nip := 17) (cost := 14) rfl (by omega) (by omega) (m_82 (s := xw s 11 (xfo (f_srv s v j) (s 11) r)) hz (j := j) (r := r) hj (by omega)) ?_
    refine xv_b rfl (fun hc => ?_) (fun hc => ?_)
    · refine xv_m 2 rfl ?_
      refine xv_eh (h1 := xC (xw s 11 (xfo (f_srv s v j) (s 11) (r + 1))) ++ g) (congrArg (fun F => xC (xw s 11 F) ++ g) (show (_ : Nat → Int32) = f_srv s v j r (xfo (f_srv s v j) (s 11) r) from (f_srv_1 hc).symm)) ?_
      exact xv_l (l_35 hz hv hj hR hS hd hw n (r + 1) (by omega)) ⟨xk r, rfl, rfl, rfl, trivial⟩
    · refine xv_m 2 rfl ?_
      refine l_35i (r := r) (f := xfo (f_srv s v j) (s 11) r) hv (by omega) hd hw ?_ 3 0 rfl
      refine xv_m 2 rfl ?_
      refine xv_eh (h1 := xC (xw s 11 (xfo (f_srv s v j) (s 11) (r + 1))) ++ g) (congrArg (fun F => xC (xw s 11 F) ++ g) (show (_ : Nat → Int32) = f_srv s v j r (xfo (f_srv s v j) (s 11) r) from (f_srv_2 hc).symm)) ?_
      exact xv_l (l_35 hz hv hj hR hS hd hw n (r + 1) (by omega)) ⟨xk r, rfl, rfl, rfl, trivial⟩
theorem m_35 (hz : xz (s 20)) {v j R : Nat} (hv : v < 30) (hj : j < 60) (hR : R ≤ 10) (hS : s 9 2 = nI R) (hO : s 18 j = nI v) (hd : 2 ≤ d) (hw : 31 ≤ w) : xv xm L xs d w 35 0 [(0, .ref 1), (1, .int (nI j))] [] (xC s ++ g) (.returned none) (xC (xw s 11 (xfo (f_srv s v j) (s 11) R)) ++ g) 0 0 := by
  refine xv_m 3 rfl ?_
  refine xv_c0 (r := 78) (nip := 4) (cost := 13) rfl (by omega) (by omega) (m_78 hj) ?_
  refine xv_ei hO ?_
  refine xv_m 3 rfl ?_
  refine xv_eh (h1 := xC (xw s 11 (xfo (f_srv s v j) (s 11) 0)) ++ g) rfl ?_
  exact xv_l (l_35 hz hv hj hR hS hd hw R 0 (Nat.zero_add R)) ⟨rfl, rfl, rfl, rfl, trivial⟩
def f_ovr (s : Nat → Nat → Int32) (v r k : Nat) : Bool := f_by (s 10) r k && !(xa_cmp .gt (xa_con 10 0 * f_left s v r k) (-(s 10 (3 * r + k))))
theorem l_37i {v r : Nat} (hv : v < 30) (hr : r < 10) {b : Bool} (hd : 3 ≤ d) (hw : 44 ≤ w) (he : xv xm L xs d w 37 36 [(2, .int (nI r)), (0, .ref 1), (1, .int (nI v))] [] (xC s ++ g) (.returned (some (.int (xB b)))) (xC s ++ g) 0 0) : ∀ n k, k + n = 3 → xv xm L xs d w 37 9 [(3, .int (nI k)), (2, .int (nI r)), (0, .ref 1), (1, .int (nI v))] [] (xC s ++ g) (.returned (some (.int (xB (xany (f_ovr s v r) n k || b))))) (xC s ++ g) 0 0
  | 0, k, hk => by
    refine xv_m 2 rfl ?_
    refine xv_bt rfl (xc_geT (by omega) (by omega)) ?_
    exact xv_l he ⟨rfl, rfl, rfl, trivial⟩
  | n + 1, k, hk => by
    have hk3 : k < 3 := by omega
    refine xv_m 2 rfl ?_
    refine xv_bf rfl (xc_geF (by omega) (by omega)) ?_
    refine xv_m 4 rfl ?_
    refine xv_c0 (r := 59) (nip := 17) (cost := 14) rfl (by omega) (by omega) (m_59 (s := s) hr hk3 (hd := by omega) (hw := by omega)) ?_
    refine xv_b rfl (fun hc => ?_) (fun hc => ?_)
    · rw [xany_f (show f_ovr s v r k = false by unfold f_ovr; rw [xB_f hc]; rfl)]
      refine xv_m 2 rfl ?_
      exact xv_l (l_37i hv hr hd hw he n (k + 1) (by omega)) ⟨xk k, rfl, rfl, rfl, trivial⟩
    · refine xv_m 5 rfl ?_
      refine xv_c0 (r := 28) (nip := 24) (cost := 17) rfl (by omega) (by omega) (m_28 hv hr hk3 (hd := by omega) (hw := by omega)) ?_
      refine xv_m 5 rfl ?_
      refine xv_c0 (r := 58) (nip := 30) (cost := 15) rfl (by omega) (by omega) (m_58 hr hk3) ?_
      refine xv_m 1 rfl ?_
      refine xv_b rfl (fun hc2 => ?_) (fun hc2 => ?_)
      · rw [xany_f (show f_ovr s v r k = false by unfold f_ovr; rw [xB_t hc, hc2]; rfl)]
        refine xv_m 2 rfl ?_
        exact xv_l (l_37i hv hr hd hw he n (k + 1) (by omega)) ⟨xk k, rfl, rfl, rfl, trivial⟩
      · rw [xany_t (show f_ovr s v r k = true by unfold f_ovr; rw [xB_t hc, hc2]; rfl)]
        refine xv_m 1 rfl ?_
        exact xv_rb xn_1 rfl
def f_ovd (s : Nat → Nat → Int32) (v r : Nat) : Bool := xany (f_ovr s v r) 3 0
theorem l_37 {v R : Nat} (hv : v < 30) (hR : R ≤ 10) (hS : s 9 2 = nI R) (hd : 3 ≤ d) (hw : 44 ≤ w) : ∀ n r, r + n = R → xv xm L xs d w 37 2 [(2, .int (nI r)), (0, .ref 1), (1, .int (nI v))] [] (xC s ++ g) (.returned (some (.int (xB (xany (f_ovd s v) n r))))) (xC s ++ g) 0 0
  | 0, r, hk => by
    have hk : r = R := hk
    subst hk
    refine xv_m 3 rfl ?_
    refine xv_c0 (r := 55) (nip := 6) (cost := 13) rfl (by omega) (by omega) (m_55) ?_
    refine xv_ei hS ?_
    refine xv_bt rfl (xc_geT (by omega) (by omega)) ?_
    refine xv_m 1 rfl ?_
    exact xv_rb xn_0 rfl
  | n + 1, r, hk => by
    refine xv_m 3 rfl ?_
    refine xv_c0 (r := 55) (nip := 6) (cost := 13) rfl (by omega) (by omega) (m_55) ?_
    refine xv_ei hS ?_
    refine xv_bf rfl (xc_geF (by omega) (by omega)) ?_
    refine xv_m 2 rfl ?_
    refine l_37i (r := r) (b := xany (f_ovd s v) n (r + 1)) hv (by omega) hd hw ?_ 3 0 rfl
    refine xv_m 2 rfl ?_
    exact xv_l (l_37 hv hR hS hd hw n (r + 1) (by omega)) ⟨xk r, rfl, rfl, trivial⟩
theorem m_37 {v R : Nat} (hv : v < 30) (hR : R ≤ 10) (hS : s 9 2 = nI R) (hd : 3 ≤ d) (hw : 44 ≤ w) : xv xm L xs d w 37 0 [(0, .ref 1), (1, .int (nI v))] [] (xC s ++ g) (.returned (some (.int (xB (xany (f_ovd s v) R 0))))) (xC s ++ g) 0 0 := by
  refine xv_m 2 rfl ?_
  exact xv_l (l_37 hv hR hS hd hw R 0 (Nat.zero_add R)) ⟨rfl, rfl, rfl, trivial⟩
def f_rsn (s : Nat → Nat → Int32) (R D O v : Nat) : Int32 := bif xany (f_sev (s 13) (s 14) (s 15) (nI v)) D 0 then nI 1 else bif !(xa_cmp .lt (xcnt (f_sml (s 13) (s 14) (s 15) (nI v)) D 0 (nI 0)) (s 0 7)) then nI 2 else bif xany (f_past (s 7) (s 0 5) v) 5 0 then nI 3 else bif !(xa_cmp .eq (xfst (f_opn (s 19) (s 18) (nI v)) O 0) (xa_con 1 1)) then nI 4 else bif xany (f_ovd s v) R 0 then nI 5 else nI 0
theorem m_36 {R D O : Nat} (hR : R ≤ 10) (hSR : s 9 2 = nI R) (hD : D ≤ 100) (hSD : s 12 4 = nI D) (hO : O ≤ 60) (hSO : s 17 5 = nI O) {v : Nat} (hv : v < 30) (hd : 4 ≤ d) (hw : 59 ≤ w) : xv xm L xs d w 36 0 [(0, .ref 1), (1, .int (nI v))] [] (xC s ++ g) (.returned (some (.int (f_rsn s R D O v)))) (xC s ++ g) 0 0 := by
  refine xv_m 3 rfl ?_
  refine xv_c0 (r := 72) (nip := 4) (cost := 14) rfl (by omega) (by omega) (m_72 hD hSD) ?_
  refine xv_b rfl (fun hc => ?_) (fun hc => ?_)
  · refine xv_m 3 rfl ?_
    refine xv_c0 (r := 73) (nip := 11) (cost := 15) rfl (by omega) (by omega) (m_73 hD hSD) ?_
    refine xv_m 2 rfl ?_
    refine xv_b rfl (fun hc2 => ?_) (fun hc2 => ?_)
    · refine xv_m 5 rfl ?_
      refine xv_c0 (r := 51) (nip := 22) (cost := 16) rfl (by omega) (by omega) (m_51 hv) ?_
      refine xv_b rfl (fun hc3 => ?_) (fun hc3 => ?_)
      · refine xv_m 3 rfl ?_
        refine xv_c0 (r := 80) (nip := 29) (cost := 14) rfl (by omega) (by omega) (m_80 hO hSO) ?_
        refine xv_m 1 rfl ?_
        refine xv_b rfl (fun hc4 => ?_) (fun hc4 => ?_)
        · refine xv_m 2 rfl ?_
          refine xv_c0 (r := 37) (nip := 36) (cost := 15) rfl (by omega) (by omega) (m_37 hv hR hSR (hd := by omega) (hw := by omega)) ?_
          refine xv_b rfl (fun hc5 => ?_) (fun hc5 => ?_)
          · rw [show f_rsn s R D O v = nI 0 by unfold f_rsn; rw [xB_f hc, hc2, xB_f hc3, hc4, xB_f hc5]; rfl]
            refine xv_m 1 rfl ?_
            exact xv_r rfl
          · rw [show f_rsn s R D O v = nI 5 by unfold f_rsn; rw [xB_f hc, hc2, xB_f hc3, hc4, xB_t hc5]; rfl]
            refine xv_m 2 rfl ?_
            exact xv_r rfl
        · rw [show f_rsn s R D O v = nI 4 by unfold f_rsn; rw [xB_f hc, hc2, xB_f hc3, hc4]; rfl]
          refine xv_m 1 rfl ?_
          exact xv_r rfl
      · rw [show f_rsn s R D O v = nI 3 by unfold f_rsn; rw [xB_f hc, hc2, xB_t hc3]; rfl]
        refine xv_m 1 rfl ?_
        exact xv_r rfl
    · rw [show f_rsn s R D O v = nI 2 by unfold f_rsn; rw [xB_f hc, hc2]; rfl]
      refine xv_m 1 rfl ?_
      exact xv_r rfl
  · rw [show f_rsn s R D O v = nI 1 by unfold f_rsn; rw [xB_t hc]; rfl]
    refine xv_m 1 rfl ?_
    exact xv_r rfl
def f_bar (s : Nat → Nat → Int32) (R D O v : Nat) : Bool := !(xa_cmp .eq (f_rsn s R D O v) 0)
theorem l_38 {R D O : Nat} (hR : R ≤ 10) (hSR : s 9 2 = nI R) (hD : D ≤ 100) (hSD : s 12 4 = nI D) (hO : O ≤ 60) (hSO : s 17 5 = nI O) {V : Nat} (hV : V ≤ 30) (hSV : s 1 7 = nI V) (hd : 5 ≤ d) (hw : 72 ≤ w) : ∀ n k c, k + n = V → xv xm L xs d w 38 4 [(2, .int (nI k)), (1, .int c), (0, .ref 1)] [] (xC s ++ g) (.returned (some (.int (xcnt (f_bar s R D O) n k c)))) (xC s ++ g) 0 0
  | 0, k, c, hk => by
    have hk : k = V := hk
    subst hk
    refine xv_m 3 rfl ?_
    refine xv_c0 (r := 41) (nip := 8) (cost := 13) rfl (by omega) (by omega) (m_41) ?_
    refine xv_ei hSV ?_
    refine xv_bt rfl (xc_geT (by omega) (by omega)) ?_
    refine xv_m 1 rfl ?_
    exact xv_r rfl
  | n + 1, k, c, hk => by
    refine xv_m 3 rfl ?_
    refine xv_c0 (r := 41) (nip := 8) (cost := 13) rfl (by omega) (by omega) (m_41) ?_
    refine xv_ei hSV ?_
    refine xv_bf rfl (xc_geF (by omega) (by omega)) ?_
    refine xv_m 2 rfl ?_
    refine xv_c0 (r := 36) (nip := 12) (cost := 13) rfl (by omega) (by omega) (m_36 hR hSR hD hSD hO hSO (by omega) (hd := by omega) (hw := by omega)) ?_
    refine xv_b rfl (fun hc => ?_) (fun hc => ?_)
    · refine xv_m 2 rfl ?_
      rw [xcnt_f (show f_bar s R D O k = false by unfold f_bar; rw [hc]; rfl)]
      exact xv_l (l_38 hR hSR hD hSD hO hSO hV hSV hd hw n (k + 1) _ (by omega)) ⟨xk k, rfl, rfl, trivial⟩
    · refine xv_m 3 rfl ?_
      rw [xcnt_t (show f_bar s R D O k = true by unfold f_bar; rw [hc]; rfl)]
      exact xv_l (l_38 hR hSR hD hSD hO hSO hV hSV hd hw n (k + 1) _ (by omega)) ⟨xk k, rfl, rfl, trivial⟩
theorem m_38 {R D O : Nat} (hR : R ≤ 10) (hSR : s 9 2 = nI R) (hD : D ≤ 100) (hSD : s 12 4 = nI D) (hO : O ≤ 60) (hSO : s 17 5 = nI O) {V : Nat} (hV : V ≤ 30) (hSV : s 1 7 = nI V) (hd : 5 ≤ d) (hw : 72 ≤ w) : xv xm L xs d w 38 0 [(0, .ref 1)] [] (xC s ++ g) (.returned (some (.int (xcnt (f_bar s R D O) V 0 (nI 0))))) (xC s ++ g) 0 0 := by
  refine xv_m 4 rfl ?_
  exact l_38 hR hSR hD hSD hO hSO hV hSV hd hw V 0 _ (Nat.zero_add V)
end XSR

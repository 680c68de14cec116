section XRG
variable {L : Nat} {xs : Nat → Int32} {d w : Nat} {q s b : Nat → Nat → Int32} {g : List va_E}
theorem r_11 {V : Nat} (hV : V ≤ 30) (hSV : s 1 7 = nI V) {v : Nat} (hv : v < V){O : Nat} (hO : O ≤ 60) (hSO : s 17 5 = nI O) {j : Nat} (hj : j < 60) (he : f_rol (f_ro (s 18) (b 1) (nI v)) O 0 none = some j) (hd : 2 ≤ d) (hw : 27 ≤ w) : xv xm L xs d w 118 0 [(0, .ref 28), (1, .int (nI v))] [] (xC q ++ (xD (s) (b) ++ g)) (.returned (some (.int (nI j)))) (xC q ++ (xD (s) (xu b 0 0 (nI 0)) ++ g)) 0 0 := by
  refine xv_m 2 rfl ?_
  refine xv_c0 (r := 99) (nip := 3) (cost := 13) rfl (by omega) (by omega) (m_99t (by omega) hSV hv (hd := by omega) (hw := by omega)) ?_
  refine xv_bt rfl (by decide +kernel) ?_
  refine xv_m 3 rfl ?_
  refine xv_bt rfl (by decide +kernel) ?_
  refine xv_m 2 rfl ?_
  refine xv_c0 (r := 117) (nip := 15) (cost := 15) rfl (by omega) (by omega) (m_117 hO hSO) ?_
  rw [he]
  refine xv_m 4 rfl ?_
  refine xv_bf rfl (by decide +kernel) ?_
  refine xv_m 1 rfl ?_
  refine xv_bt rfl (xc_geT (a := j) (b := 0) (by omega) (by omega)) ?_
  refine xv_m 3 rfl ?_
  refine xv_c0 (r := 97) (nip := 32) (cost := 16) rfl (by omega) (by omega) (m_97_0) ?_
  refine xv_bt rfl (by decide +kernel) ?_
  refine xv_m 1 rfl ?_
  refine xv_bf rfl (xc_ltF (a := j) (b := 0) (by omega) (by omega)) ?_
  refine xv_m 1 rfl ?_
  exact xv_r rfl
def f_orr (s : Nat → Nat → Int32) (j : Nat) (x : Int32) : Nat → Nat → Int32 := xu (xu s 18 j x) 17 5 (nI (j + 1))
theorem r_11n {V : Nat} (hV : V ≤ 30) (hSV : s 1 7 = nI V) {v : Nat} (hv : v < V) {O : Nat} (hO : O < 60) (hSO : s 17 5 = nI O) (he : f_rol (f_ro (s 18) (b 1) (nI v)) O 0 none = none) (hd : 2 ≤ d) (hw : 27 ≤ w) : xv xm L xs d w 118 0 [(0, .ref 28), (1, .int (nI v))] [] (xC q ++ (xD (s) (b) ++ g)) (.returned (some (.int (nI O)))) (xC q ++ (xD (f_orr s O (nI v)) (xu b 0 0 (nI 0)) ++ g)) 0 0 := by
  refine xv_m 2 rfl ?_
  refine xv_c0 (r := 99) (nip := 3) (cost := 13) rfl (by omega) (by omega) (m_99t (by omega) hSV hv (hd := by omega) (hw := by omega)) ?_
  refine xv_bt rfl (by decide +kernel) ?_
  refine xv_m 3 rfl ?_
  refine xv_bt rfl (by decide +kernel) ?_
  refine xv_m 2 rfl ?_
  refine xv_c0 (r := 117) (nip := 15) (cost := 15) rfl (by omega) (by omega) (m_117 (O := O) (by omega) hSO) ?_
  rw [he]
  refine xv_m 4 rfl ?_
  refine xv_bf rfl (by decide +kernel) ?_
  refine xv_m 1 rfl ?_
  refine xv_bf rfl (by decide +kernel) ?_
  refine xv_m 3 rfl ?_
  refine xv_bt rfl (xc_neT (by rw [hSO]; exact nI_ne (by omega) (by omega) (by omega))) ?_
  refine xv_m 3 rfl ?_
  refine xv_c0 (r := 97) (nip := 32) (cost := 16) rfl (by omega) (by omega) (m_97_0) ?_
  refine xv_bt rfl (by decide +kernel) ?_
  refine xv_m 1 rfl ?_
  refine xv_bt rfl (by decide +kernel) ?_
  refine xv_m 5 rfl ?_
  refine xv_ias (O) (xC q ++ (xD (xu s 18 O (nI v)) (xu b 0 0 (nI 0)) ++ g)) rfl rfl hSO (by omega) (by omega) rfl ?_
  refine xv_m 5 rfl ?_
  refine xv_ei (show s 17 5 + nI 1 = nI (O + 1) by rw [hSO, nI_add]) ?_
  refine xv_m 1 (h1 := xC q ++ (xD (f_orr s O (nI v)) (xu b 0 0 (nI 0)) ++ g)) rfl ?_
  refine xv_m 4 rfl ?_
  exact xv_rn (by show nI (O + 1) - nI 1 = nI O; exact nI_pred O) rfl
theorem r_11a {p : Int32} {V : Nat} (hV : V ≤ 30) (hSV : s 1 7 = nI V) (hx : p < 0 ∨ s 1 7 ≤ p) (hd : 2 ≤ d) (hw : 27 ≤ w) : xv xm L xs d w 118 0 [(0, .ref 28), (1, .int (p))] [] (xC q ++ (xD (s) (b) ++ g)) (.returned (some (.int (nI 0)))) (xC q ++ (xD (s) (xu b 0 0 (nI 1)) ++ g)) 0 0 := by
  refine xv_m 2 rfl ?_
  refine xv_c0 (r := 99) (nip := 3) (cost := 13) rfl (by omega) (by omega) (m_99f (V := V) (by omega) hSV hx (hd := by omega) (hw := by omega)) ?_
  refine xv_bf rfl (by decide +kernel) ?_
  refine xv_m 4 rfl ?_
  refine xv_bf rfl (by decide +kernel) ?_
  refine xv_m 6 rfl ?_
  refine xv_bt rfl (by decide +kernel) ?_
  refine xv_m 3 rfl ?_
  refine xv_c0 (r := 97) (nip := 32) (cost := 16) rfl (by omega) (by omega) (m_97_1) ?_
  refine xv_bf rfl (by decide +kernel) ?_
  refine xv_m 1 rfl ?_
  exact xv_r rfl
theorem r_11b {V : Nat} (hV : V ≤ 30) (hSV : s 1 7 = nI V) {v : Nat} (hv : v < V){O : Nat} (hO : O ≤ 60) (hSO : s 17 5 = nI O) (he : f_rol (f_ro (s 18) (b 1) (nI v)) O 0 none = none) (hx : s 17 5 = nI 60) (hd : 2 ≤ d) (hw : 27 ≤ w) : xv xm L xs d w 118 0 [(0, .ref 28), (1, .int (nI v))] [] (xC q ++ (xD (s) (b) ++ g)) (.returned (some (.int (nI 0)))) (xC q ++ (xD (s) (xu b 0 0 (nI 2)) ++ g)) 0 0 := by
  refine xv_m 2 rfl ?_
  refine xv_c0 (r := 99) (nip := 3) (cost := 13) rfl (by omega) (by omega) (m_99t (by omega) hSV hv (hd := by omega) (hw := by omega)) ?_
  refine xv_bt rfl (by decide +kernel) ?_
  refine xv_m 3 rfl ?_
  refine xv_bt rfl (by decide +kernel) ?_
  refine xv_m 2 rfl ?_
  refine xv_c0 (r := 117) (nip := 15) (cost := 15) rfl (by omega) (by omega) (m_117 hO hSO) ?_
  rw [he]
  refine xv_m 4 rfl ?_
  refine xv_bf rfl (by decide +kernel) ?_
  refine xv_m 1 rfl ?_
  refine xv_bf rfl (by decide +kernel) ?_
  refine xv_m 3 rfl ?_
  refine xv_bf rfl (xc_neF hx) ?_
  refine xv_m 4 rfl ?_
  refine xv_c0 (r := 97) (nip := 32) (cost := 16) rfl (by omega) (by omega) (m_97_2) ?_
  refine xv_bf rfl (by decide +kernel) ?_
  refine xv_m 1 rfl ?_
  exact xv_r rfl
def f_mk (f : Nat → Int32) (m j k : Nat) : Bool := !(xa_cmp .eq (f (m * j + k)) 0)
theorem l_119a {j : Nat} (hj : j < 60) {o : Outcome} {h' : List va_E} {k0 z : Nat} {e : Int32} (he : xv xm L xs d w 119 24 [(2, .int e), (0, .ref 28), (1, .int (nI j))] [] (xC q ++ (xD (s) (b) ++ g)) o h' k0 z) : ∀ n k c, k + n = 10 → xcnt (f_mk (s 20) 10 j) n k c = e → xv xm L xs d w 119 4 [(3, .int (nI k)), (2, .int c), (0, .ref 28), (1, .int (nI j))] [] (xC q ++ (xD (s) (b) ++ g)) o h' k0 z
  | 0, k, c, hk, hc => by
    have hc : c = e := hc
    subst hc
    refine xv_m 2 rfl ?_
    refine xv_bt rfl (xc_geT (by omega) (by omega)) ?_
    exact xv_l he ⟨rfl, rfl, rfl, trivial⟩
  | n + 1, k, c, hk, hc => by
    refine xv_m 2 rfl ?_
    refine xv_bf rfl (xc_geF (by omega) (by omega)) ?_
    refine xv_m 8 rfl ?_
    refine xv_ba (10 * j + k) rfl rfl (by first | rfl | (simp only [xa_c0, pk_mul, nI_add]; done) | (simp only [xa_c0, pk_mul, nI_add]; congr 1; omega)) (by omega) (by omega) ?_
    refine xv_b rfl (fun hb => ?_) (fun hb => ?_)
    · refine xv_m 2 rfl ?_
      refine xv_ei (xi_p0 _) ?_
      refine xv_m 3 rfl ?_
      rw [xcnt_f (show (f_mk (s 20) 10 j) k = false by unfold f_mk; rw [hb]; rfl)] at hc
      exact xv_l (l_119a hj he n (k + 1) _ (by omega) hc) ⟨xk k, rfl, rfl, rfl, trivial⟩
    · refine xv_m 6 rfl ?_
      rw [xcnt_t (show (f_mk (s 20) 10 j) k = true by unfold f_mk; rw [hb]; rfl)] at hc
      exact xv_l (l_119a hj he n (k + 1) _ (by omega) hc) ⟨xk k, rfl, rfl, rfl, trivial⟩
theorem l_119b {j : Nat} (hj : j < 60) {o : Outcome} {h' : List va_E} {k0 z : Nat} {e : Int32} (he : xv xm L xs d w 119 46 [(2, .int e), (0, .ref 28), (1, .int (nI j))] [] (xC q ++ (xD (s) (b) ++ g)) o h' k0 z) : ∀ n k c, k + n = 100 → xcnt (f_mk (b 2) 100 j) n k c = e → xv xm L xs d w 119 26 [(3, .int (nI k)), (2, .int c), (0, .ref 28), (1, .int (nI j))] [] (xC q ++ (xD (s) (b) ++ g)) o h' k0 z
  | 0, k, c, hk, hc => by
    have hc : c = e := hc
    subst hc
    refine xv_m 2 rfl ?_
    refine xv_bt rfl (xc_geT (by omega) (by omega)) ?_
    exact xv_l he ⟨rfl, rfl, rfl, trivial⟩
  | n + 1, k, c, hk, hc => by
    refine xv_m 2 rfl ?_
    refine xv_bf rfl (xc_geF (by omega) (by omega)) ?_
    refine xv_m 8 rfl ?_
    refine xv_ba (100 * j + k) rfl rfl (by first | rfl | (simp only [xa_c0, pk_mul, nI_add]; done) | (simp only [xa_c0, pk_mul, nI_add]; congr 1; omega)) (by omega) (by omega) ?_
    refine xv_b rfl (fun hb => ?_) (fun hb => ?_)
    · refine xv_m 2 rfl ?_
      refine xv_ei (xi_p0 _) ?_
      refine xv_m 3 rfl ?_
      rw [xcnt_f (show (f_mk (b 2) 100 j) k = false by unfold f_mk; rw [hb]; rfl)] at hc
      exact xv_l (l_119b hj he n (k + 1) _ (by omega) hc) ⟨xk k, rfl, rfl, rfl, trivial⟩
    · refine xv_m 6 rfl ?_
      rw [xcnt_t (show (f_mk (b 2) 100 j) k = true by unfold f_mk; rw [hb]; rfl)] at hc
      exact xv_l (l_119b hj he n (k + 1) _ (by omega) hc) ⟨xk k, rfl, rfl, rfl, trivial⟩
theorem m_119 {j : Nat} (hj : j < 60) : xv xm L xs d w 119 0 [(0, .ref 28), (1, .int (nI j))] [] (xC q ++ (xD (s) (b) ++ g)) (.returned (some (.int (xcnt (f_mk (b 2) 100 j) 100 0 (xcnt (f_mk (s 20) 10 j) 10 0 (nI 0)))))) (xC q ++ (xD (s) (b) ++ g)) 0 0 := by
  refine xv_m 4 rfl ?_
  refine xv_l (l_119a hj ?_ 10 0 (nI 0) rfl rfl) ⟨rfl, rfl, rfl, rfl, trivial⟩
  refine xv_m 2 rfl ?_
  refine xv_l (l_119b hj ?_ 100 0 _ rfl rfl) ⟨rfl, rfl, rfl, rfl, trivial⟩
  refine xv_m 1 rfl ?_
  exact xv_r rfl
theorem r_12r {O : Nat} (hO : O ≤ 60) (hSO : s 17 5 = nI O) {j : Nat} (hj : j < O){R : Nat} (hR : R ≤ 10) (hSR : s 9 2 = nI R) {r : Nat} (hr : r < R) (h1 : b 1 j = 0) (h2 : s 20 (10 * j + r) = 0) (hd : 2 ≤ d) (hw : 27 ≤ w) : xv xm L xs d w 120 0 [(0, .ref 28), (1, .int (nI j)), (2, .int (1)), (3, .int (nI r))] [] (xC q ++ (xD (s) (b) ++ g)) (.returned (some (.int (xcnt (f_mk (b 2) 100 j) 100 0 (xcnt (f_mk ((xu s 20 (10 * j + r) 1) 20) 10 j) 10 0 (nI 0)))))) (xC q ++ (xD (xu s 20 (10 * j + r) 1) (xu b 0 0 (nI 0)) ++ g)) 0 0 := by
  refine xv_m 2 rfl ?_
  refine xv_c0 (r := 101) (nip := 3) (cost := 13) rfl (by omega) (by omega) (m_101t (by omega) hSO hj (hd := by omega) (hw := by omega)) ?_
  refine xv_bf rfl (by decide +kernel) ?_
  refine xv_m 1 rfl ?_
  refine xv_bf rfl (by decide +kernel) ?_
  refine xv_m 2 rfl ?_
  refine xv_c0 (r := 100) (nip := 9) (cost := 13) rfl (by omega) (by omega) (m_100t (by omega) hSR hr (hd := by omega) (hw := by omega)) ?_
  refine xv_bt rfl (by decide +kernel) ?_
  refine xv_m 3 rfl ?_
  refine xv_bf rfl (by decide +kernel) ?_
  refine xv_m 3 rfl ?_
  refine xv_ba (_) rfl rfl rfl (by omega) (by omega) ?_
  refine xv_bt rfl (xc_eqT h1) ?_
  refine xv_m 3 rfl ?_
  refine xv_bf rfl (by decide +kernel) ?_
  refine xv_m 1 rfl ?_
  refine xv_bf rfl (by decide +kernel) ?_
  refine xv_m 7 rfl ?_
  refine xv_ba (10 * j + r) rfl rfl (by first | rfl | (simp only [xa_c0, pk_mul, nI_add]; done) | (simp only [xa_c0, pk_mul, nI_add]; congr 1; omega)) (by omega) (by omega) ?_
  refine xv_bt rfl (xc_eqT h2) ?_
  refine xv_m 7 rfl ?_
  refine xv_c0 (r := 97) (nip := 81) (cost := 16) rfl (by omega) (by omega) (m_97_0) ?_
  refine xv_bt rfl (by decide +kernel) ?_
  refine xv_m 1 rfl ?_
  refine xv_bf rfl (by decide +kernel) ?_
  refine xv_m 8 rfl ?_
  refine xv_bas (10 * j + r) (xC q ++ (xD (xu s 20 (10 * j + r) 1) (xu b 0 0 (nI 0)) ++ g)) rfl rfl (by first | rfl | (simp only [xa_c0, pk_mul, nI_add]; done) | (simp only [xa_c0, pk_mul, nI_add]; congr 1; omega)) (by omega) (by omega) xn_1 rfl ?_
  refine xv_m 3 rfl ?_
  refine xv_c0 (r := 119) (nip := 108) (cost := 15) rfl (by omega) (by omega) (m_119 (s := xu s 20 (10 * j + r) 1) (b := xu b 0 0 (nI 0)) (by omega)) ?_
  exact xv_r rfl
theorem r_12d {O : Nat} (hO : O ≤ 60) (hSO : s 17 5 = nI O) {j : Nat} (hj : j < O){D : Nat} (hD : D ≤ 100) (hSD : s 12 4 = nI D) {k : Nat} (hk : k < D) (h1 : b 1 j = 0) (e1 : s 13 k = s 18 j) (e2 : s 15 k = 0) (e3 : b 2 (100 * j + k) = 0) (hd : 2 ≤ d) (hw : 27 ≤ w) : xv xm L xs d w 120 0 [(0, .ref 28), (1, .int (nI j)), (2, .int (0)), (3, .int (nI k))] [] (xC q ++ (xD (s) (b) ++ g)) (.returned (some (.int (xcnt (f_mk ((xu (xu b 0 0 (nI 0)) 2 (100 * j + k) 1) 2) 100 j) 100 0 (xcnt (f_mk (s 20) 10 j) 10 0 (nI 0)))))) (xC q ++ (xD (s) (xu (xu b 0 0 (nI 0)) 2 (100 * j + k) 1) ++ g)) 0 0 := by
  refine xv_m 2 rfl ?_
  refine xv_c0 (r := 101) (nip := 3) (cost := 13) rfl (by omega) (by omega) (m_101t (by omega) hSO hj (hd := by omega) (hw := by omega)) ?_
  refine xv_bf rfl (by decide +kernel) ?_
  refine xv_m 1 rfl ?_
  refine xv_bt rfl (by decide +kernel) ?_
  refine xv_m 6 rfl ?_
  refine xv_ei (show s 12 4 - nI 1 = nI D - nI 1 by rw [hSD]) ?_
  refine xv_c0 (r := 98) (nip := 18) (cost := 14) rfl (by omega) (by omega) (m_98t (nI_pos' (by omega)) (xi_1 hk (by omega))) ?_
  refine xv_bt rfl (by decide +kernel) ?_
  refine xv_m 3 rfl ?_
  refine xv_bf rfl (by decide +kernel) ?_
  refine xv_m 3 rfl ?_
  refine xv_ba (_) rfl rfl rfl (by omega) (by omega) ?_
  refine xv_bt rfl (xc_eqT h1) ?_
  refine xv_m 3 rfl ?_
  refine xv_bf rfl (by decide +kernel) ?_
  refine xv_m 1 rfl ?_
  refine xv_bt rfl (by decide +kernel) ?_
  refine xv_m 3 rfl ?_
  refine xv_ia (_) rfl rfl rfl (by omega) (by omega) ?_
  refine xv_m 3 rfl ?_
  refine xv_ia (_) rfl rfl rfl (by omega) (by omega) ?_
  refine xv_bf rfl (xc_neF e1) ?_
  refine xv_m 3 rfl ?_
  refine xv_ia (_) rfl rfl rfl (by omega) (by omega) ?_
  refine xv_bf rfl (xc_neF e2) ?_
  refine xv_m 7 rfl ?_
  refine xv_ba (100 * j + k) rfl rfl (by first | rfl | (simp only [xa_c0, pk_mul, nI_add]; done) | (simp only [xa_c0, pk_mul, nI_add]; congr 1; omega)) (by omega) (by omega) ?_
  refine xv_bt rfl (xc_eqT e3) ?_
  refine xv_m 7 rfl ?_
  refine xv_c0 (r := 97) (nip := 81) (cost := 16) rfl (by omega) (by omega) (m_97_0) ?_
  refine xv_bt rfl (by decide +kernel) ?_
  refine xv_m 1 rfl ?_
  refine xv_bt rfl (by decide +kernel) ?_
  refine xv_m 8 rfl ?_
  refine xv_bas (100 * j + k) (xC q ++ (xD (s) (xu (xu b 0 0 (nI 0)) 2 (100 * j + k) 1) ++ g)) rfl rfl (by first | rfl | (simp only [xa_c0, pk_mul, nI_add]; done) | (simp only [xa_c0, pk_mul, nI_add]; congr 1; omega)) (by omega) (by omega) xn_1 rfl ?_
  refine xv_m 2 rfl ?_
  refine xv_c0 (r := 119) (nip := 108) (cost := 15) rfl (by omega) (by omega) (m_119 (s := s) (b := xu (xu b 0 0 (nI 0)) 2 (100 * j + k) 1) (by omega)) ?_
  exact xv_r rfl
theorem r_12a {p q1 x : Int32} {O : Nat} (hO : O ≤ 60) (hSO : s 17 5 = nI O) (hx : p < 0 ∨ s 17 5 ≤ p) (hd : 2 ≤ d) (hw : 27 ≤ w) : xv xm L xs d w 120 0 [(0, .ref 28), (1, .int (p)), (2, .int (q1)), (3, .int (x))] [] (xC q ++ (xD (s) (b) ++ g)) (.returned (some (.int (nI 0)))) (xC q ++ (xD (s) (xu b 0 0 (nI 1)) ++ g)) 0 0 := by
  refine xv_m 2 rfl ?_
  refine xv_c0 (r := 101) (nip := 3) (cost := 13) rfl (by omega) (by omega) (m_101f (O := O) (by omega) hSO hx (hd := by omega) (hw := by omega)) ?_
  refine xv_bt rfl (by decide +kernel) ?_
  refine xv_m 4 rfl ?_
  refine xv_bt rfl (by decide +kernel) ?_
  refine xv_m 4 rfl ?_
  refine xv_bt rfl (by decide +kernel) ?_
  refine xv_m 8 rfl ?_
  refine xv_c0 (r := 97) (nip := 81) (cost := 16) rfl (by omega) (by omega) (m_97_1) ?_
  refine xv_bf rfl (by decide +kernel) ?_
  refine xv_m 1 rfl ?_
  exact xv_r rfl
theorem r_12rb {O : Nat} (hO : O ≤ 60) (hSO : s 17 5 = nI O) {j : Nat} (hj : j < O){R : Nat} (hR : R ≤ 10) (hSR : s 9 2 = nI R) {x : Int32} (hx : x < 0 ∨ s 9 2 ≤ x) (hd : 2 ≤ d) (hw : 27 ≤ w) : xv xm L xs d w 120 0 [(0, .ref 28), (1, .int (nI j)), (2, .int (1)), (3, .int (x))] [] (xC q ++ (xD (s) (b) ++ g)) (.returned (some (.int (nI 0)))) (xC q ++ (xD (s) (xu b 0 0 (nI 1)) ++ g)) 0 0 := by
  refine xv_m 2 rfl ?_
  refine xv_c0 (r := 101) (nip := 3) (cost := 13) rfl (by omega) (by omega) (m_101t (by omega) hSO hj (hd := by omega) (hw := by omega)) ?_
  refine xv_bf rfl (by decide +kernel) ?_
  refine xv_m 1 rfl ?_
  refine xv_bf rfl (by decide +kernel) ?_
  refine xv_m 2 rfl ?_
  refine xv_c0 (r := 100) (nip := 9) (cost := 13) rfl (by omega) (by omega) (m_100f (R := R) (by omega) hSR hx (hd := by omega) (hw := by omega)) ?_
  refine xv_bf rfl (by decide +kernel) ?_
  refine xv_m 5 rfl ?_
  refine xv_bt rfl (by decide +kernel) ?_
  refine xv_m 4 rfl ?_
  refine xv_bt rfl (by decide +kernel) ?_
  refine xv_m 8 rfl ?_
  refine xv_c0 (r := 97) (nip := 81) (cost := 16) rfl (by omega) (by omega) (m_97_1) ?_
  refine xv_bf rfl (by decide +kernel) ?_
  refine xv_m 1 rfl ?_
  exact xv_r rfl
theorem r_12db {O : Nat} (hO : O ≤ 60) (hSO : s 17 5 = nI O) {j : Nat} (hj : j < O){D : Nat} (hD : D ≤ 100) (hSD : s 12 4 = nI D) {x : Int32} (hx : x < 0 ∨ s 12 4 ≤ x) (hd : 2 ≤ d) (hw : 27 ≤ w) : xv xm L xs d w 120 0 [(0, .ref 28), (1, .int (nI j)), (2, .int (0)), (3, .int (x))] [] (xC q ++ (xD (s) (b) ++ g)) (.returned (some (.int (nI 0)))) (xC q ++ (xD (s) (xu b 0 0 (nI 1)) ++ g)) 0 0 := by
  refine xv_m 2 rfl ?_
  refine xv_c0 (r := 101) (nip := 3) (cost := 13) rfl (by omega) (by omega) (m_101t (by omega) hSO hj (hd := by omega) (hw := by omega)) ?_
  refine xv_bf rfl (by decide +kernel) ?_
  refine xv_m 1 rfl ?_
  refine xv_bt rfl (by decide +kernel) ?_
  refine xv_m 6 rfl ?_
  refine xv_ei (show s 12 4 - nI 1 = nI D - nI 1 by rw [hSD]) ?_
  refine xv_c0 (r := 98) (nip := 18) (cost := 14) rfl (by omega) (by omega) (m_98f (xi_2 (by omega) hSD hx)) ?_
  refine xv_bf rfl (by decide +kernel) ?_
  refine xv_m 4 rfl ?_
  refine xv_bt rfl (by decide +kernel) ?_
  refine xv_m 4 rfl ?_
  refine xv_bt rfl (by decide +kernel) ?_
  refine xv_m 8 rfl ?_
  refine xv_c0 (r := 97) (nip := 81) (cost := 16) rfl (by omega) (by omega) (m_97_1) ?_
  refine xv_bf rfl (by decide +kernel) ?_
  refine xv_m 1 rfl ?_
  exact xv_r rfl
theorem r_12rc {O : Nat} (hO : O ≤ 60) (hSO : s 17 5 = nI O) {j : Nat} (hj : j < O){R : Nat} (hR : R ≤ 10) (hSR : s 9 2 = nI R) {r : Nat} (hr : r < R) (h1 : b 1 j = 1) (hd : 2 ≤ d) (hw : 27 ≤ w) : xv xm L xs d w 120 0 [(0, .ref 28), (1, .int (nI j)), (2, .int (1)), (3, .int (nI r))] [] (xC q ++ (xD (s) (b) ++ g)) (.returned (some (.int (nI 0)))) (xC q ++ (xD (s) (xu b 0 0 (nI 2)) ++ g)) 0 0 := by
  refine xv_m 2 rfl ?_
  refine xv_c0 (r := 101) (nip := 3) (cost := 13) rfl (by omega) (by omega) (m_101t (by omega) hSO hj (hd := by omega) (hw := by omega)) ?_
  refine xv_bf rfl (by decide +kernel) ?_
  refine xv_m 1 rfl ?_
  refine xv_bf rfl (by decide +kernel) ?_
  refine xv_m 2 rfl ?_
  refine xv_c0 (r := 100) (nip := 9) (cost := 13) rfl (by omega) (by omega) (m_100t (by omega) hSR hr (hd := by omega) (hw := by omega)) ?_
  refine xv_bt rfl (by decide +kernel) ?_
  refine xv_m 3 rfl ?_
  refine xv_bf rfl (by decide +kernel) ?_
  refine xv_m 3 rfl ?_
  refine xv_ba (_) rfl rfl rfl (by omega) (by omega) ?_
  refine xv_bf rfl (xc_eqF (by rw [h1]; decide)) ?_
  refine xv_m 4 rfl ?_
  refine xv_bt rfl (by decide +kernel) ?_
  refine xv_m 8 rfl ?_
  refine xv_c0 (r := 97) (nip := 81) (cost := 16) rfl (by omega) (by omega) (m_97_2) ?_
  refine xv_bf rfl (by decide +kernel) ?_
  refine xv_m 1 rfl ?_
  exact xv_r rfl
theorem r_12dc {O : Nat} (hO : O ≤ 60) (hSO : s 17 5 = nI O) {j : Nat} (hj : j < O){D : Nat} (hD : D ≤ 100) (hSD : s 12 4 = nI D) {k : Nat} (hk : k < D) (h1 : b 1 j = 1) (hd : 2 ≤ d) (hw : 27 ≤ w) : xv xm L xs d w 120 0 [(0, .ref 28), (1, .int (nI j)), (2, .int (0)), (3, .int (nI k))] [] (xC q ++ (xD (s) (b) ++ g)) (.returned (some (.int (nI 0)))) (xC q ++ (xD (s) (xu b 0 0 (nI 2)) ++ g)) 0 0 := by
  refine xv_m 2 rfl ?_
  refine xv_c0 (r := 101) (nip := 3) (cost := 13) rfl (by omega) (by omega) (m_101t (by omega) hSO hj (hd := by omega) (hw := by omega)) ?_
  refine xv_bf rfl (by decide +kernel) ?_
  refine xv_m 1 rfl ?_
  refine xv_bt rfl (by decide +kernel) ?_
  refine xv_m 6 rfl ?_
  refine xv_ei (show s 12 4 - nI 1 = nI D - nI 1 by rw [hSD]) ?_
  refine xv_c0 (r := 98) (nip := 18) (cost := 14) rfl (by omega) (by omega) (m_98t (nI_pos' (by omega)) (xi_1 hk (by omega))) ?_
  refine xv_bt rfl (by decide +kernel) ?_
  refine xv_m 3 rfl ?_
  refine xv_bf rfl (by decide +kernel) ?_
  refine xv_m 3 rfl ?_
  refine xv_ba (_) rfl rfl rfl (by omega) (by omega) ?_
  refine xv_bf rfl (xc_eqF (by rw [h1]; decide)) ?_
  refine xv_m 4 rfl ?_
  refine xv_bt rfl (by decide +kernel) ?_
  refine xv_m 8 rfl ?_
  refine xv_c0 (r := 97) (nip := 81) (cost := 16) rfl (by omega) (by omega) (m_97_2) ?_
  refine xv_bf rfl (by decide +kernel) ?_
  refine xv_m 1 rfl ?_
  exact xv_r rfl
theorem r_12rd {O : Nat} (hO : O ≤ 60) (hSO : s 17 5 = nI O) {j : Nat} (hj : j < O){R : Nat} (hR : R ≤ 10) (hSR : s 9 2 = nI R) {r : Nat} (hr : r < R) (h1 : b 1 j = 0) (h2 : s 20 (10 * j + r) = 1) (hd : 2 ≤ d) (hw : 27 ≤ w) : xv xm L xs d w 120 0 [(0, .ref 28), (1, .int (nI j)), (2, .int (1)), (3, .int (nI r))] [] (xC q ++ (xD (s) (b) ++ g)) (.returned (some (.int (nI 0)))) (xC q ++ (xD (s) (xu b 0 0 (nI 2)) ++ g)) 0 0 := by
  refine xv_m 2 rfl ?_
  refine xv_c0 (r := 101) (nip := 3) (cost := 13) rfl (by omega) (by omega) (m_101t (by omega) hSO hj (hd := by omega) (hw := by omega)) ?_
  refine xv_bf rfl (by decide +kernel) ?_
  refine xv_m 1 rfl ?_
  refine xv_bf rfl (by decide +kernel) ?_
  refine xv_m 2 rfl ?_
  refine xv_c0 (r := 100) (nip := 9) (cost := 13) rfl (by omega) (by omega) (m_100t (by omega) hSR hr (hd := by omega) (hw := by omega)) ?_
  refine xv_bt rfl (by decide +kernel) ?_
  refine xv_m 3 rfl ?_
  refine xv_bf rfl (by decide +kernel) ?_
  refine xv_m 3 rfl ?_
  refine xv_ba (_) rfl rfl rfl (by omega) (by omega) ?_
  refine xv_bt rfl (xc_eqT h1) ?_
  refine xv_m 3 rfl ?_
  refine xv_bf rfl (by decide +kernel) ?_
  refine xv_m 1 rfl ?_
  refine xv_bf rfl (by decide +kernel) ?_
  refine xv_m 7 rfl ?_
  refine xv_ba (10 * j + r) rfl rfl (by first | rfl | (simp only [xa_c0, pk_mul, nI_add]; done) | (simp only [xa_c0, pk_mul, nI_add]; congr 1; omega)) (by omega) (by omega) ?_
  refine xv_bf rfl (xc_eqF (by rw [h2]; decide)) ?_
  refine xv_m 9 rfl ?_
  refine xv_c0 (r := 97) (nip := 81) (cost := 16) rfl (by omega) (by omega) (m_97_2) ?_
  refine xv_bf rfl (by decide +kernel) ?_
  refine xv_m 1 rfl ?_
  exact xv_r rfl
theorem r_12dd {O : Nat} (hO : O ≤ 60) (hSO : s 17 5 = nI O) {j : Nat} (hj : j < O){D : Nat} (hD : D ≤ 100) (hSD : s 12 4 = nI D) {k : Nat} (hk : k < D) (h1 : b 1 j = 0) (e1 : ¬ s 13 k = s 18 j) (hd : 2 ≤ d) (hw : 27 ≤ w) : xv xm L xs d w 120 0 [(0, .ref 28), (1, .int (nI j)), (2, .int (0)), (3, .int (nI k))] [] (xC q ++ (xD (s) (b) ++ g)) (.returned (some (.int (nI 0)))) (xC q ++ (xD (s) (xu b 0 0 (nI 2)) ++ g)) 0 0 := by
  refine xv_m 2 rfl ?_
  refine xv_c0 (r := 101) (nip := 3) (cost := 13) rfl (by omega) (by omega) (m_101t (by omega) hSO hj (hd := by omega) (hw := by omega)) ?_
  refine xv_bf rfl (by decide +kernel) ?_
  refine xv_m 1 rfl ?_
  refine xv_bt rfl (by decide +kernel) ?_
  refine xv_m 6 rfl ?_
  refine xv_ei (show s 12 4 - nI 1 = nI D - nI 1 by rw [hSD]) ?_
  refine xv_c0 (r := 98) (nip := 18) (cost := 14) rfl (by omega) (by omega) (m_98t (nI_pos' (by omega)) (xi_1 hk (by omega))) ?_
  refine xv_bt rfl (by decide +kernel) ?_
  refine xv_m 3 rfl ?_
  refine xv_bf rfl (by decide +kernel) ?_
  refine xv_m 3 rfl ?_
  refine xv_ba (_) rfl rfl rfl (by omega) (by omega) ?_
  refine xv_bt rfl (xc_eqT h1) ?_
  refine xv_m 3 rfl ?_
  refine xv_bf rfl (by decide +kernel) ?_
  refine xv_m 1 rfl ?_
  refine xv_bt rfl (by decide +kernel) ?_
  refine xv_m 3 rfl ?_
  refine xv_ia (_) rfl rfl rfl (by omega) (by omega) ?_
  refine xv_m 3 rfl ?_
  refine xv_ia (_) rfl rfl rfl (by omega) (by omega) ?_
  refine xv_bt rfl (xc_neT e1) ?_
  refine xv_m 8 rfl ?_
  refine xv_c0 (r := 97) (nip := 81) (cost := 16) rfl (by omega) (by omega) (m_97_2) ?_
  refine xv_bf rfl (by decide +kernel) ?_
  refine xv_m 1 rfl ?_
  exact xv_r rfl
theorem r_12de {O : Nat} (hO : O ≤ 60) (hSO : s 17 5 = nI O) {j : Nat} (hj : j < O){D : Nat} (hD : D ≤ 100) (hSD : s 12 4 = nI D) {k : Nat} (hk : k < D) (h1 : b 1 j = 0) (e1 : s 13 k = s 18 j) (e2 : ¬ s 15 k = 0) (hd : 2 ≤ d) (hw : 27 ≤ w) : xv xm L xs d w 120 0 [(0, .ref 28), (1, .int (nI j)), (2, .int (0)), (3, .int (nI k))] [] (xC q ++ (xD (s) (b) ++ g)) (.returned (some (.int (nI 0)))) (xC q ++ (xD (s) (xu b 0 0 (nI 2)) ++ g)) 0 0 := by
  refine xv_m 2 rfl ?_
  refine xv_c0 (r := 101) (nip := 3) (cost := 13) rfl (by omega) (by omega) (m_101t (by omega) hSO hj (hd := by omega) (hw := by omega)) ?_
  refine xv_bf rfl (by decide +kernel) ?_
  refine xv_m 1 rfl ?_
  refine xv_bt rfl (by decide +kernel) ?_
  refine xv_m 6 rfl ?_
  refine xv_ei (show s 12 4 - nI 1 = nI D - nI 1 by rw [hSD]) ?_
  refine xv_c0 (r := 98) (nip := 18) (cost := 14) rfl (by omega) (by omega) (m_98t (nI_pos' (by omega)) (xi_1 hk (by omega))) ?_
  refine xv_bt rfl (by decide +kernel) ?_
  refine xv_m 3 rfl ?_
  refine xv_bf rfl (by decide +kernel) ?_
  refine xv_m 3 rfl ?_
  refine xv_ba (_) rfl rfl rfl (by omega) (by omega) ?_
  refine xv_bt rfl (xc_eqT h1) ?_
  refine xv_m 3 rfl ?_
  refine xv_bf rfl (by decide +kernel) ?_
  refine xv_m 1 rfl ?_
  refine xv_bt rfl (by decide +kernel) ?_
  refine xv_m 3 rfl ?_
  refine xv_ia (_) rfl rfl rfl (by omega) (by omega) ?_
  refine xv_m 3 rfl ?_
  refine xv_ia (_) rfl rfl rfl (by omega) (by omega) ?_
  refine xv_bf rfl (xc_neF e1) ?_
  refine xv_m 3 rfl ?_
  refine xv_ia (_) rfl rfl rfl (by omega) (by omega) ?_
  refine xv_bt rfl (xc_neT e2) ?_
  refine xv_m 8 rfl ?_
  refine xv_c0 (r := 97) (nip := 81) (cost := 16) rfl (by omega) (by omega) (m_97_2) ?_
  refine xv_bf rfl (by decide +kernel) ?_
  refine xv_m 1 rfl ?_
  exact xv_r rfl
theorem r_12df {O : Nat} (hO : O ≤ 60) (hSO : s 17 5 = nI O) {j : Nat} (hj : j < O){D : Nat} (hD : D ≤ 100) (hSD : s 12 4 = nI D) {k : Nat} (hk : k < D) (h1 : b 1 j = 0) (e1 : s 13 k = s 18 j) (e2 : s 15 k = 0) (e3 : b 2 (100 * j + k) = 1) (hd : 2 ≤ d) (hw : 27 ≤ w) : xv xm L xs d w 120 0 [(0, .ref 28), (1, .int (nI j)), (2, .int (0)), (3, .int (nI k))] [] (xC q ++ (xD (s) (b) ++ g)) (.returned (some (.int (nI 0)))) (xC q ++ (xD (s) (xu b 0 0 (nI 2)) ++ g)) 0 0 := by
  refine xv_m 2 rfl ?_
  refine xv_c0 (r := 101) (nip := 3) (cost := 13) rfl (by omega) (by omega) (m_101t (by omega) hSO hj (hd := by omega) (hw := by omega)) ?_
  refine xv_bf rfl (by decide +kernel) ?_
  refine xv_m 1 rfl ?_
  refine xv_bt rfl (by decide +kernel) ?_
  refine xv_m 6 rfl ?_
  refine xv_ei (show s 12 4 - nI 1 = nI D - nI 1 by rw [hSD]) ?_
  refine xv_c0 (r := 98) (nip := 18) (cost := 14) rfl (by omega) (by omega) (m_98t (nI_pos' (by omega)) (xi_1 hk (by omega))) ?_
  refine xv_bt rfl (by decide +kernel) ?_
  refine xv_m 3 rfl ?_
  refine xv_bf rfl (by decide +kernel) ?_
  refine xv_m 3 rfl ?_
  refine xv_ba (_) rfl rfl rfl (by omega) (by omega) ?_
  refine xv_bt rfl (xc_eqT h1) ?_
  refine xv_m 3 rfl ?_
  refine xv_bf rfl (by decide +kernel) ?_
  refine xv_m 1 rfl ?_
  refine xv_bt rfl (by decide +kernel) ?_
  refine xv_m 3 rfl ?_
  refine xv_ia (_) rfl rfl rfl (by omega) (by omega) ?_
  refine xv_m 3 rfl ?_
  refine xv_ia (_) rfl rfl rfl (by omega) (by omega) ?_
  refine xv_bf rfl (xc_neF e1) ?_
  refine xv_m 3 rfl ?_
  refine xv_ia (_) rfl rfl rfl (by omega) (by omega) ?_
  refine xv_bf rfl (xc_neF e2) ?_
  refine xv_m 7 rfl ?_
  refine xv_ba (100 * j + k) rfl rfl (by first | rfl | (simp only [xa_c0, pk_mul, nI_add]; done) | (simp only [xa_c0, pk_mul, nI_add]; congr 1; omega)) (by omega) (by omega) ?_
  refine xv_bf rfl (xc_eqF (by rw [e3]; decide)) ?_
  refine xv_m 8 rfl ?_
  refine xv_c0 (r := 97) (nip := 81) (cost := 16) rfl (by omega) (by omega) (m_97_2) ?_
  refine xv_bf rfl (by decide +kernel) ?_
  refine xv_m 1 rfl ?_
  exact xv_r rfl
theorem r_13w {O : Nat} (hO : O ≤ 60) (hSO : s 17 5 = nI O) {j : Nat} (hj : j < O) {p : Nat} (hp : p < 100) {x y : Int32} (h2 : nI 1 ≤ x) (h3 : x ≤ nI 100) (h4 : nI 0 ≤ y) (h5 : y ≤ nI 1000000) (h1 : b 1 j = 0) {v : Nat} (hv : v < 30) (hOv : s 18 j = nI v) (hw1 : s 0 5 < s 8 (100 * v + p)) (hm : nI 0 ≤ s 0 6) (hq : ¬ s 17 6 = nI 100) (hd : 2 ≤ d) (hw : 27 ≤ w) : xv xm L xs d w 121 0 [(0, .ref 28), (1, .int (nI j)), (2, .int (nI p)), (3, .int (x)), (4, .int (y))] [] (xC q ++ (xD (s) (b) ++ g)) (.returned (some (.int (nI 0)))) (xC q ++ (xD (f_prt s j (nI 0)) (xu b 0 0 (nI 0)) ++ g)) 0 0 := by
  refine xv_m 2 rfl ?_
  refine xv_c0 (r := 101) (nip := 3) (cost := 13) rfl (by omega) (by omega) (m_101t (by omega) hSO hj (hd := by omega) (hw := by omega)) ?_
  refine xv_bf rfl (by decide +kernel) ?_
  refine xv_m 3 rfl ?_
  refine xv_c0 (r := 98) (nip := 8) (cost := 14) rfl (by omega) (by omega) (m_98t (nI_pos' (by omega)) (nI_le (b := 99) (by omega) (by omega))) ?_
  refine xv_bt rfl (by decide +kernel) ?_
  refine xv_m 5 rfl ?_
  refine xv_c0 (r := 98) (nip := 17) (cost := 14) rfl (by omega) (by omega) (m_98t h2 h3) ?_
  refine xv_bf rfl (by decide +kernel) ?_
  refine xv_m 3 rfl ?_
  refine xv_c0 (r := 98) (nip := 22) (cost := 14) rfl (by omega) (by omega) (m_98t h4 h5) ?_
  refine xv_bt rfl (by decide +kernel) ?_
  refine xv_m 5 rfl ?_
  refine xv_bf rfl (by decide +kernel) ?_
  refine xv_m 1 rfl ?_
  refine xv_bf rfl (by decide +kernel) ?_
  refine xv_m 6 rfl ?_
  refine xv_ia (_) rfl rfl rfl (by omega) (by omega) ?_
  refine xv_m 3 rfl ?_
  refine xv_ia (100 * v + p) rfl rfl (by show nI 100 * s 18 j + nI p = _; rw [hOv, pk_mul, nI_add]) (by omega) (by omega) ?_
  refine xv_m 2 rfl ?_
  refine xv_bt rfl (xd_gtT hw1) ?_
  refine xv_m 1 rfl ?_
  refine xv_bf rfl (by decide +kernel) ?_
  refine xv_m 3 rfl ?_
  refine xv_ba (_) rfl rfl rfl (by omega) (by omega) ?_
  refine xv_bf rfl (xc_neF h1) ?_
  refine xv_m 3 rfl ?_
  refine xv_bt rfl (xd_leT hm) ?_
  refine xv_m 9 rfl ?_
  refine xv_bt rfl (xc_neT hq) ?_
  refine xv_m 1 rfl ?_
  refine xv_c0 (r := 97) (nip := 78) (cost := 16) rfl (by omega) (by omega) (m_97_0) ?_
  refine xv_bt rfl (by decide +kernel) ?_
  refine xv_m 6 (h1 := xC q ++ (xD (xu s 17 6 (s 17 6 + nI 1)) (xu b 0 0 (nI 0)) ++ g)) rfl ?_
  refine xv_m 6 (h1 := xC q ++ (xD (xu (xu s 17 6 (s 17 6 + nI 1)) 0 6 (s 0 6 - (nI 0))) (xu b 0 0 (nI 0)) ++ g)) rfl ?_
  refine xv_m 4 rfl ?_
  refine xv_ia (_) rfl rfl rfl (by omega) (by omega) ?_
  refine xv_m 2 rfl ?_
  refine xv_ias (j) (xC q ++ (xD (f_prt s j (nI 0)) (xu b 0 0 (nI 0)) ++ g)) rfl rfl (by first | rfl | (simp only [xa_c0, pk_mul, nI_add]; done) | (simp only [xa_c0, pk_mul, nI_add]; congr 1; omega)) (by omega) (by omega) rfl ?_
  refine xv_m 1 rfl ?_
  exact xv_r rfl
theorem r_13fw {O : Nat} (hO : O ≤ 60) (hSO : s 17 5 = nI O) {j : Nat} (hj : j < O) {p : Nat} (hp : p < 100) {x y : Int32} (h2 : nI 1 ≤ x) (h3 : x ≤ nI 100) (h4 : nI 0 ≤ y) (h5 : y ≤ nI 1000000) (h1 : b 1 j = 0) {v : Nat} (hv : v < 30) (hOv : s 18 j = nI v) (hw1 : s 0 5 < s 8 (100 * v + p)) (hm : s 0 6 < nI 0) (hd : 2 ≤ d) (hw : 27 ≤ w) : xv xm L xs d w 121 0 [(0, .ref 28), (1, .int (nI j)), (2, .int (nI p)), (3, .int (x)), (4, .int (y))] [] (xC q ++ (xD (s) (b) ++ g)) (.returned (some (.int (nI 0)))) (xC q ++ (xD (s) (xu b 0 0 (nI 3)) ++ g)) 0 0 := by
  refine xv_m 2 rfl ?_
  refine xv_c0 (r := 101) (nip := 3) (cost := 13) rfl (by omega) (by omega) (m_101t (by omega) hSO hj (hd := by omega) (hw := by omega)) ?_
  refine xv_bf rfl (by decide +kernel) ?_
  refine xv_m 3 rfl ?_
  refine xv_c0 (r := 98) (nip := 8) (cost := 14) rfl (by omega) (by omega) (m_98t (nI_pos' (by omega)) (nI_le (b := 99) (by omega) (by omega))) ?_
  refine xv_bt rfl (by decide +kernel) ?_
  refine xv_m 5 rfl ?_
  refine xv_c0 (r := 98) (nip := 17) (cost := 14) rfl (by omega) (by omega) (m_98t h2 h3) ?_
  refine xv_bf rfl (by decide +kernel) ?_
  refine xv_m 3 rfl ?_
  refine xv_c0 (r := 98) (nip := 22) (cost := 14) rfl (by omega) (by omega) (m_98t h4 h5) ?_
  refine xv_bt rfl (by decide +kernel) ?_
  refine xv_m 5 rfl ?_
  refine xv_bf rfl (by decide +kernel) ?_
  refine xv_m 1 rfl ?_
  refine xv_bf rfl (by decide +kernel) ?_
  refine xv_m 6 rfl ?_
  refine xv_ia (_) rfl rfl rfl (by omega) (by omega) ?_
  refine xv_m 3 rfl ?_
  refine xv_ia (100 * v + p) rfl rfl (by show nI 100 * s 18 j + nI p = _; rw [hOv, pk_mul, nI_add]) (by omega) (by omega) ?_
  refine xv_m 2 rfl ?_
  refine xv_bt rfl (xd_gtT hw1) ?_
  refine xv_m 1 rfl ?_
  refine xv_bf rfl (by decide +kernel) ?_
  refine xv_m 3 rfl ?_
  refine xv_ba (_) rfl rfl rfl (by omega) (by omega) ?_
  refine xv_bf rfl (xc_neF h1) ?_
  refine xv_m 3 rfl ?_
  refine xv_bf rfl (xd_leF hm) ?_
  refine xv_m 10 rfl ?_
  refine xv_b rfl (fun hc => ?_) (fun hc => ?_)
  · refine xv_m 1 rfl ?_
    refine xv_c0 (r := 97) (nip := 78) (cost := 16) rfl (by omega) (by omega) (m_97_3) ?_
    refine xv_bf rfl (by decide +kernel) ?_
    refine xv_m 1 rfl ?_
    exact xv_r rfl
  · refine xv_m 2 rfl ?_
    refine xv_c0 (r := 97) (nip := 78) (cost := 16) rfl (by omega) (by omega) (m_97_3) ?_
    refine xv_bf rfl (by decide +kernel) ?_
    refine xv_m 1 rfl ?_
    exact xv_r rfl
theorem r_13gw {O : Nat} (hO : O ≤ 60) (hSO : s 17 5 = nI O) {j : Nat} (hj : j < O) {p : Nat} (hp : p < 100) {x y : Int32} (h2 : nI 1 ≤ x) (h3 : x ≤ nI 100) (h4 : nI 0 ≤ y) (h5 : y ≤ nI 1000000) (h1 : b 1 j = 0) {v : Nat} (hv : v < 30) (hOv : s 18 j = nI v) (hw1 : s 0 5 < s 8 (100 * v + p)) (hm : nI 0 ≤ s 0 6) (hq : s 17 6 = nI 100) (hd : 2 ≤ d) (hw : 27 ≤ w) : xv xm L xs d w 121 0 [(0, .ref 28), (1, .int (nI j)), (2, .int (nI p)), (3, .int (x)), (4, .int (y))] [] (xC q ++ (xD (s) (b) ++ g)) (.returned (some (.int (nI 0)))) (xC q ++ (xD (s) (xu b 0 0 (nI 4)) ++ g)) 0 0 := by
  refine xv_m 2 rfl ?_
  refine xv_c0 (r := 101) (nip := 3) (cost := 13) rfl (by omega) (by omega) (m_101t (by omega) hSO hj (hd := by omega) (hw := by omega)) ?_
  refine xv_bf rfl (by decide +kernel) ?_
  refine xv_m 3 rfl ?_
  refine xv_c0 (r := 98) (nip := 8) (cost := 14) rfl (by omega) (by omega) (m_98t (nI_pos' (by omega)) (nI_le (b := 99) (by omega) (by omega))) ?_
  refine xv_bt rfl (by decide +kernel) ?_
  refine xv_m 5 rfl ?_
  refine xv_c0 (r := 98) (nip := 17) (cost := 14) rfl (by omega) (by omega) (m_98t h2 h3) ?_
  refine xv_bf rfl (by decide +kernel) ?_
  refine xv_m 3 rfl ?_
  refine xv_c0 (r := 98) (nip := 22) (cost := 14) rfl (by omega) (by omega) (m_98t h4 h5) ?_
  refine xv_bt rfl (by decide +kernel) ?_
  refine xv_m 5 rfl ?_
  refine xv_bf rfl (by decide +kernel) ?_
  refine xv_m 1 rfl ?_
  refine xv_bf rfl (by decide +kernel) ?_
  refine xv_m 6 rfl ?_
  refine xv_ia (_) rfl rfl rfl (by omega) (by omega) ?_
  refine xv_m 3 rfl ?_
  refine xv_ia (100 * v + p) rfl rfl (by show nI 100 * s 18 j + nI p = _; rw [hOv, pk_mul, nI_add]) (by omega) (by omega) ?_
  refine xv_m 2 rfl ?_
  refine xv_bt rfl (xd_gtT hw1) ?_
  refine xv_m 1 rfl ?_
  refine xv_bf rfl (by decide +kernel) ?_
  refine xv_m 3 rfl ?_
  refine xv_ba (_) rfl rfl rfl (by omega) (by omega) ?_
  refine xv_bf rfl (xc_neF h1) ?_
  refine xv_m 3 rfl ?_
  refine xv_bt rfl (xd_leT hm) ?_
  refine xv_m 9 rfl ?_
  refine xv_bf rfl (xc_neF hq) ?_
  refine xv_m 2 rfl ?_
  refine xv_c0 (r := 97) (nip := 78) (cost := 16) rfl (by omega) (by omega) (m_97_4) ?_
  refine xv_bf rfl (by decide +kernel) ?_
  refine xv_m 1 rfl ?_
  exact xv_r rfl
theorem r_13ew {O : Nat} (hO : O ≤ 60) (hSO : s 17 5 = nI O) {j : Nat} (hj : j < O) {p : Nat} (hp : p < 100) {x y : Int32} (h2 : nI 1 ≤ x) (h3 : x ≤ nI 100) (h4 : nI 0 ≤ y) (h5 : y ≤ nI 1000000) (h1 : b 1 j = 1) {v : Nat} (hv : v < 30) (hOv : s 18 j = nI v) (hw1 : s 0 5 < s 8 (100 * v + p)) (hd : 2 ≤ d) (hw : 27 ≤ w) : xv xm L xs d w 121 0 [(0, .ref 28), (1, .int (nI j)), (2, .int (nI p)), (3, .int (x)), (4, .int (y))] [] (xC q ++ (xD (s) (b) ++ g)) (.returned (some (.int (nI 0)))) (xC q ++ (xD (s) (xu b 0 0 (nI 3)) ++ g)) 0 0 := by
  refine xv_m 2 rfl ?_
  refine xv_c0 (r := 101) (nip := 3) (cost := 13) rfl (by omega) (by omega) (m_101t (by omega) hSO hj (hd := by omega) (hw := by omega)) ?_
  refine xv_bf rfl (by decide +kernel) ?_
  refine xv_m 3 rfl ?_
  refine xv_c0 (r := 98) (nip := 8) (cost := 14) rfl (by omega) (by omega) (m_98t (nI_pos' (by omega)) (nI_le (b := 99) (by omega) (by omega))) ?_
  refine xv_bt rfl (by decide +kernel) ?_
  refine xv_m 5 rfl ?_
  refine xv_c0 (r := 98) (nip := 17) (cost := 14) rfl (by omega) (by omega) (m_98t h2 h3) ?_
  refine xv_bf rfl (by decide +kernel) ?_
  refine xv_m 3 rfl ?_
  refine xv_c0 (r := 98) (nip := 22) (cost := 14) rfl (by omega) (by omega) (m_98t h4 h5) ?_
  refine xv_bt rfl (by decide +kernel) ?_
  refine xv_m 5 rfl ?_
  refine xv_bf rfl (by decide +kernel) ?_
  refine xv_m 1 rfl ?_
  refine xv_bf rfl (by decide +kernel) ?_
  refine xv_m 6 rfl ?_
  refine xv_ia (_) rfl rfl rfl (by omega) (by omega) ?_
  refine xv_m 3 rfl ?_
  refine xv_ia (100 * v + p) rfl rfl (by show nI 100 * s 18 j + nI p = _; rw [hOv, pk_mul, nI_add]) (by omega) (by omega) ?_
  refine xv_m 2 rfl ?_
  refine xv_bt rfl (xd_gtT hw1) ?_
  refine xv_m 1 rfl ?_
  refine xv_bf rfl (by decide +kernel) ?_
  refine xv_m 3 rfl ?_
  refine xv_ba (_) rfl rfl rfl (by omega) (by omega) ?_
  refine xv_bt rfl (xc_neT (by rw [h1]; decide)) ?_
  refine xv_m 10 rfl ?_
  refine xv_b rfl (fun hc => ?_) (fun hc => ?_)
  · refine xv_m 1 rfl ?_
    refine xv_c0 (r := 97) (nip := 78) (cost := 16) rfl (by omega) (by omega) (m_97_3) ?_
    refine xv_bf rfl (by decide +kernel) ?_
    refine xv_m 1 rfl ?_
    exact xv_r rfl
  · refine xv_m 2 rfl ?_
    refine xv_c0 (r := 97) (nip := 78) (cost := 16) rfl (by omega) (by omega) (m_97_3) ?_
    refine xv_bf rfl (by decide +kernel) ?_
    refine xv_m 1 rfl ?_
    exact xv_r rfl
theorem r_13n {O : Nat} (hO : O ≤ 60) (hSO : s 17 5 = nI O) {j : Nat} (hj : j < O) {p : Nat} (hp : p < 100) {x y : Int32} (h2 : nI 1 ≤ x) (h3 : x ≤ nI 100) (h4 : nI 0 ≤ y) (h5 : y ≤ nI 1000000) (h1 : b 1 j = 0) {v : Nat} (hv : v < 30) (hOv : s 18 j = nI v) (hw1 : s 8 (100 * v + p) ≤ s 0 5) (hm : x * y ≤ s 0 6) (hq : ¬ s 17 6 = nI 100) (hd : 2 ≤ d) (hw : 27 ≤ w) : xv xm L xs d w 121 0 [(0, .ref 28), (1, .int (nI j)), (2, .int (nI p)), (3, .int (x)), (4, .int (y))] [] (xC q ++ (xD (s) (b) ++ g)) (.returned (some (.int (x * y)))) (xC q ++ (xD (f_prt s j (x * y)) (xu b 0 0 (nI 0)) ++ g)) 0 0 := by
  refine xv_m 2 rfl ?_
  refine xv_c0 (r := 101) (nip := 3) (cost := 13) rfl (by omega) (by omega) (m_101t (by omega) hSO hj (hd := by omega) (hw := by omega)) ?_
  refine xv_bf rfl (by decide +kernel) ?_
  refine xv_m 3 rfl ?_
  refine xv_c0 (r := 98) (nip := 8) (cost := 14) rfl (by omega) (by omega) (m_98t (nI_pos' (by omega)) (nI_le (b := 99) (by omega) (by omega))) ?_
  refine xv_bt rfl (by decide +kernel) ?_
  refine xv_m 5 rfl ?_
  refine xv_c0 (r := 98) (nip := 17) (cost := 14) rfl (by omega) (by omega) (m_98t h2 h3) ?_
  refine xv_bf rfl (by decide +kernel) ?_
  refine xv_m 3 rfl ?_
  refine xv_c0 (r := 98) (nip := 22) (cost := 14) rfl (by omega) (by omega) (m_98t h4 h5) ?_
  refine xv_bt rfl (by decide +kernel) ?_
  refine xv_m 5 rfl ?_
  refine xv_bf rfl (by decide +kernel) ?_
  refine xv_m 1 rfl ?_
  refine xv_bf rfl (by decide +kernel) ?_
  refine xv_m 6 rfl ?_
  refine xv_ia (_) rfl rfl rfl (by omega) (by omega) ?_
  refine xv_m 3 rfl ?_
  refine xv_ia (100 * v + p) rfl rfl (by show nI 100 * s 18 j + nI p = _; rw [hOv, pk_mul, nI_add]) (by omega) (by omega) ?_
  refine xv_m 2 rfl ?_
  refine xv_bf rfl (xd_gtF hw1) ?_
  refine xv_m 5 rfl ?_
  refine xv_bf rfl (by decide +kernel) ?_
  refine xv_m 3 rfl ?_
  refine xv_ba (_) rfl rfl rfl (by omega) (by omega) ?_
  refine xv_bf rfl (xc_neF h1) ?_
  refine xv_m 3 rfl ?_
  refine xv_bt rfl (xd_leT hm) ?_
  refine xv_m 9 rfl ?_
  refine xv_bt rfl (xc_neT hq) ?_
  refine xv_m 1 rfl ?_
  refine xv_c0 (r := 97) (nip := 78) (cost := 16) rfl (by omega) (by omega) (m_97_0) ?_
  refine xv_bt rfl (by decide +kernel) ?_
  refine xv_m 6 (h1 := xC q ++ (xD (xu s 17 6 (s 17 6 + nI 1)) (xu b 0 0 (nI 0)) ++ g)) rfl ?_
  refine xv_m 6 (h1 := xC q ++ (xD (xu (xu s 17 6 (s 17 6 + nI 1)) 0 6 (s 0 6 - (x * y))) (xu b 0 0 (nI 0)) ++ g)) rfl ?_
  refine xv_m 4 rfl ?_
  refine xv_ia (_) rfl rfl rfl (by omega) (by omega) ?_
  refine xv_m 2 rfl ?_
  refine xv_ias (j) (xC q ++ (xD (f_prt s j (x * y)) (xu b 0 0 (nI 0)) ++ g)) rfl rfl (by first | rfl | (simp only [xa_c0, pk_mul, nI_add]; done) | (simp only [xa_c0, pk_mul, nI_add]; congr 1; omega)) (by omega) (by omega) rfl ?_
  refine xv_m 1 rfl ?_
  exact xv_r rfl
theorem r_13fn {O : Nat} (hO : O ≤ 60) (hSO : s 17 5 = nI O) {j : Nat} (hj : j < O) {p : Nat} (hp : p < 100) {x y : Int32} (h2 : nI 1 ≤ x) (h3 : x ≤ nI 100) (h4 : nI 0 ≤ y) (h5 : y ≤ nI 1000000) (h1 : b 1 j = 0) {v : Nat} (hv : v < 30) (hOv : s 18 j = nI v) (hw1 : s 8 (100 * v + p) ≤ s 0 5) (hm : s 0 6 < x * y) (hd : 2 ≤ d) (hw : 27 ≤ w) : xv xm L xs d w 121 0 [(0, .ref 28), (1, .int (nI j)), (2, .int (nI p)), (3, .int (x)), (4, .int (y))] [] (xC q ++ (xD (s) (b) ++ g)) (.returned (some (.int (nI 0)))) (xC q ++ (xD (s) (xu b 0 0 (nI 3)) ++ g)) 0 0 := by
  refine xv_m 2 rfl ?_
  refine xv_c0 (r := 101) (nip := 3) (cost := 13) rfl (by omega) (by omega) (m_101t (by omega) hSO hj (hd := by omega) (hw := by omega)) ?_
  refine xv_bf rfl (by decide +kernel) ?_
  refine xv_m 3 rfl ?_
  refine xv_c0 (r := 98) (nip := 8) (cost := 14) rfl (by omega) (by omega) (m_98t (nI_pos' (by omega)) (nI_le (b := 99) (by omega) (by omega))) ?_
  refine xv_bt rfl (by decide +kernel) ?_
  refine xv_m 5 rfl ?_
  refine xv_c0 (r := 98) (nip := 17) (cost := 14) rfl (by omega) (by omega) (m_98t h2 h3) ?_
  refine xv_bf rfl (by decide +kernel) ?_
  refine xv_m 3 rfl ?_
  refine xv_c0 (r := 98) (nip := 22) (cost := 14) rfl (by omega) (by omega) (m_98t h4 h5) ?_
  refine xv_bt rfl (by decide +kernel) ?_
  refine xv_m 5 rfl ?_
  refine xv_bf rfl (by decide +kernel) ?_
  refine xv_m 1 rfl ?_
  refine xv_bf rfl (by decide +kernel) ?_
  refine xv_m 6 rfl ?_
  refine xv_ia (_) rfl rfl rfl (by omega) (by omega) ?_
  refine xv_m 3 rfl ?_
  refine xv_ia (100 * v + p) rfl rfl (by show nI 100 * s 18 j + nI p = _; rw [hOv, pk_mul, nI_add]) (by omega) (by omega) ?_
  refine xv_m 2 rfl ?_
  refine xv_bf rfl (xd_gtF hw1) ?_
  refine xv_m 5 rfl ?_
  refine xv_bf rfl (by decide +kernel) ?_
  refine xv_m 3 rfl ?_
  refine xv_ba (_) rfl rfl rfl (by omega) (by omega) ?_
  refine xv_bf rfl (xc_neF h1) ?_
  refine xv_m 3 rfl ?_
  refine xv_bf rfl (xd_leF hm) ?_
  refine xv_m 10 rfl ?_
  refine xv_b rfl (fun hc => ?_) (fun hc => ?_)
  · refine xv_m 1 rfl ?_
    refine xv_c0 (r := 97) (nip := 78) (cost := 16) rfl (by omega) (by omega) (m_97_3) ?_
    refine xv_bf rfl (by decide +kernel) ?_
    refine xv_m 1 rfl ?_
    exact xv_r rfl
  · refine xv_m 2 rfl ?_
    refine xv_c0 (r := 97) (nip := 78) (cost := 16) rfl (by omega) (by omega) (m_97_3) ?_
    refine xv_bf rfl (by decide +kernel) ?_
    refine xv_m 1 rfl ?_
    exact xv_r rfl
theorem r_13gn {O : Nat} (hO : O ≤ 60) (hSO : s 17 5 = nI O) {j : Nat} (hj : j < O) {p : Nat} (hp : p < 100) {x y : Int32} (h2 : nI 1 ≤ x) (h3 : x ≤ nI 100) (h4 : nI 0 ≤ y) (h5 : y ≤ nI 1000000) (h1 : b 1 j = 0) {v : Nat} (hv : v < 30) (hOv : s 18 j = nI v) (hw1 : s 8 (100 * v + p) ≤ s 0 5) (hm : x * y ≤ s 0 6) (hq : s 17 6 = nI 100) (hd : 2 ≤ d) (hw : 27 ≤ w) : xv xm L xs d w 121 0 [(0, .ref 28), (1, .int (nI j)), (2, .int (nI p)), (3, .int (x)), (4, .int (y))] [] (xC q ++ (xD (s) (b) ++ g)) (.returned (some (.int (nI 0)))) (xC q ++ (xD (s) (xu b 0 0 (nI 4)) ++ g)) 0 0 := by
  refine xv_m 2 rfl ?_
  refine xv_c0 (r := 101) (nip := 3) (cost := 13) rfl (by omega) (by omega) (m_101t (by omega) hSO hj (hd := by omega) (hw := by omega)) ?_
  refine xv_bf rfl (by decide +kernel) ?_
  refine xv_m 3 rfl ?_
  refine xv_c0 (r := 98) (nip := 8) (cost := 14) rfl (by omega) (by omega) (m_98t (nI_pos' (by omega)) (nI_le (b := 99) (by omega) (by omega))) ?_
  refine xv_bt rfl (by decide +kernel) ?_
  refine xv_m 5 rfl ?_
  refine xv_c0 (r := 98) (nip := 17) (cost := 14) rfl (by omega) (by omega) (m_98t h2 h3) ?_
  refine xv_bf rfl (by decide +kernel) ?_
  refine xv_m 3 rfl ?_
  refine xv_c0 (r := 98) (nip := 22) (cost := 14) rfl (by omega) (by omega) (m_98t h4 h5) ?_
  refine xv_bt rfl (by decide +kernel) ?_
  refine xv_m 5 rfl ?_
  refine xv_bf rfl (by decide +kernel) ?_
  refine xv_m 1 rfl ?_
  refine xv_bf rfl (by decide +kernel) ?_
  refine xv_m 6 rfl ?_
  refine xv_ia (_) rfl rfl rfl (by omega) (by omega) ?_
  refine xv_m 3 rfl ?_
  refine xv_ia (100 * v + p) rfl rfl (by show nI 100 * s 18 j + nI p = _; rw [hOv, pk_mul, nI_add]) (by omega) (by omega) ?_
  refine xv_m 2 rfl ?_
  refine xv_bf rfl (xd_gtF hw1) ?_
  refine xv_m 5 rfl ?_
  refine xv_bf rfl (by decide +kernel) ?_
  refine xv_m 3 rfl ?_
  refine xv_ba (_) rfl rfl rfl (by omega) (by omega) ?_
  refine xv_bf rfl (xc_neF h1) ?_
  refine xv_m 3 rfl ?_
  refine xv_bt rfl (xd_leT hm) ?_
  refine xv_m 9 rfl ?_
  refine xv_bf rfl (xc_neF hq) ?_
  refine xv_m 2 rfl ?_
  refine xv_c0 (r := 97) (nip := 78) (cost := 16) rfl (by omega) (by omega) (m_97_4) ?_
  refine xv_bf rfl (by decide +kernel) ?_
  refine xv_m 1 rfl ?_
  exact xv_r rfl
theorem r_13en {O : Nat} (hO : O ≤ 60) (hSO : s 17 5 = nI O) {j : Nat} (hj : j < O) {p : Nat} (hp : p < 100) {x y : Int32} (h2 : nI 1 ≤ x) (h3 : x ≤ nI 100) (h4 : nI 0 ≤ y) (h5 : y ≤ nI 1000000) (h1 : b 1 j = 1) {v : Nat} (hv : v < 30) (hOv : s 18 j = nI v) (hw1 : s 8 (100 * v + p) ≤ s 0 5) (hd : 2 ≤ d) (hw : 27 ≤ w) : xv xm L xs d w 121 0 [(0, .ref 28), (1, .int (nI j)), (2, .int (nI p)), (3, .int (x)), (4, .int (y))] [] (xC q ++ (xD (s) (b) ++ g)) (.returned (some (.int (nI 0)))) (xC q ++ (xD (s) (xu b 0 0 (nI 3)) ++ g)) 0 0 := by
  refine xv_m 2 rfl ?_
  refine xv_c0 (r := 101) (nip := 3) (cost := 13) rfl (by omega) (by omega) (m_101t (by omega) hSO hj (hd := by omega) (hw := by omega)) ?_
  refine xv_bf rfl (by decide +kernel) ?_
  refine xv_m 3 rfl ?_
  refine xv_c0 (r := 98) (nip := 8) (cost := 14) rfl (by omega) (by omega) (m_98t (nI_pos' (by omega)) (nI_le (b := 99) (by omega) (by omega))) ?_
  refine xv_bt rfl (by decide +kernel) ?_
  refine xv_m 5 rfl ?_
  refine xv_c0 (r := 98) (nip := 17) (cost := 14) rfl (by omega) (by omega) (m_98t h2 h3) ?_
  refine xv_bf rfl (by decide +kernel) ?_
  refine xv_m 3 rfl ?_
  refine xv_c0 (r := 98) (nip := 22) (cost := 14) rfl (by omega) (by omega) (m_98t h4 h5) ?_
  refine xv_bt rfl (by decide +kernel) ?_
  refine xv_m 5 rfl ?_
  refine xv_bf rfl (by decide +kernel) ?_
  refine xv_m 1 rfl ?_
  refine xv_bf rfl (by decide +kernel) ?_
  refine xv_m 6 rfl ?_
  refine xv_ia (_) rfl rfl rfl (by omega) (by omega) ?_
  refine xv_m 3 rfl ?_
  refine xv_ia (100 * v + p) rfl rfl (by show nI 100 * s 18 j + nI p = _; rw [hOv, pk_mul, nI_add]) (by omega) (by omega) ?_
  refine xv_m 2 rfl ?_
  refine xv_bf rfl (xd_gtF hw1) ?_
  refine xv_m 5 rfl ?_
  refine xv_bf rfl (by decide +kernel) ?_
  refine xv_m 3 rfl ?_
  refine xv_ba (_) rfl rfl rfl (by omega) (by omega) ?_
  refine xv_bt rfl (xc_neT (by rw [h1]; decide)) ?_
  refine xv_m 10 rfl ?_
  refine xv_b rfl (fun hc => ?_) (fun hc => ?_)
  · refine xv_m 1 rfl ?_
    refine xv_c0 (r := 97) (nip := 78) (cost := 16) rfl (by omega) (by omega) (m_97_3) ?_
    refine xv_bf rfl (by decide +kernel) ?_
    refine xv_m 1 rfl ?_
    exact xv_r rfl
  · refine xv_m 2 rfl ?_
    refine xv_c0 (r := 97) (nip := 78) (cost := 16) rfl (by omega) (by omega) (m_97_3) ?_
    refine xv_bf rfl (by decide +kernel) ?_
    refine xv_m 1 rfl ?_
    exact xv_r rfl
theorem r_13a {p q1 x y : Int32} {O : Nat} (hO : O ≤ 60) (hSO : s 17 5 = nI O) (hx : p < 0 ∨ s 17 5 ≤ p) (hd : 2 ≤ d) (hw : 27 ≤ w) : xv xm L xs d w 121 0 [(0, .ref 28), (1, .int (p)), (2, .int (q1)), (3, .int (x)), (4, .int (y))] [] (xC q ++ (xD (s) (b) ++ g)) (.returned (some (.int (nI 0)))) (xC q ++ (xD (s) (xu b 0 0 (nI 1)) ++ g)) 0 0 := by
  refine xv_m 2 rfl ?_
  refine xv_c0 (r := 101) (nip := 3) (cost := 13) rfl (by omega) (by omega) (m_101f (O := O) (by omega) hSO hx (hd := by omega) (hw := by omega)) ?_
  refine xv_bt rfl (by decide +kernel) ?_
  refine xv_m 6 rfl ?_
  refine xv_c0 (r := 98) (nip := 17) (cost := 14) rfl (by omega) (by omega) (m_98) ?_
  refine xv_b rfl (fun hc2 => ?_) (fun hc2 => ?_)
  · refine xv_m 6 rfl ?_
    refine xv_bt rfl (by decide +kernel) ?_
    refine xv_m 1 rfl ?_
    refine xv_bt rfl (by decide +kernel) ?_
    refine xv_m 9 rfl ?_
    refine xv_b rfl (fun hc9 => ?_) (fun hc9 => ?_)
    · refine xv_m 1 rfl ?_
      refine xv_c0 (r := 97) (nip := 78) (cost := 16) rfl (by omega) (by omega) (m_97_1) ?_
      refine xv_bf rfl (by decide +kernel) ?_
      refine xv_m 1 rfl ?_
      exact xv_r rfl
    · refine xv_m 2 rfl ?_
      refine xv_c0 (r := 97) (nip := 78) (cost := 16) rfl (by omega) (by omega) (m_97_1) ?_
      refine xv_bf rfl (by decide +kernel) ?_
      refine xv_m 1 rfl ?_
      exact xv_r rfl
  · refine xv_m 3 rfl ?_
    refine xv_c0 (r := 98) (nip := 22) (cost := 14) rfl (by omega) (by omega) (m_98) ?_
    refine xv_b rfl (fun hc3 => ?_) (fun hc3 => ?_)
    · refine xv_m 5 rfl ?_
      refine xv_bt rfl (by decide +kernel) ?_
      refine xv_m 1 rfl ?_
      refine xv_bt rfl (by decide +kernel) ?_
      refine xv_m 9 rfl ?_
      refine xv_b rfl (fun hc9 => ?_) (fun hc9 => ?_)
      · refine xv_m 1 rfl ?_
        refine xv_c0 (r := 97) (nip := 78) (cost := 16) rfl (by omega) (by omega) (m_97_1) ?_
        refine xv_bf rfl (by decide +kernel) ?_
        refine xv_m 1 rfl ?_
        exact xv_r rfl
      · refine xv_m 2 rfl ?_
        refine xv_c0 (r := 97) (nip := 78) (cost := 16) rfl (by omega) (by omega) (m_97_1) ?_
        refine xv_bf rfl (by decide +kernel) ?_
        refine xv_m 1 rfl ?_
        exact xv_r rfl
    · refine xv_m 6 rfl ?_
      refine xv_bt rfl (by decide +kernel) ?_
      refine xv_m 1 rfl ?_
      refine xv_bt rfl (by decide +kernel) ?_
      refine xv_m 9 rfl ?_
      refine xv_b rfl (fun hc9 => ?_) (fun hc9 => ?_)
      · refine xv_m 1 rfl ?_
        refine xv_c0 (r := 97) (nip := 78) (cost := 16) rfl (by omega) (by omega) (m_97_1) ?_
        refine xv_bf rfl (by decide +kernel) ?_
        refine xv_m 1 rfl ?_
        exact xv_r rfl
      · refine xv_m 2 rfl ?_
        refine xv_c0 (r := 97) (nip := 78) (cost := 16) rfl (by omega) (by omega) (m_97_1) ?_
        refine xv_bf rfl (by decide +kernel) ?_
        refine xv_m 1 rfl ?_
        exact xv_r rfl
theorem r_13b {O : Nat} (hO : O ≤ 60) (hSO : s 17 5 = nI O) {j : Nat} (hj : j < O) {q1 x y : Int32} (hx : q1 < nI 0 ∨ nI 99 < q1) (hd : 2 ≤ d) (hw : 27 ≤ w) : xv xm L xs d w 121 0 [(0, .ref 28), (1, .int (nI j)), (2, .int (q1)), (3, .int (x)), (4, .int (y))] [] (xC q ++ (xD (s) (b) ++ g)) (.returned (some (.int (nI 0)))) (xC q ++ (xD (s) (xu b 0 0 (nI 1)) ++ g)) 0 0 := by
  refine xv_m 2 rfl ?_
  refine xv_c0 (r := 101) (nip := 3) (cost := 13) rfl (by omega) (by omega) (m_101t (by omega) hSO hj (hd := by omega) (hw := by omega)) ?_
  refine xv_bf rfl (by decide +kernel) ?_
  refine xv_m 3 rfl ?_
  refine xv_c0 (r := 98) (nip := 8) (cost := 14) rfl (by omega) (by omega) (m_98f hx) ?_
  refine xv_bf rfl (by decide +kernel) ?_
  refine xv_m 6 rfl ?_
  refine xv_c0 (r := 98) (nip := 17) (cost := 14) rfl (by omega) (by omega) (m_98) ?_
  refine xv_b rfl (fun hc2 => ?_) (fun hc2 => ?_)
  · refine xv_m 6 rfl ?_
    refine xv_bt rfl (by decide +kernel) ?_
    refine xv_m 1 rfl ?_
    refine xv_bt rfl (by decide +kernel) ?_
    refine xv_m 9 rfl ?_
    refine xv_b rfl (fun hc9 => ?_) (fun hc9 => ?_)
    · refine xv_m 1 rfl ?_
      refine xv_c0 (r := 97) (nip := 78) (cost := 16) rfl (by omega) (by omega) (m_97_1) ?_
      refine xv_bf rfl (by decide +kernel) ?_
      refine xv_m 1 rfl ?_
      exact xv_r rfl
    · refine xv_m 2 rfl ?_
      refine xv_c0 (r := 97) (nip := 78) (cost := 16) rfl (by omega) (by omega) (m_97_1) ?_
      refine xv_bf rfl (by decide +kernel) ?_
      refine xv_m 1 rfl ?_
      exact xv_r rfl
  · refine xv_m 3 rfl ?_
    refine xv_c0 (r := 98) (nip := 22) (cost := 14) rfl (by omega) (by omega) (m_98) ?_
    refine xv_b rfl (fun hc3 => ?_) (fun hc3 => ?_)
    · refine xv_m 5 rfl ?_
      refine xv_bt rfl (by decide +kernel) ?_
      refine xv_m 1 rfl ?_
      refine xv_bt rfl (by decide +kernel) ?_
      refine xv_m 9 rfl ?_
      refine xv_b rfl (fun hc9 => ?_) (fun hc9 => ?_)
      · refine xv_m 1 rfl ?_
        refine xv_c0 (r := 97) (nip := 78) (cost := 16) rfl (by omega) (by omega) (m_97_1) ?_
        refine xv_bf rfl (by decide +kernel) ?_
        refine xv_m 1 rfl ?_
        exact xv_r rfl
      · refine xv_m 2 rfl ?_
        refine xv_c0 (r := 97) (nip := 78) (cost := 16) rfl (by omega) (by omega) (m_97_1) ?_
        refine xv_bf rfl (by decide +kernel) ?_
        refine xv_m 1 rfl ?_
        exact xv_r rfl
    · refine xv_m 6 rfl ?_
      refine xv_bt rfl (by decide +kernel) ?_
      refine xv_m 1 rfl ?_
      refine xv_bt rfl (by decide +kernel) ?_
      refine xv_m 9 rfl ?_
      refine xv_b rfl (fun hc9 => ?_) (fun hc9 => ?_)
      · refine xv_m 1 rfl ?_
        refine xv_c0 (r := 97) (nip := 78) (cost := 16) rfl (by omega) (by omega) (m_97_1) ?_
        refine xv_bf rfl (by decide +kernel) ?_
        refine xv_m 1 rfl ?_
        exact xv_r rfl
      · refine xv_m 2 rfl ?_
        refine xv_c0 (r := 97) (nip := 78) (cost := 16) rfl (by omega) (by omega) (m_97_1) ?_
        refine xv_bf rfl (by decide +kernel) ?_
        refine xv_m 1 rfl ?_
        exact xv_r rfl
theorem r_13c {O : Nat} (hO : O ≤ 60) (hSO : s 17 5 = nI O) {j : Nat} (hj : j < O) {p : Nat} (hp : p < 100) {x y : Int32} (hx : x < nI 1 ∨ nI 100 < x) (hd : 2 ≤ d) (hw : 27 ≤ w) : xv xm L xs d w 121 0 [(0, .ref 28), (1, .int (nI j)), (2, .int (nI p)), (3, .int (x)), (4, .int (y))] [] (xC q ++ (xD (s) (b) ++ g)) (.returned (some (.int (nI 0)))) (xC q ++ (xD (s) (xu b 0 0 (nI 2)) ++ g)) 0 0 := by
  refine xv_m 2 rfl ?_
  refine xv_c0 (r := 101) (nip := 3) (cost := 13) rfl (by omega) (by omega) (m_101t (by omega) hSO hj (hd := by omega) (hw := by omega)) ?_
  refine xv_bf rfl (by decide +kernel) ?_
  refine xv_m 3 rfl ?_
  refine xv_c0 (r := 98) (nip := 8) (cost := 14) rfl (by omega) (by omega) (m_98t (nI_pos' (by omega)) (nI_le (b := 99) (by omega) (by omega))) ?_
  refine xv_bt rfl (by decide +kernel) ?_
  refine xv_m 5 rfl ?_
  refine xv_c0 (r := 98) (nip := 17) (cost := 14) rfl (by omega) (by omega) (m_98f hx) ?_
  refine xv_bt rfl (by decide +kernel) ?_
  refine xv_m 6 rfl ?_
  refine xv_bf rfl (by decide +kernel) ?_
  refine xv_m 1 rfl ?_
  refine xv_bt rfl (by decide +kernel) ?_
  refine xv_m 1 rfl ?_
  refine xv_bf rfl (by decide +kernel) ?_
  refine xv_m 3 rfl ?_
  refine xv_ba (_) rfl rfl rfl (by omega) (by omega) ?_
  refine xv_b rfl (fun hc7 => ?_) (fun hc7 => ?_)
  · refine xv_m 10 rfl ?_
    refine xv_b rfl (fun hc9 => ?_) (fun hc9 => ?_)
    · refine xv_m 1 rfl ?_
      refine xv_c0 (r := 97) (nip := 78) (cost := 16) rfl (by omega) (by omega) (m_97_2) ?_
      refine xv_bf rfl (by decide +kernel) ?_
      refine xv_m 1 rfl ?_
      exact xv_r rfl
    · refine xv_m 2 rfl ?_
      refine xv_c0 (r := 97) (nip := 78) (cost := 16) rfl (by omega) (by omega) (m_97_2) ?_
      refine xv_bf rfl (by decide +kernel) ?_
      refine xv_m 1 rfl ?_
      exact xv_r rfl
  · refine xv_m 3 rfl ?_
    refine xv_b rfl (fun hc8 => ?_) (fun hc8 => ?_)
    · refine xv_m 9 rfl ?_
      refine xv_b rfl (fun hc9 => ?_) (fun hc9 => ?_)
      · refine xv_m 1 rfl ?_
        refine xv_c0 (r := 97) (nip := 78) (cost := 16) rfl (by omega) (by omega) (m_97_2) ?_
        refine xv_bf rfl (by decide +kernel) ?_
        refine xv_m 1 rfl ?_
        exact xv_r rfl
      · refine xv_m 2 rfl ?_
        refine xv_c0 (r := 97) (nip := 78) (cost := 16) rfl (by omega) (by omega) (m_97_2) ?_
        refine xv_bf rfl (by decide +kernel) ?_
        refine xv_m 1 rfl ?_
        exact xv_r rfl
    · refine xv_m 10 rfl ?_
      refine xv_b rfl (fun hc9 => ?_) (fun hc9 => ?_)
      · refine xv_m 1 rfl ?_
        refine xv_c0 (r := 97) (nip := 78) (cost := 16) rfl (by omega) (by omega) (m_97_2) ?_
        refine xv_bf rfl (by decide +kernel) ?_
        refine xv_m 1 rfl ?_
        exact xv_r rfl
      · refine xv_m 2 rfl ?_
        refine xv_c0 (r := 97) (nip := 78) (cost := 16) rfl (by omega) (by omega) (m_97_2) ?_
        refine xv_bf rfl (by decide +kernel) ?_
        refine xv_m 1 rfl ?_
        exact xv_r rfl
theorem r_13d {O : Nat} (hO : O ≤ 60) (hSO : s 17 5 = nI O) {j : Nat} (hj : j < O) {p : Nat} (hp : p < 100) {x y : Int32} (h2 : nI 1 ≤ x) (h3 : x ≤ nI 100) (hx : y < nI 0 ∨ nI 1000000 < y) (hd : 2 ≤ d) (hw : 27 ≤ w) : xv xm L xs d w 121 0 [(0, .ref 28), (1, .int (nI j)), (2, .int (nI p)), (3, .int (x)), (4, .int (y))] [] (xC q ++ (xD (s) (b) ++ g)) (.returned (some (.int (nI 0)))) (xC q ++ (xD (s) (xu b 0 0 (nI 2)) ++ g)) 0 0 := by
  refine xv_m 2 rfl ?_
  refine xv_c0 (r := 101) (nip := 3) (cost := 13) rfl (by omega) (by omega) (m_101t (by omega) hSO hj (hd := by omega) (hw := by omega)) ?_
  refine xv_bf rfl (by decide +kernel) ?_
  refine xv_m 3 rfl ?_
  refine xv_c0 (r := 98) (nip := 8) (cost := 14) rfl (by omega) (by omega) (m_98t (nI_pos' (by omega)) (nI_le (b := 99) (by omega) (by omega))) ?_
  refine xv_bt rfl (by decide +kernel) ?_
  refine xv_m 5 rfl ?_
  refine xv_c0 (r := 98) (nip := 17) (cost := 14) rfl (by omega) (by omega) (m_98t h2 h3) ?_
  refine xv_bf rfl (by decide +kernel) ?_
  refine xv_m 3 rfl ?_
  refine xv_c0 (r := 98) (nip := 22) (cost := 14) rfl (by omega) (by omega) (m_98f hx) ?_
  refine xv_bf rfl (by decide +kernel) ?_
  refine xv_m 6 rfl ?_
  refine xv_bf rfl (by decide +kernel) ?_
  refine xv_m 1 rfl ?_
  refine xv_bt rfl (by decide +kernel) ?_
  refine xv_m 1 rfl ?_
  refine xv_bf rfl (by decide +kernel) ?_
  refine xv_m 3 rfl ?_
  refine xv_ba (_) rfl rfl rfl (by omega) (by omega) ?_
  refine xv_b rfl (fun hc7 => ?_) (fun hc7 => ?_)
  · refine xv_m 10 rfl ?_
    refine xv_b rfl (fun hc9 => ?_) (fun hc9 => ?_)
    · refine xv_m 1 rfl ?_
      refine xv_c0 (r := 97) (nip := 78) (cost := 16) rfl (by omega) (by omega) (m_97_2) ?_
      refine xv_bf rfl (by decide +kernel) ?_
      refine xv_m 1 rfl ?_
      exact xv_r rfl
    · refine xv_m 2 rfl ?_
      refine xv_c0 (r := 97) (nip := 78) (cost := 16) rfl (by omega) (by omega) (m_97_2) ?_
      refine xv_bf rfl (by decide +kernel) ?_
      refine xv_m 1 rfl ?_
      exact xv_r rfl
  · refine xv_m 3 rfl ?_
    refine xv_b rfl (fun hc8 => ?_) (fun hc8 => ?_)
    · refine xv_m 9 rfl ?_
      refine xv_b rfl (fun hc9 => ?_) (fun hc9 => ?_)
      · refine xv_m 1 rfl ?_
        refine xv_c0 (r := 97) (nip := 78) (cost := 16) rfl (by omega) (by omega) (m_97_2) ?_
        refine xv_bf rfl (by decide +kernel) ?_
        refine xv_m 1 rfl ?_
        exact xv_r rfl
      · refine xv_m 2 rfl ?_
        refine xv_c0 (r := 97) (nip := 78) (cost := 16) rfl (by omega) (by omega) (m_97_2) ?_
        refine xv_bf rfl (by decide +kernel) ?_
        refine xv_m 1 rfl ?_
        exact xv_r rfl
    · refine xv_m 10 rfl ?_
      refine xv_b rfl (fun hc9 => ?_) (fun hc9 => ?_)
      · refine xv_m 1 rfl ?_
        refine xv_c0 (r := 97) (nip := 78) (cost := 16) rfl (by omega) (by omega) (m_97_2) ?_
        refine xv_bf rfl (by decide +kernel) ?_
        refine xv_m 1 rfl ?_
        exact xv_r rfl
      · refine xv_m 2 rfl ?_
        refine xv_c0 (r := 97) (nip := 78) (cost := 16) rfl (by omega) (by omega) (m_97_2) ?_
        refine xv_bf rfl (by decide +kernel) ?_
        refine xv_m 1 rfl ?_
        exact xv_r rfl
theorem r_15 {x : Int32} (h0 : nI 0 ≤ x) (h1 : x ≤ nI 100000000) (h2 : s 0 6 + x ≤ nI 1000000000) (hd : 1 ≤ d) (hw : 16 ≤ w) : xv xm L xs d w 123 0 [(0, .ref 28), (1, .int (x))] [] (xC q ++ (xD (s) (b) ++ g)) (.returned (some (.int (s 0 6 + x)))) (xC q ++ (xD (xu s 0 6 (s 0 6 + x)) (xu b 0 0 (nI 0)) ++ g)) 0 0 := by
  refine xv_m 3 rfl ?_
  refine xv_c0 (r := 98) (nip := 4) (cost := 14) rfl (by omega) (by omega) (m_98t h0 h1) ?_
  refine xv_bt rfl (by decide +kernel) ?_
  refine xv_m 5 rfl ?_
  refine xv_bf rfl (by decide +kernel) ?_
  refine xv_m 5 rfl ?_
  refine xv_bt rfl (xd_leT h2) ?_
  refine xv_m 3 rfl ?_
  refine xv_c0 (r := 97) (nip := 25) (cost := 16) rfl (by omega) (by omega) (m_97_0) ?_
  refine xv_bt rfl (by decide +kernel) ?_
  refine xv_m 6 (h1 := xC q ++ (xD (xu s 0 6 (s 0 6 + x)) (xu b 0 0 (nI 0)) ++ g)) rfl ?_
  refine xv_m 2 rfl ?_
  exact xv_r rfl
theorem r_15a {x : Int32} (hx : x < nI 0 ∨ nI 100000000 < x) (hd : 1 ≤ d) (hw : 16 ≤ w) : xv xm L xs d w 123 0 [(0, .ref 28), (1, .int (x))] [] (xC q ++ (xD (s) (b) ++ g)) (.returned (some (.int (nI 0)))) (xC q ++ (xD (s) (xu b 0 0 (nI 1)) ++ g)) 0 0 := by
  refine xv_m 3 rfl ?_
  refine xv_c0 (r := 98) (nip := 4) (cost := 14) rfl (by omega) (by omega) (m_98f hx) ?_
  refine xv_bf rfl (by decide +kernel) ?_
  refine xv_m 6 rfl ?_
  refine xv_bt rfl (by decide +kernel) ?_
  refine xv_m 3 rfl ?_
  refine xv_c0 (r := 97) (nip := 25) (cost := 16) rfl (by omega) (by omega) (m_97_1) ?_
  refine xv_bf rfl (by decide +kernel) ?_
  refine xv_m 1 rfl ?_
  exact xv_r rfl
theorem r_15b {x : Int32} (h0 : nI 0 ≤ x) (h1 : x ≤ nI 100000000) (h2 : nI 1000000000 < s 0 6 + x) (hd : 1 ≤ d) (hw : 16 ≤ w) : xv xm L xs d w 123 0 [(0, .ref 28), (1, .int (x))] [] (xC q ++ (xD (s) (b) ++ g)) (.returned (some (.int (nI 0)))) (xC q ++ (xD (s) (xu b 0 0 (nI 2)) ++ g)) 0 0 := by
  refine xv_m 3 rfl ?_
  refine xv_c0 (r := 98) (nip := 4) (cost := 14) rfl (by omega) (by omega) (m_98t h0 h1) ?_
  refine xv_bt rfl (by decide +kernel) ?_
  refine xv_m 5 rfl ?_
  refine xv_bf rfl (by decide +kernel) ?_
  refine xv_m 5 rfl ?_
  refine xv_bf rfl (xd_leF h2) ?_
  refine xv_m 4 rfl ?_
  refine xv_c0 (r := 97) (nip := 25) (cost := 16) rfl (by omega) (by omega) (m_97_2) ?_
  refine xv_bf rfl (by decide +kernel) ?_
  refine xv_m 1 rfl ?_
  exact xv_r rfl
theorem l_124i {v r j : Nat} (hv : v < 30) (hr : r < 10) (hj : j < 60) (hm : ¬ s 20 (10 * j + r) = 0) {f : Nat → Int32} {o : Outcome} {h' : List va_E} {k0 z : Nat} (hd : 1 ≤ d) (hw : 16 ≤ w) (he : xv xm L xs d w 124 74 [(4, .int (nI r)), (3, .int (nI v)), (0, .ref 28), (1, .int (nI j))] [] (xC q ++ (xD (xw s 11 (xfo (f_srv3 s v r) f 3)) (b) ++ g)) o h' k0 z) : ∀ n k, k + n = 3 → xv xm L xs d w 124 44 [(5, .int (nI k)), (4, .int (nI r)), (3, .int (nI v)), (0, .ref 28), (1, .int (nI j))] [] (xC q ++ (xD (xw s 11 (xfo (f_srv3 s v r) f k)) (b) ++ g)) o h' k0 z
  | 0, k, hk => by
    have hk : k = 3 := hk
    subst hk
    refine xv_m 2 rfl ?_
    refine xv_bt rfl (xc_geT (by omega) (by omega)) ?_
    exact xv_l he ⟨rfl, rfl, rfl, rfl, trivial⟩
  | n + 1, k, hk => by
    have hk3 : k < 3 := by omega
    refine xv_m 2 rfl ?_
    refine xv_bf rfl (xc_geF (by omega) (by omega)) ?_
    refine xv_m 7 rfl ?_
    refine xv_ba (10 * j + r) rfl rfl (by first | rfl | (simp only [xa_c0, pk_mul, nI_add]; done) | (simp only [xa_c0, pk_mul, nI_add]; congr 1; omega)) (by omega) (by omega) ?_
    refine xv_bf rfl (xc_eqF hm) ?_
    refine xv_m 14 rfl ?_
    refine xv_c0 (r := 107) (nip := 71) (cost := 16) rfl (by omega) (by omega) (m_107' (s := xw s 11 (xfo (f_srv3 s v r) f k)) hv hk3) ?_
    rw [f_now_w]
    refine xv_ias (30 * v + 3 * r + k) (xC q ++ (xD (xw s 11 (xfo (f_srv3 s v r) f (k + 1))) (b) ++ g)) rfl rfl (by first | rfl | (simp only [xa_c0, pk_mul, nI_add]; done) | (simp only [xa_c0, pk_mul, nI_add]; congr 1; omega)) (by omega) (by omega) rfl ?_
    refine xv_m 2 rfl ?_
    exact xv_l (l_124i hv hr hj hm hd hw he n (k + 1) (by omega)) ⟨xk k, rfl, rfl, rfl, rfl, trivial⟩
theorem l_124 {v j : Nat} (hv : v < 30) (hj : j < 60) {R : Nat} (hR : R ≤ 10) (hSR : s 9 2 = nI R) {o : Outcome} {h' : List va_E} {k0 z : Nat} (hd : 1 ≤ d) (hw : 16 ≤ w) (he : xv xm L xs d w 124 76 [(0, .ref 28), (1, .int (nI j))] [] (xC q ++ (xD (xw s 11 (xfo (f_srv s v j) (s 11) R)) (b) ++ g)) o h' k0 z) : ∀ n r, r + n = R → xv xm L xs d w 124 38 [(4, .int (nI r)), (3, .int (nI v)), (0, .ref 28), (1, .int (nI j))] [] (xC q ++ (xD (xw s 11 (xfo (f_srv s v j) (s 11) r)) (b) ++ g)) o h' k0 z
  | 0, r, hk => by
    have hk : r = R := hk
    subst hk
    refine xv_m 3 rfl ?_
    refine xv_ei (show (xw s 11 (xfo (f_srv s v j) (s 11) r)) 9 2 = nI r from hSR) ?_
    refine xv_bt rfl (xc_geT (by omega) (by omega)) ?_
    exact xv_l he ⟨rfl, rfl, trivial⟩
  | n + 1, r, hk => by
    by_cases hm : s 20 (10 * j + r) = 0
    · refine xv_m 3 rfl ?_
      refine xv_ei (show (xw s 11 (xfo (f_srv s v j) (s 11) r)) 9 2 = nI R from hSR) ?_
      refine xv_bf rfl (xc_geF (by omega) (by omega)) ?_
      refine xv_m 4 rfl ?_
      refine xv_bf rfl (by decide +kernel) ?_
      refine xv_m 7 rfl ?_
      refine xv_ba (10 * j + r) rfl rfl (by first | rfl | (simp only [xa_c0, pk_mul, nI_add]; done) | (simp only [xa_c0, pk_mul, nI_add]; congr 1; omega)) (by omega) (by omega) ?_
      refine xv_bt rfl (xc_eqT hm) ?_
      refine xv_m 2 rfl ?_
      refine xv_eh (h1 := xC q ++ (xD (xw s 11 (xfo (f_srv s v j) (s 11) (r + 1))) (b) ++ g)) (congrArg (fun F => xC q ++ (xD (xw s 11 F) b ++ g)) (show (_ : Nat → Int32) = f_srv s v j r (xfo (f_srv s v j) (s 11) r) from (f_srv_1 (xc_eqT hm)).symm)) ?_
      exact xv_l (l_124 hv hj hR hSR hd hw he n (r + 1) (by omega)) ⟨xk r, rfl, rfl, rfl, trivial⟩
    · refine xv_m 3 rfl ?_
      refine xv_ei (show (xw s 11 (xfo (f_srv s v j) (s 11) r)) 9 2 = nI R from hSR) ?_
      refine xv_bf rfl (xc_geF (by omega) (by omega)) ?_
      refine xv_m 2 rfl ?_
      refine xv_l (l_124i (r := r) (f := xfo (f_srv s v j) (s 11) r) hv (by omega) hj hm hd hw ?_ 3 0 rfl) ⟨rfl, rfl, rfl, rfl, rfl, trivial⟩
      refine xv_m 2 rfl ?_
      refine xv_eh (h1 := xC q ++ (xD (xw s 11 (xfo (f_srv s v j) (s 11) (r + 1))) (b) ++ g)) (congrArg (fun F => xC q ++ (xD (xw s 11 F) b ++ g)) (show (_ : Nat → Int32) = f_srv s v j r (xfo (f_srv s v j) (s 11) r) from (f_srv_2 (xc_eqF hm)).symm)) ?_
      exact xv_l (l_124 hv hj hR hSR hd hw he n (r + 1) (by omega)) ⟨xk r, rfl, rfl, rfl, trivial⟩
def f_rrp (G sv : Nat → Int32) (j k : Nat) (f : Nat → Int32) : Nat → Int32 := bif xa_cmp .eq (G (100 * j + k)) 0 || xa_cmp .ne (f k) 0 then f else upd f k (bif xa_cmp .eq (sv k) 0 then xa_con 2 0 else xa_con 1 0)
theorem f_rrp_1 {G sv : Nat → Int32} {j k : Nat} {f : Nat → Int32} (h : xa_cmp .eq (G (100 * j + k)) 0 = true) : f_rrp G sv j k f = f := by unfold f_rrp; rw [h]; rfl
theorem f_rrp_2 {G sv : Nat → Int32} {j k : Nat} {f : Nat → Int32} (h : xa_cmp .eq (G (100 * j + k)) 0 = false) (h2 : xa_cmp .ne (f k) 0 = true) : f_rrp G sv j k f = f := by unfold f_rrp; rw [h, h2]; rfl
theorem f_rrp_3 {G sv : Nat → Int32} {j k : Nat} {f : Nat → Int32} (h : xa_cmp .eq (G (100 * j + k)) 0 = false) (h2 : xa_cmp .ne (f k) 0 = false) (h3 : xa_cmp .eq (sv k) 0 = true) : f_rrp G sv j k f = upd f k (xa_con 2 0) := by unfold f_rrp; rw [h, h2, h3]; rfl
theorem f_rrp_4 {G sv : Nat → Int32} {j k : Nat} {f : Nat → Int32} (h : xa_cmp .eq (G (100 * j + k)) 0 = false) (h2 : xa_cmp .ne (f k) 0 = false) (h3 : xa_cmp .eq (sv k) 0 = false) : f_rrp G sv j k f = upd f k (xa_con 1 0) := by unfold f_rrp; rw [h, h2, h3]; rfl
theorem l_124d {j : Nat} (hj : j < 60) {D : Nat} (hD : D ≤ 100) (hSD : s 12 4 = nI D) : ∀ n k, k + n = D → xv xm L xs d w 124 78 [(4, .int (nI k)), (0, .ref 28), (1, .int (nI j))] [] (xC q ++ (xD (xw s 15 (xfo (f_rrp (b 2) (s 14) j) (s 15) k)) (b) ++ g)) (.returned (some (.int (s 22 j)))) (xC q ++ (xD (xw s 15 (xfo (f_rrp (b 2) (s 14) j) (s 15) D)) (b) ++ g)) 0 0
  | 0, k, hk => by
    have hk : k = D := hk
    subst hk
    refine xv_m 3 rfl ?_
    refine xv_ei (show (xw s 15 (xfo (f_rrp (b 2) (s 14) j) (s 15) k)) 12 4 = nI k from hSD) ?_
    refine xv_bt rfl (xc_geT (by omega) (by omega)) ?_
    refine xv_m 3 rfl ?_
    refine xv_ia (_) rfl rfl rfl (by omega) (by omega) ?_
    exact xv_r rfl
  | n + 1, k, hk => by
    refine xv_m 3 rfl ?_
    refine xv_ei (show (xw s 15 (xfo (f_rrp (b 2) (s 14) j) (s 15) k)) 12 4 = nI D from hSD) ?_
    refine xv_bf rfl (xc_geF (by omega) (by omega)) ?_
    refine xv_m 7 rfl ?_
    refine xv_ba (100 * j + k) rfl rfl (by first | rfl | (simp only [xa_c0, pk_mul, nI_add]; done) | (simp only [xa_c0, pk_mul, nI_add]; congr 1; omega)) (by omega) (by omega) ?_
    refine xv_b rfl (fun hc => ?_) (fun hc => ?_)
    · refine xv_m 2 rfl ?_
      refine xv_eh (h1 := xC q ++ (xD (xw s 15 (xfo (f_rrp (b 2) (s 14) j) (s 15) (k + 1))) (b) ++ g)) (congrArg (fun F => xC q ++ (xD (xw s 15 F) b ++ g)) (show (_ : Nat → Int32) = (f_rrp (b 2) (s 14) j) k (xfo (f_rrp (b 2) (s 14) j) (s 15) k) from (f_rrp_1 hc).symm)) ?_
      exact xv_l (l_124d hj hD hSD n (k + 1) (by omega)) ⟨xk k, rfl, rfl, trivial⟩
    · refine xv_m 3 rfl ?_
      refine xv_ia (_) rfl rfl rfl (by omega) (by omega) ?_
      refine xv_b rfl (fun hc2 => ?_) (fun hc2 => ?_)
      · refine xv_m 2 rfl ?_
        refine xv_eh (h1 := xC q ++ (xD (xw s 15 (xfo (f_rrp (b 2) (s 14) j) (s 15) (k + 1))) (b) ++ g)) (congrArg (fun F => xC q ++ (xD (xw s 15 F) b ++ g)) (show (_ : Nat → Int32) = (f_rrp (b 2) (s 14) j) k (xfo (f_rrp (b 2) (s 14) j) (s 15) k) from (f_rrp_2 hc hc2).symm)) ?_
        exact xv_l (l_124d hj hD hSD n (k + 1) (by omega)) ⟨xk k, rfl, rfl, trivial⟩
      · refine xv_m 6 rfl ?_
        refine xv_ba (_) rfl rfl rfl (by omega) (by omega) ?_
        refine xv_b rfl (fun hc3 => ?_) (fun hc3 => ?_)
        · refine xv_m 1 rfl ?_
          refine xv_ias (k) (xC q ++ (xD (xu (xw s 15 (xfo (f_rrp (b 2) (s 14) j) (s 15) k)) 15 k (xa_con 2 0)) (b) ++ g)) rfl rfl (by first | rfl | (simp only [xa_c0, pk_mul, nI_add]; done) | (simp only [xa_c0, pk_mul, nI_add]; congr 1; omega)) (by omega) (by omega) rfl ?_
          refine xv_m 2 rfl ?_
          refine xv_eh (h1 := xC q ++ (xD (xw s 15 (xfo (f_rrp (b 2) (s 14) j) (s 15) (k + 1))) (b) ++ g)) (congrArg (fun F => xC q ++ (xD (xw s 15 F) b ++ g)) (show (_ : Nat → Int32) = (f_rrp (b 2) (s 14) j) k (xfo (f_rrp (b 2) (s 14) j) (s 15) k) from (f_rrp_3 hc hc2 hc3).symm)) ?_
          exact xv_l (l_124d hj hD hSD n (k + 1) (by omega)) ⟨xk k, rfl, rfl, trivial⟩
        · refine xv_m 2 rfl ?_
          refine xv_ias (k) (xC q ++ (xD (xu (xw s 15 (xfo (f_rrp (b 2) (s 14) j) (s 15) k)) 15 k (xa_con 1 0)) (b) ++ g)) rfl rfl (by first | rfl | (simp only [xa_c0, pk_mul, nI_add]; done) | (simp only [xa_c0, pk_mul, nI_add]; congr 1; omega)) (by omega) (by omega) rfl ?_
          refine xv_m 2 rfl ?_
          refine xv_eh (h1 := xC q ++ (xD (xw s 15 (xfo (f_rrp (b 2) (s 14) j) (s 15) (k + 1))) (b) ++ g)) (congrArg (fun F => xC q ++ (xD (xw s 15 F) b ++ g)) (show (_ : Nat → Int32) = (f_rrp (b 2) (s 14) j) k (xfo (f_rrp (b 2) (s 14) j) (s 15) k) from (f_rrp_4 hc hc2 hc3).symm)) ?_
          exact xv_l (l_124d hj hD hSD n (k + 1) (by omega)) ⟨xk k, rfl, rfl, trivial⟩
def f_dnr (s : Nat → Nat → Int32) (G : Nat → Int32) (R D v j : Nat) : Nat → Nat → Int32 := xw (xw s 11 (xfo (f_srv s v j) (s 11) R)) 15 (xfo (f_rrp G (s 14) j) (s 15) D)
theorem r_16 {O : Nat} (hO : O ≤ 60) (hSO : s 17 5 = nI O) {j : Nat} (hj : j < O){R : Nat} (hR : R ≤ 10) (hSR : s 9 2 = nI R){D : Nat} (hD : D ≤ 100) (hSD : s 12 4 = nI D) (h1 : b 1 j = 0) {v : Nat} (hv : v < 30) (hOv : s 18 j = nI v) (hd : 2 ≤ d) (hw : 27 ≤ w) : xv xm L xs d w 124 0 [(0, .ref 28), (1, .int (nI j))] [] (xC q ++ (xD (s) (b) ++ g)) (.returned (some (.int (s 22 j)))) (xC q ++ (xD (f_dnr s (b 2) R D v j) (xu (xu b 0 0 (nI 0)) 1 j 1) ++ g)) 0 0 := by
  refine xv_m 2 rfl ?_
  refine xv_c0 (r := 101) (nip := 3) (cost := 13) rfl (by omega) (by omega) (m_101t (by omega) hSO hj (hd := by omega) (hw := by omega)) ?_
  refine xv_bt rfl (by decide +kernel) ?_
  refine xv_m 5 rfl ?_
  refine xv_bf rfl (by decide +kernel) ?_
  refine xv_m 3 rfl ?_
  refine xv_ba (_) rfl rfl rfl (by omega) (by omega) ?_
  refine xv_bt rfl (xc_eqT h1) ?_
  refine xv_m 3 rfl ?_
  refine xv_c0 (r := 97) (nip := 23) (cost := 16) rfl (by omega) (by omega) (m_97_0) ?_
  refine xv_bt rfl (by decide +kernel) ?_
  refine xv_m 3 rfl ?_
  refine xv_ia (_) rfl rfl rfl (by omega) (by omega) ?_
  refine xv_ei hOv ?_
  refine xv_m 5 rfl ?_
  refine xv_bas (j) (xC q ++ (xD (s) (xu (xu b 0 0 (nI 0)) 1 j 1) ++ g)) rfl rfl (by first | rfl | (simp only [xa_c0, pk_mul, nI_add]; done) | (simp only [xa_c0, pk_mul, nI_add]; congr 1; omega)) (by omega) (by omega) xn_1 rfl ?_
  refine xv_m 2 rfl ?_
  refine xv_eh (h1 := xC q ++ (xD (xw s 11 (xfo (f_srv s v j) (s 11) 0)) (xu (xu b 0 0 (nI 0)) 1 j 1) ++ g)) rfl ?_
  refine xv_l (l_124 (b := xu (xu b 0 0 (nI 0)) 1 j 1) hv (by omega) hR hSR (by omega) (by omega) ?_ R 0 (Nat.zero_add R)) ⟨rfl, rfl, rfl, rfl, trivial⟩
  refine xv_m 2 rfl ?_
  refine xv_eh (h1 := xC q ++ (xD (xw (xw s 11 (xfo (f_srv s v j) (s 11) R)) 15 (xfo (f_rrp (b 2) (s 14) j) (s 15) 0)) (xu (xu b 0 0 (nI 0)) 1 j 1) ++ g)) rfl ?_
  exact xv_l (l_124d (s := xw s 11 (xfo (f_srv s v j) (s 11) R)) (b := xu (xu b 0 0 (nI 0)) 1 j 1) (by omega) hD hSD D 0 (Nat.zero_add D)) ⟨rfl, rfl, rfl, trivial⟩
theorem r_16a {p : Int32} {O : Nat} (hO : O ≤ 60) (hSO : s 17 5 = nI O) (hx : p < 0 ∨ s 17 5 ≤ p) (hd : 2 ≤ d) (hw : 27 ≤ w) : xv xm L xs d w 124 0 [(0, .ref 28), (1, .int (p))] [] (xC q ++ (xD (s) (b) ++ g)) (.returned (some (.int (nI 0)))) (xC q ++ (xD (s) (xu b 0 0 (nI 1)) ++ g)) 0 0 := by
  refine xv_m 2 rfl ?_
  refine xv_c0 (r := 101) (nip := 3) (cost := 13) rfl (by omega) (by omega) (m_101f (O := O) (by omega) hSO hx (hd := by omega) (hw := by omega)) ?_
  refine xv_bf rfl (by decide +kernel) ?_
  refine xv_m 6 rfl ?_
  refine xv_bt rfl (by decide +kernel) ?_
  refine xv_m 3 rfl ?_
  refine xv_c0 (r := 97) (nip := 23) (cost := 16) rfl (by omega) (by omega) (m_97_1) ?_
  refine xv_bf rfl (by decide +kernel) ?_
  refine xv_m 1 rfl ?_
  exact xv_r rfl
theorem r_16b {O : Nat} (hO : O ≤ 60) (hSO : s 17 5 = nI O) {j : Nat} (hj : j < O) (h1 : b 1 j = 1) (hd : 2 ≤ d) (hw : 27 ≤ w) : xv xm L xs d w 124 0 [(0, .ref 28), (1, .int (nI j))] [] (xC q ++ (xD (s) (b) ++ g)) (.returned (some (.int (nI 0)))) (xC q ++ (xD (s) (xu b 0 0 (nI 2)) ++ g)) 0 0 := by
  refine xv_m 2 rfl ?_
  refine xv_c0 (r := 101) (nip := 3) (cost := 13) rfl (by omega) (by omega) (m_101t (by omega) hSO hj (hd := by omega) (hw := by omega)) ?_
  refine xv_bt rfl (by decide +kernel) ?_
  refine xv_m 5 rfl ?_
  refine xv_bf rfl (by decide +kernel) ?_
  refine xv_m 3 rfl ?_
  refine xv_ba (_) rfl rfl rfl (by omega) (by omega) ?_
  refine xv_bf rfl (xc_eqF (by rw [h1]; decide)) ?_
  refine xv_m 4 rfl ?_
  refine xv_c0 (r := 97) (nip := 23) (cost := 16) rfl (by omega) (by omega) (m_97_2) ?_
  refine xv_bf rfl (by decide +kernel) ?_
  refine xv_m 1 rfl ?_
  exact xv_r rfl
theorem r_19 {V : Nat} (hV : V ≤ 30) (hSV : s 1 7 = nI V) {v : Nat} (hv : v < V){x : Int32} (h0 : nI 0 ≤ x) (h1 : x ≤ nI 100000) (h2 : s 6 v + x ≤ nI 1000000000) (hd : 2 ≤ d) (hw : 27 ≤ w) : xv xm L xs d w 128 0 [(0, .ref 28), (1, .int (nI v)), (2, .int (x))] [] (xC q ++ (xD (s) (b) ++ g)) (.returned (some (.int (s 6 v + x)))) (xC q ++ (xD (xu s 6 v (s 6 v + x)) (xu b 0 0 (nI 0)) ++ g)) 0 0 := by
  refine xv_m 2 rfl ?_
  refine xv_c0 (r := 99) (nip := 3) (cost := 13) rfl (by omega) (by omega) (m_99t (by omega) hSV hv (hd := by omega) (hw := by omega)) ?_
  refine xv_bt rfl (by decide +kernel) ?_
  refine xv_m 5 rfl ?_
  refine xv_c0 (r := 98) (nip := 12) (cost := 14) rfl (by omega) (by omega) (m_98t h0 h1) ?_
  refine xv_bt rfl (by decide +kernel) ?_
  refine xv_m 6 rfl ?_
  refine xv_bf rfl (by decide +kernel) ?_
  refine xv_m 1 rfl ?_
  refine xv_bf rfl (by decide +kernel) ?_
  refine xv_m 3 rfl ?_
  refine xv_ia (_) rfl rfl rfl (by omega) (by omega) ?_
  refine xv_m 3 rfl ?_
  refine xv_bt rfl (xd_leT h2) ?_
  refine xv_m 2 rfl ?_
  refine xv_c0 (r := 97) (nip := 37) (cost := 16) rfl (by omega) (by omega) (m_97_0) ?_
  refine xv_bt rfl (by decide +kernel) ?_
  refine xv_m 4 rfl ?_
  refine xv_ia (_) rfl rfl rfl (by omega) (by omega) ?_
  refine xv_m 2 rfl ?_
  refine xv_ias (v) (xC q ++ (xD (xu s 6 v (s 6 v + x)) (xu b 0 0 (nI 0)) ++ g)) rfl rfl (by first | rfl | (simp only [xa_c0, pk_mul, nI_add]; done) | (simp only [xa_c0, pk_mul, nI_add]; congr 1; omega)) (by omega) (by omega) rfl ?_
  refine xv_m 3 rfl ?_
  refine xv_ia (_) rfl rfl rfl (by omega) (by omega) ?_
  exact xv_rn (upd_at _ _ _) rfl
theorem r_19a {p x : Int32} {V : Nat} (hV : V ≤ 30) (hSV : s 1 7 = nI V) (hx : p < 0 ∨ s 1 7 ≤ p) (hd : 2 ≤ d) (hw : 27 ≤ w) : xv xm L xs d w 128 0 [(0, .ref 28), (1, .int (p)), (2, .int (x))] [] (xC q ++ (xD (s) (b) ++ g)) (.returned (some (.int (nI 0)))) (xC q ++ (xD (s) (xu b 0 0 (nI 1)) ++ g)) 0 0 := by
  refine xv_m 2 rfl ?_
  refine xv_c0 (r := 99) (nip := 3) (cost := 13) rfl (by omega) (by omega) (m_99f (V := V) (by omega) hSV hx (hd := by omega) (hw := by omega)) ?_
  refine xv_bf rfl (by decide +kernel) ?_
  refine xv_m 6 rfl ?_
  refine xv_c0 (r := 98) (nip := 12) (cost := 14) rfl (by omega) (by omega) (m_98) ?_
  refine xv_b rfl (fun hc => ?_) (fun hc => ?_)
  · refine xv_m 6 rfl ?_
    refine xv_bt rfl (by decide +kernel) ?_
    refine xv_m 2 rfl ?_
    refine xv_c0 (r := 97) (nip := 37) (cost := 16) rfl (by omega) (by omega) (m_97_1) ?_
    refine xv_bf rfl (by decide +kernel) ?_
    refine xv_m 1 rfl ?_
    exact xv_r rfl
  · refine xv_m 7 rfl ?_
    refine xv_bt rfl (by decide +kernel) ?_
    refine xv_m 2 rfl ?_
    refine xv_c0 (r := 97) (nip := 37) (cost := 16) rfl (by omega) (by omega) (m_97_1) ?_
    refine xv_bf rfl (by decide +kernel) ?_
    refine xv_m 1 rfl ?_
    exact xv_r rfl
theorem r_19b {V : Nat} (hV : V ≤ 30) (hSV : s 1 7 = nI V) {v : Nat} (hv : v < V){x : Int32} (hx : x < nI 0 ∨ nI 100000 < x) (hd : 2 ≤ d) (hw : 27 ≤ w) : xv xm L xs d w 128 0 [(0, .ref 28), (1, .int (nI v)), (2, .int (x))] [] (xC q ++ (xD (s) (b) ++ g)) (.returned (some (.int (nI 0)))) (xC q ++ (xD (s) (xu b 0 0 (nI 2)) ++ g)) 0 0 := by
  refine xv_m 2 rfl ?_
  refine xv_c0 (r := 99) (nip := 3) (cost := 13) rfl (by omega) (by omega) (m_99t (by omega) hSV hv (hd := by omega) (hw := by omega)) ?_
  refine xv_bt rfl (by decide +kernel) ?_
  refine xv_m 5 rfl ?_
  refine xv_c0 (r := 98) (nip := 12) (cost := 14) rfl (by omega) (by omega) (m_98f hx) ?_
  refine xv_bf rfl (by decide +kernel) ?_
  refine xv_m 7 rfl ?_
  refine xv_bf rfl (by decide +kernel) ?_
  refine xv_m 1 rfl ?_
  refine xv_bt rfl (by decide +kernel) ?_
  refine xv_m 2 rfl ?_
  refine xv_c0 (r := 97) (nip := 37) (cost := 16) rfl (by omega) (by omega) (m_97_2) ?_
  refine xv_bf rfl (by decide +kernel) ?_
  refine xv_m 1 rfl ?_
  exact xv_r rfl
theorem r_19c {V : Nat} (hV : V ≤ 30) (hSV : s 1 7 = nI V) {v : Nat} (hv : v < V){x : Int32} (h0 : nI 0 ≤ x) (h1 : x ≤ nI 100000) (h2 : nI 1000000000 < s 6 v + x) (hd : 2 ≤ d) (hw : 27 ≤ w) : xv xm L xs d w 128 0 [(0, .ref 28), (1, .int (nI v)), (2, .int (x))] [] (xC q ++ (xD (s) (b) ++ g)) (.returned (some (.int (nI 0)))) (xC q ++ (xD (s) (xu b 0 0 (nI 3)) ++ g)) 0 0 := by
  refine xv_m 2 rfl ?_
  refine xv_c0 (r := 99) (nip := 3) (cost := 13) rfl (by omega) (by omega) (m_99t (by omega) hSV hv (hd := by omega) (hw := by omega)) ?_
  refine xv_bt rfl (by decide +kernel) ?_
  refine xv_m 5 rfl ?_
  refine xv_c0 (r := 98) (nip := 12) (cost := 14) rfl (by omega) (by omega) (m_98t h0 h1) ?_
  refine xv_bt rfl (by decide +kernel) ?_
  refine xv_m 6 rfl ?_
  refine xv_bf rfl (by decide +kernel) ?_
  refine xv_m 1 rfl ?_
  refine xv_bf rfl (by decide +kernel) ?_
  refine xv_m 3 rfl ?_
  refine xv_ia (_) rfl rfl rfl (by omega) (by omega) ?_
  refine xv_m 3 rfl ?_
  refine xv_bf rfl (xd_leF h2) ?_
  refine xv_m 3 rfl ?_
  refine xv_c0 (r := 97) (nip := 37) (cost := 16) rfl (by omega) (by omega) (m_97_3) ?_
  refine xv_bf rfl (by decide +kernel) ?_
  refine xv_m 1 rfl ?_
  exact xv_r rfl
theorem l_129 {x : Int32} {y1 y2 : Int64} {h : List va_E} {o : Outcome} {h' : List va_E} {k0 z e : Nat} (he : xv xm L xs d w 129 66 [(8, .long (lN e)), (0, .ref 28), (2, .int x), (4, .long y1), (6, .long y2)] [] h o h' k0 z) : ∀ n a c, c < n → a < 2 ^ 63 → c < 2 ^ 63 → Nat.gcd c a = e → xv xm L xs d w 129 53 [(10, .long (lN c)), (8, .long (lN a)), (0, .ref 28), (2, .int x), (4, .long y1), (6, .long y2)] [] h o h' k0 z
  | 0, a, c, hn, _, _, _ => absurd hn (by omega)
  | n + 1, a, c, hn, ha, hc1, hg => by
    by_cases h0 : c = 0
    · subst h0
      rw [Nat.gcd_zero_left] at hg
      subst hg
      refine xv_m 3 rfl ?_
      refine xv_bt rfl (by rw [show lg_cmp (lN 0) (lN 0) = 0 from xl_eq]; decide) ?_
      exact xv_l he ⟨rfl, rfl, rfl, rfl, rfl, trivial⟩
    · have hb0 : 0 < c := Nat.pos_of_ne_zero h0
      have hl : a % c < c := Nat.mod_lt _ hb0
      refine xv_m 3 rfl ?_
      refine xv_bf rfl (by rw [show lg_cmp (lN c) (lN 0) = 1 from xl_gt hb0 hc1]; decide) ?_
      refine xv_m 2 rfl ?_
      refine xv_lrm rfl (pk_lRem ha hb0 hc1) (by rw [show (lN c = 0) = (lN c = lN 0) from rfl, pk_lEQ hc1 (by omega)]; exact h0) ?_
      refine xv_m 6 rfl ?_
      exact xv_l (l_129 he n c (a % c) (by omega) hc1 (by omega) (by rw [← hg, Nat.gcd_rec c a])) ⟨rfl, rfl, rfl, rfl, rfl, rfl, trivial⟩
theorem r_20_0 {V : Nat} (hV : V ≤ 30) (hSV : s 1 7 = nI V) {v : Nat} (hv : v < V) {m q1 : Nat} (hm : s 4 v = nI m) (hm0 : 0 < m) (hm1 : m ≤ 1000000) (hq : s 6 v = nI q1) (hq1 : q1 ≤ 1000000000) (hd : 2 ≤ d) (hw : 27 ≤ w) : xv xm L xs d w 129 0 [(0, .ref 28), (1, .int (nI v)), (2, .int (nI 0))] [] (xC q ++ (xD (s) (b) ++ g)) (.returned (some (.long (lN (100 * q1 / Nat.gcd m (100 * q1)))))) (xC q ++ (xD (s) (xu b 0 0 (nI 0)) ++ g)) 0 0 := by
  have hg : 0 < Nat.gcd m (100 * q1) := Nat.gcd_pos_of_pos_left _ hm0
  have hg2 : Nat.gcd m (100 * q1) ≤ m := Nat.gcd_le_left _ hm0
  refine xv_m 2 rfl ?_
  refine xv_c0 (r := 99) (nip := 3) (cost := 13) rfl (by omega) (by omega) (m_99t (by omega) hSV hv (hd := by omega) (hw := by omega)) ?_
  refine xv_bf rfl (by decide +kernel) ?_
  refine xv_m 3 rfl ?_
  refine xv_c0 (r := 98) (nip := 8) (cost := 14) rfl (by omega) (by omega) (m_98t (nI_pos' (by omega)) (nI_le (b := 1) (by omega) (by omega))) ?_
  refine xv_bt rfl (by decide +kernel) ?_
  refine xv_m 5 rfl ?_
  refine xv_bf rfl (by decide +kernel) ?_
  refine xv_m 3 rfl ?_
  refine xv_bt rfl (by decide +kernel) ?_
  refine xv_m 1 rfl ?_
  refine xv_ia (_) rfl rfl rfl (by omega) (by omega) ?_
  refine xv_bt rfl (xc_neT (by rw [hm]; exact nI_ne (b := 0) (by omega) (by omega) (by omega))) ?_
  refine xv_m 3 rfl ?_
  refine xv_c0 (r := 97) (nip := 32) (cost := 16) rfl (by omega) (by omega) (m_97_0) ?_
  refine xv_bt rfl (by decide +kernel) ?_
  refine xv_m 4 rfl ?_
  refine xv_ia (_) rfl rfl rfl (by omega) (by omega) ?_
  refine xv_m 2 rfl ?_
  refine xv_el (show lN 100 * (s 6 v).toInt64 = lN (100 * q1) by rw [hq, nI_l (by omega), lN_mul]) ?_
  refine xv_m 4 rfl ?_
  refine xv_ia (_) rfl rfl rfl (by omega) (by omega) ?_
  refine xv_m 1 rfl ?_
  refine xv_el (show (s 4 v).toInt64 = lN m by rw [hm, nI_l (by omega)]) ?_
  refine xv_m 5 rfl ?_
  refine xv_l (l_129 (x := nI 0) (y1 := lN (100 * q1)) (y2 := lN m) (e := Nat.gcd m (100 * q1)) ?_ (m + 1) (100 * q1) m (by omega) (by omega) (by omega) rfl) ⟨rfl, rfl, rfl, rfl, rfl, rfl, trivial⟩
  refine xv_m 1 rfl ?_
  refine xv_bf rfl (by decide +kernel) ?_
  refine xv_m 2 rfl ?_
  refine xv_ldv rfl (pk_lDiv (by omega) hg (by omega)) (by rw [show (lN (Nat.gcd m (100 * q1)) = 0) = (lN (Nat.gcd m (100 * q1)) = lN 0) from rfl, pk_lEQ (by omega) (by omega)]; omega) ?_
  refine xv_m 1 rfl ?_
  exact xv_r rfl
theorem r_20_1 {V : Nat} (hV : V ≤ 30) (hSV : s 1 7 = nI V) {v : Nat} (hv : v < V) {m q1 : Nat} (hm : s 4 v = nI m) (hm0 : 0 < m) (hm1 : m ≤ 1000000) (hq : s 6 v = nI q1) (hq1 : q1 ≤ 1000000000) (hd : 2 ≤ d) (hw : 27 ≤ w) : xv xm L xs d w 129 0 [(0, .ref 28), (1, .int (nI v)), (2, .int (nI 1))] [] (xC q ++ (xD (s) (b) ++ g)) (.returned (some (.long (lN (m / Nat.gcd m (100 * q1)))))) (xC q ++ (xD (s) (xu b 0 0 (nI 0)) ++ g)) 0 0 := by
  have hg : 0 < Nat.gcd m (100 * q1) := Nat.gcd_pos_of_pos_left _ hm0
  have hg2 : Nat.gcd m (100 * q1) ≤ m := Nat.gcd_le_left _ hm0
  refine xv_m 2 rfl ?_
  refine xv_c0 (r := 99) (nip := 3) (cost := 13) rfl (by omega) (by omega) (m_99t (by omega) hSV hv (hd := by omega) (hw := by omega)) ?_
  refine xv_bf rfl (by decide +kernel) ?_
  refine xv_m 3 rfl ?_
  refine xv_c0 (r := 98) (nip := 8) (cost := 14) rfl (by omega) (by omega) (m_98t (nI_pos' (by omega)) (nI_le (b := 1) (by omega) (by omega))) ?_
  refine xv_bt rfl (by decide +kernel) ?_
  refine xv_m 5 rfl ?_
  refine xv_bf rfl (by decide +kernel) ?_
  refine xv_m 3 rfl ?_
  refine xv_bt rfl (by decide +kernel) ?_
  refine xv_m 1 rfl ?_
  refine xv_ia (_) rfl rfl rfl (by omega) (by omega) ?_
  refine xv_bt rfl (xc_neT (by rw [hm]; exact nI_ne (b := 0) (by omega) (by omega) (by omega))) ?_
  refine xv_m 3 rfl ?_
  refine xv_c0 (r := 97) (nip := 32) (cost := 16) rfl (by omega) (by omega) (m_97_0) ?_
  refine xv_bt rfl (by decide +kernel) ?_
  refine xv_m 4 rfl ?_
  refine xv_ia (_) rfl rfl rfl (by omega) (by omega) ?_
  refine xv_m 2 rfl ?_
  refine xv_el (show lN 100 * (s 6 v).toInt64 = lN (100 * q1) by rw [hq, nI_l (by omega), lN_mul]) ?_
  refine xv_m 4 rfl ?_
  refine xv_ia (_) rfl rfl rfl (by omega) (by omega) ?_
  refine xv_m 1 rfl ?_
  refine xv_el (show (s 4 v).toInt64 = lN m by rw [hm, nI_l (by omega)]) ?_
  refine xv_m 5 rfl ?_
  refine xv_l (l_129 (x := nI 1) (y1 := lN (100 * q1)) (y2 := lN m) (e := Nat.gcd m (100 * q1)) ?_ (m + 1) (100 * q1) m (by omega) (by omega) (by omega) rfl) ⟨rfl, rfl, rfl, rfl, rfl, rfl, trivial⟩
  refine xv_m 1 rfl ?_
  refine xv_bt rfl (by decide +kernel) ?_
  refine xv_m 2 rfl ?_
  refine xv_ldv rfl (pk_lDiv (by omega) hg (by omega)) (by rw [show (lN (Nat.gcd m (100 * q1)) = 0) = (lN (Nat.gcd m (100 * q1)) = lN 0) from rfl, pk_lEQ (by omega) (by omega)]; omega) ?_
  exact xv_r rfl
theorem r_20a {p q1 : Int32} {V : Nat} (hV : V ≤ 30) (hSV : s 1 7 = nI V) (hx : p < 0 ∨ s 1 7 ≤ p) (hd : 2 ≤ d) (hw : 27 ≤ w) : xv xm L xs d w 129 0 [(0, .ref 28), (1, .int (p)), (2, .int (q1))] [] (xC q ++ (xD (s) (b) ++ g)) (.returned (some (.long (lN 0)))) (xC q ++ (xD (s) (xu b 0 0 (nI 1)) ++ g)) 0 0 := by
  refine xv_m 2 rfl ?_
  refine xv_c0 (r := 99) (nip := 3) (cost := 13) rfl (by omega) (by omega) (m_99f (V := V) (by omega) hSV hx (hd := by omega) (hw := by omega)) ?_
  refine xv_bt rfl (by decide +kernel) ?_
  refine xv_m 6 rfl ?_
  refine xv_bt rfl (by decide +kernel) ?_
  refine xv_m 3 rfl ?_
  refine xv_c0 (r := 97) (nip := 32) (cost := 16) rfl (by omega) (by omega) (m_97_1) ?_
  refine xv_bf rfl (by decide +kernel) ?_
  refine xv_m 1 rfl ?_
  exact xv_r rfl
theorem r_20b {V : Nat} (hV : V ≤ 30) (hSV : s 1 7 = nI V) {v : Nat} (hv : v < V) {q1 : Int32} (hx : q1 < nI 0 ∨ nI 1 < q1) (hd : 2 ≤ d) (hw : 27 ≤ w) : xv xm L xs d w 129 0 [(0, .ref 28), (1, .int (nI v)), (2, .int (q1))] [] (xC q ++ (xD (s) (b) ++ g)) (.returned (some (.long (lN 0)))) (xC q ++ (xD (s) (xu b 0 0 (nI 1)) ++ g)) 0 0 := by
  refine xv_m 2 rfl ?_
  refine xv_c0 (r := 99) (nip := 3) (cost := 13) rfl (by omega) (by omega) (m_99t (by omega) hSV hv (hd := by omega) (hw := by omega)) ?_
  refine xv_bf rfl (by decide +kernel) ?_
  refine xv_m 3 rfl ?_
  refine xv_c0 (r := 98) (nip := 8) (cost := 14) rfl (by omega) (by omega) (m_98f hx) ?_
  refine xv_bf rfl (by decide +kernel) ?_
  refine xv_m 6 rfl ?_
  refine xv_bt rfl (by decide +kernel) ?_
  refine xv_m 3 rfl ?_
  refine xv_c0 (r := 97) (nip := 32) (cost := 16) rfl (by omega) (by omega) (m_97_1) ?_
  refine xv_bf rfl (by decide +kernel) ?_
  refine xv_m 1 rfl ?_
  exact xv_r rfl
theorem r_20c {V : Nat} (hV : V ≤ 30) (hSV : s 1 7 = nI V) {v : Nat} (hv : v < V) {k : Nat} (hk : k < 2) (hm : s 4 v = nI 0) (hd : 2 ≤ d) (hw : 27 ≤ w) : xv xm L xs d w 129 0 [(0, .ref 28), (1, .int (nI v)), (2, .int (nI k))] [] (xC q ++ (xD (s) (b) ++ g)) (.returned (some (.long (lN 0)))) (xC q ++ (xD (s) (xu b 0 0 (nI 2)) ++ g)) 0 0 := by
  refine xv_m 2 rfl ?_
  refine xv_c0 (r := 99) (nip := 3) (cost := 13) rfl (by omega) (by omega) (m_99t (by omega) hSV hv (hd := by omega) (hw := by omega)) ?_
  refine xv_bf rfl (by decide +kernel) ?_
  refine xv_m 3 rfl ?_
  refine xv_c0 (r := 98) (nip := 8) (cost := 14) rfl (by omega) (by omega) (m_98t (nI_pos' (by omega)) (nI_le (b := 1) (by omega) (by omega))) ?_
  refine xv_bt rfl (by decide +kernel) ?_
  refine xv_m 5 rfl ?_
  refine xv_bf rfl (by decide +kernel) ?_
  refine xv_m 3 rfl ?_
  refine xv_bt rfl (by decide +kernel) ?_
  refine xv_m 1 rfl ?_
  refine xv_ia (_) rfl rfl rfl (by omega) (by omega) ?_
  refine xv_bf rfl (xc_neF hm) ?_
  refine xv_m 4 rfl ?_
  refine xv_c0 (r := 97) (nip := 32) (cost := 16) rfl (by omega) (by omega) (m_97_2) ?_
  refine xv_bf rfl (by decide +kernel) ?_
  refine xv_m 1 rfl ?_
  exact xv_r rfl
theorem r_21_0 {D : Nat} (hD : D ≤ 100) (hSD : s 12 4 = nI D) {k : Nat} (hk : k < D) (hd : 1 ≤ d) (hw : 16 ≤ w) : xv xm L xs d w 130 0 [(0, .ref 28), (1, .int (nI k)), (2, .int (nI 0))] [] (xC q ++ (xD (s) (b) ++ g)) (.returned (some (.int (s 15 k)))) (xC q ++ (xD (s) (xu b 0 0 (nI 0)) ++ g)) 0 0 := by
  refine xv_m 7 rfl ?_
  refine xv_ei (show s 12 4 - nI 1 = nI D - nI 1 by rw [hSD]) ?_
  refine xv_c0 (r := 98) (nip := 8) (cost := 15) rfl (by omega) (by omega) (m_98t (nI_pos' (by omega)) (xi_1 hk (by omega))) ?_
  refine xv_bf rfl (by decide +kernel) ?_
  refine xv_m 3 rfl ?_
  refine xv_c0 (r := 98) (nip := 13) (cost := 15) rfl (by omega) (by omega) (m_98t (nI_pos' (by omega)) (nI_le (b := 2) (by omega) (by omega))) ?_
  refine xv_bt rfl (by decide +kernel) ?_
  refine xv_m 4 rfl ?_
  refine xv_c0 (r := 97) (nip := 21) (cost := 16) rfl (by omega) (by omega) (m_97_0) ?_
  refine xv_bt rfl (by decide +kernel) ?_
  refine xv_m 1 rfl ?_
  refine xv_bf rfl (by decide +kernel) ?_
  refine xv_m 3 rfl ?_
  refine xv_ia (_) rfl rfl rfl (by omega) (by omega) ?_
  refine xv_m 1 rfl ?_
  exact xv_r rfl
theorem r_21_1 {D : Nat} (hD : D ≤ 100) (hSD : s 12 4 = nI D) {k : Nat} (hk : k < D) (hd : 1 ≤ d) (hw : 16 ≤ w) : xv xm L xs d w 130 0 [(0, .ref 28), (1, .int (nI k)), (2, .int (nI 1))] [] (xC q ++ (xD (s) (b) ++ g)) (.returned (some (.int (s 13 k)))) (xC q ++ (xD (s) (xu b 0 0 (nI 0)) ++ g)) 0 0 := by
  refine xv_m 7 rfl ?_
  refine xv_ei (show s 12 4 - nI 1 = nI D - nI 1 by rw [hSD]) ?_
  refine xv_c0 (r := 98) (nip := 8) (cost := 15) rfl (by omega) (by omega) (m_98t (nI_pos' (by omega)) (xi_1 hk (by omega))) ?_
  refine xv_bf rfl (by decide +kernel) ?_
  refine xv_m 3 rfl ?_
  refine xv_c0 (r := 98) (nip := 13) (cost := 15) rfl (by omega) (by omega) (m_98t (nI_pos' (by omega)) (nI_le (b := 2) (by omega) (by omega))) ?_
  refine xv_bt rfl (by decide +kernel) ?_
  refine xv_m 4 rfl ?_
  refine xv_c0 (r := 97) (nip := 21) (cost := 16) rfl (by omega) (by omega) (m_97_0) ?_
  refine xv_bt rfl (by decide +kernel) ?_
  refine xv_m 1 rfl ?_
  refine xv_bt rfl (by decide +kernel) ?_
  refine xv_m 2 rfl ?_
  refine xv_bf rfl (by decide +kernel) ?_
  refine xv_m 3 rfl ?_
  refine xv_ia (_) rfl rfl rfl (by omega) (by omega) ?_
  refine xv_m 1 rfl ?_
  exact xv_r rfl
theorem r_21_2 {D : Nat} (hD : D ≤ 100) (hSD : s 12 4 = nI D) {k : Nat} (hk : k < D) (hz : xz (s 14)) (hd : 1 ≤ d) (hw : 16 ≤ w) : xv xm L xs d w 130 0 [(0, .ref 28), (1, .int (nI k)), (2, .int (nI 2))] [] (xC q ++ (xD (s) (b) ++ g)) (.returned (some (.int (s 14 k)))) (xC q ++ (xD (s) (xu b 0 0 (nI 0)) ++ g)) 0 0 := by
  refine xv_m 7 rfl ?_
  refine xv_ei (show s 12 4 - nI 1 = nI D - nI 1 by rw [hSD]) ?_
  refine xv_c0 (r := 98) (nip := 8) (cost := 15) rfl (by omega) (by omega) (m_98t (nI_pos' (by omega)) (xi_1 hk (by omega))) ?_
  refine xv_bf rfl (by decide +kernel) ?_
  refine xv_m 3 rfl ?_
  refine xv_c0 (r := 98) (nip := 13) (cost := 15) rfl (by omega) (by omega) (m_98t (nI_pos' (by omega)) (nI_le (b := 2) (by omega) (by omega))) ?_
  refine xv_bt rfl (by decide +kernel) ?_
  refine xv_m 4 rfl ?_
  refine xv_c0 (r := 97) (nip := 21) (cost := 16) rfl (by omega) (by omega) (m_97_0) ?_
  refine xv_bt rfl (by decide +kernel) ?_
  refine xv_m 1 rfl ?_
  refine xv_bt rfl (by decide +kernel) ?_
  refine xv_m 2 rfl ?_
  refine xv_bt rfl (by decide +kernel) ?_
  refine xv_m 3 rfl ?_
  refine xv_ba (_) rfl rfl rfl (by omega) (by omega) ?_
  refine xv_b rfl (fun hc => ?_) (fun hc => ?_)
  · refine xv_m 1 rfl ?_
    exact xv_rn ((xe_eq hc).symm) rfl
  · refine xv_m 2 rfl ?_
    exact xv_rn (((hz k).resolve_left (xe_eqf hc)).symm) rfl
theorem r_21a {p q1 : Int32} {D : Nat} (hD : D ≤ 100) (hSD : s 12 4 = nI D) (hx : p < 0 ∨ s 12 4 ≤ p) (hd : 1 ≤ d) (hw : 16 ≤ w) : xv xm L xs d w 130 0 [(0, .ref 28), (1, .int (p)), (2, .int (q1))] [] (xC q ++ (xD (s) (b) ++ g)) (.returned (some (.int (nI 0)))) (xC q ++ (xD (s) (xu b 0 0 (nI 1)) ++ g)) 0 0 := by
  refine xv_m 7 rfl ?_
  refine xv_ei (show s 12 4 - nI 1 = nI D - nI 1 by rw [hSD]) ?_
  refine xv_c0 (r := 98) (nip := 8) (cost := 15) rfl (by omega) (by omega) (m_98f (xi_2 (by omega) hSD hx)) ?_
  refine xv_bt rfl (by decide +kernel) ?_
  refine xv_m 5 rfl ?_
  refine xv_c0 (r := 97) (nip := 21) (cost := 16) rfl (by omega) (by omega) (m_97_1) ?_
  refine xv_bf rfl (by decide +kernel) ?_
  refine xv_m 1 rfl ?_
  exact xv_r rfl
theorem r_21b {D : Nat} (hD : D ≤ 100) (hSD : s 12 4 = nI D) {k : Nat} (hk : k < D) {q1 : Int32} (hx : q1 < nI 0 ∨ nI 2 < q1) (hd : 1 ≤ d) (hw : 16 ≤ w) : xv xm L xs d w 130 0 [(0, .ref 28), (1, .int (nI k)), (2, .int (q1))] [] (xC q ++ (xD (s) (b) ++ g)) (.returned (some (.int (nI 0)))) (xC q ++ (xD (s) (xu b 0 0 (nI 1)) ++ g)) 0 0 := by
  refine xv_m 7 rfl ?_
  refine xv_ei (show s 12 4 - nI 1 = nI D - nI 1 by rw [hSD]) ?_
  refine xv_c0 (r := 98) (nip := 8) (cost := 15) rfl (by omega) (by omega) (m_98t (nI_pos' (by omega)) (xi_1 hk (by omega))) ?_
  refine xv_bf rfl (by decide +kernel) ?_
  refine xv_m 3 rfl ?_
  refine xv_c0 (r := 98) (nip := 13) (cost := 15) rfl (by omega) (by omega) (m_98f hx) ?_
  refine xv_bf rfl (by decide +kernel) ?_
  refine xv_m 5 rfl ?_
  refine xv_c0 (r := 97) (nip := 21) (cost := 16) rfl (by omega) (by omega) (m_97_1) ?_
  refine xv_bf rfl (by decide +kernel) ?_
  refine xv_m 1 rfl ?_
  exact xv_r rfl
end XRG

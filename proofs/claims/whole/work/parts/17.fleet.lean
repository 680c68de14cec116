def xB (b : Bool) : Int32 := bif b then 1 else 0
theorem xn_B (b : Bool) : vp_nar .boolean (xB b) = xB b := by
  cases b
  · exact xn_0
  · exact xn_1
theorem xk (k : Nat) : some (Value.int (nI k + xa_con 1 0)) = some (.int (nI (k + 1))) := by rw [xa_c0, nI_add]
def xany (p : Nat → Bool) : Nat → Nat → Bool
  | 0, _ => false
  | n + 1, k => p k || xany p n (k + 1)
theorem xany_t {p : Nat → Bool} {n k : Nat} (h : p k = true) : xany p (n + 1) k = true := by show (p k || _) = true; rw [h]; rfl
theorem xany_f {p : Nat → Bool} {n k : Nat} (h : p k = false) : xany p (n + 1) k = xany p n (k + 1) := by show (p k || _) = _; rw [h]; rfl
section XFL
variable {L : Nat} {xs : Nat → Int32} {d w : Nat} {s : Nat → Nat → Int32} {g : List va_E}
theorem m_41  : xv xm L xs d w 41 0 [(0, .ref 2)] [] (xC s ++ g) (.returned (some (.int (s 1 7)))) (xC s ++ g) 0 0 := by
  refine xv_m 2 rfl ?_
  exact xv_r rfl
theorem m_45 {j : Nat} (hj : j < 30) : xv xm L xs d w 45 0 [(0, .ref 2), (1, .int (nI j))] [] (xC s ++ g) (.returned (some (.int (s 4 j)))) (xC s ++ g) 0 0 := by
  refine xv_m 3 rfl ?_
  refine xv_ia (_) rfl rfl rfl (by omega) (by omega) ?_
  exact xv_r rfl
theorem m_46 {j : Nat} (hj : j < 30) : xv xm L xs d w 46 0 [(0, .ref 2), (1, .int (nI j))] [] (xC s ++ g) (.returned (some (.int (s 5 j)))) (xC s ++ g) 0 0 := by
  refine xv_m 3 rfl ?_
  refine xv_ia (_) rfl rfl rfl (by omega) (by omega) ?_
  exact xv_r rfl
theorem m_48 {j : Nat} (hj : j < 30) : xv xm L xs d w 48 0 [(0, .ref 2), (1, .int (nI j))] [] (xC s ++ g) (.returned (some (.int (s 6 j)))) (xC s ++ g) 0 0 := by
  refine xv_m 3 rfl ?_
  refine xv_ia (_) rfl rfl rfl (by omega) (by omega) ?_
  exact xv_r rfl
theorem m_43 (hz : xz (s 3)) {j : Nat} (hj : j < 30) : xv xm L xs d w 43 0 [(0, .ref 2), (1, .int (nI j))] [] (xC s ++ g) (.returned (some (.int (s 3 j)))) (xC s ++ g) 0 0 := by
  refine xv_m 3 rfl ?_
  refine xv_ba (_) rfl rfl rfl (by omega) (by omega) ?_
  exact xv_rb (xn_z hz j) rfl
theorem m_47 {j : Nat} (hj : j < 30) {x y : Int32} : xv xm L xs d w 47 0 [(0, .ref 2), (1, .int (nI j)), (2, .int (x)), (3, .int (y))] [] (xC s ++ g) (.returned none) (xC (xu (xu s 4 j x) 5 j y) ++ g) 0 0 := by
  refine xv_m 4 rfl ?_
  refine xv_ias (j) (xC (xu s 4 j x) ++ g) rfl rfl (by first | rfl | (simp only [xa_c0, pk_mul, nI_add]; done) | (simp only [xa_c0, pk_mul, nI_add]; congr 1; omega)) (by omega) (by omega) rfl ?_
  refine xv_m 4 rfl ?_
  refine xv_ias (j) (xC (xu (xu s 4 j x) 5 j y) ++ g) rfl rfl (by first | rfl | (simp only [xa_c0, pk_mul, nI_add]; done) | (simp only [xa_c0, pk_mul, nI_add]; congr 1; omega)) (by omega) (by omega) rfl ?_
  exact xv_r rfl
theorem m_49 {j : Nat} (hj : j < 30) {x : Int32} : xv xm L xs d w 49 0 [(0, .ref 2), (1, .int (nI j)), (2, .int (x))] [] (xC s ++ g) (.returned none) (xC (xu s 6 j (s 6 j + x)) ++ g) 0 0 := by
  refine xv_m 4 rfl ?_
  refine xv_ia (_) rfl rfl rfl (by omega) (by omega) ?_
  refine xv_m 2 rfl ?_
  refine xv_ias (j) (xC (xu s 6 j (s 6 j + x)) ++ g) rfl rfl (by first | rfl | (simp only [xa_c0, pk_mul, nI_add]; done) | (simp only [xa_c0, pk_mul, nI_add]; congr 1; omega)) (by omega) (by omega) rfl ?_
  exact xv_r rfl
theorem m_50 {j k : Nat} (hj : j < 30) (hk : k < 5) {x : Int32} : xv xm L xs d w 50 0 [(0, .ref 2), (1, .int (nI j)), (2, .int (nI k)), (3, .int (x))] [] (xC s ++ g) (.returned none) (xC (xu s 7 (5 * j + k) x) ++ g) 0 0 := by
  refine xv_m 8 rfl ?_
  refine xv_ias (5 * j + k) (xC (xu s 7 (5 * j + k) x) ++ g) rfl rfl (by first | rfl | (simp only [xa_c0, pk_mul, nI_add]; done) | (simp only [xa_c0, pk_mul, nI_add]; congr 1; omega)) (by omega) (by omega) rfl ?_
  exact xv_r rfl
theorem m_52 {j k : Nat} (hj : j < 30) (hk : k < 100) : xv xm L xs d w 52 0 [(0, .ref 2), (1, .int (nI j)), (2, .int (nI k))] [] (xC s ++ g) (.returned (some (.int (s 8 (100 * j + k))))) (xC s ++ g) 0 0 := by
  refine xv_m 7 rfl ?_
  refine xv_ia (100 * j + k) rfl rfl (by first | rfl | (simp only [xa_c0, pk_mul, nI_add]; done) | (simp only [xa_c0, pk_mul, nI_add]; congr 1; omega)) (by omega) (by omega) ?_
  exact xv_r rfl
theorem m_53 {j k : Nat} (hj : j < 30) (hk : k < 100) {x : Int32} : xv xm L xs d w 53 0 [(0, .ref 2), (1, .int (nI j)), (2, .int (nI k)), (3, .int (x))] [] (xC s ++ g) (.returned none) (xC (xu s 8 (100 * j + k) x) ++ g) 0 0 := by
  refine xv_m 8 rfl ?_
  refine xv_ias (100 * j + k) (xC (xu s 8 (100 * j + k) x) ++ g) rfl rfl (by first | rfl | (simp only [xa_c0, pk_mul, nI_add]; done) | (simp only [xa_c0, pk_mul, nI_add]; congr 1; omega)) (by omega) (by omega) rfl ?_
  exact xv_r rfl
def f_past (f : Nat → Int32) (t : Int32) (v k : Nat) : Bool := !(xa_cmp .eq (f (5 * v + k)) (xa_con 1 1)) && !(xa_cmp .gt (f (5 * v + k)) t)
theorem l_51 {j : Nat} (hj : j < 30) {t : Int32} : ∀ n k, k + n = 5 → xv xm L xs d w 51 2 [(3, .int (nI k)), (0, .ref 2), (1, .int (nI j)), (2, .int t)] [] (xC s ++ g) (.returned (some (.int (xB (xany (f_past (s 7) t j) n k))))) (xC s ++ g) 0 0
  | 0, k, hk => by
    refine xv_m 2 rfl ?_
    refine xv_bt rfl (xc_geT (by omega) (by omega)) ?_
    refine xv_m 1 rfl ?_
    exact xv_rb xn_0 rfl
  | n + 1, k, hk => by
    refine xv_m 2 rfl ?_
    refine xv_bf rfl (xc_geF (by omega) (by omega)) ?_
    refine xv_m 7 rfl ?_
    refine xv_ia (5 * j + k) rfl rfl (by first | rfl | (simp only [xa_c0, pk_mul, nI_add]; done) | (simp only [xa_c0, pk_mul, nI_add]; congr 1; omega)) (by omega) (by omega) ?_
    refine xv_m 3 rfl ?_
    refine xv_b rfl (fun hc => ?_) (fun hc => ?_)
    · rw [xany_f (show f_past (s 7) t j k = false by unfold f_past; rw [hc]; rfl)]
      refine xv_m 2 rfl ?_
      exact xv_l (l_51 hj n (k + 1) (by omega)) ⟨xk k, rfl, rfl, rfl, trivial⟩
    · refine xv_m 2 rfl ?_
      refine xv_b rfl (fun hc2 => ?_) (fun hc2 => ?_)
      · rw [xany_f (show f_past (s 7) t j k = false by unfold f_past; rw [hc, hc2]; rfl)]
        refine xv_m 2 rfl ?_
        exact xv_l (l_51 hj n (k + 1) (by omega)) ⟨xk k, rfl, rfl, rfl, trivial⟩
      · rw [xany_t (show f_past (s 7) t j k = true by unfold f_past; rw [hc, hc2]; rfl)]
        refine xv_m 1 rfl ?_
        exact xv_rb xn_1 rfl
theorem m_51 {j : Nat} (hj : j < 30) {t : Int32} : xv xm L xs d w 51 0 [(0, .ref 2), (1, .int (nI j)), (2, .int (t))] [] (xC s ++ g) (.returned (some (.int (xB (xany (f_past (s 7) t j) 5 0))))) (xC s ++ g) 0 0 := by
  refine xv_m 2 rfl ?_
  exact l_51 hj 5 0 rfl
def f_near (f : Nat → Int32) (v a b : Nat) : Bool := xa_cmp .lt (xa_abs (f a - f v)) (xa_abs (f b - f v)) || (!(xa_cmp .ne (xa_abs (f a - f v)) (xa_abs (f b - f v))) && !(xa_cmp .ge (f a) (f b)))
theorem m_44 {v a b : Nat} (hv : v < 30) (ha : a < 30) (hb : b < 30) (hd : 1 ≤ d) (hw : 30 ≤ w) : xv xm L xs d w 44 0 [(0, .ref 2), (1, .int (nI v)), (2, .int (nI a)), (3, .int (nI b))] [] (xC s ++ g) (.returned (some (.int (xB (f_near (s 2) v a b))))) (xC s ++ g) 0 0 := by
  refine xv_m 3 rfl ?_
  refine xv_ia (_) rfl rfl rfl (by omega) (by omega) ?_
  refine xv_m 3 rfl ?_
  refine xv_ia (_) rfl rfl rfl (by omega) (by omega) ?_
  refine xv_m 1 rfl ?_
  refine xv_o rfl (by omega) (by omega) ?_
  refine xv_m 4 rfl ?_
  refine xv_ia (_) rfl rfl rfl (by omega) (by omega) ?_
  refine xv_m 3 rfl ?_
  refine xv_ia (_) rfl rfl rfl (by omega) (by omega) ?_
  refine xv_m 1 rfl ?_
  refine xv_o rfl (by omega) (by omega) ?_
  refine xv_m 3 rfl ?_
  refine xv_b rfl (fun hc => ?_) (fun hc => ?_)
  · rw [show f_near (s 2) v a b = true by unfold f_near; rw [hc]; rfl]
    refine xv_m 2 rfl ?_
    exact xv_rb xn_1 rfl
  · refine xv_m 2 rfl ?_
    refine xv_b rfl (fun hc2 => ?_) (fun hc2 => ?_)
    · rw [show f_near (s 2) v a b = false by unfold f_near; rw [hc, hc2]; rfl]
      refine xv_m 1 rfl ?_
      exact xv_rb xn_0 rfl
    · refine xv_m 3 rfl ?_
      refine xv_ia (_) rfl rfl rfl (by omega) (by omega) ?_
      refine xv_m 3 rfl ?_
      refine xv_ia (_) rfl rfl rfl (by omega) (by omega) ?_
      refine xv_b rfl (fun hc3 => ?_) (fun hc3 => ?_)
      · rw [show f_near (s 2) v a b = false by unfold f_near; rw [hc, hc2, hc3]; rfl]
        refine xv_m 1 rfl ?_
        exact xv_rb xn_0 rfl
      · rw [show f_near (s 2) v a b = true by unfold f_near; rw [hc, hc2, hc3]; rfl]
        refine xv_m 2 rfl ?_
        exact xv_rb xn_1 rfl
def f_cert (f : Nat → Int32) (v : Nat) : Nat → Nat → Int32
  | 0 => f
  | k + 1 => upd (f_cert f v k) (5 * v + k) (xa_con 1 1)
theorem l_42 {v : Nat} (hv : v < 30) (hV : s 1 7 = nI v) {x y : Int32} {f : Nat → Int32} {o : Outcome} {h' : List va_E} {k0 z : Nat} (hd : 1 ≤ d) (hw : 15 ≤ w) (he : xv xm L xs d w 42 25 [(3, .int (nI 5)), (0, .ref 2), (1, .int x), (2, .int y)] [] (xC (xw s 7 (f_cert f v 5)) ++ g) o h' k0 z) : ∀ n k, k + n = 5 → xv xm L xs d w 42 14 [(3, .int (nI k)), (0, .ref 2), (1, .int x), (2, .int y)] [] (xC (xw s 7 (f_cert f v k)) ++ g) o h' k0 z
  | 0, k, hk => by
    have hk : k = 5 := hk
    subst hk
    refine xv_m 2 rfl ?_
    refine xv_bt rfl (xc_geT (by omega) (by omega)) ?_
    exact he
  | n + 1, k, hk => by
    refine xv_m 2 rfl ?_
    refine xv_bf rfl (xc_geF (by omega) (by omega)) ?_
    refine xv_m 5 rfl ?_
    rw [show (xw s 7 (f_cert f v k)) 1 7 = nI v from hV]
    refine xv_c0 (r := 50) (nip := 23) (cost := 15) rfl (by omega) (by omega) (m_50 (s := xw s 7 (f_cert f v k)) (j := v) (k := k) hv (by omega)) ?_
    refine xv_m 2 rfl ?_
    exact xv_l (l_42 hv hV hd hw he n (k + 1) (by omega)) ⟨xk k, rfl, rfl, rfl, trivial⟩
theorem m_42 {v : Nat} (hv : v < 30) (hV : s 1 7 = nI v) {x y : Int32} (hy : y = 0 ∨ y = 1) (hd : 1 ≤ d) (hw : 15 ≤ w) : xv xm L xs d w 42 0 [(0, .ref 2), (1, .int (x)), (2, .int (y))] [] (xC s ++ g) (.returned (some (.int (nI v)))) (xC (xu (xw (xu (xu s 2 v x) 3 v y) 7 (f_cert (s 7) v 5)) 1 7 (nI (v + 1))) ++ g) 0 0 := by
  refine xv_m 5 rfl ?_
  refine xv_ias (v) (xC (xu s 2 v x) ++ g) rfl rfl hV (by omega) (by omega) rfl ?_
  refine xv_m 5 rfl ?_
  refine xv_bas (v) (xC (xu (xu s 2 v x) 3 v y) ++ g) rfl rfl hV (by omega) (by omega) (xn_b hy) rfl ?_
  refine xv_m 2 rfl ?_
  refine l_42 (s := xu (xu s 2 v x) 3 v y) (f := s 7) hv hV (by omega) (by omega) ?_ 5 0 rfl
  refine xv_m 5 rfl ?_
  refine xv_ei (show s 1 7 + nI 1 = nI (v + 1) by rw [hV, nI_add]) ?_
  refine xv_m 1 (h1 := xC (xu (xw (xu (xu s 2 v x) 3 v y) 7 (f_cert (s 7) v 5)) 1 7 (nI (v + 1))) ++ g) rfl ?_
  refine xv_m 4 rfl ?_
  exact xv_rn (by show nI (v + 1) - nI 1 = nI v; exact nI_pred v) rfl
end XFL

def xcnt (p : Nat → Bool) : Nat → Nat → Int32 → Int32
  | 0, _, c => c
  | n + 1, k, c => xcnt p n (k + 1) (bif p k then c + xa_con 1 0 else c)
theorem xcnt_t {p : Nat → Bool} {n k : Nat} {c : Int32} (h : p k = true) : xcnt p (n + 1) k c = xcnt p n (k + 1) (c + xa_con 1 0) := by show xcnt p n (k + 1) (bif p k then c + xa_con 1 0 else c) = _; rw [h]; rfl
theorem xcnt_f {p : Nat → Bool} {n k : Nat} {c : Int32} (h : p k = false) : xcnt p (n + 1) k c = xcnt p n (k + 1) c := by show xcnt p n (k + 1) (bif p k then c + xa_con 1 0 else c) = _; rw [h]; rfl
def xfst (p : Nat → Bool) : Nat → Nat → Int32
  | 0, _ => xa_con 1 1
  | n + 1, k => bif p k then nI k else xfst p n (k + 1)
theorem xfst_t {p : Nat → Bool} {n k : Nat} (h : p k = true) : xfst p (n + 1) k = nI k := by show (bif p k then nI k else xfst p n (k + 1)) = _; rw [h]; rfl
theorem xfst_f {p : Nat → Bool} {n k : Nat} (h : p k = false) : xfst p (n + 1) k = xfst p n (k + 1) := by show (bif p k then nI k else xfst p n (k + 1)) = _; rw [h]; rfl
def xfo (F : Nat → (Nat → Int32) → Nat → Int32) (f : Nat → Int32) : Nat → Nat → Int32
  | 0 => f
  | k + 1 => F k (xfo F f k)
section XRD
variable {L : Nat} {xs : Nat → Int32} {d w : Nat} {s : Nat → Nat → Int32} {g : List va_E}
theorem m_55  : xv xm L xs d w 55 0 [(0, .ref 10)] [] (xC s ++ g) (.returned (some (.int (s 9 2)))) (xC s ++ g) 0 0 := by
  refine xv_m 2 rfl ?_
  exact xv_r rfl
theorem m_56 {r : Nat} (hr : r < 10) (hR : s 9 2 = nI r) {a b c : Int32} : xv xm L xs d w 56 0 [(0, .ref 10), (1, .int (a)), (2, .int (b)), (3, .int (c))] [] (xC s ++ g) (.returned (some (.int (nI r)))) (xC (xu (xu (xu (xu s 10 (3 * r) a) 10 (3 * r + 1) b) 10 (3 * r + 2) c) 9 2 (nI (r + 1))) ++ g) 0 0 := by
  refine xv_m 9 rfl ?_
  refine xv_ias (3 * r) (xC (xu s 10 (3 * r) a) ++ g) rfl rfl (by show s 9 2 * nI 3 + nI 0 = _; rw [hR, pk_mul, nI_add]; congr 1; omega) (by omega) (by omega) rfl ?_
  refine xv_m 9 rfl ?_
  refine xv_ias (3 * r + 1) (xC (xu (xu s 10 (3 * r) a) 10 (3 * r + 1) b) ++ g) rfl rfl (by show s 9 2 * nI 3 + nI 1 = _; rw [hR, pk_mul, nI_add]; congr 1; omega) (by omega) (by omega) rfl ?_
  refine xv_m 9 rfl ?_
  refine xv_ias (3 * r + 2) (xC (xu (xu (xu s 10 (3 * r) a) 10 (3 * r + 1) b) 10 (3 * r + 2) c) ++ g) rfl rfl (by show s 9 2 * nI 3 + nI 2 = _; rw [hR, pk_mul, nI_add]; congr 1; omega) (by omega) (by omega) rfl ?_
  refine xv_m 5 rfl ?_
  refine xv_ei (show s 9 2 + nI 1 = nI (r + 1) by rw [hR, nI_add]) ?_
  refine xv_m 1 (h1 := xC (xu (xu (xu (xu s 10 (3 * r) a) 10 (3 * r + 1) b) 10 (3 * r + 2) c) 9 2 (nI (r + 1))) ++ g) rfl ?_
  refine xv_m 4 rfl ?_
  exact xv_rn (by show nI (r + 1) - nI 1 = nI r; exact nI_pred r) rfl
theorem m_58 {r k : Nat} (hr : r < 10) (hk : k < 3) : xv xm L xs d w 58 0 [(0, .ref 10), (1, .int (nI r)), (2, .int (nI k))] [] (xC s ++ g) (.returned (some (.int (s 10 (3 * r + k))))) (xC s ++ g) 0 0 := by
  refine xv_m 7 rfl ?_
  refine xv_ia (3 * r + k) rfl rfl (by first | rfl | (simp only [xa_c0, pk_mul, nI_add]; done) | (simp only [xa_c0, pk_mul, nI_add]; congr 1; omega)) (by omega) (by omega) ?_
  exact xv_r rfl
def f_by (f : Nat → Int32) (r k : Nat) : Bool := !(xa_cmp .eq (f (3 * r + k)) 0)
theorem m_59 {r k : Nat} (hr : r < 10) (hk : k < 3) (hd : 1 ≤ d) (hw : 14 ≤ w) : xv xm L xs d w 59 0 [(0, .ref 10), (1, .int (nI r)), (2, .int (nI k))] [] (xC s ++ g) (.returned (some (.int (xB (f_by (s 10) r k))))) (xC s ++ g) 0 0 := by
  refine xv_m 3 rfl ?_
  refine xv_c0 (r := 58) (nip := 4) (cost := 14) rfl (by omega) (by omega) (m_58 hr hk) ?_
  refine xv_b rfl (fun hc => ?_) (fun hc => ?_)
  · rw [show f_by (s 10) r k = false by unfold f_by; rw [hc]; rfl]
    refine xv_m 1 rfl ?_
    exact xv_rb xn_0 rfl
  · rw [show f_by (s 10) r k = true by unfold f_by; rw [hc]; rfl]
    refine xv_m 2 rfl ?_
    exact xv_rb xn_1 rfl
theorem m_60 {v r k : Nat} (hv : v < 30) (hr : r < 10) (hk : k < 3) : xv xm L xs d w 60 0 [(0, .ref 10), (1, .int (nI v)), (2, .int (nI r)), (3, .int (nI k))] [] (xC s ++ g) (.returned (some (.int (s 11 (30 * v + 3 * r + k))))) (xC s ++ g) 0 0 := by
  refine xv_m 11 rfl ?_
  refine xv_ia (30 * v + 3 * r + k) rfl rfl (by first | rfl | (simp only [xa_c0, pk_mul, nI_add]; done) | (simp only [xa_c0, pk_mul, nI_add]; congr 1; omega)) (by omega) (by omega) ?_
  exact xv_r rfl
theorem m_61 {v r k : Nat} (hv : v < 30) (hr : r < 10) (hk : k < 3) {x : Int32} : xv xm L xs d w 61 0 [(0, .ref 10), (1, .int (nI v)), (2, .int (nI r)), (3, .int (nI k)), (4, .int (x))] [] (xC s ++ g) (.returned none) (xC (xu s 11 (30 * v + 3 * r + k) x) ++ g) 0 0 := by
  refine xv_m 12 rfl ?_
  refine xv_ias (30 * v + 3 * r + k) (xC (xu s 11 (30 * v + 3 * r + k) x) ++ g) rfl rfl (by first | rfl | (simp only [xa_c0, pk_mul, nI_add]; done) | (simp only [xa_c0, pk_mul, nI_add]; congr 1; omega)) (by omega) (by omega) rfl ?_
  exact xv_r rfl
def f_start (v : Nat) (t : Int32) (k : Nat) (f : Nat → Int32) : Nat → Int32 := upd f (30 * v + 3 * k + 2) t
theorem l_57 {v : Nat} (hv : v < 30) {t : Int32} (hd : 1 ≤ d) (hw : 16 ≤ w) : ∀ n k, k + n = 10 → xv xm L xs d w 57 2 [(3, .int (nI k)), (0, .ref 10), (1, .int (nI v)), (2, .int t)] [] (xC (xw s 11 (xfo (f_start v t) (s 11) k)) ++ g) (.returned none) (xC (xw s 11 (xfo (f_start v t) (s 11) 10)) ++ g) 0 0
  | 0, k, hk => by
    have hk : k = 10 := hk
    subst hk
    refine xv_m 2 rfl ?_
    refine xv_bt rfl (xc_geT (by omega) (by omega)) ?_
    exact xv_r rfl
  | n + 1, k, hk => by
    refine xv_m 2 rfl ?_
    refine xv_bf rfl (xc_geF (by omega) (by omega)) ?_
    refine xv_m 5 rfl ?_
    refine xv_c0 (r := 61) (nip := 11) (cost := 16) rfl (by omega) (by omega) (m_61 (s := xw s 11 (xfo (f_start v t) (s 11) k)) (v := v) (r := k) (k := 2) hv (by omega) (by omega)) ?_
    refine xv_m 2 rfl ?_
    exact xv_l (l_57 hv hd hw n (k + 1) (by omega)) ⟨xk k, rfl, rfl, rfl, trivial⟩
theorem m_57 {v : Nat} (hv : v < 30) {t : Int32} (hd : 1 ≤ d) (hw : 16 ≤ w) : xv xm L xs d w 57 0 [(0, .ref 10), (1, .int (nI v)), (2, .int (t))] [] (xC s ++ g) (.returned none) (xC (xw s 11 (xfo (f_start v t) (s 11) 10)) ++ g) 0 0 := by
  refine xv_m 2 rfl ?_
  refine xv_eh (h1 := xC (xw s 11 (xfo (f_start v t) (s 11) 0)) ++ g) rfl ?_
  exact l_57 hv (by omega) (by omega) 10 0 rfl
theorem m_63  : xv xm L xs d w 63 0 [(0, .ref 13)] [] (xC s ++ g) (.returned (some (.int (s 12 4)))) (xC s ++ g) 0 0 := by
  refine xv_m 2 rfl ?_
  exact xv_r rfl
theorem m_64 {j : Nat} (hj : j < 100) (hD : s 12 4 = nI j) {x y : Int32} (hy : y = 0 ∨ y = 1) : xv xm L xs d w 64 0 [(0, .ref 13), (1, .int (x)), (2, .int (y))] [] (xC s ++ g) (.returned (some (.int (nI j)))) (xC (xu (xu (xu (xu (xu s 13 j x) 14 j y) 15 j (nI 0)) 16 j (xa_con 1 1)) 12 4 (nI (j + 1))) ++ g) 0 0 := by
  refine xv_m 5 rfl ?_
  refine xv_ias (j) (xC (xu s 13 j x) ++ g) rfl rfl hD (by omega) (by omega) rfl ?_
  refine xv_m 5 rfl ?_
  refine xv_bas (j) (xC (xu (xu s 13 j x) 14 j y) ++ g) rfl rfl hD (by omega) (by omega) (xn_b hy) rfl ?_
  refine xv_m 5 rfl ?_
  refine xv_ias (j) (xC (xu (xu (xu s 13 j x) 14 j y) 15 j (nI 0)) ++ g) rfl rfl hD (by omega) (by omega) rfl ?_
  refine xv_m 5 rfl ?_
  refine xv_ias (j) (xC (xu (xu (xu (xu s 13 j x) 14 j y) 15 j (nI 0)) 16 j (xa_con 1 1)) ++ g) rfl rfl hD (by omega) (by omega) rfl ?_
  refine xv_m 5 rfl ?_
  refine xv_ei (show s 12 4 + nI 1 = nI (j + 1) by rw [hD, nI_add]) ?_
  refine xv_m 1 (h1 := xC (xu (xu (xu (xu (xu s 13 j x) 14 j y) 15 j (nI 0)) 16 j (xa_con 1 1)) 12 4 (nI (j + 1))) ++ g) rfl ?_
  refine xv_m 4 rfl ?_
  exact xv_rn (by show nI (j + 1) - nI 1 = nI j; exact nI_pred j) rfl
theorem m_65 {j : Nat} (hj : j < 100) : xv xm L xs d w 65 0 [(0, .ref 13), (1, .int (nI j))] [] (xC s ++ g) (.returned (some (.int (s 13 j)))) (xC s ++ g) 0 0 := by
  refine xv_m 3 rfl ?_
  refine xv_ia (_) rfl rfl rfl (by omega) (by omega) ?_
  exact xv_r rfl
theorem m_67 {j : Nat} (hj : j < 100) : xv xm L xs d w 67 0 [(0, .ref 13), (1, .int (nI j))] [] (xC s ++ g) (.returned (some (.int (s 15 j)))) (xC s ++ g) 0 0 := by
  refine xv_m 3 rfl ?_
  refine xv_ia (_) rfl rfl rfl (by omega) (by omega) ?_
  exact xv_r rfl
theorem m_68 {j : Nat} (hj : j < 100) : xv xm L xs d w 68 0 [(0, .ref 13), (1, .int (nI j))] [] (xC s ++ g) (.returned (some (.int (s 16 j)))) (xC s ++ g) 0 0 := by
  refine xv_m 3 rfl ?_
  refine xv_ia (_) rfl rfl rfl (by omega) (by omega) ?_
  exact xv_r rfl
theorem m_66 (hz : xz (s 14)) {j : Nat} (hj : j < 100) : xv xm L xs d w 66 0 [(0, .ref 13), (1, .int (nI j))] [] (xC s ++ g) (.returned (some (.int (s 14 j)))) (xC s ++ g) 0 0 := by
  refine xv_m 3 rfl ?_
  refine xv_ba (_) rfl rfl rfl (by omega) (by omega) ?_
  exact xv_rb (xn_z hz j) rfl
theorem m_69 {j : Nat} (hj : j < 100) {x : Int32} : xv xm L xs d w 69 0 [(0, .ref 13), (1, .int (nI j)), (2, .int (x))] [] (xC s ++ g) (.returned none) (xC (xu s 16 j x) ++ g) 0 0 := by
  refine xv_m 4 rfl ?_
  refine xv_ias (j) (xC (xu s 16 j x) ++ g) rfl rfl (by first | rfl | (simp only [xa_c0, pk_mul, nI_add]; done) | (simp only [xa_c0, pk_mul, nI_add]; congr 1; omega)) (by omega) (by omega) rfl ?_
  exact xv_r rfl
def f_rep (q sv : Nat → Int32) (x : Int32) (k : Nat) (f : Nat → Int32) : Nat → Int32 := bif xa_cmp .ne (q k) x || xa_cmp .ne (f k) 0 then f else upd f k (bif xa_cmp .eq (sv k) 0 then xa_con 2 0 else xa_con 1 0)
theorem f_rep_1 {q sv : Nat → Int32} {x : Int32} {k : Nat} {f : Nat → Int32} (h : xa_cmp .ne (q k) x = true) : f_rep q sv x k f = f := by unfold f_rep; rw [h]; rfl
theorem f_rep_2 {q sv : Nat → Int32} {x : Int32} {k : Nat} {f : Nat → Int32} (h : xa_cmp .ne (q k) x = false) (h2 : xa_cmp .ne (f k) 0 = true) : f_rep q sv x k f = f := by unfold f_rep; rw [h, h2]; rfl
theorem f_rep_3 {q sv : Nat → Int32} {x : Int32} {k : Nat} {f : Nat → Int32} (h : xa_cmp .ne (q k) x = false) (h2 : xa_cmp .ne (f k) 0 = false) (h3 : xa_cmp .eq (sv k) 0 = true) : f_rep q sv x k f = upd f k (xa_con 2 0) := by unfold f_rep; rw [h, h2, h3]; rfl
theorem f_rep_4 {q sv : Nat → Int32} {x : Int32} {k : Nat} {f : Nat → Int32} (h : xa_cmp .ne (q k) x = false) (h2 : xa_cmp .ne (f k) 0 = false) (h3 : xa_cmp .eq (sv k) 0 = false) : f_rep q sv x k f = upd f k (xa_con 1 0) := by unfold f_rep; rw [h, h2, h3]; rfl
theorem l_70 {D : Nat} (hD : D ≤ 100) (hS : s 12 4 = nI D) {x : Int32} : ∀ n k, k + n = D → xv xm L xs d w 70 2 [(2, .int (nI k)), (0, .ref 13), (1, .int x)] [] (xC (xw s 15 (xfo (f_rep (s 16) (s 14) x) (s 15) k)) ++ g) (.returned none) (xC (xw s 15 (xfo (f_rep (s 16) (s 14) x) (s 15) D)) ++ g) 0 0
  | 0, k, hk => by
    have hk : k = D := hk
    subst hk
    refine xv_m 3 rfl ?_
    refine xv_ei (show (xw s 15 (xfo (f_rep (s 16) (s 14) x) (s 15) k)) 12 4 = nI k from hS) ?_
    refine xv_bt rfl (xc_geT (by omega) (by omega)) ?_
    exact xv_r rfl
  | n + 1, k, hk => by
    refine xv_m 3 rfl ?_
    refine xv_ei (show (xw s 15 (xfo (f_rep (s 16) (s 14) x) (s 15) k)) 12 4 = nI D from hS) ?_
    refine xv_bf rfl (xc_geF (by omega) (by omega)) ?_
    refine xv_m 3 rfl ?_
    refine xv_ia (_) rfl rfl rfl (by omega) (by omega) ?_
    refine xv_m 1 rfl ?_
    refine xv_b rfl (fun hc => ?_) (fun hc => ?_)
    · refine xv_m 2 rfl ?_
      refine xv_eh (h1 := xC (xw s 15 (xfo (f_rep (s 16) (s 14) x) (s 15) (k + 1))) ++ g) (congrArg (fun F => xC (xw s 15 F) ++ g) (show (_ : Nat → Int32) = (f_rep (s 16) (s 14) x) k (xfo (f_rep (s 16) (s 14) x) (s 15) k) from (f_rep_1 hc).symm)) ?_
      exact xv_l (l_70 hD hS n (k + 1) (by omega)) ⟨xk k, rfl, rfl, trivial⟩
    · refine xv_m 3 rfl ?_
      refine xv_ia (_) rfl rfl rfl (by omega) (by omega) ?_
      refine xv_b rfl (fun hc2 => ?_) (fun hc2 => ?_)
      · refine xv_m 2 rfl ?_
        refine xv_eh (h1 := xC (xw s 15 (xfo (f_rep (s 16) (s 14) x) (s 15) (k + 1))) ++ g) (congrArg (fun F => xC (xw s 15 F) ++ g) (show (_ : Nat → Int32) = (f_rep (s 16) (s 14) x) k (xfo (f_rep (s 16) (s 14) x) (s 15) k) from (f_rep_2 hc hc2).symm)) ?_
        exact xv_l (l_70 hD hS n (k + 1) (by omega)) ⟨xk k, rfl, rfl, trivial⟩
      · refine xv_m 6 rfl ?_
        refine xv_ba (_) rfl rfl rfl (by omega) (by omega) ?_
        refine xv_b rfl (fun hc3 => ?_) (fun hc3 => ?_)
        · refine xv_m 1 rfl ?_
          refine xv_ias (k) (xC (xu (xw s 15 (xfo (f_rep (s 16) (s 14) x) (s 15) k)) 15 k (xa_con 2 0)) ++ g) rfl rfl (by first | rfl | (simp only [xa_c0, pk_mul, nI_add]; done) | (simp only [xa_c0, pk_mul, nI_add]; congr 1; omega)) (by omega) (by omega) rfl ?_
          refine xv_m 2 rfl ?_
          refine xv_eh (h1 := xC (xw s 15 (xfo (f_rep (s 16) (s 14) x) (s 15) (k + 1))) ++ g) (congrArg (fun F => xC (xw s 15 F) ++ g) (show (_ : Nat → Int32) = (f_rep (s 16) (s 14) x) k (xfo (f_rep (s 16) (s 14) x) (s 15) k) from (f_rep_3 hc hc2 hc3).symm)) ?_
          exact xv_l (l_70 hD hS n (k + 1) (by omega)) ⟨xk k, rfl, rfl, trivial⟩
        · refine xv_m 2 rfl ?_
          refine xv_ias (k) (xC (xu (xw s 15 (xfo (f_rep (s 16) (s 14) x) (s 15) k)) 15 k (xa_con 1 0)) ++ g) rfl rfl (by first | rfl | (simp only [xa_c0, pk_mul, nI_add]; done) | (simp only [xa_c0, pk_mul, nI_add]; congr 1; omega)) (by omega) (by omega) rfl ?_
          refine xv_m 2 rfl ?_
          refine xv_eh (h1 := xC (xw s 15 (xfo (f_rep (s 16) (s 14) x) (s 15) (k + 1))) ++ g) (congrArg (fun F => xC (xw s 15 F) ++ g) (show (_ : Nat → Int32) = (f_rep (s 16) (s 14) x) k (xfo (f_rep (s 16) (s 14) x) (s 15) k) from (f_rep_4 hc hc2 hc3).symm)) ?_
          exact xv_l (l_70 hD hS n (k + 1) (by omega)) ⟨xk k, rfl, rfl, trivial⟩
theorem m_70 {D : Nat} (hD : D ≤ 100) (hS : s 12 4 = nI D) {x : Int32} : xv xm L xs d w 70 0 [(0, .ref 13), (1, .int (x))] [] (xC s ++ g) (.returned none) (xC (xw s 15 (xfo (f_rep (s 16) (s 14) x) (s 15) D)) ++ g) 0 0 := by
  refine xv_m 2 rfl ?_
  refine xv_eh (h1 := xC (xw s 15 (xfo (f_rep (s 16) (s 14) x) (s 15) 0)) ++ g) rfl ?_
  exact l_70 hD hS D 0 (Nat.zero_add D)
def f_clr (vh : Nat → Int32) (x : Int32) (k : Nat) (f : Nat → Int32) : Nat → Int32 := bif xa_cmp .ne (vh k) x || xa_cmp .ne (f k) (xa_con 1 0) then f else upd f k (xa_con 2 0)
theorem f_clr_1 {q : Nat → Int32} {x : Int32} {k : Nat} {f : Nat → Int32} (h : xa_cmp .ne (q k) x = true) : f_clr q x k f = f := by unfold f_clr; rw [h]; rfl
theorem f_clr_2 {q : Nat → Int32} {x : Int32} {k : Nat} {f : Nat → Int32} (h : xa_cmp .ne (q k) x = false) (h2 : xa_cmp .ne (f k) (xa_con 1 0) = true) : f_clr q x k f = f := by unfold f_clr; rw [h, h2]; rfl
theorem f_clr_3 {q : Nat → Int32} {x : Int32} {k : Nat} {f : Nat → Int32} (h : xa_cmp .ne (q k) x = false) (h2 : xa_cmp .ne (f k) (xa_con 1 0) = false) : f_clr q x k f = upd f k (xa_con 2 0) := by unfold f_clr; rw [h, h2]; rfl
theorem l_71 {D : Nat} (hD : D ≤ 100) (hS : s 12 4 = nI D) {x : Int32} : ∀ n k, k + n = D → xv xm L xs d w 71 2 [(2, .int (nI k)), (0, .ref 13), (1, .int x)] [] (xC (xw s 15 (xfo (f_clr (s 13) x) (s 15) k)) ++ g) (.returned none) (xC (xw s 15 (xfo (f_clr (s 13) x) (s 15) D)) ++ g) 0 0
  | 0, k, hk => by
    have hk : k = D := hk
    subst hk
    refine xv_m 3 rfl ?_
    refine xv_ei (show (xw s 15 (xfo (f_clr (s 13) x) (s 15) k)) 12 4 = nI k from hS) ?_
    refine xv_bt rfl (xc_geT (by omega) (by omega)) ?_
    exact xv_r rfl
  | n + 1, k, hk => by
    refine xv_m 3 rfl ?_
    refine xv_ei (show (xw s 15 (xfo (f_clr (s 13) x) (s 15) k)) 12 4 = nI D from hS) ?_
    refine xv_bf rfl (xc_geF (by omega) (by omega)) ?_
    refine xv_m 3 rfl ?_
    refine xv_ia (_) rfl rfl rfl (by omega) (by omega) ?_
    refine xv_m 1 rfl ?_
    refine xv_b rfl (fun hc => ?_) (fun hc => ?_)
    · refine xv_m 2 rfl ?_
      refine xv_eh (h1 := xC (xw s 15 (xfo (f_clr (s 13) x) (s 15) (k + 1))) ++ g) (congrArg (fun F => xC (xw s 15 F) ++ g) (show (_ : Nat → Int32) = (f_clr (s 13) x) k (xfo (f_clr (s 13) x) (s 15) k) from (f_clr_1 hc).symm)) ?_
      exact xv_l (l_71 hD hS n (k + 1) (by omega)) ⟨xk k, rfl, rfl, trivial⟩
    · refine xv_m 3 rfl ?_
      refine xv_ia (_) rfl rfl rfl (by omega) (by omega) ?_
      refine xv_m 1 rfl ?_
      refine xv_b rfl (fun hc2 => ?_) (fun hc2 => ?_)
      · refine xv_m 2 rfl ?_
        refine xv_eh (h1 := xC (xw s 15 (xfo (f_clr (s 13) x) (s 15) (k + 1))) ++ g) (congrArg (fun F => xC (xw s 15 F) ++ g) (show (_ : Nat → Int32) = (f_clr (s 13) x) k (xfo (f_clr (s 13) x) (s 15) k) from (f_clr_2 hc hc2).symm)) ?_
        exact xv_l (l_71 hD hS n (k + 1) (by omega)) ⟨xk k, rfl, rfl, trivial⟩
      · refine xv_m 4 rfl ?_
        refine xv_ias (k) (xC (xu (xw s 15 (xfo (f_clr (s 13) x) (s 15) k)) 15 k (xa_con 2 0)) ++ g) rfl rfl (by first | rfl | (simp only [xa_c0, pk_mul, nI_add]; done) | (simp only [xa_c0, pk_mul, nI_add]; congr 1; omega)) (by omega) (by omega) rfl ?_
        refine xv_m 2 rfl ?_
        refine xv_eh (h1 := xC (xw s 15 (xfo (f_clr (s 13) x) (s 15) (k + 1))) ++ g) (congrArg (fun F => xC (xw s 15 F) ++ g) (show (_ : Nat → Int32) = (f_clr (s 13) x) k (xfo (f_clr (s 13) x) (s 15) k) from (f_clr_3 hc hc2).symm)) ?_
        exact xv_l (l_71 hD hS n (k + 1) (by omega)) ⟨xk k, rfl, rfl, trivial⟩
theorem m_71 {D : Nat} (hD : D ≤ 100) (hS : s 12 4 = nI D) {x : Int32} : xv xm L xs d w 71 0 [(0, .ref 13), (1, .int (x))] [] (xC s ++ g) (.returned none) (xC (xw s 15 (xfo (f_clr (s 13) x) (s 15) D)) ++ g) 0 0 := by
  refine xv_m 2 rfl ?_
  refine xv_eh (h1 := xC (xw s 15 (xfo (f_clr (s 13) x) (s 15) 0)) ++ g) rfl ?_
  exact l_71 hD hS D 0 (Nat.zero_add D)
def f_sev (vh sv st : Nat → Int32) (x : Int32) (k : Nat) : Bool := !(xa_cmp .ne (vh k) x) && (!(xa_cmp .eq (sv k) 0) && !(xa_cmp .eq (st k) (xa_con 2 0)))
theorem l_72 {D : Nat} (hD : D ≤ 100) (hS : s 12 4 = nI D) {x : Int32} : ∀ n k, k + n = D → xv xm L xs d w 72 2 [(2, .int (nI k)), (0, .ref 13), (1, .int x)] [] (xC s ++ g) (.returned (some (.int (xB (xany (f_sev (s 13) (s 14) (s 15) x) n k))))) (xC s ++ g) 0 0
  | 0, k, hk => by
    have hk : k = D := hk
    subst hk
    refine xv_m 3 rfl ?_
    refine xv_ei hS ?_
    refine xv_bt rfl (xc_geT (by omega) (by omega)) ?_
    refine xv_m 1 rfl ?_
    exact xv_rb xn_0 rfl
  | n + 1, k, hk => by
    refine xv_m 3 rfl ?_
    refine xv_ei hS ?_
    refine xv_bf rfl (xc_geF (by omega) (by omega)) ?_
    refine xv_m 3 rfl ?_
    refine xv_ia (_) rfl rfl rfl (by omega) (by omega) ?_
    refine xv_m 1 rfl ?_
    refine xv_b rfl (fun hc => ?_) (fun hc => ?_)
    · refine xv_m 2 rfl ?_
      rw [xany_f (show (f_sev (s 13) (s 14) (s 15) x) k = false by unfold f_sev; rw [hc]; rfl)]
      exact xv_l (l_72 hD hS n (k + 1) (by omega)) ⟨xk k, rfl, rfl, trivial⟩
    · refine xv_m 3 rfl ?_
      refine xv_ba (_) rfl rfl rfl (by omega) (by omega) ?_
      refine xv_b rfl (fun hc2 => ?_) (fun hc2 => ?_)
      · refine xv_m 2 rfl ?_
        rw [xany_f (show (f_sev (s 13) (s 14) (s 15) x) k = false by unfold f_sev; rw [hc, hc2]; rfl)]
        exact xv_l (l_72 hD hS n (k + 1) (by omega)) ⟨xk k, rfl, rfl, trivial⟩
      · refine xv_m 3 rfl ?_
        refine xv_ia (_) rfl rfl rfl (by omega) (by omega) ?_
        refine xv_m 1 rfl ?_
        refine xv_b rfl (fun hc3 => ?_) (fun hc3 => ?_)
        · refine xv_m 2 rfl ?_
          rw [xany_f (show (f_sev (s 13) (s 14) (s 15) x) k = false by unfold f_sev; rw [hc, hc2, hc3]; rfl)]
          exact xv_l (l_72 hD hS n (k + 1) (by omega)) ⟨xk k, rfl, rfl, trivial⟩
        · rw [xany_t (show (f_sev (s 13) (s 14) (s 15) x) k = true by unfold f_sev; rw [hc, hc2, hc3]; rfl)]
          refine xv_m 1 rfl ?_
          exact xv_rb xn_1 rfl
theorem m_72 {D : Nat} (hD : D ≤ 100) (hS : s 12 4 = nI D) {x : Int32} : xv xm L xs d w 72 0 [(0, .ref 13), (1, .int (x))] [] (xC s ++ g) (.returned (some (.int (xB (xany (f_sev (s 13) (s 14) (s 15) x) D 0))))) (xC s ++ g) 0 0 := by
  refine xv_m 2 rfl ?_
  exact l_72 hD hS D 0 (Nat.zero_add D)
def f_sml (vh sv st : Nat → Int32) (x : Int32) (k : Nat) : Bool := !(xa_cmp .ne (vh k) x) && (!(xa_cmp .ne (sv k) 0) && !(xa_cmp .ne (st k) 0))
theorem l_73 {D : Nat} (hD : D ≤ 100) (hS : s 12 4 = nI D) {x : Int32} : ∀ n k c, k + n = D → xv xm L xs d w 73 4 [(3, .int (nI k)), (2, .int c), (0, .ref 13), (1, .int x)] [] (xC s ++ g) (.returned (some (.int (xcnt (f_sml (s 13) (s 14) (s 15) x) n k c)))) (xC s ++ g) 0 0
  | 0, k, c, hk => by
    have hk : k = D := hk
    subst hk
    refine xv_m 3 rfl ?_
    refine xv_ei hS ?_
    refine xv_bt rfl (xc_geT (by omega) (by omega)) ?_
    refine xv_m 1 rfl ?_
    exact xv_r rfl
  | n + 1, k, c, hk => by
    refine xv_m 3 rfl ?_
    refine xv_ei hS ?_
    refine xv_bf rfl (xc_geF (by omega) (by omega)) ?_
    refine xv_m 3 rfl ?_
    refine xv_ia (_) rfl rfl rfl (by omega) (by omega) ?_
    refine xv_m 1 rfl ?_
    refine xv_b rfl (fun hc => ?_) (fun hc => ?_)
    · refine xv_m 2 rfl ?_
      rw [xcnt_f (show (f_sml (s 13) (s 14) (s 15) x) k = false by unfold f_sml; rw [hc]; rfl)]
      exact xv_l (l_73 hD hS n (k + 1) _ (by omega)) ⟨xk k, rfl, rfl, rfl, trivial⟩
    · refine xv_m 3 rfl ?_
      refine xv_ba (_) rfl rfl rfl (by omega) (by omega) ?_
      refine xv_b rfl (fun hc2 => ?_) (fun hc2 => ?_)
      · refine xv_m 2 rfl ?_
        rw [xcnt_f (show (f_sml (s 13) (s 14) (s 15) x) k = false by unfold f_sml; rw [hc, hc2]; rfl)]
        exact xv_l (l_73 hD hS n (k + 1) _ (by omega)) ⟨xk k, rfl, rfl, rfl, trivial⟩
      · refine xv_m 3 rfl ?_
        refine xv_ia (_) rfl rfl rfl (by omega) (by omega) ?_
        refine xv_b rfl (fun hc3 => ?_) (fun hc3 => ?_)
        · refine xv_m 2 rfl ?_
          rw [xcnt_f (show (f_sml (s 13) (s 14) (s 15) x) k = false by unfold f_sml; rw [hc, hc2, hc3]; rfl)]
          exact xv_l (l_73 hD hS n (k + 1) _ (by omega)) ⟨xk k, rfl, rfl, rfl, trivial⟩
        · refine xv_m 3 rfl ?_
          rw [xcnt_t (show (f_sml (s 13) (s 14) (s 15) x) k = true by unfold f_sml; rw [hc, hc2, hc3]; rfl)]
          exact xv_l (l_73 hD hS n (k + 1) _ (by omega)) ⟨xk k, rfl, rfl, rfl, trivial⟩
theorem m_73 {D : Nat} (hD : D ≤ 100) (hS : s 12 4 = nI D) {x : Int32} : xv xm L xs d w 73 0 [(0, .ref 13), (1, .int (x))] [] (xC s ++ g) (.returned (some (.int (xcnt (f_sml (s 13) (s 14) (s 15) x) D 0 (nI 0))))) (xC s ++ g) 0 0 := by
  refine xv_m 4 rfl ?_
  exact l_73 hD hS D 0 _ (Nat.zero_add D)
theorem m_75  : xv xm L xs d w 75 0 [(0, .ref 18)] [] (xC s ++ g) (.returned (some (.int (s 17 5)))) (xC s ++ g) 0 0 := by
  refine xv_m 2 rfl ?_
  exact xv_r rfl
theorem m_76  : xv xm L xs d w 76 0 [(0, .ref 18)] [] (xC s ++ g) (.returned (some (.int (s 17 6)))) (xC s ++ g) 0 0 := by
  refine xv_m 2 rfl ?_
  exact xv_r rfl
theorem m_77 {j : Nat} (hj : j < 60) (hO : s 17 5 = nI j) {x : Int32} : xv xm L xs d w 77 0 [(0, .ref 18), (1, .int (x))] [] (xC s ++ g) (.returned (some (.int (nI j)))) (xC (xu (xu (xu s 18 j x) 19 j 1) 17 5 (nI (j + 1))) ++ g) 0 0 := by
  refine xv_m 5 rfl ?_
  refine xv_ias (j) (xC (xu s 18 j x) ++ g) rfl rfl hO (by omega) (by omega) rfl ?_
  refine xv_m 5 rfl ?_
  refine xv_bas (j) (xC (xu (xu s 18 j x) 19 j 1) ++ g) rfl rfl hO (by omega) (by omega) xn_1 rfl ?_
  refine xv_m 5 rfl ?_
  refine xv_ei (show s 17 5 + nI 1 = nI (j + 1) by rw [hO, nI_add]) ?_
  refine xv_m 1 (h1 := xC (xu (xu (xu s 18 j x) 19 j 1) 17 5 (nI (j + 1))) ++ g) rfl ?_
  refine xv_m 4 rfl ?_
  exact xv_rn (by show nI (j + 1) - nI 1 = nI j; exact nI_pred j) rfl
theorem m_78 {j : Nat} (hj : j < 60) : xv xm L xs d w 78 0 [(0, .ref 18), (1, .int (nI j))] [] (xC s ++ g) (.returned (some (.int (s 18 j)))) (xC s ++ g) 0 0 := by
  refine xv_m 3 rfl ?_
  refine xv_ia (_) rfl rfl rfl (by omega) (by omega) ?_
  exact xv_r rfl
theorem m_85 {j : Nat} (hj : j < 60) : xv xm L xs d w 85 0 [(0, .ref 18), (1, .int (nI j))] [] (xC s ++ g) (.returned (some (.int (s 21 j)))) (xC s ++ g) 0 0 := by
  refine xv_m 3 rfl ?_
  refine xv_ia (_) rfl rfl rfl (by omega) (by omega) ?_
  exact xv_r rfl
theorem m_87 {j : Nat} (hj : j < 60) : xv xm L xs d w 87 0 [(0, .ref 18), (1, .int (nI j))] [] (xC s ++ g) (.returned (some (.int (s 22 j)))) (xC s ++ g) 0 0 := by
  refine xv_m 3 rfl ?_
  refine xv_ia (_) rfl rfl rfl (by omega) (by omega) ?_
  exact xv_r rfl
theorem m_79 (hz : xz (s 19)) {j : Nat} (hj : j < 60) : xv xm L xs d w 79 0 [(0, .ref 18), (1, .int (nI j))] [] (xC s ++ g) (.returned (some (.int (s 19 j)))) (xC s ++ g) 0 0 := by
  refine xv_m 3 rfl ?_
  refine xv_ba (_) rfl rfl rfl (by omega) (by omega) ?_
  exact xv_rb (xn_z hz j) rfl
def f_opn (op vh : Nat → Int32) (x : Int32) (k : Nat) : Bool := !(xa_cmp .eq (op k) 0) && !(xa_cmp .ne (vh k) x)
theorem l_80 {D : Nat} (hD : D ≤ 60) (hS : s 17 5 = nI D) {x : Int32} : ∀ n k, k + n = D → xv xm L xs d w 80 2 [(2, .int (nI k)), (0, .ref 18), (1, .int x)] [] (xC s ++ g) (.returned (some (.int (xfst (f_opn (s 19) (s 18) x) n k)))) (xC s ++ g) 0 0
  | 0, k, hk => by
    have hk : k = D := hk
    subst hk
    refine xv_m 3 rfl ?_
    refine xv_ei hS ?_
    refine xv_bt rfl (xc_geT (by omega) (by omega)) ?_
    refine xv_m 1 rfl ?_
    exact xv_r rfl
  | n + 1, k, hk => by
    refine xv_m 3 rfl ?_
    refine xv_ei hS ?_
    refine xv_bf rfl (xc_geF (by omega) (by omega)) ?_
    refine xv_m 3 rfl ?_
    refine xv_ba (_) rfl rfl rfl (by omega) (by omega) ?_
    refine xv_b rfl (fun hc => ?_) (fun hc => ?_)
    · refine xv_m 2 rfl ?_
      rw [xfst_f (show (f_opn (s 19) (s 18) x) k = false by unfold f_opn; rw [hc]; rfl)]
      exact xv_l (l_80 hD hS n (k + 1) (by omega)) ⟨xk k, rfl, rfl, trivial⟩
    · refine xv_m 3 rfl ?_
      refine xv_ia (_) rfl rfl rfl (by omega) (by omega) ?_
      refine xv_m 1 rfl ?_
      refine xv_b rfl (fun hc2 => ?_) (fun hc2 => ?_)
      · refine xv_m 2 rfl ?_
        rw [xfst_f (show (f_opn (s 19) (s 18) x) k = false by unfold f_opn; rw [hc, hc2]; rfl)]
        exact xv_l (l_80 hD hS n (k + 1) (by omega)) ⟨xk k, rfl, rfl, trivial⟩
      · rw [xfst_t (show (f_opn (s 19) (s 18) x) k = true by unfold f_opn; rw [hc, hc2]; rfl)]
        refine xv_m 1 rfl ?_
        exact xv_r rfl
theorem m_80 {D : Nat} (hD : D ≤ 60) (hS : s 17 5 = nI D) {x : Int32} : xv xm L xs d w 80 0 [(0, .ref 18), (1, .int (x))] [] (xC s ++ g) (.returned (some (.int (xfst (f_opn (s 19) (s 18) x) D 0)))) (xC s ++ g) 0 0 := by
  refine xv_m 2 rfl ?_
  exact l_80 hD hS D 0 (Nat.zero_add D)
def f_op (op : Nat → Int32) (k : Nat) : Bool := !(xa_cmp .eq (op k) 0)
theorem l_81 {D : Nat} (hD : D ≤ 60) (hS : s 17 5 = nI D) : ∀ n k c, k + n = D → xv xm L xs d w 81 4 [(2, .int (nI k)), (1, .int c), (0, .ref 18)] [] (xC s ++ g) (.returned (some (.int (xcnt (f_op (s 19)) n k c)))) (xC s ++ g) 0 0
  | 0, k, c, hk => by
    have hk : k = D := hk
    subst hk
    refine xv_m 3 rfl ?_
    refine xv_ei hS ?_
    refine xv_bt rfl (xc_geT (by omega) (by omega)) ?_
    refine xv_m 1 rfl ?_
    exact xv_r rfl
  | n + 1, k, c, hk => by
    refine xv_m 3 rfl ?_
    refine xv_ei hS ?_
    refine xv_bf rfl (xc_geF (by omega) (by omega)) ?_
    refine xv_m 3 rfl ?_
    refine xv_ba (_) rfl rfl rfl (by omega) (by omega) ?_
    refine xv_b rfl (fun hc => ?_) (fun hc => ?_)
    · refine xv_m 2 rfl ?_
      rw [xcnt_f (show (f_op (s 19)) k = false by unfold f_op; rw [hc]; rfl)]
      exact xv_l (l_81 hD hS n (k + 1) _ (by omega)) ⟨xk k, rfl, rfl, trivial⟩
    · refine xv_m 3 rfl ?_
      rw [xcnt_t (show (f_op (s 19)) k = true by unfold f_op; rw [hc]; rfl)]
      exact xv_l (l_81 hD hS n (k + 1) _ (by omega)) ⟨xk k, rfl, rfl, trivial⟩
theorem m_81 {D : Nat} (hD : D ≤ 60) (hS : s 17 5 = nI D) : xv xm L xs d w 81 0 [(0, .ref 18)] [] (xC s ++ g) (.returned (some (.int (xcnt (f_op (s 19)) D 0 (nI 0))))) (xC s ++ g) 0 0 := by
  refine xv_m 4 rfl ?_
  exact l_81 hD hS D 0 _ (Nat.zero_add D)
theorem m_82 (hz : xz (s 20)) {j r : Nat} (hj : j < 60) (hr : r < 10) : xv xm L xs d w 82 0 [(0, .ref 18), (1, .int (nI j)), (2, .int (nI r))] [] (xC s ++ g) (.returned (some (.int (s 20 (10 * j + r))))) (xC s ++ g) 0 0 := by
  refine xv_m 7 rfl ?_
  refine xv_ba (10 * j + r) rfl rfl (by first | rfl | (simp only [xa_c0, pk_mul, nI_add]; done) | (simp only [xa_c0, pk_mul, nI_add]; congr 1; omega)) (by omega) (by omega) ?_
  exact xv_rb (xn_z hz _) rfl
theorem m_83 {j r : Nat} (hj : j < 60) (hr : r < 10) : xv xm L xs d w 83 0 [(0, .ref 18), (1, .int (nI j)), (2, .int (nI r))] [] (xC s ++ g) (.returned none) (xC (xu (xu s 20 (10 * j + r) 1) 21 j (s 21 j + nI 1)) ++ g) 0 0 := by
  refine xv_m 8 rfl ?_
  refine xv_bas (10 * j + r) (xC (xu s 20 (10 * j + r) 1) ++ g) rfl rfl (by first | rfl | (simp only [xa_c0, pk_mul, nI_add]; done) | (simp only [xa_c0, pk_mul, nI_add]; congr 1; omega)) (by omega) (by omega) xn_1 rfl ?_
  refine xv_m 4 rfl ?_
  refine xv_ia (_) rfl rfl rfl (by omega) (by omega) ?_
  refine xv_m 2 rfl ?_
  refine xv_ias (j) (xC (xu (xu s 20 (10 * j + r) 1) 21 j (s 21 j + nI 1)) ++ g) rfl rfl (by first | rfl | (simp only [xa_c0, pk_mul, nI_add]; done) | (simp only [xa_c0, pk_mul, nI_add]; congr 1; omega)) (by omega) (by omega) rfl ?_
  exact xv_r rfl
theorem m_84 {j : Nat} (hj : j < 60) : xv xm L xs d w 84 0 [(0, .ref 18), (1, .int (nI j))] [] (xC s ++ g) (.returned none) (xC (xu s 21 j (s 21 j + nI 1)) ++ g) 0 0 := by
  refine xv_m 4 rfl ?_
  refine xv_ia (_) rfl rfl rfl (by omega) (by omega) ?_
  refine xv_m 2 rfl ?_
  refine xv_ias (j) (xC (xu s 21 j (s 21 j + nI 1)) ++ g) rfl rfl (by first | rfl | (simp only [xa_c0, pk_mul, nI_add]; done) | (simp only [xa_c0, pk_mul, nI_add]; congr 1; omega)) (by omega) (by omega) rfl ?_
  exact xv_r rfl
theorem m_86 {j : Nat} (hj : j < 60) {x : Int32} : xv xm L xs d w 86 0 [(0, .ref 18), (1, .int (nI j)), (2, .int (x))] [] (xC s ++ g) (.returned none) (xC (xu (xu s 22 j (s 22 j + x)) 17 6 (s 17 6 + nI 1)) ++ g) 0 0 := by
  refine xv_m 4 rfl ?_
  refine xv_ia (_) rfl rfl rfl (by omega) (by omega) ?_
  refine xv_m 2 rfl ?_
  refine xv_ias (j) (xC (xu s 22 j (s 22 j + x)) ++ g) rfl rfl (by first | rfl | (simp only [xa_c0, pk_mul, nI_add]; done) | (simp only [xa_c0, pk_mul, nI_add]; congr 1; omega)) (by omega) (by omega) rfl ?_
  refine xv_m 6 (h1 := xC (xu (xu s 22 j (s 22 j + x)) 17 6 (s 17 6 + nI 1)) ++ g) rfl ?_
  exact xv_r rfl
theorem m_88 {j : Nat} (hj : j < 60) : xv xm L xs d w 88 0 [(0, .ref 18), (1, .int (nI j))] [] (xC s ++ g) (.returned none) (xC (xu s 19 j 0) ++ g) 0 0 := by
  refine xv_m 4 rfl ?_
  refine xv_bas (j) (xC (xu s 19 j 0) ++ g) rfl rfl (by first | rfl | (simp only [xa_c0, pk_mul, nI_add]; done) | (simp only [xa_c0, pk_mul, nI_add]; congr 1; omega)) (by omega) (by omega) xn_0 rfl ?_
  exact xv_r rfl
end XRD

section XRH
variable {L : Nat} {xs : Nat → Int32} {d w : Nat} {q s b : Nat → Nat → Int32} {g : List va_E}
theorem bif_or {α : Type} (a c : Bool) (x y : α) : (bif a || c then x else y) = (bif a then x else bif c then x else y) := by cases a <;> rfl
theorem l_125b {x : Int32} {k : Nat} (hk : k < 100) {c e : Int32} {o : Outcome} {h' : List va_E} {k0 z : Nat} (he : xv xm L xs d w 125 6 [(4, .int (nI (k + 1))), (3, .int e), (2, .int (bif f_sml (s 13) (s 14) (s 15) x k then c + xa_con 1 0 else c)), (0, .ref 28), (1, .int x)] [] (xC q ++ (xD (s) (b) ++ g)) o h' k0 z) : xv xm L xs d w 125 29 [(4, .int (nI k)), (3, .int e), (2, .int c), (0, .ref 28), (1, .int x)] [] (xC q ++ (xD (s) (b) ++ g)) o h' k0 z := by
  refine xv_m 4 rfl ?_
  refine xv_ia (_) rfl rfl rfl (by omega) (by omega) ?_
  refine xv_m 1 rfl ?_
  refine xv_b rfl (fun hc => ?_) (fun hc => ?_)
  · refine xv_m 2 rfl ?_
    refine xv_ei (xi_p0 _) ?_
    rw [show f_sml (s 13) (s 14) (s 15) x k = false by unfold f_sml; rw [hc]; rfl] at he
    refine xv_m 3 rfl ?_
    exact xv_l he ⟨xk k, rfl, rfl, rfl, rfl, trivial⟩
  · refine xv_m 3 rfl ?_
    refine xv_ba (_) rfl rfl rfl (by omega) (by omega) ?_
    refine xv_b rfl (fun hc2 => ?_) (fun hc2 => ?_)
    · refine xv_m 2 rfl ?_
      refine xv_ei (xi_p0 _) ?_
      rw [show f_sml (s 13) (s 14) (s 15) x k = false by unfold f_sml; rw [hc, hc2]; rfl] at he
      refine xv_m 3 rfl ?_
      exact xv_l he ⟨xk k, rfl, rfl, rfl, rfl, trivial⟩
    · refine xv_m 3 rfl ?_
      refine xv_ia (_) rfl rfl rfl (by omega) (by omega) ?_
      refine xv_b rfl (fun hc3 => ?_) (fun hc3 => ?_)
      · refine xv_m 2 rfl ?_
        refine xv_ei (xi_p0 _) ?_
        rw [show f_sml (s 13) (s 14) (s 15) x k = false by unfold f_sml; rw [hc, hc2, hc3]; rfl] at he
        refine xv_m 3 rfl ?_
        exact xv_l he ⟨xk k, rfl, rfl, rfl, rfl, trivial⟩
      · refine xv_m 3 rfl ?_
        rw [show f_sml (s 13) (s 14) (s 15) x k = true by unfold f_sml; rw [hc, hc2, hc3]; rfl] at he
        refine xv_m 3 rfl ?_
        exact xv_l he ⟨xk k, rfl, rfl, rfl, rfl, trivial⟩
theorem l_125a {x : Int32} {D : Nat} (hD : D ≤ 100) (hSD : s 12 4 = nI D) {o : Outcome} {h' : List va_E} {k0 z : Nat} {c' : Int32} {e' : Bool} (he : xv xm L xs d w 125 53 [(3, .int (xB e')), (2, .int c'), (0, .ref 28), (1, .int x)] [] (xC q ++ (xD (s) (b) ++ g)) o h' k0 z) : ∀ n k c e, k + n = D → (e || xany (f_sev (s 13) (s 14) (s 15) x) n k) = e' → xcnt (f_sml (s 13) (s 14) (s 15) x) n k c = c' → xv xm L xs d w 125 6 [(4, .int (nI k)), (3, .int (xB e)), (2, .int c), (0, .ref 28), (1, .int x)] [] (xC q ++ (xD (s) (b) ++ g)) o h' k0 z
  | 0, k, c, e, hk, h1, h2 => by
    have hk : k = D := hk
    subst hk
    have h2 : c = c' := h2
    subst h2
    rw [show xany (f_sev (s 13) (s 14) (s 15) x) 0 k = false from rfl, Bool.or_false] at h1
    subst h1
    refine xv_m 3 rfl ?_
    refine xv_ei hSD ?_
    refine xv_bt rfl (xc_geT (by omega) (by omega)) ?_
    exact xv_l he ⟨rfl, rfl, rfl, rfl, trivial⟩
  | n + 1, k, c, e, hk, h1, h2 => by
    refine xv_m 3 rfl ?_
    refine xv_ei hSD ?_
    refine xv_bf rfl (xc_geF (by omega) (by omega)) ?_
    refine xv_m 3 rfl ?_
    refine xv_ia (_) rfl rfl rfl (by omega) (by omega) ?_
    refine xv_m 1 rfl ?_
    refine xv_b rfl (fun hc => ?_) (fun hc => ?_)
    · have e1 : f_sev (s 13) (s 14) (s 15) x k = false := by unfold f_sev; rw [hc]; rfl
      refine xv_l (lv := [(4, .int (nI k)), (3, .int (xB e)), (2, .int c), (0, .ref 28), (1, .int x)]) (l_125b (by omega) (l_125a hD hSD he n (k + 1) _ e (by omega) ?_ h2)) ⟨rfl, rfl, rfl, rfl, rfl, trivial⟩
      rw [← h1, xany_f e1]
    · refine xv_m 3 rfl ?_
      refine xv_ba (_) rfl rfl rfl (by omega) (by omega) ?_
      refine xv_b rfl (fun hc2 => ?_) (fun hc2 => ?_)
      · have e1 : f_sev (s 13) (s 14) (s 15) x k = false := by unfold f_sev; rw [hc, hc2]; rfl
        refine xv_l (lv := [(4, .int (nI k)), (3, .int (xB e)), (2, .int c), (0, .ref 28), (1, .int x)]) (l_125b (by omega) (l_125a hD hSD he n (k + 1) _ e (by omega) ?_ h2)) ⟨rfl, rfl, rfl, rfl, rfl, trivial⟩
        rw [← h1, xany_f e1]
      · refine xv_m 3 rfl ?_
        refine xv_ia (_) rfl rfl rfl (by omega) (by omega) ?_
        refine xv_m 1 rfl ?_
        refine xv_b rfl (fun hc3 => ?_) (fun hc3 => ?_)
        · have e1 : f_sev (s 13) (s 14) (s 15) x k = false := by unfold f_sev; rw [hc, hc2, hc3]; rfl
          refine xv_l (lv := [(4, .int (nI k)), (3, .int (xB e)), (2, .int c), (0, .ref 28), (1, .int x)]) (l_125b (by omega) (l_125a hD hSD he n (k + 1) _ e (by omega) ?_ h2)) ⟨rfl, rfl, rfl, rfl, rfl, trivial⟩
          rw [← h1, xany_f e1]
        · refine xv_m 2 rfl ?_
          have e1 : f_sev (s 13) (s 14) (s 15) x k = true := by unfold f_sev; rw [hc, hc2, hc3]; rfl
          refine xv_l (lv := [(4, .int (nI k)), (3, .int (xB true)), (2, .int c), (0, .ref 28), (1, .int x)]) (l_125b (by omega) (l_125a hD hSD he n (k + 1) _ true (by omega) ?_ h2)) ⟨rfl, rfl, rfl, rfl, rfl, trivial⟩
          rw [← h1, xany_t e1]; cases e <;> rfl
theorem l_125c {v : Nat} (hv : v < 30) {e : Int32} (he : xv xm L xs d w 125 93 [(0, .ref 28), (1, .int (nI v))] [] (xC q ++ (xD (s) (b) ++ g)) (.returned (some (.int (e)))) (xC q ++ (xD (s) (b) ++ g)) 0 0) : ∀ n k, k + n = 5 → xv xm L xs d w 125 65 [(4, .int (nI k)), (0, .ref 28), (1, .int (nI v))] [] (xC q ++ (xD (s) (b) ++ g)) (.returned (some (.int (bif xany (f_past (s 7) (s 0 5) v) n k then nI 3 else e)))) (xC q ++ (xD (s) (b) ++ g)) 0 0
  | 0, k, hk => by
    refine xv_m 2 rfl ?_
    refine xv_bt rfl (xc_geT (by omega) (by omega)) ?_
    exact xv_l he ⟨rfl, rfl, trivial⟩
  | n + 1, k, hk => by
    refine xv_m 2 rfl ?_
    refine xv_bf rfl (xc_geF (by omega) (by omega)) ?_
    refine xv_m 7 rfl ?_
    refine xv_ia (5 * v + k) rfl rfl (by first | rfl | (simp only [xa_c0, pk_mul, nI_add]; done) | (simp only [xa_c0, pk_mul, nI_add]; congr 1; omega)) (by omega) (by omega) ?_
    refine xv_m 1 rfl ?_
    refine xv_b rfl (fun hc => ?_) (fun hc => ?_)
    · rw [xany_f (show f_past (s 7) (s 0 5) v k = false by unfold f_past; rw [hc]; rfl)]
      refine xv_m 2 rfl ?_
      exact xv_l (l_125c hv he n (k + 1) (by omega)) ⟨xk k, rfl, rfl, trivial⟩
    · refine xv_m 7 rfl ?_
      refine xv_ia (5 * v + k) rfl rfl (by first | rfl | (simp only [xa_c0, pk_mul, nI_add]; done) | (simp only [xa_c0, pk_mul, nI_add]; congr 1; omega)) (by omega) (by omega) ?_
      refine xv_m 2 rfl ?_
      refine xv_b rfl (fun hc2 => ?_) (fun hc2 => ?_)
      · rw [xany_f (show f_past (s 7) (s 0 5) v k = false by unfold f_past; rw [hc, hc2]; rfl)]
        refine xv_m 2 rfl ?_
        exact xv_l (l_125c hv he n (k + 1) (by omega)) ⟨xk k, rfl, rfl, trivial⟩
      · rw [xany_t (show f_past (s 7) (s 0 5) v k = true by unfold f_past; rw [hc, hc2]; rfl)]
        refine xv_m 1 rfl ?_
        exact xv_r rfl
def f_rov (s : Nat → Nat → Int32) (v r k : Nat) : Bool := !(xa_cmp .le (s 10 (3 * r + k)) 0) && !(xa_cmp .gt (lg_cmp (lN 10 * (f_left s v r k).toInt64) (-(s 10 (3 * r + k))).toInt64) 0)
theorem l_125e {v r : Nat} (hv : v < 30) (hr : r < 10) {e : Int32} (hd : 2 ≤ d) (hw : 32 ≤ w) (he : xv xm L xs d w 125 138 [(4, .int (nI r)), (0, .ref 28), (1, .int (nI v))] [] (xC q ++ (xD (s) (b) ++ g)) (.returned (some (.int (e)))) (xC q ++ (xD (s) (b) ++ g)) 0 0) : ∀ n k, k + n = 3 → xv xm L xs d w 125 107 [(5, .int (nI k)), (4, .int (nI r)), (0, .ref 28), (1, .int (nI v))] [] (xC q ++ (xD (s) (b) ++ g)) (.returned (some (.int (bif xany (f_rov s v r) n k then nI 5 else e)))) (xC q ++ (xD (s) (b) ++ g)) 0 0
  | 0, k, hk => by
    refine xv_m 2 rfl ?_
    refine xv_bt rfl (xc_geT (by omega) (by omega)) ?_
    exact xv_l he ⟨rfl, rfl, rfl, trivial⟩
  | n + 1, k, hk => by
    have hk3 : k < 3 := by omega
    refine xv_m 2 rfl ?_
    refine xv_bf rfl (xc_geF (by omega) (by omega)) ?_
    refine xv_m 7 rfl ?_
    refine xv_ia (3 * r + k) rfl rfl (by first | rfl | (simp only [xa_c0, pk_mul, nI_add]; done) | (simp only [xa_c0, pk_mul, nI_add]; congr 1; omega)) (by omega) (by omega) ?_
    refine xv_m 2 rfl ?_
    refine xv_b rfl (fun hc => ?_) (fun hc => ?_)
    · rw [xany_f (show f_rov s v r k = false by unfold f_rov; rw [hc]; rfl)]
      refine xv_m 2 rfl ?_
      exact xv_l (l_125e hv hr hd hw he n (k + 1) (by omega)) ⟨xk k, rfl, rfl, rfl, trivial⟩
    · refine xv_m 5 rfl ?_
      refine xv_c0 (r := 108) (nip := 127) (cost := 17) rfl (by omega) (by omega) (m_108 hv hr hk3 (hd := by omega) (hw := by omega)) ?_
      refine xv_m 6 rfl ?_
      refine xv_b rfl (fun hc2 => ?_) (fun hc2 => ?_)
      · rw [xany_f (show f_rov s v r k = false by unfold f_rov; rw [hc, hc2]; rfl)]
        refine xv_m 2 rfl ?_
        exact xv_l (l_125e hv hr hd hw he n (k + 1) (by omega)) ⟨xk k, rfl, rfl, rfl, trivial⟩
      · rw [xany_t (show f_rov s v r k = true by unfold f_rov; rw [hc, hc2]; rfl)]
        refine xv_m 1 rfl ?_
        exact xv_r rfl
def f_rvd (s : Nat → Nat → Int32) (v r : Nat) : Bool := xany (f_rov s v r) 3 0
theorem l_125d {v : Nat} (hv : v < 30) {R : Nat} (hR : R ≤ 10) (hSR : s 9 2 = nI R) (hd : 2 ≤ d) (hw : 32 ≤ w) : ∀ n r, r + n = R → xv xm L xs d w 125 101 [(4, .int (nI r)), (0, .ref 28), (1, .int (nI v))] [] (xC q ++ (xD (s) (b) ++ g)) (.returned (some (.int (bif xany (f_rvd s v) n r then nI 5 else nI 0)))) (xC q ++ (xD (s) (b) ++ g)) 0 0
  | 0, r, hk => by
    have hk : r = R := hk
    subst hk
    refine xv_m 3 rfl ?_
    refine xv_ei hSR ?_
    refine xv_bt rfl (xc_geT (by omega) (by omega)) ?_
    refine xv_m 1 rfl ?_
    exact xv_r rfl
  | n + 1, r, hk => by
    rw [show xany (f_rvd s v) (n + 1) r = (f_rvd s v r || xany (f_rvd s v) n (r + 1)) from rfl, bif_or]
    refine xv_m 3 rfl ?_
    refine xv_ei hSR ?_
    refine xv_bf rfl (xc_geF (by omega) (by omega)) ?_
    refine xv_m 2 rfl ?_
    refine xv_l (l_125e (r := r) hv (by omega) hd hw ?_ 3 0 rfl) ⟨rfl, rfl, rfl, rfl, trivial⟩
    refine xv_m 2 rfl ?_
    exact xv_l (l_125d hv hR hSR hd hw n (r + 1) (by omega)) ⟨xk r, rfl, rfl, trivial⟩
def f_rrs (s b : Nat → Nat → Int32) (R D O v : Nat) : Int32 := bif xany (f_sev (s 13) (s 14) (s 15) (nI v)) D 0 then nI 1 else bif !(xa_cmp .lt (xcnt (f_sml (s 13) (s 14) (s 15) (nI v)) D 0 (nI 0)) (s 0 7)) then nI 2 else bif xany (f_past (s 7) (s 0 5) v) 5 0 then nI 3 else bif !(xa_cmp .lt (xO (f_rol (f_ro (s 18) (b 1) (nI v)) O 0 none)) 0) then nI 4 else bif xany (f_rvd s v) R 0 then nI 5 else nI 0
theorem m_125 {R : Nat} (hR : R ≤ 10) (hSR : s 9 2 = nI R){D : Nat} (hD : D ≤ 100) (hSD : s 12 4 = nI D){O : Nat} (hO : O ≤ 60) (hSO : s 17 5 = nI O) {v : Nat} (hv : v < 30) (hd : 2 ≤ d) (hw : 32 ≤ w) : xv xm L xs d w 125 0 [(0, .ref 28), (1, .int (nI v))] [] (xC q ++ (xD (s) (b) ++ g)) (.returned (some (.int (f_rrs s b R D O v)))) (xC q ++ (xD (s) (b) ++ g)) 0 0 := by
  refine xv_m 6 rfl ?_
  refine xv_l (l_125a hD hSD (x := nI v) ?_ D 0 (nI 0) false (Nat.zero_add D) rfl rfl) ⟨rfl, rfl, rfl, rfl, rfl, trivial⟩
  rw [Bool.false_or]
  refine xv_m 1 rfl ?_
  refine xv_b rfl (fun hc => ?_) (fun hc => ?_)
  · refine xv_m 3 rfl ?_
    refine xv_b rfl (fun hc2 => ?_) (fun hc2 => ?_)
    · refine xv_m 2 rfl ?_
      unfold f_rrs
      rw [xB_f hc, hc2]
      refine xv_l (l_125c hv (e := bif !(xa_cmp .lt (xO (f_rol (f_ro (s 18) (b 1) (nI v)) O 0 none)) 0) then nI 4 else bif xany (f_rvd s v) R 0 then nI 5 else nI 0) ?_ 5 0 rfl) ⟨rfl, rfl, rfl, trivial⟩
      refine xv_m 2 rfl ?_
      refine xv_c0 (r := 117) (nip := 96) (cost := 15) rfl (by omega) (by omega) (m_117 hO hSO) ?_
      refine xv_b rfl (fun hc3 => ?_) (fun hc3 => ?_)
      · refine xv_m 2 rfl ?_
        rw [hc3]
        exact xv_l (l_125d hv hR hSR hd hw R 0 (Nat.zero_add R)) ⟨rfl, rfl, rfl, trivial⟩
      · rw [hc3]
        refine xv_m 1 rfl ?_
        exact xv_r rfl
    · unfold f_rrs
      rw [xB_f hc, hc2]
      refine xv_m 1 rfl ?_
      exact xv_r rfl
  · unfold f_rrs
    rw [xB_t hc]
    refine xv_m 1 rfl ?_
    exact xv_r rfl
theorem r_17 {V : Nat} (hV : V ≤ 30) (hSV : s 1 7 = nI V) {v : Nat} (hv : v < V){R : Nat} (hR : R ≤ 10) (hSR : s 9 2 = nI R){D : Nat} (hD : D ≤ 100) (hSD : s 12 4 = nI D){O : Nat} (hO : O ≤ 60) (hSO : s 17 5 = nI O) (hd : 3 ≤ d) (hw : 50 ≤ w) : xv xm L xs d w 126 0 [(0, .ref 28), (1, .int (nI v))] [] (xC q ++ (xD (s) (b) ++ g)) (.returned (some (.int (f_rrs s (xu b 0 0 (nI 0)) R D O v)))) (xC q ++ (xD (s) (xu b 0 0 (nI 0)) ++ g)) 0 0 := by
  refine xv_m 3 rfl ?_
  refine xv_c0 (r := 99) (nip := 4) (cost := 14) rfl (by omega) (by omega) (m_99t (by omega) hSV hv (hd := by omega) (hw := by omega)) ?_
  refine xv_bt rfl (by decide +kernel) ?_
  refine xv_m 4 rfl ?_
  refine xv_c0 (r := 97) (nip := 12) (cost := 16) rfl (by omega) (by omega) (m_97_0) ?_
  refine xv_bt rfl (by decide +kernel) ?_
  refine xv_m 2 rfl ?_
  refine xv_c0 (r := 125) (nip := 18) (cost := 18) rfl (by omega) (by omega) (m_125 hR hSR hD hSD hO hSO (by omega) (hd := by omega) (hw := by omega)) ?_
  exact xv_r rfl
theorem r_17a {p : Int32} {V : Nat} (hV : V ≤ 30) (hSV : s 1 7 = nI V) (hx : p < 0 ∨ s 1 7 ≤ p) (hd : 3 ≤ d) (hw : 50 ≤ w) : xv xm L xs d w 126 0 [(0, .ref 28), (1, .int (p))] [] (xC q ++ (xD (s) (b) ++ g)) (.returned (some (.int (nI 0)))) (xC q ++ (xD (s) (xu b 0 0 (nI 1)) ++ g)) 0 0 := by
  refine xv_m 3 rfl ?_
  refine xv_c0 (r := 99) (nip := 4) (cost := 14) rfl (by omega) (by omega) (m_99f (V := V) (by omega) hSV hx (hd := by omega) (hw := by omega)) ?_
  refine xv_bf rfl (by decide +kernel) ?_
  refine xv_m 5 rfl ?_
  refine xv_c0 (r := 97) (nip := 12) (cost := 16) rfl (by omega) (by omega) (m_97_1) ?_
  refine xv_bf rfl (by decide +kernel) ?_
  refine xv_m 1 rfl ?_
  exact xv_r rfl
def f_far (x : Int32) : Int32 := bif xa_cmp .ge x 0 then xa_con 2 0 * x + (bif xa_cmp .le x 0 then xa_con 0 0 else xa_con 1 0) else xa_con 2 1 * x
def f_rsc (s b : Nat → Nat → Int32) (R D O v k : Nat) (m : Int32) : Bool := !(xa_cmp .eq (nI k) (nI v)) && (!(xa_cmp .eq (s 3 k) 0) && (!(xa_cmp .ne (f_rrs s b R D O k) 0) && !(xa_cmp .ge (f_far (s 2 k - s 2 v)) m)))
def f_rsp (s b : Nat → Nat → Int32) (R D O v : Nat) : Nat → Nat → Option Nat → Int32 → Option Nat
  | 0, _, a, _ => a
  | n + 1, k, a, m => f_rsp s b R D O v n (k + 1) (bif f_rsc s b R D O v k m then some k else a) (bif f_rsc s b R D O v k m then f_far (s 2 k - s 2 v) else m)
theorem l_127b {R : Nat} (hR : R ≤ 10) (hSR : s 9 2 = nI R){D : Nat} (hD : D ≤ 100) (hSD : s 12 4 = nI D){O : Nat} (hO : O ≤ 60) (hSO : s 17 5 = nI O) {v k : Nat} (hv : v < 30) (hk : k < 30) {a : Option Nat} {m y : Int32} {o : Outcome} {h' : List va_E} {k0 z : Nat} (hd : 3 ≤ d) (hw : 50 ≤ w) (he : xv xm L xs d w 127 21 [(4, .int (nI (k + 1))), (3, .int (bif f_rsc s b R D O v k m then f_far (s 2 k - s 2 v) else m)), (2, .int (xO (bif f_rsc s b R D O v k m then some k else a))), (0, .ref 28), (1, .int (nI v))] [] (xC q ++ (xD (s) (b) ++ g)) o h' k0 z) : xv xm L xs d w 127 51 [(6, .int (f_far (s 2 k - s 2 v))), (5, .int y), (4, .int (nI k)), (3, .int m), (2, .int (xO a)), (0, .ref 28), (1, .int (nI v))] [] (xC q ++ (xD (s) (b) ++ g)) o h' k0 z := by
  refine xv_m 2 rfl ?_
  refine xv_b rfl (fun hc => ?_) (fun hc => ?_)
  · refine xv_m 2 rfl ?_
    rw [show f_rsc s b R D O v k m = false by unfold f_rsc; rw [hc]; rfl] at he
    exact xv_l he ⟨xk k, rfl, rfl, rfl, rfl, trivial⟩
  · refine xv_m 3 rfl ?_
    refine xv_ba (_) rfl rfl rfl (by omega) (by omega) ?_
    refine xv_b rfl (fun hc2 => ?_) (fun hc2 => ?_)
    · refine xv_m 2 rfl ?_
      rw [show f_rsc s b R D O v k m = false by unfold f_rsc; rw [hc, hc2]; rfl] at he
      exact xv_l he ⟨xk k, rfl, rfl, rfl, rfl, trivial⟩
    · refine xv_m 2 rfl ?_
      refine xv_c0 (r := 125) (nip := 62) (cost := 18) rfl (by omega) (by omega) (m_125 hR hSR hD hSD hO hSO hk (hd := by omega) (hw := by omega)) ?_
      refine xv_b rfl (fun hc3 => ?_) (fun hc3 => ?_)
      · refine xv_m 2 rfl ?_
        rw [show f_rsc s b R D O v k m = false by unfold f_rsc; rw [hc, hc2, hc3]; rfl] at he
        exact xv_l he ⟨xk k, rfl, rfl, rfl, rfl, trivial⟩
      · refine xv_m 2 rfl ?_
        refine xv_b rfl (fun hc4 => ?_) (fun hc4 => ?_)
        · refine xv_m 2 rfl ?_
          rw [show f_rsc s b R D O v k m = false by unfold f_rsc; rw [hc, hc2, hc3, hc4]; rfl] at he
          exact xv_l he ⟨xk k, rfl, rfl, rfl, rfl, trivial⟩
        · refine xv_m 6 rfl ?_
          rw [show f_rsc s b R D O v k m = true by unfold f_rsc; rw [hc, hc2, hc3, hc4]; rfl] at he
          exact xv_l he ⟨xk k, rfl, rfl, rfl, rfl, trivial⟩
theorem l_127 {R : Nat} (hR : R ≤ 10) (hSR : s 9 2 = nI R){D : Nat} (hD : D ≤ 100) (hSD : s 12 4 = nI D){O : Nat} (hO : O ≤ 60) (hSO : s 17 5 = nI O) {V : Nat} (hV : V ≤ 30) (hSV : s 1 7 = nI V) {v : Nat} (hv : v < 30) (hd : 3 ≤ d) (hw : 50 ≤ w) : ∀ n k a m, k + n = V → xv xm L xs d w 127 21 [(4, .int (nI k)), (3, .int m), (2, .int (xO a)), (0, .ref 28), (1, .int (nI v))] [] (xC q ++ (xD (s) (b) ++ g)) (.returned (some (.int (xO (f_rsp s b R D O v n k a m))))) (xC q ++ (xD (s) (b) ++ g)) 0 0
  | 0, k, a, m, hk => by
    have hk : k = V := hk
    subst hk
    refine xv_m 3 rfl ?_
    refine xv_ei hSV ?_
    refine xv_bt rfl (xc_geT (by omega) (by omega)) ?_
    refine xv_m 1 rfl ?_
    exact xv_r rfl
  | n + 1, k, a, m, hk => by
    refine xv_m 3 rfl ?_
    refine xv_ei hSV ?_
    refine xv_bf rfl (xc_geF (by omega) (by omega)) ?_
    refine xv_m 3 rfl ?_
    refine xv_ia (_) rfl rfl rfl (by omega) (by omega) ?_
    refine xv_m 3 rfl ?_
    refine xv_ia (_) rfl rfl rfl (by omega) (by omega) ?_
    refine xv_m 3 rfl ?_
    refine xv_b rfl (fun hc => ?_) (fun hc => ?_)
    · refine xv_m 4 rfl ?_
      refine xv_b rfl (fun hc2 => ?_) (fun hc2 => ?_)
      · refine xv_m 2 rfl ?_
        refine xv_ei (show _ = f_far (s 2 k - s 2 v) by unfold f_far; rw [hc, hc2]; rfl) ?_
        refine xv_m 1 rfl ?_
        exact xv_l (l_127b hR hSR hD hSD hO hSO hv (by omega) hd hw (l_127 hR hSR hD hSD hO hSO hV hSV hv hd hw n (k + 1) _ _ (by omega))) ⟨rfl, rfl, rfl, rfl, rfl, rfl, rfl, trivial⟩
      · refine xv_m 3 rfl ?_
        refine xv_ei (show _ = f_far (s 2 k - s 2 v) by unfold f_far; rw [hc, hc2]; rfl) ?_
        refine xv_m 1 rfl ?_
        exact xv_l (l_127b hR hSR hD hSD hO hSO hv (by omega) hd hw (l_127 hR hSR hD hSD hO hSO hV hSV hv hd hw n (k + 1) _ _ (by omega))) ⟨rfl, rfl, rfl, rfl, rfl, rfl, rfl, trivial⟩
    · refine xv_m 4 rfl ?_
      refine xv_ei (show _ = f_far (s 2 k - s 2 v) by unfold f_far; rw [hc]; rfl) ?_
      refine xv_m 1 rfl ?_
      exact xv_l (l_127b hR hSR hD hSD hO hSO hv (by omega) hd hw (l_127 hR hSR hD hSD hO hSO hV hSV hv hd hw n (k + 1) _ _ (by omega))) ⟨rfl, rfl, rfl, rfl, rfl, rfl, rfl, trivial⟩
theorem r_18 {V : Nat} (hV : V ≤ 30) (hSV : s 1 7 = nI V) {v : Nat} (hv : v < V){R : Nat} (hR : R ≤ 10) (hSR : s 9 2 = nI R){D : Nat} (hD : D ≤ 100) (hSD : s 12 4 = nI D){O : Nat} (hO : O ≤ 60) (hSO : s 17 5 = nI O) (hd : 3 ≤ d) (hw : 50 ≤ w) : xv xm L xs d w 127 0 [(0, .ref 28), (1, .int (nI v))] [] (xC q ++ (xD (s) (b) ++ g)) (.returned (some (.int (xO (f_rsp s (xu b 0 0 (nI 0)) R D O v V 0 none (nI 1000)))))) (xC q ++ (xD (s) (xu b 0 0 (nI 0)) ++ g)) 0 0 := by
  refine xv_m 3 rfl ?_
  refine xv_c0 (r := 99) (nip := 4) (cost := 14) rfl (by omega) (by omega) (m_99t (by omega) hSV hv (hd := by omega) (hw := by omega)) ?_
  refine xv_bt rfl (by decide +kernel) ?_
  refine xv_m 4 rfl ?_
  refine xv_c0 (r := 97) (nip := 12) (cost := 16) rfl (by omega) (by omega) (m_97_0) ?_
  refine xv_bt rfl (by decide +kernel) ?_
  refine xv_m 6 rfl ?_
  exact xv_l (l_127 hR hSR hD hSD hO hSO hV hSV (by omega) hd hw V 0 none (nI 1000) (Nat.zero_add V)) ⟨rfl, rfl, rfl, rfl, rfl, trivial⟩
theorem r_18a {p : Int32} {V : Nat} (hV : V ≤ 30) (hSV : s 1 7 = nI V) (hx : p < 0 ∨ s 1 7 ≤ p) (hd : 3 ≤ d) (hw : 50 ≤ w) : xv xm L xs d w 127 0 [(0, .ref 28), (1, .int (p))] [] (xC q ++ (xD (s) (b) ++ g)) (.returned (some (.int (nI 0)))) (xC q ++ (xD (s) (xu b 0 0 (nI 1)) ++ g)) 0 0 := by
  refine xv_m 3 rfl ?_
  refine xv_c0 (r := 99) (nip := 4) (cost := 14) rfl (by omega) (by omega) (m_99f (V := V) (by omega) hSV hx (hd := by omega) (hw := by omega)) ?_
  refine xv_bf rfl (by decide +kernel) ?_
  refine xv_m 5 rfl ?_
  refine xv_c0 (r := 97) (nip := 12) (cost := 16) rfl (by omega) (by omega) (m_97_1) ?_
  refine xv_bf rfl (by decide +kernel) ?_
  refine xv_m 1 rfl ?_
  exact xv_r rfl
theorem r_22_0  (hd : 3 ≤ d) (hw : 51 ≤ w) : xv xm L xs d w 131 0 [(0, .ref 28), (1, .int (nI 0))] [] (xC q ++ (xD (s) (b) ++ g)) (.returned (some (.int (s 0 5)))) (xC q ++ (xD (s) (xu b 0 0 (nI 0)) ++ g)) 0 0 := by
  refine xv_m 4 rfl ?_
  refine xv_c0 (r := 98) (nip := 5) (cost := 15) rfl (by omega) (by omega) (m_98t (nI_pos' (by omega)) (nI_le (b := 4) (by omega) (by omega))) ?_
  refine xv_bt rfl (by decide +kernel) ?_
  refine xv_m 4 rfl ?_
  refine xv_c0 (r := 97) (nip := 13) (cost := 16) rfl (by omega) (by omega) (m_97_0) ?_
  refine xv_bt rfl (by decide +kernel) ?_
  refine xv_m 2 rfl ?_
  refine xv_bf rfl (by decide +kernel) ?_
  refine xv_m 1 rfl ?_
  refine xv_bf rfl (by decide +kernel) ?_
  refine xv_m 3 rfl ?_
  exact xv_r rfl
theorem r_22_1  (hd : 3 ≤ d) (hw : 51 ≤ w) : xv xm L xs d w 131 0 [(0, .ref 28), (1, .int (nI 1))] [] (xC q ++ (xD (s) (b) ++ g)) (.returned (some (.int (s 0 6)))) (xC q ++ (xD (s) (xu b 0 0 (nI 0)) ++ g)) 0 0 := by
  refine xv_m 4 rfl ?_
  refine xv_c0 (r := 98) (nip := 5) (cost := 15) rfl (by omega) (by omega) (m_98t (nI_pos' (by omega)) (nI_le (b := 4) (by omega) (by omega))) ?_
  refine xv_bt rfl (by decide +kernel) ?_
  refine xv_m 4 rfl ?_
  refine xv_c0 (r := 97) (nip := 13) (cost := 16) rfl (by omega) (by omega) (m_97_0) ?_
  refine xv_bt rfl (by decide +kernel) ?_
  refine xv_m 2 rfl ?_
  refine xv_bf rfl (by decide +kernel) ?_
  refine xv_m 1 rfl ?_
  refine xv_bt rfl (by decide +kernel) ?_
  refine xv_m 2 rfl ?_
  exact xv_r rfl
theorem r_22_3  (hd : 3 ≤ d) (hw : 51 ≤ w) : xv xm L xs d w 131 0 [(0, .ref 28), (1, .int (nI 3))] [] (xC q ++ (xD (s) (b) ++ g)) (.returned (some (.int (s 0 8)))) (xC q ++ (xD (s) (xu b 0 0 (nI 0)) ++ g)) 0 0 := by
  refine xv_m 4 rfl ?_
  refine xv_c0 (r := 98) (nip := 5) (cost := 15) rfl (by omega) (by omega) (m_98t (nI_pos' (by omega)) (nI_le (b := 4) (by omega) (by omega))) ?_
  refine xv_bt rfl (by decide +kernel) ?_
  refine xv_m 4 rfl ?_
  refine xv_c0 (r := 97) (nip := 13) (cost := 16) rfl (by omega) (by omega) (m_97_0) ?_
  refine xv_bt rfl (by decide +kernel) ?_
  refine xv_m 2 rfl ?_
  refine xv_bt rfl (by decide +kernel) ?_
  refine xv_m 2 rfl ?_
  refine xv_bf rfl (by decide +kernel) ?_
  refine xv_m 2 rfl ?_
  exact xv_r rfl
theorem r_22a {p : Int32} (hx : p < nI 0 ∨ nI 4 < p) (hd : 3 ≤ d) (hw : 51 ≤ w) : xv xm L xs d w 131 0 [(0, .ref 28), (1, .int (p))] [] (xC q ++ (xD (s) (b) ++ g)) (.returned (some (.int (nI 0)))) (xC q ++ (xD (s) (xu b 0 0 (nI 1)) ++ g)) 0 0 := by
  refine xv_m 4 rfl ?_
  refine xv_c0 (r := 98) (nip := 5) (cost := 15) rfl (by omega) (by omega) (m_98f hx) ?_
  refine xv_bf rfl (by decide +kernel) ?_
  refine xv_m 5 rfl ?_
  refine xv_c0 (r := 97) (nip := 13) (cost := 16) rfl (by omega) (by omega) (m_97_1) ?_
  refine xv_bf rfl (by decide +kernel) ?_
  refine xv_m 1 rfl ?_
  exact xv_r rfl
def f_nd (dn : Nat → Int32) (k : Nat) : Bool := xa_cmp .eq (dn k) 0
theorem l_131a {O : Nat} (hO : O ≤ 60) (hSO : s 17 5 = nI O) {o : Outcome} {h' : List va_E} {k0 z : Nat} {e : Int32} (he : xv xm L xs d w 131 57 [(2, .int e), (0, .ref 28), (1, .int (nI 2))] [] (xC q ++ (xD (s) (b) ++ g)) o h' k0 z) : ∀ n k c, k + n = O → xcnt (f_nd (b 1)) n k c = e → xv xm L xs d w 131 37 [(3, .int (nI k)), (2, .int c), (0, .ref 28), (1, .int (nI 2))] [] (xC q ++ (xD (s) (b) ++ g)) o h' k0 z
  | 0, k, c, hk, h2 => by
    have hk : k = O := hk
    subst hk
    have h2 : c = e := h2
    subst h2
    refine xv_m 3 rfl ?_
    refine xv_ei hSO ?_
    refine xv_bt rfl (xc_geT (by omega) (by omega)) ?_
    exact xv_l he ⟨rfl, rfl, rfl, trivial⟩
  | n + 1, k, c, hk, h2 => by
    refine xv_m 3 rfl ?_
    refine xv_ei hSO ?_
    refine xv_bf rfl (xc_geF (by omega) (by omega)) ?_
    refine xv_m 2 rfl ?_
    refine xv_bf rfl (by decide +kernel) ?_
    refine xv_m 4 rfl ?_
    refine xv_ba (_) rfl rfl rfl (by omega) (by omega) ?_
    refine xv_b rfl (fun hc => ?_) (fun hc => ?_)
    · refine xv_m 5 rfl ?_
      rw [xcnt_t (show f_nd (b 1) k = true from hc)] at h2
      exact xv_l (l_131a hO hSO he n (k + 1) _ (by omega) h2) ⟨xk k, rfl, rfl, rfl, trivial⟩
    · refine xv_m 3 rfl ?_
      refine xv_ei (xi_p0 _) ?_
      refine xv_m 3 rfl ?_
      rw [xcnt_f (show f_nd (b 1) k = false from hc)] at h2
      exact xv_l (l_131a hO hSO he n (k + 1) _ (by omega) h2) ⟨xk k, rfl, rfl, rfl, trivial⟩
theorem r_22_2 {O : Nat} (hO : O ≤ 60) (hSO : s 17 5 = nI O) (hd : 3 ≤ d) (hw : 51 ≤ w) : xv xm L xs d w 131 0 [(0, .ref 28), (1, .int (nI 2))] [] (xC q ++ (xD (s) (b) ++ g)) (.returned (some (.int (xcnt (f_nd (b 1)) O 0 (nI 0))))) (xC q ++ (xD (s) (xu b 0 0 (nI 0)) ++ g)) 0 0 := by
  refine xv_m 4 rfl ?_
  refine xv_c0 (r := 98) (nip := 5) (cost := 15) rfl (by omega) (by omega) (m_98t (nI_pos' (by omega)) (nI_le (b := 4) (by omega) (by omega))) ?_
  refine xv_bt rfl (by decide +kernel) ?_
  refine xv_m 4 rfl ?_
  refine xv_c0 (r := 97) (nip := 13) (cost := 16) rfl (by omega) (by omega) (m_97_0) ?_
  refine xv_bt rfl (by decide +kernel) ?_
  refine xv_m 2 rfl ?_
  refine xv_bt rfl (by decide +kernel) ?_
  refine xv_m 2 rfl ?_
  refine xv_bt rfl (by decide +kernel) ?_
  refine xv_m 4 rfl ?_
  refine xv_l (l_131a (b := xu b 0 0 (nI 0)) hO hSO ?_ O 0 (nI 0) (Nat.zero_add O) rfl) ⟨rfl, rfl, rfl, rfl, trivial⟩
  refine xv_m 5 rfl ?_
  refine xv_b rfl (fun hc => ?_) (fun hc => ?_)
  · refine xv_m 1 rfl ?_
    exact xv_r rfl
  · refine xv_m 2 rfl ?_
    refine xv_bt rfl (by decide +kernel) ?_
    refine xv_m 1 rfl ?_
    exact xv_r rfl
def f_rbr (s b : Nat → Nat → Int32) (R D O k : Nat) : Bool := !(xa_cmp .le (f_rrs s b R D O k) 0)
theorem l_131b {R : Nat} (hR : R ≤ 10) (hSR : s 9 2 = nI R){D : Nat} (hD : D ≤ 100) (hSD : s 12 4 = nI D){O : Nat} (hO : O ≤ 60) (hSO : s 17 5 = nI O) {V : Nat} (hV : V ≤ 30) (hSV : s 1 7 = nI V) (hd : 3 ≤ d) (hw : 51 ≤ w) : ∀ n k c, k + n = V → xv xm L xs d w 131 59 [(3, .int (nI k)), (2, .int c), (0, .ref 28), (1, .int (nI 4))] [] (xC q ++ (xD (s) (b) ++ g)) (.returned (some (.int (xcnt (f_rbr s b R D O) n k c)))) (xC q ++ (xD (s) (b) ++ g)) 0 0
  | 0, k, c, hk => by
    have hk : k = V := hk
    subst hk
    refine xv_m 3 rfl ?_
    refine xv_ei hSV ?_
    refine xv_bt rfl (xc_geT (by omega) (by omega)) ?_
    refine xv_m 1 rfl ?_
    exact xv_r rfl
  | n + 1, k, c, hk => by
    refine xv_m 3 rfl ?_
    refine xv_ei hSV ?_
    refine xv_bf rfl (xc_geF (by omega) (by omega)) ?_
    refine xv_m 2 rfl ?_
    refine xv_bf rfl (by decide +kernel) ?_
    refine xv_m 3 rfl ?_
    refine xv_c0 (r := 125) (nip := 70) (cost := 19) rfl (by omega) (by omega) (m_125 hR hSR hD hSD hO hSO (by omega) (hd := by omega) (hw := by omega)) ?_
    refine xv_b rfl (fun hc => ?_) (fun hc => ?_)
    · refine xv_m 2 rfl ?_
      refine xv_ei (xi_p0 _) ?_
      refine xv_m 3 rfl ?_
      rw [xcnt_f (show f_rbr s b R D O k = false by unfold f_rbr; rw [hc]; rfl)]
      exact xv_l (l_131b hR hSR hD hSD hO hSO hV hSV hd hw n (k + 1) _ (by omega)) ⟨xk k, rfl, rfl, rfl, trivial⟩
    · refine xv_m 6 rfl ?_
      rw [xcnt_t (show f_rbr s b R D O k = true by unfold f_rbr; rw [hc]; rfl)]
      exact xv_l (l_131b hR hSR hD hSD hO hSO hV hSV hd hw n (k + 1) _ (by omega)) ⟨xk k, rfl, rfl, rfl, trivial⟩
theorem r_22_4 {R : Nat} (hR : R ≤ 10) (hSR : s 9 2 = nI R){D : Nat} (hD : D ≤ 100) (hSD : s 12 4 = nI D){O : Nat} (hO : O ≤ 60) (hSO : s 17 5 = nI O){V : Nat} (hV : V ≤ 30) (hSV : s 1 7 = nI V) (hd : 3 ≤ d) (hw : 51 ≤ w) : xv xm L xs d w 131 0 [(0, .ref 28), (1, .int (nI 4))] [] (xC q ++ (xD (s) (b) ++ g)) (.returned (some (.int (xcnt (f_rbr s (xu b 0 0 (nI 0)) R D O) V 0 (nI 0))))) (xC q ++ (xD (s) (xu b 0 0 (nI 0)) ++ g)) 0 0 := by
  refine xv_m 4 rfl ?_
  refine xv_c0 (r := 98) (nip := 5) (cost := 15) rfl (by omega) (by omega) (m_98t (nI_pos' (by omega)) (nI_le (b := 4) (by omega) (by omega))) ?_
  refine xv_bt rfl (by decide +kernel) ?_
  refine xv_m 4 rfl ?_
  refine xv_c0 (r := 97) (nip := 13) (cost := 16) rfl (by omega) (by omega) (m_97_0) ?_
  refine xv_bt rfl (by decide +kernel) ?_
  refine xv_m 2 rfl ?_
  refine xv_bt rfl (by decide +kernel) ?_
  refine xv_m 2 rfl ?_
  refine xv_bt rfl (by decide +kernel) ?_
  refine xv_m 7 rfl ?_
  refine xv_b rfl (fun hc => ?_) (fun hc => ?_)
  · refine xv_m 2 rfl ?_
    exact xv_l (l_131b hR hSR hD hSD hO hSO hV hSV hd hw V 0 (nI 0) (Nat.zero_add V)) ⟨rfl, rfl, rfl, rfl, trivial⟩
  · refine xv_m 2 rfl ?_
    refine xv_bt rfl (by decide +kernel) ?_
    refine xv_m 2 rfl ?_
    exact xv_l (l_131b hR hSR hD hSD hO hSO hV hSV hd hw V 0 (nI 0) (Nat.zero_add V)) ⟨rfl, rfl, rfl, rfl, trivial⟩
def f_dw (s : Nat → Nat → Int32) (v r k : Nat) : Bool := !(xa_cmp .le (s 10 (3 * r + k)) 0) && !(xa_cmp .gt (f_left s v r k) 0)
theorem l_110 {v r : Nat} (hv : v < 30) (hr : r < 10) (hd : 2 ≤ d) (hw : 30 ≤ w) : ∀ n k c, k + n = 3 → xv xm L xs d w 110 4 [(4, .int (nI k)), (3, .int (xB c)), (0, .ref 28), (1, .int (nI v)), (2, .int (nI r))] [] (xC q ++ (xD (s) (b) ++ g)) (.returned (some (.int (xB (c || xany (f_dw s v r) n k))))) (xC q ++ (xD (s) (b) ++ g)) 0 0
  | 0, k, c, hk => by
    rw [show xany (f_dw s v r) 0 k = false from rfl, Bool.or_false]
    refine xv_m 2 rfl ?_
    refine xv_bt rfl (xc_geT (by omega) (by omega)) ?_
    refine xv_m 1 rfl ?_
    exact xv_rb (xn_B c) rfl
  | n + 1, k, true, hk => by
    rw [show (true || xany (f_dw s v r) (n + 1) k) = (true || xany (f_dw s v r) n (k + 1)) from rfl]
    refine xv_m 2 rfl ?_
    refine xv_bf rfl (xc_geF (by omega) (by omega)) ?_
    refine xv_m 1 rfl ?_
    refine xv_bt rfl (by decide +kernel) ?_
    refine xv_m 5 rfl ?_
    exact xv_l (l_110 hv hr hd hw n (k + 1) true (by omega)) ⟨xk k, rfl, rfl, rfl, rfl, trivial⟩
  | n + 1, k, false, hk => by
    have hk3 : k < 3 := by omega
    refine xv_m 2 rfl ?_
    refine xv_bf rfl (xc_geF (by omega) (by omega)) ?_
    refine xv_m 1 rfl ?_
    refine xv_bf rfl (by decide +kernel) ?_
    refine xv_m 7 rfl ?_
    refine xv_ia (3 * r + k) rfl rfl (by first | rfl | (simp only [xa_c0, pk_mul, nI_add]; done) | (simp only [xa_c0, pk_mul, nI_add]; congr 1; omega)) (by omega) (by omega) ?_
    refine xv_b rfl (fun hc => ?_) (fun hc => ?_)
    · refine xv_m 4 rfl ?_
      rw [xany_f (show f_dw s v r k = false by unfold f_dw; rw [hc]; rfl)]
      exact xv_l (l_110 hv hr hd hw n (k + 1) false (by omega)) ⟨xk k, rfl, rfl, rfl, rfl, trivial⟩
    · refine xv_m 4 rfl ?_
      refine xv_c0 (r := 108) (nip := 23) (cost := 15) rfl (by omega) (by omega) (m_108 hv hr hk3 (hd := by omega) (hw := by omega)) ?_
      refine xv_b rfl (fun hc2 => ?_) (fun hc2 => ?_)
      · refine xv_m 4 rfl ?_
        rw [xany_f (show f_dw s v r k = false by unfold f_dw; rw [hc, hc2]; rfl)]
        exact xv_l (l_110 hv hr hd hw n (k + 1) false (by omega)) ⟨xk k, rfl, rfl, rfl, rfl, trivial⟩
      · refine xv_m 5 rfl ?_
        rw [xany_t (show f_dw s v r k = true by unfold f_dw; rw [hc, hc2]; rfl), show (false || true) = (true || xany (f_dw s v r) n (k + 1)) from rfl]
        exact xv_l (l_110 hv hr hd hw n (k + 1) true (by omega)) ⟨xk k, rfl, rfl, rfl, rfl, trivial⟩
def f_due (s : Nat → Nat → Int32) (v r : Nat) : Bool := xany (f_dw s v r) 3 0
theorem m_110 {v r : Nat} (hv : v < 30) (hr : r < 10) (hd : 2 ≤ d) (hw : 30 ≤ w) : xv xm L xs d w 110 0 [(0, .ref 28), (1, .int (nI v)), (2, .int (nI r))] [] (xC q ++ (xD (s) (b) ++ g)) (.returned (some (.int (xB (f_due s v r))))) (xC q ++ (xD (s) (b) ++ g)) 0 0 := by
  refine xv_m 4 rfl ?_
  exact xv_l (l_110 hv hr hd hw 3 0 false rfl) ⟨rfl, rfl, rfl, rfl, rfl, trivial⟩
def f_rlc (s : Nat → Nat → Int32) (v r k : Nat) : Option Nat → Bool
  | none => !(xa_cmp .le (lg_cmp (s 10 (3 * r + k)).toInt64 (lN 0)) 0)
  | some l => !(xa_cmp .le (lg_cmp (s 10 (3 * r + k)).toInt64 (lN 0)) 0) && f_blw (f_left s v r k) (s 10 (3 * r + k)) (f_left s v r l) (s 10 (3 * r + l))
def f_rl (s : Nat → Nat → Int32) (v r : Nat) : Nat → Nat → Option Nat → Option Nat
  | 0, _, a => a
  | n + 1, k, a => f_rl s v r n (k + 1) (bif f_rlc s v r k a then some k else a)
theorem f_rl_t {v r n k : Nat} {a : Option Nat} (h : f_rlc s v r k a = true) : f_rl s v r (n + 1) k a = f_rl s v r n (k + 1) (some k) := by show f_rl s v r n (k + 1) (bif f_rlc s v r k a then some k else a) = _; rw [h]; rfl
theorem f_rl_f {v r n k : Nat} {a : Option Nat} (h : f_rlc s v r k a = false) : f_rl s v r (n + 1) k a = f_rl s v r n (k + 1) a := by show f_rl s v r n (k + 1) (bif f_rlc s v r k a then some k else a) = _; rw [h]; rfl
theorem l_111 {v r : Nat} (hv : v < 30) (hr : r < 10) (hd : 2 ≤ d) (hw : 32 ≤ w) : ∀ n k a, k + n = 3 → (∀ l, a = some l → l < 3) → xv xm L xs d w 111 4 [(4, .int (nI k)), (3, .int (xO a)), (0, .ref 28), (1, .int (nI v)), (2, .int (nI r))] [] (xC q ++ (xD (s) (b) ++ g)) (.returned (some (.int (xO (f_rl s v r n k a))))) (xC q ++ (xD (s) (b) ++ g)) 0 0
  | 0, k, a, hk, ha => by
    refine xv_m 2 rfl ?_
    refine xv_bt rfl (xc_geT (by omega) (by omega)) ?_
    refine xv_m 1 rfl ?_
    exact xv_r rfl
  | n + 1, k, none, hk, ha => by
    have hk3 : k < 3 := by omega
    refine xv_m 2 rfl ?_
    refine xv_bf rfl (xc_geF (by omega) (by omega)) ?_
    refine xv_m 7 rfl ?_
    refine xv_ia (3 * r + k) rfl rfl (by first | rfl | (simp only [xa_c0, pk_mul, nI_add]; done) | (simp only [xa_c0, pk_mul, nI_add]; congr 1; omega)) (by omega) (by omega) ?_
    refine xv_m 5 rfl ?_
    refine xv_b rfl (fun hc => ?_) (fun hc => ?_)
    · refine xv_m 3 rfl ?_
      refine xv_bt rfl (by decide +kernel) ?_
      refine xv_m 4 rfl ?_
      rw [f_rl_f (show f_rlc s v r k none = false by show (!(xa_cmp .le (lg_cmp (s 10 (3 * r + k)).toInt64 (lN 0)) 0)) = _; rw [hc]; rfl)]
      exact xv_l (l_111 hv hr hd hw n (k + 1) none (by omega) ha) ⟨xk k, rfl, rfl, rfl, rfl, trivial⟩
    · refine xv_m 1 rfl ?_
      refine xv_bt rfl (by decide +kernel) ?_
      refine xv_m 4 rfl ?_
      refine xv_bf rfl (by decide +kernel) ?_
      refine xv_m 5 rfl ?_
      rw [f_rl_t (show f_rlc s v r k none = true by show (!(xa_cmp .le (lg_cmp (s 10 (3 * r + k)).toInt64 (lN 0)) 0)) = _; rw [hc]; rfl)]
      exact xv_l (l_111 hv hr hd hw n (k + 1) (some k) (by omega) (fun l e => by cases e; omega)) ⟨xk k, rfl, rfl, rfl, rfl, trivial⟩
  | n + 1, k, some l, hk, ha => by
    have hk3 : k < 3 := by omega
    have hl : l < 3 := ha l rfl
    refine xv_m 2 rfl ?_
    refine xv_bf rfl (xc_geF (by omega) (by omega)) ?_
    refine xv_m 7 rfl ?_
    refine xv_ia (3 * r + k) rfl rfl (by first | rfl | (simp only [xa_c0, pk_mul, nI_add]; done) | (simp only [xa_c0, pk_mul, nI_add]; congr 1; omega)) (by omega) (by omega) ?_
    refine xv_m 5 rfl ?_
    refine xv_b rfl (fun hc => ?_) (fun hc => ?_)
    · refine xv_m 3 rfl ?_
      refine xv_bt rfl (by decide +kernel) ?_
      refine xv_m 4 rfl ?_
      rw [f_rl_f (show f_rlc s v r k (some l) = false by show (!(xa_cmp .le (lg_cmp (s 10 (3 * r + k)).toInt64 (lN 0)) 0) && f_blw (f_left s v r k) (s 10 (3 * r + k)) (f_left s v r l) (s 10 (3 * r + l))) = _; rw [hc]; rfl)]
      exact xv_l (l_111 hv hr hd hw n (k + 1) (some l) (by omega) ha) ⟨xk k, rfl, rfl, rfl, rfl, trivial⟩
    · refine xv_m 1 rfl ?_
      refine xv_bf rfl (xc_ltF (a := l) (b := 0) (by omega) (by omega)) ?_
      refine xv_m 4 rfl ?_
      refine xv_c0 (r := 108) (nip := 28) (cost := 15) rfl (by omega) (by omega) (m_108 hv hr hk3 (hd := by omega) (hw := by omega)) ?_
      refine xv_m 8 rfl ?_
      refine xv_ia (3 * r + l) rfl rfl (show nI 3 * nI r + nI l = nI (3 * r + l) by simp only [pk_mul, nI_add]) (by omega) (by omega) ?_
      refine xv_m 6 rfl ?_
      refine xv_c0 (r := 108) (nip := 44) (cost := 17) rfl (by omega) (by omega) (m_108 hv hr hl (hd := by omega) (hw := by omega)) ?_
      refine xv_m 4 rfl ?_
      refine xv_b rfl (fun hc2 => ?_) (fun hc2 => ?_)
      · refine xv_m 3 rfl ?_
        refine xv_bt rfl (by decide +kernel) ?_
        refine xv_m 4 rfl ?_
        rw [f_rl_f (show f_rlc s v r k (some l) = false by show (!(xa_cmp .le (lg_cmp (s 10 (3 * r + k)).toInt64 (lN 0)) 0) && f_blw (f_left s v r k) (s 10 (3 * r + k)) (f_left s v r l) (s 10 (3 * r + l))) = _; unfold f_blw; rw [hc, hc2]; rfl)]
        exact xv_l (l_111 hv hr hd hw n (k + 1) (some l) (by omega) ha) ⟨xk k, rfl, rfl, rfl, rfl, trivial⟩
      · refine xv_m 4 rfl ?_
        refine xv_bf rfl (by decide +kernel) ?_
        refine xv_m 5 rfl ?_
        rw [f_rl_t (show f_rlc s v r k (some l) = true by show (!(xa_cmp .le (lg_cmp (s 10 (3 * r + k)).toInt64 (lN 0)) 0) && f_blw (f_left s v r k) (s 10 (3 * r + k)) (f_left s v r l) (s 10 (3 * r + l))) = _; unfold f_blw; rw [hc, hc2]; rfl)]
        exact xv_l (l_111 hv hr hd hw n (k + 1) (some k) (by omega) (fun l e => by cases e; omega)) ⟨xk k, rfl, rfl, rfl, rfl, trivial⟩
def f_rls (s : Nat → Nat → Int32) (v r : Nat) : Option Nat := f_rl s v r 3 0 none
theorem m_111 {v r : Nat} (hv : v < 30) (hr : r < 10) (hd : 2 ≤ d) (hw : 32 ≤ w) : xv xm L xs d w 111 0 [(0, .ref 28), (1, .int (nI v)), (2, .int (nI r))] [] (xC q ++ (xD (s) (b) ++ g)) (.returned (some (.int (xO (f_rls s v r))))) (xC q ++ (xD (s) (b) ++ g)) 0 0 := by
  refine xv_m 4 rfl ?_
  exact xv_l (l_111 hv hr hd hw 3 0 none rfl (fun l e => nomatch e)) ⟨rfl, rfl, rfl, rfl, rfl, trivial⟩
def f_ah0 (x y : Int64) (v r u t : Nat) : Bool := xa_cmp .lt (lg_cmp x y) 0 || (!(xa_cmp .ne (lg_cmp x y) 0) && (xa_cmp .lt (nI v) (nI u) || (!(xa_cmp .ne (nI v) (nI u)) && !(xa_cmp .ge (nI r) (nI t)))))
theorem m_112 {v r u t a c : Nat} (hv : v < 30) (hr : r < 10) (hu : u < 30) (ht : t < 10) (ha : a < 3) (hc1 : c < 3) (h1 : f_rls s v r = some a) (h2 : f_rls s u t = some c) (hd : 3 ≤ d) (hw : 51 ≤ w) : xv xm L xs d w 112 0 [(0, .ref 28), (1, .int (nI v)), (2, .int (nI r)), (3, .int (nI u)), (4, .int (nI t))] [] (xC q ++ (xD (s) (b) ++ g)) (.returned (some (.int (xB (f_ah0 ((f_left s v r a).toInt64 * (s 10 (3 * t + c)).toInt64) ((f_left s u t c).toInt64 * (s 10 (3 * r + a)).toInt64) v r u t))))) (xC q ++ (xD (s) (b) ++ g)) 0 0 := by
  refine xv_m 3 rfl ?_
  refine xv_c0 (r := 111) (nip := 4) (cost := 19) rfl (by omega) (by omega) (m_111 hv hr (hd := by omega) (hw := by omega)) ?_
  rw [h1]
  refine xv_m 4 rfl ?_
  refine xv_c0 (r := 111) (nip := 9) (cost := 19) rfl (by omega) (by omega) (m_111 hu ht (hd := by omega) (hw := by omega)) ?_
  rw [h2]
  refine xv_m 5 rfl ?_
  refine xv_c0 (r := 108) (nip := 15) (cost := 15) rfl (by omega) (by omega) (m_108 hv hr ha (hd := by omega) (hw := by omega)) ?_
  refine xv_m 8 rfl ?_
  refine xv_ia (3 * t + c) rfl rfl (show nI 3 * nI t + nI c = nI (3 * t + c) by simp only [pk_mul, nI_add]) (by omega) (by omega) ?_
  refine xv_m 7 rfl ?_
  refine xv_c0 (r := 108) (nip := 32) (cost := 15) rfl (by omega) (by omega) (m_108 hu ht hc1 (hd := by omega) (hw := by omega)) ?_
  refine xv_m 8 rfl ?_
  refine xv_ia (3 * r + a) rfl rfl (show nI 3 * nI r + nI a = nI (3 * r + a) by simp only [pk_mul, nI_add]) (by omega) (by omega) ?_
  refine xv_m 6 rfl ?_
  refine xv_b rfl (fun hc => ?_) (fun hc => ?_)
  · rw [show f_ah0 ((f_left s v r a).toInt64 * (s 10 (3 * t + c)).toInt64) ((f_left s u t c).toInt64 * (s 10 (3 * r + a)).toInt64) v r u t = true by unfold f_ah0; rw [hc]; rfl]
    refine xv_m 2 rfl ?_
    exact xv_rb xn_1 rfl
  · refine xv_m 3 rfl ?_
    refine xv_b rfl (fun hc2 => ?_) (fun hc2 => ?_)
    · rw [show f_ah0 ((f_left s v r a).toInt64 * (s 10 (3 * t + c)).toInt64) ((f_left s u t c).toInt64 * (s 10 (3 * r + a)).toInt64) v r u t = false by unfold f_ah0; rw [hc, hc2]; rfl]
      refine xv_m 1 rfl ?_
      exact xv_rb xn_0 rfl
    · refine xv_m 2 rfl ?_
      refine xv_b rfl (fun hc3 => ?_) (fun hc3 => ?_)
      · rw [show f_ah0 ((f_left s v r a).toInt64 * (s 10 (3 * t + c)).toInt64) ((f_left s u t c).toInt64 * (s 10 (3 * r + a)).toInt64) v r u t = true by unfold f_ah0; rw [hc, hc2, hc3]; rfl]
        refine xv_m 2 rfl ?_
        exact xv_rb xn_1 rfl
      · refine xv_m 2 rfl ?_
        refine xv_b rfl (fun hc4 => ?_) (fun hc4 => ?_)
        · rw [show f_ah0 ((f_left s v r a).toInt64 * (s 10 (3 * t + c)).toInt64) ((f_left s u t c).toInt64 * (s 10 (3 * r + a)).toInt64) v r u t = false by unfold f_ah0; rw [hc, hc2, hc3, hc4]; rfl]
          refine xv_m 1 rfl ?_
          exact xv_rb xn_0 rfl
        · refine xv_m 2 rfl ?_
          refine xv_b rfl (fun hc5 => ?_) (fun hc5 => ?_)
          · rw [show f_ah0 ((f_left s v r a).toInt64 * (s 10 (3 * t + c)).toInt64) ((f_left s u t c).toInt64 * (s 10 (3 * r + a)).toInt64) v r u t = false by unfold f_ah0; rw [hc, hc2, hc3, hc4, hc5]; rfl]
            refine xv_m 1 rfl ?_
            exact xv_rb xn_0 rfl
          · rw [show f_ah0 ((f_left s v r a).toInt64 * (s 10 (3 * t + c)).toInt64) ((f_left s u t c).toInt64 * (s 10 (3 * r + a)).toInt64) v r u t = true by unfold f_ah0; rw [hc, hc2, hc3, hc4, hc5]; rfl]
            refine xv_m 2 rfl ?_
            exact xv_rb xn_1 rfl
def f_oth (s : Nat → Nat → Int32) (V R k : Nat) : Bool := !(xa_cmp .ge (nI (k / 10)) (nI V)) && (!(xa_cmp .ge (nI (k % 10)) (nI R)) && f_due s (k / 10) (k % 10))
def f_lk (s : Nat → Nat → Int32) (v r : Nat) : Nat := (f_rls s v r).getD 0
def f_ahd (s : Nat → Nat → Int32) (v r u t : Nat) : Bool := f_ah0 ((f_left s v r (f_lk s v r)).toInt64 * (s 10 (3 * t + f_lk s u t)).toInt64) ((f_left s u t (f_lk s u t)).toInt64 * (s 10 (3 * r + f_lk s v r)).toInt64) v r u t
def f_ahk (s : Nat → Nat → Int32) (V R v r k : Nat) : Bool := f_oth s V R k && (f_due s v r && f_ahd s (k / 10) (k % 10) v r)
theorem m_112d {V R : Nat} (hV : V ≤ 30) (hR : R ≤ 10) (hI : ∀ v r, v < V → r < R → ∃ a, a < 3 ∧ f_rls s v r = some a) {v r u t : Nat} (hv : v < V) (hr : r < R) (hu : u < V) (ht : t < R) (hd : 3 ≤ d) (hw : 51 ≤ w) : xv xm L xs d w 112 0 [(0, .ref 28), (1, .int (nI v)), (2, .int (nI r)), (3, .int (nI u)), (4, .int (nI t))] [] (xC q ++ (xD (s) (b) ++ g)) (.returned (some (.int (xB (f_ahd s v r u t))))) (xC q ++ (xD (s) (b) ++ g)) 0 0 := by
  obtain ⟨a, ha, h1⟩ := hI v r hv hr
  obtain ⟨c, hc, h2⟩ := hI u t hu ht
  have e1 : f_lk s v r = a := by unfold f_lk; rw [h1]; rfl
  have e2 : f_lk s u t = c := by unfold f_lk; rw [h2]; rfl
  have h := m_112 (L := L) (xs := xs) (d := d) (w := w) (q := q) (b := b) (g := g) (s := s) (v := v) (r := r) (u := u) (t := t) (by omega) (by omega) (by omega) (by omega) ha hc h1 h2 hd hw
  unfold f_ahd
  rw [e1, e2]
  exact h
theorem xg_f {a b : Nat} (h : xa_cmp .ge (nI a) (nI b) = false) (ha : a < 2 ^ 31) : a < b := by
  by_cases e : a < b
  · exact e
  · rw [xc_geT (by omega) ha] at h; cases h
theorem l_113o {V : Nat} (hV : V ≤ 30) (hSV : s 1 7 = nI V) {R : Nat} (hR : R ≤ 10) (hSR : s 9 2 = nI R) {k : Nat} (hk : k < 300) {c i : Int32} {v r : Nat} {o : Outcome} {h' : List va_E} {k0 z : Nat} (hd : 4 ≤ d) (hw : 74 ≤ w) (he : xv xm L xs d w 113 57 [(6, .int (xB (f_oth s V R k))), (5, .int (nI k)), (4, .int c), (3, .int (nI r)), (2, .int (nI v)), (0, .ref 28), (1, .int i)] [] (xC q ++ (xD (s) (b) ++ g)) o h' k0 z) : xv xm L xs d w 113 32 [(5, .int (nI k)), (4, .int c), (3, .int (nI r)), (2, .int (nI v)), (0, .ref 28), (1, .int i)] [] (xC q ++ (xD (s) (b) ++ g)) o h' k0 z := by
  refine xv_m 2 rfl ?_
  refine xv_idv rfl (pk_div (by omega) (by omega) (by omega)) (by decide +kernel) ?_
  refine xv_m 2 rfl ?_
  refine xv_ei hSV ?_
  refine xv_b rfl (fun hc => ?_) (fun hc => ?_)
  · refine xv_m 1 rfl ?_
    rw [show f_oth s V R k = false by unfold f_oth; rw [hc]; rfl] at he
    refine xv_m 1 rfl ?_
    exact xv_l he ⟨rfl, rfl, rfl, rfl, rfl, rfl, rfl, trivial⟩
  · refine xv_m 2 rfl ?_
    refine xv_irm rfl (pk_rem (by omega) (by omega) (by omega)) (by decide +kernel) ?_
    refine xv_m 2 rfl ?_
    refine xv_ei hSR ?_
    refine xv_b rfl (fun hc2 => ?_) (fun hc2 => ?_)
    · refine xv_m 1 rfl ?_
      rw [show f_oth s V R k = false by unfold f_oth; rw [hc, hc2]; rfl] at he
      refine xv_m 1 rfl ?_
      exact xv_l he ⟨rfl, rfl, rfl, rfl, rfl, rfl, rfl, trivial⟩
    · refine xv_m 3 rfl ?_
      refine xv_idv rfl (pk_div (by omega) (by omega) (by omega)) (by decide +kernel) ?_
      refine xv_m 2 rfl ?_
      refine xv_irm rfl (pk_rem (by omega) (by omega) (by omega)) (by decide +kernel) ?_
      refine xv_c0 (r := 110) (nip := 52) (cost := 16) rfl (by omega) (by omega) (m_110 (Nat.lt_of_lt_of_le (xg_f hc (by omega)) hV) (Nat.lt_of_lt_of_le (xg_f hc2 (by omega)) hR) (hd := by omega) (hw := by omega)) ?_
      refine xv_b rfl (fun hc3 => ?_) (fun hc3 => ?_)
      · refine xv_m 1 rfl ?_
        rw [show f_oth s V R k = false by unfold f_oth; rw [hc, hc2, xB_f hc3]; rfl] at he
        refine xv_m 1 rfl ?_
        exact xv_l he ⟨rfl, rfl, rfl, rfl, rfl, rfl, rfl, trivial⟩
      · refine xv_m 2 rfl ?_
        rw [show f_oth s V R k = true by unfold f_oth; rw [hc, hc2, xB_t hc3]; rfl] at he
        refine xv_m 1 rfl ?_
        exact xv_l he ⟨rfl, rfl, rfl, rfl, rfl, rfl, rfl, trivial⟩
theorem l_113a {V : Nat} (hV : V ≤ 30) (hSV : s 1 7 = nI V) {R : Nat} (hR : R ≤ 10) (hSR : s 9 2 = nI R) (hI : ∀ v r, v < V → r < R → ∃ a, a < 3 ∧ f_rls s v r = some a) {k : Nat} (hk : k < 300) {c i : Int32} {v r : Nat} (hv : v < V) (hr : r < R) {o : Outcome} {h' : List va_E} {k0 z : Nat} (hd : 4 ≤ d) (hw : 74 ≤ w) (he : xv xm L xs d w 113 29 [(5, .int (nI (k + 1))), (4, .int (bif f_ahk s V R v r k then c + xa_con 1 0 else c)), (3, .int (nI r)), (2, .int (nI v)), (0, .ref 28), (1, .int i)] [] (xC q ++ (xD (s) (b) ++ g)) o h' k0 z) : xv xm L xs d w 113 57 [(6, .int (xB (f_oth s V R k))), (5, .int (nI k)), (4, .int c), (3, .int (nI r)), (2, .int (nI v)), (0, .ref 28), (1, .int i)] [] (xC q ++ (xD (s) (b) ++ g)) o h' k0 z := by
  have hoth : f_oth s V R k = true → k / 10 < V ∧ k % 10 < R := by
    intro h
    unfold f_oth at h
    simp only [Bool.and_eq_true, Bool.not_eq_true'] at h
    exact ⟨xg_f h.1 (by omega), xg_f h.2.1 (by omega)⟩
  refine xv_m 2 rfl ?_
  refine xv_b rfl (fun hc => ?_) (fun hc => ?_)
  · refine xv_m 2 rfl ?_
    refine xv_ei (xi_p0 _) ?_
    refine xv_m 3 rfl ?_
    rw [show f_ahk s V R v r k = false by unfold f_ahk; rw [xB_f hc]; rfl] at he
    exact xv_l he ⟨xk k, rfl, rfl, rfl, rfl, rfl, trivial⟩
  · refine xv_m 3 rfl ?_
    refine xv_c0 (r := 110) (nip := 64) (cost := 17) rfl (by omega) (by omega) (m_110 (by omega) (by omega) (hd := by omega) (hw := by omega)) ?_
    refine xv_b rfl (fun hc2 => ?_) (fun hc2 => ?_)
    · refine xv_m 2 rfl ?_
      refine xv_ei (xi_p0 _) ?_
      refine xv_m 3 rfl ?_
      rw [show f_ahk s V R v r k = false by unfold f_ahk; rw [xB_t hc, xB_f hc2]; rfl] at he
      exact xv_l he ⟨xk k, rfl, rfl, rfl, rfl, rfl, trivial⟩
    · refine xv_m 3 rfl ?_
      refine xv_idv rfl (pk_div (by omega) (by omega) (by omega)) (by decide +kernel) ?_
      refine xv_m 2 rfl ?_
      refine xv_irm rfl (pk_rem (by omega) (by omega) (by omega)) (by decide +kernel) ?_
      refine xv_m 2 rfl ?_
      refine xv_c0 (r := 112) (nip := 75) (cost := 23) rfl (by omega) (by omega) (m_112d hV hR hI (hoth (xB_t hc)).1 (hoth (xB_t hc)).2 hv hr (hd := by omega) (hw := by omega)) ?_
      refine xv_b rfl (fun hc3 => ?_) (fun hc3 => ?_)
      · refine xv_m 2 rfl ?_
        refine xv_ei (xi_p0 _) ?_
        refine xv_m 3 rfl ?_
        rw [show f_ahk s V R v r k = false by unfold f_ahk; rw [xB_t hc, xB_t hc2, xB_f hc3]; rfl] at he
        exact xv_l he ⟨xk k, rfl, rfl, rfl, rfl, rfl, trivial⟩
      · refine xv_m 6 rfl ?_
        rw [show f_ahk s V R v r k = true by unfold f_ahk; rw [xB_t hc, xB_t hc2, xB_t hc3]; rfl] at he
        exact xv_l he ⟨xk k, rfl, rfl, rfl, rfl, rfl, trivial⟩
theorem l_113k {V : Nat} (hV : V ≤ 30) (hSV : s 1 7 = nI V) {R : Nat} (hR : R ≤ 10) (hSR : s 9 2 = nI R) (hI : ∀ v r, v < V → r < R → ∃ a, a < 3 ∧ f_rls s v r = some a) {i e : Int32} {v r : Nat} (hv : v < V) (hr : r < R) {o : Outcome} {h' : List va_E} {k0 z : Nat} (hd : 4 ≤ d) (hw : 74 ≤ w) (he : xv xm L xs d w 113 83 [(4, .int e), (3, .int (nI r)), (2, .int (nI v)), (0, .ref 28), (1, .int i)] [] (xC q ++ (xD (s) (b) ++ g)) o h' k0 z) : ∀ n k c, k + n = 300 → xcnt (f_ahk s V R v r) n k c = e → xv xm L xs d w 113 29 [(5, .int (nI k)), (4, .int c), (3, .int (nI r)), (2, .int (nI v)), (0, .ref 28), (1, .int i)] [] (xC q ++ (xD (s) (b) ++ g)) o h' k0 z
  | 0, k, c, hk, h2 => by
    have h2 : c = e := h2
    subst h2
    refine xv_m 2 rfl ?_
    refine xv_bt rfl (xc_geT (by omega) (by omega)) ?_
    exact xv_l he ⟨rfl, rfl, rfl, rfl, rfl, trivial⟩
  | n + 1, k, c, hk, h2 => by
    refine xv_m 2 rfl ?_
    refine xv_bf rfl (xc_geF (by omega) (by omega)) ?_
    exact l_113o hV hSV hR hSR (by omega) hd hw (l_113a hV hSV hR hSR hI (by omega) hv hr hd hw (l_113k hV hSV hR hSR hI hv hr hd hw he n (k + 1) _ (by omega) h2))
def f_hit (s : Nat → Nat → Int32) (V R : Nat) (i : Int32) (v r : Nat) : Bool := f_due s v r && !(xa_cmp .ne (xcnt (f_ahk s V R v r) 300 0 (nI 0)) i)
def f_hr (s : Nat → Nat → Int32) (V R : Nat) (i : Int32) (v : Nat) : Nat → Nat → Int32 → Int32
  | 0, _, e => e
  | n + 1, r, e => bif f_hit s V R i v r then nI (100 * v + r) else f_hr s V R i v n (r + 1) e
def f_hv (s : Nat → Nat → Int32) (V R : Nat) (i : Int32) : Nat → Nat → Int32
  | 0, _ => xa_con 1 1
  | n + 1, v => f_hr s V R i v R 0 (f_hv s V R i n (v + 1))
theorem l_113r {V : Nat} (hV : V ≤ 30) (hSV : s 1 7 = nI V) {R : Nat} (hR : R ≤ 10) (hSR : s 9 2 = nI R) (hI : ∀ v r, v < V → r < R → ∃ a, a < 3 ∧ f_rls s v r = some a) {i e : Int32} {v : Nat} (hv : v < V) (hd : 4 ≤ d) (hw : 74 ≤ w) (he : xv xm L xs d w 113 99 [(2, .int (nI v)), (0, .ref 28), (1, .int i)] [] (xC q ++ (xD (s) (b) ++ g)) (.returned (some (.int (e)))) (xC q ++ (xD (s) (b) ++ g)) 0 0) : ∀ n r, r + n = R → xv xm L xs d w 113 21 [(3, .int (nI r)), (2, .int (nI v)), (0, .ref 28), (1, .int i)] [] (xC q ++ (xD (s) (b) ++ g)) (.returned (some (.int (f_hr s V R i v n r e)))) (xC q ++ (xD (s) (b) ++ g)) 0 0
  | 0, r, hk => by
    have hk : r = R := hk
    subst hk
    refine xv_m 3 rfl ?_
    refine xv_ei hSR ?_
    refine xv_bt rfl (xc_geT (by omega) (by omega)) ?_
    exact xv_l he ⟨rfl, rfl, rfl, trivial⟩
  | n + 1, r, hk => by
    have hr : r < R := by omega
    refine xv_m 3 rfl ?_
    refine xv_ei hSR ?_
    refine xv_bf rfl (xc_geF (by omega) (by omega)) ?_
    refine xv_m 4 rfl ?_
    refine xv_l (l_113k hV hSV hR hSR hI hv hr hd hw ?_ 300 0 (nI 0) rfl rfl) ⟨rfl, rfl, rfl, rfl, rfl, rfl, trivial⟩
    refine xv_m 3 rfl ?_
    refine xv_c0 (r := 110) (nip := 87) (cost := 16) rfl (by omega) (by omega) (m_110 (by omega) (by omega) (hd := by omega) (hw := by omega)) ?_
    refine xv_b rfl (fun hc => ?_) (fun hc => ?_)
    · rw [show f_hr s V R i v (n + 1) r e = f_hr s V R i v n (r + 1) e by show (bif f_hit s V R i v r then nI (100 * v + r) else f_hr s V R i v n (r + 1) e) = _; rw [show f_hit s V R i v r = false by unfold f_hit; rw [xB_f hc]; rfl]; rfl]
      refine xv_m 2 rfl ?_
      exact xv_l (l_113r hV hSV hR hSR hI hv hd hw he n (r + 1) (by omega)) ⟨xk r, rfl, rfl, rfl, trivial⟩
    · refine xv_m 2 rfl ?_
      refine xv_b rfl (fun hc2 => ?_) (fun hc2 => ?_)
      · rw [show f_hr s V R i v (n + 1) r e = f_hr s V R i v n (r + 1) e by show (bif f_hit s V R i v r then nI (100 * v + r) else f_hr s V R i v n (r + 1) e) = _; rw [show f_hit s V R i v r = false by unfold f_hit; rw [xB_t hc, hc2]; rfl]; rfl]
        refine xv_m 2 rfl ?_
        exact xv_l (l_113r hV hSV hR hSR hI hv hd hw he n (r + 1) (by omega)) ⟨xk r, rfl, rfl, rfl, trivial⟩
      · rw [show f_hr s V R i v (n + 1) r e = nI (100 * v + r) by show (bif f_hit s V R i v r then nI (100 * v + r) else f_hr s V R i v n (r + 1) e) = _; rw [show f_hit s V R i v r = true by unfold f_hit; rw [xB_t hc, hc2]; rfl]; rfl]
        refine xv_m 5 rfl ?_
        exact xv_rn (by simp only [xa_c0, pk_mul, nI_add]) rfl
theorem l_113v {V : Nat} (hV : V ≤ 30) (hSV : s 1 7 = nI V) {R : Nat} (hR : R ≤ 10) (hSR : s 9 2 = nI R) (hI : ∀ v r, v < V → r < R → ∃ a, a < 3 ∧ f_rls s v r = some a) {i : Int32} (hd : 4 ≤ d) (hw : 74 ≤ w) : ∀ n v, v + n = V → xv xm L xs d w 113 15 [(2, .int (nI v)), (0, .ref 28), (1, .int i)] [] (xC q ++ (xD (s) (b) ++ g)) (.returned (some (.int (f_hv s V R i n v)))) (xC q ++ (xD (s) (b) ++ g)) 0 0
  | 0, v, hk => by
    have hk : v = V := hk
    subst hk
    refine xv_m 3 rfl ?_
    refine xv_ei hSV ?_
    refine xv_bt rfl (xc_geT (by omega) (by omega)) ?_
    refine xv_m 1 rfl ?_
    exact xv_r rfl
  | n + 1, v, hk => by
    refine xv_m 3 rfl ?_
    refine xv_ei hSV ?_
    refine xv_bf rfl (xc_geF (by omega) (by omega)) ?_
    refine xv_m 2 rfl ?_
    refine xv_l (l_113r hV hSV hR hSR hI (v := v) (by omega) hd hw ?_ R 0 (Nat.zero_add R)) ⟨rfl, rfl, rfl, rfl, trivial⟩
    refine xv_m 2 rfl ?_
    exact xv_l (l_113v hV hSV hR hSR hI hd hw n (v + 1) (by omega)) ⟨xk v, rfl, rfl, trivial⟩
theorem r_7 {V : Nat} (hV : V ≤ 30) (hSV : s 1 7 = nI V) {R : Nat} (hR : R ≤ 10) (hSR : s 9 2 = nI R) (hI : ∀ v r, v < V → r < R → ∃ a, a < 3 ∧ f_rls s v r = some a) {i : Int32} (h0 : 0 ≤ i) (hd : 4 ≤ d) (hw : 74 ≤ w) : xv xm L xs d w 113 0 [(0, .ref 28), (1, .int (i))] [] (xC q ++ (xD (s) (b) ++ g)) (.returned (some (.int (f_hv s V R i V 0)))) (xC q ++ (xD (s) (xu b 0 0 (nI 0)) ++ g)) 0 0 := by
  refine xv_m 2 rfl ?_
  refine xv_bt rfl (xd_geT h0) ?_
  refine xv_m 4 rfl ?_
  refine xv_c0 (r := 97) (nip := 10) (cost := 16) rfl (by omega) (by omega) (m_97_0) ?_
  refine xv_bt rfl (by decide +kernel) ?_
  refine xv_m 2 rfl ?_
  exact xv_l (l_113v hV hSV hR hSR hI hd hw V 0 (Nat.zero_add V)) ⟨rfl, rfl, rfl, trivial⟩
theorem r_7a {i : Int32} (h0 : i < 0) (hd : 4 ≤ d) (hw : 74 ≤ w) : xv xm L xs d w 113 0 [(0, .ref 28), (1, .int (i))] [] (xC q ++ (xD (s) (b) ++ g)) (.returned (some (.int (nI 0)))) (xC q ++ (xD (s) (xu b 0 0 (nI 1)) ++ g)) 0 0 := by
  refine xv_m 2 rfl ?_
  refine xv_bf rfl (xd_geF h0) ?_
  refine xv_m 5 rfl ?_
  refine xv_c0 (r := 97) (nip := 10) (cost := 16) rfl (by omega) (by omega) (m_97_1) ?_
  refine xv_bf rfl (by decide +kernel) ?_
  refine xv_m 1 rfl ?_
  exact xv_r rfl
end XRH

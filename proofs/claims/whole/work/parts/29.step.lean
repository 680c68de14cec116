def Qv (_ : Nat) (_ : Int64) (res : Option Value) : Prop := res = none
def Qi (c : Nat) (y : Int64) (res : Option Value) : Prop := ∃ x : Int32, res = some (.int x) ∧ (c = 0 → y = x.toInt64)
def Qz (c : Nat) (y : Int64) (res : Option Value) : Prop := ∃ x : Int32, res = some (.int x) ∧ (x = 0 ∨ x = 1) ∧ (c = 0 → y = x.toInt64)
def Qj (c : Nat) (y : Int64) (res : Option Value) : Prop := ∃ x : Int64, res = some (.long x) ∧ (c = 0 → y = x)
section XUS
variable {L : Nat} {xs : Nat → Int32} {s b : Nat → Nat → Int32} {f : Nat → Int64} {g : List va_E}
def xU (Q : Nat → Int64 → Option Value → Prop) (L : Nat) (xs : Nat → Int32) (hy wh ry wr : Nat) (lh lr : List (Nat × Value)) (s b : Nat → Nat → Int32) (f : Nat → Int64) (g : List va_E) : Prop := ∃ (s1 b1 : Nat → Nat → Int32) (f1 : Nat → Int64) (g1 : List va_E) (k1 z1 c : Nat) (res : Option Value), jX s1 b1 ∧ k1 ≤ 1 ∧ z1 ≤ 6 ∧ c < 10 ∧ b1 0 0 = nI c ∧ Q c (f1 0) res ∧ xv xm L xs 10 wh hy 0 lh [] (xC s ++ (xD s b ++ (xo f :: g))) (.returned (some (.int (nI c)))) (xC s1 ++ (xD s b ++ (xo f1 :: g1))) k1 z1 ∧ xv xm L xs 10 wr ry 0 lr [] (xC s1 ++ (xD s b ++ (xo f1 :: g1))) (.returned res) (xC s1 ++ (xD s1 b1 ++ (xo f1 :: g1))) 0 0
theorem xU_ok {Q : Nat → Int64 → Option Value → Prop} {hy wh ry wr : Nat} {lh lr : List (Nat × Value)} (s1 s2 b1 : Nat → Nat → Int32) (f1 : Nat → Int64) (res : Option Value) (hI : jX s1 b1) (hb : b1 0 0 = nI 0) (hQ : Q 0 (f1 0) res) (e : xD s2 b1 = xD s1 b1) (hH : xv xm L xs 10 wh hy 0 lh [] (xC s ++ (xD s b ++ (xo f :: g))) (.returned (some (.int (nI 0)))) (xC s1 ++ (xD s b ++ (xo f1 :: g))) 0 0) (hR : xv xm L xs 10 wr ry 0 lr [] (xC s1 ++ (xD s b ++ (xo f1 :: g))) (.returned res) (xC s1 ++ (xD s2 b1 ++ (xo f1 :: g))) 0 0) : xU Q L xs hy wh ry wr lh lr s b f g := by
  rw [e] at hR
  exact ⟨s1, b1, f1, g, 0, 0, 0, res, hI, by omega, by omega, by omega, hb, hQ, hH, hR⟩
theorem xU_no {Q : Nat → Int64 → Option Value → Prop} {hy wh ry wr : Nat} {lh lr : List (Nat × Value)} (s1 b1 : Nat → Nat → Int32) (c : Nat) (g1 : List va_E) (res : Option Value) (hI : jX s1 b1) (hc : c < 10) (hb : b1 0 0 = nI c) (hQ : Q c (f 0) res) (hH : xv xm L xs 10 wh hy 0 lh [] (xC s ++ (xD s b ++ (xo f :: g))) (.returned (some (.int (nI c)))) (xC s1 ++ (xD s b ++ (xo f :: g1))) 1 6) (hR : xv xm L xs 10 wr ry 0 lr [] (xC s1 ++ (xD s b ++ (xo f :: g1))) (.returned res) (xC s1 ++ (xD s1 b1 ++ (xo f :: g1))) 0 0) : xU Q L xs hy wh ry wr lh lr s b f g :=
  ⟨s1, b1, f, g1, 1, 6, c, res, hI, by omega, by omega, hc, hb, hQ, hH, hR⟩
theorem xix (p : Int32) {x : Int32} {n : Nat} (e : x = nI n) (hn : n < 2 ^ 31) : (p < 0 ∨ x ≤ p) ∨ ∃ j, j < n ∧ p = nI j := by
  subst e
  rcases pk_ix p hn with h | h | h
  · exact Or.inl (Or.inl h)
  · exact Or.inl (Or.inr h)
  · exact Or.inr h
theorem xrg (a c x : Int32) : (x < a ∨ c < x) ∨ (a ≤ x ∧ x ≤ c) := by
  by_cases h1 : x < a
  · exact Or.inl (Or.inl h1)
  · by_cases h2 : c < x
    · exact Or.inl (Or.inr h2)
    · exact Or.inr ⟨xi_le h1, xi_le h2⟩
theorem xcv {p : Int32} {n : Nat} (h : p < 0 ∨ nI (n + 1) ≤ p) (hn : n + 1 < 2 ^ 31) : p < nI 0 ∨ nI n < p := by
  rcases h with h | h
  · exact Or.inl h
  · refine Or.inr ?_
    rw [Int32.le_iff_toInt_le, nI_toInt hn] at h
    rw [Int32.lt_iff_toInt_lt, nI_toInt (by omega)]
    omega
theorem q_13 {y x z : Int32} (h : xr y 1000000000) (h2 : nI 1 ≤ x) (h3 : x ≤ nI 100) (h4 : nI 0 ≤ z) (h5 : z ≤ nI 1000000) (hm : x * z ≤ y) : xr (y - x * z) 1000000000 := by
  obtain ⟨m, hm1, rfl⟩ := h
  obtain ⟨a, ha, rfl⟩ := xr_of (N := 100) (by omega) (Int32.le_trans (nI_le (by omega) (by omega)) h2) h3
  obtain ⟨c, hc, rfl⟩ := xr_of (N := 1000000) (by omega) h4 h5
  have hac : a * c ≤ 100 * 1000000 := Nat.mul_le_mul ha hc
  rw [pk_mul] at hm ⊢
  rw [nI_leI (by omega) (by omega)] at hm
  rw [pk_sub hm]
  exact ⟨_, by omega, rfl⟩
theorem u_1 (hI : jX s b) (p1 p2 : Int32) (hz2 : p2 = 0 ∨ p2 = 1) : xU Qi L xs 132 380 102 381 [(0, .ref 1), (1, .int (p1)), (2, .int (p2)), (3, .ref 46)] [(0, .ref 28), (1, .int (p1)), (2, .int (p2))] s b f g := by
  obtain ⟨V, R, D, O, P, h⟩ := hI
  have hI : jX s b := ⟨V, R, D, O, P, h⟩
  have hV : V ≤ 30 := h.1.1.1
  have hR : R ≤ 10 := h.1.1.2.1
  have hD : D ≤ 100 := h.1.1.2.2.1
  have hO : O ≤ 60 := h.1.1.2.2.2.1
  have hP : P ≤ 100 := h.1.1.2.2.2.2
  have eV : s 1 7 = nI V := h.1.2.1
  have eR : s 9 2 = nI R := h.1.2.2.1
  have eD : s 12 4 = nI D := h.1.2.2.2.1
  have eO : s 17 5 = nI O := h.1.2.2.2.2.1
  have eP : s 17 6 = nI P := h.1.2.2.2.2.2
  rcases xrg (nI 0) (nI 9) p1 with hx | ⟨h0, h1⟩
  · exact xU_no (s) (xu b 0 0 (nI 1)) 1 _ _ (jX_b hI) (by omega) rfl ⟨_, rfl, fun e => absurd e (by decide)⟩ (t_1_8 (c_1a hx (by omega) (by omega)) (by omega) (by omega)) (r_1a hx (by omega) (by omega))
  · by_cases hV1 : V < 30
    · exact xU_ok (f_veh s V p1 p2) (f_veh s V p1 p2) (xu b 0 0 (nI 0)) _ _ (⟨_, _, _, _, _, p_1 h hV1 (xr_of (by omega) h0 h1) hz2⟩) rfl ⟨_, rfl, fun _ => pk_uLs⟩ (rfl) (h_1 (c_1 hV1 eV h0 h1 hz2 (by omega) (by omega)) (by omega) (by omega)) (r_1 hV1 eV h0 h1 hz2 (by omega) (by omega))
    · have hV2 : V = 30 := by omega
      subst hV2
      exact xU_no (s) (xu b 0 0 (nI 2)) 2 _ _ (jX_b hI) (by omega) rfl ⟨_, rfl, fun e => absurd e (by decide)⟩ (t_1_10 (c_1b h0 h1 (by rw [eV]; exact nI_le (by omega) (by omega)) (by omega) (by omega)) (by omega) (by omega)) (r_1b h0 h1 eV (by omega) (by omega))
theorem u_2 (hI : jX s b) (p1 p2 p3 : Int32) : xU Qi L xs 133 379 103 380 [(0, .ref 1), (1, .int (p1)), (2, .int (p2)), (3, .int (p3)), (4, .ref 46)] [(0, .ref 28), (1, .int (p1)), (2, .int (p2)), (3, .int (p3))] s b f g := by
  obtain ⟨V, R, D, O, P, h⟩ := hI
  have hI : jX s b := ⟨V, R, D, O, P, h⟩
  have hV : V ≤ 30 := h.1.1.1
  have hR : R ≤ 10 := h.1.1.2.1
  have hD : D ≤ 100 := h.1.1.2.2.1
  have hO : O ≤ 60 := h.1.1.2.2.2.1
  have hP : P ≤ 100 := h.1.1.2.2.2.2
  have eV : s 1 7 = nI V := h.1.2.1
  have eR : s 9 2 = nI R := h.1.2.2.1
  have eD : s 12 4 = nI D := h.1.2.2.2.1
  have eO : s 17 5 = nI O := h.1.2.2.2.2.1
  have eP : s 17 6 = nI P := h.1.2.2.2.2.2
  rcases xrg (nI 0) (nI 100000) p1 with hx | ⟨h0, h1⟩
  · exact xU_no (s) (xu b 0 0 (nI 1)) 1 _ _ (jX_b hI) (by omega) rfl ⟨_, rfl, fun e => absurd e (by decide)⟩ (t_2_8 (c_2a hx (by omega) (by omega)) (by omega) (by omega)) (r_2a hx (by omega) (by omega))
  · rcases xrg (nI 0) (nI 100000) p2 with hx | ⟨h2, h3⟩
    · exact xU_no (s) (xu b 0 0 (nI 1)) 1 _ _ (jX_b hI) (by omega) rfl ⟨_, rfl, fun e => absurd e (by decide)⟩ (t_2_8 (c_2b h0 h1 hx (by omega) (by omega)) (by omega) (by omega)) (r_2b h0 h1 hx (by omega) (by omega))
    · rcases xrg (nI 0) (nI 100000) p3 with hx | ⟨h4, h5⟩
      · exact xU_no (s) (xu b 0 0 (nI 1)) 1 _ _ (jX_b hI) (by omega) rfl ⟨_, rfl, fun e => absurd e (by decide)⟩ (t_2_8 (c_2c h0 h1 h2 h3 hx (by omega) (by omega)) (by omega) (by omega)) (r_2c h0 h1 h2 h3 hx (by omega) (by omega))
      · by_cases hn : p1 = 0 ∧ p2 = 0 ∧ p3 = 0
        · exact xU_no (s) (xu b 0 0 (nI 1)) 1 _ _ (jX_b hI) (by omega) rfl ⟨_, rfl, fun e => absurd e (by decide)⟩ (t_2_8 (c_2d h0 h1 h2 h3 h4 h5 hn.1 hn.2.1 hn.2.2 (by omega) (by omega)) (by omega) (by omega)) (r_2d h0 h1 h2 h3 h4 h5 hn.1 hn.2.1 hn.2.2 (by omega) (by omega))
        · by_cases hR1 : R < 10
          · exact xU_ok (f_rul s R p1 p2 p3) (f_rul s R p1 p2 p3) (xu b 0 0 (nI 0)) _ _ (⟨_, _, _, _, _, p_2 h hR1 (xr_of (by omega) h0 h1) (xr_of (by omega) h2 h3) (xr_of (by omega) h4 h5) hn⟩) rfl ⟨_, rfl, fun _ => pk_uLs⟩ (rfl) (h_2 (c_2 h0 h1 h2 h3 h4 h5 hn hR1 eR (by omega) (by omega)) (by omega) (by omega)) (r_2 h0 h1 h2 h3 h4 h5 hn hR1 eR (by omega) (by omega))
          · have hR2 : R = 10 := by omega
            subst hR2
            exact xU_no (s) (xu b 0 0 (nI 2)) 2 _ _ (jX_b hI) (by omega) rfl ⟨_, rfl, fun e => absurd e (by decide)⟩ (t_2_10 (c_2e h0 h1 h2 h3 h4 h5 hn (by rw [eR]; exact nI_le (by omega) (by omega)) (by omega) (by omega)) (by omega) (by omega)) (r_2e h0 h1 h2 h3 h4 h5 hn eR (by omega) (by omega))
theorem u_3 (hI : jX s b) (p1 : Int32) : xU Qv L xs 134 382 104 383 [(0, .ref 1), (1, .int (p1))] [(0, .ref 28), (1, .int (p1))] s b f g := by
  obtain ⟨V, R, D, O, P, h⟩ := hI
  have hI : jX s b := ⟨V, R, D, O, P, h⟩
  have hV : V ≤ 30 := h.1.1.1
  have hR : R ≤ 10 := h.1.1.2.1
  have hD : D ≤ 100 := h.1.1.2.2.1
  have hO : O ≤ 60 := h.1.1.2.2.2.1
  have hP : P ≤ 100 := h.1.1.2.2.2.2
  have eV : s 1 7 = nI V := h.1.2.1
  have eR : s 9 2 = nI R := h.1.2.2.1
  have eD : s 12 4 = nI D := h.1.2.2.2.1
  have eO : s 17 5 = nI O := h.1.2.2.2.2.1
  have eP : s 17 6 = nI P := h.1.2.2.2.2.2
  rcases xrg (nI 1) (nI 100) p1 with hx | ⟨h0, h1⟩
  · exact xU_no (s) (xu b 0 0 (nI 1)) 1 _ _ (jX_b hI) (by omega) rfl rfl (t_3_8 (c_3a hx (by omega) (by omega)) (by omega) (by omega)) (r_3a hx (by omega) (by omega))
  · exact xU_ok (xu s 0 7 p1) (xu s 0 7 p1) (xu b 0 0 (nI 0)) _ _ (⟨V, R, D, O, P, h⟩) rfl rfl (rfl) (h_3 (c_3 h0 h1 (by omega) (by omega)) (by omega) (by omega)) (r_3 h0 h1 (by omega) (by omega))
theorem u_4 (hI : jX s b) (p1 : Int32) : xU Qv L xs 135 382 105 383 [(0, .ref 1), (1, .int (p1))] [(0, .ref 28), (1, .int (p1))] s b f g := by
  obtain ⟨V, R, D, O, P, h⟩ := hI
  have hI : jX s b := ⟨V, R, D, O, P, h⟩
  have hV : V ≤ 30 := h.1.1.1
  have hR : R ≤ 10 := h.1.1.2.1
  have hD : D ≤ 100 := h.1.1.2.2.1
  have hO : O ≤ 60 := h.1.1.2.2.2.1
  have hP : P ≤ 100 := h.1.1.2.2.2.2
  have eV : s 1 7 = nI V := h.1.2.1
  have eR : s 9 2 = nI R := h.1.2.2.1
  have eD : s 12 4 = nI D := h.1.2.2.2.1
  have eO : s 17 5 = nI O := h.1.2.2.2.2.1
  have eP : s 17 6 = nI P := h.1.2.2.2.2.2
  obtain ⟨t, ht, et⟩ := h.2.2.1.1.2.2.1
  rcases xrg (s 0 5) (nI 99999) p1 with hx | ⟨h0, h1⟩
  · exact xU_no (s) (xu b 0 0 (nI 1)) 1 _ _ (jX_b hI) (by omega) rfl rfl (t_4_8 (c_4a hx (by omega) (by omega)) (by omega) (by omega)) (r_4a hx (by omega) (by omega))
  · exact xU_ok (xu s 0 5 p1) (xu s 0 5 p1) (xu b 0 0 (nI 0)) _ _ (⟨V, R, D, O, P, p_4 h (xr_of (by omega) (Int32.le_trans (by rw [et]; exact nI_le (by omega) (by omega)) h0) h1)⟩) rfl rfl (rfl) (h_4 (c_4 h0 h1 (by omega) (by omega)) (by omega) (by omega)) (r_4 h0 h1 (by omega) (by omega))
theorem u_5 (hI : jX s b) (p1 p2 p3 : Int32) : xU Qv L xs 136 380 106 378 [(0, .ref 1), (1, .int (p1)), (2, .int (p2)), (3, .int (p3))] [(0, .ref 28), (1, .int (p1)), (2, .int (p2)), (3, .int (p3))] s b f g := by
  obtain ⟨V, R, D, O, P, h⟩ := hI
  have hI : jX s b := ⟨V, R, D, O, P, h⟩
  have hV : V ≤ 30 := h.1.1.1
  have hR : R ≤ 10 := h.1.1.2.1
  have hD : D ≤ 100 := h.1.1.2.2.1
  have hO : O ≤ 60 := h.1.1.2.2.2.1
  have hP : P ≤ 100 := h.1.1.2.2.2.2
  have eV : s 1 7 = nI V := h.1.2.1
  have eR : s 9 2 = nI R := h.1.2.2.1
  have eD : s 12 4 = nI D := h.1.2.2.2.1
  have eO : s 17 5 = nI O := h.1.2.2.2.2.1
  have eP : s 17 6 = nI P := h.1.2.2.2.2.2
  rcases xix p1 eV (by omega) with hx | ⟨v, hv, rfl⟩
  · exact xU_no (s) (xu b 0 0 (nI 1)) 1 _ _ (jX_b hI) (by omega) rfl rfl (t_5_7 (c_5a hx (by omega) (by omega)) (by omega) (by omega)) (r_5a hV eV hx (by omega) (by omega))
  · rcases xrg (nI 0) (nI 1000000) p2 with hx | ⟨h0, h1⟩
    · exact xU_no (s) (xu b 0 0 (nI 2)) 2 _ _ (jX_b hI) (by omega) rfl rfl (t_5_8 (c_5b hV eV hv hx (by omega) (by omega)) (by omega) (by omega)) (r_5b hV eV hv hx (by omega) (by omega))
    · rcases xrg (nI 0) (nI 1000000) p3 with hx | ⟨h2, h3⟩
      · exact xU_no (s) (xu b 0 0 (nI 2)) 2 _ _ (jX_b hI) (by omega) rfl rfl (t_5_8 (c_5c hV eV hv h0 h1 hx (by omega) (by omega)) (by omega) (by omega)) (r_5c hV eV hv h0 h1 hx (by omega) (by omega))
      · by_cases h4 : p2 < s 4 v
        · exact xU_no (xu s 0 8 (s 0 8 + nI 1)) (xu b 0 0 (nI 3)) 3 _ _ (⟨V, R, D, O, P, h⟩) (by omega) rfl rfl (t_5_9 (c_5d hV eV hv h0 h1 h2 h3 h4 (by omega) (by omega)) (by omega) (by omega)) (r_5d hV eV hv h0 h1 h2 h3 h4 (by omega) (by omega))
        · by_cases h5 : p3 < s 5 v
          · exact xU_no (xu s 0 8 (s 0 8 + nI 1)) (xu b 0 0 (nI 3)) 3 _ _ (⟨V, R, D, O, P, h⟩) (by omega) rfl rfl (t_5_9 (c_5e hV eV hv h0 h1 h2 h3 (xi_le h4) h5 (by omega) (by omega)) (by omega) (by omega)) (r_5e hV eV hv h0 h1 h2 h3 (xi_le h4) h5 (by omega) (by omega))
          · exact xU_ok (xu (xu s 4 v p2) 5 v p3) (xu (xu s 4 v p2) 5 v p3) (xu b 0 0 (nI 0)) _ _ (⟨V, R, D, O, P, p_5 h (xr_of (by omega) h0 h1) (xr_of (by omega) h2 h3)⟩) rfl rfl (rfl) (h_5 (c_5 hV eV hv h0 h1 h2 h3 (xi_le h4) (xi_le h5) (by omega) (by omega)) (by omega) (by omega)) (r_5 hV eV hv h0 h1 h2 h3 (xi_le h4) (xi_le h5) (by omega) (by omega))
theorem u_6 (hI : jX s b) (p1 p2 p3 : Int32) : xU Qi L xs 137 379 109 380 [(0, .ref 1), (1, .int (p1)), (2, .int (p2)), (3, .int (p3)), (4, .ref 46)] [(0, .ref 28), (1, .int (p1)), (2, .int (p2)), (3, .int (p3))] s b f g := by
  obtain ⟨V, R, D, O, P, h⟩ := hI
  have hI : jX s b := ⟨V, R, D, O, P, h⟩
  have hV : V ≤ 30 := h.1.1.1
  have hR : R ≤ 10 := h.1.1.2.1
  have hD : D ≤ 100 := h.1.1.2.2.1
  have hO : O ≤ 60 := h.1.1.2.2.2.1
  have hP : P ≤ 100 := h.1.1.2.2.2.2
  have eV : s 1 7 = nI V := h.1.2.1
  have eR : s 9 2 = nI R := h.1.2.2.1
  have eD : s 12 4 = nI D := h.1.2.2.2.1
  have eO : s 17 5 = nI O := h.1.2.2.2.2.1
  have eP : s 17 6 = nI P := h.1.2.2.2.2.2
  rcases xix p1 eV (by omega) with hx | ⟨v, hv, rfl⟩
  · exact xU_no (s) (xu b 0 0 (nI 1)) 1 _ _ (jX_b hI) (by omega) rfl ⟨_, rfl, fun e => absurd e (by decide)⟩ (t_6_7 (c_6a hx (by omega) (by omega)) (by omega) (by omega)) (r_6a hV eV hx (by omega) (by omega))
  · rcases xix p2 eR (by omega) with hx | ⟨r, hr, rfl⟩
    · exact xU_no (s) (xu b 0 0 (nI 1)) 1 _ _ (jX_b hI) (by omega) rfl ⟨_, rfl, fun e => absurd e (by decide)⟩ (t_6_7 (c_6b hV eV hv hx (by omega) (by omega)) (by omega) (by omega)) (r_6b hV eV hv hR eR hx (by omega) (by omega))
    · rcases xix p3 (x := nI 3) rfl (by omega) with hx | ⟨k, hk, rfl⟩
      · exact xU_no (s) (xu b 0 0 (nI 1)) 1 _ _ (jX_b hI) (by omega) rfl ⟨_, rfl, fun e => absurd e (by decide)⟩ (t_6_7 (c_6c hV eV hv hR eR hr hx (by omega) (by omega)) (by omega) (by omega)) (r_6c hV eV hv hR eR hr (xcv hx (by omega)) (by omega) (by omega))
      · cases hb : f_by (s 10) r k
        · exact xU_no (s) (xu b 0 0 (nI 2)) 2 _ _ (jX_b hI) (by omega) rfl ⟨_, rfl, fun e => absurd e (by decide)⟩ (t_6_9 (c_6d hV eV hv hR eR hr hk hb (by omega) (by omega)) (by omega) (by omega)) (r_6d hV eV hv hR eR hr hk hb (by omega) (by omega))
        · exact xU_ok (s) (s) (xu b 0 0 (nI 0)) _ _ (jX_b hI) rfl ⟨_, rfl, fun _ => pk_uLs⟩ (rfl) (h_6 (c_6 hV eV hv hR eR hr hk hb (by omega) (by omega)) (by omega) (by omega)) (r_6 hV eV hv hR eR hr hk hb (by omega) (by omega))
theorem u_7 (hI : jX s b) (p1 : Int32) : xU Qi L xs 138 381 113 378 [(0, .ref 1), (1, .int (p1)), (2, .ref 46)] [(0, .ref 28), (1, .int (p1))] s b f g := by
  obtain ⟨V, R, D, O, P, h⟩ := hI
  have hI : jX s b := ⟨V, R, D, O, P, h⟩
  have hV : V ≤ 30 := h.1.1.1
  have hR : R ≤ 10 := h.1.1.2.1
  have hD : D ≤ 100 := h.1.1.2.2.1
  have hO : O ≤ 60 := h.1.1.2.2.2.1
  have hP : P ≤ 100 := h.1.1.2.2.2.2
  have eV : s 1 7 = nI V := h.1.2.1
  have eR : s 9 2 = nI R := h.1.2.2.1
  have eD : s 12 4 = nI D := h.1.2.2.2.1
  have eO : s 17 5 = nI O := h.1.2.2.2.2.1
  have eP : s 17 6 = nI P := h.1.2.2.2.2.2
  by_cases h0 : p1 < 0
  · exact xU_no (s) (xu b 0 0 (nI 1)) 1 _ _ (jX_b hI) (by omega) rfl ⟨_, rfl, fun e => absurd e (by decide)⟩ (t_7_8 (c_7a h0 (by omega) (by omega)) (by omega) (by omega)) (r_7a h0 (by omega) (by omega))
  obtain ⟨j, hj, rfl⟩ := nI_of h0
  obtain ⟨s1, hs1, hc⟩ := c_7 (s := s) (L := L) (xs := xs) (d := 10 - 1) (w := 381 - 15) (g := xD s b ++ (xo f :: g)) hV eV hR eR hj (by omega) (by omega)
  exact xU_ok s1 s (xu b 0 0 (nI 0)) _ _ ⟨V, R, D, O, P, p_cg h hs1⟩ rfl ⟨_, rfl, fun _ => by rw [pk_uLs, f_hv_eq h.2.2.1.1 h.2.2.1.2.2.2.2 hR hV hj]⟩ (xD_cg hs1) (h_7 hc (by omega) (by omega)) (r_7 hV eV hR eR (fun v r hv hr => ⟨_, f_least_lt v r, (f_key h.2.2.1.1 (h.2.2.1.2.2.2.2 r hr)).1⟩) (nI_pos' hj) (by omega) (by omega))
theorem u_8 (hI : jX s b) (p1 p2 : Int32) (hz2 : p2 = 0 ∨ p2 = 1) : xU Qi L xs 139 380 114 382 [(0, .ref 1), (1, .int (p1)), (2, .int (p2)), (3, .ref 46)] [(0, .ref 28), (1, .int (p1)), (2, .int (p2))] s b f g := by
  obtain ⟨V, R, D, O, P, h⟩ := hI
  have hI : jX s b := ⟨V, R, D, O, P, h⟩
  have hV : V ≤ 30 := h.1.1.1
  have hR : R ≤ 10 := h.1.1.2.1
  have hD : D ≤ 100 := h.1.1.2.2.1
  have hO : O ≤ 60 := h.1.1.2.2.2.1
  have hP : P ≤ 100 := h.1.1.2.2.2.2
  have eV : s 1 7 = nI V := h.1.2.1
  have eR : s 9 2 = nI R := h.1.2.2.1
  have eD : s 12 4 = nI D := h.1.2.2.2.1
  have eO : s 17 5 = nI O := h.1.2.2.2.2.1
  have eP : s 17 6 = nI P := h.1.2.2.2.2.2
  rcases xix p1 eV (by omega) with hx | ⟨v, hv, rfl⟩
  · exact xU_no (s) (xu b 0 0 (nI 1)) 1 _ _ (jX_b hI) (by omega) rfl ⟨_, rfl, fun e => absurd e (by decide)⟩ (t_8_7 (c_8a hx (by omega) (by omega)) (by omega) (by omega)) (r_8a hV eV hx (by omega) (by omega))
  · by_cases hD1 : D < 100
    · exact xU_ok (f_def s D (nI v) p2) (f_dfr s D (nI v) p2) (xu b 0 0 (nI 0)) _ _ (⟨_, _, _, _, _, p_8 h hD1 hz2⟩) rfl ⟨_, rfl, fun _ => pk_uLs⟩ (rfl) (h_8 (c_8 hV eV hv hz2 hD1 eD (by omega) (by omega)) (by omega) (by omega)) (r_8 hV eV hv hz2 hD1 eD (by omega) (by omega))
    · have hD2 : D = 100 := by omega
      subst hD2
      exact xU_no (s) (xu b 0 0 (nI 2)) 2 _ _ (jX_b hI) (by omega) rfl ⟨_, rfl, fun e => absurd e (by decide)⟩ (t_8_10 (c_8b hV eV hv (by rw [eD]; exact nI_le (by omega) (by omega)) (by omega) (by omega)) (by omega) (by omega)) (r_8b hV eV hv eD (by omega) (by omega))
theorem u_9 (hI : jX s b) (p1 p2 p3 p4 : Int32) : xU Qz L xs 140 378 115 378 [(0, .ref 1), (1, .int (p1)), (2, .int (p2)), (3, .int (p3)), (4, .int (p4)), (5, .ref 46)] [(0, .ref 28), (1, .int (p1)), (2, .int (p2)), (3, .int (p3)), (4, .int (p4))] s b f g := by
  obtain ⟨V, R, D, O, P, h⟩ := hI
  have hI : jX s b := ⟨V, R, D, O, P, h⟩
  have hV : V ≤ 30 := h.1.1.1
  have hR : R ≤ 10 := h.1.1.2.1
  have hD : D ≤ 100 := h.1.1.2.2.1
  have hO : O ≤ 60 := h.1.1.2.2.2.1
  have hP : P ≤ 100 := h.1.1.2.2.2.2
  have eV : s 1 7 = nI V := h.1.2.1
  have eR : s 9 2 = nI R := h.1.2.2.1
  have eD : s 12 4 = nI D := h.1.2.2.2.1
  have eO : s 17 5 = nI O := h.1.2.2.2.2.1
  have eP : s 17 6 = nI P := h.1.2.2.2.2.2
  rcases xix p1 eV (by omega) with hx | ⟨v, hv, rfl⟩
  · exact xU_no (s) (xu b 0 0 (nI 1)) 1 _ _ (jX_b hI) (by omega) rfl ⟨_, rfl, Or.inl rfl, fun e => absurd e (by decide)⟩ (t_9_7 (c_9a hx (by omega) (by omega)) (by omega) (by omega)) (r_9a hV eV hx (by omega) (by omega))
  · by_cases h0 : p4 < p3
    · exact xU_no (s) (xu b 0 0 (nI 2)) 2 _ _ (jX_b hI) (by omega) rfl ⟨_, rfl, Or.inl rfl, fun e => absurd e (by decide)⟩ (t_9_8 (c_9b hV eV hv h0 (by omega) (by omega)) (by omega) (by omega)) (r_9b hV eV hv h0 (by omega) (by omega))
    · by_cases h1 : p2 < p3
      · exact xU_ok (s) (s) (xu b 0 0 (nI 0)) _ _ (jX_b hI) rfl ⟨_, rfl, Or.inl rfl, fun _ => by rw [pk_uLs]; decide +kernel⟩ (rfl) (h_9_0 (c_9n hV eV hv (xi_le h0) h1 (by omega) (by omega)) (by omega) (by omega)) (r_9n hV eV hv hD eD (xi_le h0) (Or.inl h1) (by omega) (by omega))
      · by_cases h2 : p4 < p2
        · exact xU_ok (s) (s) (xu b 0 0 (nI 0)) _ _ (jX_b hI) rfl ⟨_, rfl, Or.inl rfl, fun _ => by rw [pk_uLs]; decide +kernel⟩ (rfl) (h_9_0 (c_9m hV eV hv (xi_le h0) (xi_le h1) h2 (by omega) (by omega)) (by omega) (by omega)) (r_9n hV eV hv hD eD (xi_le h0) (Or.inr h2) (by omega) (by omega))
        · exact xU_ok (xw s 15 (xfo (f_clr (s 13) (nI v)) (s 15) D)) (xw s 15 (xfo (f_clr (s 13) (nI v)) (s 15) D)) (xu b 0 0 (nI 0)) _ _ (⟨V, R, D, O, P, p_9 h⟩) rfl ⟨_, rfl, Or.inr rfl, fun _ => by rw [pk_uLs]; decide +kernel⟩ (rfl) (h_9_1 (c_9 hV eV hv hD eD (xi_le h0) (xi_le h1) (xi_le h2) (by omega) (by omega)) (by omega) (by omega)) (r_9 hV eV hv hD eD (xi_le h0) (xi_le h1) (xi_le h2) (by omega) (by omega))
theorem u_10 (hI : jX s b) (p1 p2 p3 : Int32) : xU Qv L xs 141 380 116 381 [(0, .ref 1), (1, .int (p1)), (2, .int (p2)), (3, .int (p3))] [(0, .ref 28), (1, .int (p1)), (2, .int (p2)), (3, .int (p3))] s b f g := by
  obtain ⟨V, R, D, O, P, h⟩ := hI
  have hI : jX s b := ⟨V, R, D, O, P, h⟩
  have hV : V ≤ 30 := h.1.1.1
  have hR : R ≤ 10 := h.1.1.2.1
  have hD : D ≤ 100 := h.1.1.2.2.1
  have hO : O ≤ 60 := h.1.1.2.2.2.1
  have hP : P ≤ 100 := h.1.1.2.2.2.2
  have eV : s 1 7 = nI V := h.1.2.1
  have eR : s 9 2 = nI R := h.1.2.2.1
  have eD : s 12 4 = nI D := h.1.2.2.2.1
  have eO : s 17 5 = nI O := h.1.2.2.2.2.1
  have eP : s 17 6 = nI P := h.1.2.2.2.2.2
  rcases xix p1 eV (by omega) with hx | ⟨v, hv, rfl⟩
  · exact xU_no (s) (xu b 0 0 (nI 1)) 1 _ _ (jX_b hI) (by omega) rfl rfl (t_10_7 (c_10a hx (by omega) (by omega)) (by omega) (by omega)) (r_10a hV eV hx (by omega) (by omega))
  · rcases xix p2 (x := nI 5) rfl (by omega) with hx | ⟨k, hk, rfl⟩
    · exact xU_no (s) (xu b 0 0 (nI 1)) 1 _ _ (jX_b hI) (by omega) rfl rfl (t_10_7 (c_10b hV eV hv hx (by omega) (by omega)) (by omega) (by omega)) (r_10b hV eV hv (xcv hx (by omega)) (by omega) (by omega))
    · rcases xrg (xa_con 1 1) (nI 99999) p3 with hx | ⟨h0, h1⟩
      · exact xU_no (s) (xu b 0 0 (nI 2)) 2 _ _ (jX_b hI) (by omega) rfl rfl (t_10_8 (c_10c hV eV hv hk hx (by omega) (by omega)) (by omega) (by omega)) (r_10c hV eV hv hk hx (by omega) (by omega))
      · exact xU_ok (xu s 7 (5 * v + k) p3) (xu s 7 (5 * v + k) p3) (xu b 0 0 (nI 0)) _ _ (⟨V, R, D, O, P, h⟩) rfl rfl (rfl) (h_10 (c_10 hV eV hv hk h0 h1 (by omega) (by omega)) (by omega) (by omega)) (r_10 hV eV hv hk h0 h1 (by omega) (by omega))
theorem u_11 (hI : jX s b) (p1 : Int32) : xU Qi L xs 142 381 118 381 [(0, .ref 1), (1, .int (p1)), (2, .ref 46)] [(0, .ref 28), (1, .int (p1))] s b f g := by
  obtain ⟨V, R, D, O, P, h⟩ := hI
  have hI : jX s b := ⟨V, R, D, O, P, h⟩
  have hV : V ≤ 30 := h.1.1.1
  have hR : R ≤ 10 := h.1.1.2.1
  have hD : D ≤ 100 := h.1.1.2.2.1
  have hO : O ≤ 60 := h.1.1.2.2.2.1
  have hP : P ≤ 100 := h.1.1.2.2.2.2
  have eV : s 1 7 = nI V := h.1.2.1
  have eR : s 9 2 = nI R := h.1.2.2.1
  have eD : s 12 4 = nI D := h.1.2.2.2.1
  have eO : s 17 5 = nI O := h.1.2.2.2.2.1
  have eP : s 17 6 = nI P := h.1.2.2.2.2.2
  rcases xix p1 eV (by omega) with hx | ⟨v, hv, rfl⟩
  · exact xU_no (s) (xu b 0 0 (nI 1)) 1 _ _ (jX_b hI) (by omega) rfl ⟨_, rfl, fun e => absurd e (by decide)⟩ (t_11_7 (c_11a hx (by omega) (by omega)) (by omega) (by omega)) (r_11a hV eV hx (by omega) (by omega))
  · have e := q_11 h (nI v)
    rcases ho : f_rol (f_ro (s 18) (b 1) (nI v)) O 0 none with _ | j
    · rw [ho] at e
      have e : xfst (f_opn (s 19) (s 18) (nI v)) O 0 = xa_con 1 1 := e.symm
      by_cases hO1 : O < 60
      · exact xU_ok (f_ord s O (nI v)) (f_orr s O (nI v)) (xu b 0 0 (nI 0)) _ _ (⟨_, _, _, _, _, p_11 h hO1 hv (q_no h ho)⟩) rfl ⟨_, rfl, fun _ => pk_uLs⟩ (rfl) (h_11 (c_11n hV eV hv hO1 eO e (by omega) (by omega)) (by omega) (by omega)) (r_11n hV eV hv hO1 eO ho (by omega) (by omega))
      · have hO2 : O = 60 := by omega
        subst hO2
        exact xU_no (s) (xu b 0 0 (nI 2)) 2 _ _ (jX_b hI) (by omega) rfl ⟨_, rfl, fun e => absurd e (by decide)⟩ (t_11_10 (c_11b hV eV hv hO eO e (by rw [eO]; exact nI_le (by omega) (by omega)) (by omega) (by omega)) (by omega) (by omega)) (r_11b hV eV hv hO eO ho eO (by omega) (by omega))
    · have hj : j < 60 := by
        have := f_rol_lt O 0 none (fun i hi => by cases hi) j ho
        omega
      rw [ho] at e
      have e : nI j = xfst (f_opn (s 19) (s 18) (nI v)) O 0 := e
      exact xU_ok (s) (s) (xu b 0 0 (nI 0)) _ _ (jX_b hI) rfl ⟨_, rfl, fun _ => by rw [pk_uLs, ← e]⟩ (rfl) (h_11 (c_11 hV eV hv hO eO (fun e2 => xcn (o := j) (by omega) (by rw [e, e2])) (by omega) (by omega)) (by omega) (by omega)) (r_11 hV eV hv hO eO hj ho (by omega) (by omega))
theorem u_12 (hI : jX s b) (p1 p2 p3 : Int32) (hz2 : p2 = 0 ∨ p2 = 1) : xU Qi L xs 143 379 120 379 [(0, .ref 1), (1, .int (p1)), (2, .int (p2)), (3, .int (p3)), (4, .ref 46)] [(0, .ref 28), (1, .int (p1)), (2, .int (p2)), (3, .int (p3))] s b f g := by
  obtain ⟨V, R, D, O, P, h⟩ := hI
  have hI : jX s b := ⟨V, R, D, O, P, h⟩
  have hV : V ≤ 30 := h.1.1.1
  have hR : R ≤ 10 := h.1.1.2.1
  have hD : D ≤ 100 := h.1.1.2.2.1
  have hO : O ≤ 60 := h.1.1.2.2.2.1
  have hP : P ≤ 100 := h.1.1.2.2.2.2
  have eV : s 1 7 = nI V := h.1.2.1
  have eR : s 9 2 = nI R := h.1.2.2.1
  have eD : s 12 4 = nI D := h.1.2.2.2.1
  have eO : s 17 5 = nI O := h.1.2.2.2.2.1
  have eP : s 17 6 = nI P := h.1.2.2.2.2.2
  rcases xix p1 eO (by omega) with hx | ⟨j, hj, rfl⟩
  · exact xU_no (s) (xu b 0 0 (nI 1)) 1 _ _ (jX_b hI) (by omega) rfl ⟨_, rfl, fun e => absurd e (by decide)⟩ (t_12_7 (c_12a hx (by omega) (by omega)) (by omega) (by omega)) (r_12a hO eO hx (by omega) (by omega))
  · rcases hz2 with rfl | rfl
    · rcases xix p3 eD (by omega) with hx | ⟨k, hk, rfl⟩
      · exact xU_no (s) (xu b 0 0 (nI 1)) 1 _ _ (jX_b hI) (by omega) rfl ⟨_, rfl, fun e => absurd e (by decide)⟩ (t_12_7 (c_12db hO eO hj h.2.1.2.2.1 h.2.1.2.2.2.1 hx (by omega) (by omega)) (by omega) (by omega)) (r_12db hO eO hj hD eD hx (by omega) (by omega))
      · rcases h.2.2.2.1.1 j hj with ⟨h1, h2⟩ | ⟨h1, h2⟩
        · by_cases e1 : s 13 k = s 18 j
          · by_cases e2 : s 15 k = 0
            · rcases q_in h hj hk with ⟨e3, e4⟩ | ⟨e3, e4⟩
              · exact xU_no (s) (xu b 0 0 (nI 2)) 2 _ _ (jX_b hI) (by omega) rfl ⟨_, rfl, fun e => absurd e (by decide)⟩ (t_12_9 (c_12df hO eO hj h.2.1.2.2.1 h.2.1.2.2.2.1 hD eD hk h1 e1 e2 e3 (by omega) (by omega)) (by omega) (by omega)) (r_12df hO eO hj hD eD hk h2 e1 e2 e4 (by omega) (by omega))
              · exact xU_ok (f_wd s j k) (s) (xu (xu b 0 0 (nI 0)) 2 (100 * j + k) 1) _ _ (⟨V, R, D, O, P, p_12d h hj hk h1 e1 e2 e3 e4⟩) rfl ⟨_, rfl, fun _ => by rw [pk_uLs, ← q_12d h hj (k := k) (by omega) e4]; rfl⟩ (rfl) (h_12 (c_12d hO eO hj h.2.1.2.2.1 h.2.1.2.2.2.1 hD eD hk h1 e1 e2 e3 (by omega) (by omega)) (by omega) (by omega)) (r_12d hO eO hj hD eD hk h2 e1 e2 e4 (by omega) (by omega))
            · exact xU_no (s) (xu b 0 0 (nI 2)) 2 _ _ (jX_b hI) (by omega) rfl ⟨_, rfl, fun e => absurd e (by decide)⟩ (t_12_9 (c_12de hO eO hj h.2.1.2.2.1 h.2.1.2.2.2.1 hD eD hk h1 e1 e2 (by omega) (by omega)) (by omega) (by omega)) (r_12de hO eO hj hD eD hk h2 e1 e2 (by omega) (by omega))
          · exact xU_no (s) (xu b 0 0 (nI 2)) 2 _ _ (jX_b hI) (by omega) rfl ⟨_, rfl, fun e => absurd e (by decide)⟩ (t_12_9 (c_12dd hO eO hj h.2.1.2.2.1 h.2.1.2.2.2.1 hD eD hk h1 e1 (by omega) (by omega)) (by omega) (by omega)) (r_12dd hO eO hj hD eD hk h2 e1 (by omega) (by omega))
        · exact xU_no (s) (xu b 0 0 (nI 2)) 2 _ _ (jX_b hI) (by omega) rfl ⟨_, rfl, fun e => absurd e (by decide)⟩ (t_12_9 (c_12dc hO eO hj h.2.1.2.2.1 h.2.1.2.2.2.1 hD eD hk h1 (by omega) (by omega)) (by omega) (by omega)) (r_12dc hO eO hj hD eD hk h2 (by omega) (by omega))
    · rcases xix p3 eR (by omega) with hx | ⟨r, hr, rfl⟩
      · exact xU_no (s) (xu b 0 0 (nI 1)) 1 _ _ (jX_b hI) (by omega) rfl ⟨_, rfl, fun e => absurd e (by decide)⟩ (t_12_7 (c_12rb hO eO hj h.2.1.2.2.1 h.2.1.2.2.2.1 hx (by omega) (by omega)) (by omega) (by omega)) (r_12rb hO eO hj hR eR hx (by omega) (by omega))
      · rcases h.2.2.2.1.1 j hj with ⟨h1, h2⟩ | ⟨h1, h2⟩
        · rcases h.2.1.2.2.2.1 (10 * j + r) with e1 | e1
          · exact xU_ok (f_wr s j r) (xu s 20 (10 * j + r) 1) (xu b 0 0 (nI 0)) _ _ (⟨V, R, D, O, P, p_12r h hj (by omega) e1⟩) rfl ⟨_, rfl, fun _ => by rw [pk_uLs, ← q_12r h hj (r := r) (by omega) e1]; rfl⟩ (rfl) (h_12 (c_12r hO eO hj h.2.1.2.2.1 h.2.1.2.2.2.1 hR eR hr h1 e1 (by omega) (by omega)) (by omega) (by omega)) (r_12r hO eO hj hR eR hr h2 e1 (by omega) (by omega))
          · exact xU_no (s) (xu b 0 0 (nI 2)) 2 _ _ (jX_b hI) (by omega) rfl ⟨_, rfl, fun e => absurd e (by decide)⟩ (t_12_9 (c_12rd hO eO hj h.2.1.2.2.1 h.2.1.2.2.2.1 hR eR hr h1 e1 (by omega) (by omega)) (by omega) (by omega)) (r_12rd hO eO hj hR eR hr h2 e1 (by omega) (by omega))
        · exact xU_no (s) (xu b 0 0 (nI 2)) 2 _ _ (jX_b hI) (by omega) rfl ⟨_, rfl, fun e => absurd e (by decide)⟩ (t_12_9 (c_12rc hO eO hj h.2.1.2.2.1 h.2.1.2.2.2.1 hR eR hr h1 (by omega) (by omega)) (by omega) (by omega)) (r_12rc hO eO hj hR eR hr h2 (by omega) (by omega))
theorem u_13 (hI : jX s b) (p1 p2 p3 p4 : Int32) : xU Qi L xs 144 378 121 376 [(0, .ref 1), (1, .int (p1)), (2, .int (p2)), (3, .int (p3)), (4, .int (p4)), (5, .ref 46)] [(0, .ref 28), (1, .int (p1)), (2, .int (p2)), (3, .int (p3)), (4, .int (p4))] s b f g := by
  obtain ⟨V, R, D, O, P, h⟩ := hI
  have hI : jX s b := ⟨V, R, D, O, P, h⟩
  have hV : V ≤ 30 := h.1.1.1
  have hR : R ≤ 10 := h.1.1.2.1
  have hD : D ≤ 100 := h.1.1.2.2.1
  have hO : O ≤ 60 := h.1.1.2.2.2.1
  have hP : P ≤ 100 := h.1.1.2.2.2.2
  have eV : s 1 7 = nI V := h.1.2.1
  have eR : s 9 2 = nI R := h.1.2.2.1
  have eD : s 12 4 = nI D := h.1.2.2.2.1
  have eO : s 17 5 = nI O := h.1.2.2.2.2.1
  have eP : s 17 6 = nI P := h.1.2.2.2.2.2
  rcases xix p1 eO (by omega) with hx | ⟨j, hj, rfl⟩
  · exact xU_no (s) (xu b 0 0 (nI 1)) 1 _ _ (jX_b hI) (by omega) rfl ⟨_, rfl, fun e => absurd e (by decide)⟩ (t_13_7 (c_13a hx (by omega) (by omega)) (by omega) (by omega)) (r_13a hO eO hx (by omega) (by omega))
  · rcases xix p2 (x := nI 100) rfl (by omega) with hx | ⟨p, hp, rfl⟩
    · exact xU_no (s) (xu b 0 0 (nI 1)) 1 _ _ (jX_b hI) (by omega) rfl ⟨_, rfl, fun e => absurd e (by decide)⟩ (t_13_7 (c_13b hO eO hj h.2.1.2.2.1 h.2.1.2.2.2.1 hx (by omega) (by omega)) (by omega) (by omega)) (r_13b hO eO hj (xcv hx (by omega)) (by omega) (by omega))
    · rcases xrg (nI 1) (nI 100) p3 with hx | ⟨h2, h3⟩
      · exact xU_no (s) (xu b 0 0 (nI 2)) 2 _ _ (jX_b hI) (by omega) rfl ⟨_, rfl, fun e => absurd e (by decide)⟩ (t_13_8 (c_13c hO eO hj h.2.1.2.2.1 h.2.1.2.2.2.1 hp hx (by omega) (by omega)) (by omega) (by omega)) (r_13c hO eO hj hp hx (by omega) (by omega))
      · rcases xrg (nI 0) (nI 1000000) p4 with hx | ⟨h4, h5⟩
        · exact xU_no (s) (xu b 0 0 (nI 2)) 2 _ _ (jX_b hI) (by omega) rfl ⟨_, rfl, fun e => absurd e (by decide)⟩ (t_13_8 (c_13d hO eO hj h.2.1.2.2.1 h.2.1.2.2.2.1 hp h2 h3 hx (by omega) (by omega)) (by omega) (by omega)) (r_13d hO eO hj hp h2 h3 hx (by omega) (by omega))
        · obtain ⟨v, hv, hOv⟩ := h.2.2.2.1.2.2.1 j hj
          have hu : v < 30 := by omega
          obtain ⟨m, hm1, em⟩ := h.2.2.1.2.2.2.1
          rcases h.2.2.2.1.1 j hj with ⟨h1, g1⟩ | ⟨h1, g1⟩
          · by_cases hw1 : s 0 5 < s 8 (100 * v + p)
            · by_cases hm : s 0 6 < nI 0
              · exact xU_no (s) (xu b 0 0 (nI 3)) 3 _ _ (jX_b hI) (by omega) rfl ⟨_, rfl, fun e => absurd e (by decide)⟩ (t_13_9 (c_13fw hO eO hj h.2.1.2.2.1 h.2.1.2.2.2.1 hp h2 h3 h4 h5 h1 hu hOv hw1 hm (by omega) (by omega)) (by omega) (by omega)) (r_13fw hO eO hj hp h2 h3 h4 h5 g1 hu hOv hw1 hm (by omega) (by omega))
              · by_cases hP1 : P < 100
                · exact xU_ok (f_prt s j (nI 0)) (f_prt s j (nI 0)) (xu b 0 0 (nI 0)) _ _ (⟨_, _, _, _, _, p_13 h hP1 (by rw [em, pk_sub (by omega)]; exact ⟨_, by omega, rfl⟩)⟩) rfl ⟨_, rfl, fun _ => pk_uLs⟩ (rfl) (h_13 (c_13w hO eO hj h.2.1.2.2.1 h.2.1.2.2.2.1 hp h2 h3 h4 h5 h1 hu hOv hw1 (xi_le hm) (by rw [eP]; exact nI_lt hP1 (by omega)) (by omega) (by omega)) (by omega) (by omega)) (r_13w hO eO hj hp h2 h3 h4 h5 g1 hu hOv hw1 (xi_le hm) (by rw [eP, nI_eq (by omega) (by omega)]; omega) (by omega) (by omega))
                · have hP2 : P = 100 := by omega
                  subst hP2
                  exact xU_no (s) (xu b 0 0 (nI 4)) 4 _ _ (jX_b hI) (by omega) rfl ⟨_, rfl, fun e => absurd e (by decide)⟩ (t_13_10 (c_13gw hO eO hj h.2.1.2.2.1 h.2.1.2.2.2.1 hp h2 h3 h4 h5 h1 hu hOv hw1 (xi_le hm) (by rw [eP]; exact nI_le (by omega) (by omega)) (by omega) (by omega)) (by omega) (by omega)) (r_13gw hO eO hj hp h2 h3 h4 h5 g1 hu hOv hw1 (xi_le hm) eP (by omega) (by omega))
            · by_cases hm : s 0 6 < p3 * p4
              · exact xU_no (s) (xu b 0 0 (nI 3)) 3 _ _ (jX_b hI) (by omega) rfl ⟨_, rfl, fun e => absurd e (by decide)⟩ (t_13_9 (c_13fn hO eO hj h.2.1.2.2.1 h.2.1.2.2.2.1 hp h2 h3 h4 h5 h1 hu hOv (xi_le hw1) hm (by omega) (by omega)) (by omega) (by omega)) (r_13fn hO eO hj hp h2 h3 h4 h5 g1 hu hOv (xi_le hw1) hm (by omega) (by omega))
              · by_cases hP1 : P < 100
                · exact xU_ok (f_prt s j (p3 * p4)) (f_prt s j (p3 * p4)) (xu b 0 0 (nI 0)) _ _ (⟨_, _, _, _, _, p_13 h hP1 (q_13 h.2.2.1.2.2.2.1 h2 h3 h4 h5 (xi_le hm))⟩) rfl ⟨_, rfl, fun _ => pk_uLs⟩ (rfl) (h_13 (c_13n hO eO hj h.2.1.2.2.1 h.2.1.2.2.2.1 hp h2 h3 h4 h5 h1 hu hOv (xi_le hw1) (xi_le hm) (by rw [eP]; exact nI_lt hP1 (by omega)) (by omega) (by omega)) (by omega) (by omega)) (r_13n hO eO hj hp h2 h3 h4 h5 g1 hu hOv (xi_le hw1) (xi_le hm) (by rw [eP, nI_eq (by omega) (by omega)]; omega) (by omega) (by omega))
                · have hP2 : P = 100 := by omega
                  subst hP2
                  exact xU_no (s) (xu b 0 0 (nI 4)) 4 _ _ (jX_b hI) (by omega) rfl ⟨_, rfl, fun e => absurd e (by decide)⟩ (t_13_10 (c_13gn hO eO hj h.2.1.2.2.1 h.2.1.2.2.2.1 hp h2 h3 h4 h5 h1 hu hOv (xi_le hw1) (xi_le hm) (by rw [eP]; exact nI_le (by omega) (by omega)) (by omega) (by omega)) (by omega) (by omega)) (r_13gn hO eO hj hp h2 h3 h4 h5 g1 hu hOv (xi_le hw1) (xi_le hm) eP (by omega) (by omega))
          · by_cases hw1 : s 0 5 < s 8 (100 * v + p)
            · exact xU_no (s) (xu b 0 0 (nI 3)) 3 _ _ (jX_b hI) (by omega) rfl ⟨_, rfl, fun e => absurd e (by decide)⟩ (t_13_9 (c_13e hO eO hj h.2.1.2.2.1 h.2.1.2.2.2.1 hp h2 h3 h4 h5 h1 (by omega) (by omega)) (by omega) (by omega)) (r_13ew hO eO hj hp h2 h3 h4 h5 g1 hu hOv hw1 (by omega) (by omega))
            · exact xU_no (s) (xu b 0 0 (nI 3)) 3 _ _ (jX_b hI) (by omega) rfl ⟨_, rfl, fun e => absurd e (by decide)⟩ (t_13_9 (c_13e hO eO hj h.2.1.2.2.1 h.2.1.2.2.2.1 hp h2 h3 h4 h5 h1 (by omega) (by omega)) (by omega) (by omega)) (r_13en hO eO hj hp h2 h3 h4 h5 g1 hu hOv (xi_le hw1) (by omega) (by omega))
theorem u_14 (hI : jX s b) (p1 p2 p3 : Int32) : xU Qv L xs 145 380 122 381 [(0, .ref 1), (1, .int (p1)), (2, .int (p2)), (3, .int (p3))] [(0, .ref 28), (1, .int (p1)), (2, .int (p2)), (3, .int (p3))] s b f g := by
  obtain ⟨V, R, D, O, P, h⟩ := hI
  have hI : jX s b := ⟨V, R, D, O, P, h⟩
  have hV : V ≤ 30 := h.1.1.1
  have hR : R ≤ 10 := h.1.1.2.1
  have hD : D ≤ 100 := h.1.1.2.2.1
  have hO : O ≤ 60 := h.1.1.2.2.2.1
  have hP : P ≤ 100 := h.1.1.2.2.2.2
  have eV : s 1 7 = nI V := h.1.2.1
  have eR : s 9 2 = nI R := h.1.2.2.1
  have eD : s 12 4 = nI D := h.1.2.2.2.1
  have eO : s 17 5 = nI O := h.1.2.2.2.2.1
  have eP : s 17 6 = nI P := h.1.2.2.2.2.2
  rcases xix p1 eV (by omega) with hx | ⟨v, hv, rfl⟩
  · exact xU_no (s) (xu b 0 0 (nI 1)) 1 _ _ (jX_b hI) (by omega) rfl rfl (t_14_7 (c_14a hx (by omega) (by omega)) (by omega) (by omega)) (r_14a hV eV hx (by omega) (by omega))
  · rcases xix p2 (x := nI 100) rfl (by omega) with hx | ⟨k, hk, rfl⟩
    · exact xU_no (s) (xu b 0 0 (nI 1)) 1 _ _ (jX_b hI) (by omega) rfl rfl (t_14_7 (c_14b hV eV hv hx (by omega) (by omega)) (by omega) (by omega)) (r_14b hV eV hv (xcv hx (by omega)) (by omega) (by omega))
    · rcases xrg (nI 0) (nI 99999) p3 with hx | ⟨h0, h1⟩
      · exact xU_no (s) (xu b 0 0 (nI 2)) 2 _ _ (jX_b hI) (by omega) rfl rfl (t_14_8 (c_14c hV eV hv hk hx (by omega) (by omega)) (by omega) (by omega)) (r_14c hV eV hv hk hx (by omega) (by omega))
      · exact xU_ok (xu s 8 (100 * v + k) p3) (xu s 8 (100 * v + k) p3) (xu b 0 0 (nI 0)) _ _ (⟨V, R, D, O, P, h⟩) rfl rfl (rfl) (h_14 (c_14 hV eV hv hk h0 h1 (by omega) (by omega)) (by omega) (by omega)) (r_14 hV eV hv hk h0 h1 (by omega) (by omega))
theorem u_15 (hI : jX s b) (p1 : Int32) : xU Qi L xs 146 381 123 382 [(0, .ref 1), (1, .int (p1)), (2, .ref 46)] [(0, .ref 28), (1, .int (p1))] s b f g := by
  obtain ⟨V, R, D, O, P, h⟩ := hI
  have hI : jX s b := ⟨V, R, D, O, P, h⟩
  have hV : V ≤ 30 := h.1.1.1
  have hR : R ≤ 10 := h.1.1.2.1
  have hD : D ≤ 100 := h.1.1.2.2.1
  have hO : O ≤ 60 := h.1.1.2.2.2.1
  have hP : P ≤ 100 := h.1.1.2.2.2.2
  have eV : s 1 7 = nI V := h.1.2.1
  have eR : s 9 2 = nI R := h.1.2.2.1
  have eD : s 12 4 = nI D := h.1.2.2.2.1
  have eO : s 17 5 = nI O := h.1.2.2.2.2.1
  have eP : s 17 6 = nI P := h.1.2.2.2.2.2
  obtain ⟨m, hm, em⟩ := h.2.2.1.2.2.2.1
  rcases xrg (nI 0) (nI 100000000) p1 with hx | ⟨h0, h1⟩
  · exact xU_no (s) (xu b 0 0 (nI 1)) 1 _ _ (jX_b hI) (by omega) rfl ⟨_, rfl, fun e => absurd e (by decide)⟩ (t_15_8 (c_15a hx (by omega) (by omega)) (by omega) (by omega)) (r_15a hx (by omega) (by omega))
  · obtain ⟨n, hn, rfl⟩ := xr_of (by omega) h0 h1
    have ea : s 0 6 + nI n = nI (m + n) := by rw [em, nI_add]
    have es : nI 1000000000 - s 0 6 = nI (1000000000 - m) := by rw [em, pk_sub hm]
    by_cases hb : m + n ≤ 1000000000
    · exact xU_ok (xu s 0 6 (s 0 6 + nI n)) (xu s 0 6 (s 0 6 + nI n)) (xu b 0 0 (nI 0)) _ _ (⟨V, R, D, O, P, p_15 h (by rw [ea]; exact ⟨_, hb, rfl⟩)⟩) rfl ⟨_, rfl, fun _ => pk_uLs⟩ (rfl) (h_15 (c_15 h0 h1 (by rw [es]; exact nI_le (by omega) (by omega)) (by omega) (by omega)) (by omega) (by omega)) (r_15 h0 h1 (by rw [ea]; exact nI_le (by omega) (by omega)) (by omega) (by omega))
    · exact xU_no (s) (xu b 0 0 (nI 2)) 2 _ _ (jX_b hI) (by omega) rfl ⟨_, rfl, fun e => absurd e (by decide)⟩ (t_15_10 (c_15b h0 h1 (by rw [es]; exact nI_lt (by omega) (by omega)) (by omega) (by omega)) (by omega) (by omega)) (r_15b h0 h1 (by rw [ea]; exact nI_lt (by omega) (by omega)) (by omega) (by omega))
theorem u_16 (hI : jX s b) (p1 : Int32) : xU Qi L xs 147 381 124 379 [(0, .ref 1), (1, .int (p1)), (2, .ref 46)] [(0, .ref 28), (1, .int (p1))] s b f g := by
  obtain ⟨V, R, D, O, P, h⟩ := hI
  have hI : jX s b := ⟨V, R, D, O, P, h⟩
  have hV : V ≤ 30 := h.1.1.1
  have hR : R ≤ 10 := h.1.1.2.1
  have hD : D ≤ 100 := h.1.1.2.2.1
  have hO : O ≤ 60 := h.1.1.2.2.2.1
  have hP : P ≤ 100 := h.1.1.2.2.2.2
  have eV : s 1 7 = nI V := h.1.2.1
  have eR : s 9 2 = nI R := h.1.2.2.1
  have eD : s 12 4 = nI D := h.1.2.2.2.1
  have eO : s 17 5 = nI O := h.1.2.2.2.2.1
  have eP : s 17 6 = nI P := h.1.2.2.2.2.2
  rcases xix p1 eO (by omega) with hx | ⟨j, hj, rfl⟩
  · exact xU_no (s) (xu b 0 0 (nI 1)) 1 _ _ (jX_b hI) (by omega) rfl ⟨_, rfl, fun e => absurd e (by decide)⟩ (t_16_7 (c_16a hx (by omega) (by omega)) (by omega) (by omega)) (r_16a hO eO hx (by omega) (by omega))
  · obtain ⟨v, hv, hOv⟩ := h.2.2.2.1.2.2.1 j hj
    have hu : v < 30 := by omega
    rcases h.2.2.2.1.1 j hj with ⟨h1, g1⟩ | ⟨h1, g1⟩
    · exact xU_ok (f_don s R D v j) (f_dnr s (b 2) R D v j) (xu (xu b 0 0 (nI 0)) 1 j 1) _ _ (⟨V, R, D, O, P, p_16 h hj⟩) rfl ⟨_, rfl, fun _ => pk_uLs⟩ (q_16 h hj) (h_16 (c_16 hO eO hj h.2.1.2.2.1 h.2.1.2.2.2.1 hR eR hD eD h1 hu hOv (by omega) (by omega)) (by omega) (by omega)) (r_16 hO eO hj hR eR hD eD g1 hu hOv (by omega) (by omega))
    · exact xU_no (s) (xu b 0 0 (nI 2)) 2 _ _ (jX_b hI) (by omega) rfl ⟨_, rfl, fun e => absurd e (by decide)⟩ (t_16_9 (c_16b hO eO hj h.2.1.2.2.1 h.2.1.2.2.2.1 h1 (by omega) (by omega)) (by omega) (by omega)) (r_16b hO eO hj g1 (by omega) (by omega))
theorem u_17 (hI : jX s b) (p1 : Int32) : xU Qi L xs 148 381 126 383 [(0, .ref 1), (1, .int (p1)), (2, .ref 46)] [(0, .ref 28), (1, .int (p1))] s b f g := by
  obtain ⟨V, R, D, O, P, h⟩ := hI
  have hI : jX s b := ⟨V, R, D, O, P, h⟩
  have hV : V ≤ 30 := h.1.1.1
  have hR : R ≤ 10 := h.1.1.2.1
  have hD : D ≤ 100 := h.1.1.2.2.1
  have hO : O ≤ 60 := h.1.1.2.2.2.1
  have hP : P ≤ 100 := h.1.1.2.2.2.2
  have eV : s 1 7 = nI V := h.1.2.1
  have eR : s 9 2 = nI R := h.1.2.2.1
  have eD : s 12 4 = nI D := h.1.2.2.2.1
  have eO : s 17 5 = nI O := h.1.2.2.2.2.1
  have eP : s 17 6 = nI P := h.1.2.2.2.2.2
  rcases xix p1 eV (by omega) with hx | ⟨v, hv, rfl⟩
  · exact xU_no (s) (xu b 0 0 (nI 1)) 1 _ _ (jX_b hI) (by omega) rfl ⟨_, rfl, fun e => absurd e (by decide)⟩ (t_17_7 (c_17a hx (by omega) (by omega)) (by omega) (by omega)) (r_17a hV eV hx (by omega) (by omega))
  · exact xU_ok (s) (s) (xu b 0 0 (nI 0)) _ _ (jX_b hI) rfl ⟨_, rfl, fun _ => by rw [pk_uLs, q_17 h (b := xu b 0 0 (nI 0)) rfl]⟩ (rfl) (h_17 (c_17 hV eV hv hR eR hD eD hO eO (by omega) (by omega)) (by omega) (by omega)) (r_17 hV eV hv hR eR hD eD hO eO (by omega) (by omega))
theorem u_18 (hI : jX s b) (p1 : Int32) : xU Qi L xs 149 381 127 378 [(0, .ref 1), (1, .int (p1)), (2, .ref 46)] [(0, .ref 28), (1, .int (p1))] s b f g := by
  obtain ⟨V, R, D, O, P, h⟩ := hI
  have hI : jX s b := ⟨V, R, D, O, P, h⟩
  have hV : V ≤ 30 := h.1.1.1
  have hR : R ≤ 10 := h.1.1.2.1
  have hD : D ≤ 100 := h.1.1.2.2.1
  have hO : O ≤ 60 := h.1.1.2.2.2.1
  have hP : P ≤ 100 := h.1.1.2.2.2.2
  have eV : s 1 7 = nI V := h.1.2.1
  have eR : s 9 2 = nI R := h.1.2.2.1
  have eD : s 12 4 = nI D := h.1.2.2.2.1
  have eO : s 17 5 = nI O := h.1.2.2.2.2.1
  have eP : s 17 6 = nI P := h.1.2.2.2.2.2
  rcases xix p1 eV (by omega) with hx | ⟨v, hv, rfl⟩
  · exact xU_no (s) (xu b 0 0 (nI 1)) 1 _ _ (jX_b hI) (by omega) rfl ⟨_, rfl, fun e => absurd e (by decide)⟩ (t_18_7 (c_18a hx (by omega) (by omega)) (by omega) (by omega)) (r_18a hV eV hx (by omega) (by omega))
  · exact xU_ok (s) (s) (xu b 0 0 (nI 0)) _ _ (jX_b hI) rfl ⟨_, rfl, fun _ => by rw [pk_uLs, q_18 h (b := xu b 0 0 (nI 0)) rfl]⟩ (rfl) (h_18 (c_18 hV eV hv hR eR hD eD hO eO h.2.1.1 (by omega) (by omega)) (by omega) (by omega)) (r_18 hV eV hv hR eR hD eD hO eO (by omega) (by omega))
theorem u_19 (hI : jX s b) (p1 p2 : Int32) : xU Qi L xs 150 380 128 380 [(0, .ref 1), (1, .int (p1)), (2, .int (p2)), (3, .ref 46)] [(0, .ref 28), (1, .int (p1)), (2, .int (p2))] s b f g := by
  obtain ⟨V, R, D, O, P, h⟩ := hI
  have hI : jX s b := ⟨V, R, D, O, P, h⟩
  have hV : V ≤ 30 := h.1.1.1
  have hR : R ≤ 10 := h.1.1.2.1
  have hD : D ≤ 100 := h.1.1.2.2.1
  have hO : O ≤ 60 := h.1.1.2.2.2.1
  have hP : P ≤ 100 := h.1.1.2.2.2.2
  have eV : s 1 7 = nI V := h.1.2.1
  have eR : s 9 2 = nI R := h.1.2.2.1
  have eD : s 12 4 = nI D := h.1.2.2.2.1
  have eO : s 17 5 = nI O := h.1.2.2.2.2.1
  have eP : s 17 6 = nI P := h.1.2.2.2.2.2
  rcases xix p1 eV (by omega) with hx | ⟨v, hv, rfl⟩
  · exact xU_no (s) (xu b 0 0 (nI 1)) 1 _ _ (jX_b hI) (by omega) rfl ⟨_, rfl, fun e => absurd e (by decide)⟩ (t_19_7 (c_19a hx (by omega) (by omega)) (by omega) (by omega)) (r_19a hV eV hx (by omega) (by omega))
  · obtain ⟨m, hm, em⟩ := h.2.2.1.2.2.1 v
    rcases xrg (nI 0) (nI 100000) p2 with hx | ⟨h0, h1⟩
    · exact xU_no (s) (xu b 0 0 (nI 2)) 2 _ _ (jX_b hI) (by omega) rfl ⟨_, rfl, fun e => absurd e (by decide)⟩ (t_19_8 (c_19b hV eV hv hx (by omega) (by omega)) (by omega) (by omega)) (r_19b hV eV hv hx (by omega) (by omega))
    · obtain ⟨n, hn, rfl⟩ := xr_of (by omega) h0 h1
      have ea : s 6 v + nI n = nI (m + n) := by rw [em, nI_add]
      have es : nI 1000000000 - s 6 v = nI (1000000000 - m) := by rw [em, pk_sub hm]
      by_cases hb : m + n ≤ 1000000000
      · exact xU_ok (xu s 6 v (s 6 v + nI n)) (xu s 6 v (s 6 v + nI n)) (xu b 0 0 (nI 0)) _ _ (⟨V, R, D, O, P, p_19 h (by rw [ea]; exact ⟨_, hb, rfl⟩)⟩) rfl ⟨_, rfl, fun _ => pk_uLs⟩ (rfl) (h_19 (c_19 hV eV hv h0 h1 (by rw [es]; exact nI_le (by omega) (by omega)) (by omega) (by omega)) (by omega) (by omega)) (r_19 hV eV hv h0 h1 (by rw [ea]; exact nI_le (by omega) (by omega)) (by omega) (by omega))
      · exact xU_no (s) (xu b 0 0 (nI 3)) 3 _ _ (jX_b hI) (by omega) rfl ⟨_, rfl, fun e => absurd e (by decide)⟩ (t_19_10 (c_19c hV eV hv h0 h1 (by rw [es]; exact nI_lt (by omega) (by omega)) (by omega) (by omega)) (by omega) (by omega)) (r_19c hV eV hv h0 h1 (by rw [ea]; exact nI_lt (by omega) (by omega)) (by omega) (by omega))
theorem u_20 (hI : jX s b) (p1 p2 : Int32) : xU Qj L xs 151 380 129 371 [(0, .ref 1), (1, .int (p1)), (2, .int (p2)), (3, .ref 46)] [(0, .ref 28), (1, .int (p1)), (2, .int (p2))] s b f g := by
  obtain ⟨V, R, D, O, P, h⟩ := hI
  have hI : jX s b := ⟨V, R, D, O, P, h⟩
  have hV : V ≤ 30 := h.1.1.1
  have hR : R ≤ 10 := h.1.1.2.1
  have hD : D ≤ 100 := h.1.1.2.2.1
  have hO : O ≤ 60 := h.1.1.2.2.2.1
  have hP : P ≤ 100 := h.1.1.2.2.2.2
  have eV : s 1 7 = nI V := h.1.2.1
  have eR : s 9 2 = nI R := h.1.2.2.1
  have eD : s 12 4 = nI D := h.1.2.2.2.1
  have eO : s 17 5 = nI O := h.1.2.2.2.2.1
  have eP : s 17 6 = nI P := h.1.2.2.2.2.2
  rcases xix p1 eV (by omega) with hx | ⟨v, hv, rfl⟩
  · exact xU_no (s) (xu b 0 0 (nI 1)) 1 _ _ (jX_b hI) (by omega) rfl ⟨_, rfl, fun e => absurd e (by decide)⟩ (t_20_7 (c_20a hx (by omega) (by omega)) (by omega) (by omega)) (r_20a hV eV hx (by omega) (by omega))
  · rcases xix p2 (x := nI 2) rfl (by omega) with hx | ⟨k, hk, rfl⟩
    · exact xU_no (s) (xu b 0 0 (nI 1)) 1 _ _ (jX_b hI) (by omega) rfl ⟨_, rfl, fun e => absurd e (by decide)⟩ (t_20_7 (c_20b hV eV hv hx (by omega) (by omega)) (by omega) (by omega)) (r_20b hV eV hv (xcv hx (by omega)) (by omega) (by omega))
    · obtain ⟨m, hm, em⟩ := h.2.2.1.1.1 v
      obtain ⟨q, hq, e6⟩ := h.2.2.1.2.2.1 v
      by_cases hm0 : m = 0
      · subst hm0
        exact xU_no (s) (xu b 0 0 (nI 2)) 2 _ _ (jX_b hI) (by omega) rfl ⟨_, rfl, fun e => absurd e (by decide)⟩ (t_20_11 (c_20c hV eV hv hk em (by omega) (by omega)) (by omega) (by omega)) (r_20c hV eV hv hk em (by omega) (by omega))
      · have hm0 : 0 < m := by omega
        have eg : f_gcd 1000 (100 * q) m = Nat.gcd m (100 * q) := by rw [f_gcd_eq 20 1000 (100 * q) m (by omega) (by omega), Nat.gcd_comm]
        have hg : 0 < f_gcd 1000 (100 * q) m := by rw [eg]; exact Nat.gcd_pos_of_pos_left _ hm0
        have hg1 : f_gcd 1000 (100 * q) m < 2 ^ 63 := by
          rw [eg]
          have := Nat.gcd_le_left (100 * q) hm0
          omega
        rcases (show k = 0 ∨ k = 1 by omega) with rfl | rfl
        · exact xU_ok (s) (s) (xu b 0 0 (nI 0)) _ _ (jX_b hI) rfl ⟨_, rfl, fun _ => by rw [pk_uLs, eg]⟩ (rfl) (h_20 (c_20_0 hV eV hv em hm0 hm e6 hq hg hg1 (by omega) (by omega)) (by omega) (by omega)) (r_20_0 hV eV hv em hm0 hm e6 hq (by omega) (by omega))
        · exact xU_ok (s) (s) (xu b 0 0 (nI 0)) _ _ (jX_b hI) rfl ⟨_, rfl, fun _ => by rw [pk_uLs, eg]⟩ (rfl) (h_20 (c_20_1 hV eV hv em hm0 hm e6 hq hg hg1 (by omega) (by omega)) (by omega) (by omega)) (r_20_1 hV eV hv em hm0 hm e6 hq (by omega) (by omega))
theorem u_21 (hI : jX s b) (p1 p2 : Int32) : xU Qi L xs 152 380 130 382 [(0, .ref 1), (1, .int (p1)), (2, .int (p2)), (3, .ref 46)] [(0, .ref 28), (1, .int (p1)), (2, .int (p2))] s b f g := by
  obtain ⟨V, R, D, O, P, h⟩ := hI
  have hI : jX s b := ⟨V, R, D, O, P, h⟩
  have hV : V ≤ 30 := h.1.1.1
  have hR : R ≤ 10 := h.1.1.2.1
  have hD : D ≤ 100 := h.1.1.2.2.1
  have hO : O ≤ 60 := h.1.1.2.2.2.1
  have hP : P ≤ 100 := h.1.1.2.2.2.2
  have eV : s 1 7 = nI V := h.1.2.1
  have eR : s 9 2 = nI R := h.1.2.2.1
  have eD : s 12 4 = nI D := h.1.2.2.2.1
  have eO : s 17 5 = nI O := h.1.2.2.2.2.1
  have eP : s 17 6 = nI P := h.1.2.2.2.2.2
  rcases xix p1 eD (by omega) with hx | ⟨k, hk, rfl⟩
  · exact xU_no (s) (xu b 0 0 (nI 1)) 1 _ _ (jX_b hI) (by omega) rfl ⟨_, rfl, fun e => absurd e (by decide)⟩ (t_21_7 (c_21a hx (by omega) (by omega)) (by omega) (by omega)) (r_21a hD eD hx (by omega) (by omega))
  · rcases xix p2 (x := nI 3) rfl (by omega) with hx | ⟨t, ht, rfl⟩
    · exact xU_no (s) (xu b 0 0 (nI 1)) 1 _ _ (jX_b hI) (by omega) rfl ⟨_, rfl, fun e => absurd e (by decide)⟩ (t_21_7 (c_21b hD eD hk (xcv hx (by omega)) (by omega) (by omega)) (by omega) (by omega)) (r_21b hD eD hk (xcv hx (by omega)) (by omega) (by omega))
    · rcases (show t = 0 ∨ t = 1 ∨ t = 2 by omega) with rfl | rfl | rfl
      · exact xU_ok (s) (s) (xu b 0 0 (nI 0)) _ _ (jX_b hI) rfl ⟨_, rfl, fun _ => pk_uLs⟩ (rfl) (h_21 (c_21_0 hD eD hk (by omega) (by omega)) (by omega) (by omega)) (r_21_0 hD eD hk (by omega) (by omega))
      · exact xU_ok (s) (s) (xu b 0 0 (nI 0)) _ _ (jX_b hI) rfl ⟨_, rfl, fun _ => pk_uLs⟩ (rfl) (h_21 (c_21_1 hD eD hk (by omega) (by omega)) (by omega) (by omega)) (r_21_1 hD eD hk (by omega) (by omega))
      · exact xU_ok (s) (s) (xu b 0 0 (nI 0)) _ _ (jX_b hI) rfl ⟨_, rfl, fun _ => pk_uLs⟩ (rfl) (h_21 (c_21_2 hD eD hk h.2.1.2.1 (by omega) (by omega)) (by omega) (by omega)) (r_21_2 hD eD hk h.2.1.2.1 (by omega) (by omega))
theorem u_22 (hI : jX s b) (p1 : Int32) : xU Qi L xs 153 381 131 381 [(0, .ref 1), (1, .int (p1)), (2, .ref 46)] [(0, .ref 28), (1, .int (p1))] s b f g := by
  obtain ⟨V, R, D, O, P, h⟩ := hI
  have hI : jX s b := ⟨V, R, D, O, P, h⟩
  have hV : V ≤ 30 := h.1.1.1
  have hR : R ≤ 10 := h.1.1.2.1
  have hD : D ≤ 100 := h.1.1.2.2.1
  have hO : O ≤ 60 := h.1.1.2.2.2.1
  have hP : P ≤ 100 := h.1.1.2.2.2.2
  have eV : s 1 7 = nI V := h.1.2.1
  have eR : s 9 2 = nI R := h.1.2.2.1
  have eD : s 12 4 = nI D := h.1.2.2.2.1
  have eO : s 17 5 = nI O := h.1.2.2.2.2.1
  have eP : s 17 6 = nI P := h.1.2.2.2.2.2
  rcases xix p1 (x := nI 5) rfl (by omega) with hx | ⟨t, ht, rfl⟩
  · exact xU_no (s) (xu b 0 0 (nI 1)) 1 _ _ (jX_b hI) (by omega) rfl ⟨_, rfl, fun e => absurd e (by decide)⟩ (t_22_7 (c_22a (xcv hx (by omega)) (by omega) (by omega)) (by omega) (by omega)) (r_22a (xcv hx (by omega)) (by omega) (by omega))
  · rcases (show t = 0 ∨ t = 1 ∨ t = 2 ∨ t = 3 ∨ t = 4 by omega) with rfl | rfl | rfl | rfl | rfl
    · exact xU_ok (s) (s) (xu b 0 0 (nI 0)) _ _ (jX_b hI) rfl ⟨_, rfl, fun _ => pk_uLs⟩ (rfl) (h_22 (c_22_0 (by omega) (by omega)) (by omega) (by omega)) (r_22_0 (by omega) (by omega))
    · exact xU_ok (s) (s) (xu b 0 0 (nI 0)) _ _ (jX_b hI) rfl ⟨_, rfl, fun _ => pk_uLs⟩ (rfl) (h_22 (c_22_1 (by omega) (by omega)) (by omega) (by omega)) (r_22_1 (by omega) (by omega))
    · exact xU_ok (s) (s) (xu b 0 0 (nI 0)) _ _ (jX_b hI) rfl ⟨_, rfl, fun _ => by rw [pk_uLs, q_22o h]⟩ (rfl) (h_22 (c_22_2 hO eO (by omega) (by omega)) (by omega) (by omega)) (r_22_2 hO eO (by omega) (by omega))
    · exact xU_ok (s) (s) (xu b 0 0 (nI 0)) _ _ (jX_b hI) rfl ⟨_, rfl, fun _ => pk_uLs⟩ (rfl) (h_22 (c_22_3 (by omega) (by omega)) (by omega) (by omega)) (r_22_3 (by omega) (by omega))
    · exact xU_ok (s) (s) (xu b 0 0 (nI 0)) _ _ (jX_b hI) rfl ⟨_, rfl, fun _ => by rw [pk_uLs, q_22 h (b := xu b 0 0 (nI 0)) rfl]⟩ (rfl) (h_22 (c_22_4 hR eR hD eD hO eO hV eV (by omega) (by omega)) (by omega) (by omega)) (r_22_4 hR eR hD eD hO eO hV eV (by omega) (by omega))
theorem xP_z (x : Int32) : xP x = 0 ∨ xP x = 1 := by
  unfold xP
  cases xa_cmp .eq x 0
  · exact Or.inr rfl
  · exact Or.inl rfl
def xW (L : Nat) (xs : Nat → Int32) (i : Nat) (s b : Nat → Nat → Int32) (f : Nat → Int64) (g : List va_E) : Prop := ∃ (s1 b1 : Nat → Nat → Int32) (f1 : Nat → Int64) (g1 : List va_E) (k1 z1 : Nat), jX s1 b1 ∧ k1 ≤ 1 ∧ z1 ≤ 6 ∧ ∀ (o : Outcome) (h' : List va_E) (k z : Nat), xv xm L xs 11 396 154 13 [(4, .int (nI (i + 5))), (0, .ref 0), (1, .ref 1), (2, .ref 28), (3, .ref 46)] [] (xC s1 ++ (xD s1 b1 ++ (xo f1 :: g1))) o h' k z → xv xm L xs 11 396 154 13 [(4, .int (nI i)), (0, .ref 0), (1, .ref 1), (2, .ref 28), (3, .ref 46)] [] (xC s ++ (xD s b ++ (xo f :: g))) o h' (k1 + k) (z1 + z)
theorem w_1 {i : Nat} (hL : L ≤ 2560) (hi : i + 5 ≤ L) (hsw : xs i &&& nI 31 = nI 0) (hI : jX s b) : xW L xs i s b f g := by
  obtain ⟨s1, b1, f1, g1, k1, z1, c, res, hI1, hk, hz, hc, hb, ⟨x, rfl, ho⟩, hH, hR⟩ := u_1 (L := L) (xs := xs) (f := f) (g := g) hI (xs (i + 1)) (xP (xs (i + 2))) (xP_z _)
  exact ⟨s1, b1, f1, g1, k1, z1, hI1, hk, hz, fun _ _ _ _ he => b_1 hL hi hsw hH hR hc hb ho he⟩
theorem w_2 {i : Nat} (hL : L ≤ 2560) (hi : i + 5 ≤ L) (hsw : xs i &&& nI 31 = nI 1) (hI : jX s b) : xW L xs i s b f g := by
  obtain ⟨s1, b1, f1, g1, k1, z1, c, res, hI1, hk, hz, hc, hb, ⟨x, rfl, ho⟩, hH, hR⟩ := u_2 (L := L) (xs := xs) (f := f) (g := g) hI (xs (i + 1)) (xs (i + 2)) (xs (i + 3))
  exact ⟨s1, b1, f1, g1, k1, z1, hI1, hk, hz, fun _ _ _ _ he => b_2 hL hi hsw hH hR hc hb ho he⟩
theorem w_3 {i : Nat} (hL : L ≤ 2560) (hi : i + 5 ≤ L) (hsw : xs i &&& nI 31 = nI 2) (hI : jX s b) : xW L xs i s b f g := by
  obtain ⟨s1, b1, f1, g1, k1, z1, c, res, hI1, hk, hz, hc, hb, hQ, hH, hR⟩ := u_3 (L := L) (xs := xs) (f := f) (g := g) hI (xs (i + 1))
  have hQ : res = none := hQ
  subst hQ
  exact ⟨s1, b1, f1, g1, k1, z1, hI1, hk, hz, fun _ _ _ _ he => b_3 hL hi hsw hH hR hc hb he⟩
theorem w_4 {i : Nat} (hL : L ≤ 2560) (hi : i + 5 ≤ L) (hsw : xs i &&& nI 31 = nI 3) (hI : jX s b) : xW L xs i s b f g := by
  obtain ⟨s1, b1, f1, g1, k1, z1, c, res, hI1, hk, hz, hc, hb, hQ, hH, hR⟩ := u_4 (L := L) (xs := xs) (f := f) (g := g) hI (xs (i + 1))
  have hQ : res = none := hQ
  subst hQ
  exact ⟨s1, b1, f1, g1, k1, z1, hI1, hk, hz, fun _ _ _ _ he => b_4 hL hi hsw hH hR hc hb he⟩
theorem w_5 {i : Nat} (hL : L ≤ 2560) (hi : i + 5 ≤ L) (hsw : xs i &&& nI 31 = nI 4) (hI : jX s b) : xW L xs i s b f g := by
  obtain ⟨s1, b1, f1, g1, k1, z1, c, res, hI1, hk, hz, hc, hb, hQ, hH, hR⟩ := u_5 (L := L) (xs := xs) (f := f) (g := g) hI (xs (i + 1)) (xs (i + 2)) (xs (i + 3))
  have hQ : res = none := hQ
  subst hQ
  exact ⟨s1, b1, f1, g1, k1, z1, hI1, hk, hz, fun _ _ _ _ he => b_5 hL hi hsw hH hR hc hb he⟩
theorem w_6 {i : Nat} (hL : L ≤ 2560) (hi : i + 5 ≤ L) (hsw : xs i &&& nI 31 = nI 5) (hI : jX s b) : xW L xs i s b f g := by
  obtain ⟨s1, b1, f1, g1, k1, z1, c, res, hI1, hk, hz, hc, hb, ⟨x, rfl, ho⟩, hH, hR⟩ := u_6 (L := L) (xs := xs) (f := f) (g := g) hI (xs (i + 1)) (xs (i + 2)) (xs (i + 3))
  exact ⟨s1, b1, f1, g1, k1, z1, hI1, hk, hz, fun _ _ _ _ he => b_6 hL hi hsw hH hR hc hb ho he⟩
theorem w_7 {i : Nat} (hL : L ≤ 2560) (hi : i + 5 ≤ L) (hsw : xs i &&& nI 31 = nI 6) (hI : jX s b) : xW L xs i s b f g := by
  obtain ⟨s1, b1, f1, g1, k1, z1, c, res, hI1, hk, hz, hc, hb, ⟨x, rfl, ho⟩, hH, hR⟩ := u_7 (L := L) (xs := xs) (f := f) (g := g) hI (xs (i + 1))
  exact ⟨s1, b1, f1, g1, k1, z1, hI1, hk, hz, fun _ _ _ _ he => b_7 hL hi hsw hH hR hc hb ho he⟩
theorem w_8 {i : Nat} (hL : L ≤ 2560) (hi : i + 5 ≤ L) (hsw : xs i &&& nI 31 = nI 7) (hI : jX s b) : xW L xs i s b f g := by
  obtain ⟨s1, b1, f1, g1, k1, z1, c, res, hI1, hk, hz, hc, hb, ⟨x, rfl, ho⟩, hH, hR⟩ := u_8 (L := L) (xs := xs) (f := f) (g := g) hI (xs (i + 1)) (xP (xs (i + 2))) (xP_z _)
  exact ⟨s1, b1, f1, g1, k1, z1, hI1, hk, hz, fun _ _ _ _ he => b_8 hL hi hsw hH hR hc hb ho he⟩
theorem w_9 {i : Nat} (hL : L ≤ 2560) (hi : i + 5 ≤ L) (hsw : xs i &&& nI 31 = nI 8) (hI : jX s b) : xW L xs i s b f g := by
  obtain ⟨s1, b1, f1, g1, k1, z1, c, res, hI1, hk, hz, hc, hb, ⟨x, rfl, hx, ho⟩, hH, hR⟩ := u_9 (L := L) (xs := xs) (f := f) (g := g) hI (xs (i + 1)) (xs (i + 2)) (xs (i + 3)) (xs (i + 4))
  exact ⟨s1, b1, f1, g1, k1, z1, hI1, hk, hz, fun _ _ _ _ he => b_9 hL hi hsw hH hR hc hb hx ho he⟩
theorem w_10 {i : Nat} (hL : L ≤ 2560) (hi : i + 5 ≤ L) (hsw : xs i &&& nI 31 = nI 9) (hI : jX s b) : xW L xs i s b f g := by
  obtain ⟨s1, b1, f1, g1, k1, z1, c, res, hI1, hk, hz, hc, hb, hQ, hH, hR⟩ := u_10 (L := L) (xs := xs) (f := f) (g := g) hI (xs (i + 1)) (xs (i + 2)) (xs (i + 3))
  have hQ : res = none := hQ
  subst hQ
  exact ⟨s1, b1, f1, g1, k1, z1, hI1, hk, hz, fun _ _ _ _ he => b_10 hL hi hsw hH hR hc hb he⟩
theorem w_11 {i : Nat} (hL : L ≤ 2560) (hi : i + 5 ≤ L) (hsw : xs i &&& nI 31 = nI 10) (hI : jX s b) : xW L xs i s b f g := by
  obtain ⟨s1, b1, f1, g1, k1, z1, c, res, hI1, hk, hz, hc, hb, ⟨x, rfl, ho⟩, hH, hR⟩ := u_11 (L := L) (xs := xs) (f := f) (g := g) hI (xs (i + 1))
  exact ⟨s1, b1, f1, g1, k1, z1, hI1, hk, hz, fun _ _ _ _ he => b_11 hL hi hsw hH hR hc hb ho he⟩
theorem w_12 {i : Nat} (hL : L ≤ 2560) (hi : i + 5 ≤ L) (hsw : xs i &&& nI 31 = nI 11) (hI : jX s b) : xW L xs i s b f g := by
  obtain ⟨s1, b1, f1, g1, k1, z1, c, res, hI1, hk, hz, hc, hb, ⟨x, rfl, ho⟩, hH, hR⟩ := u_12 (L := L) (xs := xs) (f := f) (g := g) hI (xs (i + 1)) (xP (xs (i + 2))) (xs (i + 3)) (xP_z _)
  exact ⟨s1, b1, f1, g1, k1, z1, hI1, hk, hz, fun _ _ _ _ he => b_12 hL hi hsw hH hR hc hb ho he⟩
theorem w_13 {i : Nat} (hL : L ≤ 2560) (hi : i + 5 ≤ L) (hsw : xs i &&& nI 31 = nI 12) (hI : jX s b) : xW L xs i s b f g := by
  obtain ⟨s1, b1, f1, g1, k1, z1, c, res, hI1, hk, hz, hc, hb, ⟨x, rfl, ho⟩, hH, hR⟩ := u_13 (L := L) (xs := xs) (f := f) (g := g) hI (xs (i + 1)) (xs (i + 2)) (xs (i + 3)) (xs (i + 4))
  exact ⟨s1, b1, f1, g1, k1, z1, hI1, hk, hz, fun _ _ _ _ he => b_13 hL hi hsw hH hR hc hb ho he⟩
theorem w_14 {i : Nat} (hL : L ≤ 2560) (hi : i + 5 ≤ L) (hsw : xs i &&& nI 31 = nI 13) (hI : jX s b) : xW L xs i s b f g := by
  obtain ⟨s1, b1, f1, g1, k1, z1, c, res, hI1, hk, hz, hc, hb, hQ, hH, hR⟩ := u_14 (L := L) (xs := xs) (f := f) (g := g) hI (xs (i + 1)) (xs (i + 2)) (xs (i + 3))
  have hQ : res = none := hQ
  subst hQ
  exact ⟨s1, b1, f1, g1, k1, z1, hI1, hk, hz, fun _ _ _ _ he => b_14 hL hi hsw hH hR hc hb he⟩
theorem w_15 {i : Nat} (hL : L ≤ 2560) (hi : i + 5 ≤ L) (hsw : xs i &&& nI 31 = nI 14) (hI : jX s b) : xW L xs i s b f g := by
  obtain ⟨s1, b1, f1, g1, k1, z1, c, res, hI1, hk, hz, hc, hb, ⟨x, rfl, ho⟩, hH, hR⟩ := u_15 (L := L) (xs := xs) (f := f) (g := g) hI (xs (i + 1))
  exact ⟨s1, b1, f1, g1, k1, z1, hI1, hk, hz, fun _ _ _ _ he => b_15 hL hi hsw hH hR hc hb ho he⟩
theorem w_16 {i : Nat} (hL : L ≤ 2560) (hi : i + 5 ≤ L) (hsw : xs i &&& nI 31 = nI 15) (hI : jX s b) : xW L xs i s b f g := by
  obtain ⟨s1, b1, f1, g1, k1, z1, c, res, hI1, hk, hz, hc, hb, ⟨x, rfl, ho⟩, hH, hR⟩ := u_16 (L := L) (xs := xs) (f := f) (g := g) hI (xs (i + 1))
  exact ⟨s1, b1, f1, g1, k1, z1, hI1, hk, hz, fun _ _ _ _ he => b_16 hL hi hsw hH hR hc hb ho he⟩
theorem w_17 {i : Nat} (hL : L ≤ 2560) (hi : i + 5 ≤ L) (hsw : xs i &&& nI 31 = nI 16) (hI : jX s b) : xW L xs i s b f g := by
  obtain ⟨s1, b1, f1, g1, k1, z1, c, res, hI1, hk, hz, hc, hb, ⟨x, rfl, ho⟩, hH, hR⟩ := u_17 (L := L) (xs := xs) (f := f) (g := g) hI (xs (i + 1))
  exact ⟨s1, b1, f1, g1, k1, z1, hI1, hk, hz, fun _ _ _ _ he => b_17 hL hi hsw hH hR hc hb ho he⟩
theorem w_18 {i : Nat} (hL : L ≤ 2560) (hi : i + 5 ≤ L) (hsw : xs i &&& nI 31 = nI 17) (hI : jX s b) : xW L xs i s b f g := by
  obtain ⟨s1, b1, f1, g1, k1, z1, c, res, hI1, hk, hz, hc, hb, ⟨x, rfl, ho⟩, hH, hR⟩ := u_18 (L := L) (xs := xs) (f := f) (g := g) hI (xs (i + 1))
  exact ⟨s1, b1, f1, g1, k1, z1, hI1, hk, hz, fun _ _ _ _ he => b_18 hL hi hsw hH hR hc hb ho he⟩
theorem w_19 {i : Nat} (hL : L ≤ 2560) (hi : i + 5 ≤ L) (hsw : xs i &&& nI 31 = nI 18) (hI : jX s b) : xW L xs i s b f g := by
  obtain ⟨s1, b1, f1, g1, k1, z1, c, res, hI1, hk, hz, hc, hb, ⟨x, rfl, ho⟩, hH, hR⟩ := u_19 (L := L) (xs := xs) (f := f) (g := g) hI (xs (i + 1)) (xs (i + 2))
  exact ⟨s1, b1, f1, g1, k1, z1, hI1, hk, hz, fun _ _ _ _ he => b_19 hL hi hsw hH hR hc hb ho he⟩
theorem w_20 {i : Nat} (hL : L ≤ 2560) (hi : i + 5 ≤ L) (hsw : xs i &&& nI 31 = nI 19) (hI : jX s b) : xW L xs i s b f g := by
  obtain ⟨s1, b1, f1, g1, k1, z1, c, res, hI1, hk, hz, hc, hb, ⟨x, rfl, ho⟩, hH, hR⟩ := u_20 (L := L) (xs := xs) (f := f) (g := g) hI (xs (i + 1)) (xs (i + 2))
  exact ⟨s1, b1, f1, g1, k1, z1, hI1, hk, hz, fun _ _ _ _ he => b_20 hL hi hsw hH hR hc hb ho he⟩
theorem w_21 {i : Nat} (hL : L ≤ 2560) (hi : i + 5 ≤ L) (hsw : xs i &&& nI 31 = nI 20) (hI : jX s b) : xW L xs i s b f g := by
  obtain ⟨s1, b1, f1, g1, k1, z1, c, res, hI1, hk, hz, hc, hb, ⟨x, rfl, ho⟩, hH, hR⟩ := u_21 (L := L) (xs := xs) (f := f) (g := g) hI (xs (i + 1)) (xs (i + 2))
  exact ⟨s1, b1, f1, g1, k1, z1, hI1, hk, hz, fun _ _ _ _ he => b_21 hL hi hsw hH hR hc hb ho he⟩
theorem w_22 {i : Nat} (hL : L ≤ 2560) (hi : i + 5 ≤ L) (hsw : xs i &&& nI 31 = nI 21) (hI : jX s b) : xW L xs i s b f g := by
  obtain ⟨s1, b1, f1, g1, k1, z1, c, res, hI1, hk, hz, hc, hb, ⟨x, rfl, ho⟩, hH, hR⟩ := u_22 (L := L) (xs := xs) (f := f) (g := g) hI (xs (i + 1))
  exact ⟨s1, b1, f1, g1, k1, z1, hI1, hk, hz, fun _ _ _ _ he => b_22 hL hi hsw hH hR hc hb ho he⟩
theorem w_d {i j : Nat} (hL : L ≤ 2560) (hi : i + 5 ≤ L) (hsw : xs i &&& nI 31 = nI j) (hj : 21 < j) (hj2 : j < 32) (hI : jX s b) : xW L xs i s b f g :=
  ⟨s, b, f, g, 0, 0, hI, by omega, by omega, fun _ _ k z he => by rw [Nat.zero_add, Nat.zero_add]; exact b_d hL hi hsw hj hj2 he⟩
theorem w_any {i : Nat} (hL : L ≤ 2560) (hi : i + 5 ≤ L) (hI : jX s b) : xW L xs i s b f g := by
  obtain ⟨j, hj, hsw⟩ := pk_andE (xs i) (m := nI 31) 5 (by decide +kernel)
  by_cases h : 21 < j
  · exact w_d hL hi hsw h (by omega) hI
  · rcases (show j = 0 ∨ j = 1 ∨ j = 2 ∨ j = 3 ∨ j = 4 ∨ j = 5 ∨ j = 6 ∨ j = 7 ∨ j = 8 ∨ j = 9 ∨ j = 10 ∨ j = 11 ∨ j = 12 ∨ j = 13 ∨ j = 14 ∨ j = 15 ∨ j = 16 ∨ j = 17 ∨ j = 18 ∨ j = 19 ∨ j = 20 ∨ j = 21 by omega) with rfl | rfl | rfl | rfl | rfl | rfl | rfl | rfl | rfl | rfl | rfl | rfl | rfl | rfl | rfl | rfl | rfl | rfl | rfl | rfl | rfl | rfl
    · exact w_1 hL hi hsw hI
    · exact w_2 hL hi hsw hI
    · exact w_3 hL hi hsw hI
    · exact w_4 hL hi hsw hI
    · exact w_5 hL hi hsw hI
    · exact w_6 hL hi hsw hI
    · exact w_7 hL hi hsw hI
    · exact w_8 hL hi hsw hI
    · exact w_9 hL hi hsw hI
    · exact w_10 hL hi hsw hI
    · exact w_11 hL hi hsw hI
    · exact w_12 hL hi hsw hI
    · exact w_13 hL hi hsw hI
    · exact w_14 hL hi hsw hI
    · exact w_15 hL hi hsw hI
    · exact w_16 hL hi hsw hI
    · exact w_17 hL hi hsw hI
    · exact w_18 hL hi hsw hI
    · exact w_19 hL hi hsw hI
    · exact w_20 hL hi hsw hI
    · exact w_21 hL hi hsw hI
    · exact w_22 hL hi hsw hI
theorem w_all (hL : L ≤ 2560) : ∀ n i (s b : Nat → Nat → Int32) (f : Nat → Int64) (g : List va_E), jX s b → i ≤ 2560 → L < i + 5 * n + 5 → ∃ h' k z, k ≤ n ∧ z ≤ 6 * n ∧ xv xm L xs 11 396 154 13 [(4, .int (nI i)), (0, .ref 0), (1, .ref 1), (2, .ref 28), (3, .ref 46)] [] (xC s ++ (xD s b ++ (xo f :: g))) (.returned (some (.int 1))) h' k z
  | 0, i, s, b, f, g, hI, h1, h2 => ⟨_, 0, 0, by omega, by omega, b_e hL (by omega) h1⟩
  | n + 1, i, s, b, f, g, hI, h1, h2 => by
    by_cases h : i + 5 ≤ L
    · obtain ⟨s1, b1, f1, g1, k1, z1, hI1, hk, hz, hs⟩ := w_any (f := f) (g := g) hL h hI
      obtain ⟨h', k, z, hk2, hz2, he⟩ := w_all hL n (i + 5) s1 b1 f1 g1 hI1 (by omega) (by omega)
      exact ⟨h', k1 + k, z1 + z, by omega, by omega, hs _ _ _ _ he⟩
    · exact ⟨_, 0, 0, by omega, by omega, b_e hL (by omega) h1⟩
theorem w_law (hL : L ≤ 2560) : ∃ h' k z, k ≤ 1089 ∧ z ≤ 26050 ∧ xv xm L xs 11 396 154 0 [(0, .ref 0)] [] [] (.returned (some (.int 1))) h' k z := by
  obtain ⟨h', k, z, hk, hz, he⟩ := w_all (xs := xs) hL 512 0 xI xJ (fun _ => 0) [] jX_0 (by omega) (by omega)
  exact ⟨h', 46 + k, 17744 + z, by omega, by omega, b_0 he⟩
end XUS

def xu (s : Nat → Nat → Int32) (c j : Nat) (x : Int32) : Nat → Nat → Int32 := fun c' => bif Nat.beq c' c then upd (s c) j x else s c'
def xw (s : Nat → Nat → Int32) (c : Nat) (f : Nat → Int32) : Nat → Nat → Int32 := fun c' => bif Nat.beq c' c then f else s c'
def xC (s : Nat → Nat → Int32) : List va_E := [
  .inr (0, [.ref 2, .ref 10, .ref 13, .ref 18, .ref 24, .int (s 0 5), .int (s 0 6), .int (s 0 7), .int (s 0 8)]),
  .inr (1, [.ref 3, .ref 4, .ref 5, .ref 6, .ref 7, .ref 8, .ref 9, .int (s 1 7)]),
  .inl (0, 30, .inl (s 2)), .inl (1, 30, .inl (s 3)), .inl (0, 30, .inl (s 4)), .inl (0, 30, .inl (s 5)), .inl (0, 30, .inl (s 6)), .inl (0, 150, .inl (s 7)), .inl (0, 3000, .inl (s 8)),
  .inr (2, [.ref 11, .ref 12, .int (s 9 2)]), .inl (0, 30, .inl (s 10)), .inl (0, 900, .inl (s 11)),
  .inr (3, [.ref 14, .ref 15, .ref 16, .ref 17, .int (s 12 4)]), .inl (0, 100, .inl (s 13)), .inl (1, 100, .inl (s 14)), .inl (0, 100, .inl (s 15)), .inl (0, 100, .inl (s 16)),
  .inr (4, [.ref 19, .ref 20, .ref 21, .ref 22, .ref 23, .int (s 17 5), .int (s 17 6)]), .inl (0, 60, .inl (s 18)), .inl (1, 60, .inl (s 19)), .inl (1, 600, .inl (s 20)), .inl (0, 60, .inl (s 21)), .inl (0, 60, .inl (s 22)),
  .inr (5, [.ref 25, .ref 26, .ref 27, .int (s 23 3)]), .inl (0, 300, .inl (s 24)), .inl (0, 300, .inl (s 25)), .inl (0, 300, .inl (s 26))]
def xD (s b : Nat → Nat → Int32) : List va_E := [
  .inr (6, [.int (b 0 0), .int (s 0 5), .int (s 0 6), .int (s 0 8), .int (s 0 7), .int (s 1 7), .ref 29, .ref 30, .ref 31, .ref 32, .ref 33, .int (s 9 2), .ref 34, .ref 35, .ref 36, .ref 37, .int (s 12 4), .ref 38, .ref 39, .ref 40, .int (s 17 5), .ref 41, .ref 42, .ref 43, .ref 44, .ref 45, .int (s 17 6)]),
  .inl (0, 30, .inl (s 2)), .inl (1, 30, .inl (s 3)), .inl (0, 30, .inl (s 4)), .inl (0, 30, .inl (s 5)), .inl (0, 30, .inl (s 6)), .inl (0, 30, .inl (s 10)), .inl (0, 900, .inl (s 11)), .inl (0, 150, .inl (s 7)), .inl (0, 3000, .inl (s 8)),
  .inl (0, 100, .inl (s 13)), .inl (1, 100, .inl (s 14)), .inl (0, 100, .inl (s 15)), .inl (0, 60, .inl (s 18)), .inl (1, 60, .inl (b 1)), .inl (0, 60, .inl (s 22)), .inl (1, 600, .inl (s 20)), .inl (1, 6000, .inl (b 2))]
theorem xa_inB_nI {j n : Nat} (hj : j < n) (hn : n < 2 ^ 31) : xa_inB (nI j) n = true := by
  have h := vp_in_nI hj hn
  unfold vp_in at h
  unfold xa_inB
  simp only [Bool.not_eq_true', Bool.or_eq_false_iff, decide_eq_false_iff_not]
  exact ⟨fun h1 => h (Or.inl h1), fun h1 => h (Or.inr h1)⟩
theorem xa_c0 (r : Nat) : xa_con r 0 = nI r := rfl
theorem xa_c1 (r : Nat) : xa_con r 1 = - nI r := rfl
section XW
variable {mt : Nat → xa_M} {L : Nat} {xs : Nat → Int32} {d w y ip : Nat} {lv : List (Nat × Value)} {st : List Value} {h : List va_E} {o : Outcome} {h' : List va_E} {k z : Nat}
theorem xv_ia {pc len nip r q : Nat} {ts : List Nat} {a n : Nat} {f : Nat → Int32} {i : Int32} (j : Nat) (hrow : (xa_rows (mt y))[ip]? = some (pc, .iaload, len, nip, r, q, ts)) (hh : h[a]? = some (.inl (0, n, .inl f))) (hi : i = nI j) (hj : j < n) (hn : n < 2 ^ 31)
    (he : xv mt L xs d w y nip lv (.int (f j) :: st) h o h' k z) : xv mt L xs d w y ip lv (.int i :: .ref (a + 1) :: st) h o h' k z := by
  refine xv_s ?_ he
  subst hi
  unfold xa_1
  rw [hrow]
  show xa_ai h (a + 1) 0 (fun _ n f => xa_if (xa_inB (nI j) n) (xa_go nip lv (.int (f (nI j).toNatClampNeg) :: st) h)) = _
  unfold xa_ai
  simp only [hh]
  show xa_if (xa_inB (nI j) n) _ = _
  rw [xa_ift (xa_inB_nI hj hn), nI_clamp (by omega)]
theorem xv_ba {pc len nip r q : Nat} {ts : List Nat} {a n : Nat} {f : Nat → Int32} {i : Int32} (j : Nat) (hrow : (xa_rows (mt y))[ip]? = some (pc, .baload, len, nip, r, q, ts)) (hh : h[a]? = some (.inl (1, n, .inl f))) (hi : i = nI j) (hj : j < n) (hn : n < 2 ^ 31)
    (he : xv mt L xs d w y nip lv (.int (f j) :: st) h o h' k z) : xv mt L xs d w y ip lv (.int i :: .ref (a + 1) :: st) h o h' k z := by
  refine xv_s ?_ he
  subst hi
  unfold xa_1
  rw [hrow]
  show xa_ai h (a + 1) 1 (fun _ n f => xa_if (xa_inB (nI j) n) (xa_go nip lv (.int (f (nI j).toNatClampNeg) :: st) h)) = _
  unfold xa_ai
  simp only [hh]
  show xa_if (xa_inB (nI j) n) _ = _
  rw [xa_ift (xa_inB_nI hj hn), nI_clamp (by omega)]
theorem xv_sc {pc len nip r q : Nat} {ts : List Nat} {i : Int32} (j : Nat) (hrow : (xa_rows (mt y))[ip]? = some (pc, .iaload, len, nip, r, q, ts)) (hi : i = nI j) (hj : j < L) (hn : L < 2 ^ 31)
    (he : xv mt L xs d w y nip lv (.int (xs j) :: st) h o h' k z) : xv mt L xs d w y ip lv (.int i :: .ref 0 :: st) h o h' k z := by
  refine xv_s ?_ he
  subst hi
  unfold xa_1
  rw [hrow]
  show xa_if (xa_inB (nI j) L) (xa_go nip lv (.int (xs (nI j).toNatClampNeg) :: st) h) = _
  rw [xa_ift (xa_inB_nI hj hn), nI_clamp (by omega)]
theorem xv_ias {pc len nip r q : Nat} {ts : List Nat} {a n : Nat} {f : Nat → Int32} {i x : Int32} (j : Nat) (h1 : List va_E) (hrow : (xa_rows (mt y))[ip]? = some (pc, .iastore, len, nip, r, q, ts)) (hh : h[a]? = some (.inl (0, n, .inl f))) (hi : i = nI j) (hj : j < n) (hn : n < 2 ^ 31) (hs : h.set a (.inl (0, n, .inl (upd f j x))) = h1)
    (he : xv mt L xs d w y nip lv st h1 o h' k z) : xv mt L xs d w y ip lv (.int x :: .int i :: .ref (a + 1) :: st) h o h' k z := by
  refine xv_s ?_ he
  subst hi hs
  unfold xa_1
  rw [hrow]
  show xa_ai h (a + 1) 0 (fun j1 n f => xa_if (xa_inB (nI j) n) (xa_go nip lv st (h.set j1 (.inl (0, n, .inl (upd f (nI j).toNatClampNeg x)))))) = _
  unfold xa_ai
  simp only [hh]
  show xa_if (xa_inB (nI j) n) _ = _
  rw [xa_ift (xa_inB_nI hj hn), nI_clamp (by omega)]
theorem xv_bas {pc len nip r q : Nat} {ts : List Nat} {a n : Nat} {f : Nat → Int32} {i x : Int32} (j : Nat) (h1 : List va_E) (hrow : (xa_rows (mt y))[ip]? = some (pc, .bastore, len, nip, r, q, ts)) (hh : h[a]? = some (.inl (1, n, .inl f))) (hi : i = nI j) (hj : j < n) (hn : n < 2 ^ 31) {x1 : Int32} (hx : vp_nar .boolean x = x1) (hs : h.set a (.inl (1, n, .inl (upd f j x1))) = h1)
    (he : xv mt L xs d w y nip lv st h1 o h' k z) : xv mt L xs d w y ip lv (.int x :: .int i :: .ref (a + 1) :: st) h o h' k z := by
  refine xv_s ?_ he
  subst hi hx hs
  unfold xa_1
  rw [hrow]
  show xa_ai h (a + 1) 1 (fun j1 n f => xa_if (xa_inB (nI j) n) (xa_go nip lv st (h.set j1 (.inl (1, n, .inl (upd f (nI j).toNatClampNeg (vp_nar .boolean x))))))) = _
  unfold xa_ai
  simp only [hh]
  show xa_if (xa_inB (nI j) n) _ = _
  rw [xa_ift (xa_inB_nI hj hn), nI_clamp (by omega)]
theorem xv_bt {ip1 ip2 : Nat} {c : Bool} {lv' : List (Nat × Value)} {st' : List Value} {h1 : List va_E} (hn : xa_1 mt L xs y ip lv st h = some (bif c then ip1 else ip2, lv', st', h1, 0, 0)) (hc : c = true) (he : xv mt L xs d w y ip1 lv' st' h1 o h' k z) : xv mt L xs d w y ip lv st h o h' k z := by
  subst hc
  exact xv_s hn he
theorem xv_bf {ip1 ip2 : Nat} {c : Bool} {lv' : List (Nat × Value)} {st' : List Value} {h1 : List va_E} (hn : xa_1 mt L xs y ip lv st h = some (bif c then ip1 else ip2, lv', st', h1, 0, 0)) (hc : c = false) (he : xv mt L xs d w y ip2 lv' st' h1 o h' k z) : xv mt L xs d w y ip lv st h o h' k z := by
  subst hc
  exact xv_s hn he
theorem xv_rb {x x1 : Int32} (hx : vp_nar .boolean x = x1) (hn : xa_r mt y ip [.int x] h = some (.returned (some (.int (vp_nar .boolean x))), h, 0, 0)) : xv mt L xs d w y ip lv [.int x] h (.returned (some (.int x1))) h 0 0 := by
  subst hx
  exact xv_r hn
theorem xv_ei {x x1 : Int32} (hx : x = x1) (he : xv mt L xs d w y ip lv (.int x1 :: st) h o h' k z) : xv mt L xs d w y ip lv (.int x :: st) h o h' k z := by
  subst hx
  exact he
theorem xv_el {x x1 : Int64} (hx : x = x1) (he : xv mt L xs d w y ip lv (.long x1 :: st) h o h' k z) : xv mt L xs d w y ip lv (.long x :: st) h o h' k z := by
  subst hx
  exact he
theorem xv_eh {h1 : List va_E} (hx : h = h1) (he : xv mt L xs d w y ip lv st h1 o h' k z) : xv mt L xs d w y ip lv st h o h' k z := by
  subst hx
  exact he
end XW
theorem xc_ltT {a b : Nat} (h : a < b) (hb : b < 2 ^ 31) : xa_cmp .lt (nI a) (nI b) = true := decide_eq_true (nI_lt h hb)
theorem xc_ltF {a b : Nat} (h : b ≤ a) (hb : a < 2 ^ 31) : xa_cmp .lt (nI a) (nI b) = false := decide_eq_false (nI_nlt h hb)
theorem xc_geT {a b : Nat} (h : b ≤ a) (hb : a < 2 ^ 31) : xa_cmp .ge (nI a) (nI b) = true := decide_eq_true (nI_le h hb)
theorem xc_geF {a b : Nat} (h : a < b) (hb : b < 2 ^ 31) : xa_cmp .ge (nI a) (nI b) = false := decide_eq_false (nI_ge h hb)
theorem xc_gtT {a b : Nat} (h : b < a) (hb : a < 2 ^ 31) : xa_cmp .gt (nI a) (nI b) = true := decide_eq_true (nI_lt h hb)
theorem xc_gtF {a b : Nat} (h : a ≤ b) (hb : b < 2 ^ 31) : xa_cmp .gt (nI a) (nI b) = false := decide_eq_false (nI_nlt h hb)
theorem xc_leT {a b : Nat} (h : a ≤ b) (hb : b < 2 ^ 31) : xa_cmp .le (nI a) (nI b) = true := decide_eq_true (nI_le h hb)
theorem xc_leF {a b : Nat} (h : b < a) (hb : a < 2 ^ 31) : xa_cmp .le (nI a) (nI b) = false := decide_eq_false (nI_ge h hb)
theorem xc_eqT {x y : Int32} (h : x = y) : xa_cmp .eq x y = true := decide_eq_true h
theorem xc_eqF {x y : Int32} (h : ¬ x = y) : xa_cmp .eq x y = false := decide_eq_false h
theorem xc_neT {x y : Int32} (h : ¬ x = y) : xa_cmp .ne x y = true := by show (!decide (x = y)) = true; rw [decide_eq_false h]; rfl
theorem xc_neF {x y : Int32} (h : x = y) : xa_cmp .ne x y = false := by show (!decide (x = y)) = false; rw [decide_eq_true h]; rfl
theorem xi_nle {x y : Int32} (h : y < x) : ¬ x ≤ y := by rw [Int32.le_iff_toInt_le]; rw [Int32.lt_iff_toInt_lt] at h; omega
theorem xi_nlt {x y : Int32} (h : y ≤ x) : ¬ x < y := by rw [Int32.lt_iff_toInt_lt]; rw [Int32.le_iff_toInt_le] at h; omega
theorem xi_lt {x y : Int32} (h : ¬ y ≤ x) : x < y := by rw [Int32.lt_iff_toInt_lt]; rw [Int32.le_iff_toInt_le] at h; omega
theorem xi_le {x y : Int32} (h : ¬ y < x) : x ≤ y := by rw [Int32.le_iff_toInt_le]; rw [Int32.lt_iff_toInt_lt] at h; omega
theorem xd_ltT {x y : Int32} (h : x < y) : xa_cmp .lt x y = true := decide_eq_true h
theorem xd_ltF {x y : Int32} (h : y ≤ x) : xa_cmp .lt x y = false := decide_eq_false (xi_nlt h)
theorem xd_geT {x y : Int32} (h : y ≤ x) : xa_cmp .ge x y = true := decide_eq_true h
theorem xd_geF {x y : Int32} (h : x < y) : xa_cmp .ge x y = false := decide_eq_false (xi_nle h)
theorem xd_gtT {x y : Int32} (h : y < x) : xa_cmp .gt x y = true := decide_eq_true h
theorem xd_gtF {x y : Int32} (h : x ≤ y) : xa_cmp .gt x y = false := decide_eq_false (xi_nlt h)
theorem xd_leT {x y : Int32} (h : x ≤ y) : xa_cmp .le x y = true := decide_eq_true h
theorem xd_leF {x y : Int32} (h : y < x) : xa_cmp .le x y = false := decide_eq_false (xi_nle h)
def xz (f : Nat → Int32) : Prop := ∀ j, f j = 0 ∨ f j = 1
theorem xn_0 : vp_nar .boolean 0 = 0 := by decide +kernel
theorem xn_1 : vp_nar .boolean 1 = 1 := by decide +kernel
theorem xn_z {f : Nat → Int32} (h : xz f) (j : Nat) : vp_nar .boolean (f j) = f j := by
  rcases h j with e | e <;> rw [e]
  · exact xn_0
  · exact xn_1
theorem xn_b {x : Int32} (h : x = 0 ∨ x = 1) : vp_nar .boolean x = x := by
  rcases h with rfl | rfl
  · exact xn_0
  · exact xn_1
theorem xz_upd {f : Nat → Int32} (h : xz f) {j : Nat} {x : Int32} (hx : x = 0 ∨ x = 1) : xz (upd f j x) := by
  intro i
  unfold upd
  split
  · exact hx
  · exact h i
theorem upd_at (f : Nat → Int32) (j : Nat) (x : Int32) : upd f j x j = x := if_pos rfl
theorem upd_ne (f : Nat → Int32) {i j : Nat} (x : Int32) (h : ¬ i = j) : upd f j x i = f i := if_neg h
theorem xv_rn {mt : Nat → xa_M} {L : Nat} {xs : Nat → Int32} {d w y ip : Nat} {lv : List (Nat × Value)} {h : List va_E} {x x1 : Int32} (hx : x = x1) (hn : xa_r mt y ip [.int x] h = some (.returned (some (.int x)), h, 0, 0)) : xv mt L xs d w y ip lv [.int x] h (.returned (some (.int x1))) h 0 0 := by
  subst hx
  exact xv_r hn
theorem xv_l {mt : Nat → xa_M} {L : Nat} {xs : Nat → Int32} {d w y ip : Nat} {lv lv' : List (Nat × Value)} {st : List Value} {h : List va_E} {o : Outcome} {h' : List va_E} {k z : Nat} (he : xv mt L xs d w y ip lv st h o h' k z) (hl : xq lv lv') : xv mt L xs d w y ip lv' st h o h' k z := xv_lv lv hl he
section XLL
variable {mt : Nat → xa_M} {L : Nat} {xs : Nat → Int32} {d w y ip : Nat} {lv : List (Nat × Value)} {st : List Value} {h : List va_E} {o : Outcome} {h' : List va_E} {k z : Nat}
theorem xv_lrm {pc len nip r q : Nat} {ts : List Nat} {a b c : Int64} (hrow : (xa_rows (mt y))[ip]? = some (pc, .lrem, len, nip, r, q, ts)) (hc : a - a / b * b = c) (hb : ¬ b = 0) (he : xv mt L xs d w y nip lv (.long c :: st) h o h' k z) : xv mt L xs d w y ip lv (.long b :: .long a :: st) h o h' k z := by
  subst hc
  refine xv_s ?_ he
  unfold xa_1
  rw [hrow]
  show xa_if (!decide (b = 0)) _ = _
  rw [decide_eq_false hb]
  rfl
theorem xv_ldv {pc len nip r q : Nat} {ts : List Nat} {a b c : Int64} (hrow : (xa_rows (mt y))[ip]? = some (pc, .ldiv, len, nip, r, q, ts)) (hc : a / b = c) (hb : ¬ b = 0) (he : xv mt L xs d w y nip lv (.long c :: st) h o h' k z) : xv mt L xs d w y ip lv (.long b :: .long a :: st) h o h' k z := by
  subst hc
  refine xv_s ?_ he
  unfold xa_1
  rw [hrow]
  show xa_if (!decide (b = 0)) _ = _
  rw [decide_eq_false hb]
  rfl
theorem xv_idv {pc len nip r q : Nat} {ts : List Nat} {a b c : Int32} (hrow : (xa_rows (mt y))[ip]? = some (pc, .idiv, len, nip, r, q, ts)) (hc : a / b = c) (hb : ¬ b = 0) (he : xv mt L xs d w y nip lv (.int c :: st) h o h' k z) : xv mt L xs d w y ip lv (.int b :: .int a :: st) h o h' k z := by
  subst hc
  refine xv_s ?_ he
  unfold xa_1
  rw [hrow]
  show xa_if (!decide (b = 0)) _ = _
  rw [decide_eq_false hb]
  rfl
theorem xv_irm {pc len nip r q : Nat} {ts : List Nat} {a b c : Int32} (hrow : (xa_rows (mt y))[ip]? = some (pc, .irem, len, nip, r, q, ts)) (hc : a - a / b * b = c) (hb : ¬ b = 0) (he : xv mt L xs d w y nip lv (.int c :: st) h o h' k z) : xv mt L xs d w y ip lv (.int b :: .int a :: st) h o h' k z := by
  subst hc
  refine xv_s ?_ he
  unfold xa_1
  rw [hrow]
  show xa_if (!decide (b = 0)) _ = _
  rw [decide_eq_false hb]
  rfl
end XLL

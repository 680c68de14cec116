section XLA
variable {L : Nat} {xs : Nat → Int32} {d w : Nat} {s s1 r r1 b b1 : Nat → Nat → Int32} {f f1 : Nat → Int64} {g g1 : List va_E}
theorem xv_na {mt : Nat → xa_M} {y ip : Nat} {lv : List (Nat × Value)} {st : List Value} {h : List va_E} {o : Outcome} {h' : List va_E} {k z : Nat} {pc len nip r q : Nat} {t : Jvm.ClassFile.ArrayType} {ts : List Nat} {x : Int32} (n : Nat) (hrow : (xa_rows (mt y))[ip]? = some (pc, .newarray t, len, nip, r, q, ts)) (hx : x = nI n) (hn : n ≤ 100000) (he : xv mt L xs d w y nip lv (.ref (h.length + 1) :: st) (h ++ [xa_z r n]) o h' k z) : xv mt L xs d w y ip lv (.int x :: st) h o h' (1 + k) (n + z) := by
  subst hx
  refine xv_1 ?_ he
  unfold xa_1
  rw [hrow]
  show xa_if (!(decide (nI n < 0)) && decide ((nI n).toNatClampNeg ≤ 100000)) (some (nip, lv, .ref (h.length + 1) :: st, h ++ [xa_z r (nI n).toNatClampNeg], 1, (nI n).toNatClampNeg)) = _
  rw [nI_clamp (by omega), decide_eq_false (nI_pos (by omega)), decide_eq_true hn]
  rfl
theorem xv_las {mt : Nat → xa_M} {y ip : Nat} {lv : List (Nat × Value)} {st : List Value} {h : List va_E} {o : Outcome} {h' : List va_E} {k z : Nat} {pc len nip r q : Nat} {ts : List Nat} {a n : Nat} {f : Nat → Int64} {i : Int32} {x : Int64} (j : Nat) (h1 : List va_E) (hrow : (xa_rows (mt y))[ip]? = some (pc, .lastore, len, nip, r, q, ts)) (hh : h[a]? = some (.inl (2, n, .inr (.inl f)))) (hi : i = nI j) (hj : j < n) (hn : n < 2 ^ 31) (hs : h.set a (.inl (2, n, .inr (.inl (vp_updL f j x)))) = h1)
    (he : xv mt L xs d w y nip lv st h1 o h' k z) : xv mt L xs d w y ip lv (.long x :: .int i :: .ref (a + 1) :: st) h o h' k z := by
  refine xv_s ?_ he
  subst hi hs
  unfold xa_1
  rw [hrow]
  show xa_al h (a + 1) (fun j1 n f => xa_if (xa_inB (nI j) n) (xa_go nip lv st (h.set j1 (.inl (2, n, .inr (.inl (vp_updL f (nI j).toNatClampNeg x))))))) = _
  unfold xa_al
  simp only [hh]
  show xa_if (xa_inB (nI j) n) _ = _
  rw [xa_ift (xa_inB_nI hj hn), nI_clamp (by omega)]
theorem xv_lal {mt : Nat → xa_M} {y ip : Nat} {lv : List (Nat × Value)} {st : List Value} {h : List va_E} {o : Outcome} {h' : List va_E} {k z : Nat} {pc len nip r q : Nat} {ts : List Nat} {a n : Nat} {f : Nat → Int64} {i : Int32} (j : Nat) (hrow : (xa_rows (mt y))[ip]? = some (pc, .laload, len, nip, r, q, ts)) (hh : h[a]? = some (.inl (2, n, .inr (.inl f)))) (hi : i = nI j) (hj : j < n) (hn : n < 2 ^ 31)
    (he : xv mt L xs d w y nip lv (.long (f j) :: st) h o h' k z) : xv mt L xs d w y ip lv (.int i :: .ref (a + 1) :: st) h o h' k z := by
  refine xv_s ?_ he
  subst hi
  unfold xa_1
  rw [hrow]
  show xa_al h (a + 1) (fun _ n f => xa_if (xa_inB (nI j) n) (xa_go nip lv (.long (f (nI j).toNatClampNeg) :: st) h)) = _
  unfold xa_al
  simp only [hh]
  show xa_if (xa_inB (nI j) n) _ = _
  rw [xa_ift (xa_inB_nI hj hn), nI_clamp (by omega)]
theorem xa_hnd_last {hs : List (Nat × Nat)} {h : List va_E} {c : Nat} {fs : List Value} : xa_hnd hs (h ++ [.inr (c, fs)]) (h.length + 1) = (hs.find? (fun q => Nat.beq q.1 c)).map (fun q => q.2) := by
  unfold xa_hnd
  simp only [List.getElem?_append_right (Nat.le_refl _), Nat.sub_self]
  rfl
theorem xv_nae {mt : Nat → xa_M} {y ip : Nat} {lv : List (Nat × Value)} {st : List Value} {h : List va_E} {o : Outcome} {h' : List va_E} {K Z : Nat} {pc len nip r q : Nat} {t : Jvm.ClassFile.ArrayType} {ts : List Nat} {x : Int32} (n k z : Nat) (hrow : (xa_rows (mt y))[ip]? = some (pc, .newarray t, len, nip, r, q, ts)) (hx : x = nI n) (hn : n ≤ 100000) (hk : K = 1 + k) (hz : Z = n + z) (he : xv mt L xs d w y nip lv (.ref (h.length + 1) :: st) (h ++ [xa_z r n]) o h' k z) : xv mt L xs d w y ip lv (.int x :: st) h o h' K Z := by
  subst hk hz
  exact xv_na n hrow hx hn he
theorem xv_1e {mt : Nat → xa_M} {y ip : Nat} {lv : List (Nat × Value)} {st : List Value} {h : List va_E} {o : Outcome} {h' : List va_E} {K Z ip' k1 z1 : Nat} {lv' : List (Nat × Value)} {st' : List Value} {h1 : List va_E} (k z : Nat) (hn : xa_1 mt L xs y ip lv st h = some (ip', lv', st', h1, k1, z1)) (hk : K = k1 + k) (hz : Z = z1 + z) (he : xv mt L xs d w y ip' lv' st' h1 o h' k z) : xv mt L xs d w y ip lv st h o h' K Z := by
  subst hk hz
  exact xv_1 hn he
theorem xv_ce {mt : Nat → xa_M} {y ip : Nat} {lv : List (Nat × Value)} {st : List Value} {h : List va_E} {o : Outcome} {h' : List va_E} {K Z r nip cost k1 z1 : Nat} {lc : List (Nat × Value)} {rest : List Value} {v : Option Value} {h1 : List va_E} (k z : Nat) (hc : xa_cl mt y ip st h = some (r, nip, cost, lc, rest)) (hd : 1 ≤ d) (hw : cost ≤ w) (hcal : xv mt L xs (d - 1) (w - cost) r 0 lc [] h (.returned v) h1 k1 z1) (hk : K = k1 + k) (hz : Z = z1 + z) (he : xv mt L xs d w y nip lv (v.toList ++ rest) h1 o h' k z) : xv mt L xs d w y ip lv st h o h' K Z := by
  subst hk hz
  exact xv_c hc hd hw hcal he
def xo (f : Nat → Int64) : va_E := .inl (2, 1, .inr (.inl f))
def xI : Nat → Nat → Int32 := fun c j => bif Nat.beq c 0 && Nat.beq j 7 then nI 5 else 0
def xJ : Nat → Nat → Int32 := fun _ _ => 0
theorem k_40 (hd : 1 ≤ d) (hw : 30 ≤ w) : xv xm L xs d w 40 0 [(0, .ref 2)] [] [.inr (0, [.null, .null, .null, .null, .null, .int 0, .int 0, .int 0, .int 0]), .inr (1, [.null, .null, .null, .null, .null, .null, .null, .int 0])] (.returned none) [.inr (0, [.null, .null, .null, .null, .null, .int 0, .int 0, .int 0, .int 0]), .inr (1, [.ref 3, .ref 4, .ref 5, .ref 6, .ref 7, .ref 8, .ref 9, .int (nI 0)]), .inl (0, 30, .inl fun _ => 0), .inl (1, 30, .inl fun _ => 0), .inl (0, 30, .inl fun _ => 0), .inl (0, 30, .inl fun _ => 0), .inl (0, 30, .inl fun _ => 0), .inl (0, 150, .inl fun _ => 0), .inl (0, 3000, .inl fun _ => 0)] 7 3300 := by
  refine xv_m 1 rfl ?_
  refine xv_o rfl (by omega) (by omega) ?_
  refine xv_m 2 rfl ?_
  refine xv_nae 30 6 3270 rfl rfl (by omega) rfl rfl ?_
  refine xv_m 1 (h1 := [.inr (0, [.null, .null, .null, .null, .null, .int 0, .int 0, .int 0, .int 0]), .inr (1, [.ref 3, .null, .null, .null, .null, .null, .null, .int 0]), .inl (0, 30, .inl fun _ => 0)]) rfl ?_
  refine xv_m 2 rfl ?_
  refine xv_nae 30 5 3240 rfl rfl (by omega) rfl rfl ?_
  refine xv_m 1 (h1 := [.inr (0, [.null, .null, .null, .null, .null, .int 0, .int 0, .int 0, .int 0]), .inr (1, [.ref 3, .ref 4, .null, .null, .null, .null, .null, .int 0]), .inl (0, 30, .inl fun _ => 0), .inl (1, 30, .inl fun _ => 0)]) rfl ?_
  refine xv_m 2 rfl ?_
  refine xv_nae 30 4 3210 rfl rfl (by omega) rfl rfl ?_
  refine xv_m 1 (h1 := [.inr (0, [.null, .null, .null, .null, .null, .int 0, .int 0, .int 0, .int 0]), .inr (1, [.ref 3, .ref 4, .ref 5, .null, .null, .null, .null, .int 0]), .inl (0, 30, .inl fun _ => 0), .inl (1, 30, .inl fun _ => 0), .inl (0, 30, .inl fun _ => 0)]) rfl ?_
  refine xv_m 2 rfl ?_
  refine xv_nae 30 3 3180 rfl rfl (by omega) rfl rfl ?_
  refine xv_m 1 (h1 := [.inr (0, [.null, .null, .null, .null, .null, .int 0, .int 0, .int 0, .int 0]), .inr (1, [.ref 3, .ref 4, .ref 5, .ref 6, .null, .null, .null, .int 0]), .inl (0, 30, .inl fun _ => 0), .inl (1, 30, .inl fun _ => 0), .inl (0, 30, .inl fun _ => 0), .inl (0, 30, .inl fun _ => 0)]) rfl ?_
  refine xv_m 2 rfl ?_
  refine xv_nae 30 2 3150 rfl rfl (by omega) rfl rfl ?_
  refine xv_m 1 (h1 := [.inr (0, [.null, .null, .null, .null, .null, .int 0, .int 0, .int 0, .int 0]), .inr (1, [.ref 3, .ref 4, .ref 5, .ref 6, .ref 7, .null, .null, .int 0]), .inl (0, 30, .inl fun _ => 0), .inl (1, 30, .inl fun _ => 0), .inl (0, 30, .inl fun _ => 0), .inl (0, 30, .inl fun _ => 0), .inl (0, 30, .inl fun _ => 0)]) rfl ?_
  refine xv_m 2 rfl ?_
  refine xv_nae 150 1 3000 rfl rfl (by omega) rfl rfl ?_
  refine xv_m 1 (h1 := [.inr (0, [.null, .null, .null, .null, .null, .int 0, .int 0, .int 0, .int 0]), .inr (1, [.ref 3, .ref 4, .ref 5, .ref 6, .ref 7, .ref 8, .null, .int 0]), .inl (0, 30, .inl fun _ => 0), .inl (1, 30, .inl fun _ => 0), .inl (0, 30, .inl fun _ => 0), .inl (0, 30, .inl fun _ => 0), .inl (0, 30, .inl fun _ => 0), .inl (0, 150, .inl fun _ => 0)]) rfl ?_
  refine xv_m 2 rfl ?_
  refine xv_nae 3000 0 0 rfl rfl (by omega) rfl rfl ?_
  refine xv_m 1 (h1 := [.inr (0, [.null, .null, .null, .null, .null, .int 0, .int 0, .int 0, .int 0]), .inr (1, [.ref 3, .ref 4, .ref 5, .ref 6, .ref 7, .ref 8, .ref 9, .int 0]), .inl (0, 30, .inl fun _ => 0), .inl (1, 30, .inl fun _ => 0), .inl (0, 30, .inl fun _ => 0), .inl (0, 30, .inl fun _ => 0), .inl (0, 30, .inl fun _ => 0), .inl (0, 150, .inl fun _ => 0), .inl (0, 3000, .inl fun _ => 0)]) rfl ?_
  refine xv_m 3 (h1 := [.inr (0, [.null, .null, .null, .null, .null, .int 0, .int 0, .int 0, .int 0]), .inr (1, [.ref 3, .ref 4, .ref 5, .ref 6, .ref 7, .ref 8, .ref 9, .int (nI 0)]), .inl (0, 30, .inl fun _ => 0), .inl (1, 30, .inl fun _ => 0), .inl (0, 30, .inl fun _ => 0), .inl (0, 30, .inl fun _ => 0), .inl (0, 30, .inl fun _ => 0), .inl (0, 150, .inl fun _ => 0), .inl (0, 3000, .inl fun _ => 0)]) rfl ?_
  exact xv_r rfl
theorem k_54 (hd : 1 ≤ d) (hw : 30 ≤ w) : xv xm L xs d w 54 0 [(0, .ref 10)] [] [.inr (0, [.ref 2, .null, .null, .null, .null, .int 0, .int 0, .int 0, .int 0]), .inr (1, [.ref 3, .ref 4, .ref 5, .ref 6, .ref 7, .ref 8, .ref 9, .int (nI 0)]), .inl (0, 30, .inl fun _ => 0), .inl (1, 30, .inl fun _ => 0), .inl (0, 30, .inl fun _ => 0), .inl (0, 30, .inl fun _ => 0), .inl (0, 30, .inl fun _ => 0), .inl (0, 150, .inl fun _ => 0), .inl (0, 3000, .inl fun _ => 0), .inr (2, [.null, .null, .int 0])] (.returned none) [.inr (0, [.ref 2, .null, .null, .null, .null, .int 0, .int 0, .int 0, .int 0]), .inr (1, [.ref 3, .ref 4, .ref 5, .ref 6, .ref 7, .ref 8, .ref 9, .int (nI 0)]), .inl (0, 30, .inl fun _ => 0), .inl (1, 30, .inl fun _ => 0), .inl (0, 30, .inl fun _ => 0), .inl (0, 30, .inl fun _ => 0), .inl (0, 30, .inl fun _ => 0), .inl (0, 150, .inl fun _ => 0), .inl (0, 3000, .inl fun _ => 0), .inr (2, [.ref 11, .ref 12, .int (nI 0)]), .inl (0, 30, .inl fun _ => 0), .inl (0, 900, .inl fun _ => 0)] 2 930 := by
  refine xv_m 1 rfl ?_
  refine xv_o rfl (by omega) (by omega) ?_
  refine xv_m 2 rfl ?_
  refine xv_nae 30 1 900 rfl rfl (by omega) rfl rfl ?_
  refine xv_m 1 (h1 := [.inr (0, [.ref 2, .null, .null, .null, .null, .int 0, .int 0, .int 0, .int 0]), .inr (1, [.ref 3, .ref 4, .ref 5, .ref 6, .ref 7, .ref 8, .ref 9, .int (nI 0)]), .inl (0, 30, .inl fun _ => 0), .inl (1, 30, .inl fun _ => 0), .inl (0, 30, .inl fun _ => 0), .inl (0, 30, .inl fun _ => 0), .inl (0, 30, .inl fun _ => 0), .inl (0, 150, .inl fun _ => 0), .inl (0, 3000, .inl fun _ => 0), .inr (2, [.ref 11, .null, .int 0]), .inl (0, 30, .inl fun _ => 0)]) rfl ?_
  refine xv_m 2 rfl ?_
  refine xv_nae 900 0 0 rfl rfl (by omega) rfl rfl ?_
  refine xv_m 1 (h1 := [.inr (0, [.ref 2, .null, .null, .null, .null, .int 0, .int 0, .int 0, .int 0]), .inr (1, [.ref 3, .ref 4, .ref 5, .ref 6, .ref 7, .ref 8, .ref 9, .int (nI 0)]), .inl (0, 30, .inl fun _ => 0), .inl (1, 30, .inl fun _ => 0), .inl (0, 30, .inl fun _ => 0), .inl (0, 30, .inl fun _ => 0), .inl (0, 30, .inl fun _ => 0), .inl (0, 150, .inl fun _ => 0), .inl (0, 3000, .inl fun _ => 0), .inr (2, [.ref 11, .ref 12, .int 0]), .inl (0, 30, .inl fun _ => 0), .inl (0, 900, .inl fun _ => 0)]) rfl ?_
  refine xv_m 3 (h1 := [.inr (0, [.ref 2, .null, .null, .null, .null, .int 0, .int 0, .int 0, .int 0]), .inr (1, [.ref 3, .ref 4, .ref 5, .ref 6, .ref 7, .ref 8, .ref 9, .int (nI 0)]), .inl (0, 30, .inl fun _ => 0), .inl (1, 30, .inl fun _ => 0), .inl (0, 30, .inl fun _ => 0), .inl (0, 30, .inl fun _ => 0), .inl (0, 30, .inl fun _ => 0), .inl (0, 150, .inl fun _ => 0), .inl (0, 3000, .inl fun _ => 0), .inr (2, [.ref 11, .ref 12, .int (nI 0)]), .inl (0, 30, .inl fun _ => 0), .inl (0, 900, .inl fun _ => 0)]) rfl ?_
  exact xv_r rfl
theorem k_62 (hd : 1 ≤ d) (hw : 30 ≤ w) : xv xm L xs d w 62 0 [(0, .ref 13)] [] [.inr (0, [.ref 2, .ref 10, .null, .null, .null, .int 0, .int 0, .int 0, .int 0]), .inr (1, [.ref 3, .ref 4, .ref 5, .ref 6, .ref 7, .ref 8, .ref 9, .int (nI 0)]), .inl (0, 30, .inl fun _ => 0), .inl (1, 30, .inl fun _ => 0), .inl (0, 30, .inl fun _ => 0), .inl (0, 30, .inl fun _ => 0), .inl (0, 30, .inl fun _ => 0), .inl (0, 150, .inl fun _ => 0), .inl (0, 3000, .inl fun _ => 0), .inr (2, [.ref 11, .ref 12, .int (nI 0)]), .inl (0, 30, .inl fun _ => 0), .inl (0, 900, .inl fun _ => 0), .inr (3, [.null, .null, .null, .null, .int 0])] (.returned none) [.inr (0, [.ref 2, .ref 10, .null, .null, .null, .int 0, .int 0, .int 0, .int 0]), .inr (1, [.ref 3, .ref 4, .ref 5, .ref 6, .ref 7, .ref 8, .ref 9, .int (nI 0)]), .inl (0, 30, .inl fun _ => 0), .inl (1, 30, .inl fun _ => 0), .inl (0, 30, .inl fun _ => 0), .inl (0, 30, .inl fun _ => 0), .inl (0, 30, .inl fun _ => 0), .inl (0, 150, .inl fun _ => 0), .inl (0, 3000, .inl fun _ => 0), .inr (2, [.ref 11, .ref 12, .int (nI 0)]), .inl (0, 30, .inl fun _ => 0), .inl (0, 900, .inl fun _ => 0), .inr (3, [.ref 14, .ref 15, .ref 16, .ref 17, .int (nI 0)]), .inl (0, 100, .inl fun _ => 0), .inl (1, 100, .inl fun _ => 0), .inl (0, 100, .inl fun _ => 0), .inl (0, 100, .inl fun _ => 0)] 4 400 := by
  refine xv_m 1 rfl ?_
  refine xv_o rfl (by omega) (by omega) ?_
  refine xv_m 2 rfl ?_
  refine xv_nae 100 3 300 rfl rfl (by omega) rfl rfl ?_
  refine xv_m 1 (h1 := [.inr (0, [.ref 2, .ref 10, .null, .null, .null, .int 0, .int 0, .int 0, .int 0]), .inr (1, [.ref 3, .ref 4, .ref 5, .ref 6, .ref 7, .ref 8, .ref 9, .int (nI 0)]), .inl (0, 30, .inl fun _ => 0), .inl (1, 30, .inl fun _ => 0), .inl (0, 30, .inl fun _ => 0), .inl (0, 30, .inl fun _ => 0), .inl (0, 30, .inl fun _ => 0), .inl (0, 150, .inl fun _ => 0), .inl (0, 3000, .inl fun _ => 0), .inr (2, [.ref 11, .ref 12, .int (nI 0)]), .inl (0, 30, .inl fun _ => 0), .inl (0, 900, .inl fun _ => 0), .inr (3, [.ref 14, .null, .null, .null, .int 0]), .inl (0, 100, .inl fun _ => 0)]) rfl ?_
  refine xv_m 2 rfl ?_
  refine xv_nae 100 2 200 rfl rfl (by omega) rfl rfl ?_
  refine xv_m 1 (h1 := [.inr (0, [.ref 2, .ref 10, .null, .null, .null, .int 0, .int 0, .int 0, .int 0]), .inr (1, [.ref 3, .ref 4, .ref 5, .ref 6, .ref 7, .ref 8, .ref 9, .int (nI 0)]), .inl (0, 30, .inl fun _ => 0), .inl (1, 30, .inl fun _ => 0), .inl (0, 30, .inl fun _ => 0), .inl (0, 30, .inl fun _ => 0), .inl (0, 30, .inl fun _ => 0), .inl (0, 150, .inl fun _ => 0), .inl (0, 3000, .inl fun _ => 0), .inr (2, [.ref 11, .ref 12, .int (nI 0)]), .inl (0, 30, .inl fun _ => 0), .inl (0, 900, .inl fun _ => 0), .inr (3, [.ref 14, .ref 15, .null, .null, .int 0]), .inl (0, 100, .inl fun _ => 0), .inl (1, 100, .inl fun _ => 0)]) rfl ?_
  refine xv_m 2 rfl ?_
  refine xv_nae 100 1 100 rfl rfl (by omega) rfl rfl ?_
  refine xv_m 1 (h1 := [.inr (0, [.ref 2, .ref 10, .null, .null, .null, .int 0, .int 0, .int 0, .int 0]), .inr (1, [.ref 3, .ref 4, .ref 5, .ref 6, .ref 7, .ref 8, .ref 9, .int (nI 0)]), .inl (0, 30, .inl fun _ => 0), .inl (1, 30, .inl fun _ => 0), .inl (0, 30, .inl fun _ => 0), .inl (0, 30, .inl fun _ => 0), .inl (0, 30, .inl fun _ => 0), .inl (0, 150, .inl fun _ => 0), .inl (0, 3000, .inl fun _ => 0), .inr (2, [.ref 11, .ref 12, .int (nI 0)]), .inl (0, 30, .inl fun _ => 0), .inl (0, 900, .inl fun _ => 0), .inr (3, [.ref 14, .ref 15, .ref 16, .null, .int 0]), .inl (0, 100, .inl fun _ => 0), .inl (1, 100, .inl fun _ => 0), .inl (0, 100, .inl fun _ => 0)]) rfl ?_
  refine xv_m 2 rfl ?_
  refine xv_nae 100 0 0 rfl rfl (by omega) rfl rfl ?_
  refine xv_m 1 (h1 := [.inr (0, [.ref 2, .ref 10, .null, .null, .null, .int 0, .int 0, .int 0, .int 0]), .inr (1, [.ref 3, .ref 4, .ref 5, .ref 6, .ref 7, .ref 8, .ref 9, .int (nI 0)]), .inl (0, 30, .inl fun _ => 0), .inl (1, 30, .inl fun _ => 0), .inl (0, 30, .inl fun _ => 0), .inl (0, 30, .inl fun _ => 0), .inl (0, 30, .inl fun _ => 0), .inl (0, 150, .inl fun _ => 0), .inl (0, 3000, .inl fun _ => 0), .inr (2, [.ref 11, .ref 12, .int (nI 0)]), .inl (0, 30, .inl fun _ => 0), .inl (0, 900, .inl fun _ => 0), .inr (3, [.ref 14, .ref 15, .ref 16, .ref 17, .int 0]), .inl (0, 100, .inl fun _ => 0), .inl (1, 100, .inl fun _ => 0), .inl (0, 100, .inl fun _ => 0), .inl (0, 100, .inl fun _ => 0)]) rfl ?_
  refine xv_m 3 (h1 := [.inr (0, [.ref 2, .ref 10, .null, .null, .null, .int 0, .int 0, .int 0, .int 0]), .inr (1, [.ref 3, .ref 4, .ref 5, .ref 6, .ref 7, .ref 8, .ref 9, .int (nI 0)]), .inl (0, 30, .inl fun _ => 0), .inl (1, 30, .inl fun _ => 0), .inl (0, 30, .inl fun _ => 0), .inl (0, 30, .inl fun _ => 0), .inl (0, 30, .inl fun _ => 0), .inl (0, 150, .inl fun _ => 0), .inl (0, 3000, .inl fun _ => 0), .inr (2, [.ref 11, .ref 12, .int (nI 0)]), .inl (0, 30, .inl fun _ => 0), .inl (0, 900, .inl fun _ => 0), .inr (3, [.ref 14, .ref 15, .ref 16, .ref 17, .int (nI 0)]), .inl (0, 100, .inl fun _ => 0), .inl (1, 100, .inl fun _ => 0), .inl (0, 100, .inl fun _ => 0), .inl (0, 100, .inl fun _ => 0)]) rfl ?_
  exact xv_r rfl
theorem k_74 (hd : 1 ≤ d) (hw : 30 ≤ w) : xv xm L xs d w 74 0 [(0, .ref 18)] [] [.inr (0, [.ref 2, .ref 10, .ref 13, .null, .null, .int 0, .int 0, .int 0, .int 0]), .inr (1, [.ref 3, .ref 4, .ref 5, .ref 6, .ref 7, .ref 8, .ref 9, .int (nI 0)]), .inl (0, 30, .inl fun _ => 0), .inl (1, 30, .inl fun _ => 0), .inl (0, 30, .inl fun _ => 0), .inl (0, 30, .inl fun _ => 0), .inl (0, 30, .inl fun _ => 0), .inl (0, 150, .inl fun _ => 0), .inl (0, 3000, .inl fun _ => 0), .inr (2, [.ref 11, .ref 12, .int (nI 0)]), .inl (0, 30, .inl fun _ => 0), .inl (0, 900, .inl fun _ => 0), .inr (3, [.ref 14, .ref 15, .ref 16, .ref 17, .int (nI 0)]), .inl (0, 100, .inl fun _ => 0), .inl (1, 100, .inl fun _ => 0), .inl (0, 100, .inl fun _ => 0), .inl (0, 100, .inl fun _ => 0), .inr (4, [.null, .null, .null, .null, .null, .int 0, .int 0])] (.returned none) [.inr (0, [.ref 2, .ref 10, .ref 13, .null, .null, .int 0, .int 0, .int 0, .int 0]), .inr (1, [.ref 3, .ref 4, .ref 5, .ref 6, .ref 7, .ref 8, .ref 9, .int (nI 0)]), .inl (0, 30, .inl fun _ => 0), .inl (1, 30, .inl fun _ => 0), .inl (0, 30, .inl fun _ => 0), .inl (0, 30, .inl fun _ => 0), .inl (0, 30, .inl fun _ => 0), .inl (0, 150, .inl fun _ => 0), .inl (0, 3000, .inl fun _ => 0), .inr (2, [.ref 11, .ref 12, .int (nI 0)]), .inl (0, 30, .inl fun _ => 0), .inl (0, 900, .inl fun _ => 0), .inr (3, [.ref 14, .ref 15, .ref 16, .ref 17, .int (nI 0)]), .inl (0, 100, .inl fun _ => 0), .inl (1, 100, .inl fun _ => 0), .inl (0, 100, .inl fun _ => 0), .inl (0, 100, .inl fun _ => 0), .inr (4, [.ref 19, .ref 20, .ref 21, .ref 22, .ref 23, .int (nI 0), .int (nI 0)]), .inl (0, 60, .inl fun _ => 0), .inl (1, 60, .inl fun _ => 0), .inl (1, 600, .inl fun _ => 0), .inl (0, 60, .inl fun _ => 0), .inl (0, 60, .inl fun _ => 0)] 5 840 := by
  refine xv_m 1 rfl ?_
  refine xv_o rfl (by omega) (by omega) ?_
  refine xv_m 2 rfl ?_
  refine xv_nae 60 4 780 rfl rfl (by omega) rfl rfl ?_
  refine xv_m 1 (h1 := [.inr (0, [.ref 2, .ref 10, .ref 13, .null, .null, .int 0, .int 0, .int 0, .int 0]), .inr (1, [.ref 3, .ref 4, .ref 5, .ref 6, .ref 7, .ref 8, .ref 9, .int (nI 0)]), .inl (0, 30, .inl fun _ => 0), .inl (1, 30, .inl fun _ => 0), .inl (0, 30, .inl fun _ => 0), .inl (0, 30, .inl fun _ => 0), .inl (0, 30, .inl fun _ => 0), .inl (0, 150, .inl fun _ => 0), .inl (0, 3000, .inl fun _ => 0), .inr (2, [.ref 11, .ref 12, .int (nI 0)]), .inl (0, 30, .inl fun _ => 0), .inl (0, 900, .inl fun _ => 0), .inr (3, [.ref 14, .ref 15, .ref 16, .ref 17, .int (nI 0)]), .inl (0, 100, .inl fun _ => 0), .inl (1, 100, .inl fun _ => 0), .inl (0, 100, .inl fun _ => 0), .inl (0, 100, .inl fun _ => 0), .inr (4, [.ref 19, .null, .null, .null, .null, .int 0, .int 0]), .inl (0, 60, .inl fun _ => 0)]) rfl ?_
  refine xv_m 2 rfl ?_
  refine xv_nae 60 3 720 rfl rfl (by omega) rfl rfl ?_
  refine xv_m 1 (h1 := [.inr (0, [.ref 2, .ref 10, .ref 13, .null, .null, .int 0, .int 0, .int 0, .int 0]), .inr (1, [.ref 3, .ref 4, .ref 5, .ref 6, .ref 7, .ref 8, .ref 9, .int (nI 0)]), .inl (0, 30, .inl fun _ => 0), .inl (1, 30, .inl fun _ => 0), .inl (0, 30, .inl fun _ => 0), .inl (0, 30, .inl fun _ => 0), .inl (0, 30, .inl fun _ => 0), .inl (0, 150, .inl fun _ => 0), .inl (0, 3000, .inl fun _ => 0), .inr (2, [.ref 11, .ref 12, .int (nI 0)]), .inl (0, 30, .inl fun _ => 0), .inl (0, 900, .inl fun _ => 0), .inr (3, [.ref 14, .ref 15, .ref 16, .ref 17, .int (nI 0)]), .inl (0, 100, .inl fun _ => 0), .inl (1, 100, .inl fun _ => 0), .inl (0, 100, .inl fun _ => 0), .inl (0, 100, .inl fun _ => 0), .inr (4, [.ref 19, .ref 20, .null, .null, .null, .int 0, .int 0]), .inl (0, 60, .inl fun _ => 0), .inl (1, 60, .inl fun _ => 0)]) rfl ?_
  refine xv_m 2 rfl ?_
  refine xv_nae 600 2 120 rfl rfl (by omega) rfl rfl ?_
  refine xv_m 1 (h1 := [.inr (0, [.ref 2, .ref 10, .ref 13, .null, .null, .int 0, .int 0, .int 0, .int 0]), .inr (1, [.ref 3, .ref 4, .ref 5, .ref 6, .ref 7, .ref 8, .ref 9, .int (nI 0)]), .inl (0, 30, .inl fun _ => 0), .inl (1, 30, .inl fun _ => 0), .inl (0, 30, .inl fun _ => 0), .inl (0, 30, .inl fun _ => 0), .inl (0, 30, .inl fun _ => 0), .inl (0, 150, .inl fun _ => 0), .inl (0, 3000, .inl fun _ => 0), .inr (2, [.ref 11, .ref 12, .int (nI 0)]), .inl (0, 30, .inl fun _ => 0), .inl (0, 900, .inl fun _ => 0), .inr (3, [.ref 14, .ref 15, .ref 16, .ref 17, .int (nI 0)]), .inl (0, 100, .inl fun _ => 0), .inl (1, 100, .inl fun _ => 0), .inl (0, 100, .inl fun _ => 0), .inl (0, 100, .inl fun _ => 0), .inr (4, [.ref 19, .ref 20, .ref 21, .null, .null, .int 0, .int 0]), .inl (0, 60, .inl fun _ => 0), .inl (1, 60, .inl fun _ => 0), .inl (1, 600, .inl fun _ => 0)]) rfl ?_
  refine xv_m 2 rfl ?_
  refine xv_nae 60 1 60 rfl rfl (by omega) rfl rfl ?_
  refine xv_m 1 (h1 := [.inr (0, [.ref 2, .ref 10, .ref 13, .null, .null, .int 0, .int 0, .int 0, .int 0]), .inr (1, [.ref 3, .ref 4, .ref 5, .ref 6, .ref 7, .ref 8, .ref 9, .int (nI 0)]), .inl (0, 30, .inl fun _ => 0), .inl (1, 30, .inl fun _ => 0), .inl (0, 30, .inl fun _ => 0), .inl (0, 30, .inl fun _ => 0), .inl (0, 30, .inl fun _ => 0), .inl (0, 150, .inl fun _ => 0), .inl (0, 3000, .inl fun _ => 0), .inr (2, [.ref 11, .ref 12, .int (nI 0)]), .inl (0, 30, .inl fun _ => 0), .inl (0, 900, .inl fun _ => 0), .inr (3, [.ref 14, .ref 15, .ref 16, .ref 17, .int (nI 0)]), .inl (0, 100, .inl fun _ => 0), .inl (1, 100, .inl fun _ => 0), .inl (0, 100, .inl fun _ => 0), .inl (0, 100, .inl fun _ => 0), .inr (4, [.ref 19, .ref 20, .ref 21, .ref 22, .null, .int 0, .int 0]), .inl (0, 60, .inl fun _ => 0), .inl (1, 60, .inl fun _ => 0), .inl (1, 600, .inl fun _ => 0), .inl (0, 60, .inl fun _ => 0)]) rfl ?_
  refine xv_m 2 rfl ?_
  refine xv_nae 60 0 0 rfl rfl (by omega) rfl rfl ?_
  refine xv_m 1 (h1 := [.inr (0, [.ref 2, .ref 10, .ref 13, .null, .null, .int 0, .int 0, .int 0, .int 0]), .inr (1, [.ref 3, .ref 4, .ref 5, .ref 6, .ref 7, .ref 8, .ref 9, .int (nI 0)]), .inl (0, 30, .inl fun _ => 0), .inl (1, 30, .inl fun _ => 0), .inl (0, 30, .inl fun _ => 0), .inl (0, 30, .inl fun _ => 0), .inl (0, 30, .inl fun _ => 0), .inl (0, 150, .inl fun _ => 0), .inl (0, 3000, .inl fun _ => 0), .inr (2, [.ref 11, .ref 12, .int (nI 0)]), .inl (0, 30, .inl fun _ => 0), .inl (0, 900, .inl fun _ => 0), .inr (3, [.ref 14, .ref 15, .ref 16, .ref 17, .int (nI 0)]), .inl (0, 100, .inl fun _ => 0), .inl (1, 100, .inl fun _ => 0), .inl (0, 100, .inl fun _ => 0), .inl (0, 100, .inl fun _ => 0), .inr (4, [.ref 19, .ref 20, .ref 21, .ref 22, .ref 23, .int 0, .int 0]), .inl (0, 60, .inl fun _ => 0), .inl (1, 60, .inl fun _ => 0), .inl (1, 600, .inl fun _ => 0), .inl (0, 60, .inl fun _ => 0), .inl (0, 60, .inl fun _ => 0)]) rfl ?_
  refine xv_m 3 (h1 := [.inr (0, [.ref 2, .ref 10, .ref 13, .null, .null, .int 0, .int 0, .int 0, .int 0]), .inr (1, [.ref 3, .ref 4, .ref 5, .ref 6, .ref 7, .ref 8, .ref 9, .int (nI 0)]), .inl (0, 30, .inl fun _ => 0), .inl (1, 30, .inl fun _ => 0), .inl (0, 30, .inl fun _ => 0), .inl (0, 30, .inl fun _ => 0), .inl (0, 30, .inl fun _ => 0), .inl (0, 150, .inl fun _ => 0), .inl (0, 3000, .inl fun _ => 0), .inr (2, [.ref 11, .ref 12, .int (nI 0)]), .inl (0, 30, .inl fun _ => 0), .inl (0, 900, .inl fun _ => 0), .inr (3, [.ref 14, .ref 15, .ref 16, .ref 17, .int (nI 0)]), .inl (0, 100, .inl fun _ => 0), .inl (1, 100, .inl fun _ => 0), .inl (0, 100, .inl fun _ => 0), .inl (0, 100, .inl fun _ => 0), .inr (4, [.ref 19, .ref 20, .ref 21, .ref 22, .ref 23, .int (nI 0), .int 0]), .inl (0, 60, .inl fun _ => 0), .inl (1, 60, .inl fun _ => 0), .inl (1, 600, .inl fun _ => 0), .inl (0, 60, .inl fun _ => 0), .inl (0, 60, .inl fun _ => 0)]) rfl ?_
  refine xv_m 3 (h1 := [.inr (0, [.ref 2, .ref 10, .ref 13, .null, .null, .int 0, .int 0, .int 0, .int 0]), .inr (1, [.ref 3, .ref 4, .ref 5, .ref 6, .ref 7, .ref 8, .ref 9, .int (nI 0)]), .inl (0, 30, .inl fun _ => 0), .inl (1, 30, .inl fun _ => 0), .inl (0, 30, .inl fun _ => 0), .inl (0, 30, .inl fun _ => 0), .inl (0, 30, .inl fun _ => 0), .inl (0, 150, .inl fun _ => 0), .inl (0, 3000, .inl fun _ => 0), .inr (2, [.ref 11, .ref 12, .int (nI 0)]), .inl (0, 30, .inl fun _ => 0), .inl (0, 900, .inl fun _ => 0), .inr (3, [.ref 14, .ref 15, .ref 16, .ref 17, .int (nI 0)]), .inl (0, 100, .inl fun _ => 0), .inl (1, 100, .inl fun _ => 0), .inl (0, 100, .inl fun _ => 0), .inl (0, 100, .inl fun _ => 0), .inr (4, [.ref 19, .ref 20, .ref 21, .ref 22, .ref 23, .int (nI 0), .int (nI 0)]), .inl (0, 60, .inl fun _ => 0), .inl (1, 60, .inl fun _ => 0), .inl (1, 600, .inl fun _ => 0), .inl (0, 60, .inl fun _ => 0), .inl (0, 60, .inl fun _ => 0)]) rfl ?_
  exact xv_r rfl
theorem k_89 (hd : 1 ≤ d) (hw : 30 ≤ w) : xv xm L xs d w 89 0 [(0, .ref 24)] [] [.inr (0, [.ref 2, .ref 10, .ref 13, .ref 18, .null, .int 0, .int 0, .int 0, .int 0]), .inr (1, [.ref 3, .ref 4, .ref 5, .ref 6, .ref 7, .ref 8, .ref 9, .int (nI 0)]), .inl (0, 30, .inl fun _ => 0), .inl (1, 30, .inl fun _ => 0), .inl (0, 30, .inl fun _ => 0), .inl (0, 30, .inl fun _ => 0), .inl (0, 30, .inl fun _ => 0), .inl (0, 150, .inl fun _ => 0), .inl (0, 3000, .inl fun _ => 0), .inr (2, [.ref 11, .ref 12, .int (nI 0)]), .inl (0, 30, .inl fun _ => 0), .inl (0, 900, .inl fun _ => 0), .inr (3, [.ref 14, .ref 15, .ref 16, .ref 17, .int (nI 0)]), .inl (0, 100, .inl fun _ => 0), .inl (1, 100, .inl fun _ => 0), .inl (0, 100, .inl fun _ => 0), .inl (0, 100, .inl fun _ => 0), .inr (4, [.ref 19, .ref 20, .ref 21, .ref 22, .ref 23, .int (nI 0), .int (nI 0)]), .inl (0, 60, .inl fun _ => 0), .inl (1, 60, .inl fun _ => 0), .inl (1, 600, .inl fun _ => 0), .inl (0, 60, .inl fun _ => 0), .inl (0, 60, .inl fun _ => 0), .inr (5, [.null, .null, .null, .int 0])] (.returned none) [.inr (0, [.ref 2, .ref 10, .ref 13, .ref 18, .null, .int 0, .int 0, .int 0, .int 0]), .inr (1, [.ref 3, .ref 4, .ref 5, .ref 6, .ref 7, .ref 8, .ref 9, .int (nI 0)]), .inl (0, 30, .inl fun _ => 0), .inl (1, 30, .inl fun _ => 0), .inl (0, 30, .inl fun _ => 0), .inl (0, 30, .inl fun _ => 0), .inl (0, 30, .inl fun _ => 0), .inl (0, 150, .inl fun _ => 0), .inl (0, 3000, .inl fun _ => 0), .inr (2, [.ref 11, .ref 12, .int (nI 0)]), .inl (0, 30, .inl fun _ => 0), .inl (0, 900, .inl fun _ => 0), .inr (3, [.ref 14, .ref 15, .ref 16, .ref 17, .int (nI 0)]), .inl (0, 100, .inl fun _ => 0), .inl (1, 100, .inl fun _ => 0), .inl (0, 100, .inl fun _ => 0), .inl (0, 100, .inl fun _ => 0), .inr (4, [.ref 19, .ref 20, .ref 21, .ref 22, .ref 23, .int (nI 0), .int (nI 0)]), .inl (0, 60, .inl fun _ => 0), .inl (1, 60, .inl fun _ => 0), .inl (1, 600, .inl fun _ => 0), .inl (0, 60, .inl fun _ => 0), .inl (0, 60, .inl fun _ => 0), .inr (5, [.ref 25, .ref 26, .ref 27, .int (nI 0)]), .inl (0, 300, .inl fun _ => 0), .inl (0, 300, .inl fun _ => 0), .inl (0, 300, .inl fun _ => 0)] 3 900 := by
  refine xv_m 1 rfl ?_
  refine xv_o rfl (by omega) (by omega) ?_
  refine xv_m 2 rfl ?_
  refine xv_nae 300 2 600 rfl rfl (by omega) rfl rfl ?_
  refine xv_m 1 (h1 := [.inr (0, [.ref 2, .ref 10, .ref 13, .ref 18, .null, .int 0, .int 0, .int 0, .int 0]), .inr (1, [.ref 3, .ref 4, .ref 5, .ref 6, .ref 7, .ref 8, .ref 9, .int (nI 0)]), .inl (0, 30, .inl fun _ => 0), .inl (1, 30, .inl fun _ => 0), .inl (0, 30, .inl fun _ => 0), .inl (0, 30, .inl fun _ => 0), .inl (0, 30, .inl fun _ => 0), .inl (0, 150, .inl fun _ => 0), .inl (0, 3000, .inl fun _ => 0), .inr (2, [.ref 11, .ref 12, .int (nI 0)]), .inl (0, 30, .inl fun _ => 0), .inl (0, 900, .inl fun _ => 0), .inr (3, [.ref 14, .ref 15, .ref 16, .ref 17, .int (nI 0)]), .inl (0, 100, .inl fun _ => 0), .inl (1, 100, .inl fun _ => 0), .inl (0, 100, .inl fun _ => 0), .inl (0, 100, .inl fun _ => 0), .inr (4, [.ref 19, .ref 20, .ref 21, .ref 22, .ref 23, .int (nI 0), .int (nI 0)]), .inl (0, 60, .inl fun _ => 0), .inl (1, 60, .inl fun _ => 0), .inl (1, 600, .inl fun _ => 0), .inl (0, 60, .inl fun _ => 0), .inl (0, 60, .inl fun _ => 0), .inr (5, [.ref 25, .null, .null, .int 0]), .inl (0, 300, .inl fun _ => 0)]) rfl ?_
  refine xv_m 2 rfl ?_
  refine xv_nae 300 1 300 rfl rfl (by omega) rfl rfl ?_
  refine xv_m 1 (h1 := [.inr (0, [.ref 2, .ref 10, .ref 13, .ref 18, .null, .int 0, .int 0, .int 0, .int 0]), .inr (1, [.ref 3, .ref 4, .ref 5, .ref 6, .ref 7, .ref 8, .ref 9, .int (nI 0)]), .inl (0, 30, .inl fun _ => 0), .inl (1, 30, .inl fun _ => 0), .inl (0, 30, .inl fun _ => 0), .inl (0, 30, .inl fun _ => 0), .inl (0, 30, .inl fun _ => 0), .inl (0, 150, .inl fun _ => 0), .inl (0, 3000, .inl fun _ => 0), .inr (2, [.ref 11, .ref 12, .int (nI 0)]), .inl (0, 30, .inl fun _ => 0), .inl (0, 900, .inl fun _ => 0), .inr (3, [.ref 14, .ref 15, .ref 16, .ref 17, .int (nI 0)]), .inl (0, 100, .inl fun _ => 0), .inl (1, 100, .inl fun _ => 0), .inl (0, 100, .inl fun _ => 0), .inl (0, 100, .inl fun _ => 0), .inr (4, [.ref 19, .ref 20, .ref 21, .ref 22, .ref 23, .int (nI 0), .int (nI 0)]), .inl (0, 60, .inl fun _ => 0), .inl (1, 60, .inl fun _ => 0), .inl (1, 600, .inl fun _ => 0), .inl (0, 60, .inl fun _ => 0), .inl (0, 60, .inl fun _ => 0), .inr (5, [.ref 25, .ref 26, .null, .int 0]), .inl (0, 300, .inl fun _ => 0), .inl (0, 300, .inl fun _ => 0)]) rfl ?_
  refine xv_m 2 rfl ?_
  refine xv_nae 300 0 0 rfl rfl (by omega) rfl rfl ?_
  refine xv_m 1 (h1 := [.inr (0, [.ref 2, .ref 10, .ref 13, .ref 18, .null, .int 0, .int 0, .int 0, .int 0]), .inr (1, [.ref 3, .ref 4, .ref 5, .ref 6, .ref 7, .ref 8, .ref 9, .int (nI 0)]), .inl (0, 30, .inl fun _ => 0), .inl (1, 30, .inl fun _ => 0), .inl (0, 30, .inl fun _ => 0), .inl (0, 30, .inl fun _ => 0), .inl (0, 30, .inl fun _ => 0), .inl (0, 150, .inl fun _ => 0), .inl (0, 3000, .inl fun _ => 0), .inr (2, [.ref 11, .ref 12, .int (nI 0)]), .inl (0, 30, .inl fun _ => 0), .inl (0, 900, .inl fun _ => 0), .inr (3, [.ref 14, .ref 15, .ref 16, .ref 17, .int (nI 0)]), .inl (0, 100, .inl fun _ => 0), .inl (1, 100, .inl fun _ => 0), .inl (0, 100, .inl fun _ => 0), .inl (0, 100, .inl fun _ => 0), .inr (4, [.ref 19, .ref 20, .ref 21, .ref 22, .ref 23, .int (nI 0), .int (nI 0)]), .inl (0, 60, .inl fun _ => 0), .inl (1, 60, .inl fun _ => 0), .inl (1, 600, .inl fun _ => 0), .inl (0, 60, .inl fun _ => 0), .inl (0, 60, .inl fun _ => 0), .inr (5, [.ref 25, .ref 26, .ref 27, .int 0]), .inl (0, 300, .inl fun _ => 0), .inl (0, 300, .inl fun _ => 0), .inl (0, 300, .inl fun _ => 0)]) rfl ?_
  refine xv_m 3 (h1 := [.inr (0, [.ref 2, .ref 10, .ref 13, .ref 18, .null, .int 0, .int 0, .int 0, .int 0]), .inr (1, [.ref 3, .ref 4, .ref 5, .ref 6, .ref 7, .ref 8, .ref 9, .int (nI 0)]), .inl (0, 30, .inl fun _ => 0), .inl (1, 30, .inl fun _ => 0), .inl (0, 30, .inl fun _ => 0), .inl (0, 30, .inl fun _ => 0), .inl (0, 30, .inl fun _ => 0), .inl (0, 150, .inl fun _ => 0), .inl (0, 3000, .inl fun _ => 0), .inr (2, [.ref 11, .ref 12, .int (nI 0)]), .inl (0, 30, .inl fun _ => 0), .inl (0, 900, .inl fun _ => 0), .inr (3, [.ref 14, .ref 15, .ref 16, .ref 17, .int (nI 0)]), .inl (0, 100, .inl fun _ => 0), .inl (1, 100, .inl fun _ => 0), .inl (0, 100, .inl fun _ => 0), .inl (0, 100, .inl fun _ => 0), .inr (4, [.ref 19, .ref 20, .ref 21, .ref 22, .ref 23, .int (nI 0), .int (nI 0)]), .inl (0, 60, .inl fun _ => 0), .inl (1, 60, .inl fun _ => 0), .inl (1, 600, .inl fun _ => 0), .inl (0, 60, .inl fun _ => 0), .inl (0, 60, .inl fun _ => 0), .inr (5, [.ref 25, .ref 26, .ref 27, .int (nI 0)]), .inl (0, 300, .inl fun _ => 0), .inl (0, 300, .inl fun _ => 0), .inl (0, 300, .inl fun _ => 0)]) rfl ?_
  exact xv_r rfl
theorem k_0 (hd : 2 ≤ d) (hw : 44 ≤ w) : xv xm L xs d w 0 0 [(0, .ref 1)] [] ([.inr (0, [.null, .null, .null, .null, .null, .int 0, .int 0, .int 0, .int 0])]) (.returned none) (xC xI) 26 6397 := by
  refine xv_m 1 rfl ?_
  refine xv_o rfl (by omega) (by omega) ?_
  refine xv_m 1 rfl ?_
  refine xv_1e 25 6389 (k1 := 1) (z1 := 8) rfl rfl rfl ?_
  refine xv_m 1 rfl ?_
  refine xv_ce 18 3089 (r := 40) (nip := 6) (cost := 14) rfl (by omega) (by omega) (k_40 (by omega) (by omega)) rfl rfl ?_
  refine xv_m 1 (h1 := [.inr (0, [.ref 2, .null, .null, .null, .null, .int 0, .int 0, .int 0, .int 0]), .inr (1, [.ref 3, .ref 4, .ref 5, .ref 6, .ref 7, .ref 8, .ref 9, .int (nI 0)]), .inl (0, 30, .inl fun _ => 0), .inl (1, 30, .inl fun _ => 0), .inl (0, 30, .inl fun _ => 0), .inl (0, 30, .inl fun _ => 0), .inl (0, 30, .inl fun _ => 0), .inl (0, 150, .inl fun _ => 0), .inl (0, 3000, .inl fun _ => 0)]) rfl ?_
  refine xv_m 1 rfl ?_
  refine xv_1e 17 3086 (k1 := 1) (z1 := 3) rfl rfl rfl ?_
  refine xv_m 1 rfl ?_
  refine xv_ce 15 2156 (r := 54) (nip := 11) (cost := 14) rfl (by omega) (by omega) (k_54 (by omega) (by omega)) rfl rfl ?_
  refine xv_m 1 (h1 := [.inr (0, [.ref 2, .ref 10, .null, .null, .null, .int 0, .int 0, .int 0, .int 0]), .inr (1, [.ref 3, .ref 4, .ref 5, .ref 6, .ref 7, .ref 8, .ref 9, .int (nI 0)]), .inl (0, 30, .inl fun _ => 0), .inl (1, 30, .inl fun _ => 0), .inl (0, 30, .inl fun _ => 0), .inl (0, 30, .inl fun _ => 0), .inl (0, 30, .inl fun _ => 0), .inl (0, 150, .inl fun _ => 0), .inl (0, 3000, .inl fun _ => 0), .inr (2, [.ref 11, .ref 12, .int (nI 0)]), .inl (0, 30, .inl fun _ => 0), .inl (0, 900, .inl fun _ => 0)]) rfl ?_
  refine xv_m 1 rfl ?_
  refine xv_1e 14 2151 (k1 := 1) (z1 := 5) rfl rfl rfl ?_
  refine xv_m 1 rfl ?_
  refine xv_ce 10 1751 (r := 62) (nip := 16) (cost := 14) rfl (by omega) (by omega) (k_62 (by omega) (by omega)) rfl rfl ?_
  refine xv_m 1 (h1 := [.inr (0, [.ref 2, .ref 10, .ref 13, .null, .null, .int 0, .int 0, .int 0, .int 0]), .inr (1, [.ref 3, .ref 4, .ref 5, .ref 6, .ref 7, .ref 8, .ref 9, .int (nI 0)]), .inl (0, 30, .inl fun _ => 0), .inl (1, 30, .inl fun _ => 0), .inl (0, 30, .inl fun _ => 0), .inl (0, 30, .inl fun _ => 0), .inl (0, 30, .inl fun _ => 0), .inl (0, 150, .inl fun _ => 0), .inl (0, 3000, .inl fun _ => 0), .inr (2, [.ref 11, .ref 12, .int (nI 0)]), .inl (0, 30, .inl fun _ => 0), .inl (0, 900, .inl fun _ => 0), .inr (3, [.ref 14, .ref 15, .ref 16, .ref 17, .int (nI 0)]), .inl (0, 100, .inl fun _ => 0), .inl (1, 100, .inl fun _ => 0), .inl (0, 100, .inl fun _ => 0), .inl (0, 100, .inl fun _ => 0)]) rfl ?_
  refine xv_m 1 rfl ?_
  refine xv_1e 9 1744 (k1 := 1) (z1 := 7) rfl rfl rfl ?_
  refine xv_m 1 rfl ?_
  refine xv_ce 4 904 (r := 74) (nip := 21) (cost := 14) rfl (by omega) (by omega) (k_74 (by omega) (by omega)) rfl rfl ?_
  refine xv_m 1 (h1 := [.inr (0, [.ref 2, .ref 10, .ref 13, .ref 18, .null, .int 0, .int 0, .int 0, .int 0]), .inr (1, [.ref 3, .ref 4, .ref 5, .ref 6, .ref 7, .ref 8, .ref 9, .int (nI 0)]), .inl (0, 30, .inl fun _ => 0), .inl (1, 30, .inl fun _ => 0), .inl (0, 30, .inl fun _ => 0), .inl (0, 30, .inl fun _ => 0), .inl (0, 30, .inl fun _ => 0), .inl (0, 150, .inl fun _ => 0), .inl (0, 3000, .inl fun _ => 0), .inr (2, [.ref 11, .ref 12, .int (nI 0)]), .inl (0, 30, .inl fun _ => 0), .inl (0, 900, .inl fun _ => 0), .inr (3, [.ref 14, .ref 15, .ref 16, .ref 17, .int (nI 0)]), .inl (0, 100, .inl fun _ => 0), .inl (1, 100, .inl fun _ => 0), .inl (0, 100, .inl fun _ => 0), .inl (0, 100, .inl fun _ => 0), .inr (4, [.ref 19, .ref 20, .ref 21, .ref 22, .ref 23, .int (nI 0), .int (nI 0)]), .inl (0, 60, .inl fun _ => 0), .inl (1, 60, .inl fun _ => 0), .inl (1, 600, .inl fun _ => 0), .inl (0, 60, .inl fun _ => 0), .inl (0, 60, .inl fun _ => 0)]) rfl ?_
  refine xv_m 1 rfl ?_
  refine xv_1e 3 900 (k1 := 1) (z1 := 4) rfl rfl rfl ?_
  refine xv_m 1 rfl ?_
  refine xv_ce 0 0 (r := 89) (nip := 26) (cost := 14) rfl (by omega) (by omega) (k_89 (by omega) (by omega)) rfl rfl ?_
  refine xv_m 1 (h1 := [.inr (0, [.ref 2, .ref 10, .ref 13, .ref 18, .ref 24, .int 0, .int 0, .int 0, .int 0]), .inr (1, [.ref 3, .ref 4, .ref 5, .ref 6, .ref 7, .ref 8, .ref 9, .int (nI 0)]), .inl (0, 30, .inl fun _ => 0), .inl (1, 30, .inl fun _ => 0), .inl (0, 30, .inl fun _ => 0), .inl (0, 30, .inl fun _ => 0), .inl (0, 30, .inl fun _ => 0), .inl (0, 150, .inl fun _ => 0), .inl (0, 3000, .inl fun _ => 0), .inr (2, [.ref 11, .ref 12, .int (nI 0)]), .inl (0, 30, .inl fun _ => 0), .inl (0, 900, .inl fun _ => 0), .inr (3, [.ref 14, .ref 15, .ref 16, .ref 17, .int (nI 0)]), .inl (0, 100, .inl fun _ => 0), .inl (1, 100, .inl fun _ => 0), .inl (0, 100, .inl fun _ => 0), .inl (0, 100, .inl fun _ => 0), .inr (4, [.ref 19, .ref 20, .ref 21, .ref 22, .ref 23, .int (nI 0), .int (nI 0)]), .inl (0, 60, .inl fun _ => 0), .inl (1, 60, .inl fun _ => 0), .inl (1, 600, .inl fun _ => 0), .inl (0, 60, .inl fun _ => 0), .inl (0, 60, .inl fun _ => 0), .inr (5, [.ref 25, .ref 26, .ref 27, .int (nI 0)]), .inl (0, 300, .inl fun _ => 0), .inl (0, 300, .inl fun _ => 0), .inl (0, 300, .inl fun _ => 0)]) rfl ?_
  refine xv_m 3 (h1 := [.inr (0, [.ref 2, .ref 10, .ref 13, .ref 18, .ref 24, .int (nI 0), .int 0, .int 0, .int 0]), .inr (1, [.ref 3, .ref 4, .ref 5, .ref 6, .ref 7, .ref 8, .ref 9, .int (nI 0)]), .inl (0, 30, .inl fun _ => 0), .inl (1, 30, .inl fun _ => 0), .inl (0, 30, .inl fun _ => 0), .inl (0, 30, .inl fun _ => 0), .inl (0, 30, .inl fun _ => 0), .inl (0, 150, .inl fun _ => 0), .inl (0, 3000, .inl fun _ => 0), .inr (2, [.ref 11, .ref 12, .int (nI 0)]), .inl (0, 30, .inl fun _ => 0), .inl (0, 900, .inl fun _ => 0), .inr (3, [.ref 14, .ref 15, .ref 16, .ref 17, .int (nI 0)]), .inl (0, 100, .inl fun _ => 0), .inl (1, 100, .inl fun _ => 0), .inl (0, 100, .inl fun _ => 0), .inl (0, 100, .inl fun _ => 0), .inr (4, [.ref 19, .ref 20, .ref 21, .ref 22, .ref 23, .int (nI 0), .int (nI 0)]), .inl (0, 60, .inl fun _ => 0), .inl (1, 60, .inl fun _ => 0), .inl (1, 600, .inl fun _ => 0), .inl (0, 60, .inl fun _ => 0), .inl (0, 60, .inl fun _ => 0), .inr (5, [.ref 25, .ref 26, .ref 27, .int (nI 0)]), .inl (0, 300, .inl fun _ => 0), .inl (0, 300, .inl fun _ => 0), .inl (0, 300, .inl fun _ => 0)]) rfl ?_
  refine xv_m 3 (h1 := [.inr (0, [.ref 2, .ref 10, .ref 13, .ref 18, .ref 24, .int (nI 0), .int (nI 0), .int 0, .int 0]), .inr (1, [.ref 3, .ref 4, .ref 5, .ref 6, .ref 7, .ref 8, .ref 9, .int (nI 0)]), .inl (0, 30, .inl fun _ => 0), .inl (1, 30, .inl fun _ => 0), .inl (0, 30, .inl fun _ => 0), .inl (0, 30, .inl fun _ => 0), .inl (0, 30, .inl fun _ => 0), .inl (0, 150, .inl fun _ => 0), .inl (0, 3000, .inl fun _ => 0), .inr (2, [.ref 11, .ref 12, .int (nI 0)]), .inl (0, 30, .inl fun _ => 0), .inl (0, 900, .inl fun _ => 0), .inr (3, [.ref 14, .ref 15, .ref 16, .ref 17, .int (nI 0)]), .inl (0, 100, .inl fun _ => 0), .inl (1, 100, .inl fun _ => 0), .inl (0, 100, .inl fun _ => 0), .inl (0, 100, .inl fun _ => 0), .inr (4, [.ref 19, .ref 20, .ref 21, .ref 22, .ref 23, .int (nI 0), .int (nI 0)]), .inl (0, 60, .inl fun _ => 0), .inl (1, 60, .inl fun _ => 0), .inl (1, 600, .inl fun _ => 0), .inl (0, 60, .inl fun _ => 0), .inl (0, 60, .inl fun _ => 0), .inr (5, [.ref 25, .ref 26, .ref 27, .int (nI 0)]), .inl (0, 300, .inl fun _ => 0), .inl (0, 300, .inl fun _ => 0), .inl (0, 300, .inl fun _ => 0)]) rfl ?_
  refine xv_m 3 (h1 := [.inr (0, [.ref 2, .ref 10, .ref 13, .ref 18, .ref 24, .int (nI 0), .int (nI 0), .int (nI 5), .int 0]), .inr (1, [.ref 3, .ref 4, .ref 5, .ref 6, .ref 7, .ref 8, .ref 9, .int (nI 0)]), .inl (0, 30, .inl fun _ => 0), .inl (1, 30, .inl fun _ => 0), .inl (0, 30, .inl fun _ => 0), .inl (0, 30, .inl fun _ => 0), .inl (0, 30, .inl fun _ => 0), .inl (0, 150, .inl fun _ => 0), .inl (0, 3000, .inl fun _ => 0), .inr (2, [.ref 11, .ref 12, .int (nI 0)]), .inl (0, 30, .inl fun _ => 0), .inl (0, 900, .inl fun _ => 0), .inr (3, [.ref 14, .ref 15, .ref 16, .ref 17, .int (nI 0)]), .inl (0, 100, .inl fun _ => 0), .inl (1, 100, .inl fun _ => 0), .inl (0, 100, .inl fun _ => 0), .inl (0, 100, .inl fun _ => 0), .inr (4, [.ref 19, .ref 20, .ref 21, .ref 22, .ref 23, .int (nI 0), .int (nI 0)]), .inl (0, 60, .inl fun _ => 0), .inl (1, 60, .inl fun _ => 0), .inl (1, 600, .inl fun _ => 0), .inl (0, 60, .inl fun _ => 0), .inl (0, 60, .inl fun _ => 0), .inr (5, [.ref 25, .ref 26, .ref 27, .int (nI 0)]), .inl (0, 300, .inl fun _ => 0), .inl (0, 300, .inl fun _ => 0), .inl (0, 300, .inl fun _ => 0)]) rfl ?_
  refine xv_m 3 (h1 := [.inr (0, [.ref 2, .ref 10, .ref 13, .ref 18, .ref 24, .int (nI 0), .int (nI 0), .int (nI 5), .int (nI 0)]), .inr (1, [.ref 3, .ref 4, .ref 5, .ref 6, .ref 7, .ref 8, .ref 9, .int (nI 0)]), .inl (0, 30, .inl fun _ => 0), .inl (1, 30, .inl fun _ => 0), .inl (0, 30, .inl fun _ => 0), .inl (0, 30, .inl fun _ => 0), .inl (0, 30, .inl fun _ => 0), .inl (0, 150, .inl fun _ => 0), .inl (0, 3000, .inl fun _ => 0), .inr (2, [.ref 11, .ref 12, .int (nI 0)]), .inl (0, 30, .inl fun _ => 0), .inl (0, 900, .inl fun _ => 0), .inr (3, [.ref 14, .ref 15, .ref 16, .ref 17, .int (nI 0)]), .inl (0, 100, .inl fun _ => 0), .inl (1, 100, .inl fun _ => 0), .inl (0, 100, .inl fun _ => 0), .inl (0, 100, .inl fun _ => 0), .inr (4, [.ref 19, .ref 20, .ref 21, .ref 22, .ref 23, .int (nI 0), .int (nI 0)]), .inl (0, 60, .inl fun _ => 0), .inl (1, 60, .inl fun _ => 0), .inl (1, 600, .inl fun _ => 0), .inl (0, 60, .inl fun _ => 0), .inl (0, 60, .inl fun _ => 0), .inr (5, [.ref 25, .ref 26, .ref 27, .int (nI 0)]), .inl (0, 300, .inl fun _ => 0), .inl (0, 300, .inl fun _ => 0), .inl (0, 300, .inl fun _ => 0)]) rfl ?_
  exact xv_r rfl
theorem k_95 (hd : 1 ≤ d) (hw : 30 ≤ w) : xv xm L xs d w 95 0 [(0, .ref 28)] [] ([.inr (0, [.ref 2, .ref 10, .ref 13, .ref 18, .ref 24, .int (nI 0), .int (nI 0), .int (nI 5), .int (nI 0)]), .inr (1, [.ref 3, .ref 4, .ref 5, .ref 6, .ref 7, .ref 8, .ref 9, .int (nI 0)]), .inl (0, 30, .inl fun _ => 0), .inl (1, 30, .inl fun _ => 0), .inl (0, 30, .inl fun _ => 0), .inl (0, 30, .inl fun _ => 0), .inl (0, 30, .inl fun _ => 0), .inl (0, 150, .inl fun _ => 0), .inl (0, 3000, .inl fun _ => 0), .inr (2, [.ref 11, .ref 12, .int (nI 0)]), .inl (0, 30, .inl fun _ => 0), .inl (0, 900, .inl fun _ => 0), .inr (3, [.ref 14, .ref 15, .ref 16, .ref 17, .int (nI 0)]), .inl (0, 100, .inl fun _ => 0), .inl (1, 100, .inl fun _ => 0), .inl (0, 100, .inl fun _ => 0), .inl (0, 100, .inl fun _ => 0), .inr (4, [.ref 19, .ref 20, .ref 21, .ref 22, .ref 23, .int (nI 0), .int (nI 0)]), .inl (0, 60, .inl fun _ => 0), .inl (1, 60, .inl fun _ => 0), .inl (1, 600, .inl fun _ => 0), .inl (0, 60, .inl fun _ => 0), .inl (0, 60, .inl fun _ => 0), .inr (5, [.ref 25, .ref 26, .ref 27, .int (nI 0)]), .inl (0, 300, .inl fun _ => 0), .inl (0, 300, .inl fun _ => 0), .inl (0, 300, .inl fun _ => 0), .inr (6, [.int 0, .int 0, .int 0, .int 0, .int 0, .int 0, .null, .null, .null, .null, .null, .int 0, .null, .null, .null, .null, .int 0, .null, .null, .null, .int 0, .null, .null, .null, .null, .null, .int 0])]) (.returned none) (xC xI ++ xD xI xJ) 17 11310 := by
  refine xv_m 1 rfl ?_
  refine xv_o rfl (by omega) (by omega) ?_
  refine xv_m 3 (h1 := [.inr (0, [.ref 2, .ref 10, .ref 13, .ref 18, .ref 24, .int (nI 0), .int (nI 0), .int (nI 5), .int (nI 0)]), .inr (1, [.ref 3, .ref 4, .ref 5, .ref 6, .ref 7, .ref 8, .ref 9, .int (nI 0)]), .inl (0, 30, .inl fun _ => 0), .inl (1, 30, .inl fun _ => 0), .inl (0, 30, .inl fun _ => 0), .inl (0, 30, .inl fun _ => 0), .inl (0, 30, .inl fun _ => 0), .inl (0, 150, .inl fun _ => 0), .inl (0, 3000, .inl fun _ => 0), .inr (2, [.ref 11, .ref 12, .int (nI 0)]), .inl (0, 30, .inl fun _ => 0), .inl (0, 900, .inl fun _ => 0), .inr (3, [.ref 14, .ref 15, .ref 16, .ref 17, .int (nI 0)]), .inl (0, 100, .inl fun _ => 0), .inl (1, 100, .inl fun _ => 0), .inl (0, 100, .inl fun _ => 0), .inl (0, 100, .inl fun _ => 0), .inr (4, [.ref 19, .ref 20, .ref 21, .ref 22, .ref 23, .int (nI 0), .int (nI 0)]), .inl (0, 60, .inl fun _ => 0), .inl (1, 60, .inl fun _ => 0), .inl (1, 600, .inl fun _ => 0), .inl (0, 60, .inl fun _ => 0), .inl (0, 60, .inl fun _ => 0), .inr (5, [.ref 25, .ref 26, .ref 27, .int (nI 0)]), .inl (0, 300, .inl fun _ => 0), .inl (0, 300, .inl fun _ => 0), .inl (0, 300, .inl fun _ => 0), .inr (6, [.int 0, .int 0, .int 0, .int 0, .int (nI 5), .int 0, .null, .null, .null, .null, .null, .int 0, .null, .null, .null, .null, .int 0, .null, .null, .null, .int 0, .null, .null, .null, .null, .null, .int 0])]) rfl ?_
  refine xv_m 2 rfl ?_
  refine xv_nae 30 16 11280 rfl rfl (by omega) rfl rfl ?_
  refine xv_m 1 (h1 := [.inr (0, [.ref 2, .ref 10, .ref 13, .ref 18, .ref 24, .int (nI 0), .int (nI 0), .int (nI 5), .int (nI 0)]), .inr (1, [.ref 3, .ref 4, .ref 5, .ref 6, .ref 7, .ref 8, .ref 9, .int (nI 0)]), .inl (0, 30, .inl fun _ => 0), .inl (1, 30, .inl fun _ => 0), .inl (0, 30, .inl fun _ => 0), .inl (0, 30, .inl fun _ => 0), .inl (0, 30, .inl fun _ => 0), .inl (0, 150, .inl fun _ => 0), .inl (0, 3000, .inl fun _ => 0), .inr (2, [.ref 11, .ref 12, .int (nI 0)]), .inl (0, 30, .inl fun _ => 0), .inl (0, 900, .inl fun _ => 0), .inr (3, [.ref 14, .ref 15, .ref 16, .ref 17, .int (nI 0)]), .inl (0, 100, .inl fun _ => 0), .inl (1, 100, .inl fun _ => 0), .inl (0, 100, .inl fun _ => 0), .inl (0, 100, .inl fun _ => 0), .inr (4, [.ref 19, .ref 20, .ref 21, .ref 22, .ref 23, .int (nI 0), .int (nI 0)]), .inl (0, 60, .inl fun _ => 0), .inl (1, 60, .inl fun _ => 0), .inl (1, 600, .inl fun _ => 0), .inl (0, 60, .inl fun _ => 0), .inl (0, 60, .inl fun _ => 0), .inr (5, [.ref 25, .ref 26, .ref 27, .int (nI 0)]), .inl (0, 300, .inl fun _ => 0), .inl (0, 300, .inl fun _ => 0), .inl (0, 300, .inl fun _ => 0), .inr (6, [.int 0, .int 0, .int 0, .int 0, .int (nI 5), .int 0, .ref 29, .null, .null, .null, .null, .int 0, .null, .null, .null, .null, .int 0, .null, .null, .null, .int 0, .null, .null, .null, .null, .null, .int 0]), .inl (0, 30, .inl fun _ => 0)]) rfl ?_
  refine xv_m 2 rfl ?_
  refine xv_nae 30 15 11250 rfl rfl (by omega) rfl rfl ?_
  refine xv_m 1 (h1 := [.inr (0, [.ref 2, .ref 10, .ref 13, .ref 18, .ref 24, .int (nI 0), .int (nI 0), .int (nI 5), .int (nI 0)]), .inr (1, [.ref 3, .ref 4, .ref 5, .ref 6, .ref 7, .ref 8, .ref 9, .int (nI 0)]), .inl (0, 30, .inl fun _ => 0), .inl (1, 30, .inl fun _ => 0), .inl (0, 30, .inl fun _ => 0), .inl (0, 30, .inl fun _ => 0), .inl (0, 30, .inl fun _ => 0), .inl (0, 150, .inl fun _ => 0), .inl (0, 3000, .inl fun _ => 0), .inr (2, [.ref 11, .ref 12, .int (nI 0)]), .inl (0, 30, .inl fun _ => 0), .inl (0, 900, .inl fun _ => 0), .inr (3, [.ref 14, .ref 15, .ref 16, .ref 17, .int (nI 0)]), .inl (0, 100, .inl fun _ => 0), .inl (1, 100, .inl fun _ => 0), .inl (0, 100, .inl fun _ => 0), .inl (0, 100, .inl fun _ => 0), .inr (4, [.ref 19, .ref 20, .ref 21, .ref 22, .ref 23, .int (nI 0), .int (nI 0)]), .inl (0, 60, .inl fun _ => 0), .inl (1, 60, .inl fun _ => 0), .inl (1, 600, .inl fun _ => 0), .inl (0, 60, .inl fun _ => 0), .inl (0, 60, .inl fun _ => 0), .inr (5, [.ref 25, .ref 26, .ref 27, .int (nI 0)]), .inl (0, 300, .inl fun _ => 0), .inl (0, 300, .inl fun _ => 0), .inl (0, 300, .inl fun _ => 0), .inr (6, [.int 0, .int 0, .int 0, .int 0, .int (nI 5), .int 0, .ref 29, .ref 30, .null, .null, .null, .int 0, .null, .null, .null, .null, .int 0, .null, .null, .null, .int 0, .null, .null, .null, .null, .null, .int 0]), .inl (0, 30, .inl fun _ => 0), .inl (1, 30, .inl fun _ => 0)]) rfl ?_
  refine xv_m 2 rfl ?_
  refine xv_nae 30 14 11220 rfl rfl (by omega) rfl rfl ?_
  refine xv_m 1 (h1 := [.inr (0, [.ref 2, .ref 10, .ref 13, .ref 18, .ref 24, .int (nI 0), .int (nI 0), .int (nI 5), .int (nI 0)]), .inr (1, [.ref 3, .ref 4, .ref 5, .ref 6, .ref 7, .ref 8, .ref 9, .int (nI 0)]), .inl (0, 30, .inl fun _ => 0), .inl (1, 30, .inl fun _ => 0), .inl (0, 30, .inl fun _ => 0), .inl (0, 30, .inl fun _ => 0), .inl (0, 30, .inl fun _ => 0), .inl (0, 150, .inl fun _ => 0), .inl (0, 3000, .inl fun _ => 0), .inr (2, [.ref 11, .ref 12, .int (nI 0)]), .inl (0, 30, .inl fun _ => 0), .inl (0, 900, .inl fun _ => 0), .inr (3, [.ref 14, .ref 15, .ref 16, .ref 17, .int (nI 0)]), .inl (0, 100, .inl fun _ => 0), .inl (1, 100, .inl fun _ => 0), .inl (0, 100, .inl fun _ => 0), .inl (0, 100, .inl fun _ => 0), .inr (4, [.ref 19, .ref 20, .ref 21, .ref 22, .ref 23, .int (nI 0), .int (nI 0)]), .inl (0, 60, .inl fun _ => 0), .inl (1, 60, .inl fun _ => 0), .inl (1, 600, .inl fun _ => 0), .inl (0, 60, .inl fun _ => 0), .inl (0, 60, .inl fun _ => 0), .inr (5, [.ref 25, .ref 26, .ref 27, .int (nI 0)]), .inl (0, 300, .inl fun _ => 0), .inl (0, 300, .inl fun _ => 0), .inl (0, 300, .inl fun _ => 0), .inr (6, [.int 0, .int 0, .int 0, .int 0, .int (nI 5), .int 0, .ref 29, .ref 30, .ref 31, .null, .null, .int 0, .null, .null, .null, .null, .int 0, .null, .null, .null, .int 0, .null, .null, .null, .null, .null, .int 0]), .inl (0, 30, .inl fun _ => 0), .inl (1, 30, .inl fun _ => 0), .inl (0, 30, .inl fun _ => 0)]) rfl ?_
  refine xv_m 2 rfl ?_
  refine xv_nae 30 13 11190 rfl rfl (by omega) rfl rfl ?_
  refine xv_m 1 (h1 := [.inr (0, [.ref 2, .ref 10, .ref 13, .ref 18, .ref 24, .int (nI 0), .int (nI 0), .int (nI 5), .int (nI 0)]), .inr (1, [.ref 3, .ref 4, .ref 5, .ref 6, .ref 7, .ref 8, .ref 9, .int (nI 0)]), .inl (0, 30, .inl fun _ => 0), .inl (1, 30, .inl fun _ => 0), .inl (0, 30, .inl fun _ => 0), .inl (0, 30, .inl fun _ => 0), .inl (0, 30, .inl fun _ => 0), .inl (0, 150, .inl fun _ => 0), .inl (0, 3000, .inl fun _ => 0), .inr (2, [.ref 11, .ref 12, .int (nI 0)]), .inl (0, 30, .inl fun _ => 0), .inl (0, 900, .inl fun _ => 0), .inr (3, [.ref 14, .ref 15, .ref 16, .ref 17, .int (nI 0)]), .inl (0, 100, .inl fun _ => 0), .inl (1, 100, .inl fun _ => 0), .inl (0, 100, .inl fun _ => 0), .inl (0, 100, .inl fun _ => 0), .inr (4, [.ref 19, .ref 20, .ref 21, .ref 22, .ref 23, .int (nI 0), .int (nI 0)]), .inl (0, 60, .inl fun _ => 0), .inl (1, 60, .inl fun _ => 0), .inl (1, 600, .inl fun _ => 0), .inl (0, 60, .inl fun _ => 0), .inl (0, 60, .inl fun _ => 0), .inr (5, [.ref 25, .ref 26, .ref 27, .int (nI 0)]), .inl (0, 300, .inl fun _ => 0), .inl (0, 300, .inl fun _ => 0), .inl (0, 300, .inl fun _ => 0), .inr (6, [.int 0, .int 0, .int 0, .int 0, .int (nI 5), .int 0, .ref 29, .ref 30, .ref 31, .ref 32, .null, .int 0, .null, .null, .null, .null, .int 0, .null, .null, .null, .int 0, .null, .null, .null, .null, .null, .int 0]), .inl (0, 30, .inl fun _ => 0), .inl (1, 30, .inl fun _ => 0), .inl (0, 30, .inl fun _ => 0), .inl (0, 30, .inl fun _ => 0)]) rfl ?_
  refine xv_m 2 rfl ?_
  refine xv_nae 30 12 11160 rfl rfl (by omega) rfl rfl ?_
  refine xv_m 1 (h1 := [.inr (0, [.ref 2, .ref 10, .ref 13, .ref 18, .ref 24, .int (nI 0), .int (nI 0), .int (nI 5), .int (nI 0)]), .inr (1, [.ref 3, .ref 4, .ref 5, .ref 6, .ref 7, .ref 8, .ref 9, .int (nI 0)]), .inl (0, 30, .inl fun _ => 0), .inl (1, 30, .inl fun _ => 0), .inl (0, 30, .inl fun _ => 0), .inl (0, 30, .inl fun _ => 0), .inl (0, 30, .inl fun _ => 0), .inl (0, 150, .inl fun _ => 0), .inl (0, 3000, .inl fun _ => 0), .inr (2, [.ref 11, .ref 12, .int (nI 0)]), .inl (0, 30, .inl fun _ => 0), .inl (0, 900, .inl fun _ => 0), .inr (3, [.ref 14, .ref 15, .ref 16, .ref 17, .int (nI 0)]), .inl (0, 100, .inl fun _ => 0), .inl (1, 100, .inl fun _ => 0), .inl (0, 100, .inl fun _ => 0), .inl (0, 100, .inl fun _ => 0), .inr (4, [.ref 19, .ref 20, .ref 21, .ref 22, .ref 23, .int (nI 0), .int (nI 0)]), .inl (0, 60, .inl fun _ => 0), .inl (1, 60, .inl fun _ => 0), .inl (1, 600, .inl fun _ => 0), .inl (0, 60, .inl fun _ => 0), .inl (0, 60, .inl fun _ => 0), .inr (5, [.ref 25, .ref 26, .ref 27, .int (nI 0)]), .inl (0, 300, .inl fun _ => 0), .inl (0, 300, .inl fun _ => 0), .inl (0, 300, .inl fun _ => 0), .inr (6, [.int 0, .int 0, .int 0, .int 0, .int (nI 5), .int 0, .ref 29, .ref 30, .ref 31, .ref 32, .ref 33, .int 0, .null, .null, .null, .null, .int 0, .null, .null, .null, .int 0, .null, .null, .null, .null, .null, .int 0]), .inl (0, 30, .inl fun _ => 0), .inl (1, 30, .inl fun _ => 0), .inl (0, 30, .inl fun _ => 0), .inl (0, 30, .inl fun _ => 0), .inl (0, 30, .inl fun _ => 0)]) rfl ?_
  refine xv_m 2 rfl ?_
  refine xv_nae 30 11 11130 rfl rfl (by omega) rfl rfl ?_
  refine xv_m 1 (h1 := [.inr (0, [.ref 2, .ref 10, .ref 13, .ref 18, .ref 24, .int (nI 0), .int (nI 0), .int (nI 5), .int (nI 0)]), .inr (1, [.ref 3, .ref 4, .ref 5, .ref 6, .ref 7, .ref 8, .ref 9, .int (nI 0)]), .inl (0, 30, .inl fun _ => 0), .inl (1, 30, .inl fun _ => 0), .inl (0, 30, .inl fun _ => 0), .inl (0, 30, .inl fun _ => 0), .inl (0, 30, .inl fun _ => 0), .inl (0, 150, .inl fun _ => 0), .inl (0, 3000, .inl fun _ => 0), .inr (2, [.ref 11, .ref 12, .int (nI 0)]), .inl (0, 30, .inl fun _ => 0), .inl (0, 900, .inl fun _ => 0), .inr (3, [.ref 14, .ref 15, .ref 16, .ref 17, .int (nI 0)]), .inl (0, 100, .inl fun _ => 0), .inl (1, 100, .inl fun _ => 0), .inl (0, 100, .inl fun _ => 0), .inl (0, 100, .inl fun _ => 0), .inr (4, [.ref 19, .ref 20, .ref 21, .ref 22, .ref 23, .int (nI 0), .int (nI 0)]), .inl (0, 60, .inl fun _ => 0), .inl (1, 60, .inl fun _ => 0), .inl (1, 600, .inl fun _ => 0), .inl (0, 60, .inl fun _ => 0), .inl (0, 60, .inl fun _ => 0), .inr (5, [.ref 25, .ref 26, .ref 27, .int (nI 0)]), .inl (0, 300, .inl fun _ => 0), .inl (0, 300, .inl fun _ => 0), .inl (0, 300, .inl fun _ => 0), .inr (6, [.int 0, .int 0, .int 0, .int 0, .int (nI 5), .int 0, .ref 29, .ref 30, .ref 31, .ref 32, .ref 33, .int 0, .ref 34, .null, .null, .null, .int 0, .null, .null, .null, .int 0, .null, .null, .null, .null, .null, .int 0]), .inl (0, 30, .inl fun _ => 0), .inl (1, 30, .inl fun _ => 0), .inl (0, 30, .inl fun _ => 0), .inl (0, 30, .inl fun _ => 0), .inl (0, 30, .inl fun _ => 0), .inl (0, 30, .inl fun _ => 0)]) rfl ?_
  refine xv_m 2 rfl ?_
  refine xv_nae 900 10 10230 rfl rfl (by omega) rfl rfl ?_
  refine xv_m 1 (h1 := [.inr (0, [.ref 2, .ref 10, .ref 13, .ref 18, .ref 24, .int (nI 0), .int (nI 0), .int (nI 5), .int (nI 0)]), .inr (1, [.ref 3, .ref 4, .ref 5, .ref 6, .ref 7, .ref 8, .ref 9, .int (nI 0)]), .inl (0, 30, .inl fun _ => 0), .inl (1, 30, .inl fun _ => 0), .inl (0, 30, .inl fun _ => 0), .inl (0, 30, .inl fun _ => 0), .inl (0, 30, .inl fun _ => 0), .inl (0, 150, .inl fun _ => 0), .inl (0, 3000, .inl fun _ => 0), .inr (2, [.ref 11, .ref 12, .int (nI 0)]), .inl (0, 30, .inl fun _ => 0), .inl (0, 900, .inl fun _ => 0), .inr (3, [.ref 14, .ref 15, .ref 16, .ref 17, .int (nI 0)]), .inl (0, 100, .inl fun _ => 0), .inl (1, 100, .inl fun _ => 0), .inl (0, 100, .inl fun _ => 0), .inl (0, 100, .inl fun _ => 0), .inr (4, [.ref 19, .ref 20, .ref 21, .ref 22, .ref 23, .int (nI 0), .int (nI 0)]), .inl (0, 60, .inl fun _ => 0), .inl (1, 60, .inl fun _ => 0), .inl (1, 600, .inl fun _ => 0), .inl (0, 60, .inl fun _ => 0), .inl (0, 60, .inl fun _ => 0), .inr (5, [.ref 25, .ref 26, .ref 27, .int (nI 0)]), .inl (0, 300, .inl fun _ => 0), .inl (0, 300, .inl fun _ => 0), .inl (0, 300, .inl fun _ => 0), .inr (6, [.int 0, .int 0, .int 0, .int 0, .int (nI 5), .int 0, .ref 29, .ref 30, .ref 31, .ref 32, .ref 33, .int 0, .ref 34, .ref 35, .null, .null, .int 0, .null, .null, .null, .int 0, .null, .null, .null, .null, .null, .int 0]), .inl (0, 30, .inl fun _ => 0), .inl (1, 30, .inl fun _ => 0), .inl (0, 30, .inl fun _ => 0), .inl (0, 30, .inl fun _ => 0), .inl (0, 30, .inl fun _ => 0), .inl (0, 30, .inl fun _ => 0), .inl (0, 900, .inl fun _ => 0)]) rfl ?_
  refine xv_m 2 rfl ?_
  refine xv_nae 150 9 10080 rfl rfl (by omega) rfl rfl ?_
  refine xv_m 1 (h1 := [.inr (0, [.ref 2, .ref 10, .ref 13, .ref 18, .ref 24, .int (nI 0), .int (nI 0), .int (nI 5), .int (nI 0)]), .inr (1, [.ref 3, .ref 4, .ref 5, .ref 6, .ref 7, .ref 8, .ref 9, .int (nI 0)]), .inl (0, 30, .inl fun _ => 0), .inl (1, 30, .inl fun _ => 0), .inl (0, 30, .inl fun _ => 0), .inl (0, 30, .inl fun _ => 0), .inl (0, 30, .inl fun _ => 0), .inl (0, 150, .inl fun _ => 0), .inl (0, 3000, .inl fun _ => 0), .inr (2, [.ref 11, .ref 12, .int (nI 0)]), .inl (0, 30, .inl fun _ => 0), .inl (0, 900, .inl fun _ => 0), .inr (3, [.ref 14, .ref 15, .ref 16, .ref 17, .int (nI 0)]), .inl (0, 100, .inl fun _ => 0), .inl (1, 100, .inl fun _ => 0), .inl (0, 100, .inl fun _ => 0), .inl (0, 100, .inl fun _ => 0), .inr (4, [.ref 19, .ref 20, .ref 21, .ref 22, .ref 23, .int (nI 0), .int (nI 0)]), .inl (0, 60, .inl fun _ => 0), .inl (1, 60, .inl fun _ => 0), .inl (1, 600, .inl fun _ => 0), .inl (0, 60, .inl fun _ => 0), .inl (0, 60, .inl fun _ => 0), .inr (5, [.ref 25, .ref 26, .ref 27, .int (nI 0)]), .inl (0, 300, .inl fun _ => 0), .inl (0, 300, .inl fun _ => 0), .inl (0, 300, .inl fun _ => 0), .inr (6, [.int 0, .int 0, .int 0, .int 0, .int (nI 5), .int 0, .ref 29, .ref 30, .ref 31, .ref 32, .ref 33, .int 0, .ref 34, .ref 35, .ref 36, .null, .int 0, .null, .null, .null, .int 0, .null, .null, .null, .null, .null, .int 0]), .inl (0, 30, .inl fun _ => 0), .inl (1, 30, .inl fun _ => 0), .inl (0, 30, .inl fun _ => 0), .inl (0, 30, .inl fun _ => 0), .inl (0, 30, .inl fun _ => 0), .inl (0, 30, .inl fun _ => 0), .inl (0, 900, .inl fun _ => 0), .inl (0, 150, .inl fun _ => 0)]) rfl ?_
  refine xv_m 2 rfl ?_
  refine xv_nae 3000 8 7080 rfl rfl (by omega) rfl rfl ?_
  refine xv_m 1 (h1 := [.inr (0, [.ref 2, .ref 10, .ref 13, .ref 18, .ref 24, .int (nI 0), .int (nI 0), .int (nI 5), .int (nI 0)]), .inr (1, [.ref 3, .ref 4, .ref 5, .ref 6, .ref 7, .ref 8, .ref 9, .int (nI 0)]), .inl (0, 30, .inl fun _ => 0), .inl (1, 30, .inl fun _ => 0), .inl (0, 30, .inl fun _ => 0), .inl (0, 30, .inl fun _ => 0), .inl (0, 30, .inl fun _ => 0), .inl (0, 150, .inl fun _ => 0), .inl (0, 3000, .inl fun _ => 0), .inr (2, [.ref 11, .ref 12, .int (nI 0)]), .inl (0, 30, .inl fun _ => 0), .inl (0, 900, .inl fun _ => 0), .inr (3, [.ref 14, .ref 15, .ref 16, .ref 17, .int (nI 0)]), .inl (0, 100, .inl fun _ => 0), .inl (1, 100, .inl fun _ => 0), .inl (0, 100, .inl fun _ => 0), .inl (0, 100, .inl fun _ => 0), .inr (4, [.ref 19, .ref 20, .ref 21, .ref 22, .ref 23, .int (nI 0), .int (nI 0)]), .inl (0, 60, .inl fun _ => 0), .inl (1, 60, .inl fun _ => 0), .inl (1, 600, .inl fun _ => 0), .inl (0, 60, .inl fun _ => 0), .inl (0, 60, .inl fun _ => 0), .inr (5, [.ref 25, .ref 26, .ref 27, .int (nI 0)]), .inl (0, 300, .inl fun _ => 0), .inl (0, 300, .inl fun _ => 0), .inl (0, 300, .inl fun _ => 0), .inr (6, [.int 0, .int 0, .int 0, .int 0, .int (nI 5), .int 0, .ref 29, .ref 30, .ref 31, .ref 32, .ref 33, .int 0, .ref 34, .ref 35, .ref 36, .ref 37, .int 0, .null, .null, .null, .int 0, .null, .null, .null, .null, .null, .int 0]), .inl (0, 30, .inl fun _ => 0), .inl (1, 30, .inl fun _ => 0), .inl (0, 30, .inl fun _ => 0), .inl (0, 30, .inl fun _ => 0), .inl (0, 30, .inl fun _ => 0), .inl (0, 30, .inl fun _ => 0), .inl (0, 900, .inl fun _ => 0), .inl (0, 150, .inl fun _ => 0), .inl (0, 3000, .inl fun _ => 0)]) rfl ?_
  refine xv_m 2 rfl ?_
  refine xv_nae 100 7 6980 rfl rfl (by omega) rfl rfl ?_
  refine xv_m 1 (h1 := [.inr (0, [.ref 2, .ref 10, .ref 13, .ref 18, .ref 24, .int (nI 0), .int (nI 0), .int (nI 5), .int (nI 0)]), .inr (1, [.ref 3, .ref 4, .ref 5, .ref 6, .ref 7, .ref 8, .ref 9, .int (nI 0)]), .inl (0, 30, .inl fun _ => 0), .inl (1, 30, .inl fun _ => 0), .inl (0, 30, .inl fun _ => 0), .inl (0, 30, .inl fun _ => 0), .inl (0, 30, .inl fun _ => 0), .inl (0, 150, .inl fun _ => 0), .inl (0, 3000, .inl fun _ => 0), .inr (2, [.ref 11, .ref 12, .int (nI 0)]), .inl (0, 30, .inl fun _ => 0), .inl (0, 900, .inl fun _ => 0), .inr (3, [.ref 14, .ref 15, .ref 16, .ref 17, .int (nI 0)]), .inl (0, 100, .inl fun _ => 0), .inl (1, 100, .inl fun _ => 0), .inl (0, 100, .inl fun _ => 0), .inl (0, 100, .inl fun _ => 0), .inr (4, [.ref 19, .ref 20, .ref 21, .ref 22, .ref 23, .int (nI 0), .int (nI 0)]), .inl (0, 60, .inl fun _ => 0), .inl (1, 60, .inl fun _ => 0), .inl (1, 600, .inl fun _ => 0), .inl (0, 60, .inl fun _ => 0), .inl (0, 60, .inl fun _ => 0), .inr (5, [.ref 25, .ref 26, .ref 27, .int (nI 0)]), .inl (0, 300, .inl fun _ => 0), .inl (0, 300, .inl fun _ => 0), .inl (0, 300, .inl fun _ => 0), .inr (6, [.int 0, .int 0, .int 0, .int 0, .int (nI 5), .int 0, .ref 29, .ref 30, .ref 31, .ref 32, .ref 33, .int 0, .ref 34, .ref 35, .ref 36, .ref 37, .int 0, .ref 38, .null, .null, .int 0, .null, .null, .null, .null, .null, .int 0]), .inl (0, 30, .inl fun _ => 0), .inl (1, 30, .inl fun _ => 0), .inl (0, 30, .inl fun _ => 0), .inl (0, 30, .inl fun _ => 0), .inl (0, 30, .inl fun _ => 0), .inl (0, 30, .inl fun _ => 0), .inl (0, 900, .inl fun _ => 0), .inl (0, 150, .inl fun _ => 0), .inl (0, 3000, .inl fun _ => 0), .inl (0, 100, .inl fun _ => 0)]) rfl ?_
  refine xv_m 2 rfl ?_
  refine xv_nae 100 6 6880 rfl rfl (by omega) rfl rfl ?_
  refine xv_m 1 (h1 := [.inr (0, [.ref 2, .ref 10, .ref 13, .ref 18, .ref 24, .int (nI 0), .int (nI 0), .int (nI 5), .int (nI 0)]), .inr (1, [.ref 3, .ref 4, .ref 5, .ref 6, .ref 7, .ref 8, .ref 9, .int (nI 0)]), .inl (0, 30, .inl fun _ => 0), .inl (1, 30, .inl fun _ => 0), .inl (0, 30, .inl fun _ => 0), .inl (0, 30, .inl fun _ => 0), .inl (0, 30, .inl fun _ => 0), .inl (0, 150, .inl fun _ => 0), .inl (0, 3000, .inl fun _ => 0), .inr (2, [.ref 11, .ref 12, .int (nI 0)]), .inl (0, 30, .inl fun _ => 0), .inl (0, 900, .inl fun _ => 0), .inr (3, [.ref 14, .ref 15, .ref 16, .ref 17, .int (nI 0)]), .inl (0, 100, .inl fun _ => 0), .inl (1, 100, .inl fun _ => 0), .inl (0, 100, .inl fun _ => 0), .inl (0, 100, .inl fun _ => 0), .inr (4, [.ref 19, .ref 20, .ref 21, .ref 22, .ref 23, .int (nI 0), .int (nI 0)]), .inl (0, 60, .inl fun _ => 0), .inl (1, 60, .inl fun _ => 0), .inl (1, 600, .inl fun _ => 0), .inl (0, 60, .inl fun _ => 0), .inl (0, 60, .inl fun _ => 0), .inr (5, [.ref 25, .ref 26, .ref 27, .int (nI 0)]), .inl (0, 300, .inl fun _ => 0), .inl (0, 300, .inl fun _ => 0), .inl (0, 300, .inl fun _ => 0), .inr (6, [.int 0, .int 0, .int 0, .int 0, .int (nI 5), .int 0, .ref 29, .ref 30, .ref 31, .ref 32, .ref 33, .int 0, .ref 34, .ref 35, .ref 36, .ref 37, .int 0, .ref 38, .ref 39, .null, .int 0, .null, .null, .null, .null, .null, .int 0]), .inl (0, 30, .inl fun _ => 0), .inl (1, 30, .inl fun _ => 0), .inl (0, 30, .inl fun _ => 0), .inl (0, 30, .inl fun _ => 0), .inl (0, 30, .inl fun _ => 0), .inl (0, 30, .inl fun _ => 0), .inl (0, 900, .inl fun _ => 0), .inl (0, 150, .inl fun _ => 0), .inl (0, 3000, .inl fun _ => 0), .inl (0, 100, .inl fun _ => 0), .inl (1, 100, .inl fun _ => 0)]) rfl ?_
  refine xv_m 2 rfl ?_
  refine xv_nae 100 5 6780 rfl rfl (by omega) rfl rfl ?_
  refine xv_m 1 (h1 := [.inr (0, [.ref 2, .ref 10, .ref 13, .ref 18, .ref 24, .int (nI 0), .int (nI 0), .int (nI 5), .int (nI 0)]), .inr (1, [.ref 3, .ref 4, .ref 5, .ref 6, .ref 7, .ref 8, .ref 9, .int (nI 0)]), .inl (0, 30, .inl fun _ => 0), .inl (1, 30, .inl fun _ => 0), .inl (0, 30, .inl fun _ => 0), .inl (0, 30, .inl fun _ => 0), .inl (0, 30, .inl fun _ => 0), .inl (0, 150, .inl fun _ => 0), .inl (0, 3000, .inl fun _ => 0), .inr (2, [.ref 11, .ref 12, .int (nI 0)]), .inl (0, 30, .inl fun _ => 0), .inl (0, 900, .inl fun _ => 0), .inr (3, [.ref 14, .ref 15, .ref 16, .ref 17, .int (nI 0)]), .inl (0, 100, .inl fun _ => 0), .inl (1, 100, .inl fun _ => 0), .inl (0, 100, .inl fun _ => 0), .inl (0, 100, .inl fun _ => 0), .inr (4, [.ref 19, .ref 20, .ref 21, .ref 22, .ref 23, .int (nI 0), .int (nI 0)]), .inl (0, 60, .inl fun _ => 0), .inl (1, 60, .inl fun _ => 0), .inl (1, 600, .inl fun _ => 0), .inl (0, 60, .inl fun _ => 0), .inl (0, 60, .inl fun _ => 0), .inr (5, [.ref 25, .ref 26, .ref 27, .int (nI 0)]), .inl (0, 300, .inl fun _ => 0), .inl (0, 300, .inl fun _ => 0), .inl (0, 300, .inl fun _ => 0), .inr (6, [.int 0, .int 0, .int 0, .int 0, .int (nI 5), .int 0, .ref 29, .ref 30, .ref 31, .ref 32, .ref 33, .int 0, .ref 34, .ref 35, .ref 36, .ref 37, .int 0, .ref 38, .ref 39, .ref 40, .int 0, .null, .null, .null, .null, .null, .int 0]), .inl (0, 30, .inl fun _ => 0), .inl (1, 30, .inl fun _ => 0), .inl (0, 30, .inl fun _ => 0), .inl (0, 30, .inl fun _ => 0), .inl (0, 30, .inl fun _ => 0), .inl (0, 30, .inl fun _ => 0), .inl (0, 900, .inl fun _ => 0), .inl (0, 150, .inl fun _ => 0), .inl (0, 3000, .inl fun _ => 0), .inl (0, 100, .inl fun _ => 0), .inl (1, 100, .inl fun _ => 0), .inl (0, 100, .inl fun _ => 0)]) rfl ?_
  refine xv_m 2 rfl ?_
  refine xv_nae 60 4 6720 rfl rfl (by omega) rfl rfl ?_
  refine xv_m 1 (h1 := [.inr (0, [.ref 2, .ref 10, .ref 13, .ref 18, .ref 24, .int (nI 0), .int (nI 0), .int (nI 5), .int (nI 0)]), .inr (1, [.ref 3, .ref 4, .ref 5, .ref 6, .ref 7, .ref 8, .ref 9, .int (nI 0)]), .inl (0, 30, .inl fun _ => 0), .inl (1, 30, .inl fun _ => 0), .inl (0, 30, .inl fun _ => 0), .inl (0, 30, .inl fun _ => 0), .inl (0, 30, .inl fun _ => 0), .inl (0, 150, .inl fun _ => 0), .inl (0, 3000, .inl fun _ => 0), .inr (2, [.ref 11, .ref 12, .int (nI 0)]), .inl (0, 30, .inl fun _ => 0), .inl (0, 900, .inl fun _ => 0), .inr (3, [.ref 14, .ref 15, .ref 16, .ref 17, .int (nI 0)]), .inl (0, 100, .inl fun _ => 0), .inl (1, 100, .inl fun _ => 0), .inl (0, 100, .inl fun _ => 0), .inl (0, 100, .inl fun _ => 0), .inr (4, [.ref 19, .ref 20, .ref 21, .ref 22, .ref 23, .int (nI 0), .int (nI 0)]), .inl (0, 60, .inl fun _ => 0), .inl (1, 60, .inl fun _ => 0), .inl (1, 600, .inl fun _ => 0), .inl (0, 60, .inl fun _ => 0), .inl (0, 60, .inl fun _ => 0), .inr (5, [.ref 25, .ref 26, .ref 27, .int (nI 0)]), .inl (0, 300, .inl fun _ => 0), .inl (0, 300, .inl fun _ => 0), .inl (0, 300, .inl fun _ => 0), .inr (6, [.int 0, .int 0, .int 0, .int 0, .int (nI 5), .int 0, .ref 29, .ref 30, .ref 31, .ref 32, .ref 33, .int 0, .ref 34, .ref 35, .ref 36, .ref 37, .int 0, .ref 38, .ref 39, .ref 40, .int 0, .ref 41, .null, .null, .null, .null, .int 0]), .inl (0, 30, .inl fun _ => 0), .inl (1, 30, .inl fun _ => 0), .inl (0, 30, .inl fun _ => 0), .inl (0, 30, .inl fun _ => 0), .inl (0, 30, .inl fun _ => 0), .inl (0, 30, .inl fun _ => 0), .inl (0, 900, .inl fun _ => 0), .inl (0, 150, .inl fun _ => 0), .inl (0, 3000, .inl fun _ => 0), .inl (0, 100, .inl fun _ => 0), .inl (1, 100, .inl fun _ => 0), .inl (0, 100, .inl fun _ => 0), .inl (0, 60, .inl fun _ => 0)]) rfl ?_
  refine xv_m 2 rfl ?_
  refine xv_nae 60 3 6660 rfl rfl (by omega) rfl rfl ?_
  refine xv_m 1 (h1 := [.inr (0, [.ref 2, .ref 10, .ref 13, .ref 18, .ref 24, .int (nI 0), .int (nI 0), .int (nI 5), .int (nI 0)]), .inr (1, [.ref 3, .ref 4, .ref 5, .ref 6, .ref 7, .ref 8, .ref 9, .int (nI 0)]), .inl (0, 30, .inl fun _ => 0), .inl (1, 30, .inl fun _ => 0), .inl (0, 30, .inl fun _ => 0), .inl (0, 30, .inl fun _ => 0), .inl (0, 30, .inl fun _ => 0), .inl (0, 150, .inl fun _ => 0), .inl (0, 3000, .inl fun _ => 0), .inr (2, [.ref 11, .ref 12, .int (nI 0)]), .inl (0, 30, .inl fun _ => 0), .inl (0, 900, .inl fun _ => 0), .inr (3, [.ref 14, .ref 15, .ref 16, .ref 17, .int (nI 0)]), .inl (0, 100, .inl fun _ => 0), .inl (1, 100, .inl fun _ => 0), .inl (0, 100, .inl fun _ => 0), .inl (0, 100, .inl fun _ => 0), .inr (4, [.ref 19, .ref 20, .ref 21, .ref 22, .ref 23, .int (nI 0), .int (nI 0)]), .inl (0, 60, .inl fun _ => 0), .inl (1, 60, .inl fun _ => 0), .inl (1, 600, .inl fun _ => 0), .inl (0, 60, .inl fun _ => 0), .inl (0, 60, .inl fun _ => 0), .inr (5, [.ref 25, .ref 26, .ref 27, .int (nI 0)]), .inl (0, 300, .inl fun _ => 0), .inl (0, 300, .inl fun _ => 0), .inl (0, 300, .inl fun _ => 0), .inr (6, [.int 0, .int 0, .int 0, .int 0, .int (nI 5), .int 0, .ref 29, .ref 30, .ref 31, .ref 32, .ref 33, .int 0, .ref 34, .ref 35, .ref 36, .ref 37, .int 0, .ref 38, .ref 39, .ref 40, .int 0, .ref 41, .ref 42, .null, .null, .null, .int 0]), .inl (0, 30, .inl fun _ => 0), .inl (1, 30, .inl fun _ => 0), .inl (0, 30, .inl fun _ => 0), .inl (0, 30, .inl fun _ => 0), .inl (0, 30, .inl fun _ => 0), .inl (0, 30, .inl fun _ => 0), .inl (0, 900, .inl fun _ => 0), .inl (0, 150, .inl fun _ => 0), .inl (0, 3000, .inl fun _ => 0), .inl (0, 100, .inl fun _ => 0), .inl (1, 100, .inl fun _ => 0), .inl (0, 100, .inl fun _ => 0), .inl (0, 60, .inl fun _ => 0), .inl (1, 60, .inl fun _ => 0)]) rfl ?_
  refine xv_m 2 rfl ?_
  refine xv_nae 60 2 6600 rfl rfl (by omega) rfl rfl ?_
  refine xv_m 1 (h1 := [.inr (0, [.ref 2, .ref 10, .ref 13, .ref 18, .ref 24, .int (nI 0), .int (nI 0), .int (nI 5), .int (nI 0)]), .inr (1, [.ref 3, .ref 4, .ref 5, .ref 6, .ref 7, .ref 8, .ref 9, .int (nI 0)]), .inl (0, 30, .inl fun _ => 0), .inl (1, 30, .inl fun _ => 0), .inl (0, 30, .inl fun _ => 0), .inl (0, 30, .inl fun _ => 0), .inl (0, 30, .inl fun _ => 0), .inl (0, 150, .inl fun _ => 0), .inl (0, 3000, .inl fun _ => 0), .inr (2, [.ref 11, .ref 12, .int (nI 0)]), .inl (0, 30, .inl fun _ => 0), .inl (0, 900, .inl fun _ => 0), .inr (3, [.ref 14, .ref 15, .ref 16, .ref 17, .int (nI 0)]), .inl (0, 100, .inl fun _ => 0), .inl (1, 100, .inl fun _ => 0), .inl (0, 100, .inl fun _ => 0), .inl (0, 100, .inl fun _ => 0), .inr (4, [.ref 19, .ref 20, .ref 21, .ref 22, .ref 23, .int (nI 0), .int (nI 0)]), .inl (0, 60, .inl fun _ => 0), .inl (1, 60, .inl fun _ => 0), .inl (1, 600, .inl fun _ => 0), .inl (0, 60, .inl fun _ => 0), .inl (0, 60, .inl fun _ => 0), .inr (5, [.ref 25, .ref 26, .ref 27, .int (nI 0)]), .inl (0, 300, .inl fun _ => 0), .inl (0, 300, .inl fun _ => 0), .inl (0, 300, .inl fun _ => 0), .inr (6, [.int 0, .int 0, .int 0, .int 0, .int (nI 5), .int 0, .ref 29, .ref 30, .ref 31, .ref 32, .ref 33, .int 0, .ref 34, .ref 35, .ref 36, .ref 37, .int 0, .ref 38, .ref 39, .ref 40, .int 0, .ref 41, .ref 42, .ref 43, .null, .null, .int 0]), .inl (0, 30, .inl fun _ => 0), .inl (1, 30, .inl fun _ => 0), .inl (0, 30, .inl fun _ => 0), .inl (0, 30, .inl fun _ => 0), .inl (0, 30, .inl fun _ => 0), .inl (0, 30, .inl fun _ => 0), .inl (0, 900, .inl fun _ => 0), .inl (0, 150, .inl fun _ => 0), .inl (0, 3000, .inl fun _ => 0), .inl (0, 100, .inl fun _ => 0), .inl (1, 100, .inl fun _ => 0), .inl (0, 100, .inl fun _ => 0), .inl (0, 60, .inl fun _ => 0), .inl (1, 60, .inl fun _ => 0), .inl (0, 60, .inl fun _ => 0)]) rfl ?_
  refine xv_m 2 rfl ?_
  refine xv_nae 600 1 6000 rfl rfl (by omega) rfl rfl ?_
  refine xv_m 1 (h1 := [.inr (0, [.ref 2, .ref 10, .ref 13, .ref 18, .ref 24, .int (nI 0), .int (nI 0), .int (nI 5), .int (nI 0)]), .inr (1, [.ref 3, .ref 4, .ref 5, .ref 6, .ref 7, .ref 8, .ref 9, .int (nI 0)]), .inl (0, 30, .inl fun _ => 0), .inl (1, 30, .inl fun _ => 0), .inl (0, 30, .inl fun _ => 0), .inl (0, 30, .inl fun _ => 0), .inl (0, 30, .inl fun _ => 0), .inl (0, 150, .inl fun _ => 0), .inl (0, 3000, .inl fun _ => 0), .inr (2, [.ref 11, .ref 12, .int (nI 0)]), .inl (0, 30, .inl fun _ => 0), .inl (0, 900, .inl fun _ => 0), .inr (3, [.ref 14, .ref 15, .ref 16, .ref 17, .int (nI 0)]), .inl (0, 100, .inl fun _ => 0), .inl (1, 100, .inl fun _ => 0), .inl (0, 100, .inl fun _ => 0), .inl (0, 100, .inl fun _ => 0), .inr (4, [.ref 19, .ref 20, .ref 21, .ref 22, .ref 23, .int (nI 0), .int (nI 0)]), .inl (0, 60, .inl fun _ => 0), .inl (1, 60, .inl fun _ => 0), .inl (1, 600, .inl fun _ => 0), .inl (0, 60, .inl fun _ => 0), .inl (0, 60, .inl fun _ => 0), .inr (5, [.ref 25, .ref 26, .ref 27, .int (nI 0)]), .inl (0, 300, .inl fun _ => 0), .inl (0, 300, .inl fun _ => 0), .inl (0, 300, .inl fun _ => 0), .inr (6, [.int 0, .int 0, .int 0, .int 0, .int (nI 5), .int 0, .ref 29, .ref 30, .ref 31, .ref 32, .ref 33, .int 0, .ref 34, .ref 35, .ref 36, .ref 37, .int 0, .ref 38, .ref 39, .ref 40, .int 0, .ref 41, .ref 42, .ref 43, .ref 44, .null, .int 0]), .inl (0, 30, .inl fun _ => 0), .inl (1, 30, .inl fun _ => 0), .inl (0, 30, .inl fun _ => 0), .inl (0, 30, .inl fun _ => 0), .inl (0, 30, .inl fun _ => 0), .inl (0, 30, .inl fun _ => 0), .inl (0, 900, .inl fun _ => 0), .inl (0, 150, .inl fun _ => 0), .inl (0, 3000, .inl fun _ => 0), .inl (0, 100, .inl fun _ => 0), .inl (1, 100, .inl fun _ => 0), .inl (0, 100, .inl fun _ => 0), .inl (0, 60, .inl fun _ => 0), .inl (1, 60, .inl fun _ => 0), .inl (0, 60, .inl fun _ => 0), .inl (1, 600, .inl fun _ => 0)]) rfl ?_
  refine xv_m 2 rfl ?_
  refine xv_nae 6000 0 0 rfl rfl (by omega) rfl rfl ?_
  refine xv_m 1 (h1 := [.inr (0, [.ref 2, .ref 10, .ref 13, .ref 18, .ref 24, .int (nI 0), .int (nI 0), .int (nI 5), .int (nI 0)]), .inr (1, [.ref 3, .ref 4, .ref 5, .ref 6, .ref 7, .ref 8, .ref 9, .int (nI 0)]), .inl (0, 30, .inl fun _ => 0), .inl (1, 30, .inl fun _ => 0), .inl (0, 30, .inl fun _ => 0), .inl (0, 30, .inl fun _ => 0), .inl (0, 30, .inl fun _ => 0), .inl (0, 150, .inl fun _ => 0), .inl (0, 3000, .inl fun _ => 0), .inr (2, [.ref 11, .ref 12, .int (nI 0)]), .inl (0, 30, .inl fun _ => 0), .inl (0, 900, .inl fun _ => 0), .inr (3, [.ref 14, .ref 15, .ref 16, .ref 17, .int (nI 0)]), .inl (0, 100, .inl fun _ => 0), .inl (1, 100, .inl fun _ => 0), .inl (0, 100, .inl fun _ => 0), .inl (0, 100, .inl fun _ => 0), .inr (4, [.ref 19, .ref 20, .ref 21, .ref 22, .ref 23, .int (nI 0), .int (nI 0)]), .inl (0, 60, .inl fun _ => 0), .inl (1, 60, .inl fun _ => 0), .inl (1, 600, .inl fun _ => 0), .inl (0, 60, .inl fun _ => 0), .inl (0, 60, .inl fun _ => 0), .inr (5, [.ref 25, .ref 26, .ref 27, .int (nI 0)]), .inl (0, 300, .inl fun _ => 0), .inl (0, 300, .inl fun _ => 0), .inl (0, 300, .inl fun _ => 0), .inr (6, [.int 0, .int 0, .int 0, .int 0, .int (nI 5), .int 0, .ref 29, .ref 30, .ref 31, .ref 32, .ref 33, .int 0, .ref 34, .ref 35, .ref 36, .ref 37, .int 0, .ref 38, .ref 39, .ref 40, .int 0, .ref 41, .ref 42, .ref 43, .ref 44, .ref 45, .int 0]), .inl (0, 30, .inl fun _ => 0), .inl (1, 30, .inl fun _ => 0), .inl (0, 30, .inl fun _ => 0), .inl (0, 30, .inl fun _ => 0), .inl (0, 30, .inl fun _ => 0), .inl (0, 30, .inl fun _ => 0), .inl (0, 900, .inl fun _ => 0), .inl (0, 150, .inl fun _ => 0), .inl (0, 3000, .inl fun _ => 0), .inl (0, 100, .inl fun _ => 0), .inl (1, 100, .inl fun _ => 0), .inl (0, 100, .inl fun _ => 0), .inl (0, 60, .inl fun _ => 0), .inl (1, 60, .inl fun _ => 0), .inl (0, 60, .inl fun _ => 0), .inl (1, 600, .inl fun _ => 0), .inl (1, 6000, .inl fun _ => 0)]) rfl ?_
  exact xv_r rfl
theorem h_1 {p1 p2 : Int32} {x : Int32} (hc : xv xm L xs (d - 1) (w - 17) 1 0 [(0, .ref 1), (1, .int (p1)), (2, .int (p2))] [] (xC s ++ (xD r b ++ (xo f :: g))) (.returned (some (.int (x)))) (xC s1 ++ (xD r b ++ (xo f :: g))) 0 0) (hd : 1 ≤ d) (hw : 17 ≤ w) : xv xm L xs d w 132 0 [(0, .ref 1), (1, .int (p1)), (2, .int (p2)), (3, .ref 46)] [] (xC s ++ (xD r b ++ (xo f :: g))) (.returned (some (.int (nI 0)))) (xC s1 ++ (xD r b ++ (xo (vp_updL f 0 (x.toInt64)) :: g))) 0 0 := by
  refine xv_m 5 rfl ?_
  refine xv_c0 (r := 1) (nip := 6) (cost := 17) rfl (by omega) (by omega) (hc) ?_
  refine xv_m 1 rfl ?_
  refine xv_las 0 (xC s1 ++ (xD r b ++ (xo (vp_updL f 0 (x.toInt64)) :: g))) rfl rfl rfl (by omega) (by omega) rfl ?_
  refine xv_m 2 rfl ?_
  exact xv_r rfl
theorem t_1_8 {p1 p2 : Int32} (hc : xv xm L xs (d - 1) (w - 17) 1 0 [(0, .ref 1), (1, .int (p1)), (2, .int (p2))] [] (xC s ++ (xD r b ++ (xo f :: g))) (.threw ((xC s1 ++ (xD r b ++ (xo f :: g))).length + 1)) ((xC s1 ++ (xD r b ++ (xo f :: g))) ++ [.inr (8, [])]) 1 6) (hd : 1 ≤ d) (hw : 17 ≤ w) : xv xm L xs d w 132 0 [(0, .ref 1), (1, .int (p1)), (2, .int (p2)), (3, .ref 46)] [] (xC s ++ (xD r b ++ (xo f :: g))) (.returned (some (.int (nI 1)))) (xC s1 ++ (xD r b ++ (xo f :: (g ++ [.inr (8, [])])))) 1 6 := by
  refine xv_m 5 rfl ?_
  refine xv_cc (r := 1) (nip := 6) (cost := 17) (ip' := 9) (k1 := 1) (z1 := 6) (k := 0) (z := 0) rfl (by omega) (by omega) hc (xa_hnd_last.trans rfl) ?_
  refine xv_eh (h1 := xC s1 ++ (xD r b ++ (xo f :: (g ++ [.inr (8, [])])))) rfl ?_
  refine xv_m 2 rfl ?_
  exact xv_r rfl
theorem t_1_10 {p1 p2 : Int32} (hc : xv xm L xs (d - 1) (w - 17) 1 0 [(0, .ref 1), (1, .int (p1)), (2, .int (p2))] [] (xC s ++ (xD r b ++ (xo f :: g))) (.threw ((xC s1 ++ (xD r b ++ (xo f :: g))).length + 1)) ((xC s1 ++ (xD r b ++ (xo f :: g))) ++ [.inr (10, [])]) 1 6) (hd : 1 ≤ d) (hw : 17 ≤ w) : xv xm L xs d w 132 0 [(0, .ref 1), (1, .int (p1)), (2, .int (p2)), (3, .ref 46)] [] (xC s ++ (xD r b ++ (xo f :: g))) (.returned (some (.int (nI 2)))) (xC s1 ++ (xD r b ++ (xo f :: (g ++ [.inr (10, [])])))) 1 6 := by
  refine xv_m 5 rfl ?_
  refine xv_cc (r := 1) (nip := 6) (cost := 17) (ip' := 12) (k1 := 1) (z1 := 6) (k := 0) (z := 0) rfl (by omega) (by omega) hc (xa_hnd_last.trans rfl) ?_
  refine xv_eh (h1 := xC s1 ++ (xD r b ++ (xo f :: (g ++ [.inr (10, [])])))) rfl ?_
  refine xv_m 2 rfl ?_
  exact xv_r rfl
theorem h_2 {p1 p2 p3 : Int32} {x : Int32} (hc : xv xm L xs (d - 1) (w - 17) 2 0 [(0, .ref 1), (1, .int (p1)), (2, .int (p2)), (3, .int (p3))] [] (xC s ++ (xD r b ++ (xo f :: g))) (.returned (some (.int (x)))) (xC s1 ++ (xD r b ++ (xo f :: g))) 0 0) (hd : 1 ≤ d) (hw : 17 ≤ w) : xv xm L xs d w 133 0 [(0, .ref 1), (1, .int (p1)), (2, .int (p2)), (3, .int (p3)), (4, .ref 46)] [] (xC s ++ (xD r b ++ (xo f :: g))) (.returned (some (.int (nI 0)))) (xC s1 ++ (xD r b ++ (xo (vp_updL f 0 (x.toInt64)) :: g))) 0 0 := by
  refine xv_m 6 rfl ?_
  refine xv_c0 (r := 2) (nip := 7) (cost := 17) rfl (by omega) (by omega) (hc) ?_
  refine xv_m 1 rfl ?_
  refine xv_las 0 (xC s1 ++ (xD r b ++ (xo (vp_updL f 0 (x.toInt64)) :: g))) rfl rfl rfl (by omega) (by omega) rfl ?_
  refine xv_m 2 rfl ?_
  exact xv_r rfl
theorem t_2_8 {p1 p2 p3 : Int32} (hc : xv xm L xs (d - 1) (w - 17) 2 0 [(0, .ref 1), (1, .int (p1)), (2, .int (p2)), (3, .int (p3))] [] (xC s ++ (xD r b ++ (xo f :: g))) (.threw ((xC s1 ++ (xD r b ++ (xo f :: g))).length + 1)) ((xC s1 ++ (xD r b ++ (xo f :: g))) ++ [.inr (8, [])]) 1 6) (hd : 1 ≤ d) (hw : 17 ≤ w) : xv xm L xs d w 133 0 [(0, .ref 1), (1, .int (p1)), (2, .int (p2)), (3, .int (p3)), (4, .ref 46)] [] (xC s ++ (xD r b ++ (xo f :: g))) (.returned (some (.int (nI 1)))) (xC s1 ++ (xD r b ++ (xo f :: (g ++ [.inr (8, [])])))) 1 6 := by
  refine xv_m 6 rfl ?_
  refine xv_cc (r := 2) (nip := 7) (cost := 17) (ip' := 10) (k1 := 1) (z1 := 6) (k := 0) (z := 0) rfl (by omega) (by omega) hc (xa_hnd_last.trans rfl) ?_
  refine xv_eh (h1 := xC s1 ++ (xD r b ++ (xo f :: (g ++ [.inr (8, [])])))) rfl ?_
  refine xv_m 2 rfl ?_
  exact xv_r rfl
theorem t_2_10 {p1 p2 p3 : Int32} (hc : xv xm L xs (d - 1) (w - 17) 2 0 [(0, .ref 1), (1, .int (p1)), (2, .int (p2)), (3, .int (p3))] [] (xC s ++ (xD r b ++ (xo f :: g))) (.threw ((xC s1 ++ (xD r b ++ (xo f :: g))).length + 1)) ((xC s1 ++ (xD r b ++ (xo f :: g))) ++ [.inr (10, [])]) 1 6) (hd : 1 ≤ d) (hw : 17 ≤ w) : xv xm L xs d w 133 0 [(0, .ref 1), (1, .int (p1)), (2, .int (p2)), (3, .int (p3)), (4, .ref 46)] [] (xC s ++ (xD r b ++ (xo f :: g))) (.returned (some (.int (nI 2)))) (xC s1 ++ (xD r b ++ (xo f :: (g ++ [.inr (10, [])])))) 1 6 := by
  refine xv_m 6 rfl ?_
  refine xv_cc (r := 2) (nip := 7) (cost := 17) (ip' := 13) (k1 := 1) (z1 := 6) (k := 0) (z := 0) rfl (by omega) (by omega) hc (xa_hnd_last.trans rfl) ?_
  refine xv_eh (h1 := xC s1 ++ (xD r b ++ (xo f :: (g ++ [.inr (10, [])])))) rfl ?_
  refine xv_m 2 rfl ?_
  exact xv_r rfl
theorem h_3 {p1 : Int32} (hc : xv xm L xs (d - 1) (w - 13) 3 0 [(0, .ref 1), (1, .int (p1))] [] (xC s ++ (xD r b ++ (xo f :: g))) (.returned none) (xC s1 ++ (xD r b ++ (xo f :: g))) 0 0) (hd : 1 ≤ d) (hw : 13 ≤ w) : xv xm L xs d w 134 0 [(0, .ref 1), (1, .int (p1))] [] (xC s ++ (xD r b ++ (xo f :: g))) (.returned (some (.int (nI 0)))) (xC s1 ++ (xD r b ++ (xo f :: g))) 0 0 := by
  refine xv_m 2 rfl ?_
  refine xv_c0 (r := 3) (nip := 3) (cost := 13) rfl (by omega) (by omega) (hc) ?_
  refine xv_m 2 rfl ?_
  exact xv_r rfl
theorem t_3_8 {p1 : Int32} (hc : xv xm L xs (d - 1) (w - 13) 3 0 [(0, .ref 1), (1, .int (p1))] [] (xC s ++ (xD r b ++ (xo f :: g))) (.threw ((xC s1 ++ (xD r b ++ (xo f :: g))).length + 1)) ((xC s1 ++ (xD r b ++ (xo f :: g))) ++ [.inr (8, [])]) 1 6) (hd : 1 ≤ d) (hw : 13 ≤ w) : xv xm L xs d w 134 0 [(0, .ref 1), (1, .int (p1))] [] (xC s ++ (xD r b ++ (xo f :: g))) (.returned (some (.int (nI 1)))) (xC s1 ++ (xD r b ++ (xo f :: (g ++ [.inr (8, [])])))) 1 6 := by
  refine xv_m 2 rfl ?_
  refine xv_cc (r := 3) (nip := 3) (cost := 13) (ip' := 4) (k1 := 1) (z1 := 6) (k := 0) (z := 0) rfl (by omega) (by omega) hc (xa_hnd_last.trans rfl) ?_
  refine xv_eh (h1 := xC s1 ++ (xD r b ++ (xo f :: (g ++ [.inr (8, [])])))) rfl ?_
  refine xv_m 2 rfl ?_
  exact xv_r rfl
theorem h_4 {p1 : Int32} (hc : xv xm L xs (d - 1) (w - 13) 4 0 [(0, .ref 1), (1, .int (p1))] [] (xC s ++ (xD r b ++ (xo f :: g))) (.returned none) (xC s1 ++ (xD r b ++ (xo f :: g))) 0 0) (hd : 1 ≤ d) (hw : 13 ≤ w) : xv xm L xs d w 135 0 [(0, .ref 1), (1, .int (p1))] [] (xC s ++ (xD r b ++ (xo f :: g))) (.returned (some (.int (nI 0)))) (xC s1 ++ (xD r b ++ (xo f :: g))) 0 0 := by
  refine xv_m 2 rfl ?_
  refine xv_c0 (r := 4) (nip := 3) (cost := 13) rfl (by omega) (by omega) (hc) ?_
  refine xv_m 2 rfl ?_
  exact xv_r rfl
theorem t_4_8 {p1 : Int32} (hc : xv xm L xs (d - 1) (w - 13) 4 0 [(0, .ref 1), (1, .int (p1))] [] (xC s ++ (xD r b ++ (xo f :: g))) (.threw ((xC s1 ++ (xD r b ++ (xo f :: g))).length + 1)) ((xC s1 ++ (xD r b ++ (xo f :: g))) ++ [.inr (8, [])]) 1 6) (hd : 1 ≤ d) (hw : 13 ≤ w) : xv xm L xs d w 135 0 [(0, .ref 1), (1, .int (p1))] [] (xC s ++ (xD r b ++ (xo f :: g))) (.returned (some (.int (nI 1)))) (xC s1 ++ (xD r b ++ (xo f :: (g ++ [.inr (8, [])])))) 1 6 := by
  refine xv_m 2 rfl ?_
  refine xv_cc (r := 4) (nip := 3) (cost := 13) (ip' := 4) (k1 := 1) (z1 := 6) (k := 0) (z := 0) rfl (by omega) (by omega) hc (xa_hnd_last.trans rfl) ?_
  refine xv_eh (h1 := xC s1 ++ (xD r b ++ (xo f :: (g ++ [.inr (8, [])])))) rfl ?_
  refine xv_m 2 rfl ?_
  exact xv_r rfl
theorem h_5 {p1 p2 p3 : Int32} (hc : xv xm L xs (d - 1) (w - 15) 5 0 [(0, .ref 1), (1, .int (p1)), (2, .int (p2)), (3, .int (p3))] [] (xC s ++ (xD r b ++ (xo f :: g))) (.returned none) (xC s1 ++ (xD r b ++ (xo f :: g))) 0 0) (hd : 1 ≤ d) (hw : 15 ≤ w) : xv xm L xs d w 136 0 [(0, .ref 1), (1, .int (p1)), (2, .int (p2)), (3, .int (p3))] [] (xC s ++ (xD r b ++ (xo f :: g))) (.returned (some (.int (nI 0)))) (xC s1 ++ (xD r b ++ (xo f :: g))) 0 0 := by
  refine xv_m 4 rfl ?_
  refine xv_c0 (r := 5) (nip := 5) (cost := 15) rfl (by omega) (by omega) (hc) ?_
  refine xv_m 2 rfl ?_
  exact xv_r rfl
theorem t_5_7 {p1 p2 p3 : Int32} (hc : xv xm L xs (d - 1) (w - 15) 5 0 [(0, .ref 1), (1, .int (p1)), (2, .int (p2)), (3, .int (p3))] [] (xC s ++ (xD r b ++ (xo f :: g))) (.threw ((xC s1 ++ (xD r b ++ (xo f :: g))).length + 1)) ((xC s1 ++ (xD r b ++ (xo f :: g))) ++ [.inr (7, [])]) 1 6) (hd : 1 ≤ d) (hw : 15 ≤ w) : xv xm L xs d w 136 0 [(0, .ref 1), (1, .int (p1)), (2, .int (p2)), (3, .int (p3))] [] (xC s ++ (xD r b ++ (xo f :: g))) (.returned (some (.int (nI 1)))) (xC s1 ++ (xD r b ++ (xo f :: (g ++ [.inr (7, [])])))) 1 6 := by
  refine xv_m 4 rfl ?_
  refine xv_cc (r := 5) (nip := 5) (cost := 15) (ip' := 6) (k1 := 1) (z1 := 6) (k := 0) (z := 0) rfl (by omega) (by omega) hc (xa_hnd_last.trans rfl) ?_
  refine xv_eh (h1 := xC s1 ++ (xD r b ++ (xo f :: (g ++ [.inr (7, [])])))) rfl ?_
  refine xv_m 2 rfl ?_
  exact xv_r rfl
theorem t_5_8 {p1 p2 p3 : Int32} (hc : xv xm L xs (d - 1) (w - 15) 5 0 [(0, .ref 1), (1, .int (p1)), (2, .int (p2)), (3, .int (p3))] [] (xC s ++ (xD r b ++ (xo f :: g))) (.threw ((xC s1 ++ (xD r b ++ (xo f :: g))).length + 1)) ((xC s1 ++ (xD r b ++ (xo f :: g))) ++ [.inr (8, [])]) 1 6) (hd : 1 ≤ d) (hw : 15 ≤ w) : xv xm L xs d w 136 0 [(0, .ref 1), (1, .int (p1)), (2, .int (p2)), (3, .int (p3))] [] (xC s ++ (xD r b ++ (xo f :: g))) (.returned (some (.int (nI 2)))) (xC s1 ++ (xD r b ++ (xo f :: (g ++ [.inr (8, [])])))) 1 6 := by
  refine xv_m 4 rfl ?_
  refine xv_cc (r := 5) (nip := 5) (cost := 15) (ip' := 9) (k1 := 1) (z1 := 6) (k := 0) (z := 0) rfl (by omega) (by omega) hc (xa_hnd_last.trans rfl) ?_
  refine xv_eh (h1 := xC s1 ++ (xD r b ++ (xo f :: (g ++ [.inr (8, [])])))) rfl ?_
  refine xv_m 2 rfl ?_
  exact xv_r rfl
theorem t_5_9 {p1 p2 p3 : Int32} (hc : xv xm L xs (d - 1) (w - 15) 5 0 [(0, .ref 1), (1, .int (p1)), (2, .int (p2)), (3, .int (p3))] [] (xC s ++ (xD r b ++ (xo f :: g))) (.threw ((xC s1 ++ (xD r b ++ (xo f :: g))).length + 1)) ((xC s1 ++ (xD r b ++ (xo f :: g))) ++ [.inr (9, [])]) 1 6) (hd : 1 ≤ d) (hw : 15 ≤ w) : xv xm L xs d w 136 0 [(0, .ref 1), (1, .int (p1)), (2, .int (p2)), (3, .int (p3))] [] (xC s ++ (xD r b ++ (xo f :: g))) (.returned (some (.int (nI 3)))) (xC s1 ++ (xD r b ++ (xo f :: (g ++ [.inr (9, [])])))) 1 6 := by
  refine xv_m 4 rfl ?_
  refine xv_cc (r := 5) (nip := 5) (cost := 15) (ip' := 12) (k1 := 1) (z1 := 6) (k := 0) (z := 0) rfl (by omega) (by omega) hc (xa_hnd_last.trans rfl) ?_
  refine xv_eh (h1 := xC s1 ++ (xD r b ++ (xo f :: (g ++ [.inr (9, [])])))) rfl ?_
  refine xv_m 2 rfl ?_
  exact xv_r rfl
theorem h_6 {p1 p2 p3 : Int32} {x : Int32} (hc : xv xm L xs (d - 1) (w - 17) 6 0 [(0, .ref 1), (1, .int (p1)), (2, .int (p2)), (3, .int (p3))] [] (xC s ++ (xD r b ++ (xo f :: g))) (.returned (some (.int (x)))) (xC s1 ++ (xD r b ++ (xo f :: g))) 0 0) (hd : 1 ≤ d) (hw : 17 ≤ w) : xv xm L xs d w 137 0 [(0, .ref 1), (1, .int (p1)), (2, .int (p2)), (3, .int (p3)), (4, .ref 46)] [] (xC s ++ (xD r b ++ (xo f :: g))) (.returned (some (.int (nI 0)))) (xC s1 ++ (xD r b ++ (xo (vp_updL f 0 (x.toInt64)) :: g))) 0 0 := by
  refine xv_m 6 rfl ?_
  refine xv_c0 (r := 6) (nip := 7) (cost := 17) rfl (by omega) (by omega) (hc) ?_
  refine xv_m 1 rfl ?_
  refine xv_las 0 (xC s1 ++ (xD r b ++ (xo (vp_updL f 0 (x.toInt64)) :: g))) rfl rfl rfl (by omega) (by omega) rfl ?_
  refine xv_m 2 rfl ?_
  exact xv_r rfl
theorem t_6_7 {p1 p2 p3 : Int32} (hc : xv xm L xs (d - 1) (w - 17) 6 0 [(0, .ref 1), (1, .int (p1)), (2, .int (p2)), (3, .int (p3))] [] (xC s ++ (xD r b ++ (xo f :: g))) (.threw ((xC s1 ++ (xD r b ++ (xo f :: g))).length + 1)) ((xC s1 ++ (xD r b ++ (xo f :: g))) ++ [.inr (7, [])]) 1 6) (hd : 1 ≤ d) (hw : 17 ≤ w) : xv xm L xs d w 137 0 [(0, .ref 1), (1, .int (p1)), (2, .int (p2)), (3, .int (p3)), (4, .ref 46)] [] (xC s ++ (xD r b ++ (xo f :: g))) (.returned (some (.int (nI 1)))) (xC s1 ++ (xD r b ++ (xo f :: (g ++ [.inr (7, [])])))) 1 6 := by
  refine xv_m 6 rfl ?_
  refine xv_cc (r := 6) (nip := 7) (cost := 17) (ip' := 10) (k1 := 1) (z1 := 6) (k := 0) (z := 0) rfl (by omega) (by omega) hc (xa_hnd_last.trans rfl) ?_
  refine xv_eh (h1 := xC s1 ++ (xD r b ++ (xo f :: (g ++ [.inr (7, [])])))) rfl ?_
  refine xv_m 2 rfl ?_
  exact xv_r rfl
theorem t_6_9 {p1 p2 p3 : Int32} (hc : xv xm L xs (d - 1) (w - 17) 6 0 [(0, .ref 1), (1, .int (p1)), (2, .int (p2)), (3, .int (p3))] [] (xC s ++ (xD r b ++ (xo f :: g))) (.threw ((xC s1 ++ (xD r b ++ (xo f :: g))).length + 1)) ((xC s1 ++ (xD r b ++ (xo f :: g))) ++ [.inr (9, [])]) 1 6) (hd : 1 ≤ d) (hw : 17 ≤ w) : xv xm L xs d w 137 0 [(0, .ref 1), (1, .int (p1)), (2, .int (p2)), (3, .int (p3)), (4, .ref 46)] [] (xC s ++ (xD r b ++ (xo f :: g))) (.returned (some (.int (nI 2)))) (xC s1 ++ (xD r b ++ (xo f :: (g ++ [.inr (9, [])])))) 1 6 := by
  refine xv_m 6 rfl ?_
  refine xv_cc (r := 6) (nip := 7) (cost := 17) (ip' := 13) (k1 := 1) (z1 := 6) (k := 0) (z := 0) rfl (by omega) (by omega) hc (xa_hnd_last.trans rfl) ?_
  refine xv_eh (h1 := xC s1 ++ (xD r b ++ (xo f :: (g ++ [.inr (9, [])])))) rfl ?_
  refine xv_m 2 rfl ?_
  exact xv_r rfl
theorem h_7 {p1 : Int32} {x : Int32} (hc : xv xm L xs (d - 1) (w - 15) 7 0 [(0, .ref 1), (1, .int (p1))] [] (xC s ++ (xD r b ++ (xo f :: g))) (.returned (some (.int (x)))) (xC s1 ++ (xD r b ++ (xo f :: g))) 0 0) (hd : 1 ≤ d) (hw : 15 ≤ w) : xv xm L xs d w 138 0 [(0, .ref 1), (1, .int (p1)), (2, .ref 46)] [] (xC s ++ (xD r b ++ (xo f :: g))) (.returned (some (.int (nI 0)))) (xC s1 ++ (xD r b ++ (xo (vp_updL f 0 (x.toInt64)) :: g))) 0 0 := by
  refine xv_m 4 rfl ?_
  refine xv_c0 (r := 7) (nip := 5) (cost := 15) rfl (by omega) (by omega) (hc) ?_
  refine xv_m 1 rfl ?_
  refine xv_las 0 (xC s1 ++ (xD r b ++ (xo (vp_updL f 0 (x.toInt64)) :: g))) rfl rfl rfl (by omega) (by omega) rfl ?_
  refine xv_m 2 rfl ?_
  exact xv_r rfl
theorem t_7_8 {p1 : Int32} (hc : xv xm L xs (d - 1) (w - 15) 7 0 [(0, .ref 1), (1, .int (p1))] [] (xC s ++ (xD r b ++ (xo f :: g))) (.threw ((xC s1 ++ (xD r b ++ (xo f :: g))).length + 1)) ((xC s1 ++ (xD r b ++ (xo f :: g))) ++ [.inr (8, [])]) 1 6) (hd : 1 ≤ d) (hw : 15 ≤ w) : xv xm L xs d w 138 0 [(0, .ref 1), (1, .int (p1)), (2, .ref 46)] [] (xC s ++ (xD r b ++ (xo f :: g))) (.returned (some (.int (nI 1)))) (xC s1 ++ (xD r b ++ (xo f :: (g ++ [.inr (8, [])])))) 1 6 := by
  refine xv_m 4 rfl ?_
  refine xv_cc (r := 7) (nip := 5) (cost := 15) (ip' := 8) (k1 := 1) (z1 := 6) (k := 0) (z := 0) rfl (by omega) (by omega) hc (xa_hnd_last.trans rfl) ?_
  refine xv_eh (h1 := xC s1 ++ (xD r b ++ (xo f :: (g ++ [.inr (8, [])])))) rfl ?_
  refine xv_m 2 rfl ?_
  exact xv_r rfl
theorem h_8 {p1 p2 : Int32} {x : Int32} (hc : xv xm L xs (d - 1) (w - 16) 8 0 [(0, .ref 1), (1, .int (p1)), (2, .int (p2))] [] (xC s ++ (xD r b ++ (xo f :: g))) (.returned (some (.int (x)))) (xC s1 ++ (xD r b ++ (xo f :: g))) 0 0) (hd : 1 ≤ d) (hw : 16 ≤ w) : xv xm L xs d w 139 0 [(0, .ref 1), (1, .int (p1)), (2, .int (p2)), (3, .ref 46)] [] (xC s ++ (xD r b ++ (xo f :: g))) (.returned (some (.int (nI 0)))) (xC s1 ++ (xD r b ++ (xo (vp_updL f 0 (x.toInt64)) :: g))) 0 0 := by
  refine xv_m 5 rfl ?_
  refine xv_c0 (r := 8) (nip := 6) (cost := 16) rfl (by omega) (by omega) (hc) ?_
  refine xv_m 1 rfl ?_
  refine xv_las 0 (xC s1 ++ (xD r b ++ (xo (vp_updL f 0 (x.toInt64)) :: g))) rfl rfl rfl (by omega) (by omega) rfl ?_
  refine xv_m 2 rfl ?_
  exact xv_r rfl
theorem t_8_7 {p1 p2 : Int32} (hc : xv xm L xs (d - 1) (w - 16) 8 0 [(0, .ref 1), (1, .int (p1)), (2, .int (p2))] [] (xC s ++ (xD r b ++ (xo f :: g))) (.threw ((xC s1 ++ (xD r b ++ (xo f :: g))).length + 1)) ((xC s1 ++ (xD r b ++ (xo f :: g))) ++ [.inr (7, [])]) 1 6) (hd : 1 ≤ d) (hw : 16 ≤ w) : xv xm L xs d w 139 0 [(0, .ref 1), (1, .int (p1)), (2, .int (p2)), (3, .ref 46)] [] (xC s ++ (xD r b ++ (xo f :: g))) (.returned (some (.int (nI 1)))) (xC s1 ++ (xD r b ++ (xo f :: (g ++ [.inr (7, [])])))) 1 6 := by
  refine xv_m 5 rfl ?_
  refine xv_cc (r := 8) (nip := 6) (cost := 16) (ip' := 9) (k1 := 1) (z1 := 6) (k := 0) (z := 0) rfl (by omega) (by omega) hc (xa_hnd_last.trans rfl) ?_
  refine xv_eh (h1 := xC s1 ++ (xD r b ++ (xo f :: (g ++ [.inr (7, [])])))) rfl ?_
  refine xv_m 2 rfl ?_
  exact xv_r rfl
theorem t_8_10 {p1 p2 : Int32} (hc : xv xm L xs (d - 1) (w - 16) 8 0 [(0, .ref 1), (1, .int (p1)), (2, .int (p2))] [] (xC s ++ (xD r b ++ (xo f :: g))) (.threw ((xC s1 ++ (xD r b ++ (xo f :: g))).length + 1)) ((xC s1 ++ (xD r b ++ (xo f :: g))) ++ [.inr (10, [])]) 1 6) (hd : 1 ≤ d) (hw : 16 ≤ w) : xv xm L xs d w 139 0 [(0, .ref 1), (1, .int (p1)), (2, .int (p2)), (3, .ref 46)] [] (xC s ++ (xD r b ++ (xo f :: g))) (.returned (some (.int (nI 2)))) (xC s1 ++ (xD r b ++ (xo f :: (g ++ [.inr (10, [])])))) 1 6 := by
  refine xv_m 5 rfl ?_
  refine xv_cc (r := 8) (nip := 6) (cost := 16) (ip' := 12) (k1 := 1) (z1 := 6) (k := 0) (z := 0) rfl (by omega) (by omega) hc (xa_hnd_last.trans rfl) ?_
  refine xv_eh (h1 := xC s1 ++ (xD r b ++ (xo f :: (g ++ [.inr (10, [])])))) rfl ?_
  refine xv_m 2 rfl ?_
  exact xv_r rfl
theorem h_9_1 {p1 p2 p3 p4 : Int32} (hc : xv xm L xs (d - 1) (w - 19) 9 0 [(0, .ref 1), (1, .int (p1)), (2, .int (p2)), (3, .int (p3)), (4, .int (p4))] [] (xC s ++ (xD r b ++ (xo f :: g))) (.returned (some (.int (1)))) (xC s1 ++ (xD r b ++ (xo f :: g))) 0 0) (hd : 1 ≤ d) (hw : 19 ≤ w) : xv xm L xs d w 140 0 [(0, .ref 1), (1, .int (p1)), (2, .int (p2)), (3, .int (p3)), (4, .int (p4)), (5, .ref 46)] [] (xC s ++ (xD r b ++ (xo f :: g))) (.returned (some (.int (nI 0)))) (xC s1 ++ (xD r b ++ (xo (vp_updL f 0 (lN 1)) :: g))) 0 0 := by
  refine xv_m 7 rfl ?_
  refine xv_c0 (r := 9) (nip := 8) (cost := 19) rfl (by omega) (by omega) (hc) ?_
  refine xv_bf rfl (by decide +kernel) ?_
  refine xv_m 2 rfl ?_
  refine xv_las 0 (xC s1 ++ (xD r b ++ (xo (vp_updL f 0 (lN 1)) :: g))) rfl rfl rfl (by omega) (by omega) rfl ?_
  refine xv_m 2 rfl ?_
  exact xv_r rfl
theorem h_9_0 {p1 p2 p3 p4 : Int32} (hc : xv xm L xs (d - 1) (w - 19) 9 0 [(0, .ref 1), (1, .int (p1)), (2, .int (p2)), (3, .int (p3)), (4, .int (p4))] [] (xC s ++ (xD r b ++ (xo f :: g))) (.returned (some (.int (0)))) (xC s1 ++ (xD r b ++ (xo f :: g))) 0 0) (hd : 1 ≤ d) (hw : 19 ≤ w) : xv xm L xs d w 140 0 [(0, .ref 1), (1, .int (p1)), (2, .int (p2)), (3, .int (p3)), (4, .int (p4)), (5, .ref 46)] [] (xC s ++ (xD r b ++ (xo f :: g))) (.returned (some (.int (nI 0)))) (xC s1 ++ (xD r b ++ (xo (vp_updL f 0 (lN 0)) :: g))) 0 0 := by
  refine xv_m 7 rfl ?_
  refine xv_c0 (r := 9) (nip := 8) (cost := 19) rfl (by omega) (by omega) (hc) ?_
  refine xv_bt rfl (by decide +kernel) ?_
  refine xv_m 1 rfl ?_
  refine xv_las 0 (xC s1 ++ (xD r b ++ (xo (vp_updL f 0 (lN 0)) :: g))) rfl rfl rfl (by omega) (by omega) rfl ?_
  refine xv_m 2 rfl ?_
  exact xv_r rfl
theorem t_9_7 {p1 p2 p3 p4 : Int32} (hc : xv xm L xs (d - 1) (w - 19) 9 0 [(0, .ref 1), (1, .int (p1)), (2, .int (p2)), (3, .int (p3)), (4, .int (p4))] [] (xC s ++ (xD r b ++ (xo f :: g))) (.threw ((xC s1 ++ (xD r b ++ (xo f :: g))).length + 1)) ((xC s1 ++ (xD r b ++ (xo f :: g))) ++ [.inr (7, [])]) 1 6) (hd : 1 ≤ d) (hw : 19 ≤ w) : xv xm L xs d w 140 0 [(0, .ref 1), (1, .int (p1)), (2, .int (p2)), (3, .int (p3)), (4, .int (p4)), (5, .ref 46)] [] (xC s ++ (xD r b ++ (xo f :: g))) (.returned (some (.int (nI 1)))) (xC s1 ++ (xD r b ++ (xo f :: (g ++ [.inr (7, [])])))) 1 6 := by
  refine xv_m 7 rfl ?_
  refine xv_cc (r := 9) (nip := 8) (cost := 19) (ip' := 14) (k1 := 1) (z1 := 6) (k := 0) (z := 0) rfl (by omega) (by omega) hc (xa_hnd_last.trans rfl) ?_
  refine xv_eh (h1 := xC s1 ++ (xD r b ++ (xo f :: (g ++ [.inr (7, [])])))) rfl ?_
  refine xv_m 2 rfl ?_
  exact xv_r rfl
theorem t_9_8 {p1 p2 p3 p4 : Int32} (hc : xv xm L xs (d - 1) (w - 19) 9 0 [(0, .ref 1), (1, .int (p1)), (2, .int (p2)), (3, .int (p3)), (4, .int (p4))] [] (xC s ++ (xD r b ++ (xo f :: g))) (.threw ((xC s1 ++ (xD r b ++ (xo f :: g))).length + 1)) ((xC s1 ++ (xD r b ++ (xo f :: g))) ++ [.inr (8, [])]) 1 6) (hd : 1 ≤ d) (hw : 19 ≤ w) : xv xm L xs d w 140 0 [(0, .ref 1), (1, .int (p1)), (2, .int (p2)), (3, .int (p3)), (4, .int (p4)), (5, .ref 46)] [] (xC s ++ (xD r b ++ (xo f :: g))) (.returned (some (.int (nI 2)))) (xC s1 ++ (xD r b ++ (xo f :: (g ++ [.inr (8, [])])))) 1 6 := by
  refine xv_m 7 rfl ?_
  refine xv_cc (r := 9) (nip := 8) (cost := 19) (ip' := 17) (k1 := 1) (z1 := 6) (k := 0) (z := 0) rfl (by omega) (by omega) hc (xa_hnd_last.trans rfl) ?_
  refine xv_eh (h1 := xC s1 ++ (xD r b ++ (xo f :: (g ++ [.inr (8, [])])))) rfl ?_
  refine xv_m 2 rfl ?_
  exact xv_r rfl
theorem h_10 {p1 p2 p3 : Int32} (hc : xv xm L xs (d - 1) (w - 15) 10 0 [(0, .ref 1), (1, .int (p1)), (2, .int (p2)), (3, .int (p3))] [] (xC s ++ (xD r b ++ (xo f :: g))) (.returned none) (xC s1 ++ (xD r b ++ (xo f :: g))) 0 0) (hd : 1 ≤ d) (hw : 15 ≤ w) : xv xm L xs d w 141 0 [(0, .ref 1), (1, .int (p1)), (2, .int (p2)), (3, .int (p3))] [] (xC s ++ (xD r b ++ (xo f :: g))) (.returned (some (.int (nI 0)))) (xC s1 ++ (xD r b ++ (xo f :: g))) 0 0 := by
  refine xv_m 4 rfl ?_
  refine xv_c0 (r := 10) (nip := 5) (cost := 15) rfl (by omega) (by omega) (hc) ?_
  refine xv_m 2 rfl ?_
  exact xv_r rfl
theorem t_10_7 {p1 p2 p3 : Int32} (hc : xv xm L xs (d - 1) (w - 15) 10 0 [(0, .ref 1), (1, .int (p1)), (2, .int (p2)), (3, .int (p3))] [] (xC s ++ (xD r b ++ (xo f :: g))) (.threw ((xC s1 ++ (xD r b ++ (xo f :: g))).length + 1)) ((xC s1 ++ (xD r b ++ (xo f :: g))) ++ [.inr (7, [])]) 1 6) (hd : 1 ≤ d) (hw : 15 ≤ w) : xv xm L xs d w 141 0 [(0, .ref 1), (1, .int (p1)), (2, .int (p2)), (3, .int (p3))] [] (xC s ++ (xD r b ++ (xo f :: g))) (.returned (some (.int (nI 1)))) (xC s1 ++ (xD r b ++ (xo f :: (g ++ [.inr (7, [])])))) 1 6 := by
  refine xv_m 4 rfl ?_
  refine xv_cc (r := 10) (nip := 5) (cost := 15) (ip' := 6) (k1 := 1) (z1 := 6) (k := 0) (z := 0) rfl (by omega) (by omega) hc (xa_hnd_last.trans rfl) ?_
  refine xv_eh (h1 := xC s1 ++ (xD r b ++ (xo f :: (g ++ [.inr (7, [])])))) rfl ?_
  refine xv_m 2 rfl ?_
  exact xv_r rfl
theorem t_10_8 {p1 p2 p3 : Int32} (hc : xv xm L xs (d - 1) (w - 15) 10 0 [(0, .ref 1), (1, .int (p1)), (2, .int (p2)), (3, .int (p3))] [] (xC s ++ (xD r b ++ (xo f :: g))) (.threw ((xC s1 ++ (xD r b ++ (xo f :: g))).length + 1)) ((xC s1 ++ (xD r b ++ (xo f :: g))) ++ [.inr (8, [])]) 1 6) (hd : 1 ≤ d) (hw : 15 ≤ w) : xv xm L xs d w 141 0 [(0, .ref 1), (1, .int (p1)), (2, .int (p2)), (3, .int (p3))] [] (xC s ++ (xD r b ++ (xo f :: g))) (.returned (some (.int (nI 2)))) (xC s1 ++ (xD r b ++ (xo f :: (g ++ [.inr (8, [])])))) 1 6 := by
  refine xv_m 4 rfl ?_
  refine xv_cc (r := 10) (nip := 5) (cost := 15) (ip' := 9) (k1 := 1) (z1 := 6) (k := 0) (z := 0) rfl (by omega) (by omega) hc (xa_hnd_last.trans rfl) ?_
  refine xv_eh (h1 := xC s1 ++ (xD r b ++ (xo f :: (g ++ [.inr (8, [])])))) rfl ?_
  refine xv_m 2 rfl ?_
  exact xv_r rfl
theorem h_11 {p1 : Int32} {x : Int32} (hc : xv xm L xs (d - 1) (w - 16) 11 0 [(0, .ref 1), (1, .int (p1))] [] (xC s ++ (xD r b ++ (xo f :: g))) (.returned (some (.int (x)))) (xC s1 ++ (xD r b ++ (xo f :: g))) 0 0) (hd : 1 ≤ d) (hw : 16 ≤ w) : xv xm L xs d w 142 0 [(0, .ref 1), (1, .int (p1)), (2, .ref 46)] [] (xC s ++ (xD r b ++ (xo f :: g))) (.returned (some (.int (nI 0)))) (xC s1 ++ (xD r b ++ (xo (vp_updL f 0 (x.toInt64)) :: g))) 0 0 := by
  refine xv_m 4 rfl ?_
  refine xv_c0 (r := 11) (nip := 5) (cost := 16) rfl (by omega) (by omega) (hc) ?_
  refine xv_m 1 rfl ?_
  refine xv_las 0 (xC s1 ++ (xD r b ++ (xo (vp_updL f 0 (x.toInt64)) :: g))) rfl rfl rfl (by omega) (by omega) rfl ?_
  refine xv_m 2 rfl ?_
  exact xv_r rfl
theorem t_11_7 {p1 : Int32} (hc : xv xm L xs (d - 1) (w - 16) 11 0 [(0, .ref 1), (1, .int (p1))] [] (xC s ++ (xD r b ++ (xo f :: g))) (.threw ((xC s1 ++ (xD r b ++ (xo f :: g))).length + 1)) ((xC s1 ++ (xD r b ++ (xo f :: g))) ++ [.inr (7, [])]) 1 6) (hd : 1 ≤ d) (hw : 16 ≤ w) : xv xm L xs d w 142 0 [(0, .ref 1), (1, .int (p1)), (2, .ref 46)] [] (xC s ++ (xD r b ++ (xo f :: g))) (.returned (some (.int (nI 1)))) (xC s1 ++ (xD r b ++ (xo f :: (g ++ [.inr (7, [])])))) 1 6 := by
  refine xv_m 4 rfl ?_
  refine xv_cc (r := 11) (nip := 5) (cost := 16) (ip' := 8) (k1 := 1) (z1 := 6) (k := 0) (z := 0) rfl (by omega) (by omega) hc (xa_hnd_last.trans rfl) ?_
  refine xv_eh (h1 := xC s1 ++ (xD r b ++ (xo f :: (g ++ [.inr (7, [])])))) rfl ?_
  refine xv_m 2 rfl ?_
  exact xv_r rfl
theorem t_11_10 {p1 : Int32} (hc : xv xm L xs (d - 1) (w - 16) 11 0 [(0, .ref 1), (1, .int (p1))] [] (xC s ++ (xD r b ++ (xo f :: g))) (.threw ((xC s1 ++ (xD r b ++ (xo f :: g))).length + 1)) ((xC s1 ++ (xD r b ++ (xo f :: g))) ++ [.inr (10, [])]) 1 6) (hd : 1 ≤ d) (hw : 16 ≤ w) : xv xm L xs d w 142 0 [(0, .ref 1), (1, .int (p1)), (2, .ref 46)] [] (xC s ++ (xD r b ++ (xo f :: g))) (.returned (some (.int (nI 2)))) (xC s1 ++ (xD r b ++ (xo f :: (g ++ [.inr (10, [])])))) 1 6 := by
  refine xv_m 4 rfl ?_
  refine xv_cc (r := 11) (nip := 5) (cost := 16) (ip' := 11) (k1 := 1) (z1 := 6) (k := 0) (z := 0) rfl (by omega) (by omega) hc (xa_hnd_last.trans rfl) ?_
  refine xv_eh (h1 := xC s1 ++ (xD r b ++ (xo f :: (g ++ [.inr (10, [])])))) rfl ?_
  refine xv_m 2 rfl ?_
  exact xv_r rfl
theorem h_12 {p1 p2 p3 : Int32} {x : Int32} (hc : xv xm L xs (d - 1) (w - 17) 12 0 [(0, .ref 1), (1, .int (p1)), (2, .int (p2)), (3, .int (p3))] [] (xC s ++ (xD r b ++ (xo f :: g))) (.returned (some (.int (x)))) (xC s1 ++ (xD r b ++ (xo f :: g))) 0 0) (hd : 1 ≤ d) (hw : 17 ≤ w) : xv xm L xs d w 143 0 [(0, .ref 1), (1, .int (p1)), (2, .int (p2)), (3, .int (p3)), (4, .ref 46)] [] (xC s ++ (xD r b ++ (xo f :: g))) (.returned (some (.int (nI 0)))) (xC s1 ++ (xD r b ++ (xo (vp_updL f 0 (x.toInt64)) :: g))) 0 0 := by
  refine xv_m 6 rfl ?_
  refine xv_c0 (r := 12) (nip := 7) (cost := 17) rfl (by omega) (by omega) (hc) ?_
  refine xv_m 1 rfl ?_
  refine xv_las 0 (xC s1 ++ (xD r b ++ (xo (vp_updL f 0 (x.toInt64)) :: g))) rfl rfl rfl (by omega) (by omega) rfl ?_
  refine xv_m 2 rfl ?_
  exact xv_r rfl
theorem t_12_7 {p1 p2 p3 : Int32} (hc : xv xm L xs (d - 1) (w - 17) 12 0 [(0, .ref 1), (1, .int (p1)), (2, .int (p2)), (3, .int (p3))] [] (xC s ++ (xD r b ++ (xo f :: g))) (.threw ((xC s1 ++ (xD r b ++ (xo f :: g))).length + 1)) ((xC s1 ++ (xD r b ++ (xo f :: g))) ++ [.inr (7, [])]) 1 6) (hd : 1 ≤ d) (hw : 17 ≤ w) : xv xm L xs d w 143 0 [(0, .ref 1), (1, .int (p1)), (2, .int (p2)), (3, .int (p3)), (4, .ref 46)] [] (xC s ++ (xD r b ++ (xo f :: g))) (.returned (some (.int (nI 1)))) (xC s1 ++ (xD r b ++ (xo f :: (g ++ [.inr (7, [])])))) 1 6 := by
  refine xv_m 6 rfl ?_
  refine xv_cc (r := 12) (nip := 7) (cost := 17) (ip' := 10) (k1 := 1) (z1 := 6) (k := 0) (z := 0) rfl (by omega) (by omega) hc (xa_hnd_last.trans rfl) ?_
  refine xv_eh (h1 := xC s1 ++ (xD r b ++ (xo f :: (g ++ [.inr (7, [])])))) rfl ?_
  refine xv_m 2 rfl ?_
  exact xv_r rfl
theorem t_12_9 {p1 p2 p3 : Int32} (hc : xv xm L xs (d - 1) (w - 17) 12 0 [(0, .ref 1), (1, .int (p1)), (2, .int (p2)), (3, .int (p3))] [] (xC s ++ (xD r b ++ (xo f :: g))) (.threw ((xC s1 ++ (xD r b ++ (xo f :: g))).length + 1)) ((xC s1 ++ (xD r b ++ (xo f :: g))) ++ [.inr (9, [])]) 1 6) (hd : 1 ≤ d) (hw : 17 ≤ w) : xv xm L xs d w 143 0 [(0, .ref 1), (1, .int (p1)), (2, .int (p2)), (3, .int (p3)), (4, .ref 46)] [] (xC s ++ (xD r b ++ (xo f :: g))) (.returned (some (.int (nI 2)))) (xC s1 ++ (xD r b ++ (xo f :: (g ++ [.inr (9, [])])))) 1 6 := by
  refine xv_m 6 rfl ?_
  refine xv_cc (r := 12) (nip := 7) (cost := 17) (ip' := 13) (k1 := 1) (z1 := 6) (k := 0) (z := 0) rfl (by omega) (by omega) hc (xa_hnd_last.trans rfl) ?_
  refine xv_eh (h1 := xC s1 ++ (xD r b ++ (xo f :: (g ++ [.inr (9, [])])))) rfl ?_
  refine xv_m 2 rfl ?_
  exact xv_r rfl
theorem h_13 {p1 p2 p3 p4 : Int32} {x : Int32} (hc : xv xm L xs (d - 1) (w - 19) 13 0 [(0, .ref 1), (1, .int (p1)), (2, .int (p2)), (3, .int (p3)), (4, .int (p4))] [] (xC s ++ (xD r b ++ (xo f :: g))) (.returned (some (.int (x)))) (xC s1 ++ (xD r b ++ (xo f :: g))) 0 0) (hd : 1 ≤ d) (hw : 19 ≤ w) : xv xm L xs d w 144 0 [(0, .ref 1), (1, .int (p1)), (2, .int (p2)), (3, .int (p3)), (4, .int (p4)), (5, .ref 46)] [] (xC s ++ (xD r b ++ (xo f :: g))) (.returned (some (.int (nI 0)))) (xC s1 ++ (xD r b ++ (xo (vp_updL f 0 (x.toInt64)) :: g))) 0 0 := by
  refine xv_m 7 rfl ?_
  refine xv_c0 (r := 13) (nip := 8) (cost := 19) rfl (by omega) (by omega) (hc) ?_
  refine xv_m 1 rfl ?_
  refine xv_las 0 (xC s1 ++ (xD r b ++ (xo (vp_updL f 0 (x.toInt64)) :: g))) rfl rfl rfl (by omega) (by omega) rfl ?_
  refine xv_m 2 rfl ?_
  exact xv_r rfl
theorem t_13_7 {p1 p2 p3 p4 : Int32} (hc : xv xm L xs (d - 1) (w - 19) 13 0 [(0, .ref 1), (1, .int (p1)), (2, .int (p2)), (3, .int (p3)), (4, .int (p4))] [] (xC s ++ (xD r b ++ (xo f :: g))) (.threw ((xC s1 ++ (xD r b ++ (xo f :: g))).length + 1)) ((xC s1 ++ (xD r b ++ (xo f :: g))) ++ [.inr (7, [])]) 1 6) (hd : 1 ≤ d) (hw : 19 ≤ w) : xv xm L xs d w 144 0 [(0, .ref 1), (1, .int (p1)), (2, .int (p2)), (3, .int (p3)), (4, .int (p4)), (5, .ref 46)] [] (xC s ++ (xD r b ++ (xo f :: g))) (.returned (some (.int (nI 1)))) (xC s1 ++ (xD r b ++ (xo f :: (g ++ [.inr (7, [])])))) 1 6 := by
  refine xv_m 7 rfl ?_
  refine xv_cc (r := 13) (nip := 8) (cost := 19) (ip' := 11) (k1 := 1) (z1 := 6) (k := 0) (z := 0) rfl (by omega) (by omega) hc (xa_hnd_last.trans rfl) ?_
  refine xv_eh (h1 := xC s1 ++ (xD r b ++ (xo f :: (g ++ [.inr (7, [])])))) rfl ?_
  refine xv_m 2 rfl ?_
  exact xv_r rfl
theorem t_13_8 {p1 p2 p3 p4 : Int32} (hc : xv xm L xs (d - 1) (w - 19) 13 0 [(0, .ref 1), (1, .int (p1)), (2, .int (p2)), (3, .int (p3)), (4, .int (p4))] [] (xC s ++ (xD r b ++ (xo f :: g))) (.threw ((xC s1 ++ (xD r b ++ (xo f :: g))).length + 1)) ((xC s1 ++ (xD r b ++ (xo f :: g))) ++ [.inr (8, [])]) 1 6) (hd : 1 ≤ d) (hw : 19 ≤ w) : xv xm L xs d w 144 0 [(0, .ref 1), (1, .int (p1)), (2, .int (p2)), (3, .int (p3)), (4, .int (p4)), (5, .ref 46)] [] (xC s ++ (xD r b ++ (xo f :: g))) (.returned (some (.int (nI 2)))) (xC s1 ++ (xD r b ++ (xo f :: (g ++ [.inr (8, [])])))) 1 6 := by
  refine xv_m 7 rfl ?_
  refine xv_cc (r := 13) (nip := 8) (cost := 19) (ip' := 14) (k1 := 1) (z1 := 6) (k := 0) (z := 0) rfl (by omega) (by omega) hc (xa_hnd_last.trans rfl) ?_
  refine xv_eh (h1 := xC s1 ++ (xD r b ++ (xo f :: (g ++ [.inr (8, [])])))) rfl ?_
  refine xv_m 2 rfl ?_
  exact xv_r rfl
theorem t_13_9 {p1 p2 p3 p4 : Int32} (hc : xv xm L xs (d - 1) (w - 19) 13 0 [(0, .ref 1), (1, .int (p1)), (2, .int (p2)), (3, .int (p3)), (4, .int (p4))] [] (xC s ++ (xD r b ++ (xo f :: g))) (.threw ((xC s1 ++ (xD r b ++ (xo f :: g))).length + 1)) ((xC s1 ++ (xD r b ++ (xo f :: g))) ++ [.inr (9, [])]) 1 6) (hd : 1 ≤ d) (hw : 19 ≤ w) : xv xm L xs d w 144 0 [(0, .ref 1), (1, .int (p1)), (2, .int (p2)), (3, .int (p3)), (4, .int (p4)), (5, .ref 46)] [] (xC s ++ (xD r b ++ (xo f :: g))) (.returned (some (.int (nI 3)))) (xC s1 ++ (xD r b ++ (xo f :: (g ++ [.inr (9, [])])))) 1 6 := by
  refine xv_m 7 rfl ?_
  refine xv_cc (r := 13) (nip := 8) (cost := 19) (ip' := 17) (k1 := 1) (z1 := 6) (k := 0) (z := 0) rfl (by omega) (by omega) hc (xa_hnd_last.trans rfl) ?_
  refine xv_eh (h1 := xC s1 ++ (xD r b ++ (xo f :: (g ++ [.inr (9, [])])))) rfl ?_
  refine xv_m 2 rfl ?_
  exact xv_r rfl
theorem t_13_10 {p1 p2 p3 p4 : Int32} (hc : xv xm L xs (d - 1) (w - 19) 13 0 [(0, .ref 1), (1, .int (p1)), (2, .int (p2)), (3, .int (p3)), (4, .int (p4))] [] (xC s ++ (xD r b ++ (xo f :: g))) (.threw ((xC s1 ++ (xD r b ++ (xo f :: g))).length + 1)) ((xC s1 ++ (xD r b ++ (xo f :: g))) ++ [.inr (10, [])]) 1 6) (hd : 1 ≤ d) (hw : 19 ≤ w) : xv xm L xs d w 144 0 [(0, .ref 1), (1, .int (p1)), (2, .int (p2)), (3, .int (p3)), (4, .int (p4)), (5, .ref 46)] [] (xC s ++ (xD r b ++ (xo f :: g))) (.returned (some (.int (nI 4)))) (xC s1 ++ (xD r b ++ (xo f :: (g ++ [.inr (10, [])])))) 1 6 := by
  refine xv_m 7 rfl ?_
  refine xv_cc (r := 13) (nip := 8) (cost := 19) (ip' := 20) (k1 := 1) (z1 := 6) (k := 0) (z := 0) rfl (by omega) (by omega) hc (xa_hnd_last.trans rfl) ?_
  refine xv_eh (h1 := xC s1 ++ (xD r b ++ (xo f :: (g ++ [.inr (10, [])])))) rfl ?_
  refine xv_m 2 rfl ?_
  exact xv_r rfl
theorem h_14 {p1 p2 p3 : Int32} (hc : xv xm L xs (d - 1) (w - 15) 14 0 [(0, .ref 1), (1, .int (p1)), (2, .int (p2)), (3, .int (p3))] [] (xC s ++ (xD r b ++ (xo f :: g))) (.returned none) (xC s1 ++ (xD r b ++ (xo f :: g))) 0 0) (hd : 1 ≤ d) (hw : 15 ≤ w) : xv xm L xs d w 145 0 [(0, .ref 1), (1, .int (p1)), (2, .int (p2)), (3, .int (p3))] [] (xC s ++ (xD r b ++ (xo f :: g))) (.returned (some (.int (nI 0)))) (xC s1 ++ (xD r b ++ (xo f :: g))) 0 0 := by
  refine xv_m 4 rfl ?_
  refine xv_c0 (r := 14) (nip := 5) (cost := 15) rfl (by omega) (by omega) (hc) ?_
  refine xv_m 2 rfl ?_
  exact xv_r rfl
theorem t_14_7 {p1 p2 p3 : Int32} (hc : xv xm L xs (d - 1) (w - 15) 14 0 [(0, .ref 1), (1, .int (p1)), (2, .int (p2)), (3, .int (p3))] [] (xC s ++ (xD r b ++ (xo f :: g))) (.threw ((xC s1 ++ (xD r b ++ (xo f :: g))).length + 1)) ((xC s1 ++ (xD r b ++ (xo f :: g))) ++ [.inr (7, [])]) 1 6) (hd : 1 ≤ d) (hw : 15 ≤ w) : xv xm L xs d w 145 0 [(0, .ref 1), (1, .int (p1)), (2, .int (p2)), (3, .int (p3))] [] (xC s ++ (xD r b ++ (xo f :: g))) (.returned (some (.int (nI 1)))) (xC s1 ++ (xD r b ++ (xo f :: (g ++ [.inr (7, [])])))) 1 6 := by
  refine xv_m 4 rfl ?_
  refine xv_cc (r := 14) (nip := 5) (cost := 15) (ip' := 6) (k1 := 1) (z1 := 6) (k := 0) (z := 0) rfl (by omega) (by omega) hc (xa_hnd_last.trans rfl) ?_
  refine xv_eh (h1 := xC s1 ++ (xD r b ++ (xo f :: (g ++ [.inr (7, [])])))) rfl ?_
  refine xv_m 2 rfl ?_
  exact xv_r rfl
theorem t_14_8 {p1 p2 p3 : Int32} (hc : xv xm L xs (d - 1) (w - 15) 14 0 [(0, .ref 1), (1, .int (p1)), (2, .int (p2)), (3, .int (p3))] [] (xC s ++ (xD r b ++ (xo f :: g))) (.threw ((xC s1 ++ (xD r b ++ (xo f :: g))).length + 1)) ((xC s1 ++ (xD r b ++ (xo f :: g))) ++ [.inr (8, [])]) 1 6) (hd : 1 ≤ d) (hw : 15 ≤ w) : xv xm L xs d w 145 0 [(0, .ref 1), (1, .int (p1)), (2, .int (p2)), (3, .int (p3))] [] (xC s ++ (xD r b ++ (xo f :: g))) (.returned (some (.int (nI 2)))) (xC s1 ++ (xD r b ++ (xo f :: (g ++ [.inr (8, [])])))) 1 6 := by
  refine xv_m 4 rfl ?_
  refine xv_cc (r := 14) (nip := 5) (cost := 15) (ip' := 9) (k1 := 1) (z1 := 6) (k := 0) (z := 0) rfl (by omega) (by omega) hc (xa_hnd_last.trans rfl) ?_
  refine xv_eh (h1 := xC s1 ++ (xD r b ++ (xo f :: (g ++ [.inr (8, [])])))) rfl ?_
  refine xv_m 2 rfl ?_
  exact xv_r rfl
theorem h_15 {p1 : Int32} {x : Int32} (hc : xv xm L xs (d - 1) (w - 15) 15 0 [(0, .ref 1), (1, .int (p1))] [] (xC s ++ (xD r b ++ (xo f :: g))) (.returned (some (.int (x)))) (xC s1 ++ (xD r b ++ (xo f :: g))) 0 0) (hd : 1 ≤ d) (hw : 15 ≤ w) : xv xm L xs d w 146 0 [(0, .ref 1), (1, .int (p1)), (2, .ref 46)] [] (xC s ++ (xD r b ++ (xo f :: g))) (.returned (some (.int (nI 0)))) (xC s1 ++ (xD r b ++ (xo (vp_updL f 0 (x.toInt64)) :: g))) 0 0 := by
  refine xv_m 4 rfl ?_
  refine xv_c0 (r := 15) (nip := 5) (cost := 15) rfl (by omega) (by omega) (hc) ?_
  refine xv_m 1 rfl ?_
  refine xv_las 0 (xC s1 ++ (xD r b ++ (xo (vp_updL f 0 (x.toInt64)) :: g))) rfl rfl rfl (by omega) (by omega) rfl ?_
  refine xv_m 2 rfl ?_
  exact xv_r rfl
theorem t_15_8 {p1 : Int32} (hc : xv xm L xs (d - 1) (w - 15) 15 0 [(0, .ref 1), (1, .int (p1))] [] (xC s ++ (xD r b ++ (xo f :: g))) (.threw ((xC s1 ++ (xD r b ++ (xo f :: g))).length + 1)) ((xC s1 ++ (xD r b ++ (xo f :: g))) ++ [.inr (8, [])]) 1 6) (hd : 1 ≤ d) (hw : 15 ≤ w) : xv xm L xs d w 146 0 [(0, .ref 1), (1, .int (p1)), (2, .ref 46)] [] (xC s ++ (xD r b ++ (xo f :: g))) (.returned (some (.int (nI 1)))) (xC s1 ++ (xD r b ++ (xo f :: (g ++ [.inr (8, [])])))) 1 6 := by
  refine xv_m 4 rfl ?_
  refine xv_cc (r := 15) (nip := 5) (cost := 15) (ip' := 8) (k1 := 1) (z1 := 6) (k := 0) (z := 0) rfl (by omega) (by omega) hc (xa_hnd_last.trans rfl) ?_
  refine xv_eh (h1 := xC s1 ++ (xD r b ++ (xo f :: (g ++ [.inr (8, [])])))) rfl ?_
  refine xv_m 2 rfl ?_
  exact xv_r rfl
theorem t_15_10 {p1 : Int32} (hc : xv xm L xs (d - 1) (w - 15) 15 0 [(0, .ref 1), (1, .int (p1))] [] (xC s ++ (xD r b ++ (xo f :: g))) (.threw ((xC s1 ++ (xD r b ++ (xo f :: g))).length + 1)) ((xC s1 ++ (xD r b ++ (xo f :: g))) ++ [.inr (10, [])]) 1 6) (hd : 1 ≤ d) (hw : 15 ≤ w) : xv xm L xs d w 146 0 [(0, .ref 1), (1, .int (p1)), (2, .ref 46)] [] (xC s ++ (xD r b ++ (xo f :: g))) (.returned (some (.int (nI 2)))) (xC s1 ++ (xD r b ++ (xo f :: (g ++ [.inr (10, [])])))) 1 6 := by
  refine xv_m 4 rfl ?_
  refine xv_cc (r := 15) (nip := 5) (cost := 15) (ip' := 11) (k1 := 1) (z1 := 6) (k := 0) (z := 0) rfl (by omega) (by omega) hc (xa_hnd_last.trans rfl) ?_
  refine xv_eh (h1 := xC s1 ++ (xD r b ++ (xo f :: (g ++ [.inr (10, [])])))) rfl ?_
  refine xv_m 2 rfl ?_
  exact xv_r rfl
theorem h_16 {p1 : Int32} {x : Int32} (hc : xv xm L xs (d - 1) (w - 15) 16 0 [(0, .ref 1), (1, .int (p1))] [] (xC s ++ (xD r b ++ (xo f :: g))) (.returned (some (.int (x)))) (xC s1 ++ (xD r b ++ (xo f :: g))) 0 0) (hd : 1 ≤ d) (hw : 15 ≤ w) : xv xm L xs d w 147 0 [(0, .ref 1), (1, .int (p1)), (2, .ref 46)] [] (xC s ++ (xD r b ++ (xo f :: g))) (.returned (some (.int (nI 0)))) (xC s1 ++ (xD r b ++ (xo (vp_updL f 0 (x.toInt64)) :: g))) 0 0 := by
  refine xv_m 4 rfl ?_
  refine xv_c0 (r := 16) (nip := 5) (cost := 15) rfl (by omega) (by omega) (hc) ?_
  refine xv_m 1 rfl ?_
  refine xv_las 0 (xC s1 ++ (xD r b ++ (xo (vp_updL f 0 (x.toInt64)) :: g))) rfl rfl rfl (by omega) (by omega) rfl ?_
  refine xv_m 2 rfl ?_
  exact xv_r rfl
theorem t_16_7 {p1 : Int32} (hc : xv xm L xs (d - 1) (w - 15) 16 0 [(0, .ref 1), (1, .int (p1))] [] (xC s ++ (xD r b ++ (xo f :: g))) (.threw ((xC s1 ++ (xD r b ++ (xo f :: g))).length + 1)) ((xC s1 ++ (xD r b ++ (xo f :: g))) ++ [.inr (7, [])]) 1 6) (hd : 1 ≤ d) (hw : 15 ≤ w) : xv xm L xs d w 147 0 [(0, .ref 1), (1, .int (p1)), (2, .ref 46)] [] (xC s ++ (xD r b ++ (xo f :: g))) (.returned (some (.int (nI 1)))) (xC s1 ++ (xD r b ++ (xo f :: (g ++ [.inr (7, [])])))) 1 6 := by
  refine xv_m 4 rfl ?_
  refine xv_cc (r := 16) (nip := 5) (cost := 15) (ip' := 8) (k1 := 1) (z1 := 6) (k := 0) (z := 0) rfl (by omega) (by omega) hc (xa_hnd_last.trans rfl) ?_
  refine xv_eh (h1 := xC s1 ++ (xD r b ++ (xo f :: (g ++ [.inr (7, [])])))) rfl ?_
  refine xv_m 2 rfl ?_
  exact xv_r rfl
theorem t_16_9 {p1 : Int32} (hc : xv xm L xs (d - 1) (w - 15) 16 0 [(0, .ref 1), (1, .int (p1))] [] (xC s ++ (xD r b ++ (xo f :: g))) (.threw ((xC s1 ++ (xD r b ++ (xo f :: g))).length + 1)) ((xC s1 ++ (xD r b ++ (xo f :: g))) ++ [.inr (9, [])]) 1 6) (hd : 1 ≤ d) (hw : 15 ≤ w) : xv xm L xs d w 147 0 [(0, .ref 1), (1, .int (p1)), (2, .ref 46)] [] (xC s ++ (xD r b ++ (xo f :: g))) (.returned (some (.int (nI 2)))) (xC s1 ++ (xD r b ++ (xo f :: (g ++ [.inr (9, [])])))) 1 6 := by
  refine xv_m 4 rfl ?_
  refine xv_cc (r := 16) (nip := 5) (cost := 15) (ip' := 11) (k1 := 1) (z1 := 6) (k := 0) (z := 0) rfl (by omega) (by omega) hc (xa_hnd_last.trans rfl) ?_
  refine xv_eh (h1 := xC s1 ++ (xD r b ++ (xo f :: (g ++ [.inr (9, [])])))) rfl ?_
  refine xv_m 2 rfl ?_
  exact xv_r rfl
theorem h_17 {p1 : Int32} {x : Int32} (hc : xv xm L xs (d - 1) (w - 15) 17 0 [(0, .ref 1), (1, .int (p1))] [] (xC s ++ (xD r b ++ (xo f :: g))) (.returned (some (.int (x)))) (xC s1 ++ (xD r b ++ (xo f :: g))) 0 0) (hd : 1 ≤ d) (hw : 15 ≤ w) : xv xm L xs d w 148 0 [(0, .ref 1), (1, .int (p1)), (2, .ref 46)] [] (xC s ++ (xD r b ++ (xo f :: g))) (.returned (some (.int (nI 0)))) (xC s1 ++ (xD r b ++ (xo (vp_updL f 0 (x.toInt64)) :: g))) 0 0 := by
  refine xv_m 4 rfl ?_
  refine xv_c0 (r := 17) (nip := 5) (cost := 15) rfl (by omega) (by omega) (hc) ?_
  refine xv_m 1 rfl ?_
  refine xv_las 0 (xC s1 ++ (xD r b ++ (xo (vp_updL f 0 (x.toInt64)) :: g))) rfl rfl rfl (by omega) (by omega) rfl ?_
  refine xv_m 2 rfl ?_
  exact xv_r rfl
theorem t_17_7 {p1 : Int32} (hc : xv xm L xs (d - 1) (w - 15) 17 0 [(0, .ref 1), (1, .int (p1))] [] (xC s ++ (xD r b ++ (xo f :: g))) (.threw ((xC s1 ++ (xD r b ++ (xo f :: g))).length + 1)) ((xC s1 ++ (xD r b ++ (xo f :: g))) ++ [.inr (7, [])]) 1 6) (hd : 1 ≤ d) (hw : 15 ≤ w) : xv xm L xs d w 148 0 [(0, .ref 1), (1, .int (p1)), (2, .ref 46)] [] (xC s ++ (xD r b ++ (xo f :: g))) (.returned (some (.int (nI 1)))) (xC s1 ++ (xD r b ++ (xo f :: (g ++ [.inr (7, [])])))) 1 6 := by
  refine xv_m 4 rfl ?_
  refine xv_cc (r := 17) (nip := 5) (cost := 15) (ip' := 8) (k1 := 1) (z1 := 6) (k := 0) (z := 0) rfl (by omega) (by omega) hc (xa_hnd_last.trans rfl) ?_
  refine xv_eh (h1 := xC s1 ++ (xD r b ++ (xo f :: (g ++ [.inr (7, [])])))) rfl ?_
  refine xv_m 2 rfl ?_
  exact xv_r rfl
theorem h_18 {p1 : Int32} {x : Int32} (hc : xv xm L xs (d - 1) (w - 17) 18 0 [(0, .ref 1), (1, .int (p1))] [] (xC s ++ (xD r b ++ (xo f :: g))) (.returned (some (.int (x)))) (xC s1 ++ (xD r b ++ (xo f :: g))) 0 0) (hd : 1 ≤ d) (hw : 17 ≤ w) : xv xm L xs d w 149 0 [(0, .ref 1), (1, .int (p1)), (2, .ref 46)] [] (xC s ++ (xD r b ++ (xo f :: g))) (.returned (some (.int (nI 0)))) (xC s1 ++ (xD r b ++ (xo (vp_updL f 0 (x.toInt64)) :: g))) 0 0 := by
  refine xv_m 4 rfl ?_
  refine xv_c0 (r := 18) (nip := 5) (cost := 17) rfl (by omega) (by omega) (hc) ?_
  refine xv_m 1 rfl ?_
  refine xv_las 0 (xC s1 ++ (xD r b ++ (xo (vp_updL f 0 (x.toInt64)) :: g))) rfl rfl rfl (by omega) (by omega) rfl ?_
  refine xv_m 2 rfl ?_
  exact xv_r rfl
theorem t_18_7 {p1 : Int32} (hc : xv xm L xs (d - 1) (w - 17) 18 0 [(0, .ref 1), (1, .int (p1))] [] (xC s ++ (xD r b ++ (xo f :: g))) (.threw ((xC s1 ++ (xD r b ++ (xo f :: g))).length + 1)) ((xC s1 ++ (xD r b ++ (xo f :: g))) ++ [.inr (7, [])]) 1 6) (hd : 1 ≤ d) (hw : 17 ≤ w) : xv xm L xs d w 149 0 [(0, .ref 1), (1, .int (p1)), (2, .ref 46)] [] (xC s ++ (xD r b ++ (xo f :: g))) (.returned (some (.int (nI 1)))) (xC s1 ++ (xD r b ++ (xo f :: (g ++ [.inr (7, [])])))) 1 6 := by
  refine xv_m 4 rfl ?_
  refine xv_cc (r := 18) (nip := 5) (cost := 17) (ip' := 8) (k1 := 1) (z1 := 6) (k := 0) (z := 0) rfl (by omega) (by omega) hc (xa_hnd_last.trans rfl) ?_
  refine xv_eh (h1 := xC s1 ++ (xD r b ++ (xo f :: (g ++ [.inr (7, [])])))) rfl ?_
  refine xv_m 2 rfl ?_
  exact xv_r rfl
theorem h_19 {p1 p2 : Int32} {x : Int32} (hc : xv xm L xs (d - 1) (w - 16) 19 0 [(0, .ref 1), (1, .int (p1)), (2, .int (p2))] [] (xC s ++ (xD r b ++ (xo f :: g))) (.returned (some (.int (x)))) (xC s1 ++ (xD r b ++ (xo f :: g))) 0 0) (hd : 1 ≤ d) (hw : 16 ≤ w) : xv xm L xs d w 150 0 [(0, .ref 1), (1, .int (p1)), (2, .int (p2)), (3, .ref 46)] [] (xC s ++ (xD r b ++ (xo f :: g))) (.returned (some (.int (nI 0)))) (xC s1 ++ (xD r b ++ (xo (vp_updL f 0 (x.toInt64)) :: g))) 0 0 := by
  refine xv_m 5 rfl ?_
  refine xv_c0 (r := 19) (nip := 6) (cost := 16) rfl (by omega) (by omega) (hc) ?_
  refine xv_m 1 rfl ?_
  refine xv_las 0 (xC s1 ++ (xD r b ++ (xo (vp_updL f 0 (x.toInt64)) :: g))) rfl rfl rfl (by omega) (by omega) rfl ?_
  refine xv_m 2 rfl ?_
  exact xv_r rfl
theorem t_19_7 {p1 p2 : Int32} (hc : xv xm L xs (d - 1) (w - 16) 19 0 [(0, .ref 1), (1, .int (p1)), (2, .int (p2))] [] (xC s ++ (xD r b ++ (xo f :: g))) (.threw ((xC s1 ++ (xD r b ++ (xo f :: g))).length + 1)) ((xC s1 ++ (xD r b ++ (xo f :: g))) ++ [.inr (7, [])]) 1 6) (hd : 1 ≤ d) (hw : 16 ≤ w) : xv xm L xs d w 150 0 [(0, .ref 1), (1, .int (p1)), (2, .int (p2)), (3, .ref 46)] [] (xC s ++ (xD r b ++ (xo f :: g))) (.returned (some (.int (nI 1)))) (xC s1 ++ (xD r b ++ (xo f :: (g ++ [.inr (7, [])])))) 1 6 := by
  refine xv_m 5 rfl ?_
  refine xv_cc (r := 19) (nip := 6) (cost := 16) (ip' := 9) (k1 := 1) (z1 := 6) (k := 0) (z := 0) rfl (by omega) (by omega) hc (xa_hnd_last.trans rfl) ?_
  refine xv_eh (h1 := xC s1 ++ (xD r b ++ (xo f :: (g ++ [.inr (7, [])])))) rfl ?_
  refine xv_m 2 rfl ?_
  exact xv_r rfl
theorem t_19_8 {p1 p2 : Int32} (hc : xv xm L xs (d - 1) (w - 16) 19 0 [(0, .ref 1), (1, .int (p1)), (2, .int (p2))] [] (xC s ++ (xD r b ++ (xo f :: g))) (.threw ((xC s1 ++ (xD r b ++ (xo f :: g))).length + 1)) ((xC s1 ++ (xD r b ++ (xo f :: g))) ++ [.inr (8, [])]) 1 6) (hd : 1 ≤ d) (hw : 16 ≤ w) : xv xm L xs d w 150 0 [(0, .ref 1), (1, .int (p1)), (2, .int (p2)), (3, .ref 46)] [] (xC s ++ (xD r b ++ (xo f :: g))) (.returned (some (.int (nI 2)))) (xC s1 ++ (xD r b ++ (xo f :: (g ++ [.inr (8, [])])))) 1 6 := by
  refine xv_m 5 rfl ?_
  refine xv_cc (r := 19) (nip := 6) (cost := 16) (ip' := 12) (k1 := 1) (z1 := 6) (k := 0) (z := 0) rfl (by omega) (by omega) hc (xa_hnd_last.trans rfl) ?_
  refine xv_eh (h1 := xC s1 ++ (xD r b ++ (xo f :: (g ++ [.inr (8, [])])))) rfl ?_
  refine xv_m 2 rfl ?_
  exact xv_r rfl
theorem t_19_10 {p1 p2 : Int32} (hc : xv xm L xs (d - 1) (w - 16) 19 0 [(0, .ref 1), (1, .int (p1)), (2, .int (p2))] [] (xC s ++ (xD r b ++ (xo f :: g))) (.threw ((xC s1 ++ (xD r b ++ (xo f :: g))).length + 1)) ((xC s1 ++ (xD r b ++ (xo f :: g))) ++ [.inr (10, [])]) 1 6) (hd : 1 ≤ d) (hw : 16 ≤ w) : xv xm L xs d w 150 0 [(0, .ref 1), (1, .int (p1)), (2, .int (p2)), (3, .ref 46)] [] (xC s ++ (xD r b ++ (xo f :: g))) (.returned (some (.int (nI 3)))) (xC s1 ++ (xD r b ++ (xo f :: (g ++ [.inr (10, [])])))) 1 6 := by
  refine xv_m 5 rfl ?_
  refine xv_cc (r := 19) (nip := 6) (cost := 16) (ip' := 15) (k1 := 1) (z1 := 6) (k := 0) (z := 0) rfl (by omega) (by omega) hc (xa_hnd_last.trans rfl) ?_
  refine xv_eh (h1 := xC s1 ++ (xD r b ++ (xo f :: (g ++ [.inr (10, [])])))) rfl ?_
  refine xv_m 2 rfl ?_
  exact xv_r rfl
theorem h_20 {p1 p2 : Int32} {x : Int64} (hc : xv xm L xs (d - 1) (w - 22) 20 0 [(0, .ref 1), (1, .int (p1)), (2, .int (p2))] [] (xC s ++ (xD r b ++ (xo f :: g))) (.returned (some (.long x))) (xC s1 ++ (xD r b ++ (xo f :: g))) 0 0) (hd : 1 ≤ d) (hw : 22 ≤ w) : xv xm L xs d w 151 0 [(0, .ref 1), (1, .int (p1)), (2, .int (p2)), (3, .ref 46)] [] (xC s ++ (xD r b ++ (xo f :: g))) (.returned (some (.int (nI 0)))) (xC s1 ++ (xD r b ++ (xo (vp_updL f 0 (x)) :: g))) 0 0 := by
  refine xv_m 5 rfl ?_
  refine xv_c0 (r := 20) (nip := 6) (cost := 22) rfl (by omega) (by omega) (hc) ?_
  refine xv_las 0 (xC s1 ++ (xD r b ++ (xo (vp_updL f 0 (x)) :: g))) rfl rfl rfl (by omega) (by omega) rfl ?_
  refine xv_m 2 rfl ?_
  exact xv_r rfl
theorem t_20_7 {p1 p2 : Int32} (hc : xv xm L xs (d - 1) (w - 22) 20 0 [(0, .ref 1), (1, .int (p1)), (2, .int (p2))] [] (xC s ++ (xD r b ++ (xo f :: g))) (.threw ((xC s1 ++ (xD r b ++ (xo f :: g))).length + 1)) ((xC s1 ++ (xD r b ++ (xo f :: g))) ++ [.inr (7, [])]) 1 6) (hd : 1 ≤ d) (hw : 22 ≤ w) : xv xm L xs d w 151 0 [(0, .ref 1), (1, .int (p1)), (2, .int (p2)), (3, .ref 46)] [] (xC s ++ (xD r b ++ (xo f :: g))) (.returned (some (.int (nI 1)))) (xC s1 ++ (xD r b ++ (xo f :: (g ++ [.inr (7, [])])))) 1 6 := by
  refine xv_m 5 rfl ?_
  refine xv_cc (r := 20) (nip := 6) (cost := 22) (ip' := 8) (k1 := 1) (z1 := 6) (k := 0) (z := 0) rfl (by omega) (by omega) hc (xa_hnd_last.trans rfl) ?_
  refine xv_eh (h1 := xC s1 ++ (xD r b ++ (xo f :: (g ++ [.inr (7, [])])))) rfl ?_
  refine xv_m 2 rfl ?_
  exact xv_r rfl
theorem t_20_11 {p1 p2 : Int32} (hc : xv xm L xs (d - 1) (w - 22) 20 0 [(0, .ref 1), (1, .int (p1)), (2, .int (p2))] [] (xC s ++ (xD r b ++ (xo f :: g))) (.threw ((xC s1 ++ (xD r b ++ (xo f :: g))).length + 1)) ((xC s1 ++ (xD r b ++ (xo f :: g))) ++ [.inr (11, [])]) 1 6) (hd : 1 ≤ d) (hw : 22 ≤ w) : xv xm L xs d w 151 0 [(0, .ref 1), (1, .int (p1)), (2, .int (p2)), (3, .ref 46)] [] (xC s ++ (xD r b ++ (xo f :: g))) (.returned (some (.int (nI 2)))) (xC s1 ++ (xD r b ++ (xo f :: (g ++ [.inr (11, [])])))) 1 6 := by
  refine xv_m 5 rfl ?_
  refine xv_cc (r := 20) (nip := 6) (cost := 22) (ip' := 11) (k1 := 1) (z1 := 6) (k := 0) (z := 0) rfl (by omega) (by omega) hc (xa_hnd_last.trans rfl) ?_
  refine xv_eh (h1 := xC s1 ++ (xD r b ++ (xo f :: (g ++ [.inr (11, [])])))) rfl ?_
  refine xv_m 2 rfl ?_
  exact xv_r rfl
theorem h_21 {p1 p2 : Int32} {x : Int32} (hc : xv xm L xs (d - 1) (w - 16) 21 0 [(0, .ref 1), (1, .int (p1)), (2, .int (p2))] [] (xC s ++ (xD r b ++ (xo f :: g))) (.returned (some (.int (x)))) (xC s1 ++ (xD r b ++ (xo f :: g))) 0 0) (hd : 1 ≤ d) (hw : 16 ≤ w) : xv xm L xs d w 152 0 [(0, .ref 1), (1, .int (p1)), (2, .int (p2)), (3, .ref 46)] [] (xC s ++ (xD r b ++ (xo f :: g))) (.returned (some (.int (nI 0)))) (xC s1 ++ (xD r b ++ (xo (vp_updL f 0 (x.toInt64)) :: g))) 0 0 := by
  refine xv_m 5 rfl ?_
  refine xv_c0 (r := 21) (nip := 6) (cost := 16) rfl (by omega) (by omega) (hc) ?_
  refine xv_m 1 rfl ?_
  refine xv_las 0 (xC s1 ++ (xD r b ++ (xo (vp_updL f 0 (x.toInt64)) :: g))) rfl rfl rfl (by omega) (by omega) rfl ?_
  refine xv_m 2 rfl ?_
  exact xv_r rfl
theorem t_21_7 {p1 p2 : Int32} (hc : xv xm L xs (d - 1) (w - 16) 21 0 [(0, .ref 1), (1, .int (p1)), (2, .int (p2))] [] (xC s ++ (xD r b ++ (xo f :: g))) (.threw ((xC s1 ++ (xD r b ++ (xo f :: g))).length + 1)) ((xC s1 ++ (xD r b ++ (xo f :: g))) ++ [.inr (7, [])]) 1 6) (hd : 1 ≤ d) (hw : 16 ≤ w) : xv xm L xs d w 152 0 [(0, .ref 1), (1, .int (p1)), (2, .int (p2)), (3, .ref 46)] [] (xC s ++ (xD r b ++ (xo f :: g))) (.returned (some (.int (nI 1)))) (xC s1 ++ (xD r b ++ (xo f :: (g ++ [.inr (7, [])])))) 1 6 := by
  refine xv_m 5 rfl ?_
  refine xv_cc (r := 21) (nip := 6) (cost := 16) (ip' := 9) (k1 := 1) (z1 := 6) (k := 0) (z := 0) rfl (by omega) (by omega) hc (xa_hnd_last.trans rfl) ?_
  refine xv_eh (h1 := xC s1 ++ (xD r b ++ (xo f :: (g ++ [.inr (7, [])])))) rfl ?_
  refine xv_m 2 rfl ?_
  exact xv_r rfl
theorem h_22 {p1 : Int32} {x : Int32} (hc : xv xm L xs (d - 1) (w - 15) 22 0 [(0, .ref 1), (1, .int (p1))] [] (xC s ++ (xD r b ++ (xo f :: g))) (.returned (some (.int (x)))) (xC s1 ++ (xD r b ++ (xo f :: g))) 0 0) (hd : 1 ≤ d) (hw : 15 ≤ w) : xv xm L xs d w 153 0 [(0, .ref 1), (1, .int (p1)), (2, .ref 46)] [] (xC s ++ (xD r b ++ (xo f :: g))) (.returned (some (.int (nI 0)))) (xC s1 ++ (xD r b ++ (xo (vp_updL f 0 (x.toInt64)) :: g))) 0 0 := by
  refine xv_m 4 rfl ?_
  refine xv_c0 (r := 22) (nip := 5) (cost := 15) rfl (by omega) (by omega) (hc) ?_
  refine xv_m 1 rfl ?_
  refine xv_las 0 (xC s1 ++ (xD r b ++ (xo (vp_updL f 0 (x.toInt64)) :: g))) rfl rfl rfl (by omega) (by omega) rfl ?_
  refine xv_m 2 rfl ?_
  exact xv_r rfl
theorem t_22_7 {p1 : Int32} (hc : xv xm L xs (d - 1) (w - 15) 22 0 [(0, .ref 1), (1, .int (p1))] [] (xC s ++ (xD r b ++ (xo f :: g))) (.threw ((xC s1 ++ (xD r b ++ (xo f :: g))).length + 1)) ((xC s1 ++ (xD r b ++ (xo f :: g))) ++ [.inr (7, [])]) 1 6) (hd : 1 ≤ d) (hw : 15 ≤ w) : xv xm L xs d w 153 0 [(0, .ref 1), (1, .int (p1)), (2, .ref 46)] [] (xC s ++ (xD r b ++ (xo f :: g))) (.returned (some (.int (nI 1)))) (xC s1 ++ (xD r b ++ (xo f :: (g ++ [.inr (7, [])])))) 1 6 := by
  refine xv_m 4 rfl ?_
  refine xv_cc (r := 22) (nip := 5) (cost := 15) (ip' := 8) (k1 := 1) (z1 := 6) (k := 0) (z := 0) rfl (by omega) (by omega) hc (xa_hnd_last.trans rfl) ?_
  refine xv_eh (h1 := xC s1 ++ (xD r b ++ (xo f :: (g ++ [.inr (7, [])])))) rfl ?_
  refine xv_m 2 rfl ?_
  exact xv_r rfl
def xP (x : Int32) : Int32 := bif xa_cmp .eq x 0 then 0 else 1
theorem xk5 (k : Nat) : some (Value.int (nI k + xa_con 5 0)) = some (.int (nI (k + 5))) := by rw [xa_c0, nI_add]
theorem xcz {c : Nat} (h : nI c = 0) (hc : c < 10) : c = 0 := (nI_eq (b := 0) (by omega) (by omega)).mp h
set_option maxRecDepth 10000 in
theorem b_1 {i c : Nat} {x : Int32} (hL : L ≤ 2560) (hi : i + 5 ≤ L) {o : Outcome} {h' : List va_E} {k z k1 z1 : Nat} (hsw : xs i &&& nI 31 = nI 0) (hH : xv xm L xs 10 380 132 0 [(0, .ref 1), (1, .int (xs (i + 1))), (2, .int (xP (xs (i + 2)))), (3, .ref 46)] [] (xC s ++ (xD r b ++ (xo f :: g))) (.returned (some (.int (nI c)))) (xC s1 ++ (xD r b ++ (xo f1 :: g1))) k1 z1) (hR : xv xm L xs 10 381 102 0 [(0, .ref 28), (1, .int (xs (i + 1))), (2, .int (xP (xs (i + 2))))] [] (xC s1 ++ (xD r b ++ (xo f1 :: g1))) (.returned (some (.int (x)))) (xC s1 ++ (xD r1 b1 ++ (xo f1 :: g1))) 0 0) (hc : c < 10) (hb : b1 0 0 = nI c) (ho : c = 0 → f1 0 = x.toInt64) (he : xv xm L xs 11 396 154 13 [(4, .int (nI (i + 5))), (0, .ref 0), (1, .ref 1), (2, .ref 28), (3, .ref 46)] [] (xC s1 ++ (xD r1 b1 ++ (xo f1 :: g1))) o h' k z) : xv xm L xs 11 396 154 13 [(4, .int (nI i)), (0, .ref 0), (1, .ref 1), (2, .ref 28), (3, .ref 46)] [] (xC s ++ (xD r b ++ (xo f :: g))) o h' (k1 + k) (z1 + z) := by
  cases hz : xa_cmp .eq (xs (i + 2)) 0 with
  | true =>
    rw [show xP (xs (i + 2)) = 0 by unfold xP; rw [hz]; rfl] at hH hR
    refine xv_m 5 rfl ?_
    refine xv_ei (show nI L - nI 5 = nI (L - 5) from pk_sub (by omega)) ?_
    refine xv_bf rfl (xc_gtF (by omega) (by omega)) ?_
    refine xv_m 2 rfl ?_
    refine xv_sc (i) rfl (by first | rfl | (simp only [xa_c0, pk_mul, nI_add]; done) | (simp only [xa_c0, pk_mul, nI_add]; congr 1; omega)) (by omega) (by omega) ?_
    refine xv_m 2 rfl ?_
    refine xv_ei hsw ?_
    refine xv_bf (ip2 := 25) rfl (by decide +kernel) ?_
    refine xv_m 5 rfl ?_
    refine xv_sc (i + 1) rfl (by first | rfl | (simp only [xa_c0, pk_mul, nI_add]; done) | (simp only [xa_c0, pk_mul, nI_add]; congr 1; omega)) (by omega) (by omega) ?_
    refine xv_m 4 rfl ?_
    refine xv_sc (i + 2) rfl (by first | rfl | (simp only [xa_c0, pk_mul, nI_add]; done) | (simp only [xa_c0, pk_mul, nI_add]; congr 1; omega)) (by omega) (by omega) ?_
    refine xv_bt rfl (hz) ?_
    refine xv_m 2 rfl ?_
    refine xv_c (r := 132) (nip := 42) (cost := 16) rfl (by omega) (by omega) (hH) ?_
    refine xv_m 6 rfl ?_
    refine xv_sc (i + 1) rfl (by first | rfl | (simp only [xa_c0, pk_mul, nI_add]; done) | (simp only [xa_c0, pk_mul, nI_add]; congr 1; omega)) (by omega) (by omega) ?_
    refine xv_m 4 rfl ?_
    refine xv_sc (i + 2) rfl (by first | rfl | (simp only [xa_c0, pk_mul, nI_add]; done) | (simp only [xa_c0, pk_mul, nI_add]; congr 1; omega)) (by omega) (by omega) ?_
    refine xv_bt rfl (hz) ?_
    refine xv_m 1 rfl ?_
    refine xv_c0 (r := 102) (nip := 59) (cost := 15) rfl (by omega) (by omega) (hR) ?_
    refine xv_m 2 rfl ?_
    refine xv_c0 (r := 96) (nip := 62) (cost := 12) rfl (by omega) (by omega) (m_96) ?_
    refine xv_ei hb ?_
    refine xv_m 1 rfl ?_
    refine xv_bt rfl (xc_eqT rfl) ?_
    refine xv_m 1 rfl ?_
    refine xv_b rfl (fun hn => ?_) (fun hn => ?_)
    · refine xv_m 3 rfl ?_
      exact xv_l he ⟨xk5 i, rfl, rfl, rfl, rfl, trivial⟩
    · refine xv_m 2 rfl ?_
      refine xv_lal 0 rfl rfl rfl (by omega) (by omega) ?_
      refine xv_m 3 rfl ?_
      refine xv_ei (show lg_cmp (f1 0) x.toInt64 = 0 by rw [ho (xcz (xe_ne hn) hc)]; exact xl_eq) ?_
      refine xv_bt rfl (by decide +kernel) ?_
      refine xv_m 3 rfl ?_
      exact xv_l he ⟨xk5 i, rfl, rfl, rfl, rfl, trivial⟩
  | false =>
    rw [show xP (xs (i + 2)) = 1 by unfold xP; rw [hz]; rfl] at hH hR
    refine xv_m 5 rfl ?_
    refine xv_ei (show nI L - nI 5 = nI (L - 5) from pk_sub (by omega)) ?_
    refine xv_bf rfl (xc_gtF (by omega) (by omega)) ?_
    refine xv_m 2 rfl ?_
    refine xv_sc (i) rfl (by first | rfl | (simp only [xa_c0, pk_mul, nI_add]; done) | (simp only [xa_c0, pk_mul, nI_add]; congr 1; omega)) (by omega) (by omega) ?_
    refine xv_m 2 rfl ?_
    refine xv_ei hsw ?_
    refine xv_bf (ip2 := 25) rfl (by decide +kernel) ?_
    refine xv_m 5 rfl ?_
    refine xv_sc (i + 1) rfl (by first | rfl | (simp only [xa_c0, pk_mul, nI_add]; done) | (simp only [xa_c0, pk_mul, nI_add]; congr 1; omega)) (by omega) (by omega) ?_
    refine xv_m 4 rfl ?_
    refine xv_sc (i + 2) rfl (by first | rfl | (simp only [xa_c0, pk_mul, nI_add]; done) | (simp only [xa_c0, pk_mul, nI_add]; congr 1; omega)) (by omega) (by omega) ?_
    refine xv_bf rfl (hz) ?_
    refine xv_m 3 rfl ?_
    refine xv_c (r := 132) (nip := 42) (cost := 16) rfl (by omega) (by omega) (hH) ?_
    refine xv_m 6 rfl ?_
    refine xv_sc (i + 1) rfl (by first | rfl | (simp only [xa_c0, pk_mul, nI_add]; done) | (simp only [xa_c0, pk_mul, nI_add]; congr 1; omega)) (by omega) (by omega) ?_
    refine xv_m 4 rfl ?_
    refine xv_sc (i + 2) rfl (by first | rfl | (simp only [xa_c0, pk_mul, nI_add]; done) | (simp only [xa_c0, pk_mul, nI_add]; congr 1; omega)) (by omega) (by omega) ?_
    refine xv_bf rfl (hz) ?_
    refine xv_m 2 rfl ?_
    refine xv_c0 (r := 102) (nip := 59) (cost := 15) rfl (by omega) (by omega) (hR) ?_
    refine xv_m 2 rfl ?_
    refine xv_c0 (r := 96) (nip := 62) (cost := 12) rfl (by omega) (by omega) (m_96) ?_
    refine xv_ei hb ?_
    refine xv_m 1 rfl ?_
    refine xv_bt rfl (xc_eqT rfl) ?_
    refine xv_m 1 rfl ?_
    refine xv_b rfl (fun hn => ?_) (fun hn => ?_)
    · refine xv_m 3 rfl ?_
      exact xv_l he ⟨xk5 i, rfl, rfl, rfl, rfl, trivial⟩
    · refine xv_m 2 rfl ?_
      refine xv_lal 0 rfl rfl rfl (by omega) (by omega) ?_
      refine xv_m 3 rfl ?_
      refine xv_ei (show lg_cmp (f1 0) x.toInt64 = 0 by rw [ho (xcz (xe_ne hn) hc)]; exact xl_eq) ?_
      refine xv_bt rfl (by decide +kernel) ?_
      refine xv_m 3 rfl ?_
      exact xv_l he ⟨xk5 i, rfl, rfl, rfl, rfl, trivial⟩
set_option maxRecDepth 10000 in
theorem b_2 {i c : Nat} {x : Int32} (hL : L ≤ 2560) (hi : i + 5 ≤ L) {o : Outcome} {h' : List va_E} {k z k1 z1 : Nat} (hsw : xs i &&& nI 31 = nI 1) (hH : xv xm L xs 10 379 133 0 [(0, .ref 1), (1, .int (xs (i + 1))), (2, .int (xs (i + 2))), (3, .int (xs (i + 3))), (4, .ref 46)] [] (xC s ++ (xD r b ++ (xo f :: g))) (.returned (some (.int (nI c)))) (xC s1 ++ (xD r b ++ (xo f1 :: g1))) k1 z1) (hR : xv xm L xs 10 380 103 0 [(0, .ref 28), (1, .int (xs (i + 1))), (2, .int (xs (i + 2))), (3, .int (xs (i + 3)))] [] (xC s1 ++ (xD r b ++ (xo f1 :: g1))) (.returned (some (.int (x)))) (xC s1 ++ (xD r1 b1 ++ (xo f1 :: g1))) 0 0) (hc : c < 10) (hb : b1 0 0 = nI c) (ho : c = 0 → f1 0 = x.toInt64) (he : xv xm L xs 11 396 154 13 [(4, .int (nI (i + 5))), (0, .ref 0), (1, .ref 1), (2, .ref 28), (3, .ref 46)] [] (xC s1 ++ (xD r1 b1 ++ (xo f1 :: g1))) o h' k z) : xv xm L xs 11 396 154 13 [(4, .int (nI i)), (0, .ref 0), (1, .ref 1), (2, .ref 28), (3, .ref 46)] [] (xC s ++ (xD r b ++ (xo f :: g))) o h' (k1 + k) (z1 + z) := by
  refine xv_m 5 rfl ?_
  refine xv_ei (show nI L - nI 5 = nI (L - 5) from pk_sub (by omega)) ?_
  refine xv_bf rfl (xc_gtF (by omega) (by omega)) ?_
  refine xv_m 2 rfl ?_
  refine xv_sc (i) rfl (by first | rfl | (simp only [xa_c0, pk_mul, nI_add]; done) | (simp only [xa_c0, pk_mul, nI_add]; congr 1; omega)) (by omega) (by omega) ?_
  refine xv_m 2 rfl ?_
  refine xv_ei hsw ?_
  refine xv_bf (ip2 := 78) rfl (by decide +kernel) ?_
  refine xv_m 5 rfl ?_
  refine xv_sc (i + 1) rfl (by first | rfl | (simp only [xa_c0, pk_mul, nI_add]; done) | (simp only [xa_c0, pk_mul, nI_add]; congr 1; omega)) (by omega) (by omega) ?_
  refine xv_m 4 rfl ?_
  refine xv_sc (i + 2) rfl (by first | rfl | (simp only [xa_c0, pk_mul, nI_add]; done) | (simp only [xa_c0, pk_mul, nI_add]; congr 1; omega)) (by omega) (by omega) ?_
  refine xv_m 4 rfl ?_
  refine xv_sc (i + 3) rfl (by first | rfl | (simp only [xa_c0, pk_mul, nI_add]; done) | (simp only [xa_c0, pk_mul, nI_add]; congr 1; omega)) (by omega) (by omega) ?_
  refine xv_m 1 rfl ?_
  refine xv_c (r := 133) (nip := 96) (cost := 17) rfl (by omega) (by omega) (hH) ?_
  refine xv_m 6 rfl ?_
  refine xv_sc (i + 1) rfl (by first | rfl | (simp only [xa_c0, pk_mul, nI_add]; done) | (simp only [xa_c0, pk_mul, nI_add]; congr 1; omega)) (by omega) (by omega) ?_
  refine xv_m 4 rfl ?_
  refine xv_sc (i + 2) rfl (by first | rfl | (simp only [xa_c0, pk_mul, nI_add]; done) | (simp only [xa_c0, pk_mul, nI_add]; congr 1; omega)) (by omega) (by omega) ?_
  refine xv_m 4 rfl ?_
  refine xv_sc (i + 3) rfl (by first | rfl | (simp only [xa_c0, pk_mul, nI_add]; done) | (simp only [xa_c0, pk_mul, nI_add]; congr 1; omega)) (by omega) (by omega) ?_
  refine xv_c0 (r := 103) (nip := 114) (cost := 16) rfl (by omega) (by omega) (hR) ?_
  refine xv_m 2 rfl ?_
  refine xv_c0 (r := 96) (nip := 117) (cost := 12) rfl (by omega) (by omega) (m_96) ?_
  refine xv_ei hb ?_
  refine xv_m 1 rfl ?_
  refine xv_bt rfl (xc_eqT rfl) ?_
  refine xv_m 1 rfl ?_
  refine xv_b rfl (fun hn => ?_) (fun hn => ?_)
  · refine xv_m 3 rfl ?_
    exact xv_l he ⟨xk5 i, rfl, rfl, rfl, rfl, trivial⟩
  · refine xv_m 2 rfl ?_
    refine xv_lal 0 rfl rfl rfl (by omega) (by omega) ?_
    refine xv_m 3 rfl ?_
    refine xv_ei (show lg_cmp (f1 0) x.toInt64 = 0 by rw [ho (xcz (xe_ne hn) hc)]; exact xl_eq) ?_
    refine xv_bt rfl (by decide +kernel) ?_
    refine xv_m 3 rfl ?_
    exact xv_l he ⟨xk5 i, rfl, rfl, rfl, rfl, trivial⟩
set_option maxRecDepth 10000 in
theorem b_3 {i c : Nat} (hL : L ≤ 2560) (hi : i + 5 ≤ L) {o : Outcome} {h' : List va_E} {k z k1 z1 : Nat} (hsw : xs i &&& nI 31 = nI 2) (hH : xv xm L xs 10 382 134 0 [(0, .ref 1), (1, .int (xs (i + 1)))] [] (xC s ++ (xD r b ++ (xo f :: g))) (.returned (some (.int (nI c)))) (xC s1 ++ (xD r b ++ (xo f1 :: g1))) k1 z1) (hR : xv xm L xs 10 383 104 0 [(0, .ref 28), (1, .int (xs (i + 1)))] [] (xC s1 ++ (xD r b ++ (xo f1 :: g1))) (.returned none) (xC s1 ++ (xD r1 b1 ++ (xo f1 :: g1))) 0 0) (hc : c < 10) (hb : b1 0 0 = nI c) (he : xv xm L xs 11 396 154 13 [(4, .int (nI (i + 5))), (0, .ref 0), (1, .ref 1), (2, .ref 28), (3, .ref 46)] [] (xC s1 ++ (xD r1 b1 ++ (xo f1 :: g1))) o h' k z) : xv xm L xs 11 396 154 13 [(4, .int (nI i)), (0, .ref 0), (1, .ref 1), (2, .ref 28), (3, .ref 46)] [] (xC s ++ (xD r b ++ (xo f :: g))) o h' (k1 + k) (z1 + z) := by
  refine xv_m 5 rfl ?_
  refine xv_ei (show nI L - nI 5 = nI (L - 5) from pk_sub (by omega)) ?_
  refine xv_bf rfl (xc_gtF (by omega) (by omega)) ?_
  refine xv_m 2 rfl ?_
  refine xv_sc (i) rfl (by first | rfl | (simp only [xa_c0, pk_mul, nI_add]; done) | (simp only [xa_c0, pk_mul, nI_add]; congr 1; omega)) (by omega) (by omega) ?_
  refine xv_m 2 rfl ?_
  refine xv_ei hsw ?_
  refine xv_bf (ip2 := 133) rfl (by decide +kernel) ?_
  refine xv_m 5 rfl ?_
  refine xv_sc (i + 1) rfl (by first | rfl | (simp only [xa_c0, pk_mul, nI_add]; done) | (simp only [xa_c0, pk_mul, nI_add]; congr 1; omega)) (by omega) (by omega) ?_
  refine xv_c (r := 134) (nip := 140) (cost := 14) rfl (by omega) (by omega) (hH) ?_
  refine xv_m 6 rfl ?_
  refine xv_sc (i + 1) rfl (by first | rfl | (simp only [xa_c0, pk_mul, nI_add]; done) | (simp only [xa_c0, pk_mul, nI_add]; congr 1; omega)) (by omega) (by omega) ?_
  refine xv_c0 (r := 104) (nip := 148) (cost := 13) rfl (by omega) (by omega) (hR) ?_
  refine xv_m 1 rfl ?_
  refine xv_c0 (r := 96) (nip := 150) (cost := 12) rfl (by omega) (by omega) (m_96) ?_
  refine xv_ei hb ?_
  refine xv_m 1 rfl ?_
  refine xv_bt rfl (xc_eqT rfl) ?_
  refine xv_m 3 rfl ?_
  exact xv_l he ⟨xk5 i, rfl, rfl, rfl, rfl, trivial⟩
set_option maxRecDepth 10000 in
theorem b_4 {i c : Nat} (hL : L ≤ 2560) (hi : i + 5 ≤ L) {o : Outcome} {h' : List va_E} {k z k1 z1 : Nat} (hsw : xs i &&& nI 31 = nI 3) (hH : xv xm L xs 10 382 135 0 [(0, .ref 1), (1, .int (xs (i + 1)))] [] (xC s ++ (xD r b ++ (xo f :: g))) (.returned (some (.int (nI c)))) (xC s1 ++ (xD r b ++ (xo f1 :: g1))) k1 z1) (hR : xv xm L xs 10 383 105 0 [(0, .ref 28), (1, .int (xs (i + 1)))] [] (xC s1 ++ (xD r b ++ (xo f1 :: g1))) (.returned none) (xC s1 ++ (xD r1 b1 ++ (xo f1 :: g1))) 0 0) (hc : c < 10) (hb : b1 0 0 = nI c) (he : xv xm L xs 11 396 154 13 [(4, .int (nI (i + 5))), (0, .ref 0), (1, .ref 1), (2, .ref 28), (3, .ref 46)] [] (xC s1 ++ (xD r1 b1 ++ (xo f1 :: g1))) o h' k z) : xv xm L xs 11 396 154 13 [(4, .int (nI i)), (0, .ref 0), (1, .ref 1), (2, .ref 28), (3, .ref 46)] [] (xC s ++ (xD r b ++ (xo f :: g))) o h' (k1 + k) (z1 + z) := by
  refine xv_m 5 rfl ?_
  refine xv_ei (show nI L - nI 5 = nI (L - 5) from pk_sub (by omega)) ?_
  refine xv_bf rfl (xc_gtF (by omega) (by omega)) ?_
  refine xv_m 2 rfl ?_
  refine xv_sc (i) rfl (by first | rfl | (simp only [xa_c0, pk_mul, nI_add]; done) | (simp only [xa_c0, pk_mul, nI_add]; congr 1; omega)) (by omega) (by omega) ?_
  refine xv_m 2 rfl ?_
  refine xv_ei hsw ?_
  refine xv_bf (ip2 := 155) rfl (by decide +kernel) ?_
  refine xv_m 5 rfl ?_
  refine xv_sc (i + 1) rfl (by first | rfl | (simp only [xa_c0, pk_mul, nI_add]; done) | (simp only [xa_c0, pk_mul, nI_add]; congr 1; omega)) (by omega) (by omega) ?_
  refine xv_c (r := 135) (nip := 162) (cost := 14) rfl (by omega) (by omega) (hH) ?_
  refine xv_m 6 rfl ?_
  refine xv_sc (i + 1) rfl (by first | rfl | (simp only [xa_c0, pk_mul, nI_add]; done) | (simp only [xa_c0, pk_mul, nI_add]; congr 1; omega)) (by omega) (by omega) ?_
  refine xv_c0 (r := 105) (nip := 170) (cost := 13) rfl (by omega) (by omega) (hR) ?_
  refine xv_m 1 rfl ?_
  refine xv_c0 (r := 96) (nip := 172) (cost := 12) rfl (by omega) (by omega) (m_96) ?_
  refine xv_ei hb ?_
  refine xv_m 1 rfl ?_
  refine xv_bt rfl (xc_eqT rfl) ?_
  refine xv_m 3 rfl ?_
  exact xv_l he ⟨xk5 i, rfl, rfl, rfl, rfl, trivial⟩
set_option maxRecDepth 10000 in
theorem b_5 {i c : Nat} (hL : L ≤ 2560) (hi : i + 5 ≤ L) {o : Outcome} {h' : List va_E} {k z k1 z1 : Nat} (hsw : xs i &&& nI 31 = nI 4) (hH : xv xm L xs 10 380 136 0 [(0, .ref 1), (1, .int (xs (i + 1))), (2, .int (xs (i + 2))), (3, .int (xs (i + 3)))] [] (xC s ++ (xD r b ++ (xo f :: g))) (.returned (some (.int (nI c)))) (xC s1 ++ (xD r b ++ (xo f1 :: g1))) k1 z1) (hR : xv xm L xs 10 378 106 0 [(0, .ref 28), (1, .int (xs (i + 1))), (2, .int (xs (i + 2))), (3, .int (xs (i + 3)))] [] (xC s1 ++ (xD r b ++ (xo f1 :: g1))) (.returned none) (xC s1 ++ (xD r1 b1 ++ (xo f1 :: g1))) 0 0) (hc : c < 10) (hb : b1 0 0 = nI c) (he : xv xm L xs 11 396 154 13 [(4, .int (nI (i + 5))), (0, .ref 0), (1, .ref 1), (2, .ref 28), (3, .ref 46)] [] (xC s1 ++ (xD r1 b1 ++ (xo f1 :: g1))) o h' k z) : xv xm L xs 11 396 154 13 [(4, .int (nI i)), (0, .ref 0), (1, .ref 1), (2, .ref 28), (3, .ref 46)] [] (xC s ++ (xD r b ++ (xo f :: g))) o h' (k1 + k) (z1 + z) := by
  refine xv_m 5 rfl ?_
  refine xv_ei (show nI L - nI 5 = nI (L - 5) from pk_sub (by omega)) ?_
  refine xv_bf rfl (xc_gtF (by omega) (by omega)) ?_
  refine xv_m 2 rfl ?_
  refine xv_sc (i) rfl (by first | rfl | (simp only [xa_c0, pk_mul, nI_add]; done) | (simp only [xa_c0, pk_mul, nI_add]; congr 1; omega)) (by omega) (by omega) ?_
  refine xv_m 2 rfl ?_
  refine xv_ei hsw ?_
  refine xv_bf (ip2 := 177) rfl (by decide +kernel) ?_
  refine xv_m 5 rfl ?_
  refine xv_sc (i + 1) rfl (by first | rfl | (simp only [xa_c0, pk_mul, nI_add]; done) | (simp only [xa_c0, pk_mul, nI_add]; congr 1; omega)) (by omega) (by omega) ?_
  refine xv_m 4 rfl ?_
  refine xv_sc (i + 2) rfl (by first | rfl | (simp only [xa_c0, pk_mul, nI_add]; done) | (simp only [xa_c0, pk_mul, nI_add]; congr 1; omega)) (by omega) (by omega) ?_
  refine xv_m 4 rfl ?_
  refine xv_sc (i + 3) rfl (by first | rfl | (simp only [xa_c0, pk_mul, nI_add]; done) | (simp only [xa_c0, pk_mul, nI_add]; congr 1; omega)) (by omega) (by omega) ?_
  refine xv_c (r := 136) (nip := 194) (cost := 16) rfl (by omega) (by omega) (hH) ?_
  refine xv_m 6 rfl ?_
  refine xv_sc (i + 1) rfl (by first | rfl | (simp only [xa_c0, pk_mul, nI_add]; done) | (simp only [xa_c0, pk_mul, nI_add]; congr 1; omega)) (by omega) (by omega) ?_
  refine xv_m 4 rfl ?_
  refine xv_sc (i + 2) rfl (by first | rfl | (simp only [xa_c0, pk_mul, nI_add]; done) | (simp only [xa_c0, pk_mul, nI_add]; congr 1; omega)) (by omega) (by omega) ?_
  refine xv_m 4 rfl ?_
  refine xv_sc (i + 3) rfl (by first | rfl | (simp only [xa_c0, pk_mul, nI_add]; done) | (simp only [xa_c0, pk_mul, nI_add]; congr 1; omega)) (by omega) (by omega) ?_
  refine xv_c0 (r := 106) (nip := 212) (cost := 18) rfl (by omega) (by omega) (hR) ?_
  refine xv_m 1 rfl ?_
  refine xv_c0 (r := 96) (nip := 214) (cost := 12) rfl (by omega) (by omega) (m_96) ?_
  refine xv_ei hb ?_
  refine xv_m 1 rfl ?_
  refine xv_bt rfl (xc_eqT rfl) ?_
  refine xv_m 3 rfl ?_
  exact xv_l he ⟨xk5 i, rfl, rfl, rfl, rfl, trivial⟩
set_option maxRecDepth 10000 in
theorem b_6 {i c : Nat} {x : Int32} (hL : L ≤ 2560) (hi : i + 5 ≤ L) {o : Outcome} {h' : List va_E} {k z k1 z1 : Nat} (hsw : xs i &&& nI 31 = nI 5) (hH : xv xm L xs 10 379 137 0 [(0, .ref 1), (1, .int (xs (i + 1))), (2, .int (xs (i + 2))), (3, .int (xs (i + 3))), (4, .ref 46)] [] (xC s ++ (xD r b ++ (xo f :: g))) (.returned (some (.int (nI c)))) (xC s1 ++ (xD r b ++ (xo f1 :: g1))) k1 z1) (hR : xv xm L xs 10 380 109 0 [(0, .ref 28), (1, .int (xs (i + 1))), (2, .int (xs (i + 2))), (3, .int (xs (i + 3)))] [] (xC s1 ++ (xD r b ++ (xo f1 :: g1))) (.returned (some (.int (x)))) (xC s1 ++ (xD r1 b1 ++ (xo f1 :: g1))) 0 0) (hc : c < 10) (hb : b1 0 0 = nI c) (ho : c = 0 → f1 0 = x.toInt64) (he : xv xm L xs 11 396 154 13 [(4, .int (nI (i + 5))), (0, .ref 0), (1, .ref 1), (2, .ref 28), (3, .ref 46)] [] (xC s1 ++ (xD r1 b1 ++ (xo f1 :: g1))) o h' k z) : xv xm L xs 11 396 154 13 [(4, .int (nI i)), (0, .ref 0), (1, .ref 1), (2, .ref 28), (3, .ref 46)] [] (xC s ++ (xD r b ++ (xo f :: g))) o h' (k1 + k) (z1 + z) := by
  refine xv_m 5 rfl ?_
  refine xv_ei (show nI L - nI 5 = nI (L - 5) from pk_sub (by omega)) ?_
  refine xv_bf rfl (xc_gtF (by omega) (by omega)) ?_
  refine xv_m 2 rfl ?_
  refine xv_sc (i) rfl (by first | rfl | (simp only [xa_c0, pk_mul, nI_add]; done) | (simp only [xa_c0, pk_mul, nI_add]; congr 1; omega)) (by omega) (by omega) ?_
  refine xv_m 2 rfl ?_
  refine xv_ei hsw ?_
  refine xv_bf (ip2 := 219) rfl (by decide +kernel) ?_
  refine xv_m 5 rfl ?_
  refine xv_sc (i + 1) rfl (by first | rfl | (simp only [xa_c0, pk_mul, nI_add]; done) | (simp only [xa_c0, pk_mul, nI_add]; congr 1; omega)) (by omega) (by omega) ?_
  refine xv_m 4 rfl ?_
  refine xv_sc (i + 2) rfl (by first | rfl | (simp only [xa_c0, pk_mul, nI_add]; done) | (simp only [xa_c0, pk_mul, nI_add]; congr 1; omega)) (by omega) (by omega) ?_
  refine xv_m 4 rfl ?_
  refine xv_sc (i + 3) rfl (by first | rfl | (simp only [xa_c0, pk_mul, nI_add]; done) | (simp only [xa_c0, pk_mul, nI_add]; congr 1; omega)) (by omega) (by omega) ?_
  refine xv_m 1 rfl ?_
  refine xv_c (r := 137) (nip := 237) (cost := 17) rfl (by omega) (by omega) (hH) ?_
  refine xv_m 6 rfl ?_
  refine xv_sc (i + 1) rfl (by first | rfl | (simp only [xa_c0, pk_mul, nI_add]; done) | (simp only [xa_c0, pk_mul, nI_add]; congr 1; omega)) (by omega) (by omega) ?_
  refine xv_m 4 rfl ?_
  refine xv_sc (i + 2) rfl (by first | rfl | (simp only [xa_c0, pk_mul, nI_add]; done) | (simp only [xa_c0, pk_mul, nI_add]; congr 1; omega)) (by omega) (by omega) ?_
  refine xv_m 4 rfl ?_
  refine xv_sc (i + 3) rfl (by first | rfl | (simp only [xa_c0, pk_mul, nI_add]; done) | (simp only [xa_c0, pk_mul, nI_add]; congr 1; omega)) (by omega) (by omega) ?_
  refine xv_c0 (r := 109) (nip := 255) (cost := 16) rfl (by omega) (by omega) (hR) ?_
  refine xv_m 2 rfl ?_
  refine xv_c0 (r := 96) (nip := 258) (cost := 12) rfl (by omega) (by omega) (m_96) ?_
  refine xv_ei hb ?_
  refine xv_m 1 rfl ?_
  refine xv_bt rfl (xc_eqT rfl) ?_
  refine xv_m 1 rfl ?_
  refine xv_b rfl (fun hn => ?_) (fun hn => ?_)
  · refine xv_m 3 rfl ?_
    exact xv_l he ⟨xk5 i, rfl, rfl, rfl, rfl, trivial⟩
  · refine xv_m 2 rfl ?_
    refine xv_lal 0 rfl rfl rfl (by omega) (by omega) ?_
    refine xv_m 3 rfl ?_
    refine xv_ei (show lg_cmp (f1 0) x.toInt64 = 0 by rw [ho (xcz (xe_ne hn) hc)]; exact xl_eq) ?_
    refine xv_bt rfl (by decide +kernel) ?_
    refine xv_m 3 rfl ?_
    exact xv_l he ⟨xk5 i, rfl, rfl, rfl, rfl, trivial⟩
set_option maxRecDepth 10000 in
theorem b_7 {i c : Nat} {x : Int32} (hL : L ≤ 2560) (hi : i + 5 ≤ L) {o : Outcome} {h' : List va_E} {k z k1 z1 : Nat} (hsw : xs i &&& nI 31 = nI 6) (hH : xv xm L xs 10 381 138 0 [(0, .ref 1), (1, .int (xs (i + 1))), (2, .ref 46)] [] (xC s ++ (xD r b ++ (xo f :: g))) (.returned (some (.int (nI c)))) (xC s1 ++ (xD r b ++ (xo f1 :: g1))) k1 z1) (hR : xv xm L xs 10 378 113 0 [(0, .ref 28), (1, .int (xs (i + 1)))] [] (xC s1 ++ (xD r b ++ (xo f1 :: g1))) (.returned (some (.int (x)))) (xC s1 ++ (xD r1 b1 ++ (xo f1 :: g1))) 0 0) (hc : c < 10) (hb : b1 0 0 = nI c) (ho : c = 0 → f1 0 = x.toInt64) (he : xv xm L xs 11 396 154 13 [(4, .int (nI (i + 5))), (0, .ref 0), (1, .ref 1), (2, .ref 28), (3, .ref 46)] [] (xC s1 ++ (xD r1 b1 ++ (xo f1 :: g1))) o h' k z) : xv xm L xs 11 396 154 13 [(4, .int (nI i)), (0, .ref 0), (1, .ref 1), (2, .ref 28), (3, .ref 46)] [] (xC s ++ (xD r b ++ (xo f :: g))) o h' (k1 + k) (z1 + z) := by
  refine xv_m 5 rfl ?_
  refine xv_ei (show nI L - nI 5 = nI (L - 5) from pk_sub (by omega)) ?_
  refine xv_bf rfl (xc_gtF (by omega) (by omega)) ?_
  refine xv_m 2 rfl ?_
  refine xv_sc (i) rfl (by first | rfl | (simp only [xa_c0, pk_mul, nI_add]; done) | (simp only [xa_c0, pk_mul, nI_add]; congr 1; omega)) (by omega) (by omega) ?_
  refine xv_m 2 rfl ?_
  refine xv_ei hsw ?_
  refine xv_bf (ip2 := 274) rfl (by decide +kernel) ?_
  refine xv_m 5 rfl ?_
  refine xv_sc (i + 1) rfl (by first | rfl | (simp only [xa_c0, pk_mul, nI_add]; done) | (simp only [xa_c0, pk_mul, nI_add]; congr 1; omega)) (by omega) (by omega) ?_
  refine xv_m 1 rfl ?_
  refine xv_c (r := 138) (nip := 282) (cost := 15) rfl (by omega) (by omega) (hH) ?_
  refine xv_m 6 rfl ?_
  refine xv_sc (i + 1) rfl (by first | rfl | (simp only [xa_c0, pk_mul, nI_add]; done) | (simp only [xa_c0, pk_mul, nI_add]; congr 1; omega)) (by omega) (by omega) ?_
  refine xv_c0 (r := 113) (nip := 290) (cost := 18) rfl (by omega) (by omega) (hR) ?_
  refine xv_m 2 rfl ?_
  refine xv_c0 (r := 96) (nip := 293) (cost := 12) rfl (by omega) (by omega) (m_96) ?_
  refine xv_ei hb ?_
  refine xv_m 1 rfl ?_
  refine xv_bt rfl (xc_eqT rfl) ?_
  refine xv_m 1 rfl ?_
  refine xv_b rfl (fun hn => ?_) (fun hn => ?_)
  · refine xv_m 3 rfl ?_
    exact xv_l he ⟨xk5 i, rfl, rfl, rfl, rfl, trivial⟩
  · refine xv_m 2 rfl ?_
    refine xv_lal 0 rfl rfl rfl (by omega) (by omega) ?_
    refine xv_m 3 rfl ?_
    refine xv_ei (show lg_cmp (f1 0) x.toInt64 = 0 by rw [ho (xcz (xe_ne hn) hc)]; exact xl_eq) ?_
    refine xv_bt rfl (by decide +kernel) ?_
    refine xv_m 3 rfl ?_
    exact xv_l he ⟨xk5 i, rfl, rfl, rfl, rfl, trivial⟩
set_option maxRecDepth 10000 in
theorem b_8 {i c : Nat} {x : Int32} (hL : L ≤ 2560) (hi : i + 5 ≤ L) {o : Outcome} {h' : List va_E} {k z k1 z1 : Nat} (hsw : xs i &&& nI 31 = nI 7) (hH : xv xm L xs 10 380 139 0 [(0, .ref 1), (1, .int (xs (i + 1))), (2, .int (xP (xs (i + 2)))), (3, .ref 46)] [] (xC s ++ (xD r b ++ (xo f :: g))) (.returned (some (.int (nI c)))) (xC s1 ++ (xD r b ++ (xo f1 :: g1))) k1 z1) (hR : xv xm L xs 10 382 114 0 [(0, .ref 28), (1, .int (xs (i + 1))), (2, .int (xP (xs (i + 2))))] [] (xC s1 ++ (xD r b ++ (xo f1 :: g1))) (.returned (some (.int (x)))) (xC s1 ++ (xD r1 b1 ++ (xo f1 :: g1))) 0 0) (hc : c < 10) (hb : b1 0 0 = nI c) (ho : c = 0 → f1 0 = x.toInt64) (he : xv xm L xs 11 396 154 13 [(4, .int (nI (i + 5))), (0, .ref 0), (1, .ref 1), (2, .ref 28), (3, .ref 46)] [] (xC s1 ++ (xD r1 b1 ++ (xo f1 :: g1))) o h' k z) : xv xm L xs 11 396 154 13 [(4, .int (nI i)), (0, .ref 0), (1, .ref 1), (2, .ref 28), (3, .ref 46)] [] (xC s ++ (xD r b ++ (xo f :: g))) o h' (k1 + k) (z1 + z) := by
  cases hz : xa_cmp .eq (xs (i + 2)) 0 with
  | true =>
    rw [show xP (xs (i + 2)) = 0 by unfold xP; rw [hz]; rfl] at hH hR
    refine xv_m 5 rfl ?_
    refine xv_ei (show nI L - nI 5 = nI (L - 5) from pk_sub (by omega)) ?_
    refine xv_bf rfl (xc_gtF (by omega) (by omega)) ?_
    refine xv_m 2 rfl ?_
    refine xv_sc (i) rfl (by first | rfl | (simp only [xa_c0, pk_mul, nI_add]; done) | (simp only [xa_c0, pk_mul, nI_add]; congr 1; omega)) (by omega) (by omega) ?_
    refine xv_m 2 rfl ?_
    refine xv_ei hsw ?_
    refine xv_bf (ip2 := 309) rfl (by decide +kernel) ?_
    refine xv_m 5 rfl ?_
    refine xv_sc (i + 1) rfl (by first | rfl | (simp only [xa_c0, pk_mul, nI_add]; done) | (simp only [xa_c0, pk_mul, nI_add]; congr 1; omega)) (by omega) (by omega) ?_
    refine xv_m 4 rfl ?_
    refine xv_sc (i + 2) rfl (by first | rfl | (simp only [xa_c0, pk_mul, nI_add]; done) | (simp only [xa_c0, pk_mul, nI_add]; congr 1; omega)) (by omega) (by omega) ?_
    refine xv_bt rfl (hz) ?_
    refine xv_m 2 rfl ?_
    refine xv_c (r := 139) (nip := 326) (cost := 16) rfl (by omega) (by omega) (hH) ?_
    refine xv_m 6 rfl ?_
    refine xv_sc (i + 1) rfl (by first | rfl | (simp only [xa_c0, pk_mul, nI_add]; done) | (simp only [xa_c0, pk_mul, nI_add]; congr 1; omega)) (by omega) (by omega) ?_
    refine xv_m 4 rfl ?_
    refine xv_sc (i + 2) rfl (by first | rfl | (simp only [xa_c0, pk_mul, nI_add]; done) | (simp only [xa_c0, pk_mul, nI_add]; congr 1; omega)) (by omega) (by omega) ?_
    refine xv_bt rfl (hz) ?_
    refine xv_m 1 rfl ?_
    refine xv_c0 (r := 114) (nip := 343) (cost := 14) rfl (by omega) (by omega) (hR) ?_
    refine xv_m 2 rfl ?_
    refine xv_c0 (r := 96) (nip := 346) (cost := 12) rfl (by omega) (by omega) (m_96) ?_
    refine xv_ei hb ?_
    refine xv_m 1 rfl ?_
    refine xv_bt rfl (xc_eqT rfl) ?_
    refine xv_m 1 rfl ?_
    refine xv_b rfl (fun hn => ?_) (fun hn => ?_)
    · refine xv_m 3 rfl ?_
      exact xv_l he ⟨xk5 i, rfl, rfl, rfl, rfl, trivial⟩
    · refine xv_m 2 rfl ?_
      refine xv_lal 0 rfl rfl rfl (by omega) (by omega) ?_
      refine xv_m 3 rfl ?_
      refine xv_ei (show lg_cmp (f1 0) x.toInt64 = 0 by rw [ho (xcz (xe_ne hn) hc)]; exact xl_eq) ?_
      refine xv_bt rfl (by decide +kernel) ?_
      refine xv_m 3 rfl ?_
      exact xv_l he ⟨xk5 i, rfl, rfl, rfl, rfl, trivial⟩
  | false =>
    rw [show xP (xs (i + 2)) = 1 by unfold xP; rw [hz]; rfl] at hH hR
    refine xv_m 5 rfl ?_
    refine xv_ei (show nI L - nI 5 = nI (L - 5) from pk_sub (by omega)) ?_
    refine xv_bf rfl (xc_gtF (by omega) (by omega)) ?_
    refine xv_m 2 rfl ?_
    refine xv_sc (i) rfl (by first | rfl | (simp only [xa_c0, pk_mul, nI_add]; done) | (simp only [xa_c0, pk_mul, nI_add]; congr 1; omega)) (by omega) (by omega) ?_
    refine xv_m 2 rfl ?_
    refine xv_ei hsw ?_
    refine xv_bf (ip2 := 309) rfl (by decide +kernel) ?_
    refine xv_m 5 rfl ?_
    refine xv_sc (i + 1) rfl (by first | rfl | (simp only [xa_c0, pk_mul, nI_add]; done) | (simp only [xa_c0, pk_mul, nI_add]; congr 1; omega)) (by omega) (by omega) ?_
    refine xv_m 4 rfl ?_
    refine xv_sc (i + 2) rfl (by first | rfl | (simp only [xa_c0, pk_mul, nI_add]; done) | (simp only [xa_c0, pk_mul, nI_add]; congr 1; omega)) (by omega) (by omega) ?_
    refine xv_bf rfl (hz) ?_
    refine xv_m 3 rfl ?_
    refine xv_c (r := 139) (nip := 326) (cost := 16) rfl (by omega) (by omega) (hH) ?_
    refine xv_m 6 rfl ?_
    refine xv_sc (i + 1) rfl (by first | rfl | (simp only [xa_c0, pk_mul, nI_add]; done) | (simp only [xa_c0, pk_mul, nI_add]; congr 1; omega)) (by omega) (by omega) ?_
    refine xv_m 4 rfl ?_
    refine xv_sc (i + 2) rfl (by first | rfl | (simp only [xa_c0, pk_mul, nI_add]; done) | (simp only [xa_c0, pk_mul, nI_add]; congr 1; omega)) (by omega) (by omega) ?_
    refine xv_bf rfl (hz) ?_
    refine xv_m 2 rfl ?_
    refine xv_c0 (r := 114) (nip := 343) (cost := 14) rfl (by omega) (by omega) (hR) ?_
    refine xv_m 2 rfl ?_
    refine xv_c0 (r := 96) (nip := 346) (cost := 12) rfl (by omega) (by omega) (m_96) ?_
    refine xv_ei hb ?_
    refine xv_m 1 rfl ?_
    refine xv_bt rfl (xc_eqT rfl) ?_
    refine xv_m 1 rfl ?_
    refine xv_b rfl (fun hn => ?_) (fun hn => ?_)
    · refine xv_m 3 rfl ?_
      exact xv_l he ⟨xk5 i, rfl, rfl, rfl, rfl, trivial⟩
    · refine xv_m 2 rfl ?_
      refine xv_lal 0 rfl rfl rfl (by omega) (by omega) ?_
      refine xv_m 3 rfl ?_
      refine xv_ei (show lg_cmp (f1 0) x.toInt64 = 0 by rw [ho (xcz (xe_ne hn) hc)]; exact xl_eq) ?_
      refine xv_bt rfl (by decide +kernel) ?_
      refine xv_m 3 rfl ?_
      exact xv_l he ⟨xk5 i, rfl, rfl, rfl, rfl, trivial⟩
set_option maxRecDepth 10000 in
theorem b_9 {i c : Nat} {x : Int32} (hL : L ≤ 2560) (hi : i + 5 ≤ L) {o : Outcome} {h' : List va_E} {k z k1 z1 : Nat} (hsw : xs i &&& nI 31 = nI 8) (hH : xv xm L xs 10 378 140 0 [(0, .ref 1), (1, .int (xs (i + 1))), (2, .int (xs (i + 2))), (3, .int (xs (i + 3))), (4, .int (xs (i + 4))), (5, .ref 46)] [] (xC s ++ (xD r b ++ (xo f :: g))) (.returned (some (.int (nI c)))) (xC s1 ++ (xD r b ++ (xo f1 :: g1))) k1 z1) (hR : xv xm L xs 10 378 115 0 [(0, .ref 28), (1, .int (xs (i + 1))), (2, .int (xs (i + 2))), (3, .int (xs (i + 3))), (4, .int (xs (i + 4)))] [] (xC s1 ++ (xD r b ++ (xo f1 :: g1))) (.returned (some (.int (x)))) (xC s1 ++ (xD r1 b1 ++ (xo f1 :: g1))) 0 0) (hc : c < 10) (hb : b1 0 0 = nI c) (hx : x = 0 ∨ x = 1) (ho : c = 0 → f1 0 = x.toInt64) (he : xv xm L xs 11 396 154 13 [(4, .int (nI (i + 5))), (0, .ref 0), (1, .ref 1), (2, .ref 28), (3, .ref 46)] [] (xC s1 ++ (xD r1 b1 ++ (xo f1 :: g1))) o h' k z) : xv xm L xs 11 396 154 13 [(4, .int (nI i)), (0, .ref 0), (1, .ref 1), (2, .ref 28), (3, .ref 46)] [] (xC s ++ (xD r b ++ (xo f :: g))) o h' (k1 + k) (z1 + z) := by
  by_cases h0 : c = 0
  · subst h0
    rcases hx with rfl | rfl
    · refine xv_m 5 rfl ?_
      refine xv_ei (show nI L - nI 5 = nI (L - 5) from pk_sub (by omega)) ?_
      refine xv_bf rfl (xc_gtF (by omega) (by omega)) ?_
      refine xv_m 2 rfl ?_
      refine xv_sc (i) rfl (by first | rfl | (simp only [xa_c0, pk_mul, nI_add]; done) | (simp only [xa_c0, pk_mul, nI_add]; congr 1; omega)) (by omega) (by omega) ?_
      refine xv_m 2 rfl ?_
      refine xv_ei hsw ?_
      refine xv_bf (ip2 := 362) rfl (by decide +kernel) ?_
      refine xv_m 5 rfl ?_
      refine xv_sc (i + 1) rfl (by first | rfl | (simp only [xa_c0, pk_mul, nI_add]; done) | (simp only [xa_c0, pk_mul, nI_add]; congr 1; omega)) (by omega) (by omega) ?_
      refine xv_m 4 rfl ?_
      refine xv_sc (i + 2) rfl (by first | rfl | (simp only [xa_c0, pk_mul, nI_add]; done) | (simp only [xa_c0, pk_mul, nI_add]; congr 1; omega)) (by omega) (by omega) ?_
      refine xv_m 4 rfl ?_
      refine xv_sc (i + 3) rfl (by first | rfl | (simp only [xa_c0, pk_mul, nI_add]; done) | (simp only [xa_c0, pk_mul, nI_add]; congr 1; omega)) (by omega) (by omega) ?_
      refine xv_m 4 rfl ?_
      refine xv_sc (i + 4) rfl (by first | rfl | (simp only [xa_c0, pk_mul, nI_add]; done) | (simp only [xa_c0, pk_mul, nI_add]; congr 1; omega)) (by omega) (by omega) ?_
      refine xv_m 1 rfl ?_
      refine xv_c (r := 140) (nip := 385) (cost := 18) rfl (by omega) (by omega) (hH) ?_
      refine xv_m 6 rfl ?_
      refine xv_sc (i + 1) rfl (by first | rfl | (simp only [xa_c0, pk_mul, nI_add]; done) | (simp only [xa_c0, pk_mul, nI_add]; congr 1; omega)) (by omega) (by omega) ?_
      refine xv_m 4 rfl ?_
      refine xv_sc (i + 2) rfl (by first | rfl | (simp only [xa_c0, pk_mul, nI_add]; done) | (simp only [xa_c0, pk_mul, nI_add]; congr 1; omega)) (by omega) (by omega) ?_
      refine xv_m 4 rfl ?_
      refine xv_sc (i + 3) rfl (by first | rfl | (simp only [xa_c0, pk_mul, nI_add]; done) | (simp only [xa_c0, pk_mul, nI_add]; congr 1; omega)) (by omega) (by omega) ?_
      refine xv_m 4 rfl ?_
      refine xv_sc (i + 4) rfl (by first | rfl | (simp only [xa_c0, pk_mul, nI_add]; done) | (simp only [xa_c0, pk_mul, nI_add]; congr 1; omega)) (by omega) (by omega) ?_
      refine xv_c0 (r := 115) (nip := 408) (cost := 18) rfl (by omega) (by omega) (hR) ?_
      refine xv_m 2 rfl ?_
      refine xv_c0 (r := 96) (nip := 411) (cost := 12) rfl (by omega) (by omega) (m_96) ?_
      refine xv_ei hb ?_
      refine xv_m 1 rfl ?_
      refine xv_bt rfl (xc_eqT rfl) ?_
      refine xv_m 1 rfl ?_
      refine xv_bf rfl (by decide +kernel) ?_
      refine xv_m 2 rfl ?_
      refine xv_lal 0 rfl rfl rfl (by omega) (by omega) ?_
      refine xv_m 1 rfl ?_
      refine xv_bt rfl (by decide +kernel) ?_
      refine xv_m 2 rfl ?_
      refine xv_ei (show lg_cmp (f1 0) (lN 0) = 0 by rw [ho rfl]; decide +kernel) ?_
      refine xv_bt rfl (by decide +kernel) ?_
      refine xv_m 3 rfl ?_
      exact xv_l he ⟨xk5 i, rfl, rfl, rfl, rfl, trivial⟩
    · refine xv_m 5 rfl ?_
      refine xv_ei (show nI L - nI 5 = nI (L - 5) from pk_sub (by omega)) ?_
      refine xv_bf rfl (xc_gtF (by omega) (by omega)) ?_
      refine xv_m 2 rfl ?_
      refine xv_sc (i) rfl (by first | rfl | (simp only [xa_c0, pk_mul, nI_add]; done) | (simp only [xa_c0, pk_mul, nI_add]; congr 1; omega)) (by omega) (by omega) ?_
      refine xv_m 2 rfl ?_
      refine xv_ei hsw ?_
      refine xv_bf (ip2 := 362) rfl (by decide +kernel) ?_
      refine xv_m 5 rfl ?_
      refine xv_sc (i + 1) rfl (by first | rfl | (simp only [xa_c0, pk_mul, nI_add]; done) | (simp only [xa_c0, pk_mul, nI_add]; congr 1; omega)) (by omega) (by omega) ?_
      refine xv_m 4 rfl ?_
      refine xv_sc (i + 2) rfl (by first | rfl | (simp only [xa_c0, pk_mul, nI_add]; done) | (simp only [xa_c0, pk_mul, nI_add]; congr 1; omega)) (by omega) (by omega) ?_
      refine xv_m 4 rfl ?_
      refine xv_sc (i + 3) rfl (by first | rfl | (simp only [xa_c0, pk_mul, nI_add]; done) | (simp only [xa_c0, pk_mul, nI_add]; congr 1; omega)) (by omega) (by omega) ?_
      refine xv_m 4 rfl ?_
      refine xv_sc (i + 4) rfl (by first | rfl | (simp only [xa_c0, pk_mul, nI_add]; done) | (simp only [xa_c0, pk_mul, nI_add]; congr 1; omega)) (by omega) (by omega) ?_
      refine xv_m 1 rfl ?_
      refine xv_c (r := 140) (nip := 385) (cost := 18) rfl (by omega) (by omega) (hH) ?_
      refine xv_m 6 rfl ?_
      refine xv_sc (i + 1) rfl (by first | rfl | (simp only [xa_c0, pk_mul, nI_add]; done) | (simp only [xa_c0, pk_mul, nI_add]; congr 1; omega)) (by omega) (by omega) ?_
      refine xv_m 4 rfl ?_
      refine xv_sc (i + 2) rfl (by first | rfl | (simp only [xa_c0, pk_mul, nI_add]; done) | (simp only [xa_c0, pk_mul, nI_add]; congr 1; omega)) (by omega) (by omega) ?_
      refine xv_m 4 rfl ?_
      refine xv_sc (i + 3) rfl (by first | rfl | (simp only [xa_c0, pk_mul, nI_add]; done) | (simp only [xa_c0, pk_mul, nI_add]; congr 1; omega)) (by omega) (by omega) ?_
      refine xv_m 4 rfl ?_
      refine xv_sc (i + 4) rfl (by first | rfl | (simp only [xa_c0, pk_mul, nI_add]; done) | (simp only [xa_c0, pk_mul, nI_add]; congr 1; omega)) (by omega) (by omega) ?_
      refine xv_c0 (r := 115) (nip := 408) (cost := 18) rfl (by omega) (by omega) (hR) ?_
      refine xv_m 2 rfl ?_
      refine xv_c0 (r := 96) (nip := 411) (cost := 12) rfl (by omega) (by omega) (m_96) ?_
      refine xv_ei hb ?_
      refine xv_m 1 rfl ?_
      refine xv_bt rfl (xc_eqT rfl) ?_
      refine xv_m 1 rfl ?_
      refine xv_bf rfl (by decide +kernel) ?_
      refine xv_m 2 rfl ?_
      refine xv_lal 0 rfl rfl rfl (by omega) (by omega) ?_
      refine xv_m 1 rfl ?_
      refine xv_bf rfl (by decide +kernel) ?_
      refine xv_m 3 rfl ?_
      refine xv_ei (show lg_cmp (f1 0) (lN 1) = 0 by rw [ho rfl]; decide +kernel) ?_
      refine xv_bt rfl (by decide +kernel) ?_
      refine xv_m 3 rfl ?_
      exact xv_l he ⟨xk5 i, rfl, rfl, rfl, rfl, trivial⟩
  · refine xv_m 5 rfl ?_
    refine xv_ei (show nI L - nI 5 = nI (L - 5) from pk_sub (by omega)) ?_
    refine xv_bf rfl (xc_gtF (by omega) (by omega)) ?_
    refine xv_m 2 rfl ?_
    refine xv_sc (i) rfl (by first | rfl | (simp only [xa_c0, pk_mul, nI_add]; done) | (simp only [xa_c0, pk_mul, nI_add]; congr 1; omega)) (by omega) (by omega) ?_
    refine xv_m 2 rfl ?_
    refine xv_ei hsw ?_
    refine xv_bf (ip2 := 362) rfl (by decide +kernel) ?_
    refine xv_m 5 rfl ?_
    refine xv_sc (i + 1) rfl (by first | rfl | (simp only [xa_c0, pk_mul, nI_add]; done) | (simp only [xa_c0, pk_mul, nI_add]; congr 1; omega)) (by omega) (by omega) ?_
    refine xv_m 4 rfl ?_
    refine xv_sc (i + 2) rfl (by first | rfl | (simp only [xa_c0, pk_mul, nI_add]; done) | (simp only [xa_c0, pk_mul, nI_add]; congr 1; omega)) (by omega) (by omega) ?_
    refine xv_m 4 rfl ?_
    refine xv_sc (i + 3) rfl (by first | rfl | (simp only [xa_c0, pk_mul, nI_add]; done) | (simp only [xa_c0, pk_mul, nI_add]; congr 1; omega)) (by omega) (by omega) ?_
    refine xv_m 4 rfl ?_
    refine xv_sc (i + 4) rfl (by first | rfl | (simp only [xa_c0, pk_mul, nI_add]; done) | (simp only [xa_c0, pk_mul, nI_add]; congr 1; omega)) (by omega) (by omega) ?_
    refine xv_m 1 rfl ?_
    refine xv_c (r := 140) (nip := 385) (cost := 18) rfl (by omega) (by omega) (hH) ?_
    refine xv_m 6 rfl ?_
    refine xv_sc (i + 1) rfl (by first | rfl | (simp only [xa_c0, pk_mul, nI_add]; done) | (simp only [xa_c0, pk_mul, nI_add]; congr 1; omega)) (by omega) (by omega) ?_
    refine xv_m 4 rfl ?_
    refine xv_sc (i + 2) rfl (by first | rfl | (simp only [xa_c0, pk_mul, nI_add]; done) | (simp only [xa_c0, pk_mul, nI_add]; congr 1; omega)) (by omega) (by omega) ?_
    refine xv_m 4 rfl ?_
    refine xv_sc (i + 3) rfl (by first | rfl | (simp only [xa_c0, pk_mul, nI_add]; done) | (simp only [xa_c0, pk_mul, nI_add]; congr 1; omega)) (by omega) (by omega) ?_
    refine xv_m 4 rfl ?_
    refine xv_sc (i + 4) rfl (by first | rfl | (simp only [xa_c0, pk_mul, nI_add]; done) | (simp only [xa_c0, pk_mul, nI_add]; congr 1; omega)) (by omega) (by omega) ?_
    refine xv_c0 (r := 115) (nip := 408) (cost := 18) rfl (by omega) (by omega) (hR) ?_
    refine xv_m 2 rfl ?_
    refine xv_c0 (r := 96) (nip := 411) (cost := 12) rfl (by omega) (by omega) (m_96) ?_
    refine xv_ei hb ?_
    refine xv_m 1 rfl ?_
    refine xv_bt rfl (xc_eqT rfl) ?_
    refine xv_m 1 rfl ?_
    refine xv_bt rfl (xc_neT (nI_ne (b := 0) h0 (by omega) (by omega))) ?_
    refine xv_m 3 rfl ?_
    exact xv_l he ⟨xk5 i, rfl, rfl, rfl, rfl, trivial⟩
set_option maxRecDepth 10000 in
theorem b_10 {i c : Nat} (hL : L ≤ 2560) (hi : i + 5 ≤ L) {o : Outcome} {h' : List va_E} {k z k1 z1 : Nat} (hsw : xs i &&& nI 31 = nI 9) (hH : xv xm L xs 10 380 141 0 [(0, .ref 1), (1, .int (xs (i + 1))), (2, .int (xs (i + 2))), (3, .int (xs (i + 3)))] [] (xC s ++ (xD r b ++ (xo f :: g))) (.returned (some (.int (nI c)))) (xC s1 ++ (xD r b ++ (xo f1 :: g1))) k1 z1) (hR : xv xm L xs 10 381 116 0 [(0, .ref 28), (1, .int (xs (i + 1))), (2, .int (xs (i + 2))), (3, .int (xs (i + 3)))] [] (xC s1 ++ (xD r b ++ (xo f1 :: g1))) (.returned none) (xC s1 ++ (xD r1 b1 ++ (xo f1 :: g1))) 0 0) (hc : c < 10) (hb : b1 0 0 = nI c) (he : xv xm L xs 11 396 154 13 [(4, .int (nI (i + 5))), (0, .ref 0), (1, .ref 1), (2, .ref 28), (3, .ref 46)] [] (xC s1 ++ (xD r1 b1 ++ (xo f1 :: g1))) o h' k z) : xv xm L xs 11 396 154 13 [(4, .int (nI i)), (0, .ref 0), (1, .ref 1), (2, .ref 28), (3, .ref 46)] [] (xC s ++ (xD r b ++ (xo f :: g))) o h' (k1 + k) (z1 + z) := by
  refine xv_m 5 rfl ?_
  refine xv_ei (show nI L - nI 5 = nI (L - 5) from pk_sub (by omega)) ?_
  refine xv_bf rfl (xc_gtF (by omega) (by omega)) ?_
  refine xv_m 2 rfl ?_
  refine xv_sc (i) rfl (by first | rfl | (simp only [xa_c0, pk_mul, nI_add]; done) | (simp only [xa_c0, pk_mul, nI_add]; congr 1; omega)) (by omega) (by omega) ?_
  refine xv_m 2 rfl ?_
  refine xv_ei hsw ?_
  refine xv_bf (ip2 := 430) rfl (by decide +kernel) ?_
  refine xv_m 5 rfl ?_
  refine xv_sc (i + 1) rfl (by first | rfl | (simp only [xa_c0, pk_mul, nI_add]; done) | (simp only [xa_c0, pk_mul, nI_add]; congr 1; omega)) (by omega) (by omega) ?_
  refine xv_m 4 rfl ?_
  refine xv_sc (i + 2) rfl (by first | rfl | (simp only [xa_c0, pk_mul, nI_add]; done) | (simp only [xa_c0, pk_mul, nI_add]; congr 1; omega)) (by omega) (by omega) ?_
  refine xv_m 4 rfl ?_
  refine xv_sc (i + 3) rfl (by first | rfl | (simp only [xa_c0, pk_mul, nI_add]; done) | (simp only [xa_c0, pk_mul, nI_add]; congr 1; omega)) (by omega) (by omega) ?_
  refine xv_c (r := 141) (nip := 447) (cost := 16) rfl (by omega) (by omega) (hH) ?_
  refine xv_m 6 rfl ?_
  refine xv_sc (i + 1) rfl (by first | rfl | (simp only [xa_c0, pk_mul, nI_add]; done) | (simp only [xa_c0, pk_mul, nI_add]; congr 1; omega)) (by omega) (by omega) ?_
  refine xv_m 4 rfl ?_
  refine xv_sc (i + 2) rfl (by first | rfl | (simp only [xa_c0, pk_mul, nI_add]; done) | (simp only [xa_c0, pk_mul, nI_add]; congr 1; omega)) (by omega) (by omega) ?_
  refine xv_m 4 rfl ?_
  refine xv_sc (i + 3) rfl (by first | rfl | (simp only [xa_c0, pk_mul, nI_add]; done) | (simp only [xa_c0, pk_mul, nI_add]; congr 1; omega)) (by omega) (by omega) ?_
  refine xv_c0 (r := 116) (nip := 465) (cost := 15) rfl (by omega) (by omega) (hR) ?_
  refine xv_m 1 rfl ?_
  refine xv_c0 (r := 96) (nip := 467) (cost := 12) rfl (by omega) (by omega) (m_96) ?_
  refine xv_ei hb ?_
  refine xv_m 1 rfl ?_
  refine xv_bt rfl (xc_eqT rfl) ?_
  refine xv_m 3 rfl ?_
  exact xv_l he ⟨xk5 i, rfl, rfl, rfl, rfl, trivial⟩
set_option maxRecDepth 10000 in
theorem b_11 {i c : Nat} {x : Int32} (hL : L ≤ 2560) (hi : i + 5 ≤ L) {o : Outcome} {h' : List va_E} {k z k1 z1 : Nat} (hsw : xs i &&& nI 31 = nI 10) (hH : xv xm L xs 10 381 142 0 [(0, .ref 1), (1, .int (xs (i + 1))), (2, .ref 46)] [] (xC s ++ (xD r b ++ (xo f :: g))) (.returned (some (.int (nI c)))) (xC s1 ++ (xD r b ++ (xo f1 :: g1))) k1 z1) (hR : xv xm L xs 10 381 118 0 [(0, .ref 28), (1, .int (xs (i + 1)))] [] (xC s1 ++ (xD r b ++ (xo f1 :: g1))) (.returned (some (.int (x)))) (xC s1 ++ (xD r1 b1 ++ (xo f1 :: g1))) 0 0) (hc : c < 10) (hb : b1 0 0 = nI c) (ho : c = 0 → f1 0 = x.toInt64) (he : xv xm L xs 11 396 154 13 [(4, .int (nI (i + 5))), (0, .ref 0), (1, .ref 1), (2, .ref 28), (3, .ref 46)] [] (xC s1 ++ (xD r1 b1 ++ (xo f1 :: g1))) o h' k z) : xv xm L xs 11 396 154 13 [(4, .int (nI i)), (0, .ref 0), (1, .ref 1), (2, .ref 28), (3, .ref 46)] [] (xC s ++ (xD r b ++ (xo f :: g))) o h' (k1 + k) (z1 + z) := by
  refine xv_m 5 rfl ?_
  refine xv_ei (show nI L - nI 5 = nI (L - 5) from pk_sub (by omega)) ?_
  refine xv_bf rfl (xc_gtF (by omega) (by omega)) ?_
  refine xv_m 2 rfl ?_
  refine xv_sc (i) rfl (by first | rfl | (simp only [xa_c0, pk_mul, nI_add]; done) | (simp only [xa_c0, pk_mul, nI_add]; congr 1; omega)) (by omega) (by omega) ?_
  refine xv_m 2 rfl ?_
  refine xv_ei hsw ?_
  refine xv_bf (ip2 := 472) rfl (by decide +kernel) ?_
  refine xv_m 5 rfl ?_
  refine xv_sc (i + 1) rfl (by first | rfl | (simp only [xa_c0, pk_mul, nI_add]; done) | (simp only [xa_c0, pk_mul, nI_add]; congr 1; omega)) (by omega) (by omega) ?_
  refine xv_m 1 rfl ?_
  refine xv_c (r := 142) (nip := 480) (cost := 15) rfl (by omega) (by omega) (hH) ?_
  refine xv_m 6 rfl ?_
  refine xv_sc (i + 1) rfl (by first | rfl | (simp only [xa_c0, pk_mul, nI_add]; done) | (simp only [xa_c0, pk_mul, nI_add]; congr 1; omega)) (by omega) (by omega) ?_
  refine xv_c0 (r := 118) (nip := 488) (cost := 15) rfl (by omega) (by omega) (hR) ?_
  refine xv_m 2 rfl ?_
  refine xv_c0 (r := 96) (nip := 491) (cost := 12) rfl (by omega) (by omega) (m_96) ?_
  refine xv_ei hb ?_
  refine xv_m 1 rfl ?_
  refine xv_bt rfl (xc_eqT rfl) ?_
  refine xv_m 1 rfl ?_
  refine xv_b rfl (fun hn => ?_) (fun hn => ?_)
  · refine xv_m 3 rfl ?_
    exact xv_l he ⟨xk5 i, rfl, rfl, rfl, rfl, trivial⟩
  · refine xv_m 2 rfl ?_
    refine xv_lal 0 rfl rfl rfl (by omega) (by omega) ?_
    refine xv_m 3 rfl ?_
    refine xv_ei (show lg_cmp (f1 0) x.toInt64 = 0 by rw [ho (xcz (xe_ne hn) hc)]; exact xl_eq) ?_
    refine xv_bt rfl (by decide +kernel) ?_
    refine xv_m 3 rfl ?_
    exact xv_l he ⟨xk5 i, rfl, rfl, rfl, rfl, trivial⟩
set_option maxRecDepth 10000 in
theorem b_12 {i c : Nat} {x : Int32} (hL : L ≤ 2560) (hi : i + 5 ≤ L) {o : Outcome} {h' : List va_E} {k z k1 z1 : Nat} (hsw : xs i &&& nI 31 = nI 11) (hH : xv xm L xs 10 379 143 0 [(0, .ref 1), (1, .int (xs (i + 1))), (2, .int (xP (xs (i + 2)))), (3, .int (xs (i + 3))), (4, .ref 46)] [] (xC s ++ (xD r b ++ (xo f :: g))) (.returned (some (.int (nI c)))) (xC s1 ++ (xD r b ++ (xo f1 :: g1))) k1 z1) (hR : xv xm L xs 10 379 120 0 [(0, .ref 28), (1, .int (xs (i + 1))), (2, .int (xP (xs (i + 2)))), (3, .int (xs (i + 3)))] [] (xC s1 ++ (xD r b ++ (xo f1 :: g1))) (.returned (some (.int (x)))) (xC s1 ++ (xD r1 b1 ++ (xo f1 :: g1))) 0 0) (hc : c < 10) (hb : b1 0 0 = nI c) (ho : c = 0 → f1 0 = x.toInt64) (he : xv xm L xs 11 396 154 13 [(4, .int (nI (i + 5))), (0, .ref 0), (1, .ref 1), (2, .ref 28), (3, .ref 46)] [] (xC s1 ++ (xD r1 b1 ++ (xo f1 :: g1))) o h' k z) : xv xm L xs 11 396 154 13 [(4, .int (nI i)), (0, .ref 0), (1, .ref 1), (2, .ref 28), (3, .ref 46)] [] (xC s ++ (xD r b ++ (xo f :: g))) o h' (k1 + k) (z1 + z) := by
  cases hz : xa_cmp .eq (xs (i + 2)) 0 with
  | true =>
    rw [show xP (xs (i + 2)) = 0 by unfold xP; rw [hz]; rfl] at hH hR
    refine xv_m 5 rfl ?_
    refine xv_ei (show nI L - nI 5 = nI (L - 5) from pk_sub (by omega)) ?_
    refine xv_bf rfl (xc_gtF (by omega) (by omega)) ?_
    refine xv_m 2 rfl ?_
    refine xv_sc (i) rfl (by first | rfl | (simp only [xa_c0, pk_mul, nI_add]; done) | (simp only [xa_c0, pk_mul, nI_add]; congr 1; omega)) (by omega) (by omega) ?_
    refine xv_m 2 rfl ?_
    refine xv_ei hsw ?_
    refine xv_bf (ip2 := 507) rfl (by decide +kernel) ?_
    refine xv_m 5 rfl ?_
    refine xv_sc (i + 1) rfl (by first | rfl | (simp only [xa_c0, pk_mul, nI_add]; done) | (simp only [xa_c0, pk_mul, nI_add]; congr 1; omega)) (by omega) (by omega) ?_
    refine xv_m 4 rfl ?_
    refine xv_sc (i + 2) rfl (by first | rfl | (simp only [xa_c0, pk_mul, nI_add]; done) | (simp only [xa_c0, pk_mul, nI_add]; congr 1; omega)) (by omega) (by omega) ?_
    refine xv_bt rfl (hz) ?_
    refine xv_m 5 rfl ?_
    refine xv_sc (i + 3) rfl (by first | rfl | (simp only [xa_c0, pk_mul, nI_add]; done) | (simp only [xa_c0, pk_mul, nI_add]; congr 1; omega)) (by omega) (by omega) ?_
    refine xv_m 1 rfl ?_
    refine xv_c (r := 143) (nip := 529) (cost := 17) rfl (by omega) (by omega) (hH) ?_
    refine xv_m 6 rfl ?_
    refine xv_sc (i + 1) rfl (by first | rfl | (simp only [xa_c0, pk_mul, nI_add]; done) | (simp only [xa_c0, pk_mul, nI_add]; congr 1; omega)) (by omega) (by omega) ?_
    refine xv_m 4 rfl ?_
    refine xv_sc (i + 2) rfl (by first | rfl | (simp only [xa_c0, pk_mul, nI_add]; done) | (simp only [xa_c0, pk_mul, nI_add]; congr 1; omega)) (by omega) (by omega) ?_
    refine xv_bt rfl (hz) ?_
    refine xv_m 5 rfl ?_
    refine xv_sc (i + 3) rfl (by first | rfl | (simp only [xa_c0, pk_mul, nI_add]; done) | (simp only [xa_c0, pk_mul, nI_add]; congr 1; omega)) (by omega) (by omega) ?_
    refine xv_c0 (r := 120) (nip := 551) (cost := 17) rfl (by omega) (by omega) (hR) ?_
    refine xv_m 2 rfl ?_
    refine xv_c0 (r := 96) (nip := 554) (cost := 12) rfl (by omega) (by omega) (m_96) ?_
    refine xv_ei hb ?_
    refine xv_m 1 rfl ?_
    refine xv_bt rfl (xc_eqT rfl) ?_
    refine xv_m 1 rfl ?_
    refine xv_b rfl (fun hn => ?_) (fun hn => ?_)
    · refine xv_m 3 rfl ?_
      exact xv_l he ⟨xk5 i, rfl, rfl, rfl, rfl, trivial⟩
    · refine xv_m 2 rfl ?_
      refine xv_lal 0 rfl rfl rfl (by omega) (by omega) ?_
      refine xv_m 3 rfl ?_
      refine xv_ei (show lg_cmp (f1 0) x.toInt64 = 0 by rw [ho (xcz (xe_ne hn) hc)]; exact xl_eq) ?_
      refine xv_bt rfl (by decide +kernel) ?_
      refine xv_m 3 rfl ?_
      exact xv_l he ⟨xk5 i, rfl, rfl, rfl, rfl, trivial⟩
  | false =>
    rw [show xP (xs (i + 2)) = 1 by unfold xP; rw [hz]; rfl] at hH hR
    refine xv_m 5 rfl ?_
    refine xv_ei (show nI L - nI 5 = nI (L - 5) from pk_sub (by omega)) ?_
    refine xv_bf rfl (xc_gtF (by omega) (by omega)) ?_
    refine xv_m 2 rfl ?_
    refine xv_sc (i) rfl (by first | rfl | (simp only [xa_c0, pk_mul, nI_add]; done) | (simp only [xa_c0, pk_mul, nI_add]; congr 1; omega)) (by omega) (by omega) ?_
    refine xv_m 2 rfl ?_
    refine xv_ei hsw ?_
    refine xv_bf (ip2 := 507) rfl (by decide +kernel) ?_
    refine xv_m 5 rfl ?_
    refine xv_sc (i + 1) rfl (by first | rfl | (simp only [xa_c0, pk_mul, nI_add]; done) | (simp only [xa_c0, pk_mul, nI_add]; congr 1; omega)) (by omega) (by omega) ?_
    refine xv_m 4 rfl ?_
    refine xv_sc (i + 2) rfl (by first | rfl | (simp only [xa_c0, pk_mul, nI_add]; done) | (simp only [xa_c0, pk_mul, nI_add]; congr 1; omega)) (by omega) (by omega) ?_
    refine xv_bf rfl (hz) ?_
    refine xv_m 6 rfl ?_
    refine xv_sc (i + 3) rfl (by first | rfl | (simp only [xa_c0, pk_mul, nI_add]; done) | (simp only [xa_c0, pk_mul, nI_add]; congr 1; omega)) (by omega) (by omega) ?_
    refine xv_m 1 rfl ?_
    refine xv_c (r := 143) (nip := 529) (cost := 17) rfl (by omega) (by omega) (hH) ?_
    refine xv_m 6 rfl ?_
    refine xv_sc (i + 1) rfl (by first | rfl | (simp only [xa_c0, pk_mul, nI_add]; done) | (simp only [xa_c0, pk_mul, nI_add]; congr 1; omega)) (by omega) (by omega) ?_
    refine xv_m 4 rfl ?_
    refine xv_sc (i + 2) rfl (by first | rfl | (simp only [xa_c0, pk_mul, nI_add]; done) | (simp only [xa_c0, pk_mul, nI_add]; congr 1; omega)) (by omega) (by omega) ?_
    refine xv_bf rfl (hz) ?_
    refine xv_m 6 rfl ?_
    refine xv_sc (i + 3) rfl (by first | rfl | (simp only [xa_c0, pk_mul, nI_add]; done) | (simp only [xa_c0, pk_mul, nI_add]; congr 1; omega)) (by omega) (by omega) ?_
    refine xv_c0 (r := 120) (nip := 551) (cost := 17) rfl (by omega) (by omega) (hR) ?_
    refine xv_m 2 rfl ?_
    refine xv_c0 (r := 96) (nip := 554) (cost := 12) rfl (by omega) (by omega) (m_96) ?_
    refine xv_ei hb ?_
    refine xv_m 1 rfl ?_
    refine xv_bt rfl (xc_eqT rfl) ?_
    refine xv_m 1 rfl ?_
    refine xv_b rfl (fun hn => ?_) (fun hn => ?_)
    · refine xv_m 3 rfl ?_
      exact xv_l he ⟨xk5 i, rfl, rfl, rfl, rfl, trivial⟩
    · refine xv_m 2 rfl ?_
      refine xv_lal 0 rfl rfl rfl (by omega) (by omega) ?_
      refine xv_m 3 rfl ?_
      refine xv_ei (show lg_cmp (f1 0) x.toInt64 = 0 by rw [ho (xcz (xe_ne hn) hc)]; exact xl_eq) ?_
      refine xv_bt rfl (by decide +kernel) ?_
      refine xv_m 3 rfl ?_
      exact xv_l he ⟨xk5 i, rfl, rfl, rfl, rfl, trivial⟩
set_option maxRecDepth 10000 in
theorem b_13 {i c : Nat} {x : Int32} (hL : L ≤ 2560) (hi : i + 5 ≤ L) {o : Outcome} {h' : List va_E} {k z k1 z1 : Nat} (hsw : xs i &&& nI 31 = nI 12) (hH : xv xm L xs 10 378 144 0 [(0, .ref 1), (1, .int (xs (i + 1))), (2, .int (xs (i + 2))), (3, .int (xs (i + 3))), (4, .int (xs (i + 4))), (5, .ref 46)] [] (xC s ++ (xD r b ++ (xo f :: g))) (.returned (some (.int (nI c)))) (xC s1 ++ (xD r b ++ (xo f1 :: g1))) k1 z1) (hR : xv xm L xs 10 376 121 0 [(0, .ref 28), (1, .int (xs (i + 1))), (2, .int (xs (i + 2))), (3, .int (xs (i + 3))), (4, .int (xs (i + 4)))] [] (xC s1 ++ (xD r b ++ (xo f1 :: g1))) (.returned (some (.int (x)))) (xC s1 ++ (xD r1 b1 ++ (xo f1 :: g1))) 0 0) (hc : c < 10) (hb : b1 0 0 = nI c) (ho : c = 0 → f1 0 = x.toInt64) (he : xv xm L xs 11 396 154 13 [(4, .int (nI (i + 5))), (0, .ref 0), (1, .ref 1), (2, .ref 28), (3, .ref 46)] [] (xC s1 ++ (xD r1 b1 ++ (xo f1 :: g1))) o h' k z) : xv xm L xs 11 396 154 13 [(4, .int (nI i)), (0, .ref 0), (1, .ref 1), (2, .ref 28), (3, .ref 46)] [] (xC s ++ (xD r b ++ (xo f :: g))) o h' (k1 + k) (z1 + z) := by
  refine xv_m 5 rfl ?_
  refine xv_ei (show nI L - nI 5 = nI (L - 5) from pk_sub (by omega)) ?_
  refine xv_bf rfl (xc_gtF (by omega) (by omega)) ?_
  refine xv_m 2 rfl ?_
  refine xv_sc (i) rfl (by first | rfl | (simp only [xa_c0, pk_mul, nI_add]; done) | (simp only [xa_c0, pk_mul, nI_add]; congr 1; omega)) (by omega) (by omega) ?_
  refine xv_m 2 rfl ?_
  refine xv_ei hsw ?_
  refine xv_bf (ip2 := 570) rfl (by decide +kernel) ?_
  refine xv_m 5 rfl ?_
  refine xv_sc (i + 1) rfl (by first | rfl | (simp only [xa_c0, pk_mul, nI_add]; done) | (simp only [xa_c0, pk_mul, nI_add]; congr 1; omega)) (by omega) (by omega) ?_
  refine xv_m 4 rfl ?_
  refine xv_sc (i + 2) rfl (by first | rfl | (simp only [xa_c0, pk_mul, nI_add]; done) | (simp only [xa_c0, pk_mul, nI_add]; congr 1; omega)) (by omega) (by omega) ?_
  refine xv_m 4 rfl ?_
  refine xv_sc (i + 3) rfl (by first | rfl | (simp only [xa_c0, pk_mul, nI_add]; done) | (simp only [xa_c0, pk_mul, nI_add]; congr 1; omega)) (by omega) (by omega) ?_
  refine xv_m 4 rfl ?_
  refine xv_sc (i + 4) rfl (by first | rfl | (simp only [xa_c0, pk_mul, nI_add]; done) | (simp only [xa_c0, pk_mul, nI_add]; congr 1; omega)) (by omega) (by omega) ?_
  refine xv_m 1 rfl ?_
  refine xv_c (r := 144) (nip := 593) (cost := 18) rfl (by omega) (by omega) (hH) ?_
  refine xv_m 6 rfl ?_
  refine xv_sc (i + 1) rfl (by first | rfl | (simp only [xa_c0, pk_mul, nI_add]; done) | (simp only [xa_c0, pk_mul, nI_add]; congr 1; omega)) (by omega) (by omega) ?_
  refine xv_m 4 rfl ?_
  refine xv_sc (i + 2) rfl (by first | rfl | (simp only [xa_c0, pk_mul, nI_add]; done) | (simp only [xa_c0, pk_mul, nI_add]; congr 1; omega)) (by omega) (by omega) ?_
  refine xv_m 4 rfl ?_
  refine xv_sc (i + 3) rfl (by first | rfl | (simp only [xa_c0, pk_mul, nI_add]; done) | (simp only [xa_c0, pk_mul, nI_add]; congr 1; omega)) (by omega) (by omega) ?_
  refine xv_m 4 rfl ?_
  refine xv_sc (i + 4) rfl (by first | rfl | (simp only [xa_c0, pk_mul, nI_add]; done) | (simp only [xa_c0, pk_mul, nI_add]; congr 1; omega)) (by omega) (by omega) ?_
  refine xv_c0 (r := 121) (nip := 616) (cost := 20) rfl (by omega) (by omega) (hR) ?_
  refine xv_m 2 rfl ?_
  refine xv_c0 (r := 96) (nip := 619) (cost := 12) rfl (by omega) (by omega) (m_96) ?_
  refine xv_ei hb ?_
  refine xv_m 1 rfl ?_
  refine xv_bt rfl (xc_eqT rfl) ?_
  refine xv_m 1 rfl ?_
  refine xv_b rfl (fun hn => ?_) (fun hn => ?_)
  · refine xv_m 3 rfl ?_
    exact xv_l he ⟨xk5 i, rfl, rfl, rfl, rfl, trivial⟩
  · refine xv_m 2 rfl ?_
    refine xv_lal 0 rfl rfl rfl (by omega) (by omega) ?_
    refine xv_m 3 rfl ?_
    refine xv_ei (show lg_cmp (f1 0) x.toInt64 = 0 by rw [ho (xcz (xe_ne hn) hc)]; exact xl_eq) ?_
    refine xv_bt rfl (by decide +kernel) ?_
    refine xv_m 3 rfl ?_
    exact xv_l he ⟨xk5 i, rfl, rfl, rfl, rfl, trivial⟩
set_option maxRecDepth 10000 in
theorem b_14 {i c : Nat} (hL : L ≤ 2560) (hi : i + 5 ≤ L) {o : Outcome} {h' : List va_E} {k z k1 z1 : Nat} (hsw : xs i &&& nI 31 = nI 13) (hH : xv xm L xs 10 380 145 0 [(0, .ref 1), (1, .int (xs (i + 1))), (2, .int (xs (i + 2))), (3, .int (xs (i + 3)))] [] (xC s ++ (xD r b ++ (xo f :: g))) (.returned (some (.int (nI c)))) (xC s1 ++ (xD r b ++ (xo f1 :: g1))) k1 z1) (hR : xv xm L xs 10 381 122 0 [(0, .ref 28), (1, .int (xs (i + 1))), (2, .int (xs (i + 2))), (3, .int (xs (i + 3)))] [] (xC s1 ++ (xD r b ++ (xo f1 :: g1))) (.returned none) (xC s1 ++ (xD r1 b1 ++ (xo f1 :: g1))) 0 0) (hc : c < 10) (hb : b1 0 0 = nI c) (he : xv xm L xs 11 396 154 13 [(4, .int (nI (i + 5))), (0, .ref 0), (1, .ref 1), (2, .ref 28), (3, .ref 46)] [] (xC s1 ++ (xD r1 b1 ++ (xo f1 :: g1))) o h' k z) : xv xm L xs 11 396 154 13 [(4, .int (nI i)), (0, .ref 0), (1, .ref 1), (2, .ref 28), (3, .ref 46)] [] (xC s ++ (xD r b ++ (xo f :: g))) o h' (k1 + k) (z1 + z) := by
  refine xv_m 5 rfl ?_
  refine xv_ei (show nI L - nI 5 = nI (L - 5) from pk_sub (by omega)) ?_
  refine xv_bf rfl (xc_gtF (by omega) (by omega)) ?_
  refine xv_m 2 rfl ?_
  refine xv_sc (i) rfl (by first | rfl | (simp only [xa_c0, pk_mul, nI_add]; done) | (simp only [xa_c0, pk_mul, nI_add]; congr 1; omega)) (by omega) (by omega) ?_
  refine xv_m 2 rfl ?_
  refine xv_ei hsw ?_
  refine xv_bf (ip2 := 635) rfl (by decide +kernel) ?_
  refine xv_m 5 rfl ?_
  refine xv_sc (i + 1) rfl (by first | rfl | (simp only [xa_c0, pk_mul, nI_add]; done) | (simp only [xa_c0, pk_mul, nI_add]; congr 1; omega)) (by omega) (by omega) ?_
  refine xv_m 4 rfl ?_
  refine xv_sc (i + 2) rfl (by first | rfl | (simp only [xa_c0, pk_mul, nI_add]; done) | (simp only [xa_c0, pk_mul, nI_add]; congr 1; omega)) (by omega) (by omega) ?_
  refine xv_m 4 rfl ?_
  refine xv_sc (i + 3) rfl (by first | rfl | (simp only [xa_c0, pk_mul, nI_add]; done) | (simp only [xa_c0, pk_mul, nI_add]; congr 1; omega)) (by omega) (by omega) ?_
  refine xv_c (r := 145) (nip := 652) (cost := 16) rfl (by omega) (by omega) (hH) ?_
  refine xv_m 6 rfl ?_
  refine xv_sc (i + 1) rfl (by first | rfl | (simp only [xa_c0, pk_mul, nI_add]; done) | (simp only [xa_c0, pk_mul, nI_add]; congr 1; omega)) (by omega) (by omega) ?_
  refine xv_m 4 rfl ?_
  refine xv_sc (i + 2) rfl (by first | rfl | (simp only [xa_c0, pk_mul, nI_add]; done) | (simp only [xa_c0, pk_mul, nI_add]; congr 1; omega)) (by omega) (by omega) ?_
  refine xv_m 4 rfl ?_
  refine xv_sc (i + 3) rfl (by first | rfl | (simp only [xa_c0, pk_mul, nI_add]; done) | (simp only [xa_c0, pk_mul, nI_add]; congr 1; omega)) (by omega) (by omega) ?_
  refine xv_c0 (r := 122) (nip := 670) (cost := 15) rfl (by omega) (by omega) (hR) ?_
  refine xv_m 1 rfl ?_
  refine xv_c0 (r := 96) (nip := 672) (cost := 12) rfl (by omega) (by omega) (m_96) ?_
  refine xv_ei hb ?_
  refine xv_m 1 rfl ?_
  refine xv_bt rfl (xc_eqT rfl) ?_
  refine xv_m 3 rfl ?_
  exact xv_l he ⟨xk5 i, rfl, rfl, rfl, rfl, trivial⟩
set_option maxRecDepth 10000 in
theorem b_15 {i c : Nat} {x : Int32} (hL : L ≤ 2560) (hi : i + 5 ≤ L) {o : Outcome} {h' : List va_E} {k z k1 z1 : Nat} (hsw : xs i &&& nI 31 = nI 14) (hH : xv xm L xs 10 381 146 0 [(0, .ref 1), (1, .int (xs (i + 1))), (2, .ref 46)] [] (xC s ++ (xD r b ++ (xo f :: g))) (.returned (some (.int (nI c)))) (xC s1 ++ (xD r b ++ (xo f1 :: g1))) k1 z1) (hR : xv xm L xs 10 382 123 0 [(0, .ref 28), (1, .int (xs (i + 1)))] [] (xC s1 ++ (xD r b ++ (xo f1 :: g1))) (.returned (some (.int (x)))) (xC s1 ++ (xD r1 b1 ++ (xo f1 :: g1))) 0 0) (hc : c < 10) (hb : b1 0 0 = nI c) (ho : c = 0 → f1 0 = x.toInt64) (he : xv xm L xs 11 396 154 13 [(4, .int (nI (i + 5))), (0, .ref 0), (1, .ref 1), (2, .ref 28), (3, .ref 46)] [] (xC s1 ++ (xD r1 b1 ++ (xo f1 :: g1))) o h' k z) : xv xm L xs 11 396 154 13 [(4, .int (nI i)), (0, .ref 0), (1, .ref 1), (2, .ref 28), (3, .ref 46)] [] (xC s ++ (xD r b ++ (xo f :: g))) o h' (k1 + k) (z1 + z) := by
  refine xv_m 5 rfl ?_
  refine xv_ei (show nI L - nI 5 = nI (L - 5) from pk_sub (by omega)) ?_
  refine xv_bf rfl (xc_gtF (by omega) (by omega)) ?_
  refine xv_m 2 rfl ?_
  refine xv_sc (i) rfl (by first | rfl | (simp only [xa_c0, pk_mul, nI_add]; done) | (simp only [xa_c0, pk_mul, nI_add]; congr 1; omega)) (by omega) (by omega) ?_
  refine xv_m 2 rfl ?_
  refine xv_ei hsw ?_
  refine xv_bf (ip2 := 677) rfl (by decide +kernel) ?_
  refine xv_m 5 rfl ?_
  refine xv_sc (i + 1) rfl (by first | rfl | (simp only [xa_c0, pk_mul, nI_add]; done) | (simp only [xa_c0, pk_mul, nI_add]; congr 1; omega)) (by omega) (by omega) ?_
  refine xv_m 1 rfl ?_
  refine xv_c (r := 146) (nip := 685) (cost := 15) rfl (by omega) (by omega) (hH) ?_
  refine xv_m 6 rfl ?_
  refine xv_sc (i + 1) rfl (by first | rfl | (simp only [xa_c0, pk_mul, nI_add]; done) | (simp only [xa_c0, pk_mul, nI_add]; congr 1; omega)) (by omega) (by omega) ?_
  refine xv_c0 (r := 123) (nip := 693) (cost := 14) rfl (by omega) (by omega) (hR) ?_
  refine xv_m 2 rfl ?_
  refine xv_c0 (r := 96) (nip := 696) (cost := 12) rfl (by omega) (by omega) (m_96) ?_
  refine xv_ei hb ?_
  refine xv_m 1 rfl ?_
  refine xv_bt rfl (xc_eqT rfl) ?_
  refine xv_m 1 rfl ?_
  refine xv_b rfl (fun hn => ?_) (fun hn => ?_)
  · refine xv_m 3 rfl ?_
    exact xv_l he ⟨xk5 i, rfl, rfl, rfl, rfl, trivial⟩
  · refine xv_m 2 rfl ?_
    refine xv_lal 0 rfl rfl rfl (by omega) (by omega) ?_
    refine xv_m 3 rfl ?_
    refine xv_ei (show lg_cmp (f1 0) x.toInt64 = 0 by rw [ho (xcz (xe_ne hn) hc)]; exact xl_eq) ?_
    refine xv_bt rfl (by decide +kernel) ?_
    refine xv_m 3 rfl ?_
    exact xv_l he ⟨xk5 i, rfl, rfl, rfl, rfl, trivial⟩
set_option maxRecDepth 10000 in
theorem b_16 {i c : Nat} {x : Int32} (hL : L ≤ 2560) (hi : i + 5 ≤ L) {o : Outcome} {h' : List va_E} {k z k1 z1 : Nat} (hsw : xs i &&& nI 31 = nI 15) (hH : xv xm L xs 10 381 147 0 [(0, .ref 1), (1, .int (xs (i + 1))), (2, .ref 46)] [] (xC s ++ (xD r b ++ (xo f :: g))) (.returned (some (.int (nI c)))) (xC s1 ++ (xD r b ++ (xo f1 :: g1))) k1 z1) (hR : xv xm L xs 10 379 124 0 [(0, .ref 28), (1, .int (xs (i + 1)))] [] (xC s1 ++ (xD r b ++ (xo f1 :: g1))) (.returned (some (.int (x)))) (xC s1 ++ (xD r1 b1 ++ (xo f1 :: g1))) 0 0) (hc : c < 10) (hb : b1 0 0 = nI c) (ho : c = 0 → f1 0 = x.toInt64) (he : xv xm L xs 11 396 154 13 [(4, .int (nI (i + 5))), (0, .ref 0), (1, .ref 1), (2, .ref 28), (3, .ref 46)] [] (xC s1 ++ (xD r1 b1 ++ (xo f1 :: g1))) o h' k z) : xv xm L xs 11 396 154 13 [(4, .int (nI i)), (0, .ref 0), (1, .ref 1), (2, .ref 28), (3, .ref 46)] [] (xC s ++ (xD r b ++ (xo f :: g))) o h' (k1 + k) (z1 + z) := by
  refine xv_m 5 rfl ?_
  refine xv_ei (show nI L - nI 5 = nI (L - 5) from pk_sub (by omega)) ?_
  refine xv_bf rfl (xc_gtF (by omega) (by omega)) ?_
  refine xv_m 2 rfl ?_
  refine xv_sc (i) rfl (by first | rfl | (simp only [xa_c0, pk_mul, nI_add]; done) | (simp only [xa_c0, pk_mul, nI_add]; congr 1; omega)) (by omega) (by omega) ?_
  refine xv_m 2 rfl ?_
  refine xv_ei hsw ?_
  refine xv_bf (ip2 := 712) rfl (by decide +kernel) ?_
  refine xv_m 5 rfl ?_
  refine xv_sc (i + 1) rfl (by first | rfl | (simp only [xa_c0, pk_mul, nI_add]; done) | (simp only [xa_c0, pk_mul, nI_add]; congr 1; omega)) (by omega) (by omega) ?_
  refine xv_m 1 rfl ?_
  refine xv_c (r := 147) (nip := 720) (cost := 15) rfl (by omega) (by omega) (hH) ?_
  refine xv_m 6 rfl ?_
  refine xv_sc (i + 1) rfl (by first | rfl | (simp only [xa_c0, pk_mul, nI_add]; done) | (simp only [xa_c0, pk_mul, nI_add]; congr 1; omega)) (by omega) (by omega) ?_
  refine xv_c0 (r := 124) (nip := 728) (cost := 17) rfl (by omega) (by omega) (hR) ?_
  refine xv_m 2 rfl ?_
  refine xv_c0 (r := 96) (nip := 731) (cost := 12) rfl (by omega) (by omega) (m_96) ?_
  refine xv_ei hb ?_
  refine xv_m 1 rfl ?_
  refine xv_bt rfl (xc_eqT rfl) ?_
  refine xv_m 1 rfl ?_
  refine xv_b rfl (fun hn => ?_) (fun hn => ?_)
  · refine xv_m 3 rfl ?_
    exact xv_l he ⟨xk5 i, rfl, rfl, rfl, rfl, trivial⟩
  · refine xv_m 2 rfl ?_
    refine xv_lal 0 rfl rfl rfl (by omega) (by omega) ?_
    refine xv_m 3 rfl ?_
    refine xv_ei (show lg_cmp (f1 0) x.toInt64 = 0 by rw [ho (xcz (xe_ne hn) hc)]; exact xl_eq) ?_
    refine xv_bt rfl (by decide +kernel) ?_
    refine xv_m 3 rfl ?_
    exact xv_l he ⟨xk5 i, rfl, rfl, rfl, rfl, trivial⟩
set_option maxRecDepth 10000 in
theorem b_17 {i c : Nat} {x : Int32} (hL : L ≤ 2560) (hi : i + 5 ≤ L) {o : Outcome} {h' : List va_E} {k z k1 z1 : Nat} (hsw : xs i &&& nI 31 = nI 16) (hH : xv xm L xs 10 381 148 0 [(0, .ref 1), (1, .int (xs (i + 1))), (2, .ref 46)] [] (xC s ++ (xD r b ++ (xo f :: g))) (.returned (some (.int (nI c)))) (xC s1 ++ (xD r b ++ (xo f1 :: g1))) k1 z1) (hR : xv xm L xs 10 383 126 0 [(0, .ref 28), (1, .int (xs (i + 1)))] [] (xC s1 ++ (xD r b ++ (xo f1 :: g1))) (.returned (some (.int (x)))) (xC s1 ++ (xD r1 b1 ++ (xo f1 :: g1))) 0 0) (hc : c < 10) (hb : b1 0 0 = nI c) (ho : c = 0 → f1 0 = x.toInt64) (he : xv xm L xs 11 396 154 13 [(4, .int (nI (i + 5))), (0, .ref 0), (1, .ref 1), (2, .ref 28), (3, .ref 46)] [] (xC s1 ++ (xD r1 b1 ++ (xo f1 :: g1))) o h' k z) : xv xm L xs 11 396 154 13 [(4, .int (nI i)), (0, .ref 0), (1, .ref 1), (2, .ref 28), (3, .ref 46)] [] (xC s ++ (xD r b ++ (xo f :: g))) o h' (k1 + k) (z1 + z) := by
  refine xv_m 5 rfl ?_
  refine xv_ei (show nI L - nI 5 = nI (L - 5) from pk_sub (by omega)) ?_
  refine xv_bf rfl (xc_gtF (by omega) (by omega)) ?_
  refine xv_m 2 rfl ?_
  refine xv_sc (i) rfl (by first | rfl | (simp only [xa_c0, pk_mul, nI_add]; done) | (simp only [xa_c0, pk_mul, nI_add]; congr 1; omega)) (by omega) (by omega) ?_
  refine xv_m 2 rfl ?_
  refine xv_ei hsw ?_
  refine xv_bf (ip2 := 747) rfl (by decide +kernel) ?_
  refine xv_m 5 rfl ?_
  refine xv_sc (i + 1) rfl (by first | rfl | (simp only [xa_c0, pk_mul, nI_add]; done) | (simp only [xa_c0, pk_mul, nI_add]; congr 1; omega)) (by omega) (by omega) ?_
  refine xv_m 1 rfl ?_
  refine xv_c (r := 148) (nip := 755) (cost := 15) rfl (by omega) (by omega) (hH) ?_
  refine xv_m 6 rfl ?_
  refine xv_sc (i + 1) rfl (by first | rfl | (simp only [xa_c0, pk_mul, nI_add]; done) | (simp only [xa_c0, pk_mul, nI_add]; congr 1; omega)) (by omega) (by omega) ?_
  refine xv_c0 (r := 126) (nip := 763) (cost := 13) rfl (by omega) (by omega) (hR) ?_
  refine xv_m 2 rfl ?_
  refine xv_c0 (r := 96) (nip := 766) (cost := 12) rfl (by omega) (by omega) (m_96) ?_
  refine xv_ei hb ?_
  refine xv_m 1 rfl ?_
  refine xv_bt rfl (xc_eqT rfl) ?_
  refine xv_m 1 rfl ?_
  refine xv_b rfl (fun hn => ?_) (fun hn => ?_)
  · refine xv_m 3 rfl ?_
    exact xv_l he ⟨xk5 i, rfl, rfl, rfl, rfl, trivial⟩
  · refine xv_m 2 rfl ?_
    refine xv_lal 0 rfl rfl rfl (by omega) (by omega) ?_
    refine xv_m 3 rfl ?_
    refine xv_ei (show lg_cmp (f1 0) x.toInt64 = 0 by rw [ho (xcz (xe_ne hn) hc)]; exact xl_eq) ?_
    refine xv_bt rfl (by decide +kernel) ?_
    refine xv_m 3 rfl ?_
    exact xv_l he ⟨xk5 i, rfl, rfl, rfl, rfl, trivial⟩
set_option maxRecDepth 10000 in
theorem b_18 {i c : Nat} {x : Int32} (hL : L ≤ 2560) (hi : i + 5 ≤ L) {o : Outcome} {h' : List va_E} {k z k1 z1 : Nat} (hsw : xs i &&& nI 31 = nI 17) (hH : xv xm L xs 10 381 149 0 [(0, .ref 1), (1, .int (xs (i + 1))), (2, .ref 46)] [] (xC s ++ (xD r b ++ (xo f :: g))) (.returned (some (.int (nI c)))) (xC s1 ++ (xD r b ++ (xo f1 :: g1))) k1 z1) (hR : xv xm L xs 10 378 127 0 [(0, .ref 28), (1, .int (xs (i + 1)))] [] (xC s1 ++ (xD r b ++ (xo f1 :: g1))) (.returned (some (.int (x)))) (xC s1 ++ (xD r1 b1 ++ (xo f1 :: g1))) 0 0) (hc : c < 10) (hb : b1 0 0 = nI c) (ho : c = 0 → f1 0 = x.toInt64) (he : xv xm L xs 11 396 154 13 [(4, .int (nI (i + 5))), (0, .ref 0), (1, .ref 1), (2, .ref 28), (3, .ref 46)] [] (xC s1 ++ (xD r1 b1 ++ (xo f1 :: g1))) o h' k z) : xv xm L xs 11 396 154 13 [(4, .int (nI i)), (0, .ref 0), (1, .ref 1), (2, .ref 28), (3, .ref 46)] [] (xC s ++ (xD r b ++ (xo f :: g))) o h' (k1 + k) (z1 + z) := by
  refine xv_m 5 rfl ?_
  refine xv_ei (show nI L - nI 5 = nI (L - 5) from pk_sub (by omega)) ?_
  refine xv_bf rfl (xc_gtF (by omega) (by omega)) ?_
  refine xv_m 2 rfl ?_
  refine xv_sc (i) rfl (by first | rfl | (simp only [xa_c0, pk_mul, nI_add]; done) | (simp only [xa_c0, pk_mul, nI_add]; congr 1; omega)) (by omega) (by omega) ?_
  refine xv_m 2 rfl ?_
  refine xv_ei hsw ?_
  refine xv_bf (ip2 := 782) rfl (by decide +kernel) ?_
  refine xv_m 5 rfl ?_
  refine xv_sc (i + 1) rfl (by first | rfl | (simp only [xa_c0, pk_mul, nI_add]; done) | (simp only [xa_c0, pk_mul, nI_add]; congr 1; omega)) (by omega) (by omega) ?_
  refine xv_m 1 rfl ?_
  refine xv_c (r := 149) (nip := 790) (cost := 15) rfl (by omega) (by omega) (hH) ?_
  refine xv_m 6 rfl ?_
  refine xv_sc (i + 1) rfl (by first | rfl | (simp only [xa_c0, pk_mul, nI_add]; done) | (simp only [xa_c0, pk_mul, nI_add]; congr 1; omega)) (by omega) (by omega) ?_
  refine xv_c0 (r := 127) (nip := 798) (cost := 18) rfl (by omega) (by omega) (hR) ?_
  refine xv_m 2 rfl ?_
  refine xv_c0 (r := 96) (nip := 801) (cost := 12) rfl (by omega) (by omega) (m_96) ?_
  refine xv_ei hb ?_
  refine xv_m 1 rfl ?_
  refine xv_bt rfl (xc_eqT rfl) ?_
  refine xv_m 1 rfl ?_
  refine xv_b rfl (fun hn => ?_) (fun hn => ?_)
  · refine xv_m 3 rfl ?_
    exact xv_l he ⟨xk5 i, rfl, rfl, rfl, rfl, trivial⟩
  · refine xv_m 2 rfl ?_
    refine xv_lal 0 rfl rfl rfl (by omega) (by omega) ?_
    refine xv_m 3 rfl ?_
    refine xv_ei (show lg_cmp (f1 0) x.toInt64 = 0 by rw [ho (xcz (xe_ne hn) hc)]; exact xl_eq) ?_
    refine xv_bt rfl (by decide +kernel) ?_
    refine xv_m 3 rfl ?_
    exact xv_l he ⟨xk5 i, rfl, rfl, rfl, rfl, trivial⟩
set_option maxRecDepth 10000 in
theorem b_19 {i c : Nat} {x : Int32} (hL : L ≤ 2560) (hi : i + 5 ≤ L) {o : Outcome} {h' : List va_E} {k z k1 z1 : Nat} (hsw : xs i &&& nI 31 = nI 18) (hH : xv xm L xs 10 380 150 0 [(0, .ref 1), (1, .int (xs (i + 1))), (2, .int (xs (i + 2))), (3, .ref 46)] [] (xC s ++ (xD r b ++ (xo f :: g))) (.returned (some (.int (nI c)))) (xC s1 ++ (xD r b ++ (xo f1 :: g1))) k1 z1) (hR : xv xm L xs 10 380 128 0 [(0, .ref 28), (1, .int (xs (i + 1))), (2, .int (xs (i + 2)))] [] (xC s1 ++ (xD r b ++ (xo f1 :: g1))) (.returned (some (.int (x)))) (xC s1 ++ (xD r1 b1 ++ (xo f1 :: g1))) 0 0) (hc : c < 10) (hb : b1 0 0 = nI c) (ho : c = 0 → f1 0 = x.toInt64) (he : xv xm L xs 11 396 154 13 [(4, .int (nI (i + 5))), (0, .ref 0), (1, .ref 1), (2, .ref 28), (3, .ref 46)] [] (xC s1 ++ (xD r1 b1 ++ (xo f1 :: g1))) o h' k z) : xv xm L xs 11 396 154 13 [(4, .int (nI i)), (0, .ref 0), (1, .ref 1), (2, .ref 28), (3, .ref 46)] [] (xC s ++ (xD r b ++ (xo f :: g))) o h' (k1 + k) (z1 + z) := by
  refine xv_m 5 rfl ?_
  refine xv_ei (show nI L - nI 5 = nI (L - 5) from pk_sub (by omega)) ?_
  refine xv_bf rfl (xc_gtF (by omega) (by omega)) ?_
  refine xv_m 2 rfl ?_
  refine xv_sc (i) rfl (by first | rfl | (simp only [xa_c0, pk_mul, nI_add]; done) | (simp only [xa_c0, pk_mul, nI_add]; congr 1; omega)) (by omega) (by omega) ?_
  refine xv_m 2 rfl ?_
  refine xv_ei hsw ?_
  refine xv_bf (ip2 := 817) rfl (by decide +kernel) ?_
  refine xv_m 5 rfl ?_
  refine xv_sc (i + 1) rfl (by first | rfl | (simp only [xa_c0, pk_mul, nI_add]; done) | (simp only [xa_c0, pk_mul, nI_add]; congr 1; omega)) (by omega) (by omega) ?_
  refine xv_m 4 rfl ?_
  refine xv_sc (i + 2) rfl (by first | rfl | (simp only [xa_c0, pk_mul, nI_add]; done) | (simp only [xa_c0, pk_mul, nI_add]; congr 1; omega)) (by omega) (by omega) ?_
  refine xv_m 1 rfl ?_
  refine xv_c (r := 150) (nip := 830) (cost := 16) rfl (by omega) (by omega) (hH) ?_
  refine xv_m 6 rfl ?_
  refine xv_sc (i + 1) rfl (by first | rfl | (simp only [xa_c0, pk_mul, nI_add]; done) | (simp only [xa_c0, pk_mul, nI_add]; congr 1; omega)) (by omega) (by omega) ?_
  refine xv_m 4 rfl ?_
  refine xv_sc (i + 2) rfl (by first | rfl | (simp only [xa_c0, pk_mul, nI_add]; done) | (simp only [xa_c0, pk_mul, nI_add]; congr 1; omega)) (by omega) (by omega) ?_
  refine xv_c0 (r := 128) (nip := 843) (cost := 16) rfl (by omega) (by omega) (hR) ?_
  refine xv_m 2 rfl ?_
  refine xv_c0 (r := 96) (nip := 846) (cost := 12) rfl (by omega) (by omega) (m_96) ?_
  refine xv_ei hb ?_
  refine xv_m 1 rfl ?_
  refine xv_bt rfl (xc_eqT rfl) ?_
  refine xv_m 1 rfl ?_
  refine xv_b rfl (fun hn => ?_) (fun hn => ?_)
  · refine xv_m 3 rfl ?_
    exact xv_l he ⟨xk5 i, rfl, rfl, rfl, rfl, trivial⟩
  · refine xv_m 2 rfl ?_
    refine xv_lal 0 rfl rfl rfl (by omega) (by omega) ?_
    refine xv_m 3 rfl ?_
    refine xv_ei (show lg_cmp (f1 0) x.toInt64 = 0 by rw [ho (xcz (xe_ne hn) hc)]; exact xl_eq) ?_
    refine xv_bt rfl (by decide +kernel) ?_
    refine xv_m 3 rfl ?_
    exact xv_l he ⟨xk5 i, rfl, rfl, rfl, rfl, trivial⟩
set_option maxRecDepth 10000 in
theorem b_20 {i c : Nat} {x : Int64} (hL : L ≤ 2560) (hi : i + 5 ≤ L) {o : Outcome} {h' : List va_E} {k z k1 z1 : Nat} (hsw : xs i &&& nI 31 = nI 19) (hH : xv xm L xs 10 380 151 0 [(0, .ref 1), (1, .int (xs (i + 1))), (2, .int (xs (i + 2))), (3, .ref 46)] [] (xC s ++ (xD r b ++ (xo f :: g))) (.returned (some (.int (nI c)))) (xC s1 ++ (xD r b ++ (xo f1 :: g1))) k1 z1) (hR : xv xm L xs 10 371 129 0 [(0, .ref 28), (1, .int (xs (i + 1))), (2, .int (xs (i + 2)))] [] (xC s1 ++ (xD r b ++ (xo f1 :: g1))) (.returned (some (.long x))) (xC s1 ++ (xD r1 b1 ++ (xo f1 :: g1))) 0 0) (hc : c < 10) (hb : b1 0 0 = nI c) (ho : c = 0 → f1 0 = x) (he : xv xm L xs 11 396 154 13 [(4, .int (nI (i + 5))), (0, .ref 0), (1, .ref 1), (2, .ref 28), (3, .ref 46)] [] (xC s1 ++ (xD r1 b1 ++ (xo f1 :: g1))) o h' k z) : xv xm L xs 11 396 154 13 [(4, .int (nI i)), (0, .ref 0), (1, .ref 1), (2, .ref 28), (3, .ref 46)] [] (xC s ++ (xD r b ++ (xo f :: g))) o h' (k1 + k) (z1 + z) := by
  refine xv_m 5 rfl ?_
  refine xv_ei (show nI L - nI 5 = nI (L - 5) from pk_sub (by omega)) ?_
  refine xv_bf rfl (xc_gtF (by omega) (by omega)) ?_
  refine xv_m 2 rfl ?_
  refine xv_sc (i) rfl (by first | rfl | (simp only [xa_c0, pk_mul, nI_add]; done) | (simp only [xa_c0, pk_mul, nI_add]; congr 1; omega)) (by omega) (by omega) ?_
  refine xv_m 2 rfl ?_
  refine xv_ei hsw ?_
  refine xv_bf (ip2 := 862) rfl (by decide +kernel) ?_
  refine xv_m 5 rfl ?_
  refine xv_sc (i + 1) rfl (by first | rfl | (simp only [xa_c0, pk_mul, nI_add]; done) | (simp only [xa_c0, pk_mul, nI_add]; congr 1; omega)) (by omega) (by omega) ?_
  refine xv_m 4 rfl ?_
  refine xv_sc (i + 2) rfl (by first | rfl | (simp only [xa_c0, pk_mul, nI_add]; done) | (simp only [xa_c0, pk_mul, nI_add]; congr 1; omega)) (by omega) (by omega) ?_
  refine xv_m 1 rfl ?_
  refine xv_c (r := 151) (nip := 875) (cost := 16) rfl (by omega) (by omega) (hH) ?_
  refine xv_m 6 rfl ?_
  refine xv_sc (i + 1) rfl (by first | rfl | (simp only [xa_c0, pk_mul, nI_add]; done) | (simp only [xa_c0, pk_mul, nI_add]; congr 1; omega)) (by omega) (by omega) ?_
  refine xv_m 4 rfl ?_
  refine xv_sc (i + 2) rfl (by first | rfl | (simp only [xa_c0, pk_mul, nI_add]; done) | (simp only [xa_c0, pk_mul, nI_add]; congr 1; omega)) (by omega) (by omega) ?_
  refine xv_c0 (r := 129) (nip := 888) (cost := 25) rfl (by omega) (by omega) (hR) ?_
  refine xv_m 2 rfl ?_
  refine xv_c0 (r := 96) (nip := 891) (cost := 12) rfl (by omega) (by omega) (m_96) ?_
  refine xv_ei hb ?_
  refine xv_m 1 rfl ?_
  refine xv_bt rfl (xc_eqT rfl) ?_
  refine xv_m 1 rfl ?_
  refine xv_b rfl (fun hn => ?_) (fun hn => ?_)
  · refine xv_m 3 rfl ?_
    exact xv_l he ⟨xk5 i, rfl, rfl, rfl, rfl, trivial⟩
  · refine xv_m 2 rfl ?_
    refine xv_lal 0 rfl rfl rfl (by omega) (by omega) ?_
    refine xv_m 2 rfl ?_
    refine xv_ei (show lg_cmp (f1 0) x = 0 by rw [ho (xcz (xe_ne hn) hc)]; exact xl_eq) ?_
    refine xv_bt rfl (by decide +kernel) ?_
    refine xv_m 3 rfl ?_
    exact xv_l he ⟨xk5 i, rfl, rfl, rfl, rfl, trivial⟩
set_option maxRecDepth 10000 in
theorem b_21 {i c : Nat} {x : Int32} (hL : L ≤ 2560) (hi : i + 5 ≤ L) {o : Outcome} {h' : List va_E} {k z k1 z1 : Nat} (hsw : xs i &&& nI 31 = nI 20) (hH : xv xm L xs 10 380 152 0 [(0, .ref 1), (1, .int (xs (i + 1))), (2, .int (xs (i + 2))), (3, .ref 46)] [] (xC s ++ (xD r b ++ (xo f :: g))) (.returned (some (.int (nI c)))) (xC s1 ++ (xD r b ++ (xo f1 :: g1))) k1 z1) (hR : xv xm L xs 10 382 130 0 [(0, .ref 28), (1, .int (xs (i + 1))), (2, .int (xs (i + 2)))] [] (xC s1 ++ (xD r b ++ (xo f1 :: g1))) (.returned (some (.int (x)))) (xC s1 ++ (xD r1 b1 ++ (xo f1 :: g1))) 0 0) (hc : c < 10) (hb : b1 0 0 = nI c) (ho : c = 0 → f1 0 = x.toInt64) (he : xv xm L xs 11 396 154 13 [(4, .int (nI (i + 5))), (0, .ref 0), (1, .ref 1), (2, .ref 28), (3, .ref 46)] [] (xC s1 ++ (xD r1 b1 ++ (xo f1 :: g1))) o h' k z) : xv xm L xs 11 396 154 13 [(4, .int (nI i)), (0, .ref 0), (1, .ref 1), (2, .ref 28), (3, .ref 46)] [] (xC s ++ (xD r b ++ (xo f :: g))) o h' (k1 + k) (z1 + z) := by
  refine xv_m 5 rfl ?_
  refine xv_ei (show nI L - nI 5 = nI (L - 5) from pk_sub (by omega)) ?_
  refine xv_bf rfl (xc_gtF (by omega) (by omega)) ?_
  refine xv_m 2 rfl ?_
  refine xv_sc (i) rfl (by first | rfl | (simp only [xa_c0, pk_mul, nI_add]; done) | (simp only [xa_c0, pk_mul, nI_add]; congr 1; omega)) (by omega) (by omega) ?_
  refine xv_m 2 rfl ?_
  refine xv_ei hsw ?_
  refine xv_bf (ip2 := 906) rfl (by decide +kernel) ?_
  refine xv_m 5 rfl ?_
  refine xv_sc (i + 1) rfl (by first | rfl | (simp only [xa_c0, pk_mul, nI_add]; done) | (simp only [xa_c0, pk_mul, nI_add]; congr 1; omega)) (by omega) (by omega) ?_
  refine xv_m 4 rfl ?_
  refine xv_sc (i + 2) rfl (by first | rfl | (simp only [xa_c0, pk_mul, nI_add]; done) | (simp only [xa_c0, pk_mul, nI_add]; congr 1; omega)) (by omega) (by omega) ?_
  refine xv_m 1 rfl ?_
  refine xv_c (r := 152) (nip := 919) (cost := 16) rfl (by omega) (by omega) (hH) ?_
  refine xv_m 6 rfl ?_
  refine xv_sc (i + 1) rfl (by first | rfl | (simp only [xa_c0, pk_mul, nI_add]; done) | (simp only [xa_c0, pk_mul, nI_add]; congr 1; omega)) (by omega) (by omega) ?_
  refine xv_m 4 rfl ?_
  refine xv_sc (i + 2) rfl (by first | rfl | (simp only [xa_c0, pk_mul, nI_add]; done) | (simp only [xa_c0, pk_mul, nI_add]; congr 1; omega)) (by omega) (by omega) ?_
  refine xv_c0 (r := 130) (nip := 932) (cost := 14) rfl (by omega) (by omega) (hR) ?_
  refine xv_m 2 rfl ?_
  refine xv_c0 (r := 96) (nip := 935) (cost := 12) rfl (by omega) (by omega) (m_96) ?_
  refine xv_ei hb ?_
  refine xv_m 1 rfl ?_
  refine xv_bt rfl (xc_eqT rfl) ?_
  refine xv_m 1 rfl ?_
  refine xv_b rfl (fun hn => ?_) (fun hn => ?_)
  · refine xv_m 3 rfl ?_
    exact xv_l he ⟨xk5 i, rfl, rfl, rfl, rfl, trivial⟩
  · refine xv_m 2 rfl ?_
    refine xv_lal 0 rfl rfl rfl (by omega) (by omega) ?_
    refine xv_m 3 rfl ?_
    refine xv_ei (show lg_cmp (f1 0) x.toInt64 = 0 by rw [ho (xcz (xe_ne hn) hc)]; exact xl_eq) ?_
    refine xv_bt rfl (by decide +kernel) ?_
    refine xv_m 3 rfl ?_
    exact xv_l he ⟨xk5 i, rfl, rfl, rfl, rfl, trivial⟩
set_option maxRecDepth 10000 in
theorem b_22 {i c : Nat} {x : Int32} (hL : L ≤ 2560) (hi : i + 5 ≤ L) {o : Outcome} {h' : List va_E} {k z k1 z1 : Nat} (hsw : xs i &&& nI 31 = nI 21) (hH : xv xm L xs 10 381 153 0 [(0, .ref 1), (1, .int (xs (i + 1))), (2, .ref 46)] [] (xC s ++ (xD r b ++ (xo f :: g))) (.returned (some (.int (nI c)))) (xC s1 ++ (xD r b ++ (xo f1 :: g1))) k1 z1) (hR : xv xm L xs 10 381 131 0 [(0, .ref 28), (1, .int (xs (i + 1)))] [] (xC s1 ++ (xD r b ++ (xo f1 :: g1))) (.returned (some (.int (x)))) (xC s1 ++ (xD r1 b1 ++ (xo f1 :: g1))) 0 0) (hc : c < 10) (hb : b1 0 0 = nI c) (ho : c = 0 → f1 0 = x.toInt64) (he : xv xm L xs 11 396 154 13 [(4, .int (nI (i + 5))), (0, .ref 0), (1, .ref 1), (2, .ref 28), (3, .ref 46)] [] (xC s1 ++ (xD r1 b1 ++ (xo f1 :: g1))) o h' k z) : xv xm L xs 11 396 154 13 [(4, .int (nI i)), (0, .ref 0), (1, .ref 1), (2, .ref 28), (3, .ref 46)] [] (xC s ++ (xD r b ++ (xo f :: g))) o h' (k1 + k) (z1 + z) := by
  refine xv_m 5 rfl ?_
  refine xv_ei (show nI L - nI 5 = nI (L - 5) from pk_sub (by omega)) ?_
  refine xv_bf rfl (xc_gtF (by omega) (by omega)) ?_
  refine xv_m 2 rfl ?_
  refine xv_sc (i) rfl (by first | rfl | (simp only [xa_c0, pk_mul, nI_add]; done) | (simp only [xa_c0, pk_mul, nI_add]; congr 1; omega)) (by omega) (by omega) ?_
  refine xv_m 2 rfl ?_
  refine xv_ei hsw ?_
  refine xv_bf (ip2 := 951) rfl (by decide +kernel) ?_
  refine xv_m 5 rfl ?_
  refine xv_sc (i + 1) rfl (by first | rfl | (simp only [xa_c0, pk_mul, nI_add]; done) | (simp only [xa_c0, pk_mul, nI_add]; congr 1; omega)) (by omega) (by omega) ?_
  refine xv_m 1 rfl ?_
  refine xv_c (r := 153) (nip := 959) (cost := 15) rfl (by omega) (by omega) (hH) ?_
  refine xv_m 6 rfl ?_
  refine xv_sc (i + 1) rfl (by first | rfl | (simp only [xa_c0, pk_mul, nI_add]; done) | (simp only [xa_c0, pk_mul, nI_add]; congr 1; omega)) (by omega) (by omega) ?_
  refine xv_c0 (r := 131) (nip := 967) (cost := 15) rfl (by omega) (by omega) (hR) ?_
  refine xv_m 2 rfl ?_
  refine xv_c0 (r := 96) (nip := 970) (cost := 12) rfl (by omega) (by omega) (m_96) ?_
  refine xv_ei hb ?_
  refine xv_m 1 rfl ?_
  refine xv_bt rfl (xc_eqT rfl) ?_
  refine xv_m 1 rfl ?_
  refine xv_b rfl (fun hn => ?_) (fun hn => ?_)
  · refine xv_m 3 rfl ?_
    exact xv_l he ⟨xk5 i, rfl, rfl, rfl, rfl, trivial⟩
  · refine xv_m 2 rfl ?_
    refine xv_lal 0 rfl rfl rfl (by omega) (by omega) ?_
    refine xv_m 3 rfl ?_
    refine xv_ei (show lg_cmp (f1 0) x.toInt64 = 0 by rw [ho (xcz (xe_ne hn) hc)]; exact xl_eq) ?_
    refine xv_bt rfl (by decide +kernel) ?_
    refine xv_m 3 rfl ?_
    exact xv_l he ⟨xk5 i, rfl, rfl, rfl, rfl, trivial⟩
set_option maxRecDepth 10000 in
theorem b_d {i j : Nat} (hL : L ≤ 2560) (hi : i + 5 ≤ L) {o : Outcome} {h' : List va_E} {k z : Nat} (hsw : xs i &&& nI 31 = nI j) (hj : 21 < j) (hj2 : j < 32) (he : xv xm L xs 11 396 154 13 [(4, .int (nI (i + 5))), (0, .ref 0), (1, .ref 1), (2, .ref 28), (3, .ref 46)] [] (xC s ++ (xD r b ++ (xo f :: g))) o h' k z) : xv xm L xs 11 396 154 13 [(4, .int (nI i)), (0, .ref 0), (1, .ref 1), (2, .ref 28), (3, .ref 46)] [] (xC s ++ (xD r b ++ (xo f :: g))) o h' k z := by
  refine xv_m 5 rfl ?_
  refine xv_ei (show nI L - nI 5 = nI (L - 5) from pk_sub (by omega)) ?_
  refine xv_bf rfl (xc_gtF (by omega) (by omega)) ?_
  refine xv_m 2 rfl ?_
  refine xv_sc (i) rfl (by first | rfl | (simp only [xa_c0, pk_mul, nI_add]; done) | (simp only [xa_c0, pk_mul, nI_add]; congr 1; omega)) (by omega) (by omega) ?_
  refine xv_m 2 rfl ?_
  refine xv_ei hsw ?_
  refine xv_bt (ip1 := 986) rfl (xs_out (Or.inr (nI_lt hj (by omega)))) ?_
  refine xv_m 2 rfl ?_
  exact xv_l he ⟨xk5 i, rfl, rfl, rfl, rfl, trivial⟩
set_option maxRecDepth 10000 in
theorem b_e {i : Nat} (hL : L ≤ 2560) (hi : L < i + 5) (hi2 : i ≤ 2560) : xv xm L xs 11 396 154 13 [(4, .int (nI i)), (0, .ref 0), (1, .ref 1), (2, .ref 28), (3, .ref 46)] [] (xC s ++ (xD r b ++ (xo f :: g))) (.returned (some (.int (1)))) (xC s ++ (xD r b ++ (xo f :: g))) 0 0 := by
  have hlt : nI L - nI 5 < nI i := by
    rw [Int32.lt_iff_toInt_lt, pk_sub_toInt (by omega) (by omega), nI_toInt (by omega)]
    omega
  refine xv_m 5 rfl ?_
  refine xv_bt rfl (xd_gtT hlt) ?_
  refine xv_m 1 rfl ?_
  exact xv_rb xn_1 rfl
set_option maxRecDepth 10000 in
theorem b_0 {o : Outcome} {h' : List va_E} {k z : Nat} (he : xv xm L xs 11 396 154 13 [(4, .int (nI 0)), (0, .ref 0), (1, .ref 1), (2, .ref 28), (3, .ref 46)] [] (xC xI ++ (xD xI xJ ++ (xo ((fun _ => 0)) :: []))) o h' k z) : xv xm L xs 11 396 154 0 [(0, .ref 0)] [] [] o h' (46 + k) (17744 + z) := by
  refine xv_1e (45 + k) (17735 + z) (k1 := 1) (z1 := 9) rfl (by omega) (by omega) ?_
  refine xv_m 1 rfl ?_
  refine xv_ce (19 + k) (11338 + z) (r := 0) (nip := 3) (cost := 13) rfl (by omega) (by omega) (k_0 (by omega) (by omega)) (by omega) (by omega) ?_
  refine xv_m 1 rfl ?_
  refine xv_1e (18 + k) (11311 + z) (k1 := 1) (z1 := 27) rfl (by omega) (by omega) ?_
  refine xv_m 1 rfl ?_
  refine xv_ce (1 + k) (1 + z) (r := 95) (nip := 7) (cost := 13) rfl (by omega) (by omega) (k_95 (by omega) (by omega)) (by omega) (by omega) ?_
  refine xv_m 2 rfl ?_
  refine xv_nae 1 k z rfl rfl (by omega) rfl rfl ?_
  refine xv_m 3 rfl ?_
  refine xv_eh (h1 := xC xI ++ (xD xI xJ ++ (xo ((fun _ => 0)) :: []))) rfl ?_
  exact xv_l he ⟨rfl, rfl, rfl, rfl, rfl, trivial⟩
end XLA

section XDU
variable {L : Nat} {xs : Nat → Int32} {d w : Nat} {s : Nat → Nat → Int32} {g : List va_E}
theorem xv_cp {mt : Nat → xa_M} {y ip : Nat} {lv : List (Nat × Value)} {st : List Value} {h : List va_E} {o : Outcome} {h' : List va_E} {k z : Nat} {pc i len nip q : Nat} {ts : List Nat} {a m : Nat} {f : Nat → Int32} {x1 x2 x3 : Int32} (sp dp n : Nat) (h1' : List va_E) (hrow : (xa_rows (mt y))[ip]? = some (pc, .invokestatic i, len, nip, 1002, q, ts)) (hh : h[a]? = some (.inl (0, m, .inl f))) (hc : xa_cats st ≤ 8) (h1 : x1 = nI sp) (h2 : x2 = nI dp) (h3 : x3 = nI n) (hs : sp + n ≤ m) (hdp : dp + n ≤ m) (hm : m < 2 ^ 31) (hset : h.set a (.inl (0, m, .inl (va_cpy f f sp dp n))) = h1') (hdd : 1 ≤ d) (hww : 30 ≤ w) (he : xv mt L xs d w y nip lv st h1' o h' k z) : xv mt L xs d w y ip lv (.int x3 :: .int x2 :: .ref (a + 1) :: .int x1 :: .ref (a + 1) :: st) h o h' k z := by
  subst h1 h2 h3 hset
  refine xv_o ?_ hdd hww he
  unfold xa_o
  rw [hrow]
  show xa_ai h (a + 1) 0 (fun _ n0 f => xa_ai h (a + 1) 0 fun j n1 g => xa_if (Nat.ble (xa_cats st) 8 && !(decide (nI sp < 0)) && !(decide (nI dp < 0)) && !(decide (nI n < 0)) && decide ((nI sp).toNatClampNeg + (nI n).toNatClampNeg ≤ n0) && decide ((nI dp).toNatClampNeg + (nI n).toNatClampNeg ≤ n1)) (xa_go nip lv st (h.set j (.inl (0, n1, .inl (va_cpy f g (nI sp).toNatClampNeg (nI dp).toNatClampNeg (nI n).toNatClampNeg)))))) = _
  unfold xa_ai
  simp only [hh]
  show xa_if (Nat.ble (xa_cats st) 8 && !(decide (nI sp < 0)) && !(decide (nI dp < 0)) && !(decide (nI n < 0)) && decide ((nI sp).toNatClampNeg + (nI n).toNatClampNeg ≤ m) && decide ((nI dp).toNatClampNeg + (nI n).toNatClampNeg ≤ m)) _ = _
  rw [nI_clamp (n := sp) (by omega), nI_clamp (n := dp) (by omega), nI_clamp (n := n) (by omega), xa_ift]
  rw [decide_eq_false (nI_pos (n := sp) (by omega)), decide_eq_false (nI_pos (n := dp) (by omega)), decide_eq_false (nI_pos (n := n) (by omega)), decide_eq_true hs, decide_eq_true hdp, Nat.ble_eq_true_of_le hc]
  rfl
theorem m_90  : xv xm L xs d w 90 0 [(0, .ref 24)] [] (xC s ++ g) (.returned none) (xC (xu s 23 3 (nI 0)) ++ g) 0 0 := by
  refine xv_m 3 (h1 := xC (xu s 23 3 (nI 0)) ++ g) rfl ?_
  exact xv_r rfl
theorem m_93 {x y : Int32} {j : Nat} (hj : j < 300) (hd : 1 ≤ d) (hw : 15 ≤ w) : xv xm L xs d w 93 0 [(0, .ref 24), (1, .int (x)), (2, .int (y)), (3, .int (nI j))] [] (xC s ++ g) (.returned (some (.int (xB (f_blw x y (s 25 j) (s 26 j)))))) (xC s ++ g) 0 0 := by
  refine xv_m 5 rfl ?_
  refine xv_ia (_) rfl rfl rfl (by omega) (by omega) ?_
  refine xv_m 3 rfl ?_
  refine xv_ia (_) rfl rfl rfl (by omega) (by omega) ?_
  refine xv_c0 (r := 30) (nip := 11) (cost := 15) rfl (by omega) (by omega) (m_30) ?_
  exact xv_rb (xn_B _) rfl
def f_jv : Nat → Nat
  | 0 => 0
  | e + 1 => 2 ^ e
theorem f_jv_half : ∀ e, 2 ^ e / 2 = f_jv e
  | 0 => rfl
  | e + 1 => by show 2 ^ (e + 1) / 2 = 2 ^ e; rw [Nat.pow_succ]; omega
def f_pl (B : Nat → Bool) (m : Nat) : Nat → Nat → Nat
  | 0, p => p
  | e + 1, p => f_pl B m e (bif Nat.ble (p + 2 ^ e) m && !(B (p + 2 ^ e - 1)) then p + 2 ^ e else p)
theorem f_pl_t {B : Nat → Bool} {m e p : Nat} (h1 : p + 2 ^ e ≤ m) (h2 : B (p + 2 ^ e - 1) = false) : f_pl B m (e + 1) p = f_pl B m e (p + 2 ^ e) := by show f_pl B m e (bif Nat.ble (p + 2 ^ e) m && !(B (p + 2 ^ e - 1)) then p + 2 ^ e else p) = _; rw [h2, Nat.ble_eq_true_of_le h1]; rfl
theorem f_pl_f {B : Nat → Bool} {m e p : Nat} (h2 : B (p + 2 ^ e - 1) = true) : f_pl B m (e + 1) p = f_pl B m e p := by show f_pl B m e (bif Nat.ble (p + 2 ^ e) m && !(B (p + 2 ^ e - 1)) then p + 2 ^ e else p) = _; rw [h2, show (!true) = false from rfl, Bool.and_false]; rfl
theorem f_pl_n {B : Nat → Bool} {m e p : Nat} (h1 : ¬ p + 2 ^ e ≤ m) : f_pl B m (e + 1) p = f_pl B m e p := by
  show f_pl B m e (bif Nat.ble (p + 2 ^ e) m && !(B (p + 2 ^ e - 1)) then p + 2 ^ e else p) = _
  cases hb : Nat.ble (p + 2 ^ e) m with
  | true => exact absurd (Nat.le_of_ble_eq_true hb) h1
  | false => rfl
theorem f_pl_le {B : Nat → Bool} {m : Nat} : ∀ e p, p ≤ m → f_pl B m e p ≤ m
  | 0, _, h => h
  | e + 1, p, h => by
    show f_pl B m e (bif Nat.ble (p + 2 ^ e) m && !(B (p + 2 ^ e - 1)) then p + 2 ^ e else p) ≤ m
    refine f_pl_le e _ ?_
    cases hb : Nat.ble (p + 2 ^ e) m with
    | true =>
      cases B (p + 2 ^ e - 1)
      · exact Nat.le_of_ble_eq_true hb
      · exact h
    | false => exact h
theorem f_pl_cg {B C : Nat → Bool} {m : Nat} (hB : ∀ i, i < m → B i = C i) : ∀ e p, f_pl B m e p = f_pl C m e p
  | 0, _ => rfl
  | e + 1, p => by
    have hp : 0 < 2 ^ e := Nat.pos_of_ne_zero (fun h => by simp at h)
    by_cases h1 : p + 2 ^ e ≤ m
    · have h2 := hB (p + 2 ^ e - 1) (by omega)
      cases hb : B (p + 2 ^ e - 1) with
      | true => rw [f_pl_f hb, f_pl_f (h2 ▸ hb)]; exact f_pl_cg hB e p
      | false => rw [f_pl_t h1 hb, f_pl_t h1 (h2 ▸ hb)]; exact f_pl_cg hB e _
    · rw [f_pl_n h1, f_pl_n h1]; exact f_pl_cg hB e p
theorem l_92 {m : Nat} {f : Nat → Nat} (hm : m ≤ 300) (hSm : s 23 3 = nI m) (hS : ∀ i, i < m → s 24 i = nI (f i)) (hf : ∀ i, i < m → f i < 300) {x y : Int32} (hd : 2 ≤ d) (hw : 30 ≤ w) : ∀ e p, e ≤ 9 → p ≤ m → xv xm L xs d w 92 4 [(4, .int (nI (f_jv e))), (3, .int (nI p)), (0, .ref 24), (1, .int x), (2, .int y)] [] (xC s ++ g) (.returned (some (.int (nI (f_pl (fun i => f_blw x y (s 25 (f i)) (s 26 (f i))) m e p))))) (xC s ++ g) 0 0
  | 0, p, he, hp => by
    refine xv_m 1 rfl ?_
    refine xv_bt rfl (by decide +kernel) ?_
    refine xv_m 1 rfl ?_
    exact xv_r rfl
  | e + 1, p, he, hp => by
    have h2 : 2 ^ e ≤ 2 ^ 8 := Nat.pow_le_pow_right (by omega) (by omega)
    have h3 : 0 < 2 ^ e := Nat.pos_of_ne_zero (fun h => by simp at h)
    have h4 : (2 : Nat) ^ 8 = 256 := rfl
    by_cases hb : p + 2 ^ e ≤ m
    · refine xv_m 1 rfl ?_
      refine xv_bf rfl (xc_leF (a := 2 ^ e) (b := 0) (by omega) (by omega)) ?_
      refine xv_m 3 rfl ?_
      refine xv_ei (show nI p + nI (2 ^ e) = nI (p + 2 ^ e) from nI_add _ _) ?_
      refine xv_m 2 rfl ?_
      refine xv_ei hSm ?_
      refine xv_bf rfl (xc_gtF (by omega) (by omega)) ?_
      refine xv_m 10 rfl ?_
      refine xv_ia (p + 2 ^ e - 1) rfl rfl (show nI p + nI (2 ^ e) - nI 1 = nI (p + 2 ^ e - 1) by rw [nI_add, pk_sub (by omega)]) (by omega) (by omega) ?_
      refine xv_ei (hS _ (by omega)) ?_
      refine xv_c0 (r := 93) (nip := 24) (cost := 15) rfl (by omega) (by omega) (m_93 (hf _ (by omega)) (hd := by omega) (hw := by omega)) ?_
      refine xv_b rfl (fun hc => ?_) (fun hc => ?_)
      · rw [f_pl_f (B := (fun i => f_blw x y (s 25 (f i)) (s 26 (f i)))) (xB_nt hc)]
        refine xv_m 2 rfl ?_
        refine xv_idv rfl (show nI (2 ^ e) / nI 2 = nI (f_jv e) by rw [pk_div (by omega) (by omega) (by omega), f_jv_half]) (by decide +kernel) ?_
        refine xv_m 2 rfl ?_
        exact xv_l (l_92 hm hSm hS hf hd hw e p (by omega) (by omega)) ⟨rfl, rfl, rfl, rfl, rfl, trivial⟩
      · rw [f_pl_t (B := (fun i => f_blw x y (s 25 (f i)) (s 26 (f i)))) hb (xB_nf hc)]
        refine xv_m 3 rfl ?_
        refine xv_ei (show nI p + nI (2 ^ e) = nI (p + 2 ^ e) from nI_add _ _) ?_
        refine xv_m 3 rfl ?_
        refine xv_idv rfl (show nI (2 ^ e) / nI 2 = nI (f_jv e) by rw [pk_div (by omega) (by omega) (by omega), f_jv_half]) (by decide +kernel) ?_
        refine xv_m 2 rfl ?_
        exact xv_l (l_92 hm hSm hS hf hd hw e (p + 2 ^ e) (by omega) (by omega)) ⟨rfl, rfl, rfl, rfl, rfl, trivial⟩
    · refine xv_m 1 rfl ?_
      refine xv_bf rfl (xc_leF (a := 2 ^ e) (b := 0) (by omega) (by omega)) ?_
      refine xv_m 3 rfl ?_
      refine xv_ei (show nI p + nI (2 ^ e) = nI (p + 2 ^ e) from nI_add _ _) ?_
      refine xv_m 2 rfl ?_
      refine xv_ei hSm ?_
      refine xv_bt rfl (xc_gtT (by omega) (by omega)) ?_
      rw [f_pl_n hb]
      refine xv_m 2 rfl ?_
      refine xv_idv rfl (show nI (2 ^ e) / nI 2 = nI (f_jv e) by rw [pk_div (by omega) (by omega) (by omega), f_jv_half]) (by decide +kernel) ?_
      refine xv_m 2 rfl ?_
      exact xv_l (l_92 hm hSm hS hf hd hw e p (by omega) (by omega)) ⟨rfl, rfl, rfl, rfl, rfl, trivial⟩
theorem m_92 {m : Nat} {f : Nat → Nat} (hm : m ≤ 300) (hSm : s 23 3 = nI m) (hS : ∀ i, i < m → s 24 i = nI (f i)) (hf : ∀ i, i < m → f i < 300) {x y : Int32} (hd : 2 ≤ d) (hw : 30 ≤ w) : xv xm L xs d w 92 0 [(0, .ref 24), (1, .int (x)), (2, .int (y))] [] (xC s ++ g) (.returned (some (.int (nI (f_pl (fun i => f_blw x y (s 25 (f i)) (s 26 (f i))) m 9 0))))) (xC s ++ g) 0 0 := by
  refine xv_m 4 rfl ?_
  exact xv_l (l_92 hm hSm hS hf hd hw 9 0 (by omega) (by omega)) ⟨rfl, rfl, rfl, rfl, rfl, trivial⟩
def f_in1 (s : Nat → Nat → Int32) (m v r : Nat) (x y : Int32) (p : Nat) : Nat → Nat → Int32 := xu (xu (xw (xu (xu s 25 (10 * v + r) x) 26 (10 * v + r) y) 24 (va_cpy (s 24) (s 24) p (p + 1) (m - p))) 24 p (nI (10 * v + r))) 23 3 (nI (m + 1))
theorem m_91 {m : Nat} {f : Nat → Nat} (hm : m < 300) (hSm : s 23 3 = nI m) (hS : ∀ i, i < m → s 24 i = nI (f i)) (hf : ∀ i, i < m → f i < 300) {v r : Nat} (hv : v < 30) (hr : r < 10) {x y : Int32} {p : Nat} (hp : (f_pl (fun i => f_blw x y (s 25 (f i)) (s 26 (f i))) m 9 0) = p) (hd : 3 ≤ d) (hw : 46 ≤ w) : xv xm L xs d w 91 0 [(0, .ref 24), (1, .int (nI v)), (2, .int (nI r)), (3, .int (x)), (4, .int (y))] [] (xC s ++ g) (.returned none) (xC (f_in1 s m v r x y p) ++ g) 0 0 := by
  refine xv_m 5 rfl ?_
  refine xv_ei (show nI v * nI 10 + nI r = nI (10 * v + r) by rw [pk_mul, nI_add]; congr 1; omega) ?_
  refine xv_m 4 rfl ?_
  refine xv_c0 (r := 92) (nip := 10) (cost := 16) rfl (by omega) (by omega) (m_92 (by omega) hSm hS hf (hd := by omega) (hw := by omega)) ?_
  rw [hp]
  refine xv_m 5 rfl ?_
  refine xv_ias (10 * v + r) (xC (xu s 25 (10 * v + r) x) ++ g) rfl rfl (by first | rfl | (simp only [xa_c0, pk_mul, nI_add]; done) | (simp only [xa_c0, pk_mul, nI_add]; congr 1; omega)) (by omega) (by omega) rfl ?_
  refine xv_m 4 rfl ?_
  refine xv_ias (10 * v + r) (xC (xu (xu s 25 (10 * v + r) x) 26 (10 * v + r) y) ++ g) rfl rfl (by first | rfl | (simp only [xa_c0, pk_mul, nI_add]; done) | (simp only [xa_c0, pk_mul, nI_add]; congr 1; omega)) (by omega) (by omega) rfl ?_
  refine xv_m 12 rfl ?_
  have hpm : p ≤ m := hp ▸ f_pl_le 9 0 (Nat.zero_le m)
  refine xv_cp p (p + 1) (m - p) (xC (xw (xu (xu s 25 (10 * v + r) x) 26 (10 * v + r) y) 24 (va_cpy (s 24) (s 24) p (p + 1) (m - p))) ++ g) rfl rfl (show xa_cats ([] : List Value) ≤ 8 by decide +kernel) rfl (show nI p + nI 1 = nI (p + 1) from nI_add _ _) (show s 23 3 - nI p = nI (m - p) by rw [hSm, pk_sub hpm]) (by omega) (by omega) (by omega) rfl (by omega) (by omega) ?_
  refine xv_m 4 rfl ?_
  refine xv_ias (p) (xC (xu (xw (xu (xu s 25 (10 * v + r) x) 26 (10 * v + r) y) 24 (va_cpy (s 24) (s 24) p (p + 1) (m - p))) 24 p (nI (10 * v + r))) ++ g) rfl rfl (by first | rfl | (simp only [xa_c0, pk_mul, nI_add]; done) | (simp only [xa_c0, pk_mul, nI_add]; congr 1; omega)) (by omega) (by omega) rfl ?_
  refine xv_m 5 rfl ?_
  refine xv_ei (show s 23 3 + nI 1 = nI (m + 1) by rw [hSm, nI_add]) ?_
  refine xv_m 1 (h1 := xC (f_in1 s m v r x y p) ++ g) rfl ?_
  exact xv_r rfl
theorem xgetD {l : List Nat} {i : Nat} (hi : i < l.length) : l.getD i 0 = l[i] := by unfold List.getD; rw [List.getElem?_eq_getElem hi]; rfl
def f_rst (s : Nat → Nat → Int32) (j : Nat) : Int32 := f_left s (j / 10) (j % 10) (f_least s (j / 10) (j % 10))
def f_itv (s : Nat → Nat → Int32) (j : Nat) : Int32 := s 10 (3 * (j % 10) + f_least s (j / 10) (j % 10))
def f_bfr (s : Nat → Nat → Int32) (j i : Nat) : Bool := f_blw (f_rst s j) (f_itv s j) (f_rst s i) (f_itv s i)
def f_plc (s : Nat → Nat → Int32) (j : Nat) (l : List Nat) : Nat := f_pl (fun i => f_bfr s j (l.getD i 0)) l.length 9 0
def f_ins (s : Nat → Nat → Int32) (j : Nat) (l : List Nat) : List Nat := l.take (f_plc s j l) ++ j :: l.drop (f_plc s j l)
def f_lr (s : Nat → Nat → Int32) (v : Nat) : Nat → Nat → List Nat → List Nat
  | 0, _, l => l
  | n + 1, r, l => f_lr s v n (r + 1) (bif xa_cmp .gt (f_rst s (10 * v + r)) 0 then l else f_ins s (10 * v + r) l)
def f_lvv (s : Nat → Nat → Int32) (R : Nat) : Nat → Nat → List Nat → List Nat
  | 0, _, l => l
  | n + 1, v, l => f_lvv s R n (v + 1) (f_lr s v R 0 l)
def f_DI (s0 s : Nat → Nat → Int32) (l : List Nat) : Prop := (∀ c, c < 23 → s c = s0 c) ∧ s 23 3 = nI l.length ∧ (∀ i (hi : i < l.length), s 24 i = nI l[i]) ∧ ∀ j ∈ l, j < 300 ∧ s 25 j = f_rst s0 j ∧ s 26 j = f_itv s0 j
theorem f_ag {s0 s : Nat → Nat → Int32} (h : ∀ c, c < 23 → s c = s0 c) (v r : Nat) : f_least s v r = f_least s0 v r ∧ ∀ k, f_left s v r k = f_left s0 v r k := by
  have h1 : ∀ v r k, f_left s v r k = f_left s0 v r k := by
    intro v r k
    unfold f_left
    rw [h 10 (by omega), h 11 (by omega)]
    congr 2
    unfold f_now
    split
    · rw [h 4 (by omega)]
    · rw [h 5 (by omega)]
    · rw [h 0 (by omega)]
  have h2 : ∀ k l, f_lc s v r k l = f_lc s0 v r k l := by
    intro k l
    unfold f_lc
    rw [h 10 (by omega), h1, h1]
  have h3 : ∀ n k l, f_lst s v r n k l = f_lst s0 v r n k l := by
    intro n
    induction n with
    | zero => intro k l; rfl
    | succ n ih =>
      intro k l
      show f_lst s v r n (k + 1) (bif f_lc s v r k l then k else l) = f_lst s0 v r n (k + 1) (bif f_lc s0 v r k l then k else l)
      rw [h2, ih]
  exact ⟨h3 2 1 0, h1 v r⟩
theorem f_lst_lt : ∀ n k l v r, k + n = 3 → l < 3 → f_lst s v r n k l < 3
  | 0, _, _, _, _, _, h => h
  | n + 1, k, l, v, r, hk, h => by
    show f_lst s v r n (k + 1) (bif f_lc s v r k l then k else l) < 3
    refine f_lst_lt n (k + 1) _ v r (by omega) ?_
    cases f_lc s v r k l
    · exact h
    · show k < 3
      omega
theorem f_least_lt (v r : Nat) : f_least s v r < 3 := f_lst_lt 2 1 0 v r rfl (by omega)
theorem f_DI_ins {s0 : Nat → Nat → Int32} {l : List Nat} (h : f_DI s0 s l) {v r : Nat} (hr : r < 10) (hv : v < 30) (hl : ∀ i ∈ l, i < 10 * v + r) (p : Nat) (hp : p ≤ l.length) {x y : Int32} (hx : x = f_rst s0 (10 * v + r)) (hy : y = f_itv s0 (10 * v + r)) : f_DI s0 (f_in1 s l.length v r x y p) (l.take p ++ (10 * v + r) :: l.drop p) := by
  obtain ⟨h1, h2, h3, h4⟩ := h
  have hlen : (l.take p ++ (10 * v + r) :: l.drop p).length = l.length + 1 := by
    rw [List.length_append, List.length_cons, List.length_take, List.length_drop]
    omega
  refine ⟨fun c hc => ?_, ?_, ?_, ?_⟩
  · have e1 : Nat.beq c 23 = false := by rw [← Bool.not_eq_true]; intro e; have := Nat.eq_of_beq_eq_true e; omega
    have e2 : Nat.beq c 24 = false := by rw [← Bool.not_eq_true]; intro e; have := Nat.eq_of_beq_eq_true e; omega
    have e3 : Nat.beq c 25 = false := by rw [← Bool.not_eq_true]; intro e; have := Nat.eq_of_beq_eq_true e; omega
    have e4 : Nat.beq c 26 = false := by rw [← Bool.not_eq_true]; intro e; have := Nat.eq_of_beq_eq_true e; omega
    unfold f_in1 xu xw
    simp only [e1, e2, e3, e4, cond_false]
    exact h1 c hc
  · rw [hlen]; rfl
  · intro i hi
    rw [hlen] at hi
    show upd (va_cpy (s 24) (s 24) p (p + 1) (l.length - p)) p (nI (10 * v + r)) i = _
    by_cases hip : i = p
    · subst hip
      rw [upd_at]
      congr 1
      rw [List.getElem_append_right (by rw [List.length_take]; omega)]
      simp only [List.length_take, Nat.min_eq_left hp, Nat.sub_self]
      rfl
    · rw [upd_ne _ _ hip]
      unfold va_cpy
      by_cases hlt : i < p
      · rw [if_neg (by omega), h3 i (by omega)]
        congr 1
        rw [List.getElem_append_left (by rw [List.length_take]; omega), List.getElem_take]
      · rw [if_pos (by omega), h3 (p + (i - (p + 1))) (by omega)]
        congr 1
        rw [List.getElem_append_right (by rw [List.length_take]; omega)]
        have e : i - (l.take p).length = (i - p - 1) + 1 := by rw [List.length_take, Nat.min_eq_left hp]; omega
        simp only [e, List.getElem_cons_succ, List.getElem_drop]
        congr 1
        try omega
  · intro j hj
    have hj2 : j = 10 * v + r ∨ j ∈ l := by
      rcases List.mem_append.mp hj with h | h
      · exact Or.inr (List.mem_of_mem_take h)
      · rcases List.mem_cons.mp h with h | h
        · exact Or.inl h
        · exact Or.inr (List.mem_of_mem_drop h)
    rcases hj2 with rfl | hj2
    · refine ⟨by omega, ?_, ?_⟩
      · show upd (s 25) (10 * v + r) x (10 * v + r) = _
        rw [upd_at, hx]
      · show upd (s 26) (10 * v + r) y (10 * v + r) = _
        rw [upd_at, hy]
    · have hlt := hl j hj2
      obtain ⟨a1, a2, a3⟩ := h4 j hj2
      refine ⟨a1, ?_, ?_⟩
      · show upd (s 25) (10 * v + r) x j = _
        rw [upd_ne _ _ (by omega), a2]
      · show upd (s 26) (10 * v + r) y j = _
        rw [upd_ne _ _ (by omega), a3]
theorem l_31r {s0 : Nat → Nat → Int32} {R v : Nat} (hR : R ≤ 10) (hSR : s0 9 2 = nI R) (hv : v < 30) (hd : 4 ≤ d) (hw : 64 ≤ w) : ∀ n r (s : Nat → Nat → Int32) (l : List Nat), r + n = R → f_DI s0 s l → (∀ i ∈ l, i < 10 * v + r) → l.length ≤ 10 * v + r → ∃ s', f_DI s0 s' (f_lr s0 v n r l) ∧ (∀ i ∈ f_lr s0 v n r l, i < 10 * v + R) ∧ (f_lr s0 v n r l).length ≤ 10 * v + R ∧ ∀ {o : Outcome} {h' : List va_E} {k z : Nat}, xv xm L xs d w 31 43 [(1, .int (nI v)), (0, .ref 1)] [] (xC s' ++ g) o h' k z → xv xm L xs d w 31 12 [(2, .int (nI r)), (1, .int (nI v)), (0, .ref 1)] [] (xC s ++ g) o h' k z
  | 0, r, s, l, hk, hI, h1, h2 => by
    have hk : r = R := hk
    subst hk
    refine ⟨s, hI, h1, h2, fun he => ?_⟩
    refine xv_m 3 rfl ?_
    refine xv_c0 (r := 55) (nip := 16) (cost := 13) rfl (by omega) (by omega) (m_55) ?_
    refine xv_ei (show s 9 2 = nI r by rw [hI.1 9 (by omega), hSR]) ?_
    refine xv_bt rfl (xc_geT (by omega) (by omega)) ?_
    exact xv_l he ⟨rfl, rfl, trivial⟩
  | n + 1, r, s, l, hk, hI, h1, h2 => by
    have hr : r < 10 := by omega
    have e1 := (f_ag hI.1 v r).1
    have e2 := (f_ag hI.1 v r).2
    have e3 : (10 * v + r) / 10 = v := by omega
    have e4 : (10 * v + r) % 10 = r := by omega
    have hlt : f_least s0 v r < 3 := f_least_lt v r
    have ex : f_left s v r (f_least s0 v r) = f_rst s0 (10 * v + r) := by unfold f_rst; rw [e3, e4, e2]
    have ey : s 10 (3 * r + f_least s0 v r) = f_itv s0 (10 * v + r) := by unfold f_itv; rw [e3, e4, hI.1 10 (by omega)]
    cases hb : xa_cmp .gt (f_rst s0 (10 * v + r)) 0 with
    | true =>
      obtain ⟨s', i1, i2, i3, i4⟩ := l_31r hR hSR hv hd hw n (r + 1) s l (by omega) hI (fun i hi => Nat.lt_succ_of_lt (h1 i hi)) (by omega)
      have e : f_lr s0 v (n + 1) r l = f_lr s0 v n (r + 1) l := by
        show f_lr s0 v n (r + 1) (bif xa_cmp .gt (f_rst s0 (10 * v + r)) 0 then l else f_ins s0 (10 * v + r) l) = _
        rw [hb]; rfl
      rw [e]
      refine ⟨s', i1, i2, i3, fun he => ?_⟩
      refine xv_m 3 rfl ?_
      refine xv_c0 (r := 55) (nip := 16) (cost := 13) rfl (by omega) (by omega) (m_55) ?_
      refine xv_ei (show s 9 2 = nI R by rw [hI.1 9 (by omega), hSR]) ?_
      refine xv_bf rfl (xc_geF (by omega) (by omega)) ?_
      refine xv_m 3 rfl ?_
      refine xv_c0 (r := 29) (nip := 21) (cost := 16) rfl (by omega) (by omega) (m_29 (s := s) hv hr (hd := by omega) (hw := by omega)) ?_
      rw [e1]
      refine xv_m 5 rfl ?_
      refine xv_c0 (r := 28) (nip := 27) (cost := 16) rfl (by omega) (by omega) (m_28 (s := s) hv hr hlt (hd := by omega) (hw := by omega)) ?_
      rw [ex]
      refine xv_m 2 rfl ?_
      refine xv_bt rfl (hb) ?_
      refine xv_m 2 rfl ?_
      exact xv_l (i4 he) ⟨xk r, rfl, rfl, trivial⟩
    | false =>
      have hins := f_DI_ins hI hr hv h1 (f_plc s0 (10 * v + r) l) (f_pl_le 9 0 (Nat.zero_le _)) (x := f_rst s0 (10 * v + r)) (y := f_itv s0 (10 * v + r)) rfl rfl
      have e : f_lr s0 v (n + 1) r l = f_lr s0 v n (r + 1) (f_ins s0 (10 * v + r) l) := by
        show f_lr s0 v n (r + 1) (bif xa_cmp .gt (f_rst s0 (10 * v + r)) 0 then l else f_ins s0 (10 * v + r) l) = _
        rw [hb]; rfl
      have hmem : ∀ i ∈ f_ins s0 (10 * v + r) l, i < 10 * v + (r + 1) := by
        intro i hi
        rcases List.mem_append.mp hi with h | h
        · have := h1 i (List.mem_of_mem_take h); omega
        · rcases List.mem_cons.mp h with h | h
          · omega
          · have := h1 i (List.mem_of_mem_drop h); omega
      have hlen : (f_ins s0 (10 * v + r) l).length ≤ 10 * v + (r + 1) := by
        unfold f_ins
        rw [List.length_append, List.length_cons, List.length_take, List.length_drop]
        omega
      obtain ⟨s', i1, i2, i3, i4⟩ := l_31r hR hSR hv hd hw n (r + 1) _ _ (by omega) hins hmem hlen
      rw [e]
      refine ⟨s', i1, i2, i3, fun he => ?_⟩
      have hpl : f_pl (fun i => f_blw (f_rst s0 (10 * v + r)) (f_itv s0 (10 * v + r)) (s 25 (l.getD i 0)) (s 26 (l.getD i 0))) l.length 9 0 = f_plc s0 (10 * v + r) l := by
        unfold f_plc
        refine f_pl_cg (fun i hi => ?_) 9 0
        have hm : l.getD i 0 ∈ l := by rw [xgetD hi]; exact List.getElem_mem hi
        obtain ⟨-, a2, a3⟩ := hI.2.2.2 _ hm
        show f_blw _ _ _ _ = f_bfr s0 _ _
        unfold f_bfr
        rw [a2, a3]
      refine xv_m 3 rfl ?_
      refine xv_c0 (r := 55) (nip := 16) (cost := 13) rfl (by omega) (by omega) (m_55) ?_
      refine xv_ei (show s 9 2 = nI R by rw [hI.1 9 (by omega), hSR]) ?_
      refine xv_bf rfl (xc_geF (by omega) (by omega)) ?_
      refine xv_m 3 rfl ?_
      refine xv_c0 (r := 29) (nip := 21) (cost := 16) rfl (by omega) (by omega) (m_29 (s := s) hv hr (hd := by omega) (hw := by omega)) ?_
      rw [e1]
      refine xv_m 5 rfl ?_
      refine xv_c0 (r := 28) (nip := 27) (cost := 16) rfl (by omega) (by omega) (m_28 (s := s) hv hr hlt (hd := by omega) (hw := by omega)) ?_
      rw [ex]
      refine xv_m 2 rfl ?_
      refine xv_bf rfl (hb) ?_
      refine xv_m 9 rfl ?_
      refine xv_c0 (r := 58) (nip := 40) (cost := 18) rfl (by omega) (by omega) (m_58 (s := s) hr hlt) ?_
      rw [ey]
      refine xv_c0 (r := 91) (nip := 41) (cost := 18) rfl (by omega) (by omega) (m_91 (s := s) (m := l.length) (f := fun i => l.getD i 0) (by omega) hI.2.1 (fun i hi => by rw [hI.2.2.1 i hi, xgetD hi]) (fun i hi => (hI.2.2.2 _ (by rw [xgetD hi]; exact List.getElem_mem hi)).1) hv hr hpl (hd := by omega) (hw := by omega)) ?_
      refine xv_m 2 rfl ?_
      exact xv_l (i4 he) ⟨xk r, rfl, rfl, trivial⟩
theorem l_31 {s0 : Nat → Nat → Int32} {V R : Nat} (hV : V ≤ 30) (hSV : s0 1 7 = nI V) (hR : R ≤ 10) (hSR : s0 9 2 = nI R) (hd : 4 ≤ d) (hw : 64 ≤ w) : ∀ n v (s : Nat → Nat → Int32) (l : List Nat), v + n = V → f_DI s0 s l → (∀ i ∈ l, i < 10 * v) → l.length ≤ 10 * v → ∃ s', f_DI s0 s' (f_lvv s0 R n v l) ∧ (f_lvv s0 R n v l).length ≤ 300 ∧ xv xm L xs d w 31 5 [(1, .int (nI v)), (0, .ref 1)] [] (xC s ++ g) (.returned none) (xC s' ++ g) 0 0
  | 0, v, s, l, hk, hI, h1, h2 => by
    have hk : v = V := hk
    subst hk
    refine ⟨s, hI, (by show l.length ≤ 300; omega), ?_⟩
    refine xv_m 3 rfl ?_
    refine xv_c0 (r := 41) (nip := 9) (cost := 13) rfl (by omega) (by omega) (m_41) ?_
    refine xv_ei (show s 1 7 = nI v by rw [hI.1 1 (by omega), hSV]) ?_
    refine xv_bt rfl (xc_geT (by omega) (by omega)) ?_
    exact xv_r rfl
  | n + 1, v, s, l, hk, hI, h1, h2 => by
    obtain ⟨s1, i1, i2, i3, i4⟩ := l_31r (L := L) (xs := xs) (g := g) (v := v) hR hSR (by omega) hd hw R 0 s l (Nat.zero_add R) hI h1 h2
    obtain ⟨s', j1, j2, j3⟩ := l_31 hV hSV hR hSR hd hw n (v + 1) s1 _ (by omega) i1 (fun i hi => by have := i2 i hi; omega) (by omega)
    refine ⟨s', j1, j2, ?_⟩
    refine xv_m 3 rfl ?_
    refine xv_c0 (r := 41) (nip := 9) (cost := 13) rfl (by omega) (by omega) (m_41) ?_
    refine xv_ei (show s 1 7 = nI V by rw [hI.1 1 (by omega), hSV]) ?_
    refine xv_bf rfl (xc_geF (by omega) (by omega)) ?_
    refine xv_m 2 rfl ?_
    refine xv_l (i4 ?_) ⟨rfl, rfl, rfl, trivial⟩
    refine xv_m 2 rfl ?_
    exact xv_l j3 ⟨xk v, rfl, trivial⟩
theorem f_DI_0 : f_DI s (xu s 23 3 (nI 0)) [] := by
  refine ⟨fun c hc => ?_, rfl, fun i hi => absurd hi (Nat.not_lt_zero i), fun j hj => nomatch hj⟩
  have e1 : Nat.beq c 23 = false := by rw [← Bool.not_eq_true]; intro e; have := Nat.eq_of_beq_eq_true e; omega
  unfold xu
  simp only [e1, cond_false]
theorem m_31 {V R : Nat} (hV : V ≤ 30) (hSV : s 1 7 = nI V) (hR : R ≤ 10) (hSR : s 9 2 = nI R) (hd : 4 ≤ d) (hw : 64 ≤ w) : ∃ s', f_DI s s' (f_lvv s R V 0 []) ∧ (f_lvv s R V 0 []).length ≤ 300 ∧ xv xm L xs d w 31 0 [(0, .ref 1)] [] (xC s ++ g) (.returned none) (xC s' ++ g) 0 0 := by
  obtain ⟨s', h1, h2, h3⟩ := l_31 (L := L) (xs := xs) (g := g) hV hSV hR hSR hd hw V 0 _ [] (Nat.zero_add V) f_DI_0 (fun i hi => nomatch hi) (Nat.zero_le _)
  refine ⟨s', h1, h2, ?_⟩
  refine xv_m 2 rfl ?_
  refine xv_c0 (r := 90) (nip := 3) (cost := 12) rfl (by omega) (by omega) (m_90) ?_
  refine xv_m 2 rfl ?_
  exact xv_l h3 ⟨rfl, rfl, trivial⟩
def f_row (l : List Nat) (j : Nat) : Int32 := match l[j]? with
  | some x => nI (100 * (x / 10) + x % 10)
  | none => xa_con 1 1
theorem m_94 {s0 : Nat → Nat → Int32} {l : List Nat} (hI : f_DI s0 s l) (hl : l.length ≤ 300) {j : Nat} (hj : j < 2 ^ 31) : xv xm L xs d w 94 0 [(0, .ref 24), (1, .int (nI j))] [] (xC s ++ g) (.returned (some (.int (f_row l j)))) (xC s ++ g) 0 0 := by
  by_cases h : j < l.length
  · have hx : l[j] < 300 := (hI.2.2.2 _ (List.getElem_mem h)).1
    have e : f_row l j = nI (100 * (l[j] / 10) + l[j] % 10) := by unfold f_row; rw [List.getElem?_eq_getElem h]
    rw [e]
    refine xv_m 3 rfl ?_
    refine xv_ei hI.2.1 ?_
    refine xv_bt rfl (xc_ltT h (by omega)) ?_
    refine xv_m 4 rfl ?_
    refine xv_ia (_) rfl rfl rfl (by omega) (by omega) ?_
    refine xv_ei (hI.2.2.1 j h) ?_
    refine xv_m 1 rfl ?_
    refine xv_idv rfl (pk_div (by omega) (by omega) (by omega)) (by decide +kernel) ?_
    refine xv_m 4 rfl ?_
    refine xv_ia (_) rfl rfl rfl (by omega) (by omega) ?_
    refine xv_ei (hI.2.2.1 j h) ?_
    refine xv_m 1 rfl ?_
    refine xv_irm rfl (pk_rem (by omega) (by omega) (by omega)) (by decide +kernel) ?_
    refine xv_m 1 rfl ?_
    exact xv_rn (by simp only [xa_c0, pk_mul, nI_add]) rfl
  · have e : f_row l j = xa_con 1 1 := by unfold f_row; rw [List.getElem?_eq_none (by omega)]
    rw [e]
    refine xv_m 3 rfl ?_
    refine xv_ei hI.2.1 ?_
    refine xv_bf rfl (xc_ltF (by omega) hj) ?_
    refine xv_m 1 rfl ?_
    exact xv_r rfl
theorem c_7 {V R : Nat} (hV : V ≤ 30) (hSV : s 1 7 = nI V) (hR : R ≤ 10) (hSR : s 9 2 = nI R) {j : Nat} (hj : j < 2 ^ 31) (hd : 6 ≤ d) (hw : 100 ≤ w) : ∃ s', (∀ c, c < 23 → s' c = s c) ∧ xv xm L xs d w 7 0 [(0, .ref 1), (1, .int (nI j))] [] (xC s ++ g) (.returned (some (.int (f_row (f_lvv s R V 0 []) j)))) (xC s' ++ g) 0 0 := by
  obtain ⟨s', h1, h2, h3⟩ := m_31 (L := L) (xs := xs) (g := g) (d := d - 1) (w := w - 16) hV hSV hR hSR (by omega) (by omega)
  refine ⟨s', h1.1, ?_⟩
  refine xv_m 1 rfl ?_
  refine xv_bt rfl (xd_geT (nI_pos' hj)) ?_
  refine xv_m 1 rfl ?_
  refine xv_c0 (r := 31) (nip := 5) (cost := 16) rfl (by omega) (by omega) h3 ?_
  refine xv_m 3 rfl ?_
  refine xv_c0 (r := 94) (nip := 9) (cost := 13) rfl (by omega) (by omega) (m_94 h1 h2 hj) ?_
  exact xv_r rfl
theorem c_7a {x : Int32} (h0 : x < 0) (hd : 6 ≤ d) (hw : 100 ≤ w) : xv xm L xs d w 7 0 [(0, .ref 1), (1, .int (x))] [] (xC s ++ g) (.threw ((xC s ++ g).length + 1)) ((xC s ++ g) ++ [.inr (8, [])]) 1 6 := by
  refine xv_m 1 rfl ?_
  refine xv_bf rfl (xd_geF h0) ?_
  exact xv_t rfl (by omega) (by omega)
end XDU

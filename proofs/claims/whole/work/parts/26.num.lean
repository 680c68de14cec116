def xr (x : Int32) (N : Nat) : Prop := ∃ n, n ≤ N ∧ x = nI n
theorem xr_of {x : Int32} {N : Nat} (hN : N < 2 ^ 31) (h0 : nI 0 ≤ x) (h1 : x ≤ nI N) : xr x N :=
  nI_of2 (nI_toInt hN) (by rw [← nI_0]; exact xi_nlt h0) h1
theorem xr_0 (N : Nat) : xr 0 N := ⟨0, Nat.zero_le _, nI_0.symm⟩
theorem xr_up {f : Nat → Int32} {N j : Nat} {x : Int32} (h : ∀ i, xr (f i) N) (hx : xr x N) : ∀ i, xr (upd f j x i) N := by
  intro i
  unfold upd
  split
  · exact hx
  · exact h i
theorem xr_mo {x : Int32} {N M : Nat} (h : xr x N) (hM : N ≤ M) : xr x M := by
  obtain ⟨n, h1, h2⟩ := h
  exact ⟨n, by omega, h2⟩
theorem xr_t {x : Int32} {N : Nat} (h : xr x N) (hN : N < 2 ^ 31) : 0 ≤ x.toInt ∧ x.toInt ≤ (N : Int) := by
  obtain ⟨n, h1, rfl⟩ := h
  rw [nI_toInt (by omega)]
  omega
theorem ti_sub {x y : Int32} {a b : Int} (hx : x.toInt = a) (hy : y.toInt = b) (h1 : -2000000000 ≤ a - b) (h2 : a - b ≤ 2000000000) : (x - y).toInt = a - b := by
  rw [Int32.toInt_sub, hx, hy]
  exact Int.bmod_eq_of_le (by omega) (by omega)
theorem ti_add {x y : Int32} {a b : Int} (hx : x.toInt = a) (hy : y.toInt = b) (h1 : -2000000000 ≤ a + b) (h2 : a + b ≤ 2000000000) : (x + y).toInt = a + b := by
  rw [Int32.toInt_add, hx, hy]
  exact Int.bmod_eq_of_le (by omega) (by omega)
theorem ti_mul {x y : Int32} {a b : Int} (hx : x.toInt = a) (hy : y.toInt = b) (h1 : -2000000000 ≤ a * b) (h2 : a * b ≤ 2000000000) : (x * y).toInt = a * b := by
  rw [Int32.toInt_mul, hx, hy]
  exact Int.bmod_eq_of_le (by omega) (by omega)
theorem ti_neg {x : Int32} {a : Int} (hx : x.toInt = a) (h1 : -2000000000 ≤ a) (h2 : a ≤ 2000000000) : (-x).toInt = -a := by
  rw [Int32.toInt_neg, hx]
  exact Int.bmod_eq_of_le (by omega) (by omega)
theorem ti_ab (a : Int32) : a.toInt.natAbs ≤ 2 ^ 31 := by
  have h1 := a.toInt_lt
  have h2 := a.le_toInt
  omega
theorem ti_m64 (a b : Int32) : (a.toInt64 * b.toInt64).toInt = a.toInt * b.toInt := by
  rw [Int64.toInt_mul, Int32.toInt_toInt64, Int32.toInt_toInt64]
  have h1 : (a.toInt * b.toInt).natAbs ≤ 2 ^ 31 * 2 ^ 31 := by
    rw [Int.natAbs_mul]
    exact Nat.mul_le_mul (ti_ab a) (ti_ab b)
  generalize a.toInt * b.toInt = t at h1
  exact Int.bmod_eq_of_le (by omega) (by omega)
theorem blw_i (a b c e : Int32) : f_blw a b c e = decide (a.toInt * e.toInt < c.toInt * b.toInt) := by
  unfold f_blw
  show (!decide ((0 : Int32) ≤ lg_cmp (a.toInt64 * e.toInt64) (c.toInt64 * b.toInt64))) = _
  rw [← decide_not]
  apply decide_eq_decide.mpr
  rw [lg_cmp_ge, Int64.le_iff_toInt_le, ti_m64, ti_m64]
  exact Int.not_le
theorem f_gcd_eq : ∀ e n a b, b < 2 ^ e → 2 * e ≤ n → f_gcd n a b = Nat.gcd a b
  | 0, n, a, b, hb, hn => by
    have hb : b = 0 := by
      have : (2 : Nat) ^ 0 = 1 := rfl
      omega
    subst hb
    cases n with
    | zero => exact (Nat.gcd_zero_right a).symm
    | succ n => exact (Nat.gcd_zero_right a).symm
  | e + 1, n, a, b, hb, hn => by
    obtain ⟨m, rfl⟩ : ∃ m, n = m + 2 := ⟨n - 2, by omega⟩
    have e1 : Nat.gcd a b = Nat.gcd (a % b) b := by rw [Nat.gcd_comm, Nat.gcd_rec]
    by_cases h0 : b = 0
    · subst h0
      exact (Nat.gcd_zero_right a).symm
    · have hb0 : Nat.beq b 0 = false := by
        cases b with
        | zero => exact absurd rfl h0
        | succ b => rfl
      show (bif Nat.beq b 0 then a else f_gcd (m + 1) b (a % b)) = _
      rw [hb0]
      show (bif Nat.beq (a % b) 0 then b else f_gcd m (a % b) (b % (a % b))) = _
      by_cases h1 : a % b = 0
      · rw [e1, h1, Nat.gcd_zero_left]
        rfl
      · have hc0 : Nat.beq (a % b) 0 = false := by
          generalize a % b = c at h1
          cases c with
          | zero => exact absurd rfl h1
          | succ b => rfl
        rw [hc0]
        show f_gcd m (a % b) (b % (a % b)) = _
        have h2 : a % b < b := Nat.mod_lt _ (by omega)
        have h3 : b % (a % b) < a % b := Nat.mod_lt _ (by omega)
        have h4 : a % b * (b / (a % b)) + b % (a % b) = b := Nat.div_add_mod b (a % b)
        have h5 : 0 < b / (a % b) := Nat.div_pos (by omega) (by omega)
        have h6 : a % b ≤ a % b * (b / (a % b)) := Nat.le_mul_of_pos_right _ h5
        have h7 : 2 ^ (e + 1) = 2 ^ e * 2 := Nat.pow_succ _ _
        rw [f_gcd_eq e m (a % b) (b % (a % b)) (by omega) (by omega), e1, Nat.gcd_rec (a % b) b, Nat.gcd_comm]
theorem xcnt_cg {p q : Nat → Bool} : ∀ n k c, (∀ i, k ≤ i → i < k + n → p i = q i) → xcnt p n k c = xcnt q n k c
  | 0, _, _, _ => rfl
  | n + 1, k, c, h => by
    show xcnt p n (k + 1) (bif p k then c + xa_con 1 0 else c) = xcnt q n (k + 1) (bif q k then c + xa_con 1 0 else c)
    rw [h k (Nat.le_refl _) (by omega)]
    exact xcnt_cg n (k + 1) _ (fun i h1 h2 => h i (by omega) (by omega))
theorem xcnt_add {p : Nat → Bool} {x : Int32} : ∀ n k c, xcnt p n k (c + x) = xcnt p n k c + x
  | 0, _, _ => rfl
  | n + 1, k, c => by
    show xcnt p n (k + 1) (bif p k then c + x + xa_con 1 0 else c + x) = xcnt p n (k + 1) (bif p k then c + xa_con 1 0 else c) + x
    rw [← xcnt_add n (k + 1)]
    cases p k
    · rfl
    · show xcnt p n (k + 1) (c + x + xa_con 1 0) = xcnt p n (k + 1) (c + xa_con 1 0 + x)
      rw [Int32.add_assoc, Int32.add_comm x, ← Int32.add_assoc]
theorem xcnt_one {p q : Nat → Bool} {k0 : Nat} (hp : p k0 = false) (hq : q k0 = true) (hne : ∀ i, ¬ i = k0 → p i = q i) : ∀ n k c, k ≤ k0 → k0 < k + n → xcnt q n k c = xcnt p n k c + nI 1
  | 0, _, _, h1, h2 => by omega
  | n + 1, k, c, h1, h2 => by
    show xcnt q n (k + 1) (bif q k then c + xa_con 1 0 else c) = xcnt p n (k + 1) (bif p k then c + xa_con 1 0 else c) + nI 1
    by_cases h : k = k0
    · subst h
      rw [hp, hq]
      show xcnt q n (k + 1) (c + nI 1) = xcnt p n (k + 1) c + nI 1
      rw [← xcnt_add n (k + 1)]
      exact (xcnt_cg n (k + 1) _ (fun i h3 h4 => hne i (by omega))).symm
    · rw [hne k h]
      exact xcnt_one hp hq hne n (k + 1) _ (by omega) (by omega)
def ncnt (p : Nat → Bool) : Nat → Nat → Nat
  | 0, _ => 0
  | n + 1, k => (bif p k then 1 else 0) + ncnt p n (k + 1)
theorem xcnt_n {p : Nat → Bool} : ∀ n k c, xcnt p n k (nI c) = nI (c + ncnt p n k)
  | 0, _, _ => rfl
  | n + 1, k, c => by
    show xcnt p n (k + 1) (bif p k then nI c + nI 1 else nI c) = nI (c + ((bif p k then 1 else 0) + ncnt p n (k + 1)))
    cases p k
    · show xcnt p n (k + 1) (nI c) = nI (c + (0 + ncnt p n (k + 1)))
      rw [xcnt_n n (k + 1) c, Nat.zero_add]
    · show xcnt p n (k + 1) (nI c + nI 1) = nI (c + (1 + ncnt p n (k + 1)))
      rw [nI_add, xcnt_n n (k + 1) (c + 1), Nat.add_assoc]
theorem xany_cg {p q : Nat → Bool} : ∀ n k, (∀ i, k ≤ i → i < k + n → p i = q i) → xany p n k = xany q n k
  | 0, _, _ => rfl
  | n + 1, k, h => by
    show (p k || xany p n (k + 1)) = (q k || xany q n (k + 1))
    rw [h k (Nat.le_refl _) (by omega), xany_cg n (k + 1) (fun i h1 h2 => h i (by omega) (by omega))]
theorem xfo_cg {F G : Nat → (Nat → Int32) → Nat → Int32} {f : Nat → Int32} : ∀ n, (∀ k, k < n → ∀ g, F k g = G k g) → xfo F f n = xfo G f n
  | 0, _ => rfl
  | n + 1, h => by
    show F n (xfo F f n) = G n (xfo G f n)
    rw [xfo_cg n (fun k hk => h k (by omega)), h n (by omega)]
theorem xfo_inv {F : Nat → (Nat → Int32) → Nat → Int32} {f : Nat → Int32} {P : (Nat → Int32) → Prop} (h0 : P f) (hs : ∀ k g, P g → P (F k g)) : ∀ n, P (xfo F f n)
  | 0 => h0
  | n + 1 => hs n _ (xfo_inv h0 hs n)
theorem f_rol_no {p : Nat → Bool} : ∀ n k a, (∀ i, k ≤ i → i < k + n → p i = false) → f_rol p n k a = a
  | 0, _, _, _ => rfl
  | n + 1, k, a, h => by
    show f_rol p n (k + 1) (bif p k then some k else a) = a
    rw [h k (Nat.le_refl _) (by omega)]
    exact f_rol_no n (k + 1) a (fun i h1 h2 => h i (by omega) (by omega))
theorem f_rol_fst {p q : Nat → Bool} : ∀ n k, (∀ i, k ≤ i → i < k + n → p i = q i) → (∀ i j, k ≤ i → i < k + n → k ≤ j → j < k + n → p i = true → p j = true → i = j) → xO (f_rol q n k none) = xfst p n k
  | 0, _, _, _ => rfl
  | n + 1, k, h, hu => by
    show xO (f_rol q n (k + 1) (bif q k then some k else none)) = (bif p k then nI k else xfst p n (k + 1))
    have e := h k (Nat.le_refl _) (by omega)
    cases hp : p k with
    | true =>
      rw [← e, hp]
      show xO (f_rol q n (k + 1) (some k)) = nI k
      rw [f_rol_no n (k + 1) (some k) ?_]
      · rfl
      · intro i h1 h2
        rw [← h i (by omega) (by omega)]
        cases hi : p i with
        | false => rfl
        | true =>
          have := hu k i (Nat.le_refl _) (by omega) (by omega) (by omega) hp hi
          omega
    | false =>
      rw [← e, hp]
      exact f_rol_fst n (k + 1) (fun i h1 h2 => h i (by omega) (by omega)) (fun i j h1 h2 h3 h4 => hu i j (by omega) (by omega) (by omega) (by omega))
theorem f_rol_lt {p : Nat → Bool} : ∀ n k a, (∀ j, a = some j → j < k) → ∀ j, f_rol p n k a = some j → j < k + n
  | 0, k, a, h, j, hj => by
    have := h j hj
    omega
  | n + 1, k, a, h, j, hj => by
    have h1 : f_rol p n (k + 1) (bif p k then some k else a) = some j := hj
    have := f_rol_lt n (k + 1) _ ?_ j h1
    · omega
    · intro i hi
      cases hp : p k with
      | true =>
        rw [hp] at hi
        have : k = i := Option.some.inj hi
        omega
      | false =>
        rw [hp] at hi
        have := h i hi
        omega
theorem xO_neg {a : Option Nat} (h : ∀ j, a = some j → j < 2 ^ 31) : xa_cmp .lt (xO a) 0 = xa_cmp .eq (xO a) (xa_con 1 1) := by
  cases a with
  | none => decide +kernel
  | some j =>
    have hj := h j rfl
    show decide (nI j < 0) = decide (nI j = xa_con 1 1)
    rw [decide_eq_false (nI_pos hj), decide_eq_false]
    intro e
    have e2 := congrArg Int32.toInt e
    rw [nI_toInt hj, show (xa_con 1 1).toInt = -1 by decide +kernel] at e2
    omega
theorem by_le {x : Int32} {N : Nat} (h : xr x N) (hN : N < 2 ^ 31) : (!(xa_cmp .le x 0)) = !(xa_cmp .eq x 0) := by
  obtain ⟨n, hn, rfl⟩ := h
  show (!decide (nI n ≤ 0)) = !decide (nI n = 0)
  by_cases h0 : n = 0
  · subst h0
    decide +kernel
  · rw [decide_eq_false (nI_nle (by omega) (by omega)), decide_eq_false (nI_ne0 (by omega) (by omega))]
theorem by_lg {x : Int32} {N : Nat} (h : xr x N) (hN : N < 2 ^ 31) : (!(xa_cmp .le (lg_cmp x.toInt64 (lN 0)) 0)) = !(xa_cmp .eq x 0) := by
  rw [← by_le h hN]
  show (!decide (lg_cmp x.toInt64 (lN 0) ≤ 0)) = !decide (x ≤ 0)
  congr 1
  apply decide_eq_decide.mpr
  rw [lg_cmp_le, Int64.le_iff_toInt_le, Int32.le_iff_toInt_le, Int32.toInt_toInt64, pk_lT (by omega), show (0 : Int32).toInt = 0 by decide +kernel]
  exact Iff.rfl
def f_rg (s : Nat → Nat → Int32) : Prop := (∀ i, xr (s 4 i) 1000000) ∧ (∀ i, xr (s 5 i) 1000000) ∧ xr (s 0 5) 99999 ∧ (∀ i, xr (s 10 i) 100000) ∧ ∀ i, xr (s 11 i) 1000000
theorem f_rg_now {s : Nat → Nat → Int32} (h : f_rg s) (v k : Nat) : xr (f_now s v k) 1000000 := by
  unfold f_now
  split
  · exact h.1 v
  · exact h.2.1 v
  · exact xr_mo h.2.2.1 (by omega)
theorem f_rg_left {s : Nat → Nat → Int32} (h : f_rg s) (v r k : Nat) : -2000000 ≤ (f_left s v r k).toInt ∧ (f_left s v r k).toInt ≤ 2000000 := by
  have h1 := xr_t (f_rg_now h v k) (by omega)
  have h2 := xr_t (h.2.2.2.2 (30 * v + 3 * r + k)) (by omega)
  have h3 := xr_t (h.2.2.2.1 (3 * r + k)) (by omega)
  have h4 := ti_sub (x := f_now s v k) (y := s 11 (30 * v + 3 * r + k)) rfl rfl (by omega) (by omega)
  have h5 := ti_sub (x := s 10 (3 * r + k)) rfl h4 (by omega) (by omega)
  unfold f_left
  rw [h5]
  omega
theorem f_ovr_eq {s : Nat → Nat → Int32} (h : f_rg s) (v r k : Nat) : f_rov s v r k = f_ovr s v r k := by
  unfold f_rov f_ovr f_by
  rw [by_le (h.2.2.2.1 (3 * r + k)) (by omega)]
  congr 1
  show (!decide (0 < lg_cmp (lN 10 * (f_left s v r k).toInt64) (-(s 10 (3 * r + k))).toInt64)) = !decide (-(s 10 (3 * r + k)) < nI 10 * f_left s v r k)
  congr 1
  apply decide_eq_decide.mpr
  have h1 := f_rg_left h v r k
  rw [lg_cmp_gt, Int64.lt_iff_toInt_lt, Int32.lt_iff_toInt_lt, ← nI_l (n := 10) (by omega), ti_m64, Int32.toInt_toInt64, ti_mul (x := nI 10) (y := f_left s v r k) (nI_toInt (by omega)) rfl (by omega) (by omega), nI_toInt (by omega)]
theorem f_rrs_eq {s b : Nat → Nat → Int32} (h : f_rg s) {R D O v : Nat} (hO : O ≤ 60) (he : xO (f_rol (f_ro (s 18) (b 1) (nI v)) O 0 none) = xfst (f_opn (s 19) (s 18) (nI v)) O 0) : f_rrs s b R D O v = f_rsn s R D O v := by
  unfold f_rrs f_rsn
  rw [xO_neg (fun j hj => by have := f_rol_lt O 0 none (fun i hi => by cases hi) j hj; omega), he]
  rw [show xany (f_rvd s v) R 0 = xany (f_ovd s v) R 0 from xany_cg R 0 (fun r _ _ => by
    unfold f_rvd f_ovd
    exact xany_cg 3 0 (fun k _ _ => f_ovr_eq h v r k))]
theorem f_rsn_c (s : Nat → Nat → Int32) (R D O v : Nat) : xr (f_rsn s R D O v) 5 := by
  unfold f_rsn
  cases xany (f_sev (s 13) (s 14) (s 15) (nI v)) D 0
  · cases !(xa_cmp .lt (xcnt (f_sml (s 13) (s 14) (s 15) (nI v)) D 0 (nI 0)) (s 0 7))
    · cases xany (f_past (s 7) (s 0 5) v) 5 0
      · cases !(xa_cmp .eq (xfst (f_opn (s 19) (s 18) (nI v)) O 0) (xa_con 1 1))
        · cases xany (f_ovd s v) R 0
          · exact ⟨0, by omega, rfl⟩
          · exact ⟨5, by omega, rfl⟩
        · exact ⟨4, by omega, rfl⟩
      · exact ⟨3, by omega, rfl⟩
    · exact ⟨2, by omega, rfl⟩
  · exact ⟨1, by omega, rfl⟩
theorem f_bar_eq {s b : Nat → Nat → Int32} {R D O v : Nat} (h : f_rrs s b R D O v = f_rsn s R D O v) : f_rbr s b R D O v = f_bar s R D O v := by
  unfold f_rbr f_bar
  rw [h]
  exact by_le (f_rsn_c s R D O v) (by omega)
def f_nr (c a b : Int32) : Bool := xa_cmp .lt (xa_abs (a - c)) (xa_abs (b - c)) || (!(xa_cmp .ne (xa_abs (a - c)) (xa_abs (b - c))) && !(xa_cmp .ge a b))
theorem f_nr_all : ∀ a, a < 10 → ∀ b, b < 10 → ∀ c, c < 10 → f_nr (nI c) (nI a) (nI b) = !(xa_cmp .ge (f_far (nI a - nI c)) (f_far (nI b - nI c))) := by decide +kernel
theorem f_nr_1 : ∀ a, a < 10 → ∀ c, c < 10 → (!(xa_cmp .ge (f_far (nI a - nI c)) (nI 1000))) = true := by decide +kernel
def f_spd (s : Nat → Nat → Int32) (v : Nat) : Option Nat → Int32
  | none => nI 1000
  | some j => f_far (s 2 j - s 2 v)
theorem f_spn_eq {s : Nat → Nat → Int32} (h : ∀ i, xr (s 2 i) 9) (v k : Nat) (a : Option Nat) : f_spn s v k a = !(xa_cmp .ge (f_far (s 2 k - s 2 v)) (f_spd s v a)) := by
  obtain ⟨x, hx, ex⟩ := h k
  obtain ⟨y, hy, ey⟩ := h v
  cases a with
  | none =>
    show true = !(xa_cmp .ge (f_far (s 2 k - s 2 v)) (nI 1000))
    rw [ex, ey, f_nr_1 x (by omega) y (by omega)]
  | some j =>
    obtain ⟨z, hz, ez⟩ := h j
    show f_nr (s 2 v) (s 2 k) (s 2 j) = !(xa_cmp .ge (f_far (s 2 k - s 2 v)) (f_far (s 2 j - s 2 v)))
    rw [ex, ey, ez, f_nr_all x (by omega) z (by omega) y (by omega)]
theorem f_rsp_eq {s b : Nat → Nat → Int32} (h : ∀ i, xr (s 2 i) 9) {R D O v V : Nat} (hr : ∀ k, k < V → f_rrs s b R D O k = f_rsn s R D O k) : ∀ n k a, k + n = V → f_rsp s b R D O v n k a (f_spd s v a) = f_spr s R D O v n k a
  | 0, _, _, _ => rfl
  | n + 1, k, a, hk => by
    have e : f_rsc s b R D O v k (f_spd s v a) = f_spc s R D O v k a := by
      unfold f_rsc f_spc
      rw [hr k (by omega), f_spn_eq h, Bool.and_comm (!(xa_cmp .ne (f_rsn s R D O k) 0))]
    show f_rsp s b R D O v n (k + 1) (bif f_rsc s b R D O v k (f_spd s v a) then some k else a) (bif f_rsc s b R D O v k (f_spd s v a) then f_far (s 2 k - s 2 v) else f_spd s v a) = f_spr s R D O v n (k + 1) (bif f_spc s R D O v k a then some k else a)
    rw [e]
    cases f_spc s R D O v k a
    · exact f_rsp_eq h hr n (k + 1) a (by omega)
    · exact f_rsp_eq h hr n (k + 1) (some k) (by omega)
theorem f_rep_0 {q sv f : Nat → Int32} {x : Int32} {i : Nat} : ∀ n, xfo (f_rep q sv x) f n i = 0 → f i = 0 ∧ (i < n → ¬ q i = x)
  | 0, h => ⟨h, fun h => by omega⟩
  | n + 1, h => by
    have ih := f_rep_0 (q := q) (sv := sv) (f := f) (x := x) (i := i) n
    have h : f_rep q sv x n (xfo (f_rep q sv x) f n) i = 0 := h
    revert ih h
    generalize xfo (f_rep q sv x) f n = g
    unfold f_rep
    intro ih h
    by_cases hi : i = n
    · subst hi
      cases hc : xa_cmp .ne (q i) x with
      | true =>
        rw [hc] at h
        have hg : g i = 0 := h
        refine ⟨(ih hg).1, fun _ e => ?_⟩
        rw [xc_neF e] at hc
        cases hc
      | false =>
        rw [hc] at h
        cases hd : xa_cmp .ne (g i) 0 with
        | true =>
          rw [hd] at h
          have hg : g i = 0 := h
          rw [xc_neF hg] at hd
          cases hd
        | false =>
          rw [hd] at h
          have h2 : upd g i (bif xa_cmp .eq (sv i) 0 then xa_con 2 0 else xa_con 1 0) i = 0 := h
          rw [upd_at] at h2
          cases hs : xa_cmp .eq (sv i) 0 with
          | true =>
            rw [hs] at h2
            exact absurd (show nI 2 = 0 from h2) (nI_ne0 (by omega) (by omega))
          | false =>
            rw [hs] at h2
            exact absurd (show nI 1 = 0 from h2) (nI_ne0 (by omega) (by omega))
    · have hg : g i = 0 := by
        cases hc : (xa_cmp .ne (q n) x || xa_cmp .ne (g n) 0) with
        | true =>
          rw [hc] at h
          exact h
        | false =>
          rw [hc] at h
          have h2 : upd g n (bif xa_cmp .eq (sv n) 0 then xa_con 2 0 else xa_con 1 0) i = 0 := h
          rw [upd_ne _ _ hi] at h2
          exact h2
      exact ⟨(ih hg).1, fun h3 => (ih hg).2 (by omega)⟩
theorem f_clr_0 {q f : Nat → Int32} {x : Int32} {i : Nat} : ∀ n, xfo (f_clr q x) f n i = 0 → f i = 0
  | 0, h => h
  | n + 1, h => by
    have ih := f_clr_0 (q := q) (f := f) (x := x) (i := i) n
    have h : f_clr q x n (xfo (f_clr q x) f n) i = 0 := h
    revert ih h
    generalize xfo (f_clr q x) f n = g
    unfold f_clr
    intro ih h
    cases hc : (xa_cmp .ne (q n) x || xa_cmp .ne (g n) (xa_con 1 0)) with
    | true =>
      rw [hc] at h
      exact ih h
    | false =>
      rw [hc] at h
      have h2 : upd g n (xa_con 2 0) i = 0 := h
      by_cases hi : i = n
      · subst hi
        rw [upd_at] at h2
        exact absurd (show nI 2 = 0 from h2) (nI_ne0 (by omega) (by omega))
      · rw [upd_ne _ _ hi] at h2
        exact ih h2
theorem f_rrp_eq {G q sv f : Nat → Int32} {j n : Nat} (h : ∀ k, k < n → xa_cmp .eq (G (100 * j + k)) 0 = xa_cmp .ne (q k) (nI j)) : xfo (f_rrp G sv j) f n = xfo (f_rep q sv (nI j)) f n :=
  xfo_cg n (fun k hk g => by
    unfold f_rrp f_rep
    rw [h k hk])

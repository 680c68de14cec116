theorem f_by_pos {s : Nat → Nat → Int32} (h : f_rg s) {r k : Nat} (hb : f_by (s 10) r k = true) : 0 < (s 10 (3 * r + k)).toInt := by
  obtain ⟨n, hn, e⟩ := h.2.2.2.1 (3 * r + k)
  have h0 : ¬ n = 0 := by
    intro h0
    subst h0
    unfold f_by at hb
    rw [e] at hb
    revert hb
    decide +kernel
  rw [e, nI_toInt (by omega)]
  omega
def f_N (s : Nat → Nat → Int32) (v r k : Nat) : Bool := !(xa_cmp .gt (f_left s v r k) 0)
theorem f_N_i (s : Nat → Nat → Int32) (v r k : Nat) : f_N s v r k = true ↔ (f_left s v r k).toInt ≤ 0 := by
  show (!decide (0 < f_left s v r k)) = true ↔ _
  rw [← decide_not, decide_eq_true_iff, Int32.lt_iff_toInt_lt, show (0 : Int32).toInt = 0 by decide +kernel]
  omega
def f_bk (s : Nat → Nat → Int32) (v r k l : Nat) : Bool := f_blw (f_left s v r k) (s 10 (3 * r + k)) (f_left s v r l) (s 10 (3 * r + l))
theorem f_sg1 {s : Nat → Nat → Int32} (h : f_rg s) {v r k l : Nat} (hk : f_by (s 10) r k = true) (hl : f_by (s 10) r l = true) (hb : f_bk s v r k l = true) (hN : f_N s v r l = true) : f_N s v r k = true := by
  have h1 := f_by_pos h hk
  have h2 := f_by_pos h hl
  rw [f_N_i] at hN ⊢
  unfold f_bk at hb
  rw [blw_i, decide_eq_true_iff] at hb
  have h3 := Int.mul_nonpos_of_nonpos_of_nonneg hN (Int.le_of_lt h1)
  exact Int.le_of_lt (Int.neg_of_mul_neg_left (Int.lt_of_lt_of_le hb h3) h2)
theorem f_sg2 {s : Nat → Nat → Int32} (h : f_rg s) {v r k l : Nat} (hk : f_by (s 10) r k = true) (hl : f_by (s 10) r l = true) (hb : f_bk s v r k l = false) (hN : f_N s v r k = true) : f_N s v r l = true := by
  have h1 := f_by_pos h hk
  have h2 := f_by_pos h hl
  rw [f_N_i] at hN ⊢
  unfold f_bk at hb
  rw [blw_i, decide_eq_false_iff_not, Int.not_lt] at hb
  have h3 := Int.mul_nonpos_of_nonpos_of_nonneg hN (Int.le_of_lt h2)
  exact Int.nonpos_of_mul_nonpos_left (Int.le_trans hb h3) h1
def f_st (s : Nat → Nat → Int32) (v r k : Nat) (a : Option Nat) : Option Nat := bif f_rlc s v r k a then some k else a
def f_l1 (s : Nat → Nat → Int32) (v r k l : Nat) : Nat := bif f_lc s v r k l then k else l
def f_R (s : Nat → Nat → Int32) (v r n : Nat) (a : Option Nat) (l : Nat) (U : Bool) : Prop := (a = some l ∧ f_by (s 10) r l = true ∧ U = f_N s v r l) ∨ (a = none ∧ l = 0 ∧ (∀ i, i < n → f_by (s 10) r i = false) ∧ U = false)
theorem f_dw_e {s : Nat → Nat → Int32} (h : f_rg s) (v r k : Nat) : f_dw s v r k = (f_by (s 10) r k && f_N s v r k) := by
  unfold f_dw f_by f_N
  rw [by_le (h.2.2.2.1 (3 * r + k)) (by omega)]
theorem f_rlc_n {s : Nat → Nat → Int32} (h : f_rg s) (v r k : Nat) : f_rlc s v r k none = f_by (s 10) r k := by
  show (!(xa_cmp .le (lg_cmp (s 10 (3 * r + k)).toInt64 (lN 0)) 0)) = _
  rw [by_lg (h.2.2.2.1 (3 * r + k)) (by omega)]
  rfl
theorem f_rlc_s {s : Nat → Nat → Int32} (h : f_rg s) (v r k l : Nat) : f_rlc s v r k (some l) = (f_by (s 10) r k && f_bk s v r k l) := by
  show (!(xa_cmp .le (lg_cmp (s 10 (3 * r + k)).toInt64 (lN 0)) 0) && f_bk s v r k l) = _
  rw [by_lg (h.2.2.2.1 (3 * r + k)) (by omega)]
  rfl
theorem f_lc_e (s : Nat → Nat → Int32) (v r k l : Nat) : f_lc s v r k l = (f_by (s 10) r k && (!(f_by (s 10) r l) || f_bk s v r k l)) := rfl
theorem f_R_step {s : Nat → Nat → Int32} (h : f_rg s) {v r n l : Nat} {a : Option Nat} {U : Bool} (hn : 0 < n) (hR : f_R s v r n a l U) : f_R s v r (n + 1) (f_st s v r n a) (f_l1 s v r n l) (U || f_dw s v r n) := by
  unfold f_st f_l1
  rw [f_lc_e, f_dw_e h]
  rcases hR with ⟨rfl, hl, rfl⟩ | ⟨rfl, rfl, hl, rfl⟩
  · rw [f_rlc_s h, hl]
    cases hk : f_by (s 10) r n with
    | false =>
      exact Or.inl ⟨rfl, hl, Bool.or_false _⟩
    | true =>
      cases hb : f_bk s v r n l with
      | true =>
        refine Or.inl ⟨rfl, hk, ?_⟩
        show (f_N s v r l || f_N s v r n) = f_N s v r n
        cases h1 : f_N s v r l with
        | false => rfl
        | true => exact (f_sg1 h hk hl hb h1).symm
      | false =>
        refine Or.inl ⟨rfl, hl, ?_⟩
        show (f_N s v r l || f_N s v r n) = f_N s v r l
        cases h1 : f_N s v r n with
        | false => exact Bool.or_false _
        | true => exact (Bool.or_true _).trans (f_sg2 h hk hl hb h1).symm
  · rw [f_rlc_n h, hl 0 hn]
    cases hk : f_by (s 10) r n with
    | false =>
      refine Or.inr ⟨rfl, rfl, fun i hi => ?_, rfl⟩
      by_cases e : i = n
      · rw [e]; exact hk
      · exact hl i (by omega)
    | true => exact Or.inl ⟨rfl, hk, rfl⟩
theorem f_key {s : Nat → Nat → Int32} (h : f_rg s) {v r : Nat} (hn : ∃ k, k < 3 ∧ f_by (s 10) r k = true) : f_rls s v r = some (f_least s v r) ∧ f_by (s 10) r (f_least s v r) = true ∧ f_due s v r = f_N s v r (f_least s v r) := by
  have h1 : f_R s v r 1 (f_st s v r 0 none) 0 (f_dw s v r 0) := by
    unfold f_st
    rw [f_rlc_n h, f_dw_e h]
    cases hk : f_by (s 10) r 0 with
    | false =>
      refine Or.inr ⟨rfl, rfl, fun i hi => ?_, rfl⟩
      have : i = 0 := by omega
      rw [this]; exact hk
    | true => exact Or.inl ⟨rfl, hk, rfl⟩
  have h2 := f_R_step h (by omega) h1
  have h3 := f_R_step h (by omega) h2
  have e : f_due s v r = ((f_dw s v r 0 || f_dw s v r 1) || f_dw s v r 2) := by
    show (f_dw s v r 0 || (f_dw s v r 1 || (f_dw s v r 2 || false))) = _
    rw [Bool.or_false, Bool.or_assoc]
  rw [e]
  rcases h3 with ⟨h4, h5, h6⟩ | ⟨h4, h5, h6, h7⟩
  · exact ⟨h4, h5, h6⟩
  · obtain ⟨k, hk, hk2⟩ := hn
    rw [h6 k hk] at hk2
    cases hk2
def f_ltb (s : Nat → Nat → Int32) (j i : Nat) : Bool := decide ((f_rst s j).toInt * (f_itv s i).toInt < (f_rst s i).toInt * (f_itv s j).toInt) || (decide ((f_rst s j).toInt * (f_itv s i).toInt = (f_rst s i).toInt * (f_itv s j).toInt) && decide (j < i))
theorem f_ltb_i (s : Nat → Nat → Int32) (j i : Nat) : f_ltb s j i = true ↔ ((f_rst s j).toInt * (f_itv s i).toInt < (f_rst s i).toInt * (f_itv s j).toInt ∨ ((f_rst s j).toInt * (f_itv s i).toInt = (f_rst s i).toInt * (f_itv s j).toInt ∧ j < i)) := by
  unfold f_ltb
  rw [Bool.or_eq_true, Bool.and_eq_true, decide_eq_true_iff, decide_eq_true_iff, decide_eq_true_iff]
theorem f_ltb_ir (s : Nat → Nat → Int32) (j : Nat) : ¬ f_ltb s j j = true := by
  rw [f_ltb_i]
  omega
theorem f_ltb_as {s : Nat → Nat → Int32} {j i : Nat} (h : f_ltb s j i = true) : ¬ f_ltb s i j = true := by
  rw [f_ltb_i] at h ⊢
  omega
theorem f_cr {a b c d e f : Int} (hb : 0 < b) (hd : 0 < d) (hf : 0 < f) (h1 : a * d < c * b) (h2 : c * f ≤ e * d) : a * f < e * b := by
  have h3 := Int.mul_lt_mul_of_pos_right h1 hf
  have h4 := Int.mul_le_mul_of_nonneg_right h2 (Int.le_of_lt hb)
  have e1 : a * d * f = a * f * d := Int.mul_right_comm a d f
  have e2 : c * b * f = c * f * b := Int.mul_right_comm c b f
  have e3 : e * d * b = e * b * d := Int.mul_right_comm e d b
  refine Int.lt_of_mul_lt_mul_right (a := d) ?_ (Int.le_of_lt hd)
  omega
theorem f_pl_sp {B : Nat → Bool} {m : Nat} (hm : ∀ i k, i ≤ k → k < m → B i = true → B k = true) : ∀ e p, p ≤ m → (∀ i, i < p → B i = false) → (m < p + 2 ^ e ∨ B (p + 2 ^ e - 1) = true) → (∀ i, i < f_pl B m e p → B i = false) ∧ (∀ i, f_pl B m e p ≤ i → i < m → B i = true)
  | 0, p, hp, h1, h2 => by
    have e0 : (2 : Nat) ^ 0 = 1 := rfl
    rw [e0] at h2
    refine ⟨h1, fun i (h3 : p ≤ i) h4 => ?_⟩
    rcases h2 with h2 | h2
    · omega
    · exact hm p i h3 h4 h2
  | e + 1, p, hp, h1, h2 => by
    have h7 : 2 ^ (e + 1) = 2 ^ e * 2 := Nat.pow_succ _ _
    by_cases hb : p + 2 ^ e ≤ m
    · cases hB : B (p + 2 ^ e - 1) with
      | false =>
        rw [f_pl_t hb hB]
        refine f_pl_sp hm e (p + 2 ^ e) hb (fun i hi => ?_) ?_
        · cases hi2 : B i with
          | false => rfl
          | true =>
            have h8 : 0 < 2 ^ e := Nat.pos_of_ne_zero (fun h => by simp at h)
            rw [hm i (p + 2 ^ e - 1) (by omega) (by omega) hi2] at hB
            cases hB
        · rw [show p + 2 ^ e + 2 ^ e = p + 2 ^ (e + 1) by omega]
          exact h2
      | true =>
        rw [f_pl_f hB]
        exact f_pl_sp hm e p hp h1 (Or.inr hB)
    · rw [f_pl_n hb]
      exact f_pl_sp hm e p hp h1 (Or.inl (by omega))
theorem f_bfr_i (s : Nat → Nat → Int32) (j i : Nat) : f_bfr s j i = decide ((f_rst s j).toInt * (f_itv s i).toInt < (f_rst s i).toInt * (f_itv s j).toInt) := blw_i _ _ _ _
theorem f_ins_m (s : Nat → Nat → Int32) (j : Nat) (l : List Nat) (x : Nat) : x ∈ f_ins s j l ↔ x = j ∨ x ∈ l := by
  unfold f_ins
  rw [List.mem_append, List.mem_cons]
  have h : x ∈ l ↔ x ∈ l.take (f_plc s j l) ∨ x ∈ l.drop (f_plc s j l) := by
    rw [← List.mem_append, List.take_append_drop]
  rw [h]
  constructor
  · rintro (h | h | h)
    · exact Or.inr (Or.inl h)
    · exact Or.inl h
    · exact Or.inr (Or.inr h)
  · rintro (h | h | h)
    · exact Or.inr (Or.inl h)
    · exact Or.inl h
    · exact Or.inr (Or.inr h)
theorem f_ins_l (s : Nat → Nat → Int32) (j : Nat) (l : List Nat) : (f_ins s j l).length = l.length + 1 := by
  unfold f_ins
  have h : (l.take (f_plc s j l) ++ l.drop (f_plc s j l)).length = l.length := by rw [List.take_append_drop]
  rw [List.length_append] at h
  rw [List.length_append, List.length_cons]
  omega
theorem f_ins_ok {s : Nat → Nat → Int32} {j : Nat} {l : List Nat} (hP : l.Pairwise (fun a b => f_ltb s a b = true)) (hp : ∀ i ∈ l, 0 < (f_itv s i).toInt) (hj : 0 < (f_itv s j).toInt) (hl : ∀ i ∈ l, i < j) (hn : l.length < 512) : (f_ins s j l).Pairwise (fun a b => f_ltb s a b = true) := by
  have hsp := f_pl_sp (B := fun i => f_bfr s j (l.getD i 0)) (m := l.length) (fun i k hik hk hB => by
    have hB : f_bfr s j (l.getD i 0) = true := hB
    show f_bfr s j (l.getD k 0) = true
    rw [xgetD (by omega), f_bfr_i, decide_eq_true_iff] at hB
    rw [xgetD hk, f_bfr_i, decide_eq_true_iff]
    by_cases e : i = k
    · subst e
      exact hB
    · have h1 := (List.pairwise_iff_getElem.mp hP) i k (by omega) hk (by omega)
      rw [f_ltb_i] at h1
      exact f_cr hj (hp _ (List.getElem_mem (by omega))) (hp _ (List.getElem_mem hk)) hB (by omega)) 9 0 (by omega) (fun i hi => by omega) (Or.inl (by omega))
  unfold f_ins
  have hP2 : (l.take (f_plc s j l) ++ l.drop (f_plc s j l)).Pairwise (fun a b => f_ltb s a b = true) := by
    rw [List.take_append_drop]
    exact hP
  rw [List.pairwise_append] at hP2
  rw [List.pairwise_append]
  have hD : ∀ b ∈ l.drop (f_plc s j l), f_ltb s j b = true := by
    intro b hb
    obtain ⟨i, hi, rfl⟩ := List.mem_drop_iff_getElem.mp hb
    have h1 : f_bfr s j (l.getD (f_plc s j l + i) 0) = true := hsp.2 (f_plc s j l + i) (Nat.le_add_right _ _) (by omega)
    rw [xgetD (by omega), f_bfr_i, decide_eq_true_iff] at h1
    rw [f_ltb_i]
    exact Or.inl h1
  have hT : ∀ a ∈ l.take (f_plc s j l), f_ltb s a j = true := by
    intro a ha
    obtain ⟨i, hi, rfl⟩ := List.mem_take_iff_getElem.mp ha
    have hi2 : i < l.length := by omega
    have hi3 : i < f_plc s j l := by omega
    have h1 : f_bfr s j (l.getD i 0) = false := hsp.1 i hi3
    rw [xgetD hi2, f_bfr_i, decide_eq_false_iff_not] at h1
    have h2 := hl _ (List.getElem_mem hi2)
    rw [f_ltb_i]
    omega
  refine ⟨hP2.1, List.pairwise_cons.mpr ⟨hD, hP2.2.1⟩, fun a ha b hb => ?_⟩
  rcases List.mem_cons.mp hb with rfl | hb
  · exact hT a ha
  · exact hP2.2.2 a ha b hb
def f_J (s : Nat → Nat → Int32) (R v r : Nat) (l : List Nat) : Prop := l.Pairwise (fun a b => f_ltb s a b = true) ∧ l.length ≤ 10 * v + r ∧ ∀ x, x ∈ l ↔ ((x / 10 < v ∧ x % 10 < R) ∨ (x / 10 = v ∧ x % 10 < r)) ∧ f_due s (x / 10) (x % 10) = true
def f_nz (s : Nat → Nat → Int32) (R : Nat) : Prop := ∀ r, r < R → ∃ k, k < 3 ∧ f_by (s 10) r k = true
theorem f_itv_p {s : Nat → Nat → Int32} (h : f_rg s) {R : Nat} (hz : f_nz s R) {x : Nat} (hx : x % 10 < R) : 0 < (f_itv s x).toInt := f_by_pos h (f_key h (v := x / 10) (hz _ hx)).2.1
theorem f_lr_ok {s : Nat → Nat → Int32} (h : f_rg s) {R v : Nat} (hz : f_nz s R) (hR : R ≤ 10) (hv : v < 30) : ∀ n r l, r + n = R → f_J s R v r l → f_J s R v R (f_lr s v n r l)
  | 0, r, l, hr, hJ => by
    have hr : r = R := hr
    subst hr
    exact hJ
  | n + 1, r, l, hr, hJ => by
    show f_J s R v R (f_lr s v n (r + 1) (bif xa_cmp .gt (f_rst s (10 * v + r)) 0 then l else f_ins s (10 * v + r) l))
    refine f_lr_ok h hz hR hv n (r + 1) _ (by omega) ?_
    obtain ⟨h1, h2, h3⟩ := hJ
    have e1 : (10 * v + r) / 10 = v := by omega
    have e2 : (10 * v + r) % 10 = r := by omega
    have ed : f_due s v r = !(xa_cmp .gt (f_rst s (10 * v + r)) 0) := by
      unfold f_rst
      rw [e1, e2]
      exact (f_key h (hz r (by omega))).2.2
    cases hc : xa_cmp .gt (f_rst s (10 * v + r)) 0 with
    | true =>
      rw [hc] at ed
      refine ⟨h1, by show l.length ≤ _; omega, fun x => ?_⟩
      show x ∈ l ↔ _
      rw [h3 x]
      constructor
      · rintro ⟨h4, h5⟩
        exact ⟨by omega, h5⟩
      · rintro ⟨h4, h5⟩
        refine ⟨?_, h5⟩
        by_cases hx : x / 10 = v ∧ x % 10 = r
        · rw [hx.1, hx.2, ed] at h5
          cases h5
        · omega
    | false =>
      rw [hc] at ed
      have hl : ∀ i ∈ l, i < 10 * v + r := fun i hi => by
        have := ((h3 i).mp hi).1
        omega
      refine ⟨f_ins_ok h1 (fun i hi => f_itv_p h hz ?_) (f_itv_p h hz ?_) hl (by omega), ?_, fun x => ?_⟩
      · have := ((h3 i).mp hi).1
        omega
      · omega
      · show (f_ins s (10 * v + r) l).length ≤ _
        rw [f_ins_l]
        omega
      · show x ∈ f_ins s (10 * v + r) l ↔ _
        rw [f_ins_m, h3 x]
        constructor
        · rintro (h4 | ⟨h4, h5⟩)
          · subst h4
            rw [e1, e2]
            exact ⟨by omega, ed⟩
          · exact ⟨by omega, h5⟩
        · rintro ⟨h4, h5⟩
          by_cases hx : x / 10 = v ∧ x % 10 = r
          · exact Or.inl (by omega)
          · exact Or.inr ⟨by omega, h5⟩
theorem f_lvv_ok {s : Nat → Nat → Int32} (h : f_rg s) {R V : Nat} (hz : f_nz s R) (hR : R ≤ 10) (hV : V ≤ 30) : ∀ n v l, v + n = V → f_J s R v 0 l → f_J s R V 0 (f_lvv s R n v l)
  | 0, v, l, hv, hJ => by
    have hv : v = V := hv
    subst hv
    exact hJ
  | n + 1, v, l, hv, hJ => by
    show f_J s R V 0 (f_lvv s R n (v + 1) (f_lr s v R 0 l))
    refine f_lvv_ok h hz hR hV n (v + 1) _ (by omega) ?_
    obtain ⟨h1, h2, h3⟩ := f_lr_ok h hz hR (v := v) (by omega) R 0 l (by omega) hJ
    refine ⟨h1, by omega, fun x => ?_⟩
    rw [h3 x]
    constructor
    · rintro ⟨h4, h5⟩
      exact ⟨by omega, h5⟩
    · rintro ⟨h4, h5⟩
      exact ⟨by omega, h5⟩
theorem f_J_0 (s : Nat → Nat → Int32) (R : Nat) : f_J s R 0 0 [] := by
  refine ⟨List.Pairwise.nil, by show 0 ≤ _; omega, fun x => ?_⟩
  constructor
  · intro h
    cases h
  · rintro ⟨h, _⟩
    omega
theorem ncnt_cg {p q : Nat → Bool} : ∀ n k, (∀ i, k ≤ i → i < k + n → p i = q i) → ncnt p n k = ncnt q n k
  | 0, _, _ => rfl
  | n + 1, k, h => by
    show (bif p k then 1 else 0) + ncnt p n (k + 1) = (bif q k then 1 else 0) + ncnt q n (k + 1)
    rw [h k (Nat.le_refl _) (by omega), ncnt_cg n (k + 1) (fun i h1 h2 => h i (by omega) (by omega))]
theorem ncnt_pt {p q : Nat → Bool} {a : Nat} (hp : p a = false) (hne : ∀ i, ¬ i = a → p i = q i) : ∀ n k, k ≤ a → a < k + n → ncnt q n k = ncnt p n k + (bif q a then 1 else 0)
  | 0, _, h1, h2 => by omega
  | n + 1, k, h1, h2 => by
    show (bif q k then 1 else 0) + ncnt q n (k + 1) = (bif p k then 1 else 0) + ncnt p n (k + 1) + (bif q a then 1 else 0)
    by_cases h : k = a
    · subst h
      rw [hp, ncnt_cg n (k + 1) (fun i h3 h4 => hne i (by omega))]
      show _ = 0 + ncnt q n (k + 1) + _
      omega
    · rw [hne k h, ncnt_pt hp hne n (k + 1) (by omega) (by omega)]
      omega
theorem ncnt_0 : ∀ n k, ncnt (fun _ => false) n k = 0
  | 0, _ => rfl
  | n + 1, k => by
    show 0 + ncnt (fun _ => false) n (k + 1) = 0
    rw [ncnt_0 n (k + 1)]
theorem ncnt_l {q : Nat → Bool} {n : Nat} : ∀ l : List Nat, l.Pairwise (fun a b => ¬ a = b) → (∀ x ∈ l, x < n) → ncnt (fun k => decide (k ∈ l) && q k) n 0 = l.countP q
  | [], _, _ => by
    rw [ncnt_cg (q := fun _ => false) n 0 (fun i _ _ => by simp), ncnt_0]
    rfl
  | a :: l, hp, hl => by
    obtain ⟨h1, h2⟩ := List.pairwise_cons.mp hp
    have ha : ¬ a ∈ l := fun h => h1 a h rfl
    rw [ncnt_pt (p := fun k => decide (k ∈ l) && q k) (a := a) (by simp [ha]) (fun i hi => by simp [hi]) n 0 (by omega) (by have := hl a List.mem_cons_self; omega), ncnt_l l h2 (fun x hx => hl x (List.mem_cons_of_mem _ hx)), List.countP_cons]
    congr 1
    cases hq : q a <;> simp [hq]
theorem f_rank {s : Nat → Nat → Int32} {l : List Nat} (hP : l.Pairwise (fun a b => f_ltb s a b = true)) {p : Nat} (hp : p < l.length) : l.countP (fun k => f_ltb s k l[p]) = p := by
  have e : l = l.take p ++ l[p] :: l.drop (p + 1) := by
    rw [← List.drop_eq_getElem_cons hp, List.take_append_drop]
  have h1 := hP
  rw [e, List.pairwise_append, List.pairwise_cons] at h1
  have e2 : l.countP (fun k => f_ltb s k l[p]) = (l.take p ++ l[p] :: l.drop (p + 1)).countP (fun k => f_ltb s k l[p]) := congrArg (List.countP (fun k => f_ltb s k l[p])) e
  have q1 : (l.drop (p + 1)).countP (fun k => f_ltb s k l[p]) = 0 := List.countP_eq_zero.mpr (fun b hb => f_ltb_as (h1.2.1.1 b hb))
  have q2 : (l.take p).countP (fun k => f_ltb s k l[p]) = (l.take p).length := List.countP_eq_length.mpr (fun a ha => h1.2.2 a ha _ List.mem_cons_self)
  have q3 : (l[p] :: l.drop (p + 1)).countP (fun k => f_ltb s k l[p]) = (l.drop (p + 1)).countP (fun k => f_ltb s k l[p]) := List.countP_cons_of_neg (f_ltb_ir s _)
  rw [e2, List.countP_append, q3, q1, q2, List.length_take]
  omega
theorem f_ah0_i {x y : Int64} {v r u t : Nat} (hv : v < 2 ^ 31) (hr : r < 2 ^ 31) (hu : u < 2 ^ 31) (ht : t < 2 ^ 31) : f_ah0 x y v r u t = true ↔ (x.toInt < y.toInt ∨ (x.toInt = y.toInt ∧ (v < u ∨ (v = u ∧ r < t)))) := by
  unfold f_ah0
  show (decide (lg_cmp x y < 0) || (!(!decide (lg_cmp x y = 0)) && (decide (nI v < nI u) || (!(!decide (nI v = nI u)) && !(decide (nI t ≤ nI r)))))) = true ↔ _
  rw [Bool.not_not, Bool.not_not, Bool.or_eq_true, Bool.and_eq_true, Bool.or_eq_true, Bool.and_eq_true, decide_eq_true_iff, decide_eq_true_iff, decide_eq_true_iff, decide_eq_true_iff, ← decide_not, decide_eq_true_iff, lg_cmp_lt, lg_cmp_eq, nI_ltI hv hu, nI_eq hv hu, nI_leI ht hr, Nat.not_le, Int64.lt_iff_toInt_lt, ← Int64.toInt_inj]
theorem f_ahd_e {s : Nat → Nat → Int32} (h : f_rg s) {R : Nat} (hz : f_nz s R) (hR : R ≤ 10) {k v r : Nat} (hk : k < 300) (hkR : k % 10 < R) (hv : v < 30) (hr : r < R) : f_ahd s (k / 10) (k % 10) v r = f_ltb s k (10 * v + r) := by
  have e1 : (10 * v + r) / 10 = v := by omega
  have e2 : (10 * v + r) % 10 = r := by omega
  have l1 : f_lk s v r = f_least s v r := by unfold f_lk; rw [(f_key h (hz r hr)).1]; rfl
  have l2 : f_lk s (k / 10) (k % 10) = f_least s (k / 10) (k % 10) := by unfold f_lk; rw [(f_key h (hz _ hkR)).1]; rfl
  rw [Bool.eq_iff_iff, f_ltb_i]
  unfold f_ahd f_rst f_itv
  rw [l1, l2, e1, e2, f_ah0_i (by omega) (by omega) (by omega) (by omega), ti_m64, ti_m64]
  generalize (f_left s (k / 10) (k % 10) (f_least s (k / 10) (k % 10))).toInt * (s 10 (3 * r + f_least s v r)).toInt = A
  generalize (f_left s v r (f_least s v r)).toInt * (s 10 (3 * (k % 10) + f_least s (k / 10) (k % 10))).toInt = B
  omega
theorem f_oth_e {s : Nat → Nat → Int32} {R V : Nat} (hR : R ≤ 10) (hV : V ≤ 30) {l : List Nat} (hJ : f_J s R V 0 l) {k : Nat} (hk : k < 300) : f_oth s V R k = decide (k ∈ l) := by
  rw [Bool.eq_iff_iff, decide_eq_true_iff, hJ.2.2 k]
  unfold f_oth
  show (!(decide (nI V ≤ nI (k / 10))) && (!(decide (nI R ≤ nI (k % 10))) && f_due s (k / 10) (k % 10))) = true ↔ _
  rw [Bool.and_eq_true, Bool.and_eq_true, ← decide_not, decide_eq_true_iff, ← decide_not, decide_eq_true_iff, nI_leI (by omega) (by omega), nI_leI (by omega) (by omega)]
  constructor
  · rintro ⟨h1, h2, h3⟩
    exact ⟨by omega, h3⟩
  · rintro ⟨h1, h3⟩
    exact ⟨by omega, by omega, h3⟩
theorem f_hit_e {s : Nat → Nat → Int32} (h : f_rg s) {R V : Nat} (hz : f_nz s R) (hR : R ≤ 10) (hV : V ≤ 30) {l : List Nat} (hJ : f_J s R V 0 l) {j v r : Nat} (hj : j < 2 ^ 31) (hv : v < V) (hr : r < R) : f_hit s V R (nI j) v r = true ↔ l[j]? = some (10 * v + r) := by
  have e1 : (10 * v + r) / 10 = v := by omega
  have e2 : (10 * v + r) % 10 = r := by omega
  unfold f_hit
  rw [Bool.and_eq_true]
  have hm := hJ.2.2 (10 * v + r)
  rw [e1, e2] at hm
  have hin : f_due s v r = true → ∀ p (hp : p < l.length), l[p] = 10 * v + r → xcnt (f_ahk s V R v r) 300 0 (nI 0) = nI p := by
    intro hd p hp he
    rw [xcnt_n, Nat.zero_add]
    refine congrArg nI ?_
    rw [← f_rank hJ.1 hp, he, ← ncnt_l (n := 300) l (hJ.1.imp (fun {a b} hab e => by subst e; exact f_ltb_ir s a hab)) (fun x hx => by
      have := ((hJ.2.2 x).mp hx).1
      omega)]
    refine ncnt_cg 300 0 (fun i _ hi => ?_)
    show (f_oth s V R i && (f_due s v r && f_ahd s (i / 10) (i % 10) v r)) = (decide (i ∈ l) && f_ltb s i (10 * v + r))
    rw [f_oth_e hR hV hJ (by omega), hd, Bool.true_and]
    cases hi2 : decide (i ∈ l) with
    | false => rfl
    | true =>
      have h5 := ((hJ.2.2 i).mp (of_decide_eq_true hi2)).1
      rw [f_ahd_e h hz hR (by omega) (by omega) (by omega) hr]
  constructor
  · rintro ⟨h1, h2⟩
    obtain ⟨p, hp, he⟩ := List.getElem_of_mem (hm.mpr ⟨by omega, h1⟩)
    rw [hin h1 p hp he] at h2
    have h3 : (!(!decide (nI p = nI j))) = true := h2
    rw [Bool.not_not, decide_eq_true_iff, nI_eq (by have := hJ.2.1; omega) hj] at h3
    subst h3
    rw [List.getElem?_eq_getElem hp, he]
  · intro h1
    obtain ⟨hp, he⟩ := List.getElem?_eq_some_iff.mp h1
    have h2 := (hm.mp (by rw [← he]; exact List.getElem_mem hp)).2
    refine ⟨h2, ?_⟩
    rw [hin h2 j hp he]
    show (!(!decide (nI j = nI j))) = true
    rw [decide_eq_true rfl]
    rfl
section XHV
variable {s : Nat → Nat → Int32} {V R : Nat} {i : Int32}
theorem f_hr_no {v : Nat} {e : Int32} : ∀ n r, (∀ t, r ≤ t → t < r + n → f_hit s V R i v t = false) → f_hr s V R i v n r e = e
  | 0, _, _ => rfl
  | n + 1, r, h => by
    show (bif f_hit s V R i v r then nI (100 * v + r) else f_hr s V R i v n (r + 1) e) = e
    rw [h r (Nat.le_refl _) (by omega)]
    exact f_hr_no n (r + 1) (fun t h1 h2 => h t (by omega) (by omega))
theorem f_hr_at {v r0 : Nat} {e : Int32} (h0 : f_hit s V R i v r0 = true) : ∀ n r, r ≤ r0 → r0 < r + n → (∀ t, r ≤ t → t < r0 → f_hit s V R i v t = false) → f_hr s V R i v n r e = nI (100 * v + r0)
  | 0, _, h1, h2, _ => by omega
  | n + 1, r, h1, h2, h => by
    show (bif f_hit s V R i v r then nI (100 * v + r) else f_hr s V R i v n (r + 1) e) = _
    by_cases hr : r = r0
    · subst hr
      rw [h0]
      rfl
    · rw [h r (Nat.le_refl _) (by omega)]
      exact f_hr_at h0 n (r + 1) (by omega) (by omega) (fun t h3 h4 => h t (by omega) h4)
theorem f_hv_no : ∀ n v, (∀ u t, v ≤ u → u < v + n → t < R → f_hit s V R i u t = false) → f_hv s V R i n v = xa_con 1 1
  | 0, _, _ => rfl
  | n + 1, v, h => by
    show f_hr s V R i v R 0 (f_hv s V R i n (v + 1)) = _
    rw [f_hr_no R 0 (fun t _ h2 => h v t (Nat.le_refl _) (by omega) (by omega)), f_hv_no n (v + 1) (fun u t h1 h2 h3 => h u t (by omega) (by omega) h3)]
theorem f_hv_at {v0 r0 : Nat} (hr : r0 < R) (h0 : f_hit s V R i v0 r0 = true) (hu : ∀ u t, u ≤ v0 → t < R → (¬ (u = v0 ∧ t = r0)) → f_hit s V R i u t = false) : ∀ n v, v ≤ v0 → v0 < v + n → f_hv s V R i n v = nI (100 * v0 + r0)
  | 0, _, h1, h2 => by omega
  | n + 1, v, h1, h2 => by
    show f_hr s V R i v R 0 (f_hv s V R i n (v + 1)) = _
    by_cases hv : v = v0
    · subst hv
      exact f_hr_at h0 R 0 (by omega) (by omega) (fun t _ h4 => hu v t (Nat.le_refl _) (by omega) (by omega))
    · rw [f_hr_no R 0 (fun t _ h4 => hu v t (by omega) (by omega) (by omega))]
      exact f_hv_at hr h0 hu n (v + 1) (by omega) (by omega)
end XHV
theorem f_hv_eq {s : Nat → Nat → Int32} (h : f_rg s) {R V : Nat} (hz : f_nz s R) (hR : R ≤ 10) (hV : V ≤ 30) {j : Nat} (hj : j < 2 ^ 31) : f_hv s V R (nI j) V 0 = f_row (f_lvv s R V 0 []) j := by
  have hJ := f_lvv_ok h hz hR hV V 0 [] (by omega) (f_J_0 s R)
  generalize f_lvv s R V 0 [] = l at hJ
  unfold f_row
  cases hx : l[j]? with
  | none =>
    refine f_hv_no V 0 (fun u t _ h2 h3 => ?_)
    cases hh : f_hit s V R (nI j) u t with
    | false => rfl
    | true =>
      rw [f_hit_e h hz hR hV hJ hj (by omega) h3, hx] at hh
      cases hh
  | some x =>
    have hm := ((hJ.2.2 x).mp (List.mem_of_getElem? hx)).1
    refine f_hv_at (v0 := x / 10) (r0 := x % 10) (by omega) ?_ (fun u t h1 h2 h3 => ?_) V 0 (by omega) (by omega)
    · rw [f_hit_e h hz hR hV hJ hj (by omega) (by omega), hx]
      congr 1
      omega
    · cases hh : f_hit s V R (nI j) u t with
      | false => rfl
      | true =>
        rw [f_hit_e h hz hR hV hJ hj (by omega) h2, hx] at hh
        have := Option.some.inj hh
        omega

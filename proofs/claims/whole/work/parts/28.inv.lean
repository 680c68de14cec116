def jS (s : Nat → Nat → Int32) (V R D O P : Nat) : Prop := (V ≤ 30 ∧ R ≤ 10 ∧ D ≤ 100 ∧ O ≤ 60 ∧ P ≤ 100) ∧ s 1 7 = nI V ∧ s 9 2 = nI R ∧ s 12 4 = nI D ∧ s 17 5 = nI O ∧ s 17 6 = nI P
def jZ (s : Nat → Nat → Int32) (dn df : Nat → Int32) : Prop := xz (s 3) ∧ xz (s 14) ∧ xz (s 19) ∧ xz (s 20) ∧ xz dn ∧ xz df
def jG (s : Nat → Nat → Int32) (R : Nat) : Prop := f_rg s ∧ (∀ i, xr (s 2 i) 9) ∧ (∀ i, xr (s 6 i) 1000000000) ∧ xr (s 0 6) 1000000000 ∧ f_nz s R
def jO (s : Nat → Nat → Int32) (dn : Nat → Int32) (V O : Nat) : Prop := (∀ o, o < O → (s 19 o = 1 ∧ dn o = 0) ∨ (s 19 o = 0 ∧ dn o = 1)) ∧ (∀ o, O ≤ o → dn o = 0) ∧ (∀ o, o < O → ∃ v, v < V ∧ s 18 o = nI v) ∧ ∀ o p, o < O → p < O → s 19 o = 1 → s 19 p = 1 → s 18 o = s 18 p → o = p
def f_wk (m df : Nat → Int32) (o : Nat) : Int32 := xcnt (f_mk df 100 o) 100 0 (xcnt (f_mk m 10 o) 10 0 (nI 0))
def jD (s : Nat → Nat → Int32) (df : Nat → Int32) (D O : Nat) : Prop := (∀ d, d < D → s 16 d = xa_con 1 1 ∨ ∃ o, o < O ∧ s 16 d = nI o) ∧ (∀ o d, o < 60 → d < 100 → (df (100 * o + d) = 1 ↔ d < D ∧ s 16 d = nI o)) ∧ (∀ d o, d < D → o < O → s 15 d = 0 → s 16 d = nI o → s 19 o = 1 ∧ s 13 d = s 18 o) ∧ ∀ o, o < 60 → s 21 o = f_wk (s 20) df o
def jI (s : Nat → Nat → Int32) (dn df : Nat → Int32) (V R D O P : Nat) : Prop := jS s V R D O P ∧ jZ s dn df ∧ jG s R ∧ jO s dn V O ∧ jD s df D O
def jX (s b : Nat → Nat → Int32) : Prop := ∃ V R D O P, jI s (b 1) (b 2) V R D O P
theorem jX_b {s b : Nat → Nat → Int32} {x : Int32} (h : jX s b) : jX s (xu b 0 0 x) := h
theorem x10 : ¬ (1 : Int32) = 0 := by decide +kernel
theorem x01 : ¬ (0 : Int32) = 1 := by decide +kernel
theorem xcn {o : Nat} (h : o < 2 ^ 31) : ¬ xa_con 1 1 = nI o := by
  intro e
  have e2 := congrArg Int32.toInt e
  rw [nI_toInt h, show (xa_con 1 1).toInt = -1 by decide +kernel] at e2
  omega
theorem jX_0 : jX xI xJ := by
  refine ⟨0, 0, 0, 0, 0, ⟨⟨by omega, by omega, by omega, by omega, by omega⟩, rfl, rfl, rfl, rfl, rfl⟩, ⟨fun _ => Or.inl rfl, fun _ => Or.inl rfl, fun _ => Or.inl rfl, fun _ => Or.inl rfl, fun _ => Or.inl rfl, fun _ => Or.inl rfl⟩, ⟨⟨fun _ => xr_0 _, fun _ => xr_0 _, xr_0 _, fun _ => xr_0 _, fun _ => xr_0 _⟩, fun _ => xr_0 _, fun _ => xr_0 _, xr_0 _, fun r h => by omega⟩, ⟨fun o h => by omega, fun o _ => rfl, fun o h => by omega, fun o p h => by omega⟩, ⟨fun d h => by omega, fun o d _ _ => ?_, fun d o h => by omega, fun o _ => ?_⟩⟩
  · constructor
    · intro h
      exact absurd (show (0 : Int32) = 1 from h) x01
    · rintro ⟨h, _⟩
      omega
  · show (0 : Int32) = f_wk (fun _ => 0) (fun _ => 0) o
    unfold f_wk
    rw [xcnt_cg (p := f_mk (fun _ => 0) 10 o) (q := fun _ => false) 10 0 _ (fun i _ _ => show (!(xa_cmp .eq (0 : Int32) 0)) = false by decide +kernel), xcnt_cg (p := f_mk (fun _ => 0) 100 o) (q := fun _ => false) 100 0 _ (fun i _ _ => show (!(xa_cmp .eq (0 : Int32) 0)) = false by decide +kernel)]
    decide +kernel
section JP
variable {s : Nat → Nat → Int32} {dn df : Nat → Int32} {V R D O P : Nat}
theorem p_1 (h : jI s dn df V R D O P) (hV : V < 30) {x y : Int32} (hx : xr x 9) (hy : y = 0 ∨ y = 1) : jI (f_veh s V x y) dn df (V + 1) R D O P := by
  obtain ⟨⟨⟨a1, a2, a3, a4, a5⟩, a6, a7, a8, a9, a10⟩, ⟨z1, z2, z3, z4, z5, z6⟩, ⟨⟨g1, g2, g3, g4, g5⟩, g6, g7, g8, g9⟩, ⟨o1, o2, o3, o4⟩, hD⟩ := h
  refine ⟨⟨⟨by omega, a2, a3, a4, a5⟩, ?_, a7, a8, a9, a10⟩, ⟨xz_upd z1 hy, z2, z3, z4, z5, z6⟩, ⟨⟨g1, g2, g3, g4, ?_⟩, xr_up g6 hx, g7, g8, g9⟩, ⟨o1, o2, fun o ho => ?_, o4⟩, hD⟩
  · show upd (s 1) 7 (nI (V + 1)) 7 = nI (V + 1)
    exact upd_at _ _ _
  · show ∀ i, xr (xfo (f_start V (s 0 5)) (s 11) 10 i) 1000000
    exact xfo_inv (P := fun f => ∀ i, xr (f i) 1000000) g5 (fun k g hg => xr_up hg (xr_mo g3 (by omega))) 10
  · obtain ⟨v, hv, e⟩ := o3 o ho
    exact ⟨v, by omega, e⟩
theorem p_2 (h : jI s dn df V R D O P) (hR : R < 10) {a b c : Int32} (ha : xr a 100000) (hb : xr b 100000) (hc : xr c 100000) (hn : ¬ (a = 0 ∧ b = 0 ∧ c = 0)) : jI (f_rul s R a b c) dn df V (R + 1) D O P := by
  obtain ⟨⟨⟨a1, a2, a3, a4, a5⟩, a6, a7, a8, a9, a10⟩, hZ, ⟨⟨g1, g2, g3, g4, g5⟩, g6, g7, g8, g9⟩, hO, hD⟩ := h
  refine ⟨⟨⟨a1, by omega, a3, a4, a5⟩, a6, ?_, a8, a9, a10⟩, hZ, ⟨⟨g1, g2, g3, ?_, g5⟩, g6, g7, g8, ?_⟩, hO, hD⟩
  · show upd (s 9) 2 (nI (R + 1)) 2 = nI (R + 1)
    exact upd_at _ _ _
  · show ∀ i, xr (upd (upd (upd (s 10) (3 * R) a) (3 * R + 1) b) (3 * R + 2) c i) 100000
    exact xr_up (xr_up (xr_up g4 ha) hb) hc
  · intro r hr
    show ∃ k, k < 3 ∧ (!(xa_cmp .eq (upd (upd (upd (s 10) (3 * R) a) (3 * R + 1) b) (3 * R + 2) c (3 * r + k)) 0)) = true
    by_cases e : r = R
    · subst e
      by_cases h0 : a = 0
      · by_cases h1 : b = 0
        · refine ⟨2, by omega, ?_⟩
          rw [upd_at, xc_eqF (fun h2 => hn ⟨h0, h1, h2⟩)]
          rfl
        · refine ⟨1, by omega, ?_⟩
          rw [upd_ne _ _ (by omega), upd_at, xc_eqF h1]
          rfl
      · refine ⟨0, by omega, ?_⟩
        rw [upd_ne _ _ (by omega), upd_ne _ _ (by omega), Nat.add_zero, upd_at, xc_eqF h0]
        rfl
    · obtain ⟨k, hk, e⟩ := g9 r (by omega)
      refine ⟨k, hk, ?_⟩
      rw [upd_ne _ _ (by omega), upd_ne _ _ (by omega), upd_ne _ _ (by omega)]
      exact e
theorem p_4 (h : jI s dn df V R D O P) {x : Int32} (hx : xr x 99999) : jI (xu s 0 5 x) dn df V R D O P := by
  obtain ⟨hS, hZ, ⟨⟨g1, g2, g3, g4, g5⟩, g6, g7, g8, g9⟩, hO, hD⟩ := h
  refine ⟨hS, hZ, ⟨⟨g1, g2, ?_, g4, g5⟩, g6, g7, g8, g9⟩, hO, hD⟩
  show xr (upd (s 0) 5 x 5) 99999
  rw [upd_at]
  exact hx
theorem p_5 (h : jI s dn df V R D O P) {v : Nat} {x y : Int32} (hx : xr x 1000000) (hy : xr y 1000000) : jI (xu (xu s 4 v x) 5 v y) dn df V R D O P := by
  obtain ⟨hS, hZ, ⟨⟨g1, g2, g3, g4, g5⟩, g6, g7, g8, g9⟩, hO, hD⟩ := h
  exact ⟨hS, hZ, ⟨⟨xr_up g1 hx, xr_up g2 hy, g3, g4, g5⟩, g6, g7, g8, g9⟩, hO, hD⟩
theorem p_cg {s1 : Nat → Nat → Int32} (h : jI s dn df V R D O P) (he : ∀ c, c < 23 → s1 c = s c) : jI s1 dn df V R D O P := by
  unfold jI jS jZ jG jO jD f_rg f_nz at h ⊢
  rw [he 0 (by omega), he 1 (by omega), he 2 (by omega), he 3 (by omega), he 4 (by omega), he 5 (by omega), he 6 (by omega), he 9 (by omega), he 10 (by omega), he 11 (by omega), he 12 (by omega), he 13 (by omega), he 14 (by omega), he 15 (by omega), he 16 (by omega), he 17 (by omega), he 18 (by omega), he 19 (by omega), he 20 (by omega), he 21 (by omega)]
  exact h
theorem xD_cg {s1 b : Nat → Nat → Int32} (he : ∀ c, c < 23 → s1 c = s c) : xD s b = xD s1 b := by
  unfold xD
  rw [he 0 (by omega), he 1 (by omega), he 2 (by omega), he 3 (by omega), he 4 (by omega), he 5 (by omega), he 6 (by omega), he 7 (by omega), he 8 (by omega), he 9 (by omega), he 10 (by omega), he 11 (by omega), he 12 (by omega), he 13 (by omega), he 14 (by omega), he 15 (by omega), he 17 (by omega), he 18 (by omega), he 20 (by omega), he 22 (by omega)]
theorem p_8 (h : jI s dn df V R D O P) (hD1 : D < 100) {x y : Int32} (hy : y = 0 ∨ y = 1) : jI (f_def s D x y) dn df V R (D + 1) O P := by
  obtain ⟨⟨⟨a1, a2, a3, a4, a5⟩, a6, a7, a8, a9, a10⟩, ⟨z1, z2, z3, z4, z5, z6⟩, hG, hO, ⟨d1, d2, d3, d4⟩⟩ := h
  refine ⟨⟨⟨a1, a2, by omega, a4, a5⟩, a6, a7, ?_, a9, a10⟩, ⟨z1, xz_upd z2 hy, z3, z4, z5, z6⟩, hG, hO, ⟨fun d hd => ?_, fun o d ho hd => ?_, fun d o hd ho h1 h2 => ?_, d4⟩⟩
  · show upd (s 12) 4 (nI (D + 1)) 4 = nI (D + 1)
    exact upd_at _ _ _
  · show upd (s 16) D (xa_con 1 1) d = xa_con 1 1 ∨ ∃ o, o < O ∧ upd (s 16) D (xa_con 1 1) d = nI o
    by_cases e : d = D
    · subst e
      exact Or.inl (upd_at _ _ _)
    · rw [upd_ne _ _ e]
      exact d1 d (by omega)
  · show df (100 * o + d) = 1 ↔ d < D + 1 ∧ upd (s 16) D (xa_con 1 1) d = nI o
    rw [d2 o d ho hd]
    by_cases e : d = D
    · subst e
      rw [upd_at]
      constructor
      · rintro ⟨h1, _⟩
        omega
      · rintro ⟨_, h1⟩
        exact absurd h1 (xcn (by omega))
    · rw [upd_ne _ _ e]
      constructor
      · rintro ⟨h1, h2⟩
        exact ⟨by omega, h2⟩
      · rintro ⟨h1, h2⟩
        exact ⟨by omega, h2⟩
  · have h1 : upd (s 15) D (nI 0) d = 0 := h1
    have h2 : upd (s 16) D (xa_con 1 1) d = nI o := h2
    show s 19 o = 1 ∧ upd (s 13) D x d = s 18 o
    by_cases e : d = D
    · subst e
      rw [upd_at] at h2
      exact absurd h2 (xcn (by omega))
    · rw [upd_ne _ _ e] at h1 h2
      rw [upd_ne _ _ e]
      exact d3 d o (by omega) ho h1 h2
theorem p_9 (h : jI s dn df V R D O P) {x : Int32} {n : Nat} : jI (xw s 15 (xfo (f_clr (s 13) x) (s 15) n)) dn df V R D O P := by
  obtain ⟨hS, hZ, hG, hO, ⟨d1, d2, d3, d4⟩⟩ := h
  exact ⟨hS, hZ, hG, hO, ⟨d1, d2, fun d o hd ho h1 h2 => d3 d o hd ho (f_clr_0 n (show xfo (f_clr (s 13) x) (s 15) n d = 0 from h1)) h2, d4⟩⟩
theorem p_11 (h : jI s dn df V R D O P) (hO1 : O < 60) {v : Nat} (hv : v < V) (hno : ∀ o, o < O → s 19 o = 1 → ¬ s 18 o = nI v) : jI (f_ord s O (nI v)) dn df V R D (O + 1) P := by
  obtain ⟨⟨⟨a1, a2, a3, a4, a5⟩, a6, a7, a8, a9, a10⟩, ⟨z1, z2, z3, z4, z5, z6⟩, hG, ⟨o1, o2, o3, o4⟩, ⟨d1, d2, d3, d4⟩⟩ := h
  refine ⟨⟨⟨a1, a2, a3, by omega, a5⟩, a6, a7, a8, ?_, a10⟩, ⟨z1, z2, xz_upd z3 (Or.inr rfl), z4, z5, z6⟩, hG, ⟨fun o ho => ?_, fun o ho => o2 o (by omega), fun o ho => ?_, fun o p ho hp h1 h2 h3 => ?_⟩, ⟨fun d hd => ?_, d2, fun d o hd ho h1 h2 => ?_, d4⟩⟩
  · show upd (s 17) 5 (nI (O + 1)) 5 = nI (O + 1)
    exact upd_at _ _ _
  · show (upd (s 19) O 1 o = 1 ∧ dn o = 0) ∨ (upd (s 19) O 1 o = 0 ∧ dn o = 1)
    by_cases e : o = O
    · subst e
      exact Or.inl ⟨upd_at _ _ _, o2 o (Nat.le_refl _)⟩
    · rw [upd_ne _ _ e]
      exact o1 o (by omega)
  · show ∃ u, u < V ∧ upd (s 18) O (nI v) o = nI u
    by_cases e : o = O
    · subst e
      exact ⟨v, hv, upd_at _ _ _⟩
    · rw [upd_ne _ _ e]
      exact o3 o (by omega)
  · have h1 : upd (s 19) O 1 o = 1 := h1
    have h2 : upd (s 19) O 1 p = 1 := h2
    have h3 : upd (s 18) O (nI v) o = upd (s 18) O (nI v) p := h3
    by_cases e1 : o = O
    · by_cases e2 : p = O
      · rw [e1, e2]
      · rw [upd_ne _ _ e2] at h2 h3
        rw [e1, upd_at] at h3
        exact absurd h3.symm (hno p (by omega) h2)
    · by_cases e2 : p = O
      · rw [upd_ne _ _ e1] at h1 h3
        rw [e2, upd_at] at h3
        exact absurd h3 (hno o (by omega) h1)
      · rw [upd_ne _ _ e1] at h1 h3
        rw [upd_ne _ _ e2] at h2 h3
        exact o4 o p (by omega) (by omega) h1 h2 h3
  · rcases d1 d hd with h1 | ⟨o, ho, h1⟩
    · exact Or.inl h1
    · exact Or.inr ⟨o, by omega, h1⟩
  · have h9 : s 16 d = nI o := h2
    show upd (s 19) O 1 o = 1 ∧ s 13 d = upd (s 18) O (nI v) o
    by_cases e : o = O
    · rcases d1 d hd with h3 | ⟨p, hp, h3⟩
      · rw [h3] at h9
        exact absurd h9 (xcn (by omega))
      · rw [h3, nI_eq (by omega) (by omega)] at h9
        omega
    · rw [upd_ne _ _ e, upd_ne _ _ e]
      exact d3 d o hd (by omega) h1 h9
theorem f_mk_upd {m : Nat → Int32} {w j k o i : Nat} (hk : k < w) (hi : i < w) (hne : ¬ (o = j ∧ i = k)) : f_mk (upd m (w * j + k) 1) w o i = f_mk m w o i := by
  unfold f_mk
  rw [upd_ne]
  intro e
  by_cases h : o = j
  · subst h
    exact hne ⟨rfl, by omega⟩
  · rcases Nat.lt_or_gt_of_ne h with h | h
    · have h1 : w * (o + 1) ≤ w * j := Nat.mul_le_mul_left w h
      rw [Nat.mul_add, Nat.mul_one] at h1
      omega
    · have h1 : w * (j + 1) ≤ w * o := Nat.mul_le_mul_left w h
      rw [Nat.mul_add, Nat.mul_one] at h1
      omega
theorem f_mk_one {m : Nat → Int32} {w j k : Nat} {c : Int32} (hk : k < w) (h0 : m (w * j + k) = 0) : xcnt (f_mk (upd m (w * j + k) 1) w j) w 0 c = xcnt (f_mk m w j) w 0 c + nI 1 := by
  have e : ∀ i, ¬ i = k → f_mk m w j i = f_mk (upd m (w * j + k) 1) w j i := fun i hi => by
    unfold f_mk
    rw [upd_ne _ _ (by omega)]
  refine xcnt_one (p := f_mk m w j) (q := f_mk (upd m (w * j + k) 1) w j) (k0 := k) ?_ ?_ e w 0 c (by omega) (by omega)
  · unfold f_mk
    rw [h0]
    decide +kernel
  · unfold f_mk
    rw [upd_at]
    decide +kernel
theorem f_wk_r {m df : Nat → Int32} {j r : Nat} (hr : r < 10) (h0 : m (10 * j + r) = 0) (o : Nat) : f_wk (upd m (10 * j + r) 1) df o = bif Nat.beq o j then f_wk m df j + nI 1 else f_wk m df o := by
  unfold f_wk
  cases e : Nat.beq o j with
  | true =>
    have e := Nat.eq_of_beq_eq_true e
    subst e
    show _ = xcnt (f_mk df 100 o) 100 0 (xcnt (f_mk m 10 o) 10 0 (nI 0)) + nI 1
    rw [f_mk_one hr h0, xcnt_add]
  | false =>
    have e := Nat.ne_of_beq_eq_false e
    show _ = xcnt (f_mk df 100 o) 100 0 (xcnt (f_mk m 10 o) 10 0 (nI 0))
    rw [xcnt_cg (p := f_mk (upd m (10 * j + r) 1) 10 o) (q := f_mk m 10 o) 10 0 _ (fun i _ hi => f_mk_upd hr (by omega) (fun h => e h.1))]
theorem f_wk_d {m df : Nat → Int32} {j k : Nat} (hk : k < 100) (h0 : df (100 * j + k) = 0) (o : Nat) : f_wk m (upd df (100 * j + k) 1) o = bif Nat.beq o j then f_wk m df j + nI 1 else f_wk m df o := by
  unfold f_wk
  cases e : Nat.beq o j with
  | true =>
    have e := Nat.eq_of_beq_eq_true e
    subst e
    exact f_mk_one hk h0
  | false =>
    have e := Nat.ne_of_beq_eq_false e
    exact xcnt_cg (p := f_mk (upd df (100 * j + k) 1) 100 o) (q := f_mk df 100 o) 100 0 _ (fun i _ hi => f_mk_upd hk (by omega) (fun h => e h.1))
theorem p_wk {w w2 : Nat → Int32} {j : Nat} (h : ∀ o, o < 60 → w o = w2 o) (hj : j < 60) {o : Nat} (ho : o < 60) : upd w j (w j + nI 1) o = bif Nat.beq o j then w2 j + nI 1 else w2 o := by
  cases e : Nat.beq o j with
  | true =>
    have e := Nat.eq_of_beq_eq_true e
    subst e
    rw [upd_at, h o ho]
    rfl
  | false =>
    have e := Nat.ne_of_beq_eq_false e
    rw [upd_ne _ _ e, h o ho]
    rfl
theorem p_12r (h : jI s dn df V R D O P) {j r : Nat} (hj : j < O) (hr : r < 10) (h0 : s 20 (10 * j + r) = 0) : jI (f_wr s j r) dn df V R D O P := by
  obtain ⟨hS, ⟨z1, z2, z3, z4, z5, z6⟩, hG, hO, ⟨d1, d2, d3, d4⟩⟩ := h
  have hO2 : O ≤ 60 := hS.1.2.2.2.1
  refine ⟨hS, ⟨z1, z2, z3, xz_upd z4 (Or.inr rfl), z5, z6⟩, hG, hO, ⟨d1, d2, d3, fun o ho => ?_⟩⟩
  show upd (s 21) j (s 21 j + nI 1) o = f_wk (upd (s 20) (10 * j + r) 1) df o
  rw [f_wk_r hr h0, p_wk d4 (by omega) ho]
theorem q_12r (h : jI s dn df V R D O P) {j r : Nat} (hj : j < O) (hr : r < 10) (h0 : s 20 (10 * j + r) = 0) : f_wk (upd (s 20) (10 * j + r) 1) df j = s 21 j + nI 1 := by
  have hO2 : O ≤ 60 := h.1.1.2.2.2.1
  rw [f_wk_r hr h0, h.2.2.2.2.2.2.2 j (by omega), show Nat.beq j j = true from Nat.beq_refl j]
  rfl
theorem p_free (h : jI s dn df V R D O P) {j k : Nat} (hj : j < O) (hk : k < D) (h1 : s 19 j = 1) (e1 : s 13 k = s 18 j) (e2 : s 15 k = 0) (e3 : ¬ s 16 k = nI j) : s 16 k = xa_con 1 1 := by
  obtain ⟨hS, hZ, hG, ⟨o1, o2, o3, o4⟩, ⟨d1, d2, d3, d4⟩⟩ := h
  rcases d1 k hk with h2 | ⟨o, ho, h2⟩
  · exact h2
  · have h3 := d3 k o hk ho e2 h2
    have h4 := o4 o j ho hj h3.1 h1 (by rw [← h3.2, e1])
    subst h4
    exact absurd h2 e3
theorem p_12d (h : jI s dn df V R D O P) {j k : Nat} (hj : j < O) (hk : k < D) (h1 : s 19 j = 1) (e1 : s 13 k = s 18 j) (e2 : s 15 k = 0) (e3 : ¬ s 16 k = nI j) (h0 : df (100 * j + k) = 0) : jI (f_wd s j k) dn (upd df (100 * j + k) 1) V R D O P := by
  have hf := p_free h hj hk h1 e1 e2 e3
  obtain ⟨hS, ⟨z1, z2, z3, z4, z5, z6⟩, hG, hO, ⟨d1, d2, d3, d4⟩⟩ := h
  have hO2 : O ≤ 60 := hS.1.2.2.2.1
  have hD2 : D ≤ 100 := hS.1.2.2.1
  refine ⟨hS, ⟨z1, z2, z3, z4, z5, xz_upd z6 (Or.inr rfl)⟩, hG, hO, ⟨fun d hd => ?_, fun o d ho hd => ?_, fun d o hd ho h2 h3 => ?_, fun o ho => ?_⟩⟩
  · show upd (s 16) k (nI j) d = xa_con 1 1 ∨ ∃ o, o < O ∧ upd (s 16) k (nI j) d = nI o
    by_cases e : d = k
    · subst e
      exact Or.inr ⟨j, hj, upd_at _ _ _⟩
    · rw [upd_ne _ _ e]
      exact d1 d hd
  · show upd df (100 * j + k) 1 (100 * o + d) = 1 ↔ d < D ∧ upd (s 16) k (nI j) d = nI o
    by_cases e : d = k
    · subst e
      rw [upd_at (s 16)]
      by_cases e4 : o = j
      · subst e4
        rw [upd_at]
        exact ⟨fun _ => ⟨hk, rfl⟩, fun _ => rfl⟩
      · rw [upd_ne _ _ (by omega), d2 o d ho hd, hf]
        constructor
        · rintro ⟨_, h5⟩
          exact absurd h5 (xcn (by omega))
        · rintro ⟨_, h5⟩
          rw [nI_eq (by omega) (by omega)] at h5
          omega
    · rw [upd_ne _ _ (by omega), upd_ne _ _ e]
      exact d2 o d ho hd
  · have h3 : upd (s 16) k (nI j) d = nI o := h3
    show s 19 o = 1 ∧ s 13 d = s 18 o
    by_cases e : d = k
    · subst e
      rw [upd_at, nI_eq (by omega) (by omega)] at h3
      subst h3
      exact ⟨h1, e1⟩
    · rw [upd_ne _ _ e] at h3
      exact d3 d o hd ho h2 h3
  · show upd (s 21) j (s 21 j + nI 1) o = f_wk (s 20) (upd df (100 * j + k) 1) o
    rw [f_wk_d (by omega) h0, p_wk d4 (by omega) ho]
theorem q_12d (h : jI s dn df V R D O P) {j k : Nat} (hj : j < O) (hk : k < 100) (h0 : df (100 * j + k) = 0) : f_wk (s 20) (upd df (100 * j + k) 1) j = s 21 j + nI 1 := by
  have hO2 : O ≤ 60 := h.1.1.2.2.2.1
  rw [f_wk_d hk h0, h.2.2.2.2.2.2.2 j (by omega), show Nat.beq j j = true from Nat.beq_refl j]
  rfl
theorem q_in (h : jI s dn df V R D O P) {j k : Nat} (hj : j < O) (hk : k < D) : (s 16 k = nI j ∧ df (100 * j + k) = 1) ∨ (¬ s 16 k = nI j ∧ df (100 * j + k) = 0) := by
  have hO2 : O ≤ 60 := h.1.1.2.2.2.1
  have hD2 : D ≤ 100 := h.1.1.2.2.1
  have h1 := h.2.2.2.2.2.1 j k (by omega) (by omega)
  rcases h.2.1.2.2.2.2.2 (100 * j + k) with e | e
  · refine Or.inr ⟨fun e2 => ?_, e⟩
    rw [h1.mpr ⟨hk, e2⟩] at e
    exact x10 e
  · exact Or.inl ⟨(h1.mp e).2, e⟩
theorem p_13 (h : jI s dn df V R D O P) (hP1 : P < 100) {j : Nat} {x : Int32} (hx : xr (s 0 6 - x) 1000000000) : jI (f_prt s j x) dn df V R D O (P + 1) := by
  obtain ⟨⟨⟨a1, a2, a3, a4, a5⟩, a6, a7, a8, a9, a10⟩, hZ, ⟨⟨g1, g2, g3, g4, g5⟩, g6, g7, g8, g9⟩, hO, hD⟩ := h
  refine ⟨⟨⟨a1, a2, a3, a4, by omega⟩, a6, a7, a8, a9, ?_⟩, hZ, ⟨⟨g1, g2, g3, g4, g5⟩, g6, g7, ?_, g9⟩, hO, hD⟩
  · show upd (s 17) 6 (s 17 6 + nI 1) 6 = nI (P + 1)
    rw [upd_at, a10, nI_add]
  · show xr (upd (s 0) 6 (s 0 6 - x) 6) 1000000000
    rw [upd_at]
    exact hx
theorem p_15 (h : jI s dn df V R D O P) {x : Int32} (hx : xr x 1000000000) : jI (xu s 0 6 x) dn df V R D O P := by
  obtain ⟨hS, hZ, ⟨⟨g1, g2, g3, g4, g5⟩, g6, g7, g8, g9⟩, hO, hD⟩ := h
  refine ⟨hS, hZ, ⟨⟨g1, g2, g3, g4, g5⟩, g6, g7, ?_, g9⟩, hO, hD⟩
  show xr (upd (s 0) 6 x 6) 1000000000
  rw [upd_at]
  exact hx
theorem p_19 (h : jI s dn df V R D O P) {v : Nat} {x : Int32} (hx : xr x 1000000000) : jI (xu s 6 v x) dn df V R D O P := by
  obtain ⟨hS, hZ, ⟨⟨g1, g2, g3, g4, g5⟩, g6, g7, g8, g9⟩, hO, hD⟩ := h
  exact ⟨hS, hZ, ⟨⟨g1, g2, g3, g4, g5⟩, g6, xr_up g7 hx, g8, g9⟩, hO, hD⟩
theorem p_16 (h : jI s dn df V R D O P) {v j : Nat} (hj : j < O) : jI (f_don s R D v j) (upd dn j 1) df V R D O P := by
  obtain ⟨hS, ⟨z1, z2, z3, z4, z5, z6⟩, ⟨hg, g6, g7, g8, g9⟩, ⟨o1, o2, o3, o4⟩, ⟨d1, d2, d3, d4⟩⟩ := h
  have hg2 := hg
  obtain ⟨g1, g2, g3, g4, g5⟩ := hg
  refine ⟨hS, ⟨z1, z2, xz_upd z3 (Or.inl rfl), z4, xz_upd z5 (Or.inr rfl), z6⟩, ⟨⟨g1, g2, g3, g4, ?_⟩, g6, g7, g8, g9⟩, ⟨fun o ho => ?_, fun o ho => ?_, o3, fun o p ho hp h1 h2 h3 => ?_⟩, ⟨d1, d2, fun d o hd ho h1 h2 => ?_, d4⟩⟩
  · show ∀ i, xr (xfo (f_srv s v j) (s 11) R i) 1000000
    refine xfo_inv (P := fun f => ∀ i, xr (f i) 1000000) g5 (fun k g hg => ?_) R
    unfold f_srv
    cases xa_cmp .eq (s 20 (10 * j + k)) 0
    · exact xfo_inv (F := f_srv3 s v k) (P := fun f => ∀ i, xr (f i) 1000000) hg (fun t g hg => xr_up hg (f_rg_now hg2 v t)) 3
    · exact hg
  · show (upd (s 19) j 0 o = 1 ∧ upd dn j 1 o = 0) ∨ (upd (s 19) j 0 o = 0 ∧ upd dn j 1 o = 1)
    by_cases e : o = j
    · subst e
      exact Or.inr ⟨upd_at _ _ _, upd_at _ _ _⟩
    · rw [upd_ne _ _ e, upd_ne _ _ e]
      exact o1 o ho
  · show upd dn j 1 o = 0
    rw [upd_ne _ _ (by omega)]
    exact o2 o ho
  · have h1 : upd (s 19) j 0 o = 1 := h1
    have h2 : upd (s 19) j 0 p = 1 := h2
    by_cases e1 : o = j
    · rw [e1, upd_at] at h1
      exact absurd h1 x01
    · by_cases e2 : p = j
      · rw [e2, upd_at] at h2
        exact absurd h2 x01
      · rw [upd_ne _ _ e1] at h1
        rw [upd_ne _ _ e2] at h2
        exact o4 o p ho hp h1 h2 h3
  · have h1 : xfo (f_rep (s 16) (s 14) (nI j)) (s 15) D d = 0 := h1
    have h2 : s 16 d = nI o := h2
    show upd (s 19) j 0 o = 1 ∧ s 13 d = s 18 o
    have h3 := f_rep_0 D h1
    have e : ¬ o = j := fun e => h3.2 hd (by rw [h2, e])
    rw [upd_ne _ _ e]
    exact d3 d o hd ho h3.1 h2
theorem q_16 (h : jI s dn df V R D O P) {b : Nat → Nat → Int32} {v j : Nat} (hj : j < O) : xD (f_dnr s df R D v j) b = xD (f_don s R D v j) b := by
  unfold f_dnr
  rw [f_rrp_eq (q := s 16) (fun k hk => by
    rcases q_in h hj hk with ⟨e1, e2⟩ | ⟨e1, e2⟩
    · rw [xc_neF e1, xc_eqF (fun e => x10 (e2.symm.trans e))]
    · rw [xc_neT e1, xc_eqT e2])]
  rfl
theorem q_11 (h : jI s dn df V R D O P) (x : Int32) : xO (f_rol (f_ro (s 18) dn x) O 0 none) = xfst (f_opn (s 19) (s 18) x) O 0 := by
  obtain ⟨hS, hZ, hG, ⟨o1, o2, o3, o4⟩, hD⟩ := h
  refine f_rol_fst O 0 (fun o _ ho => ?_) (fun o p _ ho _ hp h1 h2 => ?_)
  · unfold f_opn f_ro
    rw [Bool.and_comm]
    congr 1
    rcases o1 o (by omega) with ⟨e1, e2⟩ | ⟨e1, e2⟩
    · rw [e1, e2]
      decide +kernel
    · rw [e1, e2]
      decide +kernel
  · unfold f_opn at h1 h2
    rw [Bool.and_eq_true] at h1 h2
    have k1 : (!decide (s 19 o = 0)) = true := h1.1
    have k2 : (!(!decide (s 18 o = x))) = true := h1.2
    have k3 : (!decide (s 19 p = 0)) = true := h2.1
    have k4 : (!(!decide (s 18 p = x))) = true := h2.2
    rw [Bool.not_not, decide_eq_true_iff] at k2 k4
    rw [← decide_not, decide_eq_true_iff] at k1 k3
    refine o4 o p (by omega) (by omega) ?_ ?_ (by rw [k2, k4])
    · rcases hZ.2.2.1 o with e | e
      · exact absurd e k1
      · exact e
    · rcases hZ.2.2.1 p with e | e
      · exact absurd e k3
      · exact e
theorem q_no (h : jI s dn df V R D O P) {x : Int32} (hn : f_rol (f_ro (s 18) dn x) O 0 none = none) : ∀ o, o < O → s 19 o = 1 → ¬ s 18 o = x := by
  intro o ho h1 h2
  have e := q_11 h x
  rw [hn] at e
  have e : xa_con 1 1 = xfst (f_opn (s 19) (s 18) x) O 0 := e
  have hO2 : O ≤ 60 := h.1.1.2.2.2.1
  have hf : ∀ n k, k + n ≤ 60 → k ≤ o → o < k + n → ¬ xa_con 1 1 = xfst (f_opn (s 19) (s 18) x) n k := by
    intro n
    induction n with
    | zero => intro k _ h3 h4; omega
    | succ n ih =>
      intro k hk h3 h4 h5
      have h5 : xa_con 1 1 = bif f_opn (s 19) (s 18) x k then nI k else xfst (f_opn (s 19) (s 18) x) n (k + 1) := h5
      cases hc : f_opn (s 19) (s 18) x k with
      | true =>
        rw [hc] at h5
        exact xcn (by omega) h5
      | false =>
        rw [hc] at h5
        by_cases e2 : k = o
        · subst e2
          unfold f_opn at hc
          rw [h1, xc_neF h2] at hc
          revert hc
          decide +kernel
        · exact ih (k + 1) (by omega) (by omega) (by omega) h5
  exact hf O 0 (by omega) (by omega) (by omega) e
theorem q_17 (h : jI s dn df V R D O P) {b : Nat → Nat → Int32} (hb : b 1 = dn) (v : Nat) : f_rrs s b R D O v = f_rsn s R D O v := by
  subst hb
  exact f_rrs_eq h.2.2.1.1 h.1.1.2.2.2.1 (q_11 h (nI v))
theorem q_18 (h : jI s dn df V R D O P) {b : Nat → Nat → Int32} (hb : b 1 = dn) (v : Nat) : f_rsp s b R D O v V 0 none (nI 1000) = f_spr s R D O v V 0 none :=
  f_rsp_eq (V := V) h.2.2.1.2.1 (fun k _ => q_17 h hb k) V 0 none (by omega)
theorem q_22 (h : jI s dn df V R D O P) {b : Nat → Nat → Int32} (hb : b 1 = dn) : xcnt (f_rbr s b R D O) V 0 (nI 0) = xcnt (f_bar s R D O) V 0 (nI 0) :=
  xcnt_cg V 0 _ (fun k _ _ => f_bar_eq (q_17 h hb k))
theorem q_22o (h : jI s dn df V R D O P) : xcnt (f_nd dn) O 0 (nI 0) = xcnt (f_op (s 19)) O 0 (nI 0) :=
  xcnt_cg O 0 _ (fun o _ ho => by
    unfold f_nd f_op
    rcases h.2.2.2.1.1 o (by omega) with ⟨e1, e2⟩ | ⟨e1, e2⟩
    · rw [e1, e2]
      decide +kernel
    · rw [e1, e2]
      decide +kernel)
end JP

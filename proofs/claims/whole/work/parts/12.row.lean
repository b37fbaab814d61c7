/-- a row's object: its numbers may be read -/
def R0 (w : rW) (a n : Int) : Prop := (a = 1 ∨ a = 3) ∧ oc a = 1 ∧ al (a + 1) = 40 ∧ w a 0 = a + 1 ∧ w a 1 = n ∧ 0 ≤ n ∧ n ≤ 40 ∧ ∀ i, 0 ≤ i → i < n → 0 ≤ w (a + 1) i ∧ w (a + 1) i ≤ 4095
theorem qe {Q : List rV → rW → Prop} {w : rW} {a b : Int} (h : Q [vi a] w) (e : a = b) : Q [vi b] w := e ▸ h
theorem qv {Q : List rV → rW → Prop} {w w' : rW} {v : List rV} (h : Q v w) (e : w = w') : Q v w' := e ▸ h

theorem s_X3_isWithin {Q : List rV → rW → Prop} {w : rW} {a0 a1 a2 : Int} (h0 : R32 a0) (h1 : R32 a1) (h2 : R32 a2) (hQ : ∀ r : Int, (r = 1 ∧ a1 ≤ a0 ∧ a0 ≤ a2) ∨ (r = 0 ∧ ¬ (a1 ≤ a0 ∧ a0 ≤ a2)) → Q [vi r] w) : WP M_X3_isWithin 0 [vi a0, vi a1, vi a2] [] w Q := by
  refine b_X3_isWithin_0 (by first | omega | assumption) (by first | omega | assumption) (fun c_0 => ?_) (fun c_0 => ?_)
  · refine b_X3_isWithin_14  ?_
    refine b_X3_isWithin_15 (by first | omega | assumption) ?_
    exact hQ _ (by omega)
  · refine b_X3_isWithin_5 (by first | omega | assumption) (by first | omega | assumption) (fun c_5 => ?_) (fun c_5 => ?_)
    · refine b_X3_isWithin_14  ?_
      refine b_X3_isWithin_15 (by first | omega | assumption) ?_
      exact hQ _ (by omega)
    · refine b_X3_isWithin_10  ?_
      refine b_X3_isWithin_15 (by first | omega | assumption) ?_
      exact hQ _ (by omega)

theorem s_X4_in {Q : List rV → rW → Prop} {w : rW} {a0 a1 a2 : Int} (h0 : R32 a0) (h1 : R32 a1) (h2 : R32 a2) (hQ : ∀ r : Int, (r = 1 ∧ a1 ≤ a0 ∧ a0 ≤ a2) ∨ (r = 0 ∧ ¬ (a1 ≤ a0 ∧ a0 ≤ a2)) → Q [vi r] w) : WP M_X4_in 0 [vi a0, vi a1, vi a2] [] w Q := by
  refine b_X4_in_0 (by first | omega | assumption) (by first | omega | assumption) (fun c_0 => ?_) (fun c_0 => ?_)
  · refine b_X4_in_14  ?_
    refine b_X4_in_15 (by first | omega | assumption) ?_
    exact hQ _ (by omega)
  · refine b_X4_in_5 (by first | omega | assumption) (by first | omega | assumption) (fun c_5 => ?_) (fun c_5 => ?_)
    · refine b_X4_in_14  ?_
      refine b_X4_in_15 (by first | omega | assumption) ?_
      exact hQ _ (by omega)
    · refine b_X4_in_10  ?_
      refine b_X4_in_15 (by first | omega | assumption) ?_
      exact hQ _ (by omega)

theorem s_X3_isRow {Q : List rV → rW → Prop} {w : rW} {a0 : Int} (h0 : R32 a0) (hQ : ∀ r : Int, (r = 1 ∧ 0 ≤ a0 ∧ a0 ≤ 1) ∨ (r = 0 ∧ ¬ (0 ≤ a0 ∧ a0 ≤ 1)) → Q [vi r] w) : WP M_X3_isRow 0 [vi a0] [] w Q := by
  refine b_X3_isRow_0  ?_
  refine s_X3_isWithin (by omega) (by omega) (by omega) (fun r hr => ?_)
  refine b_X3_isRow_6 (by first | omega | assumption) ?_
  exact hQ _ (by omega)

theorem s_X2_isDigit {Q : List rV → rW → Prop} {w : rW} {a0 : Int} (h0 : R32 a0) (hQ : ∀ r : Int, (r = 1 ∧ 48 ≤ a0 ∧ a0 ≤ 57) ∨ (r = 0 ∧ ¬ (48 ≤ a0 ∧ a0 ≤ 57)) → Q [vi r] w) : WP M_X2_isDigit 0 [vi a0] [] w Q := by
  refine b_X2_isDigit_0  ?_
  refine s_X3_isWithin (by omega) (by omega) (by omega) (fun r hr => ?_)
  refine b_X2_isDigit_8 (by first | omega | assumption) ?_
  exact hQ _ (by omega)

theorem s_X1_numberAt {Q : List rV → rW → Prop} {w : rW} {a n i : Int} (h : R0 w a n) (hi : R32 i) (hQ : ∀ r : Int, (0 ≤ i ∧ i < n ∧ r = w (a + 1) i) ∨ (¬ (0 ≤ i ∧ i < n) ∧ r = 0) → Q [vi r] w) : WP M_X1_numberAt 0 [vr a, vi i] [] w Q := by
  obtain ⟨ha13, ho, ha1, h0, h1, hn0, hn4, hv⟩ := id h
  have h2 : al (w a 0) = 40 := by rw [h0]; exact ha1
  refine b_X1_numberAt_0 (by first | omega | assumption) (fun c_0 => ?_) (fun c_0 => ?_)
  · refine b_X1_numberAt_30  ?_
    refine b_X1_numberAt_31  ?_
    first | exact hQ _ (Or.inr ⟨by omega, rfl⟩) | exact hQ _ (Or.inl ⟨by omega, by omega, by rw [h0]⟩)
  · refine b_X1_numberAt_4 (by first | omega | assumption) (by first | omega | assumption) (by first | omega | assumption) (fun c_4 => ?_) (fun c_4 => ?_)
    · refine b_X1_numberAt_30  ?_
      refine b_X1_numberAt_31  ?_
      first | exact hQ _ (Or.inr ⟨by omega, rfl⟩) | exact hQ _ (Or.inl ⟨by omega, by omega, by rw [h0]⟩)
    · refine b_X1_numberAt_12 (by first | omega | assumption) (by first | omega | assumption) (by first | omega | assumption) (by first | omega | assumption) (fun c_12 => ?_) (fun c_12 => ?_)
      · refine b_X1_numberAt_30  ?_
        refine b_X1_numberAt_31  ?_
        first | exact hQ _ (Or.inr ⟨by omega, rfl⟩) | exact hQ _ (Or.inl ⟨by omega, by omega, by rw [h0]⟩)
      · refine b_X1_numberAt_21 (by first | omega | assumption) (by first | omega | assumption) (by first | omega | assumption) ?_
        refine b_X1_numberAt_31  ?_
        first | exact hQ _ (Or.inr ⟨by omega, rfl⟩) | exact hQ _ (Or.inl ⟨by omega, by omega, by rw [h0]⟩)

theorem s_X1_numberIn {Q : List rV → rW → Prop} {w : rW} {a n i : Int} (h : R0 w a n) (h1 : 0 ≤ i) (h2 : i < n) (hQ : Q [vi (w (a + 1) i)] w) : WP M_X1_numberAt 0 [vr a, vi i] [] w Q := by
  have h4 : n ≤ 40 := h.2.2.2.2.2.2.1
  refine s_X1_numberAt h ⟨by omega, by omega⟩ (fun r hr => ?_)
  rcases hr with ⟨-, -, rfl⟩ | ⟨hr, -⟩
  · exact hQ
  · omega

theorem s_X1_put {Q : List rV → rW → Prop} {w : rW} {a i x : Int} (ho : oc a = 1) (h2 : al (w a 0) = 40) (h0 : 0 ≤ i) (h1 : i < 40) (hQ : Q [] (wset w (w a 0) i x)) : WP M_X1_put 0 [vr a, vi i, vi x] [] w Q := by
  refine b_X1_put_0 (by first | omega | assumption) (fun c_0 => ?_) (fun c_0 => ?_)
  · exact absurd c_0 (by omega)
  · refine b_X1_put_4 (by first | omega | assumption) (by first | omega | assumption) (by first | omega | assumption) (by first | omega | assumption) (fun c_4 => ?_) (fun c_4 => ?_)
    · exact absurd c_4 (by omega)
    · refine b_X1_put_13 (by first | omega | assumption) (by first | omega | assumption) (by first | omega | assumption) ?_
      refine b_X1_put_20  ?_
      exact hQ

theorem l_X1_countLess {Q : List rV → rW → Prop} {w : rW} {a n x : Int} (h : R0 w a n) (hx : R32 x) (hQ : Q [vi (cl (w (a + 1)) n x)] w) : ∀ (k : Nat) (i : Int), (n - i).toNat < k → 0 ≤ i → i ≤ n → (∀ j, 0 ≤ j → j < i → w (a + 1) j < x) → WP M_X1_countLess 2 [vr a, vi x, vi i] [] w Q := by
  obtain ⟨ha13, ho, ha1, h0, h1, hn0, hn4, hv⟩ := id h
  have h2 : al (w a 0) = 40 := by rw [h0]; exact ha1
  intro k
  induction k with
  | zero => intro i hk; omega
  | succ k ih =>
    intro i hk hi0 hin hlt
    have hv0 := fun q => hv i hi0 q
    refine b_X1_countLess_2 (by first | omega | assumption) (by first | omega | assumption) (by first | omega | assumption) (fun c_2 => ?_) (fun c_2 => ?_)
    · refine b_X1_countLess_25  ?_
      exact qe hQ (cl_is hi0 hin hlt (fun _ => by omega))
    · refine b_X1_countLess_10 (by first | omega | assumption) ?_
      refine s_X1_numberIn h (by omega) (by omega) ?_
      have hv1 := hv0 (by omega)
      refine b_X1_countLess_15 (by first | omega | assumption) (by first | omega | assumption) (fun c_15 => ?_) (fun c_15 => ?_)
      · refine b_X1_countLess_25  ?_
        exact qe hQ (cl_is hi0 hin hlt (fun _ => by omega))
      · refine b_X1_countLess_19  ?_
        exact ih _ (by omega) (by omega) (by omega) (fun j g1 g2 => by
              by_cases e : j = i
              · rw [e]; assumption
              · exact hlt j g1 (by omega))

theorem s_X1_countLess {Q : List rV → rW → Prop} {w : rW} {a n x : Int} (h : R0 w a n) (hx : R32 x) (hQ : Q [vi (cl (w (a + 1)) n x)] w) : WP M_X1_countLess 0 [vr a, vi x, vu] [] w Q := by
  have hn0 : 0 ≤ n := h.2.2.2.2.2.1
  refine b_X1_countLess_0 ?_
  exact l_X1_countLess h hx hQ _ 0 (Nat.lt_succ_self _) (Int.le_refl _) hn0 (fun j g1 g2 => by omega)

theorem s_X1_timesOf {Q : List rV → rW → Prop} {w : rW} {a n x : Int} (h : R0 w a n) (hx : 0 ≤ x ∧ x < 5000) (hQ : Q [vi (cl (w (a + 1)) n (x + 1) - cl (w (a + 1)) n x)] w) : WP M_X1_timesOf 0 [vr a, vi x] [] w Q := by
  obtain ⟨ha13, ho, ha1, h0, h1, hn0, hn4, hv⟩ := id h
  have h2 : al (w a 0) = 40 := by rw [h0]; exact ha1
  refine b_X1_timesOf_0 (by first | omega | assumption) ?_
  refine s_X1_countLess h (by omega) ?_
  refine b_X1_timesOf_7 (by first | omega | assumption) ?_
  refine s_X1_countLess h (by omega) ?_
  refine b_X1_timesOf_12  ?_
  exact hQ

theorem s_X1_holds {Q : List rV → rW → Prop} {w : rW} {a n x : Int} (h : R0 w a n) (hx : 0 ≤ x ∧ x < 5000) (hQ : ∀ r : Int, (r = 1 ∧ 0 < cl (w (a + 1)) n (x + 1) - cl (w (a + 1)) n x) ∨ (r = 0 ∧ ¬ 0 < cl (w (a + 1)) n (x + 1) - cl (w (a + 1)) n x) → Q [vi r] w) : WP M_X1_holds 0 [vr a, vi x] [] w Q := by
  obtain ⟨ha13, ho, ha1, h0, h1, hn0, hn4, hv⟩ := id h
  have h2 : al (w a 0) = 40 := by rw [h0]; exact ha1
  have g1 := cl_spec (f := w (a + 1)) (n := n) (x := x) hn0
  have g2 := cl_spec (f := w (a + 1)) (n := n) (x := x + 1) hn0
  refine b_X1_holds_0 (by first | omega | assumption) ?_
  refine s_X1_timesOf h hx ?_
  refine b_X1_holds_5 (by first | omega | assumption) (fun c_5 => ?_) (fun c_5 => ?_)
  · refine b_X1_holds_12  ?_
    refine b_X1_holds_13 (by first | omega | assumption) ?_
    exact hQ _ (by omega)
  · refine b_X1_holds_8  ?_
    refine b_X1_holds_13 (by first | omega | assumption) ?_
    exact hQ _ (by omega)

theorem s_X1_isNew {Q : List rV → rW → Prop} {w : rW} {a n i : Int} (h : R0 w a n) (hi0 : 0 ≤ i) (hin : i < n) (hQ : ∀ r : Int, (r = 1 ∧ (i = 0 ∨ ¬ w (a + 1) i = w (a + 1) (i - 1))) ∨ (r = 0 ∧ ¬ (i = 0 ∨ ¬ w (a + 1) i = w (a + 1) (i - 1))) → Q [vi r] w) : WP M_X1_isNew 0 [vr a, vi i] [] w Q := by
  obtain ⟨ha13, ho, ha1, h0, h1, hn0, hn4, hv⟩ := id h
  have h2 : al (w a 0) = 40 := by rw [h0]; exact ha1
  have hv0 := hv i hi0 hin
  refine b_X1_isNew_0 (by first | omega | assumption) (fun c_0 => ?_) (fun c_0 => ?_)
  · refine b_X1_isNew_19  ?_
    refine b_X1_isNew_24 (by first | omega | assumption) ?_
    exact hQ _ (by omega)
  · refine b_X1_isNew_4 (by first | omega | assumption) ?_
    refine s_X1_numberIn h (by omega) (by omega) ?_
    refine b_X1_isNew_9 (by first | omega | assumption) ?_
    refine s_X1_numberIn h (by omega) (by omega) ?_
    have hv1 := hv (i - 1) (by omega) (by omega)
    refine b_X1_isNew_16 (by first | omega | assumption) (by first | omega | assumption) (fun c_16 => ?_) (fun c_16 => ?_)
    · refine b_X1_isNew_23  ?_
      refine b_X1_isNew_24 (by first | omega | assumption) ?_
      exact hQ _ (by omega)
    · refine b_X1_isNew_19  ?_
      refine b_X1_isNew_24 (by first | omega | assumption) ?_
      exact hQ _ (by omega)

theorem l_X1_unlike {Q : List rV → rW → Prop} {w : rW} {a n : Int} (h : R0 w a n) (hQ : Q [vi (unl (w (a + 1)) n)] w) : ∀ (k : Nat) (i x : Int), (n - i).toNat < k → 0 ≤ i → i ≤ n → x = unl (w (a + 1)) i → WP M_X1_unlike 4 [vr a, vi x, vi i] [] w Q := by
  obtain ⟨ha13, ho, ha1, h0, h1, hn0, hn4, hv⟩ := id h
  have h2 : al (w a 0) = 40 := by rw [h0]; exact ha1
  intro k
  induction k with
  | zero => intro i x hk; omega
  | succ k ih =>
    intro i x hk hi0 hin ex
    refine b_X1_unlike_4 (by first | omega | assumption) (by first | omega | assumption) (by first | omega | assumption) (fun c_4 => ?_) (fun c_4 => ?_)
    · refine b_X1_unlike_29  ?_
      exact qe hQ (by rw [ex, (by omega : i = n)])
    · refine b_X1_unlike_12 (by first | omega | assumption) ?_
      refine s_X1_isNew h (by omega) (by omega) (fun r hr => ?_)
      refine b_X1_unlike_17 (by first | omega | assumption) (fun c_17 => ?_) (fun c_17 => ?_)
      · refine b_X1_unlike_23  ?_
        exact ih _ _ (by omega) (by omega) (by omega) (by
              unfold unl at ex ⊢
              rw [ct_s hi0, ← ex]
              first | (rw [if_pos (by omega)]; done) | (rw [if_neg (by omega)]; omega))
      · refine b_X1_unlike_20  ?_
        refine b_X1_unlike_23  ?_
        exact ih _ _ (by omega) (by omega) (by omega) (by
              unfold unl at ex ⊢
              rw [ct_s hi0, ← ex]
              first | (rw [if_pos (by omega)]; done) | (rw [if_neg (by omega)]; omega))

theorem s_X1_unlike {Q : List rV → rW → Prop} {w : rW} {a n : Int} (h : R0 w a n) (hQ : Q [vi (unl (w (a + 1)) n)] w) : WP M_X1_unlike 0 [vr a, vu, vu] [] w Q := by
  have hn0 : 0 ≤ n := h.2.2.2.2.2.1
  refine b_X1_unlike_0 ?_
  exact l_X1_unlike h hQ _ 0 0 (Nat.lt_succ_self _) (Int.le_refl _) hn0 rfl

theorem l_X1_lowerWord {Q : List rV → rW → Prop} {w : rW} {a n b F : Int} (hR : R1 w a n b) (hF : 0 ≤ F ∧ F < 40000) (hk1 : 1 ≤ wdn n b) (hQ : ∀ A, lwI (w (a + 1)) (wdn n b) F n A → Q [vl (iA A 4294967295)] w) : ∀ (k : Nat) (i A : Int), (n - i).toNat < k → 0 ≤ i → i ≤ n → lwI (w (a + 1)) (wdn n b) F i A → WP M_X1_lowerWord 10 [vr a, vi F, vi (wd n b), vl A, vu, vi i, vu, vu, vu] [] w Q := by
  intro k
  induction k with
  | zero => intro i A hk; omega
  | succ k ih =>
    intro i A hk hi0 hin hA
    obtain ⟨h, hb0, hb1, hb2⟩ := id hR
    obtain ⟨ha13, ho, ha1, h0, h1, hn0, hn4, hv⟩ := id h
    have hwb := wd_bd hn0 hb2
    have hpw := p2_w hn0 hb2
    have ew : wd n b = (wdn n b : Int) := rfl
    rw [ew] at hwb ih ⊢
    have m0 : 0 ≤ i * (wdn n b : Int) := Int.mul_nonneg hi0 (by omega)
    have m1 : i * (wdn n b : Int) ≤ 40 * 12 := Int.mul_le_mul (by omega) (by omega) (by omega) (by decide)
    have hA1 := hA.1
    have hA2 := hA.2.1
    refine b_X1_lowerWord_10 ho (by omega) (by omega) (fun g => ?_) (fun g => ?_)
    · have ei : i = n := by omega
      rw [ei] at hA
      exact b_X1_lowerWord_90 hA1 (by omega) (hQ A hA)
    · have hvi := hv i hi0 (by omega)
      refine b_X1_lowerWord_19 ho ?_
      refine s_X1_numberIn h hi0 (by omega) ?_
      refine b_X1_lowerWord_26 ho ?_
      refine s_X1_lowerPart hR (by omega) ?_
      have e1 := Int.emod_nonneg (w (a + 1) i) (Int.ne_of_gt (p2_pos (wdn n b)))
      have e2 := Int.emod_lt_of_pos (w (a + 1) i) (p2_pos (wdn n b))
      refine b_X1_lowerWord_29 (by omega) (by omega) (fun g1 => ?_) (fun g1 => ?_)
      · refine b_X1_lowerWord_63 (by omega) (fun g2 => absurd g2 (by omega)) (fun g2 => ?_)
        refine b_X1_lowerWord_68 (by omega) (by omega) (fun g3 => ?_) (fun g3 => ?_)
        · refine b_X1_lowerWord_84 ?_
          exact ih _ _ (by omega) (by omega) (by omega) (lw_n hA hk1 (by omega))
        · obtain ⟨t1, t2, t3⟩ := lw_r hA hk1 (by omega) hvi.1 (by omega) (by omega)
          refine b_X1_lowerWord_75 e1 (by omega) (by omega) (by omega) hA1 (by omega) t1 (by omega) ?_
          refine b_X1_lowerWord_84 ?_
          exact ih _ _ (by omega) (by omega) (by omega) t3
      · refine b_X1_lowerWord_45 (by omega) (fun g2 => ?_) (fun g2 => ?_)
        · refine b_X1_lowerWord_63 (by omega) (fun g3 => ?_) (fun g3 => absurd g3 (by omega))
          refine b_X1_lowerWord_84 ?_
          exact ih _ _ (by omega) (by omega) (by omega) (lw_n hA hk1 (by omega))
        · obtain ⟨t1, t2, t3⟩ := lw_l hA hk1 (by omega) hvi.1 (by omega) (by omega)
          refine b_X1_lowerWord_52 e1 (by omega) (by omega) hA1 (by omega) t1 (by omega) ?_
          refine b_X1_lowerWord_84 ?_
          exact ih _ _ (by omega) (by omega) (by omega) t3
theorem s_X1_lowerWord {Q : List rV → rW → Prop} {w : rW} {a n b F : Int} (hR : R1 w a n b) (hF : 0 ≤ F ∧ F < 40000) (hk1 : 1 ≤ wdn n b) (hQ : ∀ A, lwI (w (a + 1)) (wdn n b) F n A → Q [vl (iA A 4294967295)] w) : WP M_X1_lowerWord 0 [vr a, vi F, vu, vu, vu, vu, vu, vu, vu] [] w Q := by
  have ho : oc a = 1 := hR.1.2.1
  refine b_X1_lowerWord_0 ho ?_
  refine s_X1_width hR ?_
  refine b_X1_lowerWord_4 ?_
  exact l_X1_lowerWord hR hF hk1 hQ _ 0 0 (Nat.lt_succ_self _) (Int.le_refl _) hR.1.2.2.2.2.2.1 (lw_0 hF.1)
/-- the word of lower bits -/
def lbs (f : Int → Int) (n : Int) (k : Nat) (F r : Int) : Prop := 0 ≤ r ∧ r < 4294967296 ∧ ∀ j : Nat, j < 32 → r.toNat.testBit j = (decide (F + j < n * k) && bq f k (F + j))
theorem lbs_of {f : Int → Int} {n : Int} {k : Nat} {F A : Int} (h : lwI f k F n A) : lbs f n k F (iA A 4294967295) := by
  obtain ⟨h1, h2, h3⟩ := h
  have e : iA A 4294967295 = ((A.toNat % 2 ^ 32 : Nat) : Int) := by
    unfold iA
    rw [show (4294967295 : Int).toNat = 2 ^ 32 - 1 from rfl, Nat.and_two_pow_sub_one_eq_mod]
  rw [e]
  have h4 := Nat.mod_lt A.toNat (show 0 < 2 ^ 32 by decide)
  refine ⟨Int.natCast_nonneg _, Int.ofNat_lt.mpr h4, fun j hj => ?_⟩
  rw [Int.toNat_natCast, Nat.testBit_mod_two_pow, decide_eq_true hj, Bool.true_and, h3 j hj]
theorem lbs_congr {f g : Int → Int} {n : Int} {k : Nat} {F r : Int} (hF : 0 ≤ F) (hk : 1 ≤ k) (hE : Eqv n f g) (h : lbs f n k F r) : lbs g n k F r := by
  obtain ⟨h1, h2, h3⟩ := h
  refine ⟨h1, h2, fun j hj => ?_⟩
  rw [h3 j hj]
  by_cases z : F + j < n * k
  · have e : bq f k (F + j) = bq g k (F + j) := by
      unfold bq
      rw [hE ((F + j) / k) (Int.ediv_nonneg (by omega) (by omega)) (Int.ediv_lt_of_lt_mul (by omega) z)]
    rw [e]
  · rw [decide_eq_false z, Bool.false_and, Bool.false_and]
theorem stp {y j : Nat} {c : Int} (hb : (c = 1 ∧ y.testBit j = true) ∨ (c = 0 ∧ y.testBit j = false)) : 2 * ((y / 2 ^ (j + 1) : Nat) : Int) + c = ((y / 2 ^ j : Nat) : Int) := by
  rw [Nat.testBit_eq_decide_div_mod_eq] at hb
  have e : y / 2 ^ (j + 1) = y / 2 ^ j / 2 := by rw [Nat.pow_succ, Nat.div_div_eq_div_mul]
  rw [e]
  rcases hb with ⟨e1, e2⟩ | ⟨e1, e2⟩
  · have := of_decide_eq_true e2
    omega
  · have := of_decide_eq_false e2
    omega
theorem bqv {x : Int} {m : Nat} (hx : 0 ≤ x) : (iA (x / 2 ^ m) 1 = 1 ∧ x.toNat.testBit m = true) ∨ (iA (x / 2 ^ m) 1 = 0 ∧ x.toNat.testBit m = false) := by
  obtain ⟨y, rfl⟩ := Int.eq_ofNat_of_zero_le hx
  have e : iA ((y : Int) / 2 ^ m) 1 = ((y / 2 ^ m % 2 : Nat) : Int) := by
    have e1 : (y : Int) / 2 ^ m = ((y / 2 ^ m : Nat) : Int) := by
      rw [Int.natCast_ediv, Int.natCast_pow]
      rfl
    rw [e1]
    unfold iA
    rw [Int.toNat_natCast, show (1 : Int).toNat = 1 from rfl, Nat.and_one_is_mod]
  rw [e, Int.toNat_natCast, Nat.testBit_eq_decide_div_mod_eq]
  rcases Nat.mod_two_eq_zero_or_one (y / 2 ^ m) with z | z
  · rw [z]; exact Or.inr ⟨rfl, rfl⟩
  · rw [z]; exact Or.inl ⟨rfl, rfl⟩
theorem l_X4_lowerBits {Q : List rV → rW → Prop} {w : rW} {q n b W r : Int} (hM : MR w q n b) (hW : 0 ≤ W ∧ W ≤ 1000) (hk1 : 1 ≤ wdn n b) (hr : lbs (mf w q) n (wdn n b) (32 * W) r) (hQ : Q [vl r] w) : ∀ (j : Nat) (c : Int), j ≤ 32 → c = ((r.toNat / 2 ^ j : Nat) : Int) → WP M_X4_lowerBits 59 [vr 9, vi q, vi W, vi (wd n b), vi (n * wd n b), vl c, vu, vi ((j : Int) - 1), vu] [] w Q := by
  have ho : oc 9 = 4 := rfl
  obtain ⟨hq01, hm0, hmn, hmb, hn0, hn4, hb1, hb2, hv⟩ := id hM
  have hwb := wd_bd hn0 hb2
  have hpw := p2_w hn0 hb2
  have ew : wd n b = (wdn n b : Int) := rfl
  rw [ew] at hwb ⊢
  have m0 : 0 ≤ n * (wdn n b : Int) := Int.mul_nonneg hn0 (by omega)
  have m1 : n * (wdn n b : Int) ≤ 40 * 12 := Int.mul_le_mul (by omega) (by omega) (by omega) (by decide)
  obtain ⟨r1, r2, r3⟩ := hr
  intro j
  induction j with
  | zero =>
    intro c hj ec
    refine b_X4_lowerBits_59 (by omega) (fun g => ?_) (fun g => absurd g (by omega))
    refine b_X4_lowerBits_116 ?_
    have e : c = r := by
      rw [ec, Nat.pow_zero, Nat.div_one]
      exact Int.toNat_of_nonneg r1
    rw [e]
    exact hQ
  | succ j ih =>
    intro c hj ec
    have ej : ((j + 1 : Nat) : Int) - 1 = (j : Int) := by omega
    rw [ej]
    have hbit := r3 j (by omega)
    refine b_X4_lowerBits_59 (by omega) (fun g => absurd g (by omega)) (fun g => ?_)
    refine b_X4_lowerBits_64 (by omega) (by omega) (fun g1 => ?_) (fun g1 => ?_)
    · refine b_X4_lowerBits_105 ?_
      refine b_X4_lowerBits_106 (by decide) ?_
      rw [decide_eq_false (show ¬ 32 * W + (j : Int) < n * (wdn n b : Int) by omega), Bool.false_and] at hbit
      exact ih _ (by omega) (by rw [ec]; exact stp (Or.inr ⟨rfl, hbit⟩))
    · have d0 : 0 ≤ (32 * W + (j : Int)) / (wdn n b : Int) := Int.ediv_nonneg (by omega) (by omega)
      have d1 : (32 * W + (j : Int)) / (wdn n b : Int) < n := Int.ediv_lt_of_lt_mul (by omega) g1
      have d2 := Int.emod_nonneg (32 * W + (j : Int)) (show (wdn n b : Int) ≠ 0 by omega)
      have d3 := Int.emod_lt_of_pos (32 * W + (j : Int)) (show 0 < (wdn n b : Int) by omega)
      refine b_X4_lowerBits_86 (by omega) (by omega) (by omega) (by omega) ho ?_
      refine s_X4_lower hM d0 d1 ?_
      have hvp := hv _ d0 d1
      have e1 := Int.emod_nonneg (mf w q ((32 * W + (j : Int)) / (wdn n b : Int))) (Int.ne_of_gt (p2_pos (wdn n b)))
      have e2 := Int.emod_lt_of_pos (mf w q ((32 * W + (j : Int)) / (wdn n b : Int))) (p2_pos (wdn n b))
      refine b_X4_lowerBits_95 (by omega) (by omega) (by omega) (by omega) e1 (by omega) d2 (by omega) (Int.ediv_nonneg e1 (Int.le_of_lt (p2_pos _))) ?_
      have hv2 := bqv (m := ((32 * W + (j : Int)) % (wdn n b : Int)).toNat) e1
      rw [decide_eq_true g1, Bool.true_and] at hbit
      unfold bq at hbit
      rw [← hbit] at hv2
      refine b_X4_lowerBits_106 (by omega) ?_
      exact ih _ (by omega) (by rw [ec]; exact stp hv2)

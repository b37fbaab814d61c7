/-! lowerBits -/
theorem dvm {p i k : Int} (hk : 0 < k) (h1 : i * k ≤ p) (h2 : p < i * k + k) : p / k = i ∧ p % k = p - i * k := by
  have hd : p / k = i := by
    have h3 : i ≤ p / k := Int.le_ediv_of_mul_le hk h1
    have h4 : p / k < i + 1 := Int.ediv_lt_of_lt_mul hk (by rw [Int.add_mul, Int.one_mul]; exact h2)
    omega
  refine ⟨hd, ?_⟩
  have h5 := Int.mul_ediv_add_emod p k
  rw [hd, Int.mul_comm] at h5
  omega
def bq (f : Int → Int) (k : Nat) (p : Int) : Bool := (f (p / k) % 2 ^ k).toNat.testBit (p % k).toNat
def lwI (f : Int → Int) (k : Nat) (F i A : Int) : Prop := 0 ≤ A ∧ A < 17592186044416 ∧ ∀ j : Nat, j < 32 → A.toNat.testBit j = (decide (F + j < i * k) && bq f k (F + j))
theorem bq_at {f : Int → Int} {k : Nat} {p i : Int} (hk : 1 ≤ k) (h1 : i * k ≤ p) (h2 : p < i * k + k) : bq f k p = (f i % 2 ^ k).toNat.testBit (p - i * k).toNat := by
  obtain ⟨e1, e2⟩ := dvm (by omega) h1 h2
  unfold bq
  rw [e1, e2]
theorem lw_0 {f : Int → Int} {k : Nat} {F : Int} (hF : 0 ≤ F) : lwI f k F 0 0 := by
  refine ⟨Int.le_refl _, by decide, fun j hj => ?_⟩
  have e : decide (F + j < 0 * k) = false := decide_eq_false (by rw [Int.zero_mul]; omega)
  rw [e, Bool.false_and]
  exact Nat.zero_testBit j
theorem lw_n {f : Int → Int} {k : Nat} {F i A : Int} (h : lwI f k F i A) (hk : 1 ≤ k) (ha : 32 ≤ i * k - F ∨ i * k - F ≤ -k) : lwI f k F (i + 1) A := by
  obtain ⟨h1, h2, h3⟩ := h
  refine ⟨h1, h2, fun j hj => ?_⟩
  rw [h3 j hj, Int.add_mul, Int.one_mul]
  congr 1
  exact decide_eq_decide.mpr (by omega)
theorem iO_n {A : Int} {y : Nat} : iO A (y : Int) = ((A.toNat ||| y : Nat) : Int) := by
  unfold iO
  rw [Int.toNat_natCast]
theorem lw_s {f : Int → Int} {k y : Nat} {F i A : Int} (h : lwI f k F i A) (hy : y < 17592186044416) (hb : ∀ j : Nat, j < 32 → (decide (F + j < i * k) && bq f k (F + j) || y.testBit j) = (decide (F + j < i * k + k) && bq f k (F + j))) : lwI f k F (i + 1) (iO A y) := by
  obtain ⟨h1, h2, h3⟩ := h
  rw [iO_n]
  refine ⟨by omega, ?_, fun j hj => ?_⟩
  · have h4 : A.toNat ||| y < 2 ^ 44 := Nat.or_lt_two_pow (by omega) (by omega)
    omega
  · rw [Int.toNat_natCast, Nat.testBit_or, h3 j hj, Int.add_mul, Int.one_mul]
    exact hb j hj
theorem lowN {f : Int → Int} {k : Nat} {i : Int} (hf : 0 ≤ f i) : ∃ y : Nat, f i % 2 ^ k = y ∧ y < 2 ^ k ∧ (f i % 2 ^ k).toNat = y := by
  have h1 := Int.emod_nonneg (f i) (Int.ne_of_gt (p2_pos k))
  have h2 := Int.emod_lt_of_pos (f i) (p2_pos k)
  refine ⟨(f i % 2 ^ k).toNat, (Int.toNat_of_nonneg h1).symm, ?_, rfl⟩
  have h3 : (((f i % 2 ^ k).toNat : Nat) : Int) < ((2 ^ k : Nat) : Int) := by
    rw [Int.toNat_of_nonneg h1, Int.natCast_pow]
    exact h2
  exact Int.ofNat_lt.mp h3
theorem p12 {k : Nat} (h : k ≤ 12) : 2 ^ k ≤ 4096 := Nat.pow_le_pow_right (by decide) h
theorem lw_l {f : Int → Int} {k : Nat} {F i A : Int} (h : lwI f k F i A) (hk : 1 ≤ k) (hk2 : k ≤ 12) (hf : 0 ≤ f i) (a0 : 0 ≤ i * k - F) (a1 : i * k - F < 32) : 0 ≤ f i % 2 ^ k * 2 ^ (i * k - F).toNat ∧ f i % 2 ^ k * 2 ^ (i * k - F).toNat < 17592186044416 ∧ lwI f k F (i + 1) (iO A (f i % 2 ^ k * 2 ^ (i * k - F).toNat)) := by
  obtain ⟨y, e1, e2, e3⟩ := lowN (k := k) hf
  have hb : ∀ j : Nat, i * k ≤ F + j → F + j < i * k + k → bq f k (F + j) = y.testBit (F + j - i * k).toNat := fun j z1 z2 => by rw [bq_at hk z1 z2, e3]
  have e4 : f i % 2 ^ k * 2 ^ (i * k - F).toNat = ((y <<< (i * k - F).toNat : Nat) : Int) := by
    rw [e1, Nat.shiftLeft_eq, Int.natCast_mul, Int.natCast_pow]
    rfl
  have h5 : y <<< (i * k - F).toNat < 17592186044416 := by
    rw [Nat.shiftLeft_eq]
    have z1 := p12 hk2
    have z2 : 2 ^ (i * k - F).toNat ≤ 2 ^ 31 := Nat.pow_le_pow_right (by decide) (by omega)
    have z3 : y * 2 ^ (i * k - F).toNat ≤ 4096 * 2 ^ 31 := Nat.mul_le_mul (by omega) z2
    omega
  rw [e4]
  refine ⟨Int.natCast_nonneg _, Int.ofNat_lt.mpr h5, lw_s h h5 (fun j hj => ?_)⟩
  rw [Nat.testBit_shiftLeft]
  by_cases z1 : F + j < i * k
  · rw [decide_eq_true z1, decide_eq_true (show F + j < i * k + k by omega), decide_eq_false (show ¬ j ≥ (i * k - F).toNat by omega), Bool.false_and, Bool.or_false]
  · rw [decide_eq_false z1, decide_eq_true (show j ≥ (i * k - F).toNat by omega), Bool.false_and, Bool.false_or, Bool.true_and]
    by_cases z2 : F + j < i * k + k
    · rw [decide_eq_true z2, Bool.true_and, hb j (by omega) z2]
      congr 1
      omega
    · rw [decide_eq_false z2, Bool.false_and]
      refine Nat.testBit_lt_two_pow (Nat.lt_of_lt_of_le e2 (Nat.pow_le_pow_right (by decide) (by omega)))
theorem lw_r {f : Int → Int} {k : Nat} {F i A : Int} (h : lwI f k F i A) (hk : 1 ≤ k) (hk2 : k ≤ 12) (hf : 0 ≤ f i) (a0 : i * k - F < 0) (a1 : -k < i * k - F) : 0 ≤ f i % 2 ^ k / 2 ^ (-(i * k - F)).toNat ∧ f i % 2 ^ k / 2 ^ (-(i * k - F)).toNat < 17592186044416 ∧ lwI f k F (i + 1) (iO A (f i % 2 ^ k / 2 ^ (-(i * k - F)).toNat)) := by
  obtain ⟨y, e1, e2, e3⟩ := lowN (k := k) hf
  have hb : ∀ j : Nat, i * k ≤ F + j → F + j < i * k + k → bq f k (F + j) = y.testBit (F + j - i * k).toNat := fun j z1 z2 => by rw [bq_at hk z1 z2, e3]
  have e4 : f i % 2 ^ k / 2 ^ (-(i * k - F)).toNat = ((y >>> (-(i * k - F)).toNat : Nat) : Int) := by
    rw [e1, Nat.shiftRight_eq_div_pow, Int.natCast_ediv, Int.natCast_pow]
    rfl
  have h5 : y >>> (-(i * k - F)).toNat < 17592186044416 := by
    rw [Nat.shiftRight_eq_div_pow]
    have z1 := p12 hk2
    have z2 := Nat.div_le_self y (2 ^ (-(i * k - F)).toNat)
    omega
  rw [e4]
  refine ⟨Int.natCast_nonneg _, Int.ofNat_lt.mpr h5, lw_s h h5 (fun j hj => ?_)⟩
  rw [Nat.testBit_shiftRight, decide_eq_false (show ¬ F + j < i * k by omega), Bool.false_and, Bool.false_or]
  by_cases z2 : F + j < i * k + k
  · rw [decide_eq_true z2, Bool.true_and, hb j (by omega) z2]
    congr 1
    omega
  · rw [decide_eq_false z2, Bool.false_and]
    refine Nat.testBit_lt_two_pow (Nat.lt_of_lt_of_le e2 (Nat.pow_le_pow_right (by decide) (by omega)))

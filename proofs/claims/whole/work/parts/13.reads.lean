theorem p2_12 {i : Int} (h0 : 0 ≤ i) (h : i ≤ 12) : 0 < (2 : Int) ^ i.toNat ∧ (2 : Int) ^ i.toNat ≤ 4096 :=
  ⟨p2_pos _, p2_le (show i.toNat ≤ 12 by omega)⟩
theorem p2_s {i : Int} (h0 : 0 ≤ i) : (2 : Int) ^ (i + 1).toNat = 2 * 2 ^ i.toNat := by
  rw [show (i + 1).toNat = i.toNat + 1 by omega, Int.pow_succ, Int.mul_comm]
theorem wd_bd {n b : Int} (hn : 0 ≤ n) (hb : b ≤ 4096) : 0 ≤ wd n b ∧ wd n b ≤ 12 ∧ (wd n b).toNat = wdn n b := by
  have := wdn_b hn hb
  unfold wd
  exact ⟨by omega, by omega, rfl⟩
theorem p2_w {n b : Int} (hn : 0 ≤ n) (hb : b ≤ 4096) : 0 < (2 : Int) ^ wdn n b ∧ (2 : Int) ^ wdn n b ≤ 4096 := ⟨p2_pos _, p2_le (wdn_b hn hb)⟩
theorem dv_bd {n b : Int} (hn : 1 ≤ n) (h0 : 0 ≤ b) (hb : b ≤ 4096) : 0 ≤ b / n ∧ b / n ≤ 4096 :=
  ⟨Int.ediv_nonneg h0 (by omega), Int.le_trans (Int.ediv_le_self n h0) hb⟩
theorem wd_end {n b i : Int} (hn : 1 ≤ n) (h0 : 0 ≤ i) (h1 : i = 0 ∨ (2 : Int) ^ i.toNat ≤ b / n) (h2 : b / n < 2 * 2 ^ i.toNat) : i = wd n b := by
  have h3 : wdn n b = i.toNat := wd_is hn (by rcases h1 with q | q; exact Or.inl (by omega); exact Or.inr q) (by rw [Int.pow_succ, Int.mul_comm]; exact h2)
  unfold wd
  rw [h3]
  omega
theorem wd_0 {n b : Int} (h : n < 1) : wd n b = 0 := by unfold wd wdn; rw [if_pos h]; rfl
theorem iA_low {x : Int} {k : Nat} (hx : 0 ≤ x) : iA x (1 * 2 ^ k - 1) = x % 2 ^ k := by
  obtain ⟨n, rfl⟩ := Int.eq_ofNat_of_zero_le hx
  unfold iA
  have e : (1 * 2 ^ k - 1 : Int).toNat = 2 ^ k - 1 := by
    have h1 : (1 * 2 ^ k - 1 : Int) = ((2 ^ k - 1 : Nat) : Int) := by
      have := Nat.two_pow_pos k
      rw [Int.natCast_sub (by omega)]
      push_cast
      omega
    rw [h1]; rfl
  rw [e, Int.toNat_natCast, Nat.and_two_pow_sub_one_eq_mod]
  push_cast
  rfl
def ub (n b : Int) : Int := n + zf n b
theorem zf_bd {n b : Int} (hn : 0 ≤ n) (h1 : 1 ≤ b) (hb : b ≤ 4096) : 0 ≤ zf n b ∧ zf n b ≤ 4096 := by
  have h2 := p2_w hn hb
  have h3 : 0 ≤ (b - 1) / 2 ^ wdn n b := Int.ediv_nonneg (by omega) (by omega)
  have h4 : (b - 1) / 2 ^ wdn n b ≤ b - 1 := Int.ediv_le_self _ (by omega)
  unfold zf
  split <;> omega

theorem l_X3_widthFor {Q : List rV → rW → Prop} {w : rW} {n b : Int} (hn : 1 ≤ n) (hn4 : n ≤ 40) (hb : 1 ≤ b ∧ b ≤ 4096) (hQ : Q [vi (wd n b)] w) : ∀ (k : Nat) (i : Int), (13 - i).toNat < k → 0 ≤ i → i ≤ 12 → (i = 0 ∨ (2 : Int) ^ i.toNat ≤ b / n) → WP M_X3_widthFor 13 [vi n, vi b, vi (b / n), vi i] [] w Q := by
  intro k
  induction k with
  | zero => intro i hk; omega
  | succ k ih =>
    intro i hk hi0 hi12 hinv
    have hd := dv_bd hn (show 0 ≤ b by omega) hb.2
    have hp := p2_12 hi0 hi12
    have hps := p2_s hi0
    have h12 : i = 12 → (2 : Int) ^ i.toNat = 4096 := fun q => by subst q; decide
    refine b_X3_widthFor_13 (by first | omega | assumption) (fun c_13 => ?_) (fun c_13 => ?_)
    · refine b_X3_widthFor_32  ?_
      exact qe hQ (wd_end hn hi0 hinv (by omega)).symm
    · refine b_X3_widthFor_19 (by first | omega | assumption) (by first | omega | assumption) (by first | omega | assumption) (by first | omega | assumption) (by first | omega | assumption) (fun c_19 => ?_) (fun c_19 => ?_)
      · refine b_X3_widthFor_32  ?_
        exact qe hQ (wd_end hn hi0 hinv (by omega)).symm
      · refine b_X3_widthFor_26  ?_
        exact ih _ (by omega) (by omega) (by omega) (Or.inr (by rw [hps]; omega))

theorem l_X4_widthOf {Q : List rV → rW → Prop} {w : rW} {n b : Int} (hn : 1 ≤ n) (hn4 : n ≤ 40) (hb : 1 ≤ b ∧ b ≤ 4096) (hQ : Q [vi (wd n b)] w) : ∀ (k : Nat) (i : Int), (13 - i).toNat < k → 0 ≤ i → i ≤ 12 → (i = 0 ∨ (2 : Int) ^ i.toNat ≤ b / n) → WP M_X4_widthOf 2 [vi n, vi b, vi i] [] w Q := by
  intro k
  induction k with
  | zero => intro i hk; omega
  | succ k ih =>
    intro i hk hi0 hi12 hinv
    have hd := dv_bd hn (show 0 ≤ b by omega) hb.2
    have hp := p2_12 hi0 hi12
    have hps := p2_s hi0
    have h12 : i = 12 → (2 : Int) ^ i.toNat = 4096 := fun q => by subst q; decide
    refine b_X4_widthOf_2 (by first | omega | assumption) (fun c_2 => ?_) (fun c_2 => ?_)
    · exact absurd c_2 (by omega)
    · refine b_X4_widthOf_6 (by first | omega | assumption) (by first | omega | assumption) (by first | omega | assumption) (by first | omega | assumption) (by first | omega | assumption) (by first | omega | assumption) (by first | omega | assumption) (by first | omega | assumption) (by first | omega | assumption) (fun c_6 => ?_) (fun c_6 => ?_)
      · refine b_X4_widthOf_21  ?_
        exact qe hQ (wd_end hn hi0 hinv (by omega)).symm
      · refine b_X4_widthOf_15  ?_
        exact ih _ (by omega) (by omega) (by omega) (Or.inr (by rw [hps]; omega))

theorem s_X3_widthFor {Q : List rV → rW → Prop} {w : rW} {n b : Int} (hn : 0 ≤ n ∧ n ≤ 40) (hb : 1 ≤ b ∧ b ≤ 4096) (hQ : Q [vi (wd n b)] w) : WP M_X3_widthFor 0 [vi n, vi b, vu, vu] [] w Q := by
  refine b_X3_widthFor_0 (by first | omega | assumption) (fun c_0 => ?_) (fun c_0 => ?_)
  · refine b_X3_widthFor_7 (by first | omega | assumption) (by first | omega | assumption) (by first | omega | assumption) (by first | omega | assumption) ?_
    exact l_X3_widthFor (by omega) (by omega) hb hQ _ 0 (Nat.lt_succ_self _) (by decide) (by decide) (Or.inl rfl)
  · refine b_X3_widthFor_5  ?_
    exact qe hQ (wd_0 (by omega))

theorem s_X4_widthOf {Q : List rV → rW → Prop} {w : rW} {n b : Int} (hn : 0 ≤ n ∧ n ≤ 40) (hb : 1 ≤ b ∧ b ≤ 4096) (hQ : Q [vi (wd n b)] w) : WP M_X4_widthOf 0 [vi n, vi b, vu] [] w Q := by
  by_cases h1 : 1 ≤ n
  · refine b_X4_widthOf_0 ?_
    exact l_X4_widthOf h1 hn.2 hb hQ _ 0 (Nat.lt_succ_self _) (by decide) (by decide) (Or.inl rfl)
  · refine b_X4_widthOf_0 ?_
    refine b_X4_widthOf_2 (by omega) (fun c => ?_) (fun c => by omega)
    exact b_X4_widthOf_21 (qe hQ (wd_0 (by omega)))

theorem s_X3_zerosFor {Q : List rV → rW → Prop} {w : rW} {n b : Int} (hn : 0 ≤ n ∧ n ≤ 40) (hb : 1 ≤ b ∧ b ≤ 4096) (hQ : Q [vi (zf n b)] w) : WP M_X3_zerosFor 0 [vi n, vi b, vu] [] w Q := by
  have hwb := wd_bd hn.1 hb.2
  refine b_X3_zerosFor_0  ?_
  refine s_X3_widthFor hn hb ?_
  refine b_X3_zerosFor_8 (by first | omega | assumption) (by first | omega | assumption) (by first | omega | assumption) (by first | omega | assumption) (by first | omega | assumption) (fun c_8 => ?_) (fun c_8 => ?_)
  · refine b_X3_zerosFor_19  ?_
    refine b_X3_zerosFor_22  ?_
    refine qe hQ ?_
    unfold zf
    first | (rw [if_pos (by omega)]; rfl) | (rw [if_neg (by omega)]; rfl)
  · refine b_X3_zerosFor_15  ?_
    refine b_X3_zerosFor_22  ?_
    refine qe hQ ?_
    unfold zf
    first | (rw [if_pos (by omega)]; rfl) | (rw [if_neg (by omega)]; rfl)

theorem s_X3_bitsFor {Q : List rV → rW → Prop} {w : rW} {n b : Int} (hn : 0 ≤ n ∧ n ≤ 40) (hb : 1 ≤ b ∧ b ≤ 4096) (hQ : Q [vi (szf n b)] w) : WP M_X3_bitsFor 0 [vi n, vi b] [] w Q := by
  refine b_X3_bitsFor_0  ?_
  refine s_X3_zerosFor hn hb ?_
  refine b_X3_bitsFor_6  ?_
  refine s_X3_widthFor hn hb ?_
  refine b_X3_bitsFor_13  ?_
  exact hQ

theorem s_X4_upperBits {Q : List rV → rW → Prop} {w : rW} {n b : Int} (hn : 0 ≤ n ∧ n ≤ 40) (hb : 1 ≤ b ∧ b ≤ 4096) (hQ : Q [vi (ub n b)] w) : WP M_X4_upperBits 0 [vi n, vi b, vu] [] w Q := by
  have hwb := wd_bd hn.1 hb.2
  refine b_X4_upperBits_0  ?_
  refine s_X4_widthOf hn hb ?_
  refine b_X4_upperBits_8 (by first | omega | assumption) (by first | omega | assumption) (by first | omega | assumption) (by first | omega | assumption) (by first | omega | assumption) (fun c_8 => ?_) (fun c_8 => ?_)
  · refine b_X4_upperBits_18  ?_
    refine b_X4_upperBits_23  ?_
    refine qe hQ ?_
    unfold ub zf
    rw [hwb.2.2]
    first | (rw [if_pos (by omega)]; omega) | (rw [if_neg (by omega)]; omega)
  · refine b_X4_upperBits_14  ?_
    refine b_X4_upperBits_23  ?_
    refine qe hQ ?_
    unfold ub zf
    rw [hwb.2.2]
    first | (rw [if_pos (by omega)]; omega) | (rw [if_neg (by omega)]; omega)

theorem s_X4_sizeOf {Q : List rV → rW → Prop} {w : rW} {n b : Int} (hn : 0 ≤ n ∧ n ≤ 40) (hb : 1 ≤ b ∧ b ≤ 4096) (hQ : Q [vi (szf n b)] w) : WP M_X4_sizeOf 0 [vi n, vi b] [] w Q := by
  refine b_X4_sizeOf_0  ?_
  refine s_X4_upperBits hn hb ?_
  refine b_X4_sizeOf_5  ?_
  refine s_X4_widthOf hn hb ?_
  refine b_X4_sizeOf_11  ?_
  exact hQ

theorem s_X3_samplesOf {Q : List rV → rW → Prop} {w : rW} {a : Int} (h0 : 0 ≤ a) (h1 : a < 100000) (hQ : Q [vi ((a + 3) / 4)] w) : WP M_X3_samplesOf 0 [vi a] [] w Q := by
  refine b_X3_samplesOf_0 (by first | omega | assumption) (by first | omega | assumption) ?_
  exact qe hQ (by omega)

theorem s_X3_sampledAhead {Q : List rV → rW → Prop} {w : rW} {a : Int} (h0 : 0 ≤ a) (h1 : a < 100000) (hQ : Q [vi (a - a % 4)] w) : WP M_X3_sampledAhead 0 [vi a] [] w Q := by
  refine b_X3_sampledAhead_0 (by first | omega | assumption) (by first | omega | assumption) ?_
  exact hQ

/-- a row's object, with its bound -/
def R1 (w : rW) (a n b : Int) : Prop := R0 w a n ∧ w a 2 = b ∧ 2 ≤ b ∧ b ≤ 4096

theorem s_X1_width {Q : List rV → rW → Prop} {w : rW} {a n b : Int} (hR : R1 w a n b) (hQ : Q [vi (wd n b)] w) : WP M_X1_width 0 [vr a] [] w Q := by
  obtain ⟨h, hb0, hb1, hb2⟩ := id hR
  obtain ⟨ha13, ho, ha1, h0, h1, hn0, hn4, hv⟩ := id h
  have h2 : al (w a 0) = 40 := by rw [h0]; exact ha1
  have hn : 0 ≤ n ∧ n ≤ 40 := ⟨hn0, hn4⟩
  have hb : 1 ≤ b ∧ b ≤ 4096 := ⟨by omega, hb2⟩
  have hwb := wd_bd hn.1 hb.2
  have hpw := p2_w hn.1 hb.2
  refine b_X1_width_0 (by first | omega | assumption) ?_
  rw [h1, hb0]
  refine s_X3_widthFor hn hb ?_
  refine b_X1_width_11  ?_
  exact hQ

theorem s_X1_zeros {Q : List rV → rW → Prop} {w : rW} {a n b : Int} (hR : R1 w a n b) (hQ : Q [vi (zf n b)] w) : WP M_X1_zeros 0 [vr a] [] w Q := by
  obtain ⟨h, hb0, hb1, hb2⟩ := id hR
  obtain ⟨ha13, ho, ha1, h0, h1, hn0, hn4, hv⟩ := id h
  have h2 : al (w a 0) = 40 := by rw [h0]; exact ha1
  have hn : 0 ≤ n ∧ n ≤ 40 := ⟨hn0, hn4⟩
  have hb : 1 ≤ b ∧ b ≤ 4096 := ⟨by omega, hb2⟩
  have hwb := wd_bd hn.1 hb.2
  have hpw := p2_w hn.1 hb.2
  refine b_X1_zeros_0 (by first | omega | assumption) ?_
  rw [h1, hb0]
  refine s_X3_zerosFor hn hb ?_
  refine b_X1_zeros_11  ?_
  exact hQ

theorem s_X1_bits {Q : List rV → rW → Prop} {w : rW} {a n b : Int} (hR : R1 w a n b) (hQ : Q [vi (szf n b)] w) : WP M_X1_bits 0 [vr a] [] w Q := by
  obtain ⟨h, hb0, hb1, hb2⟩ := id hR
  obtain ⟨ha13, ho, ha1, h0, h1, hn0, hn4, hv⟩ := id h
  have h2 : al (w a 0) = 40 := by rw [h0]; exact ha1
  have hn : 0 ≤ n ∧ n ≤ 40 := ⟨hn0, hn4⟩
  have hb : 1 ≤ b ∧ b ≤ 4096 := ⟨by omega, hb2⟩
  have hwb := wd_bd hn.1 hb.2
  have hpw := p2_w hn.1 hb.2
  refine b_X1_bits_0 (by first | omega | assumption) ?_
  rw [h1, hb0]
  refine s_X3_bitsFor hn hb ?_
  refine b_X1_bits_11  ?_
  exact hQ

theorem s_X1_upperLength {Q : List rV → rW → Prop} {w : rW} {a n b : Int} (hR : R1 w a n b) (hQ : Q [vi (ub n b)] w) : WP M_X1_upperLength 0 [vr a] [] w Q := by
  obtain ⟨h, hb0, hb1, hb2⟩ := id hR
  obtain ⟨ha13, ho, ha1, h0, h1, hn0, hn4, hv⟩ := id h
  have h2 : al (w a 0) = 40 := by rw [h0]; exact ha1
  have hn : 0 ≤ n ∧ n ≤ 40 := ⟨hn0, hn4⟩
  have hb : 1 ≤ b ∧ b ≤ 4096 := ⟨by omega, hb2⟩
  have hwb := wd_bd hn.1 hb.2
  have hpw := p2_w hn.1 hb.2
  refine b_X1_upperLength_0 (by first | omega | assumption) ?_
  refine s_X1_zeros hR ?_
  refine b_X1_upperLength_8  ?_
  exact qe hQ (by unfold ub; rw [h1])

theorem s_X1_upperPart {Q : List rV → rW → Prop} {w : rW} {a n b x : Int} (hR : R1 w a n b) (hx : 0 ≤ x ∧ x < 100000) (hQ : Q [vi (x / 2 ^ wdn n b)] w) : WP M_X1_upperPart 0 [vr a, vi x] [] w Q := by
  obtain ⟨h, hb0, hb1, hb2⟩ := id hR
  obtain ⟨ha13, ho, ha1, h0, h1, hn0, hn4, hv⟩ := id h
  have h2 : al (w a 0) = 40 := by rw [h0]; exact ha1
  have hn : 0 ≤ n ∧ n ≤ 40 := ⟨hn0, hn4⟩
  have hb : 1 ≤ b ∧ b ≤ 4096 := ⟨by omega, hb2⟩
  have hwb := wd_bd hn.1 hb.2
  have hpw := p2_w hn.1 hb.2
  refine b_X1_upperPart_0 (by first | omega | assumption) ?_
  refine s_X1_width hR ?_
  refine b_X1_upperPart_5 (by first | omega | assumption) (by first | omega | assumption) (by first | omega | assumption) (by first | omega | assumption) ?_
  exact hQ

theorem s_X1_lowerPart {Q : List rV → rW → Prop} {w : rW} {a n b x : Int} (hR : R1 w a n b) (hx : 0 ≤ x ∧ x < 100000) (hQ : Q [vi (x % 2 ^ wdn n b)] w) : WP M_X1_lowerPart 0 [vr a, vi x] [] w Q := by
  obtain ⟨h, hb0, hb1, hb2⟩ := id hR
  obtain ⟨ha13, ho, ha1, h0, h1, hn0, hn4, hv⟩ := id h
  have h2 : al (w a 0) = 40 := by rw [h0]; exact ha1
  have hn : 0 ≤ n ∧ n ≤ 40 := ⟨hn0, hn4⟩
  have hb : 1 ≤ b ∧ b ≤ 4096 := ⟨by omega, hb2⟩
  have hwb := wd_bd hn.1 hb.2
  have hpw := p2_w hn.1 hb.2
  refine b_X1_lowerPart_0 (by first | omega | (rw [hwb.2.2]; omega) | assumption) ?_
  refine s_X1_width hR ?_
  refine b_X1_lowerPart_6 (by first | omega | (rw [hwb.2.2]; omega) | assumption) (by first | omega | (rw [hwb.2.2]; omega) | assumption) (by first | omega | (rw [hwb.2.2]; omega) | assumption) (by first | omega | (rw [hwb.2.2]; omega) | assumption) (by first | omega | (rw [hwb.2.2]; omega) | assumption) (by first | omega | (rw [hwb.2.2]; omega) | assumption) ?_
  exact qe hQ (by rw [hwb.2.2]; exact (iA_low hx.1).symm)

/-- the place of the one of a number -/
def pl (f : Int → Int) (n b i : Int) : Int := f i / 2 ^ wdn n b + i
/-- the place of a zero, by its number -/
def pz (f : Int → Int) (n b z : Int) : Int := z + cl f n ((z + 1) * 2 ^ wdn n b)
theorem dvp {x : Int} {k : Nat} (h : 0 ≤ x) : 0 ≤ x / 2 ^ k ∧ x / 2 ^ k ≤ x := ⟨Int.ediv_nonneg h (Int.le_of_lt (p2_pos k)), Int.ediv_le_self _ h⟩

theorem s_X1_placeOfOne {Q : List rV → rW → Prop} {w : rW} {a n b i : Int} (hR : R1 w a n b) (hi0 : 0 ≤ i) (hin : i < n) (hQ : Q [vi (pl (w (a + 1)) n b i)] w) : WP M_X1_placeOfOne 0 [vr a, vi i] [] w Q := by
  obtain ⟨h, hb0, hb1, hb2⟩ := id hR
  obtain ⟨ha13, ho, ha1, h0, h1, hn0, hn4, hv⟩ := id h
  have h2 : al (w a 0) = 40 := by rw [h0]; exact ha1
  have hn : 0 ≤ n ∧ n ≤ 40 := ⟨hn0, hn4⟩
  have hb : 1 ≤ b ∧ b ≤ 4096 := ⟨by omega, hb2⟩
  have hwb := wd_bd hn.1 hb.2
  have hpw := p2_w hn.1 hb.2
  have hvi := hv i hi0 hin
  refine b_X1_placeOfOne_0 (by first | omega | assumption) ?_
  refine s_X1_numberIn h (by omega) (by omega) ?_
  refine b_X1_placeOfOne_6 (by first | omega | assumption) ?_
  refine s_X1_upperPart hR (by omega) ?_
  refine b_X1_placeOfOne_9  ?_
  exact hQ

theorem s_X1_placeOfZero {Q : List rV → rW → Prop} {w : rW} {a n b z : Int} (hR : R1 w a n b) (hz : 0 ≤ z ∧ z < 5000) (hQ : Q [vi (pz (w (a + 1)) n b z)] w) : WP M_X1_placeOfZero 0 [vr a, vi z] [] w Q := by
  obtain ⟨h, hb0, hb1, hb2⟩ := id hR
  obtain ⟨ha13, ho, ha1, h0, h1, hn0, hn4, hv⟩ := id h
  have h2 : al (w a 0) = 40 := by rw [h0]; exact ha1
  have hn : 0 ≤ n ∧ n ≤ 40 := ⟨hn0, hn4⟩
  have hb : 1 ≤ b ∧ b ≤ 4096 := ⟨by omega, hb2⟩
  have hwb := wd_bd hn.1 hb.2
  have hpw := p2_w hn.1 hb.2
  have hm : 0 ≤ (z + 1) * 2 ^ wdn n b ∧ (z + 1) * 2 ^ wdn n b ≤ 5000 * 4096 := by
    refine ⟨Int.mul_nonneg (by omega) (by omega), ?_⟩
    exact Int.mul_le_mul (by omega) hpw.2 (by omega) (by decide)
  refine b_X1_placeOfZero_0 (by first | omega | (rw [hwb.2.2]; omega) | assumption) ?_
  refine s_X1_width hR ?_
  refine b_X1_placeOfZero_9 (by first | omega | (rw [hwb.2.2]; omega) | assumption) (by first | omega | (rw [hwb.2.2]; omega) | assumption) (by first | omega | (rw [hwb.2.2]; omega) | assumption) (by first | omega | (rw [hwb.2.2]; omega) | assumption) (by first | omega | (rw [hwb.2.2]; omega) | assumption) ?_
  rw [hwb.2.2]
  refine s_X1_countLess h (by omega) ?_
  refine b_X1_placeOfZero_13  ?_
  exact hQ

theorem l_X1_hasOneAt {Q : List rV → rW → Prop} {w : rW} {a n b p : Int} (hR : R1 w a n b) (hp : R32 p) (hQ : ∀ r : Int, (r = 1 ∧ ∃ i, 0 ≤ i ∧ i < n ∧ pl (w (a + 1)) n b i = p) ∨ (r = 0 ∧ ∀ i, 0 ≤ i → i < n → ¬ pl (w (a + 1)) n b i = p) → Q [vi r] w) : ∀ (k : Nat) (i : Int), (n - i).toNat < k → 0 ≤ i → i ≤ n → (∀ j, 0 ≤ j → j < i → ¬ pl (w (a + 1)) n b j = p) → WP M_X1_hasOneAt 2 [vr a, vi p, vi i] [] w Q := by
  obtain ⟨h, hb0, hb1, hb2⟩ := id hR
  obtain ⟨ha13, ho, ha1, h0, h1, hn0, hn4, hv⟩ := id h
  have h2 : al (w a 0) = 40 := by rw [h0]; exact ha1
  have hn : 0 ≤ n ∧ n ≤ 40 := ⟨hn0, hn4⟩
  have hb : 1 ≤ b ∧ b ≤ 4096 := ⟨by omega, hb2⟩
  have hwb := wd_bd hn.1 hb.2
  have hpw := p2_w hn.1 hb.2
  intro k
  induction k with
  | zero => intro i hk; omega
  | succ k ih =>
    intro i hk hi0 hin hlt
    refine b_X1_hasOneAt_2 (by first | omega | assumption) (by first | omega | assumption) (by first | omega | assumption) (fun c_2 => ?_) (fun c_2 => ?_)
    · refine b_X1_hasOneAt_27  ?_
      exact hQ _ (Or.inr ⟨rfl, fun j g1 g2 => hlt j g1 (by omega)⟩)
    · refine b_X1_hasOneAt_10 (by first | omega | assumption) ?_
      refine s_X1_placeOfOne hR (by omega) (by omega) ?_
      have hvi := hv i hi0 (by omega)
      have hpl : 0 ≤ pl (w (a + 1)) n b i ∧ pl (w (a + 1)) n b i ≤ 5000 := by
        have := dvp (k := wdn n b) hvi.1
        unfold pl
        omega
      refine b_X1_hasOneAt_15 (by first | omega | assumption) (by first | omega | assumption) (fun c_15 => ?_) (fun c_15 => ?_)
      · refine b_X1_hasOneAt_21  ?_
        exact ih _ (by omega) (by omega) (by omega) (fun j g1 g2 => by
              by_cases e : j = i
              · rw [e]; assumption
              · exact hlt j g1 (by omega))
      · refine b_X1_hasOneAt_19  ?_
        exact hQ _ (Or.inl ⟨rfl, i, hi0, by omega, by assumption⟩)

theorem s_X1_hasOneAt {Q : List rV → rW → Prop} {w : rW} {a n b p : Int} (hR : R1 w a n b) (hp : R32 p) (hQ : ∀ r : Int, (r = 1 ∧ ∃ i, 0 ≤ i ∧ i < n ∧ pl (w (a + 1)) n b i = p) ∨ (r = 0 ∧ ∀ i, 0 ≤ i → i < n → ¬ pl (w (a + 1)) n b i = p) → Q [vi r] w) : WP M_X1_hasOneAt 0 [vr a, vi p, vu] [] w Q := by
  have hn0 : 0 ≤ n := hR.1.2.2.2.2.2.1
  refine b_X1_hasOneAt_0 ?_
  exact l_X1_hasOneAt hR hp hQ _ 0 (Nat.lt_succ_self _) (Int.le_refl _) hn0 (fun j g1 g2 => by omega)

/-- the work of finding the next number -/
def wtn (f : Int → Int) (n b x : Int) : Int :=
  (if x / 2 ^ wdn n b ≤ 0 then 0 else pz f n b (x / 2 ^ wdn n b - 1) - pz f n b ((x / 2 ^ wdn n b - 1) - (x / 2 ^ wdn n b - 1) % 4)) + (if n ≤ cl f n x then ub n b else pl f n b (cl f n x) + 1) - (if x / 2 ^ wdn n b ≤ 0 then 0 else pz f n b (x / 2 ^ wdn n b - 1) + 1)

theorem s_X1_workToNext {Q : List rV → rW → Prop} {w : rW} {a n b x : Int} (hR : R1 w a n b) (hx : 0 ≤ x ∧ x ≤ 4095) (hQ : Q [vi (wtn (w (a + 1)) n b x)] w) : WP M_X1_workToNext 0 [vr a, vi x, vu, vu, vu, vu, vu] [] w Q := by
  obtain ⟨h, hb0, hb1, hb2⟩ := id hR
  obtain ⟨ha13, ho, ha1, h0, h1, hn0, hn4, hv⟩ := id h
  have h2 : al (w a 0) = 40 := by rw [h0]; exact ha1
  have hn : 0 ≤ n ∧ n ≤ 40 := ⟨hn0, hn4⟩
  have hb : 1 ≤ b ∧ b ≤ 4096 := ⟨by omega, hb2⟩
  have hwb := wd_bd hn.1 hb.2
  have hpw := p2_w hn.1 hb.2
  have hux := dvp (k := wdn n b) hx.1
  have hcl := cl_spec (f := w (a + 1)) (n := n) (x := x) hn0
  refine b_X1_workToNext_0 (by first | omega | assumption) ?_
  refine s_X1_upperPart hR (by omega) ?_
  refine b_X1_workToNext_5 (by first | omega | assumption) (fun c_5 => ?_) (fun c_5 => ?_)
  · refine b_X1_workToNext_47 (by first | omega | assumption) ?_
    refine s_X1_countLess h (by omega) ?_
    refine b_X1_workToNext_52 (by first | omega | assumption) (by first | omega | assumption) (by first | omega | assumption) (fun c_52 => ?_) (fun c_52 => ?_)
    · refine b_X1_workToNext_74 (by first | omega | assumption) ?_
      refine s_X1_upperLength hR ?_
      refine b_X1_workToNext_78  ?_
      refine qe hQ ?_
      unfold wtn
      first
      | (have hA : x / 2 ^ wdn n b ≤ 0 := (by omega); have hB : n ≤ cl (w (a + 1)) n x := (by omega); rw [if_pos hA, if_pos hA, if_pos hB]; try omega)
      | (have hA : x / 2 ^ wdn n b ≤ 0 := (by omega); have hB : ¬ n ≤ cl (w (a + 1)) n x := (by omega); rw [if_pos hA, if_pos hA, if_neg hB]; try omega)
      | (have hA : ¬ x / 2 ^ wdn n b ≤ 0 := (by omega); have hB : n ≤ cl (w (a + 1)) n x := (by omega); rw [if_neg hA, if_neg hA, if_pos hB]; try omega)
      | (have hA : ¬ x / 2 ^ wdn n b ≤ 0 := (by omega); have hB : ¬ n ≤ cl (w (a + 1)) n x := (by omega); rw [if_neg hA, if_neg hA, if_neg hB]; try omega)
    · refine b_X1_workToNext_63 (by first | omega | assumption) ?_
      refine s_X1_placeOfOne hR (by omega) (by omega) ?_
      refine b_X1_workToNext_69  ?_
      refine b_X1_workToNext_78  ?_
      refine qe hQ ?_
      unfold wtn
      first
      | (have hA : x / 2 ^ wdn n b ≤ 0 := (by omega); have hB : n ≤ cl (w (a + 1)) n x := (by omega); rw [if_pos hA, if_pos hA, if_pos hB]; try omega)
      | (have hA : x / 2 ^ wdn n b ≤ 0 := (by omega); have hB : ¬ n ≤ cl (w (a + 1)) n x := (by omega); rw [if_pos hA, if_pos hA, if_neg hB]; try omega)
      | (have hA : ¬ x / 2 ^ wdn n b ≤ 0 := (by omega); have hB : n ≤ cl (w (a + 1)) n x := (by omega); rw [if_neg hA, if_neg hA, if_pos hB]; try omega)
      | (have hA : ¬ x / 2 ^ wdn n b ≤ 0 := (by omega); have hB : ¬ n ≤ cl (w (a + 1)) n x := (by omega); rw [if_neg hA, if_neg hA, if_neg hB]; try omega)
  · refine b_X1_workToNext_15 (by first | omega | assumption) ?_
    refine s_X1_placeOfZero hR (by omega) ?_
    refine b_X1_workToNext_26 (by first | omega | assumption) ?_
    refine s_X1_placeOfZero hR (by omega) ?_
    refine b_X1_workToNext_35  ?_
    refine s_X3_sampledAhead (by omega) (by omega) ?_
    refine b_X1_workToNext_41 (by first | omega | assumption) ?_
    refine s_X1_placeOfZero hR (by omega) ?_
    refine b_X1_workToNext_44  ?_
    refine b_X1_workToNext_47 (by first | omega | assumption) ?_
    refine s_X1_countLess h (by omega) ?_
    refine b_X1_workToNext_52 (by first | omega | assumption) (by first | omega | assumption) (by first | omega | assumption) (fun c_52 => ?_) (fun c_52 => ?_)
    · refine b_X1_workToNext_74 (by first | omega | assumption) ?_
      refine s_X1_upperLength hR ?_
      refine b_X1_workToNext_78  ?_
      refine qe hQ ?_
      unfold wtn
      first
      | (have hA : x / 2 ^ wdn n b ≤ 0 := (by omega); have hB : n ≤ cl (w (a + 1)) n x := (by omega); rw [if_pos hA, if_pos hA, if_pos hB]; try omega)
      | (have hA : x / 2 ^ wdn n b ≤ 0 := (by omega); have hB : ¬ n ≤ cl (w (a + 1)) n x := (by omega); rw [if_pos hA, if_pos hA, if_neg hB]; try omega)
      | (have hA : ¬ x / 2 ^ wdn n b ≤ 0 := (by omega); have hB : n ≤ cl (w (a + 1)) n x := (by omega); rw [if_neg hA, if_neg hA, if_pos hB]; try omega)
      | (have hA : ¬ x / 2 ^ wdn n b ≤ 0 := (by omega); have hB : ¬ n ≤ cl (w (a + 1)) n x := (by omega); rw [if_neg hA, if_neg hA, if_neg hB]; try omega)
    · refine b_X1_workToNext_63 (by first | omega | assumption) ?_
      refine s_X1_placeOfOne hR (by omega) (by omega) ?_
      refine b_X1_workToNext_69  ?_
      refine b_X1_workToNext_78  ?_
      refine qe hQ ?_
      unfold wtn
      first
      | (have hA : x / 2 ^ wdn n b ≤ 0 := (by omega); have hB : n ≤ cl (w (a + 1)) n x := (by omega); rw [if_pos hA, if_pos hA, if_pos hB]; try omega)
      | (have hA : x / 2 ^ wdn n b ≤ 0 := (by omega); have hB : ¬ n ≤ cl (w (a + 1)) n x := (by omega); rw [if_pos hA, if_pos hA, if_neg hB]; try omega)
      | (have hA : ¬ x / 2 ^ wdn n b ≤ 0 := (by omega); have hB : n ≤ cl (w (a + 1)) n x := (by omega); rw [if_neg hA, if_neg hA, if_pos hB]; try omega)
      | (have hA : ¬ x / 2 ^ wdn n b ≤ 0 := (by omega); have hB : ¬ n ≤ cl (w (a + 1)) n x := (by omega); rw [if_neg hA, if_neg hA, if_neg hB]; try omega)

def sb (f : Int → Int) (n i : Int) : Int := if i + 1 < n then f (i + 1) - f i else 0
def Srt (f : Int → Int) (n : Int) : Prop := ∀ i j, 0 ≤ i → i ≤ j → j < n → f i ≤ f j

theorem s_X1_stepBehind {Q : List rV → rW → Prop} {w : rW} {a n i : Int} (h : R0 w a n) (hi0 : 0 ≤ i) (hin : i < n) (hQ : Q [vi (sb (w (a + 1)) n i)] w) : WP M_X1_stepBehind 0 [vr a, vi i] [] w Q := by
  obtain ⟨ha13, ho, ha1, h0, h1, hn0, hn4, hv⟩ := id h
  have h2 : al (w a 0) = 40 := by rw [h0]; exact ha1
  refine b_X1_stepBehind_0 (by first | omega | assumption) (by first | omega | assumption) (by first | omega | assumption) (fun c_0 => ?_) (fun c_0 => ?_)
  · refine b_X1_stepBehind_26  ?_
    refine b_X1_stepBehind_27  ?_
    refine qe hQ ?_
    unfold sb
    first | (rw [if_pos (by omega)]; done) | (rw [if_neg (by omega)]; done)
  · refine b_X1_stepBehind_10 (by first | omega | assumption) ?_
    refine s_X1_numberIn h (by omega) (by omega) ?_
    refine b_X1_stepBehind_17 (by first | omega | assumption) ?_
    refine s_X1_numberIn h (by omega) (by omega) ?_
    refine b_X1_stepBehind_22  ?_
    refine b_X1_stepBehind_27  ?_
    refine qe hQ ?_
    unfold sb
    first | (rw [if_pos (by omega)]; done) | (rw [if_neg (by omega)]; done)

theorem sb_bd {w : rW} {a n i : Int} (h : R0 w a n) (h0 : 0 ≤ i) : -4095 ≤ sb (w (a + 1)) n i ∧ sb (w (a + 1)) n i ≤ 4095 := by
  unfold sb
  split
  · have g1 := h.2.2.2.2.2.2.2 i h0 (by omega)
    have g2 := h.2.2.2.2.2.2.2 (i + 1) (by omega) (by omega)
    omega
  · omega
theorem sb_nn {f : Int → Int} {n i : Int} (h : Srt f n) (h0 : 0 ≤ i) : 0 ≤ sb f n i := by
  unfold sb
  split
  · have := h i (i + 1) h0 (by omega) (by omega); omega
  · omega
/-- the greatest step -/
def gst (f : Int → Int) (n r : Int) : Prop := 0 ≤ r ∧ r ≤ 4095 ∧ (∀ i, 0 ≤ i → i < n → sb f n i ≤ r) ∧ (r = 0 ∨ ∃ i, 0 ≤ i ∧ i < n ∧ sb f n i = r)

theorem l_X1_greatestStep {Q : List rV → rW → Prop} {w : rW} {a n : Int} (h : R0 w a n) (hQ : ∀ r, gst (w (a + 1)) n r → Q [vi r] w) : ∀ (k : Nat) (i g : Int), (n - i).toNat < k → 0 ≤ i → i ≤ n → 0 ≤ g → g ≤ 4095 → (∀ j, 0 ≤ j → j < i → sb (w (a + 1)) n j ≤ g) → (g = 0 ∨ ∃ j, 0 ≤ j ∧ j < i ∧ sb (w (a + 1)) n j = g) → WP M_X1_greatestStep 4 [vr a, vi g, vi i] [] w Q := by
  obtain ⟨ha13, ho, ha1, h0, h1, hn0, hn4, hv⟩ := id h
  have h2 : al (w a 0) = 40 := by rw [h0]; exact ha1
  intro k
  induction k with
  | zero => intro i g hk; omega
  | succ k ih =>
    intro i g hk hi0 hin hg0 hg1 hlt hex
    have hsb := sb_bd h hi0
    refine b_X1_greatestStep_4 (by first | omega | assumption) (by first | omega | assumption) (by first | omega | assumption) (fun c_4 => ?_) (fun c_4 => ?_)
    · refine b_X1_greatestStep_28  ?_
      refine hQ _ ⟨hg0, hg1, fun j q1 q2 => hlt j q1 (by omega), ?_⟩
      rcases hex with q | ⟨j, q1, q2, q3⟩
      · exact Or.inl q
      · exact Or.inr ⟨j, q1, by omega, q3⟩
    · refine b_X1_greatestStep_12 (by first | omega | assumption) ?_
      refine s_X1_stepBehind h (by omega) (by omega) ?_
      refine b_X1_greatestStep_18 (by first | omega | assumption) (by first | omega | assumption) ?_
      refine ih _ _ (by clear hex; omega) (by clear hex; omega) (by clear hex; omega) (by clear hex; omega) (by clear hex; omega) (fun j q1 q2 => ?_) ?_
      · by_cases e : j = i
        · rw [e]; exact Int.le_max_right _ _
        · exact Int.le_trans (hlt j q1 (by omega)) (Int.le_max_left _ _)
      · by_cases e : g ≤ sb (w (a + 1)) n i
        · rw [Int.max_eq_right e]; exact Or.inr ⟨i, hi0, by omega, rfl⟩
        · rw [Int.max_eq_left (by omega)]
          rcases hex with q | ⟨j, q1, q2, q3⟩
          · exact Or.inl q
          · exact Or.inr ⟨j, q1, by omega, q3⟩

theorem s_X1_greatestStep {Q : List rV → rW → Prop} {w : rW} {a n : Int} (h : R0 w a n) (hQ : ∀ r, gst (w (a + 1)) n r → Q [vi r] w) : WP M_X1_greatestStep 0 [vr a, vu, vu] [] w Q := by
  have hn0 : 0 ≤ n := h.2.2.2.2.2.1
  refine b_X1_greatestStep_0 ?_
  exact l_X1_greatestStep h hQ _ 0 0 (Nat.lt_succ_self _) (Int.le_refl _) hn0 (by decide) (by decide) (fun j g1 g2 => by omega) (Or.inl rfl)

/-- how many gaps are ahead of the one behind a number -/
def ga (f : Int → Int) (n i : Int) : Int := ct (fun j => sb f n j > sb f n i ∨ (sb f n j = sb f n i ∧ j < i)) n.toNat

theorem l_X1_gapsAhead {Q : List rV → rW → Prop} {w : rW} {a n i : Int} (h : R0 w a n) (hi0 : 0 ≤ i) (hin : i < n) (hQ : Q [vi (ga (w (a + 1)) n i)] w) : ∀ (k : Nat) (j x : Int), (n - j).toNat < k → 0 ≤ j → j ≤ n → x = ct (fun j => sb (w (a + 1)) n j > sb (w (a + 1)) n i ∨ (sb (w (a + 1)) n j = sb (w (a + 1)) n i ∧ j < i)) j.toNat → WP M_X1_gapsAhead 11 [vr a, vi i, vi (sb (w (a + 1)) n i), vi x, vi j] [] w Q := by
  obtain ⟨ha13, ho, ha1, h0, h1, hn0, hn4, hv⟩ := id h
  have h2 : al (w a 0) = 40 := by rw [h0]; exact ha1
  have hsi := sb_bd h hi0
  intro k
  induction k with
  | zero => intro j x hk; omega
  | succ k ih =>
    intro j x hk hj0 hjn ex
    have hsj := sb_bd h hj0
    refine b_X1_gapsAhead_11 (by first | omega | assumption) (by first | omega | assumption) (by first | omega | assumption) (fun c_11 => ?_) (fun c_11 => ?_)
    · refine b_X1_gapsAhead_55  ?_
      exact qe hQ (by rw [ex]; unfold ga; rw [(by omega : j = n)])
    · refine b_X1_gapsAhead_20 (by first | omega | assumption) ?_
      refine s_X1_stepBehind h (by omega) (by omega) ?_
      refine b_X1_gapsAhead_26 (by first | omega | assumption) (by first | omega | assumption) (fun c_26 => ?_) (fun c_26 => ?_)
      · refine b_X1_gapsAhead_46  ?_
        refine b_X1_gapsAhead_49  ?_
        exact ih _ _ (by omega) (by omega) (by omega) (by
              rw [ct_s hj0, ← ex]
              first | (rw [if_pos (by omega)]; done) | (rw [if_neg (by omega)]; omega))
      · refine b_X1_gapsAhead_30 (by first | omega | assumption) ?_
        refine s_X1_stepBehind h (by omega) (by omega) ?_
        refine b_X1_gapsAhead_36 (by first | omega | assumption) (by first | omega | assumption) (fun c_36 => ?_) (fun c_36 => ?_)
        · refine b_X1_gapsAhead_49  ?_
          exact ih _ _ (by omega) (by omega) (by omega) (by
                rw [ct_s hj0, ← ex]
                first | (rw [if_pos (by omega)]; done) | (rw [if_neg (by omega)]; omega))
        · refine b_X1_gapsAhead_40 (by first | omega | assumption) (by first | omega | assumption) (fun c_40 => ?_) (fun c_40 => ?_)
          · refine b_X1_gapsAhead_49  ?_
            exact ih _ _ (by omega) (by omega) (by omega) (by
                  rw [ct_s hj0, ← ex]
                  first | (rw [if_pos (by omega)]; done) | (rw [if_neg (by omega)]; omega))
          · refine b_X1_gapsAhead_46  ?_
            refine b_X1_gapsAhead_49  ?_
            exact ih _ _ (by omega) (by omega) (by omega) (by
                  rw [ct_s hj0, ← ex]
                  first | (rw [if_pos (by omega)]; done) | (rw [if_neg (by omega)]; omega))

theorem s_X1_gapsAhead {Q : List rV → rW → Prop} {w : rW} {a n i : Int} (h : R0 w a n) (hi0 : 0 ≤ i) (hin : i < n) (hQ : Q [vi (ga (w (a + 1)) n i)] w) : WP M_X1_gapsAhead 0 [vr a, vi i, vu, vu, vu] [] w Q := by
  obtain ⟨ha13, ho, ha1, h0, h1, hn0, hn4, hv⟩ := id h
  have h2 : al (w a 0) = 40 := by rw [h0]; exact ha1
  refine b_X1_gapsAhead_0 (by first | omega | assumption) ?_
  refine s_X1_stepBehind h (by omega) (by omega) ?_
  refine b_X1_gapsAhead_5  ?_
  exact l_X1_gapsAhead h hi0 hin hQ _ 0 0 (Nat.lt_succ_self _) (by omega) (by omega) rfl

theorem ga_bd {f : Int → Int} {n i : Int} (h : n ≤ 40) : 0 ≤ ga f n i ∧ ga f n i ≤ 40 := by
  have := ct_bd (fun j => sb f n j > sb f n i ∨ (sb f n j = sb f n i ∧ j < i)) n.toNat
  unfold ga
  omega
/-- the gap with so many ahead of it -/
def gap (f : Int → Int) (n p i : Int) : Prop := 2 ≤ sb f n i ∧ ga f n i = p

theorem l_X1_indexOfGap {Q : List rV → rW → Prop} {w : rW} {a n p : Int} (h : R0 w a n) (hp : R32 p) (hQ : ∀ r, (r = -1 ∧ ∀ i, 0 ≤ i → i < n → ¬ gap (w (a + 1)) n p i) ∨ (0 ≤ r ∧ r < n ∧ gap (w (a + 1)) n p r ∧ ∀ i, 0 ≤ i → i < r → ¬ gap (w (a + 1)) n p i) → Q [vi r] w) : ∀ (k : Nat) (i : Int), (n - i).toNat < k → 0 ≤ i → i ≤ n → (∀ j, 0 ≤ j → j < i → ¬ gap (w (a + 1)) n p j) → WP M_X1_indexOfGap 2 [vr a, vi p, vi i] [] w Q := by
  obtain ⟨ha13, ho, ha1, h0, h1, hn0, hn4, hv⟩ := id h
  have h2 : al (w a 0) = 40 := by rw [h0]; exact ha1
  intro k
  induction k with
  | zero => intro i hk; omega
  | succ k ih =>
    intro i hk hi0 hin hlt
    have hsb := sb_bd h hi0
    have hga := ga_bd (f := w (a + 1)) (i := i) hn4
    refine b_X1_indexOfGap_2 (by first | omega | assumption) (by first | omega | assumption) (by first | omega | assumption) (fun c_2 => ?_) (fun c_2 => ?_)
    · refine b_X1_indexOfGap_36  ?_
      exact hQ _ (Or.inl ⟨rfl, fun j q1 q2 => hlt j q1 (by omega)⟩)
    · refine b_X1_indexOfGap_10 (by first | omega | assumption) ?_
      refine s_X1_stepBehind h (by omega) (by omega) ?_
      refine b_X1_indexOfGap_15 (by first | omega | assumption) (fun c_15 => ?_) (fun c_15 => ?_)
      · refine b_X1_indexOfGap_30  ?_
        exact ih _ (by omega) (by omega) (by omega) (fun j q1 q2 => by
              by_cases e : j = i
              · rw [e]; intro q; unfold gap at q; omega
              · exact hlt j q1 (by omega))
      · refine b_X1_indexOfGap_19 (by first | omega | assumption) ?_
        refine s_X1_gapsAhead h (by omega) (by omega) ?_
        refine b_X1_indexOfGap_24 (by first | omega | assumption) (by first | omega | assumption) (fun c_24 => ?_) (fun c_24 => ?_)
        · refine b_X1_indexOfGap_30  ?_
          exact ih _ (by omega) (by omega) (by omega) (fun j q1 q2 => by
                by_cases e : j = i
                · rw [e]; intro q; unfold gap at q; omega
                · exact hlt j q1 (by omega))
        · refine b_X1_indexOfGap_28  ?_
          exact hQ _ (Or.inr ⟨hi0, by omega, ⟨by omega, by omega⟩, hlt⟩)

theorem s_X1_indexOfGap {Q : List rV → rW → Prop} {w : rW} {a n p : Int} (h : R0 w a n) (hp : R32 p) (hQ : ∀ r, (r = -1 ∧ ∀ i, 0 ≤ i → i < n → ¬ gap (w (a + 1)) n p i) ∨ (0 ≤ r ∧ r < n ∧ gap (w (a + 1)) n p r ∧ ∀ i, 0 ≤ i → i < r → ¬ gap (w (a + 1)) n p i) → Q [vi r] w) : WP M_X1_indexOfGap 0 [vr a, vi p, vu] [] w Q := by
  have hn0 : 0 ≤ n := h.2.2.2.2.2.1
  refine b_X1_indexOfGap_0 ?_
  exact l_X1_indexOfGap h hp hQ _ 0 (Nat.lt_succ_self _) (Int.le_refl _) hn0 (fun j g1 g2 => by omega)

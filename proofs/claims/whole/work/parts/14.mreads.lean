/-- a number of the reference's rows -/
def mf (w : rW) (q : Int) : Int → Int := fun i => w 10 (42 * q + 2 + i)
/-- the reference's row q -/
def MR (w : rW) (q n b : Int) : Prop := (q = 0 ∨ q = 1) ∧ w 9 0 = 10 ∧ w 10 (42 * q) = n ∧ w 10 (42 * q + 1) = b ∧ 0 ≤ n ∧ n ≤ 40 ∧ 2 ≤ b ∧ b ≤ 4096 ∧ ∀ i, 0 ≤ i → i < n → 0 ≤ mf w q i ∧ mf w q i ≤ 4095

theorem s_X4_many {Q : List rV → rW → Prop} {w : rW} {q n b : Int} (hM : MR w q n b) (hQ : Q [vi n] w) : WP M_X4_many 0 [vr 9, vi q] [] w Q := by
  obtain ⟨hq01, hm0, hmn, hmb, hn0, hn4, hb1, hb2, hv⟩ := id hM
  have ho : oc 9 = 4 := rfl
  have ha : al (w 9 0) = 84 := by rw [hm0]; rfl
  have hn : 0 ≤ n ∧ n ≤ 40 := ⟨hn0, hn4⟩
  have hb : 1 ≤ b ∧ b ≤ 4096 := ⟨by omega, hb2⟩
  have hwb := wd_bd hn.1 hb.2
  have hpw := p2_w hn.1 hb.2
  refine b_X4_many_0 (by first | omega | assumption) (by first | omega | assumption) (by first | omega | assumption) ?_
  exact qe hQ (by rw [hm0]; exact hmn.symm)

theorem s_X4_number {Q : List rV → rW → Prop} {w : rW} {q n b i : Int} (hM : MR w q n b) (h0 : 0 ≤ i) (h1 : i < 40) (hQ : Q [vi (mf w q i)] w) : WP M_X4_number 0 [vr 9, vi q, vi i] [] w Q := by
  obtain ⟨hq01, hm0, hmn, hmb, hn0, hn4, hb1, hb2, hv⟩ := id hM
  have ho : oc 9 = 4 := rfl
  have ha : al (w 9 0) = 84 := by rw [hm0]; rfl
  have hn : 0 ≤ n ∧ n ≤ 40 := ⟨hn0, hn4⟩
  have hb : 1 ≤ b ∧ b ≤ 4096 := ⟨by omega, hb2⟩
  have hwb := wd_bd hn.1 hb.2
  have hpw := p2_w hn.1 hb.2
  refine b_X4_number_0 (by first | omega | assumption) (by first | omega | assumption) (by first | omega | assumption) ?_
  exact qe hQ (by rw [hm0]; rfl)

theorem l_X4_less {Q : List rV → rW → Prop} {w : rW} {q n b x : Int} (hM : MR w q n b) (hx : R32 x) (hQ : Q [vi (cl (mf w q) n x)] w) : ∀ (k : Nat) (i : Int), (n - i).toNat < k → 0 ≤ i → i ≤ n → (∀ j, 0 ≤ j → j < i → mf w q j < x) → WP M_X4_less 2 [vr 9, vi q, vi x, vi i] [] w Q := by
  obtain ⟨hq01, hm0, hmn, hmb, hn0, hn4, hb1, hb2, hv⟩ := id hM
  have ho : oc 9 = 4 := rfl
  have ha : al (w 9 0) = 84 := by rw [hm0]; rfl
  have hn : 0 ≤ n ∧ n ≤ 40 := ⟨hn0, hn4⟩
  have hb : 1 ≤ b ∧ b ≤ 4096 := ⟨by omega, hb2⟩
  have hwb := wd_bd hn.1 hb.2
  have hpw := p2_w hn.1 hb.2
  intro k
  induction k with
  | zero => intro i hk; omega
  | succ k ih =>
    intro i hk hi0 hin hlt
    have hv0 := fun z => hv i hi0 z
    refine b_X4_less_2 (by first | omega | assumption) ?_
    refine s_X4_many hM ?_
    refine b_X4_less_8 (by first | omega | assumption) (by first | omega | assumption) (fun c_8 => ?_) (fun c_8 => ?_)
    · refine b_X4_less_27  ?_
      exact qe hQ (cl_is hi0 hin hlt (fun _ => by omega))
    · refine b_X4_less_11 (by first | omega | assumption) ?_
      refine s_X4_number hM (by omega) (by omega) ?_
      have hv1 := hv0 (by omega)
      refine b_X4_less_17 (by first | omega | assumption) (by first | omega | assumption) (fun c_17 => ?_) (fun c_17 => ?_)
      · refine b_X4_less_27  ?_
        exact qe hQ (cl_is hi0 hin hlt (fun _ => by omega))
      · refine b_X4_less_21  ?_
        exact ih _ (by omega) (by omega) (by omega) (fun j g1 g2 => by
              by_cases e : j = i
              · rw [e]; assumption
              · exact hlt j g1 (by omega))

theorem s_X4_less {Q : List rV → rW → Prop} {w : rW} {q n b x : Int} (hM : MR w q n b) (hx : R32 x) (hQ : Q [vi (cl (mf w q) n x)] w) : WP M_X4_less 0 [vr 9, vi q, vi x, vu] [] w Q := by
  have hn0 : 0 ≤ n := hM.2.2.2.2.1
  refine b_X4_less_0 ?_
  exact l_X4_less hM hx hQ _ 0 (Nat.lt_succ_self _) (Int.le_refl _) hn0 (fun j g1 g2 => by omega)

theorem s_X4_width {Q : List rV → rW → Prop} {w : rW} {q n b : Int} (hM : MR w q n b) (hQ : Q [vi (wd n b)] w) : WP M_X4_width 0 [vr 9, vi q] [] w Q := by
  obtain ⟨hq01, hm0, hmn, hmb, hn0, hn4, hb1, hb2, hv⟩ := id hM
  have ho : oc 9 = 4 := rfl
  have ha : al (w 9 0) = 84 := by rw [hm0]; rfl
  have hn : 0 ≤ n ∧ n ≤ 40 := ⟨hn0, hn4⟩
  have hb : 1 ≤ b ∧ b ≤ 4096 := ⟨by omega, hb2⟩
  have hwb := wd_bd hn.1 hb.2
  have hpw := p2_w hn.1 hb.2
  refine b_X4_width_0 (by first | omega | assumption) ?_
  refine s_X4_many hM ?_
  refine b_X4_width_5 (by first | omega | assumption) (by first | omega | assumption) (by first | omega | assumption) ?_
  rw [hm0, hmb]
  refine s_X4_widthOf hn hb ?_
  refine b_X4_width_19  ?_
  exact hQ

theorem s_X4_size {Q : List rV → rW → Prop} {w : rW} {q n b : Int} (hM : MR w q n b) (hQ : Q [vi (szf n b)] w) : WP M_X4_size 0 [vr 9, vi q] [] w Q := by
  obtain ⟨hq01, hm0, hmn, hmb, hn0, hn4, hb1, hb2, hv⟩ := id hM
  have ho : oc 9 = 4 := rfl
  have ha : al (w 9 0) = 84 := by rw [hm0]; rfl
  have hn : 0 ≤ n ∧ n ≤ 40 := ⟨hn0, hn4⟩
  have hb : 1 ≤ b ∧ b ≤ 4096 := ⟨by omega, hb2⟩
  have hwb := wd_bd hn.1 hb.2
  have hpw := p2_w hn.1 hb.2
  refine b_X4_size_0 (by first | omega | assumption) ?_
  refine s_X4_many hM ?_
  refine b_X4_size_5 (by first | omega | assumption) (by first | omega | assumption) (by first | omega | assumption) ?_
  rw [hm0, hmb]
  refine s_X4_sizeOf hn hb ?_
  refine b_X4_size_19  ?_
  exact hQ

theorem s_X4_placeOf {Q : List rV → rW → Prop} {w : rW} {q n b i : Int} (hM : MR w q n b) (h0 : 0 ≤ i) (h1 : i < n) (hQ : Q [vi (pl (mf w q) n b i)] w) : WP M_X4_placeOf 0 [vr 9, vi q, vi i] [] w Q := by
  obtain ⟨hq01, hm0, hmn, hmb, hn0, hn4, hb1, hb2, hv⟩ := id hM
  have ho : oc 9 = 4 := rfl
  have ha : al (w 9 0) = 84 := by rw [hm0]; rfl
  have hn : 0 ≤ n ∧ n ≤ 40 := ⟨hn0, hn4⟩
  have hb : 1 ≤ b ∧ b ≤ 4096 := ⟨by omega, hb2⟩
  have hwb := wd_bd hn.1 hb.2
  have hpw := p2_w hn.1 hb.2
  have hvi := hv i h0 h1
  refine b_X4_placeOf_0 (by first | omega | assumption) ?_
  refine s_X4_number hM (by omega) (by omega) ?_
  refine b_X4_placeOf_6 (by first | omega | assumption) ?_
  refine s_X4_width hM ?_
  refine b_X4_placeOf_11 (by first | omega | assumption) (by first | omega | assumption) (by first | omega | assumption) (by first | omega | assumption) ?_
  exact hQ

theorem s_X4_lower {Q : List rV → rW → Prop} {w : rW} {q n b i : Int} (hM : MR w q n b) (h0 : 0 ≤ i) (h1 : i < n) (hQ : Q [vi (mf w q i % 2 ^ wdn n b)] w) : WP M_X4_lower 0 [vr 9, vi q, vi i] [] w Q := by
  obtain ⟨hq01, hm0, hmn, hmb, hn0, hn4, hb1, hb2, hv⟩ := id hM
  have ho : oc 9 = 4 := rfl
  have ha : al (w 9 0) = 84 := by rw [hm0]; rfl
  have hn : 0 ≤ n ∧ n ≤ 40 := ⟨hn0, hn4⟩
  have hb : 1 ≤ b ∧ b ≤ 4096 := ⟨by omega, hb2⟩
  have hwb := wd_bd hn.1 hb.2
  have hpw := p2_w hn.1 hb.2
  have hvi := hv i h0 h1
  refine b_X4_lower_0 (by first | omega | (rw [hwb.2.2]; omega) | assumption) ?_
  refine s_X4_number hM (by omega) (by omega) ?_
  refine b_X4_lower_6 (by first | omega | (rw [hwb.2.2]; omega) | assumption) ?_
  refine s_X4_width hM ?_
  refine b_X4_lower_12 (by first | omega | (rw [hwb.2.2]; omega) | assumption) (by first | omega | (rw [hwb.2.2]; omega) | assumption) (by first | omega | (rw [hwb.2.2]; omega) | assumption) (by first | omega | (rw [hwb.2.2]; omega) | assumption) (by first | omega | (rw [hwb.2.2]; omega) | assumption) (by first | omega | (rw [hwb.2.2]; omega) | assumption) ?_
  exact qe hQ (by rw [hwb.2.2]; exact (iA_low hvi.1).symm)

theorem s_X4_has {Q : List rV → rW → Prop} {w : rW} {q n b x : Int} (hM : MR w q n b) (hx : R32 x) (hQ : ∀ r : Int, (r = 1 ∧ cl (mf w q) n x < n ∧ mf w q (cl (mf w q) n x) = x) ∨ (r = 0 ∧ ¬ (cl (mf w q) n x < n ∧ mf w q (cl (mf w q) n x) = x)) → Q [vi r] w) : WP M_X4_has 0 [vr 9, vi q, vi x, vu] [] w Q := by
  obtain ⟨hq01, hm0, hmn, hmb, hn0, hn4, hb1, hb2, hv⟩ := id hM
  have ho : oc 9 = 4 := rfl
  have ha : al (w 9 0) = 84 := by rw [hm0]; rfl
  have hn : 0 ≤ n ∧ n ≤ 40 := ⟨hn0, hn4⟩
  have hb : 1 ≤ b ∧ b ≤ 4096 := ⟨by omega, hb2⟩
  have hwb := wd_bd hn.1 hb.2
  have hpw := p2_w hn.1 hb.2
  have hcl := cl_spec (f := mf w q) (n := n) (x := x) hn0
  refine b_X4_has_0 (by first | omega | assumption) ?_
  refine s_X4_less hM (by omega) ?_
  refine b_X4_has_6 (by first | omega | assumption) ?_
  refine s_X4_many hM ?_
  refine b_X4_has_13 (by first | omega | assumption) (by first | omega | assumption) (fun c_13 => ?_) (fun c_13 => ?_)
  · refine b_X4_has_30  ?_
    refine b_X4_has_31 (by first | omega | assumption) ?_
    exact hQ _ (by omega)
  · refine b_X4_has_16 (by first | omega | assumption) ?_
    refine s_X4_number hM (by omega) (by omega) ?_
    have hv1 := hv _ hcl.1 (by omega)
    refine b_X4_has_22 (by first | omega | assumption) (by first | omega | assumption) (fun c_22 => ?_) (fun c_22 => ?_)
    · refine b_X4_has_30  ?_
      refine b_X4_has_31 (by first | omega | assumption) ?_
      exact hQ _ (by omega)
    · refine b_X4_has_26  ?_
      refine b_X4_has_31 (by first | omega | assumption) ?_
      exact hQ _ (by omega)

theorem s_X4_times {Q : List rV → rW → Prop} {w : rW} {q n b x : Int} (hM : MR w q n b) (hx : 0 ≤ x ∧ x < 5000) (hQ : Q [vi (cl (mf w q) n (x + 1) - cl (mf w q) n x)] w) : WP M_X4_times 0 [vr 9, vi q, vi x] [] w Q := by
  obtain ⟨hq01, hm0, hmn, hmb, hn0, hn4, hb1, hb2, hv⟩ := id hM
  have ho : oc 9 = 4 := rfl
  have ha : al (w 9 0) = 84 := by rw [hm0]; rfl
  have hn : 0 ≤ n ∧ n ≤ 40 := ⟨hn0, hn4⟩
  have hb : 1 ≤ b ∧ b ≤ 4096 := ⟨by omega, hb2⟩
  have hwb := wd_bd hn.1 hb.2
  have hpw := p2_w hn.1 hb.2
  refine b_X4_times_0 (by first | omega | assumption) ?_
  refine s_X4_less hM (by omega) ?_
  refine b_X4_times_8 (by first | omega | assumption) ?_
  refine s_X4_less hM (by omega) ?_
  refine b_X4_times_14  ?_
  exact hQ

theorem l_X4_unlike {Q : List rV → rW → Prop} {w : rW} {q n b : Int} (hM : MR w q n b) (hQ : Q [vi (unl (mf w q) n)] w) : ∀ (k : Nat) (i x : Int), (n - i).toNat < k → 0 ≤ i → i ≤ n → x = unl (mf w q) i → WP M_X4_unlike 4 [vr 9, vi q, vi x, vi i] [] w Q := by
  obtain ⟨hq01, hm0, hmn, hmb, hn0, hn4, hb1, hb2, hv⟩ := id hM
  have ho : oc 9 = 4 := rfl
  have ha : al (w 9 0) = 84 := by rw [hm0]; rfl
  have hn : 0 ≤ n ∧ n ≤ 40 := ⟨hn0, hn4⟩
  have hb : 1 ≤ b ∧ b ≤ 4096 := ⟨by omega, hb2⟩
  have hwb := wd_bd hn.1 hb.2
  have hpw := p2_w hn.1 hb.2
  intro k
  induction k with
  | zero => intro i x hk; omega
  | succ k ih =>
    intro i x hk hi0 hin ex
    refine b_X4_unlike_4 (by first | omega | assumption) ?_
    refine s_X4_many hM ?_
    refine b_X4_unlike_10 (by first | omega | assumption) (by first | omega | assumption) (fun c_10 => ?_) (fun c_10 => ?_)
    · refine b_X4_unlike_48  ?_
      exact qe hQ (by rw [ex, (by omega : i = n)])
    · refine b_X4_unlike_13 (by first | omega | assumption) (fun c_13 => ?_) (fun c_13 => ?_)
      · refine b_X4_unlike_35  ?_
        refine b_X4_unlike_40  ?_
        exact ih _ _ (by omega) (by omega) (by omega) (by
              unfold unl at ex ⊢
              rw [ct_s hi0, ← ex]
              first | (rw [if_pos (by omega)]; done) | (rw [if_neg (by omega)]; done))
      · refine b_X4_unlike_18 (by first | omega | assumption) ?_
        refine s_X4_number hM (by omega) (by omega) ?_
        refine b_X4_unlike_24 (by first | omega | assumption) ?_
        refine s_X4_number hM (by omega) (by omega) ?_
        have hv1 := hv i hi0 (by omega)
        have hv2 := hv (i - 1) (by omega) (by omega)
        refine b_X4_unlike_32 (by first | omega | assumption) (by first | omega | assumption) (fun c_32 => ?_) (fun c_32 => ?_)
        · refine b_X4_unlike_39  ?_
          refine b_X4_unlike_40  ?_
          exact ih _ _ (by omega) (by omega) (by omega) (by
                unfold unl at ex ⊢
                rw [ct_s hi0, ← ex]
                first | (rw [if_pos (by omega)]; done) | (rw [if_neg (by omega)]; done))
        · refine b_X4_unlike_35  ?_
          refine b_X4_unlike_40  ?_
          exact ih _ _ (by omega) (by omega) (by omega) (by
                unfold unl at ex ⊢
                rw [ct_s hi0, ← ex]
                first | (rw [if_pos (by omega)]; done) | (rw [if_neg (by omega)]; done))

theorem s_X4_unlike {Q : List rV → rW → Prop} {w : rW} {q n b : Int} (hM : MR w q n b) (hQ : Q [vi (unl (mf w q) n)] w) : WP M_X4_unlike 0 [vr 9, vi q, vu, vu] [] w Q := by
  have hn0 : 0 ≤ n := hM.2.2.2.2.1
  refine b_X4_unlike_0 ?_
  exact l_X4_unlike hM hQ _ 0 0 (Nat.lt_succ_self _) (Int.le_refl _) hn0 rfl

theorem l_X4_greatestGap {Q : List rV → rW → Prop} {w : rW} {q n b : Int} (hM : MR w q n b) (hQ : ∀ r, gst (mf w q) n r → Q [vi r] w) : ∀ (k : Nat) (i g : Int), (n - i).toNat < k → 1 ≤ i → (i ≤ n ∨ i = 1) → 0 ≤ g → g ≤ 4095 → (∀ j, 0 ≤ j → j + 1 < i → sb (mf w q) n j ≤ g) → (g = 0 ∨ ∃ j, 0 ≤ j ∧ j < n ∧ sb (mf w q) n j = g) → WP M_X4_greatestGap 4 [vr 9, vi q, vi g, vi i, vu] [] w Q := by
  obtain ⟨hq01, hm0, hmn, hmb, hn0, hn4, hb1, hb2, hv⟩ := id hM
  have ho : oc 9 = 4 := rfl
  have ha : al (w 9 0) = 84 := by rw [hm0]; rfl
  have hn : 0 ≤ n ∧ n ≤ 40 := ⟨hn0, hn4⟩
  have hb : 1 ≤ b ∧ b ≤ 4096 := ⟨by omega, hb2⟩
  have hwb := wd_bd hn.1 hb.2
  have hpw := p2_w hn.1 hb.2
  intro k
  induction k with
  | zero => intro i g hk; omega
  | succ k ih =>
    intro i g hk hi0 hin hg0 hg1 hlt hex
    have hsb : i < n → sb (mf w q) n (i - 1) = mf w q i - mf w q (i - 1) := fun z => by
      unfold sb
      rw [if_pos (by omega), show i - 1 + 1 = i by omega]
    have hlt2 : ∀ j, 0 ≤ j → j + 1 < i + 1 → j ≠ i - 1 → sb (mf w q) n j ≤ g := fun j q1 q2 q3 => hlt j q1 (by omega)
    refine b_X4_greatestGap_4 (by first | (clear hex; omega) | assumption) ?_
    refine s_X4_many hM ?_
    refine b_X4_greatestGap_10 (by first | (clear hex; omega) | assumption) (by first | (clear hex; omega) | assumption) (fun c_10 => ?_) (fun c_10 => ?_)
    · refine b_X4_greatestGap_49  ?_
      refine hQ _ ⟨hg0, hg1, fun j q1 q2 => ?_, hex⟩
      by_cases e : j + 1 < i
      · exact hlt j q1 e
      · unfold sb; rw [if_neg (by clear hex; omega)]; exact hg0
    · refine b_X4_greatestGap_13 (by first | (clear hex; omega) | assumption) ?_
      refine s_X4_number hM (by clear hex; omega) (by clear hex; omega) ?_
      refine b_X4_greatestGap_19 (by first | (clear hex; omega) | assumption) ?_
      refine s_X4_number hM (by clear hex; omega) (by clear hex; omega) ?_
      have hv1 := hv i (by clear hex; omega) (by clear hex; omega)
      have hv2 := hv (i - 1) (by clear hex; omega) (by clear hex; omega)
      have hsb := hsb (by clear hex; omega)
      refine b_X4_greatestGap_27 (by first | (clear hex; omega) | assumption) (by first | (clear hex; omega) | assumption) (fun c_27 => ?_) (fun c_27 => ?_)
      · refine b_X4_greatestGap_41  ?_
        refine b_X4_greatestGap_42  ?_
        refine ih _ _ (by clear hex; omega) (by clear hex; omega) (by clear hex; omega) (by clear hex; omega) (by clear hex; omega) (fun j q1 q2 => ?_) ?_
        · by_cases e : j = i - 1
          · rw [e]; clear hex; omega
          · have h9 := hlt2 j q1 q2 e
            clear hex
            omega
        · first
          | exact hex
          | exact Or.inr ⟨i - 1, by clear hex; omega, by clear hex; omega, by clear hex; omega⟩
      · refine b_X4_greatestGap_36  ?_
        refine b_X4_greatestGap_42  ?_
        refine ih _ _ (by clear hex; omega) (by clear hex; omega) (by clear hex; omega) (by clear hex; omega) (by clear hex; omega) (fun j q1 q2 => ?_) ?_
        · by_cases e : j = i - 1
          · rw [e]; clear hex; omega
          · have h9 := hlt2 j q1 q2 e
            clear hex
            omega
        · first
          | exact hex
          | exact Or.inr ⟨i - 1, by clear hex; omega, by clear hex; omega, by clear hex; omega⟩

theorem s_X4_greatestGap {Q : List rV → rW → Prop} {w : rW} {q n b : Int} (hM : MR w q n b) (hQ : ∀ r, gst (mf w q) n r → Q [vi r] w) : WP M_X4_greatestGap 0 [vr 9, vi q, vu, vu, vu] [] w Q := by
  refine b_X4_greatestGap_0 ?_
  exact l_X4_greatestGap hM hQ _ 1 0 (Nat.lt_succ_self _) (Int.le_refl _) (Or.inr rfl) (by decide) (by decide) (fun j g1 g2 => by omega) (Or.inl rfl)

theorem gst_one {f : Int → Int} {n r s : Int} (h : gst f n r) (g : gst f n s) : r = s := by
  obtain ⟨h0, -, h1, h2⟩ := h
  obtain ⟨g0, -, g1, g2⟩ := g
  have a : r ≤ s := by
    rcases h2 with q | ⟨i, q1, q2, q3⟩
    · omega
    · have := g1 i q1 q2; omega
  have c : s ≤ r := by
    rcases g2 with q | ⟨i, q1, q2, q3⟩
    · omega
    · have := h1 i q1 q2; omega
  omega

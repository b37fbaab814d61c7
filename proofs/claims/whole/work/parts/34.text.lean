/-! the text's first fault -/
def chr0 (g : Int → Int) (t p : Int) : Int := if p < t then g p else 0
/-- 4 times the place of the first fault, plus its reason, from a place on; -1: none -/
def pF (g : Int → Int) (t lim : Int) : Nat → Int → Int → Int → Int → Int
  | 0, _, _, _, _ => -1
  | f + 1, be, st, v, p =>
    if 48 ≤ chr0 g t p ∧ chr0 g t p ≤ 57 then
      if p - st = 4 ∨ (p - st = 1 ∧ v = 0) then 4 * p + 1 else pF g t lim f be st (10 * v + chr0 g t p - 48) (p + 1)
    else if p = st ∨ ¬ (t ≤ p ∨ chr0 g t p = 44) then 4 * p + 1
    else if v < be then 4 * st + 2
    else if lim ≤ v then 4 * st + 3
    else if t ≤ p then -1
    else pF g t lim f v (p + 1) 0 (p + 1)
/-- the digits so far and their value -/
def dgs (st p v : Int) : Prop := (p = st ∧ v = 0) ∨ (p = st + 1 ∧ 0 ≤ v ∧ v ≤ 9) ∨ (p = st + 2 ∧ 1 ≤ v ∧ v ≤ 99) ∨ (p = st + 3 ∧ 1 ≤ v ∧ v ≤ 999) ∨ (p = st + 4 ∧ 1 ≤ v ∧ v ≤ 9999)
def TX (w : rW) (t : Int) : Prop := w 7 1 = t ∧ w 7 0 = 8 ∧ 0 ≤ t ∧ t ≤ 60 ∧ ∀ i, 0 ≤ i → i < t → -2147483648 ≤ w 8 i ∧ w 8 i < 2147483648
theorem chr0_r {w : rW} {t p : Int} (h : TX w t) (hp : 0 ≤ p) : -2147483648 ≤ chr0 (w 8) t p ∧ chr0 (w 8) t p < 2147483648 := by
  unfold chr0
  split
  · exact h.2.2.2.2 p hp (by assumption)
  · omega
theorem s_X2_characterAt {Q : List rV → rW → Prop} {w : rW} {t p : Int} (h : TX w t) (hp : 0 ≤ p ∧ p < 1000) (hQ : Q [vi (chr0 (w 8) t p)] w) : WP M_X2_characterAt 0 [vr 7, vi p] [] w Q := by
  obtain ⟨h1, h2, h3, h4, h5⟩ := h
  have ho : oc 7 = 2 := rfl
  have ha : al (w 7 0) = 60 := by rw [h2]; rfl
  refine b_X2_characterAt_0 (by omega) (fun g => absurd g (by omega)) (fun g => ?_)
  refine b_X2_characterAt_4 ho (by omega) (by omega) (fun g => ?_) (fun g => ?_)
  · refine b_X2_characterAt_30 (b_X2_characterAt_31 ?_)
    unfold chr0 at hQ
    rw [if_neg (by omega)] at hQ
    exact hQ
  · refine b_X2_characterAt_12 ho (by omega) (by omega) (by omega) (fun g1 => absurd g1 (by omega)) (fun g1 => ?_)
    refine b_X2_characterAt_21 ho (by omega) (by omega) (b_X2_characterAt_31 ?_)
    unfold chr0 at hQ
    rw [if_pos (by omega)] at hQ
    rw [h2]
    exact hQ
theorem s_X2_endsNumber {Q : List rV → rW → Prop} {w : rW} {t p : Int} (h : TX w t) (hp : 0 ≤ p ∧ p < 1000) (hQ : ∀ r : Int, (r = 1 ∧ (t ≤ p ∨ chr0 (w 8) t p = 44)) ∨ (r = 0 ∧ ¬ (t ≤ p ∨ chr0 (w 8) t p = 44)) → Q [vi r] w) : WP M_X2_endsNumber 0 [vr 7, vi p] [] w Q := by
  have h1 := h.1
  have h3 := h.2.2.1
  have h4 := h.2.2.2.1
  have hc := chr0_r h hp.1
  have ho : oc 7 = 2 := rfl
  refine b_X2_endsNumber_0 ho (by omega) (by omega) (fun g => ?_) (fun g => ?_)
  · exact b_X2_endsNumber_18 (b_X2_endsNumber_23 (by omega) (hQ _ (Or.inl ⟨rfl, Or.inl (by omega)⟩)))
  · refine b_X2_endsNumber_8 ho ?_
    refine s_X2_characterAt h hp ?_
    refine b_X2_endsNumber_13 (by omega) (fun g1 => ?_) (fun g1 => ?_)
    · exact b_X2_endsNumber_22 (b_X2_endsNumber_23 (by omega) (hQ _ (Or.inr ⟨rfl, by omega⟩)))
    · exact b_X2_endsNumber_18 (b_X2_endsNumber_23 (by omega) (hQ _ (Or.inl ⟨rfl, Or.inr g1⟩)))

theorem l_X2_firstFault {Q : List rV → rW → Prop} {w : rW} {t lim : Int} (h : TX w t) (hl : 2 ≤ lim ∧ lim ≤ 4096) : ∀ (f : Nat) (be st v p : Int), (t + 1 - p).toNat = f → 0 ≤ st → st ≤ p → p ≤ t + 1 → dgs st p v → 0 ≤ be → be ≤ 9999 → Q [vi (pF (w 8) t lim f be st v p)] w → WP M_X2_firstFault 10 [vr 7, vi lim, vi be, vi st, vi v, vi p, vu, vu, vu] [] w Q := by
  have h1 := h.1
  have h3 := h.2.2.1
  have h4 := h.2.2.2.1
  have ho : oc 7 = 2 := rfl
  intro f
  induction f with
  | zero =>
    intro be st v p hf hs hsp hp hd hb0 hb1 hQ
    refine b_X2_firstFault_10 ho (by omega) (by omega) (fun g => ?_) (fun g => absurd g (by omega))
    exact b_X2_firstFault_155 hQ
  | succ f ih =>
    intro be st v p hf hs hsp hp hd hb0 hb1 hQ
    have hc := chr0_r h (show 0 ≤ p by omega)
    have hc0 : t ≤ p → chr0 (w 8) t p = 0 := fun z => by unfold chr0; rw [if_neg (by omega)]
    unfold dgs at hd
    unfold pF at hQ
    refine b_X2_firstFault_10 ho (by omega) (by omega) (fun g => absurd g (by omega)) (fun g => ?_)
    refine b_X2_firstFault_19 ho ?_
    refine s_X2_characterAt h (by omega) ?_
    refine b_X2_firstFault_25 ?_
    refine b_X2_isDigit_0 ?_
    refine s_X3_isWithin (by omega) (by omega) (by omega) (fun r hr => ?_)
    refine b_X2_isDigit_8 (by omega) ?_
    refine b_X2_firstFault_38 (by omega) (fun g1 => ?_) (fun g1 => ?_)
    · rw [if_neg (by omega)] at hQ
      have bad : Q [vi (4 * p + 1)] w → WP M_X2_firstFault 107 [vr 7, vi lim, vi be, vi st, vi v, vi p, vi (chr0 (w 8) t p), vi (p - st), vu] [] w Q := fun z => b_X2_firstFault_107 z
      refine b_X2_firstFault_93 (by omega) (fun g2 => ?_) (fun g2 => ?_)
      · rw [if_pos (by omega)] at hQ
        exact bad hQ
      · refine b_X2_firstFault_98 ho ?_
        refine s_X2_endsNumber h (by omega) (fun r2 hr2 => ?_)
        refine b_X2_firstFault_104 (by omega) (fun g3 => ?_) (fun g3 => ?_)
        · rw [if_neg (by omega)] at hQ
          refine b_X2_firstFault_114 (by omega) (by omega) (fun g4 => ?_) (fun g4 => ?_)
          · rw [if_neg (by omega)] at hQ
            refine b_X2_firstFault_126 (by omega) (by omega) (fun g5 => ?_) (fun g5 => ?_)
            · rw [if_neg (by omega)] at hQ
              refine b_X2_firstFault_138 ?_
              refine b_X2_firstFault_149 ?_
              by_cases z : t ≤ p
              · rw [if_pos z] at hQ
                refine b_X2_firstFault_10 ho (by omega) (by omega) (fun g => ?_) (fun g => absurd g (by omega))
                exact b_X2_firstFault_155 hQ
              · rw [if_neg z] at hQ
                exact ih _ _ _ _ (by omega) (by omega) (by omega) (by omega) (Or.inl ⟨rfl, rfl⟩) (by omega) (by omega) hQ
            · rw [if_pos (by omega)] at hQ
              exact b_X2_firstFault_132 hQ
          · rw [if_pos (by omega)] at hQ
            exact b_X2_firstFault_120 hQ
        · rw [if_pos (by omega)] at hQ
          exact bad hQ
    · rw [if_pos (by omega)] at hQ
      refine b_X2_firstFault_41 (by omega) (fun g2 => ?_) (fun g2 => ?_)
      · rw [if_pos (by omega)] at hQ
        exact b_X2_firstFault_58 (b_X2_firstFault_63 (by decide) (fun z => absurd z (by decide)) (fun _ => b_X2_firstFault_70 hQ))
      · refine b_X2_firstFault_47 (by omega) (fun g3 => ?_) (fun g3 => ?_)
        · rw [if_neg (by omega)] at hQ
          refine b_X2_firstFault_62 (b_X2_firstFault_63 (by decide) (fun _ => ?_) (fun z => absurd rfl z))
          refine b_X2_firstFault_77 (b_X2_firstFault_149 ?_)
          exact ih _ _ _ _ (by omega) (by omega) (by omega) (by omega) (by unfold dgs; omega) (by omega) (by omega) hQ
        · refine b_X2_firstFault_53 (by omega) (fun g4 => ?_) (fun g4 => ?_)
          · rw [if_neg (by omega)] at hQ
            refine b_X2_firstFault_62 (b_X2_firstFault_63 (by decide) (fun _ => ?_) (fun z => absurd rfl z))
            refine b_X2_firstFault_77 (b_X2_firstFault_149 ?_)
            exact ih _ _ _ _ (by omega) (by omega) (by omega) (by omega) (by unfold dgs; omega) (by omega) (by omega) hQ
          · rw [if_pos (by omega)] at hQ
            exact b_X2_firstFault_58 (b_X2_firstFault_63 (by decide) (fun z => absurd z (by decide)) (fun _ => b_X2_firstFault_70 hQ))
theorem s_X2_firstFault {Q : List rV → rW → Prop} {w : rW} {t lim : Int} (h : TX w t) (hl : 2 ≤ lim ∧ lim ≤ 4096) (hQ : Q [vi (pF (w 8) t lim (t + 1).toNat 0 0 0 0)] w) : WP M_X2_firstFault 0 [vr 7, vi lim, vu, vu, vu, vu, vu, vu, vu] [] w Q := by
  have h3 := h.2.2.1
  refine b_X2_firstFault_0 ?_
  exact l_X2_firstFault h hl _ 0 0 0 0 (by rw [Int.sub_zero]) (by decide) (by decide) (by omega) (Or.inl ⟨rfl, rfl⟩) (by decide) (by decide) hQ

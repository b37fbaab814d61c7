/-! the reference's text -/
def TY (w : rW) (t : Int) : Prop := w 9 5 = t ∧ w 9 4 = 13 ∧ w 9 7 = 14 ∧ 0 ≤ t ∧ t ≤ 60 ∧ ∀ i, 0 ≤ i → i < t → 32 ≤ w 13 i ∧ w 13 i ≤ 126
def chr1 (g : Int → Int) (t p : Int) : Int := if p < t then g p else -1
theorem chr1_r {w : rW} {t p : Int} (h : TY w t) (hp : 0 ≤ p) : -1 ≤ chr1 (w 13) t p ∧ chr1 (w 13) t p ≤ 126 := by
  unfold chr1
  split
  · have := h.2.2.2.2.2 p hp (by assumption)
    omega
  · omega
theorem s_X4_sign {Q : List rV → rW → Prop} {w : rW} {t p : Int} (h : TY w t) (hp : 0 ≤ p ∧ p < 1000) (hQ : Q [vi (chr1 (w 13) t p)] w) : WP M_X4_sign 0 [vr 9, vi p] [] w Q := by
  obtain ⟨h1, h2, h2b, h3, h4, h5⟩ := h
  have ho : oc 9 = 4 := rfl
  unfold chr1 at hQ
  refine b_X4_sign_0 ho (by omega) (by omega) (fun g => ?_) (fun g => ?_)
  · rw [if_neg (by omega)] at hQ
    exact b_X4_sign_17 (b_X4_sign_18 hQ)
  · rw [if_pos (by omega)] at hQ
    exact b_X4_sign_8 ho h2 (by omega) (by omega) (b_X4_sign_18 hQ)
theorem s_X4_wrong {Q : List rV → rW → Prop} {w : rW} {m be v lim : Int} (h7 : w 9 7 = 14) (hm : w 9 8 = m) (hm0 : 0 ≤ m ∧ m ≤ 40) (hbe : (m = 0 ∧ be = 0) ∨ (0 < m ∧ w 14 (m - 1) = be)) (hv : 0 ≤ v ∧ v ≤ 9999) (hb : 0 ≤ be ∧ be ≤ 9999) (hl : R32 lim) (hQ : Q [vi (if v < be then 2 else if lim ≤ v then 3 else 0)] w) : WP M_X4_wrong 0 [vr 9, vi v, vi lim] [] w Q := by
  have ho : oc 9 = 4 := rfl
  have ha : al (w 9 7) = 41 := by rw [h7]; rfl
  have c26 : ¬ v < be → WP M_X4_wrong 26 [vr 9, vi v, vi lim] [] w Q := fun z => by
    rw [if_neg z] at hQ
    refine b_X4_wrong_26 (by omega) hl (fun g => ?_) (fun g => ?_)
    · rw [if_neg (by omega)] at hQ
      exact b_X4_wrong_35 (b_X4_wrong_36 hQ)
    · rw [if_pos (by omega)] at hQ
      exact b_X4_wrong_31 (b_X4_wrong_36 hQ)
  refine b_X4_wrong_0 ho (by omega) (fun g => c26 (by omega)) (fun g => ?_)
  have hw : w (w 9 7) (w 9 8 - 1) = be := by rw [h7, hm]; omega
  refine b_X4_wrong_7 ho (by omega) (by omega) (by omega) (by omega) (fun g1 => c26 (by omega)) (fun g1 => ?_)
  rw [if_pos (by omega)] at hQ
  exact b_X4_wrong_22 (b_X4_wrong_36 hQ)

def JQl (μ : MI) (L : List rV) : List rV → rW → Prop := fun v w1 => ∃ r : Int, v = [vl r] ∧ (-9223372036854775808 ≤ r ∧ r < 9223372036854775808) ∧ WP μ 0 L [] w1 (fun v2 w2 => v2 = [vl r] ∧ Inv w2)
theorem JQl.mk {μ : MI} {L : List rV} {w1 : rW} {r : Int} (h : -9223372036854775808 ≤ r ∧ r < 9223372036854775808) (k : WP μ 0 L [] w1 (fun v2 w2 => v2 = [vl r] ∧ Inv w2)) : JQl μ L [vl r] w1 := ⟨r, rfl, h, k⟩
theorem JEl {a c : Int} {w : rW} (e : a = c) (h : Inv w) : [vl a] = [vl c] ∧ Inv w := ⟨by rw [e], h⟩

theorem j_lowerBits {w : rW} {q x : Int} (hI : Inv w) (hqr : R32 q) (hxr : R32 x) : WP M_X3_lowerBits 0 [vr 0, vi q, vi x, vu] [] w (JQl M_X4_lowerBits [vr 9, vi q, vi x, vu, vu, vu, vu, vu, vu]) := by
  have ho0 : oc 0 = 3 := rfl
  have ho9 : oc 9 = 4 := rfl
  by_cases hq : q = 0 ∨ q = 1
  · clear ho0
    have ho0 : oc 0 = 3 := rfl
    obtain ⟨a, n, b, hra, hR, hM, hV, hE⟩ := hI.row hq
    obtain ⟨h, hb0, hb1, hb2⟩ := id hR
    obtain ⟨ha13, ho, ha1, h0, h1, hn0, hn4, hv⟩ := id h
    have hn : 0 ≤ n ∧ n ≤ 40 := ⟨hn0, hn4⟩
    have hb : 1 ≤ b ∧ b ≤ 4096 := ⟨by omega, hb2⟩
    have hwb := wd_bd hn.1 hb.2
    have hpw := p2_w hn.1 hb.2
    have hub := ub_bd hn hb
    have hzb := zf_bd hn.1 hb.1 hb.2
    have hsz := szf_bd hn hb
    have hun := unl_bd (f := w (a + 1)) hn0
    have hu9 : w 9 9 = 15 := hI.1.2.2.2.2.2.2.2.2.2.1
    have hu11 : w 9 11 = 16 := hI.1.2.2.2.2.2.2.2.2.2.2.1
    have ha0 : al (w 9 0) = 84 := by rw [hM.2.1]; rfl
    have hbm : w (w 9 0) (42 * q + 1) = b := by rw [hM.2.1]; exact hM.2.2.2.1
    have m0 : 0 ≤ n * wd n b := Int.mul_nonneg hn.1 (by omega)
    have m1 : n * wd n b ≤ 40 * 12 := Int.mul_le_mul hn.2 hwb.2.1 hwb.1 (by decide)
    have hk1 : 0 < n * wd n b → 1 ≤ wdn n b := fun z => by
      rcases Nat.eq_zero_or_pos (wdn n b) with y | y
      · unfold wd at z
        rw [y, Int.natCast_zero, Int.mul_zero] at z
        omega
      · exact y
    have c9 := lcm_c (32 * x) (n * wd n b)
    refine b_X3_lowerBits_0  ?_
    refine s_X3_isRow (by omega) (fun r hr => ?_)
    refine b_X3_lowerBits_4 (by first | omega | assumption) (fun c_4 => ?_) (fun c_4 => ?_)
    · first
      | exact absurd c_4 (by omega)
      | (refine b_X3_lowerBits_11  ?_
         refine JQl.mk (by omega) ?_
         refine b_X4_lowerBits_0  ?_
         refine s_X4_in (by omega) (by omega) (by omega) (fun r hr => ?_)
         refine b_X4_lowerBits_6 (by first | omega | assumption) (fun d_6 => ?_) (fun d_6 => ?_)
         · first
           | exact absurd d_6 (by omega)
           | (refine b_X4_lowerBits_13  ?_
              exact JEl (by first | rfl | omega) hI)
         · first
           | exact absurd d_6 (by omega)
           | (refine b_X4_lowerBits_9 (by first | omega | assumption) (fun d_9 => ?_) (fun d_9 => ?_)
              · first
                | exact absurd d_9 (by omega)
                | (refine b_X4_lowerBits_17 (by first | omega | assumption) ?_
                   refine s_X4_width hM ?_
                   refine b_X4_lowerBits_22 (by first | omega | assumption) ?_
                   refine s_X4_many hM ?_
                   refine b_X4_lowerBits_28 (by first | omega | assumption) (fun d_28 => ?_) (fun d_28 => ?_)
                   · first
                     | exact absurd d_28 (by omega)
                     | (refine b_X4_lowerBits_48  ?_
                        exact JEl (by first | rfl | omega) hI)
                   · first
                     | exact absurd d_28 (by omega)
                     | (refine b_X4_lowerBits_39 (by first | omega | assumption) (by first | omega | assumption) (fun d_39 => ?_) (fun d_39 => ?_)
                        · first
                          | exact absurd d_39 (by omega)
                          | (refine b_X4_lowerBits_52  ?_
                             refine l_X4_lowerBits hM (by omega) (hk1 (by omega)) (lbs_congr (by omega) (hk1 (by omega)) hE hlb) ?_ 32 0 (Nat.le_refl _) ?_
                             · exact JEl rfl hI
                             · rw [Nat.div_eq_of_lt (by omega)]
                               rfl)
                        · first
                          | exact absurd d_39 (by omega)
                          | (refine b_X4_lowerBits_48  ?_
                             exact JEl (by first | rfl | omega) hI)))
              · first
                | exact absurd d_9 (by omega)
                | (refine b_X4_lowerBits_13  ?_
                   exact JEl (by first | rfl | omega) hI)))
    · first
      | exact absurd c_4 (by omega)
      | (refine b_X3_lowerBits_7 (by first | omega | assumption) (fun c_7 => ?_) (fun c_7 => ?_)
         · first
           | exact absurd c_7 (by omega)
           | (refine b_X3_lowerBits_15 (by first | omega | assumption) ?_
              refine s_X3_rowAt hra ?_
              refine b_X3_lowerBits_20 (by first | omega | assumption) (by first | omega | assumption) ?_
              refine s_X1_width hR ?_
              rw [h1]
              refine b_X3_lowerBits_35 (by first | omega | assumption) (by first | omega | assumption) (by first | omega | assumption) (by first | omega | assumption) (fun c_35 => ?_) (fun c_35 => ?_)
              · first
                | exact absurd c_35 (by omega)
                | (refine b_X3_lowerBits_45 (by first | omega | assumption) ?_
                   refine s_X1_lowerWord hR (by omega) (hk1 (by omega)) (fun A hA => ?_)
                   have hlb := lbs_of hA
                   have hlb1 := hlb.1
                   have hlb2 := hlb.2.1
                   refine b_X3_lowerBits_53  ?_
                   refine JQl.mk (by omega) ?_
                   refine b_X4_lowerBits_0  ?_
                   refine s_X4_in (by omega) (by omega) (by omega) (fun r hr => ?_)
                   refine b_X4_lowerBits_6 (by first | omega | assumption) (fun d_6 => ?_) (fun d_6 => ?_)
                   · first
                     | exact absurd d_6 (by omega)
                     | (refine b_X4_lowerBits_13  ?_
                        exact JEl (by first | rfl | omega) hI)
                   · first
                     | exact absurd d_6 (by omega)
                     | (refine b_X4_lowerBits_9 (by first | omega | assumption) (fun d_9 => ?_) (fun d_9 => ?_)
                        · first
                          | exact absurd d_9 (by omega)
                          | (refine b_X4_lowerBits_17 (by first | omega | assumption) ?_
                             refine s_X4_width hM ?_
                             refine b_X4_lowerBits_22 (by first | omega | assumption) ?_
                             refine s_X4_many hM ?_
                             refine b_X4_lowerBits_28 (by first | omega | assumption) (fun d_28 => ?_) (fun d_28 => ?_)
                             · first
                               | exact absurd d_28 (by omega)
                               | (refine b_X4_lowerBits_48  ?_
                                  exact JEl (by first | rfl | omega) hI)
                             · first
                               | exact absurd d_28 (by omega)
                               | (refine b_X4_lowerBits_39 (by first | omega | assumption) (by first | omega | assumption) (fun d_39 => ?_) (fun d_39 => ?_)
                                  · first
                                    | exact absurd d_39 (by omega)
                                    | (refine b_X4_lowerBits_52  ?_
                                       refine l_X4_lowerBits hM (by omega) (hk1 (by omega)) (lbs_congr (by omega) (hk1 (by omega)) hE hlb) ?_ 32 0 (Nat.le_refl _) ?_
                                       · exact JEl rfl hI
                                       · rw [Nat.div_eq_of_lt (by omega)]
                                         rfl)
                                  · first
                                    | exact absurd d_39 (by omega)
                                    | (refine b_X4_lowerBits_48  ?_
                                       exact JEl (by first | rfl | omega) hI)))
                        · first
                          | exact absurd d_9 (by omega)
                          | (refine b_X4_lowerBits_13  ?_
                             exact JEl (by first | rfl | omega) hI)))
              · first
                | exact absurd c_35 (by omega)
                | (refine b_X3_lowerBits_41  ?_
                   refine JQl.mk (by omega) ?_
                   refine b_X4_lowerBits_0  ?_
                   refine s_X4_in (by omega) (by omega) (by omega) (fun r hr => ?_)
                   refine b_X4_lowerBits_6 (by first | omega | assumption) (fun d_6 => ?_) (fun d_6 => ?_)
                   · first
                     | exact absurd d_6 (by omega)
                     | (refine b_X4_lowerBits_13  ?_
                        exact JEl (by first | rfl | omega) hI)
                   · first
                     | exact absurd d_6 (by omega)
                     | (refine b_X4_lowerBits_9 (by first | omega | assumption) (fun d_9 => ?_) (fun d_9 => ?_)
                        · first
                          | exact absurd d_9 (by omega)
                          | (refine b_X4_lowerBits_17 (by first | omega | assumption) ?_
                             refine s_X4_width hM ?_
                             refine b_X4_lowerBits_22 (by first | omega | assumption) ?_
                             refine s_X4_many hM ?_
                             refine b_X4_lowerBits_28 (by first | omega | assumption) (fun d_28 => ?_) (fun d_28 => ?_)
                             · first
                               | exact absurd d_28 (by omega)
                               | (refine b_X4_lowerBits_48  ?_
                                  exact JEl (by first | rfl | omega) hI)
                             · first
                               | exact absurd d_28 (by omega)
                               | (refine b_X4_lowerBits_39 (by first | omega | assumption) (by first | omega | assumption) (fun d_39 => ?_) (fun d_39 => ?_)
                                  · first
                                    | exact absurd d_39 (by omega)
                                    | (refine b_X4_lowerBits_52  ?_
                                       refine l_X4_lowerBits hM (by omega) (hk1 (by omega)) (lbs_congr (by omega) (hk1 (by omega)) hE hlb) ?_ 32 0 (Nat.le_refl _) ?_
                                       · exact JEl rfl hI
                                       · rw [Nat.div_eq_of_lt (by omega)]
                                         rfl)
                                  · first
                                    | exact absurd d_39 (by omega)
                                    | (refine b_X4_lowerBits_48  ?_
                                       exact JEl (by first | rfl | omega) hI)))
                        · first
                          | exact absurd d_9 (by omega)
                          | (refine b_X4_lowerBits_13  ?_
                             exact JEl (by first | rfl | omega) hI))))
         · first
           | exact absurd c_7 (by omega)
           | (refine b_X3_lowerBits_11  ?_
              refine JQl.mk (by omega) ?_
              refine b_X4_lowerBits_0  ?_
              refine s_X4_in (by omega) (by omega) (by omega) (fun r hr => ?_)
              refine b_X4_lowerBits_6 (by first | omega | assumption) (fun d_6 => ?_) (fun d_6 => ?_)
              · first
                | exact absurd d_6 (by omega)
                | (refine b_X4_lowerBits_13  ?_
                   exact JEl (by first | rfl | omega) hI)
              · first
                | exact absurd d_6 (by omega)
                | (refine b_X4_lowerBits_9 (by first | omega | assumption) (fun d_9 => ?_) (fun d_9 => ?_)
                   · first
                     | exact absurd d_9 (by omega)
                     | (refine b_X4_lowerBits_17 (by first | omega | assumption) ?_
                        refine s_X4_width hM ?_
                        refine b_X4_lowerBits_22 (by first | omega | assumption) ?_
                        refine s_X4_many hM ?_
                        refine b_X4_lowerBits_28 (by first | omega | assumption) (fun d_28 => ?_) (fun d_28 => ?_)
                        · first
                          | exact absurd d_28 (by omega)
                          | (refine b_X4_lowerBits_48  ?_
                             exact JEl (by first | rfl | omega) hI)
                        · first
                          | exact absurd d_28 (by omega)
                          | (refine b_X4_lowerBits_39 (by first | omega | assumption) (by first | omega | assumption) (fun d_39 => ?_) (fun d_39 => ?_)
                             · first
                               | exact absurd d_39 (by omega)
                               | (refine b_X4_lowerBits_52  ?_
                                  refine l_X4_lowerBits hM (by omega) (hk1 (by omega)) (lbs_congr (by omega) (hk1 (by omega)) hE hlb) ?_ 32 0 (Nat.le_refl _) ?_
                                  · exact JEl rfl hI
                                  · rw [Nat.div_eq_of_lt (by omega)]
                                    rfl)
                             · first
                               | exact absurd d_39 (by omega)
                               | (refine b_X4_lowerBits_48  ?_
                                  exact JEl (by first | rfl | omega) hI)))
                   · first
                     | exact absurd d_9 (by omega)
                     | (refine b_X4_lowerBits_13  ?_
                        exact JEl (by first | rfl | omega) hI))))
  · have hq2 : q < 0 ∨ 1 < q := by omega
    refine b_X3_lowerBits_0  ?_
    refine s_X3_isRow (by omega) (fun r hr => ?_)
    refine b_X3_lowerBits_4 (by first | omega | assumption) (fun c_4 => ?_) (fun c_4 => ?_)
    · first
      | exact absurd c_4 (by omega)
      | (refine b_X3_lowerBits_11  ?_
         refine JQl.mk (by omega) ?_
         refine b_X4_lowerBits_0  ?_
         refine s_X4_in (by omega) (by omega) (by omega) (fun r hr => ?_)
         refine b_X4_lowerBits_6 (by first | omega | assumption) (fun d_6 => ?_) (fun d_6 => ?_)
         · first
           | exact absurd d_6 (by omega)
           | (refine b_X4_lowerBits_13  ?_
              exact JEl (by first | rfl | omega) hI)
         · first
           | exact absurd d_6 (by omega)
           | (refine b_X4_lowerBits_9 (by first | omega | assumption) (fun d_9 => ?_) (fun d_9 => ?_)
              · first
                | exact absurd d_9 (by omega)
                | (refine b_X4_lowerBits_17 (by first | omega | assumption) ?_
                   refine s_X4_width hM ?_
                   refine b_X4_lowerBits_22 (by first | omega | assumption) ?_
                   refine s_X4_many hM ?_
                   refine b_X4_lowerBits_28 (by first | omega | assumption) (fun d_28 => ?_) (fun d_28 => ?_)
                   · first
                     | exact absurd d_28 (by omega)
                     | (refine b_X4_lowerBits_48  ?_
                        exact JEl (by first | rfl | omega) hI)
                   · first
                     | exact absurd d_28 (by omega)
                     | (refine b_X4_lowerBits_39 (by first | omega | assumption) (by first | omega | assumption) (fun d_39 => ?_) (fun d_39 => ?_)
                        · first
                          | exact absurd d_39 (by omega)
                          | (refine b_X4_lowerBits_52  ?_
                             refine l_X4_lowerBits hM (by omega) (hk1 (by omega)) (lbs_congr (by omega) (hk1 (by omega)) hE hlb) ?_ 32 0 (Nat.le_refl _) ?_
                             · exact JEl rfl hI
                             · rw [Nat.div_eq_of_lt (by omega)]
                               rfl)
                        · first
                          | exact absurd d_39 (by omega)
                          | (refine b_X4_lowerBits_48  ?_
                             exact JEl (by first | rfl | omega) hI)))
              · first
                | exact absurd d_9 (by omega)
                | (refine b_X4_lowerBits_13  ?_
                   exact JEl (by first | rfl | omega) hI)))
    · first
      | exact absurd c_4 (by omega)
      | (refine b_X3_lowerBits_7 (by first | omega | assumption) (fun c_7 => ?_) (fun c_7 => ?_)
         · first
           | exact absurd c_7 (by omega)
           | (refine b_X3_lowerBits_15 (by first | omega | assumption) ?_
              refine s_X3_rowAt hra ?_
              refine b_X3_lowerBits_20 (by first | omega | assumption) (by first | omega | assumption) ?_
              refine s_X1_width hR ?_
              rw [h1]
              refine b_X3_lowerBits_35 (by first | omega | assumption) (by first | omega | assumption) (by first | omega | assumption) (by first | omega | assumption) (fun c_35 => ?_) (fun c_35 => ?_)
              · first
                | exact absurd c_35 (by omega)
                | (refine b_X3_lowerBits_45 (by first | omega | assumption) ?_
                   refine s_X1_lowerWord hR (by omega) (hk1 (by omega)) (fun A hA => ?_)
                   have hlb := lbs_of hA
                   have hlb1 := hlb.1
                   have hlb2 := hlb.2.1
                   refine b_X3_lowerBits_53  ?_
                   refine JQl.mk (by omega) ?_
                   refine b_X4_lowerBits_0  ?_
                   refine s_X4_in (by omega) (by omega) (by omega) (fun r hr => ?_)
                   refine b_X4_lowerBits_6 (by first | omega | assumption) (fun d_6 => ?_) (fun d_6 => ?_)
                   · first
                     | exact absurd d_6 (by omega)
                     | (refine b_X4_lowerBits_13  ?_
                        exact JEl (by first | rfl | omega) hI)
                   · first
                     | exact absurd d_6 (by omega)
                     | (refine b_X4_lowerBits_9 (by first | omega | assumption) (fun d_9 => ?_) (fun d_9 => ?_)
                        · first
                          | exact absurd d_9 (by omega)
                          | (refine b_X4_lowerBits_17 (by first | omega | assumption) ?_
                             refine s_X4_width hM ?_
                             refine b_X4_lowerBits_22 (by first | omega | assumption) ?_
                             refine s_X4_many hM ?_
                             refine b_X4_lowerBits_28 (by first | omega | assumption) (fun d_28 => ?_) (fun d_28 => ?_)
                             · first
                               | exact absurd d_28 (by omega)
                               | (refine b_X4_lowerBits_48  ?_
                                  exact JEl (by first | rfl | omega) hI)
                             · first
                               | exact absurd d_28 (by omega)
                               | (refine b_X4_lowerBits_39 (by first | omega | assumption) (by first | omega | assumption) (fun d_39 => ?_) (fun d_39 => ?_)
                                  · first
                                    | exact absurd d_39 (by omega)
                                    | (refine b_X4_lowerBits_52  ?_
                                       refine l_X4_lowerBits hM (by omega) (hk1 (by omega)) (lbs_congr (by omega) (hk1 (by omega)) hE hlb) ?_ 32 0 (Nat.le_refl _) ?_
                                       · exact JEl rfl hI
                                       · rw [Nat.div_eq_of_lt (by omega)]
                                         rfl)
                                  · first
                                    | exact absurd d_39 (by omega)
                                    | (refine b_X4_lowerBits_48  ?_
                                       exact JEl (by first | rfl | omega) hI)))
                        · first
                          | exact absurd d_9 (by omega)
                          | (refine b_X4_lowerBits_13  ?_
                             exact JEl (by first | rfl | omega) hI)))
              · first
                | exact absurd c_35 (by omega)
                | (refine b_X3_lowerBits_41  ?_
                   refine JQl.mk (by omega) ?_
                   refine b_X4_lowerBits_0  ?_
                   refine s_X4_in (by omega) (by omega) (by omega) (fun r hr => ?_)
                   refine b_X4_lowerBits_6 (by first | omega | assumption) (fun d_6 => ?_) (fun d_6 => ?_)
                   · first
                     | exact absurd d_6 (by omega)
                     | (refine b_X4_lowerBits_13  ?_
                        exact JEl (by first | rfl | omega) hI)
                   · first
                     | exact absurd d_6 (by omega)
                     | (refine b_X4_lowerBits_9 (by first | omega | assumption) (fun d_9 => ?_) (fun d_9 => ?_)
                        · first
                          | exact absurd d_9 (by omega)
                          | (refine b_X4_lowerBits_17 (by first | omega | assumption) ?_
                             refine s_X4_width hM ?_
                             refine b_X4_lowerBits_22 (by first | omega | assumption) ?_
                             refine s_X4_many hM ?_
                             refine b_X4_lowerBits_28 (by first | omega | assumption) (fun d_28 => ?_) (fun d_28 => ?_)
                             · first
                               | exact absurd d_28 (by omega)
                               | (refine b_X4_lowerBits_48  ?_
                                  exact JEl (by first | rfl | omega) hI)
                             · first
                               | exact absurd d_28 (by omega)
                               | (refine b_X4_lowerBits_39 (by first | omega | assumption) (by first | omega | assumption) (fun d_39 => ?_) (fun d_39 => ?_)
                                  · first
                                    | exact absurd d_39 (by omega)
                                    | (refine b_X4_lowerBits_52  ?_
                                       refine l_X4_lowerBits hM (by omega) (hk1 (by omega)) (lbs_congr (by omega) (hk1 (by omega)) hE hlb) ?_ 32 0 (Nat.le_refl _) ?_
                                       · exact JEl rfl hI
                                       · rw [Nat.div_eq_of_lt (by omega)]
                                         rfl)
                                  · first
                                    | exact absurd d_39 (by omega)
                                    | (refine b_X4_lowerBits_48  ?_
                                       exact JEl (by first | rfl | omega) hI)))
                        · first
                          | exact absurd d_9 (by omega)
                          | (refine b_X4_lowerBits_13  ?_
                             exact JEl (by first | rfl | omega) hI))))
         · first
           | exact absurd c_7 (by omega)
           | (refine b_X3_lowerBits_11  ?_
              refine JQl.mk (by omega) ?_
              refine b_X4_lowerBits_0  ?_
              refine s_X4_in (by omega) (by omega) (by omega) (fun r hr => ?_)
              refine b_X4_lowerBits_6 (by first | omega | assumption) (fun d_6 => ?_) (fun d_6 => ?_)
              · first
                | exact absurd d_6 (by omega)
                | (refine b_X4_lowerBits_13  ?_
                   exact JEl (by first | rfl | omega) hI)
              · first
                | exact absurd d_6 (by omega)
                | (refine b_X4_lowerBits_9 (by first | omega | assumption) (fun d_9 => ?_) (fun d_9 => ?_)
                   · first
                     | exact absurd d_9 (by omega)
                     | (refine b_X4_lowerBits_17 (by first | omega | assumption) ?_
                        refine s_X4_width hM ?_
                        refine b_X4_lowerBits_22 (by first | omega | assumption) ?_
                        refine s_X4_many hM ?_
                        refine b_X4_lowerBits_28 (by first | omega | assumption) (fun d_28 => ?_) (fun d_28 => ?_)
                        · first
                          | exact absurd d_28 (by omega)
                          | (refine b_X4_lowerBits_48  ?_
                             exact JEl (by first | rfl | omega) hI)
                        · first
                          | exact absurd d_28 (by omega)
                          | (refine b_X4_lowerBits_39 (by first | omega | assumption) (by first | omega | assumption) (fun d_39 => ?_) (fun d_39 => ?_)
                             · first
                               | exact absurd d_39 (by omega)
                               | (refine b_X4_lowerBits_52  ?_
                                  refine l_X4_lowerBits hM (by omega) (hk1 (by omega)) (lbs_congr (by omega) (hk1 (by omega)) hE hlb) ?_ 32 0 (Nat.le_refl _) ?_
                                  · exact JEl rfl hI
                                  · rw [Nat.div_eq_of_lt (by omega)]
                                    rfl)
                             · first
                               | exact absurd d_39 (by omega)
                               | (refine b_X4_lowerBits_48  ?_
                                  exact JEl (by first | rfl | omega) hI)))
                   · first
                     | exact absurd d_9 (by omega)
                     | (refine b_X4_lowerBits_13  ?_
                        exact JEl (by first | rfl | omega) hI))))

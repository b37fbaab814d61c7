theorem j_below {w : rW} {q x : Int} (hI : Inv w) (hqr : R32 q) (hxr : R32 x) : WP M_X3_below 0 [vr 0, vi q, vi x] [] w (JQ M_X4_below [vr 9, vi q, vi x]) := by
  have ho0 : oc 0 = 3 := rfl
  have ho9 : oc 9 = 4 := rfl
  by_cases hq : q = 0 ∨ q = 1
  · clear ho0
    have ho0 : oc 0 = 3 := rfl
    obtain ⟨a, n, b, hra, hR, hM, hV, hE⟩ := hI.row hq
    obtain ⟨h, hb0, hb1, hb2⟩ := id hR
    obtain ⟨ha13, ho, ha1, h0, h1, hn0, hn4, hv⟩ := id h
    have hn : 0 ≤ n ∧ n ≤ 40 := ⟨hn0, hn4⟩
    have hb : 1 ≤ b ∧ b ≤ 4096 := ⟨by omega, hb2⟩
    have hwb := wd_bd hn.1 hb.2
    have hpw := p2_w hn.1 hb.2
    have hub := ub_bd hn hb
    have hzb := zf_bd hn.1 hb.1 hb.2
    have hsz := szf_bd hn hb
    have hun := unl_bd (f := w (a + 1)) hn0
    have hu9 : w 9 9 = 15 := hI.1.2.2.2.2.2.2.2.2.2.1
    have hu11 : w 9 11 = 16 := hI.1.2.2.2.2.2.2.2.2.2.2.1
    have ha0 : al (w 9 0) = 84 := by rw [hM.2.1]; rfl
    have hbm : w (w 9 0) (42 * q + 1) = b := by rw [hM.2.1]; exact hM.2.2.2.1
    refine b_X3_below_0  ?_
    refine s_X3_isRow (by omega) (fun r hr => ?_)
    refine b_X3_below_4 (by first | omega | assumption) (fun c_4 => ?_) (fun c_4 => ?_)
    · first
      | exact absurd c_4 (by omega)
      | (refine b_X3_below_18  ?_
         refine JQ.mk (by omega) ?_
         refine b_X4_below_0  ?_
         refine s_X4_in (by omega) (by omega) (by omega) (fun r hr => ?_)
         refine b_X4_below_6 (by first | omega | assumption) (fun d_6 => ?_) (fun d_6 => ?_)
         · first
           | exact absurd d_6 (by omega)
           | (refine b_X4_below_29  ?_
              refine b_X4_below_31  ?_
              exact JE (by first | rfl | exact (cl_congr hn0 hE).symm) hI)
         · first
           | exact absurd d_6 (by omega)
           | (refine b_X4_below_9  ?_
              refine s_X4_in (by omega) (by omega) (by omega) (fun r hr => ?_)
              refine b_X4_below_17 (by first | omega | assumption) (fun d_17 => ?_) (fun d_17 => ?_)
              · first
                | exact absurd d_17 (by omega)
                | (refine b_X4_below_29  ?_
                   refine b_X4_below_31  ?_
                   exact JE (by first | rfl | exact (cl_congr hn0 hE).symm) hI)
              · first
                | exact absurd d_17 (by omega)
                | (refine b_X4_below_20 (by first | omega | assumption) ?_
                   refine s_X4_less hM (by omega) ?_
                   refine b_X4_below_26  ?_
                   refine b_X4_below_31  ?_
                   exact JE (by first | rfl | exact (cl_congr hn0 hE).symm) hI)))
    · first
      | exact absurd c_4 (by omega)
      | (refine b_X3_below_7  ?_
         refine s_X3_isWithin (by omega) (by omega) (by omega) (fun r hr => ?_)
         refine b_X3_below_15 (by first | omega | assumption) (fun c_15 => ?_) (fun c_15 => ?_)
         · first
           | exact absurd c_15 (by omega)
           | (refine b_X3_below_21 (by first | omega | assumption) ?_
              refine s_X3_rowAt hra ?_
              refine b_X3_below_26 (by first | omega | assumption) ?_
              refine s_X1_countLess h (by omega) ?_
              have hcl := cl_spec (f := w (a + 1)) (n := n) (x := x) hn0
              refine b_X3_below_30  ?_
              refine JQ.mk (by omega) ?_
              refine b_X4_below_0  ?_
              refine s_X4_in (by omega) (by omega) (by omega) (fun r hr => ?_)
              refine b_X4_below_6 (by first | omega | assumption) (fun d_6 => ?_) (fun d_6 => ?_)
              · first
                | exact absurd d_6 (by omega)
                | (refine b_X4_below_29  ?_
                   refine b_X4_below_31  ?_
                   exact JE (by first | rfl | exact (cl_congr hn0 hE).symm) hI)
              · first
                | exact absurd d_6 (by omega)
                | (refine b_X4_below_9  ?_
                   refine s_X4_in (by omega) (by omega) (by omega) (fun r hr => ?_)
                   refine b_X4_below_17 (by first | omega | assumption) (fun d_17 => ?_) (fun d_17 => ?_)
                   · first
                     | exact absurd d_17 (by omega)
                     | (refine b_X4_below_29  ?_
                        refine b_X4_below_31  ?_
                        exact JE (by first | rfl | exact (cl_congr hn0 hE).symm) hI)
                   · first
                     | exact absurd d_17 (by omega)
                     | (refine b_X4_below_20 (by first | omega | assumption) ?_
                        refine s_X4_less hM (by omega) ?_
                        refine b_X4_below_26  ?_
                        refine b_X4_below_31  ?_
                        exact JE (by first | rfl | exact (cl_congr hn0 hE).symm) hI)))
         · first
           | exact absurd c_15 (by omega)
           | (refine b_X3_below_18  ?_
              refine JQ.mk (by omega) ?_
              refine b_X4_below_0  ?_
              refine s_X4_in (by omega) (by omega) (by omega) (fun r hr => ?_)
              refine b_X4_below_6 (by first | omega | assumption) (fun d_6 => ?_) (fun d_6 => ?_)
              · first
                | exact absurd d_6 (by omega)
                | (refine b_X4_below_29  ?_
                   refine b_X4_below_31  ?_
                   exact JE (by first | rfl | exact (cl_congr hn0 hE).symm) hI)
              · first
                | exact absurd d_6 (by omega)
                | (refine b_X4_below_9  ?_
                   refine s_X4_in (by omega) (by omega) (by omega) (fun r hr => ?_)
                   refine b_X4_below_17 (by first | omega | assumption) (fun d_17 => ?_) (fun d_17 => ?_)
                   · first
                     | exact absurd d_17 (by omega)
                     | (refine b_X4_below_29  ?_
                        refine b_X4_below_31  ?_
                        exact JE (by first | rfl | exact (cl_congr hn0 hE).symm) hI)
                   · first
                     | exact absurd d_17 (by omega)
                     | (refine b_X4_below_20 (by first | omega | assumption) ?_
                        refine s_X4_less hM (by omega) ?_
                        refine b_X4_below_26  ?_
                        refine b_X4_below_31  ?_
                        exact JE (by first | rfl | exact (cl_congr hn0 hE).symm) hI))))
  · have hq2 : q < 0 ∨ 1 < q := by omega
    refine b_X3_below_0  ?_
    refine s_X3_isRow (by omega) (fun r hr => ?_)
    refine b_X3_below_4 (by first | omega | assumption) (fun c_4 => ?_) (fun c_4 => ?_)
    · first
      | exact absurd c_4 (by omega)
      | (refine b_X3_below_18  ?_
         refine JQ.mk (by omega) ?_
         refine b_X4_below_0  ?_
         refine s_X4_in (by omega) (by omega) (by omega) (fun r hr => ?_)
         refine b_X4_below_6 (by first | omega | assumption) (fun d_6 => ?_) (fun d_6 => ?_)
         · first
           | exact absurd d_6 (by omega)
           | (refine b_X4_below_29  ?_
              refine b_X4_below_31  ?_
              exact JE (by first | rfl | exact (cl_congr hn0 hE).symm) hI)
         · first
           | exact absurd d_6 (by omega)
           | (refine b_X4_below_9  ?_
              refine s_X4_in (by omega) (by omega) (by omega) (fun r hr => ?_)
              refine b_X4_below_17 (by first | omega | assumption) (fun d_17 => ?_) (fun d_17 => ?_)
              · first
                | exact absurd d_17 (by omega)
                | (refine b_X4_below_29  ?_
                   refine b_X4_below_31  ?_
                   exact JE (by first | rfl | exact (cl_congr hn0 hE).symm) hI)
              · first
                | exact absurd d_17 (by omega)
                | (refine b_X4_below_20 (by first | omega | assumption) ?_
                   refine s_X4_less hM (by omega) ?_
                   refine b_X4_below_26  ?_
                   refine b_X4_below_31  ?_
                   exact JE (by first | rfl | exact (cl_congr hn0 hE).symm) hI)))
    · first
      | exact absurd c_4 (by omega)
      | (refine b_X3_below_7  ?_
         refine s_X3_isWithin (by omega) (by omega) (by omega) (fun r hr => ?_)
         refine b_X3_below_15 (by first | omega | assumption) (fun c_15 => ?_) (fun c_15 => ?_)
         · first
           | exact absurd c_15 (by omega)
           | (refine b_X3_below_21 (by first | omega | assumption) ?_
              refine s_X3_rowAt hra ?_
              refine b_X3_below_26 (by first | omega | assumption) ?_
              refine s_X1_countLess h (by omega) ?_
              have hcl := cl_spec (f := w (a + 1)) (n := n) (x := x) hn0
              refine b_X3_below_30  ?_
              refine JQ.mk (by omega) ?_
              refine b_X4_below_0  ?_
              refine s_X4_in (by omega) (by omega) (by omega) (fun r hr => ?_)
              refine b_X4_below_6 (by first | omega | assumption) (fun d_6 => ?_) (fun d_6 => ?_)
              · first
                | exact absurd d_6 (by omega)
                | (refine b_X4_below_29  ?_
                   refine b_X4_below_31  ?_
                   exact JE (by first | rfl | exact (cl_congr hn0 hE).symm) hI)
              · first
                | exact absurd d_6 (by omega)
                | (refine b_X4_below_9  ?_
                   refine s_X4_in (by omega) (by omega) (by omega) (fun r hr => ?_)
                   refine b_X4_below_17 (by first | omega | assumption) (fun d_17 => ?_) (fun d_17 => ?_)
                   · first
                     | exact absurd d_17 (by omega)
                     | (refine b_X4_below_29  ?_
                        refine b_X4_below_31  ?_
                        exact JE (by first | rfl | exact (cl_congr hn0 hE).symm) hI)
                   · first
                     | exact absurd d_17 (by omega)
                     | (refine b_X4_below_20 (by first | omega | assumption) ?_
                        refine s_X4_less hM (by omega) ?_
                        refine b_X4_below_26  ?_
                        refine b_X4_below_31  ?_
                        exact JE (by first | rfl | exact (cl_congr hn0 hE).symm) hI)))
         · first
           | exact absurd c_15 (by omega)
           | (refine b_X3_below_18  ?_
              refine JQ.mk (by omega) ?_
              refine b_X4_below_0  ?_
              refine s_X4_in (by omega) (by omega) (by omega) (fun r hr => ?_)
              refine b_X4_below_6 (by first | omega | assumption) (fun d_6 => ?_) (fun d_6 => ?_)
              · first
                | exact absurd d_6 (by omega)
                | (refine b_X4_below_29  ?_
                   refine b_X4_below_31  ?_
                   exact JE (by first | rfl | exact (cl_congr hn0 hE).symm) hI)
              · first
                | exact absurd d_6 (by omega)
                | (refine b_X4_below_9  ?_
                   refine s_X4_in (by omega) (by omega) (by omega) (fun r hr => ?_)
                   refine b_X4_below_17 (by first | omega | assumption) (fun d_17 => ?_) (fun d_17 => ?_)
                   · first
                     | exact absurd d_17 (by omega)
                     | (refine b_X4_below_29  ?_
                        refine b_X4_below_31  ?_
                        exact JE (by first | rfl | exact (cl_congr hn0 hE).symm) hI)
                   · first
                     | exact absurd d_17 (by omega)
                     | (refine b_X4_below_20 (by first | omega | assumption) ?_
                        refine s_X4_less hM (by omega) ?_
                        refine b_X4_below_26  ?_
                        refine b_X4_below_31  ?_
                        exact JE (by first | rfl | exact (cl_congr hn0 hE).symm) hI))))

theorem j_rowOf {w : rW} {q x : Int} (hI : Inv w) (hqr : R32 q) (hxr : R32 x) : WP M_X3_rowOf 0 [vr 0, vi q, vi x, vu] [] w (JQ M_X4_rowOf [vr 9, vi q, vi x]) := by
  have ho0 : oc 0 = 3 := rfl
  have ho9 : oc 9 = 4 := rfl
  by_cases hq : q = 0 ∨ q = 1
  · clear ho0
    have ho0 : oc 0 = 3 := rfl
    obtain ⟨a, n, b, hra, hR, hM, hV, hE⟩ := hI.row hq
    obtain ⟨h, hb0, hb1, hb2⟩ := id hR
    obtain ⟨ha13, ho, ha1, h0, h1, hn0, hn4, hv⟩ := id h
    have hn : 0 ≤ n ∧ n ≤ 40 := ⟨hn0, hn4⟩
    have hb : 1 ≤ b ∧ b ≤ 4096 := ⟨by omega, hb2⟩
    have hwb := wd_bd hn.1 hb.2
    have hpw := p2_w hn.1 hb.2
    have hub := ub_bd hn hb
    have hzb := zf_bd hn.1 hb.1 hb.2
    have hsz := szf_bd hn hb
    have hun := unl_bd (f := w (a + 1)) hn0
    have hu9 : w 9 9 = 15 := hI.1.2.2.2.2.2.2.2.2.2.1
    have hu11 : w 9 11 = 16 := hI.1.2.2.2.2.2.2.2.2.2.2.1
    have ha0 : al (w 9 0) = 84 := by rw [hM.2.1]; rfl
    have hbm : w (w 9 0) (42 * q + 1) = b := by rw [hM.2.1]; exact hM.2.2.2.1
    refine b_X3_rowOf_0  ?_
    refine s_X3_isRow (by omega) (fun r hr => ?_)
    refine b_X3_rowOf_4 (by first | omega | assumption) (fun c_4 => ?_) (fun c_4 => ?_)
    · first
      | exact absurd c_4 (by omega)
      | (refine b_X3_rowOf_10 (by first | omega | assumption) ?_
         refine s_X3_rowAt hra ?_
         refine b_X3_rowOf_15 (by first | omega | assumption) (fun c_15 => ?_) (fun c_15 => ?_) (fun c_15 => ?_) (fun c_15 => ?_) (fun c_15 => ?_) (fun c_15 => ?_) (fun c_15 => ?_) (fun c_15 => ?_) (fun c_15 => ?_) (fun c_15 => ?_)
         · first
           | exact absurd c_15 (by omega)
           | (refine b_X3_rowOf_68 (by first | omega | assumption) ?_
              refine JQ.mk (by omega) ?_
              refine b_X4_rowOf_0  ?_
              refine s_X4_in (by omega) (by omega) (by omega) (fun r hr => ?_)
              refine b_X4_rowOf_6 (by first | omega | assumption) (fun d_6 => ?_) (fun d_6 => ?_)
              · first
                | exact absurd d_6 (by omega)
                | (refine b_X4_rowOf_19  ?_
                   exact JE (by first | rfl | omega) hI)
              · first
                | exact absurd d_6 (by omega)
                | (refine b_X4_rowOf_9  ?_
                   refine s_X4_in (by omega) (by omega) (by omega) (fun r hr => ?_)
                   refine b_X4_rowOf_16 (by first | omega | assumption) (fun d_16 => ?_) (fun d_16 => ?_)
                   · first
                     | exact absurd d_16 (by omega)
                     | (refine b_X4_rowOf_22 (by first | omega | assumption) ?_
                        refine s_X4_lays hM hV hu9 hu11 (fun w1 hS hbits hzf hUP hzs => ?_)
                        have hM1 := hS.MR hM
                        have hmf1 := hS.mf q
                        have ha1 : al (w1 9 0) = 84 := by rw [hM1.2.1]; rfl
                        have hI1 := hS.sd.Inv hI
                        have h991 : w1 9 9 = 15 := (hS.2 9 (by decide) (by decide) (by decide) (by decide)).trans hu9
                        have ha91 : al (w1 9 9) = 4200 := by rw [h991]; rfl
                        have h9111 : w1 9 11 = 16 := (hS.2 11 (by decide) (by decide) (by decide) (by decide)).trans hu11
                        have ha111 : al (w1 9 11) = 4200 := by rw [h9111]; rfl
                        refine b_X4_rowOf_27 (by first | omega | assumption) (fun d_27 => ?_) (fun d_27 => ?_) (fun d_27 => ?_) (fun d_27 => ?_) (fun d_27 => ?_) (fun d_27 => ?_) (fun d_27 => ?_) (fun d_27 => ?_) (fun d_27 => ?_)
                        · first
                          | exact absurd d_27 (by omega)
                          | (refine b_X4_rowOf_76 (by first | omega | assumption) (by first | omega | assumption) (by first | omega | assumption) ?_
                             exact JE (by first | (rw [hM1.2.1, d_27]; exact (congrArg (w1 10) (by omega)).trans (hM1.2.2.1.trans (by omega))) | (rw [hM1.2.1, d_27]; exact hM1.2.2.2.1.trans (by omega))) hI1)
                        · first
                          | exact absurd d_27 (by omega)
                          | (refine b_X4_rowOf_76 (by first | omega | assumption) (by first | omega | assumption) (by first | omega | assumption) ?_
                             exact JE (by first | (rw [hM1.2.1, d_27]; exact (congrArg (w1 10) (by omega)).trans (hM1.2.2.1.trans (by omega))) | (rw [hM1.2.1, d_27]; exact hM1.2.2.2.1.trans (by omega))) hI1)
                        · first
                          | exact absurd d_27 (by omega)
                          | (refine b_X4_rowOf_88 (by first | omega | assumption) ?_
                             refine s_X4_width hM1 ?_
                             refine b_X4_rowOf_93  ?_
                             exact JE (by rfl) hI1)
                        · first
                          | exact absurd d_27 (by omega)
                          | (refine b_X4_rowOf_94 (by first | omega | assumption) ?_
                             exact JE (by exact hbits) hI1)
                        · first
                          | exact absurd d_27 (by omega)
                          | (refine b_X4_rowOf_99 (by first | omega | assumption) ?_
                             refine s_X4_size hM1 ?_
                             refine b_X4_rowOf_104  ?_
                             exact JE (by rfl) hI1)
                        · first
                          | exact absurd d_27 (by omega)
                          | (refine b_X4_rowOf_105 (by first | omega | assumption) ?_
                             refine s_X4_many hM1 ?_
                             refine b_X4_rowOf_110 (by first | omega | assumption) (by first | omega | assumption) ?_
                             exact JE (by rw [h1]) hI1)
                        · first
                          | exact absurd d_27 (by omega)
                          | (refine b_X4_rowOf_115 (by first | omega | assumption) (by first | omega | assumption) (by first | omega | assumption) ?_
                             exact JE (by rw [hzf]) hI1)
                        · first
                          | exact absurd d_27 (by omega)
                          | (refine b_X4_rowOf_124 (by first | omega | assumption) ?_
                             refine s_X4_unlike hM1 ?_
                             refine b_X4_rowOf_129  ?_
                             exact JE (by rw [hmf1]; exact (unl_congr hE).symm) hI1)
                        · first
                          | exact absurd d_27 (by omega)
                          | (refine b_X4_rowOf_130 (by first | omega | assumption) ?_
                             refine s_X4_greatestGap hM1 (fun r2 hg2 => ?_)
                             refine b_X4_rowOf_135  ?_
                             exact JE (by rw [hmf1] at hg2; exact gst_one hg2 (gst_congr hE hg)) hI1))
                   · first
                     | exact absurd d_16 (by omega)
                     | (refine b_X4_rowOf_19  ?_
                        exact JE (by first | rfl | omega) hI)))
         · first
           | exact absurd c_15 (by omega)
           | (refine b_X3_rowOf_73 (by first | omega | assumption) ?_
              refine JQ.mk (by omega) ?_
              refine b_X4_rowOf_0  ?_
              refine s_X4_in (by omega) (by omega) (by omega) (fun r hr => ?_)
              refine b_X4_rowOf_6 (by first | omega | assumption) (fun d_6 => ?_) (fun d_6 => ?_)
              · first
                | exact absurd d_6 (by omega)
                | (refine b_X4_rowOf_19  ?_
                   exact JE (by first | rfl | omega) hI)
              · first
                | exact absurd d_6 (by omega)
                | (refine b_X4_rowOf_9  ?_
                   refine s_X4_in (by omega) (by omega) (by omega) (fun r hr => ?_)
                   refine b_X4_rowOf_16 (by first | omega | assumption) (fun d_16 => ?_) (fun d_16 => ?_)
                   · first
                     | exact absurd d_16 (by omega)
                     | (refine b_X4_rowOf_22 (by first | omega | assumption) ?_
                        refine s_X4_lays hM hV hu9 hu11 (fun w1 hS hbits hzf hUP hzs => ?_)
                        have hM1 := hS.MR hM
                        have hmf1 := hS.mf q
                        have ha1 : al (w1 9 0) = 84 := by rw [hM1.2.1]; rfl
                        have hI1 := hS.sd.Inv hI
                        have h991 : w1 9 9 = 15 := (hS.2 9 (by decide) (by decide) (by decide) (by decide)).trans hu9
                        have ha91 : al (w1 9 9) = 4200 := by rw [h991]; rfl
                        have h9111 : w1 9 11 = 16 := (hS.2 11 (by decide) (by decide) (by decide) (by decide)).trans hu11
                        have ha111 : al (w1 9 11) = 4200 := by rw [h9111]; rfl
                        refine b_X4_rowOf_27 (by first | omega | assumption) (fun d_27 => ?_) (fun d_27 => ?_) (fun d_27 => ?_) (fun d_27 => ?_) (fun d_27 => ?_) (fun d_27 => ?_) (fun d_27 => ?_) (fun d_27 => ?_) (fun d_27 => ?_)
                        · first
                          | exact absurd d_27 (by omega)
                          | (refine b_X4_rowOf_76 (by first | omega | assumption) (by first | omega | assumption) (by first | omega | assumption) ?_
                             exact JE (by first | (rw [hM1.2.1, d_27]; exact (congrArg (w1 10) (by omega)).trans (hM1.2.2.1.trans (by omega))) | (rw [hM1.2.1, d_27]; exact hM1.2.2.2.1.trans (by omega))) hI1)
                        · first
                          | exact absurd d_27 (by omega)
                          | (refine b_X4_rowOf_76 (by first | omega | assumption) (by first | omega | assumption) (by first | omega | assumption) ?_
                             exact JE (by first | (rw [hM1.2.1, d_27]; exact (congrArg (w1 10) (by omega)).trans (hM1.2.2.1.trans (by omega))) | (rw [hM1.2.1, d_27]; exact hM1.2.2.2.1.trans (by omega))) hI1)
                        · first
                          | exact absurd d_27 (by omega)
                          | (refine b_X4_rowOf_88 (by first | omega | assumption) ?_
                             refine s_X4_width hM1 ?_
                             refine b_X4_rowOf_93  ?_
                             exact JE (by rfl) hI1)
                        · first
                          | exact absurd d_27 (by omega)
                          | (refine b_X4_rowOf_94 (by first | omega | assumption) ?_
                             exact JE (by exact hbits) hI1)
                        · first
                          | exact absurd d_27 (by omega)
                          | (refine b_X4_rowOf_99 (by first | omega | assumption) ?_
                             refine s_X4_size hM1 ?_
                             refine b_X4_rowOf_104  ?_
                             exact JE (by rfl) hI1)
                        · first
                          | exact absurd d_27 (by omega)
                          | (refine b_X4_rowOf_105 (by first | omega | assumption) ?_
                             refine s_X4_many hM1 ?_
                             refine b_X4_rowOf_110 (by first | omega | assumption) (by first | omega | assumption) ?_
                             exact JE (by rw [h1]) hI1)
                        · first
                          | exact absurd d_27 (by omega)
                          | (refine b_X4_rowOf_115 (by first | omega | assumption) (by first | omega | assumption) (by first | omega | assumption) ?_
                             exact JE (by rw [hzf]) hI1)
                        · first
                          | exact absurd d_27 (by omega)
                          | (refine b_X4_rowOf_124 (by first | omega | assumption) ?_
                             refine s_X4_unlike hM1 ?_
                             refine b_X4_rowOf_129  ?_
                             exact JE (by rw [hmf1]; exact (unl_congr hE).symm) hI1)
                        · first
                          | exact absurd d_27 (by omega)
                          | (refine b_X4_rowOf_130 (by first | omega | assumption) ?_
                             refine s_X4_greatestGap hM1 (fun r2 hg2 => ?_)
                             refine b_X4_rowOf_135  ?_
                             exact JE (by rw [hmf1] at hg2; exact gst_one hg2 (gst_congr hE hg)) hI1))
                   · first
                     | exact absurd d_16 (by omega)
                     | (refine b_X4_rowOf_19  ?_
                        exact JE (by first | rfl | omega) hI)))
         · first
           | exact absurd c_15 (by omega)
           | (refine b_X3_rowOf_78 (by first | omega | assumption) ?_
              refine s_X1_width hR ?_
              refine b_X3_rowOf_82  ?_
              refine JQ.mk (by omega) ?_
              refine b_X4_rowOf_0  ?_
              refine s_X4_in (by omega) (by omega) (by omega) (fun r hr => ?_)
              refine b_X4_rowOf_6 (by first | omega | assumption) (fun d_6 => ?_) (fun d_6 => ?_)
              · first
                | exact absurd d_6 (by omega)
                | (refine b_X4_rowOf_19  ?_
                   exact JE (by first | rfl | omega) hI)
              · first
                | exact absurd d_6 (by omega)
                | (refine b_X4_rowOf_9  ?_
                   refine s_X4_in (by omega) (by omega) (by omega) (fun r hr => ?_)
                   refine b_X4_rowOf_16 (by first | omega | assumption) (fun d_16 => ?_) (fun d_16 => ?_)
                   · first
                     | exact absurd d_16 (by omega)
                     | (refine b_X4_rowOf_22 (by first | omega | assumption) ?_
                        refine s_X4_lays hM hV hu9 hu11 (fun w1 hS hbits hzf hUP hzs => ?_)
                        have hM1 := hS.MR hM
                        have hmf1 := hS.mf q
                        have ha1 : al (w1 9 0) = 84 := by rw [hM1.2.1]; rfl
                        have hI1 := hS.sd.Inv hI
                        have h991 : w1 9 9 = 15 := (hS.2 9 (by decide) (by decide) (by decide) (by decide)).trans hu9
                        have ha91 : al (w1 9 9) = 4200 := by rw [h991]; rfl
                        have h9111 : w1 9 11 = 16 := (hS.2 11 (by decide) (by decide) (by decide) (by decide)).trans hu11
                        have ha111 : al (w1 9 11) = 4200 := by rw [h9111]; rfl
                        refine b_X4_rowOf_27 (by first | omega | assumption) (fun d_27 => ?_) (fun d_27 => ?_) (fun d_27 => ?_) (fun d_27 => ?_) (fun d_27 => ?_) (fun d_27 => ?_) (fun d_27 => ?_) (fun d_27 => ?_) (fun d_27 => ?_)
                        · first
                          | exact absurd d_27 (by omega)
                          | (refine b_X4_rowOf_76 (by first | omega | assumption) (by first | omega | assumption) (by first | omega | assumption) ?_
                             exact JE (by first | (rw [hM1.2.1, d_27]; exact (congrArg (w1 10) (by omega)).trans (hM1.2.2.1.trans (by omega))) | (rw [hM1.2.1, d_27]; exact hM1.2.2.2.1.trans (by omega))) hI1)
                        · first
                          | exact absurd d_27 (by omega)
                          | (refine b_X4_rowOf_76 (by first | omega | assumption) (by first | omega | assumption) (by first | omega | assumption) ?_
                             exact JE (by first | (rw [hM1.2.1, d_27]; exact (congrArg (w1 10) (by omega)).trans (hM1.2.2.1.trans (by omega))) | (rw [hM1.2.1, d_27]; exact hM1.2.2.2.1.trans (by omega))) hI1)
                        · first
                          | exact absurd d_27 (by omega)
                          | (refine b_X4_rowOf_88 (by first | omega | assumption) ?_
                             refine s_X4_width hM1 ?_
                             refine b_X4_rowOf_93  ?_
                             exact JE (by rfl) hI1)
                        · first
                          | exact absurd d_27 (by omega)
                          | (refine b_X4_rowOf_94 (by first | omega | assumption) ?_
                             exact JE (by exact hbits) hI1)
                        · first
                          | exact absurd d_27 (by omega)
                          | (refine b_X4_rowOf_99 (by first | omega | assumption) ?_
                             refine s_X4_size hM1 ?_
                             refine b_X4_rowOf_104  ?_
                             exact JE (by rfl) hI1)
                        · first
                          | exact absurd d_27 (by omega)
                          | (refine b_X4_rowOf_105 (by first | omega | assumption) ?_
                             refine s_X4_many hM1 ?_
                             refine b_X4_rowOf_110 (by first | omega | assumption) (by first | omega | assumption) ?_
                             exact JE (by rw [h1]) hI1)
                        · first
                          | exact absurd d_27 (by omega)
                          | (refine b_X4_rowOf_115 (by first | omega | assumption) (by first | omega | assumption) (by first | omega | assumption) ?_
                             exact JE (by rw [hzf]) hI1)
                        · first
                          | exact absurd d_27 (by omega)
                          | (refine b_X4_rowOf_124 (by first | omega | assumption) ?_
                             refine s_X4_unlike hM1 ?_
                             refine b_X4_rowOf_129  ?_
                             exact JE (by rw [hmf1]; exact (unl_congr hE).symm) hI1)
                        · first
                          | exact absurd d_27 (by omega)
                          | (refine b_X4_rowOf_130 (by first | omega | assumption) ?_
                             refine s_X4_greatestGap hM1 (fun r2 hg2 => ?_)
                             refine b_X4_rowOf_135  ?_
                             exact JE (by rw [hmf1] at hg2; exact gst_one hg2 (gst_congr hE hg)) hI1))
                   · first
                     | exact absurd d_16 (by omega)
                     | (refine b_X4_rowOf_19  ?_
                        exact JE (by first | rfl | omega) hI)))
         · first
           | exact absurd c_15 (by omega)
           | (refine b_X3_rowOf_83 (by first | omega | assumption) ?_
              refine s_X1_upperLength hR ?_
              refine b_X3_rowOf_87  ?_
              refine JQ.mk (by omega) ?_
              refine b_X4_rowOf_0  ?_
              refine s_X4_in (by omega) (by omega) (by omega) (fun r hr => ?_)
              refine b_X4_rowOf_6 (by first | omega | assumption) (fun d_6 => ?_) (fun d_6 => ?_)
              · first
                | exact absurd d_6 (by omega)
                | (refine b_X4_rowOf_19  ?_
                   exact JE (by first | rfl | omega) hI)
              · first
                | exact absurd d_6 (by omega)
                | (refine b_X4_rowOf_9  ?_
                   refine s_X4_in (by omega) (by omega) (by omega) (fun r hr => ?_)
                   refine b_X4_rowOf_16 (by first | omega | assumption) (fun d_16 => ?_) (fun d_16 => ?_)
                   · first
                     | exact absurd d_16 (by omega)
                     | (refine b_X4_rowOf_22 (by first | omega | assumption) ?_
                        refine s_X4_lays hM hV hu9 hu11 (fun w1 hS hbits hzf hUP hzs => ?_)
                        have hM1 := hS.MR hM
                        have hmf1 := hS.mf q
                        have ha1 : al (w1 9 0) = 84 := by rw [hM1.2.1]; rfl
                        have hI1 := hS.sd.Inv hI
                        have h991 : w1 9 9 = 15 := (hS.2 9 (by decide) (by decide) (by decide) (by decide)).trans hu9
                        have ha91 : al (w1 9 9) = 4200 := by rw [h991]; rfl
                        have h9111 : w1 9 11 = 16 := (hS.2 11 (by decide) (by decide) (by decide) (by decide)).trans hu11
                        have ha111 : al (w1 9 11) = 4200 := by rw [h9111]; rfl
                        refine b_X4_rowOf_27 (by first | omega | assumption) (fun d_27 => ?_) (fun d_27 => ?_) (fun d_27 => ?_) (fun d_27 => ?_) (fun d_27 => ?_) (fun d_27 => ?_) (fun d_27 => ?_) (fun d_27 => ?_) (fun d_27 => ?_)
                        · first
                          | exact absurd d_27 (by omega)
                          | (refine b_X4_rowOf_76 (by first | omega | assumption) (by first | omega | assumption) (by first | omega | assumption) ?_
                             exact JE (by first | (rw [hM1.2.1, d_27]; exact (congrArg (w1 10) (by omega)).trans (hM1.2.2.1.trans (by omega))) | (rw [hM1.2.1, d_27]; exact hM1.2.2.2.1.trans (by omega))) hI1)
                        · first
                          | exact absurd d_27 (by omega)
                          | (refine b_X4_rowOf_76 (by first | omega | assumption) (by first | omega | assumption) (by first | omega | assumption) ?_
                             exact JE (by first | (rw [hM1.2.1, d_27]; exact (congrArg (w1 10) (by omega)).trans (hM1.2.2.1.trans (by omega))) | (rw [hM1.2.1, d_27]; exact hM1.2.2.2.1.trans (by omega))) hI1)
                        · first
                          | exact absurd d_27 (by omega)
                          | (refine b_X4_rowOf_88 (by first | omega | assumption) ?_
                             refine s_X4_width hM1 ?_
                             refine b_X4_rowOf_93  ?_
                             exact JE (by rfl) hI1)
                        · first
                          | exact absurd d_27 (by omega)
                          | (refine b_X4_rowOf_94 (by first | omega | assumption) ?_
                             exact JE (by exact hbits) hI1)
                        · first
                          | exact absurd d_27 (by omega)
                          | (refine b_X4_rowOf_99 (by first | omega | assumption) ?_
                             refine s_X4_size hM1 ?_
                             refine b_X4_rowOf_104  ?_
                             exact JE (by rfl) hI1)
                        · first
                          | exact absurd d_27 (by omega)
                          | (refine b_X4_rowOf_105 (by first | omega | assumption) ?_
                             refine s_X4_many hM1 ?_
                             refine b_X4_rowOf_110 (by first | omega | assumption) (by first | omega | assumption) ?_
                             exact JE (by rw [h1]) hI1)
                        · first
                          | exact absurd d_27 (by omega)
                          | (refine b_X4_rowOf_115 (by first | omega | assumption) (by first | omega | assumption) (by first | omega | assumption) ?_
                             exact JE (by rw [hzf]) hI1)
                        · first
                          | exact absurd d_27 (by omega)
                          | (refine b_X4_rowOf_124 (by first | omega | assumption) ?_
                             refine s_X4_unlike hM1 ?_
                             refine b_X4_rowOf_129  ?_
                             exact JE (by rw [hmf1]; exact (unl_congr hE).symm) hI1)
                        · first
                          | exact absurd d_27 (by omega)
                          | (refine b_X4_rowOf_130 (by first | omega | assumption) ?_
                             refine s_X4_greatestGap hM1 (fun r2 hg2 => ?_)
                             refine b_X4_rowOf_135  ?_
                             exact JE (by rw [hmf1] at hg2; exact gst_one hg2 (gst_congr hE hg)) hI1))
                   · first
                     | exact absurd d_16 (by omega)
                     | (refine b_X4_rowOf_19  ?_
                        exact JE (by first | rfl | omega) hI)))
         · first
           | exact absurd c_15 (by omega)
           | (refine b_X3_rowOf_88 (by first | omega | assumption) ?_
              refine s_X1_bits hR ?_
              refine b_X3_rowOf_92  ?_
              refine JQ.mk (by omega) ?_
              refine b_X4_rowOf_0  ?_
              refine s_X4_in (by omega) (by omega) (by omega) (fun r hr => ?_)
              refine b_X4_rowOf_6 (by first | omega | assumption) (fun d_6 => ?_) (fun d_6 => ?_)
              · first
                | exact absurd d_6 (by omega)
                | (refine b_X4_rowOf_19  ?_
                   exact JE (by first | rfl | omega) hI)
              · first
                | exact absurd d_6 (by omega)
                | (refine b_X4_rowOf_9  ?_
                   refine s_X4_in (by omega) (by omega) (by omega) (fun r hr => ?_)
                   refine b_X4_rowOf_16 (by first | omega | assumption) (fun d_16 => ?_) (fun d_16 => ?_)
                   · first
                     | exact absurd d_16 (by omega)
                     | (refine b_X4_rowOf_22 (by first | omega | assumption) ?_
                        refine s_X4_lays hM hV hu9 hu11 (fun w1 hS hbits hzf hUP hzs => ?_)
                        have hM1 := hS.MR hM
                        have hmf1 := hS.mf q
                        have ha1 : al (w1 9 0) = 84 := by rw [hM1.2.1]; rfl
                        have hI1 := hS.sd.Inv hI
                        have h991 : w1 9 9 = 15 := (hS.2 9 (by decide) (by decide) (by decide) (by decide)).trans hu9
                        have ha91 : al (w1 9 9) = 4200 := by rw [h991]; rfl
                        have h9111 : w1 9 11 = 16 := (hS.2 11 (by decide) (by decide) (by decide) (by decide)).trans hu11
                        have ha111 : al (w1 9 11) = 4200 := by rw [h9111]; rfl
                        refine b_X4_rowOf_27 (by first | omega | assumption) (fun d_27 => ?_) (fun d_27 => ?_) (fun d_27 => ?_) (fun d_27 => ?_) (fun d_27 => ?_) (fun d_27 => ?_) (fun d_27 => ?_) (fun d_27 => ?_) (fun d_27 => ?_)
                        · first
                          | exact absurd d_27 (by omega)
                          | (refine b_X4_rowOf_76 (by first | omega | assumption) (by first | omega | assumption) (by first | omega | assumption) ?_
                             exact JE (by first | (rw [hM1.2.1, d_27]; exact (congrArg (w1 10) (by omega)).trans (hM1.2.2.1.trans (by omega))) | (rw [hM1.2.1, d_27]; exact hM1.2.2.2.1.trans (by omega))) hI1)
                        · first
                          | exact absurd d_27 (by omega)
                          | (refine b_X4_rowOf_76 (by first | omega | assumption) (by first | omega | assumption) (by first | omega | assumption) ?_
                             exact JE (by first | (rw [hM1.2.1, d_27]; exact (congrArg (w1 10) (by omega)).trans (hM1.2.2.1.trans (by omega))) | (rw [hM1.2.1, d_27]; exact hM1.2.2.2.1.trans (by omega))) hI1)
                        · first
                          | exact absurd d_27 (by omega)
                          | (refine b_X4_rowOf_88 (by first | omega | assumption) ?_
                             refine s_X4_width hM1 ?_
                             refine b_X4_rowOf_93  ?_
                             exact JE (by rfl) hI1)
                        · first
                          | exact absurd d_27 (by omega)
                          | (refine b_X4_rowOf_94 (by first | omega | assumption) ?_
                             exact JE (by exact hbits) hI1)
                        · first
                          | exact absurd d_27 (by omega)
                          | (refine b_X4_rowOf_99 (by first | omega | assumption) ?_
                             refine s_X4_size hM1 ?_
                             refine b_X4_rowOf_104  ?_
                             exact JE (by rfl) hI1)
                        · first
                          | exact absurd d_27 (by omega)
                          | (refine b_X4_rowOf_105 (by first | omega | assumption) ?_
                             refine s_X4_many hM1 ?_
                             refine b_X4_rowOf_110 (by first | omega | assumption) (by first | omega | assumption) ?_
                             exact JE (by rw [h1]) hI1)
                        · first
                          | exact absurd d_27 (by omega)
                          | (refine b_X4_rowOf_115 (by first | omega | assumption) (by first | omega | assumption) (by first | omega | assumption) ?_
                             exact JE (by rw [hzf]) hI1)
                        · first
                          | exact absurd d_27 (by omega)
                          | (refine b_X4_rowOf_124 (by first | omega | assumption) ?_
                             refine s_X4_unlike hM1 ?_
                             refine b_X4_rowOf_129  ?_
                             exact JE (by rw [hmf1]; exact (unl_congr hE).symm) hI1)
                        · first
                          | exact absurd d_27 (by omega)
                          | (refine b_X4_rowOf_130 (by first | omega | assumption) ?_
                             refine s_X4_greatestGap hM1 (fun r2 hg2 => ?_)
                             refine b_X4_rowOf_135  ?_
                             exact JE (by rw [hmf1] at hg2; exact gst_one hg2 (gst_congr hE hg)) hI1))
                   · first
                     | exact absurd d_16 (by omega)
                     | (refine b_X4_rowOf_19  ?_
                        exact JE (by first | rfl | omega) hI)))
         · first
           | exact absurd c_15 (by omega)
           | (refine b_X3_rowOf_93 (by first | omega | assumption) ?_
              refine s_X3_samplesOf (by omega) (by omega) ?_
              refine b_X3_rowOf_100  ?_
              refine JQ.mk (by omega) ?_
              refine b_X4_rowOf_0  ?_
              refine s_X4_in (by omega) (by omega) (by omega) (fun r hr => ?_)
              refine b_X4_rowOf_6 (by first | omega | assumption) (fun d_6 => ?_) (fun d_6 => ?_)
              · first
                | exact absurd d_6 (by omega)
                | (refine b_X4_rowOf_19  ?_
                   exact JE (by first | rfl | omega) hI)
              · first
                | exact absurd d_6 (by omega)
                | (refine b_X4_rowOf_9  ?_
                   refine s_X4_in (by omega) (by omega) (by omega) (fun r hr => ?_)
                   refine b_X4_rowOf_16 (by first | omega | assumption) (fun d_16 => ?_) (fun d_16 => ?_)
                   · first
                     | exact absurd d_16 (by omega)
                     | (refine b_X4_rowOf_22 (by first | omega | assumption) ?_
                        refine s_X4_lays hM hV hu9 hu11 (fun w1 hS hbits hzf hUP hzs => ?_)
                        have hM1 := hS.MR hM
                        have hmf1 := hS.mf q
                        have ha1 : al (w1 9 0) = 84 := by rw [hM1.2.1]; rfl
                        have hI1 := hS.sd.Inv hI
                        have h991 : w1 9 9 = 15 := (hS.2 9 (by decide) (by decide) (by decide) (by decide)).trans hu9
                        have ha91 : al (w1 9 9) = 4200 := by rw [h991]; rfl
                        have h9111 : w1 9 11 = 16 := (hS.2 11 (by decide) (by decide) (by decide) (by decide)).trans hu11
                        have ha111 : al (w1 9 11) = 4200 := by rw [h9111]; rfl
                        refine b_X4_rowOf_27 (by first | omega | assumption) (fun d_27 => ?_) (fun d_27 => ?_) (fun d_27 => ?_) (fun d_27 => ?_) (fun d_27 => ?_) (fun d_27 => ?_) (fun d_27 => ?_) (fun d_27 => ?_) (fun d_27 => ?_)
                        · first
                          | exact absurd d_27 (by omega)
                          | (refine b_X4_rowOf_76 (by first | omega | assumption) (by first | omega | assumption) (by first | omega | assumption) ?_
                             exact JE (by first | (rw [hM1.2.1, d_27]; exact (congrArg (w1 10) (by omega)).trans (hM1.2.2.1.trans (by omega))) | (rw [hM1.2.1, d_27]; exact hM1.2.2.2.1.trans (by omega))) hI1)
                        · first
                          | exact absurd d_27 (by omega)
                          | (refine b_X4_rowOf_76 (by first | omega | assumption) (by first | omega | assumption) (by first | omega | assumption) ?_
                             exact JE (by first | (rw [hM1.2.1, d_27]; exact (congrArg (w1 10) (by omega)).trans (hM1.2.2.1.trans (by omega))) | (rw [hM1.2.1, d_27]; exact hM1.2.2.2.1.trans (by omega))) hI1)
                        · first
                          | exact absurd d_27 (by omega)
                          | (refine b_X4_rowOf_88 (by first | omega | assumption) ?_
                             refine s_X4_width hM1 ?_
                             refine b_X4_rowOf_93  ?_
                             exact JE (by rfl) hI1)
                        · first
                          | exact absurd d_27 (by omega)
                          | (refine b_X4_rowOf_94 (by first | omega | assumption) ?_
                             exact JE (by exact hbits) hI1)
                        · first
                          | exact absurd d_27 (by omega)
                          | (refine b_X4_rowOf_99 (by first | omega | assumption) ?_
                             refine s_X4_size hM1 ?_
                             refine b_X4_rowOf_104  ?_
                             exact JE (by rfl) hI1)
                        · first
                          | exact absurd d_27 (by omega)
                          | (refine b_X4_rowOf_105 (by first | omega | assumption) ?_
                             refine s_X4_many hM1 ?_
                             refine b_X4_rowOf_110 (by first | omega | assumption) (by first | omega | assumption) ?_
                             exact JE (by rw [h1]) hI1)
                        · first
                          | exact absurd d_27 (by omega)
                          | (refine b_X4_rowOf_115 (by first | omega | assumption) (by first | omega | assumption) (by first | omega | assumption) ?_
                             exact JE (by rw [hzf]) hI1)
                        · first
                          | exact absurd d_27 (by omega)
                          | (refine b_X4_rowOf_124 (by first | omega | assumption) ?_
                             refine s_X4_unlike hM1 ?_
                             refine b_X4_rowOf_129  ?_
                             exact JE (by rw [hmf1]; exact (unl_congr hE).symm) hI1)
                        · first
                          | exact absurd d_27 (by omega)
                          | (refine b_X4_rowOf_130 (by first | omega | assumption) ?_
                             refine s_X4_greatestGap hM1 (fun r2 hg2 => ?_)
                             refine b_X4_rowOf_135  ?_
                             exact JE (by rw [hmf1] at hg2; exact gst_one hg2 (gst_congr hE hg)) hI1))
                   · first
                     | exact absurd d_16 (by omega)
                     | (refine b_X4_rowOf_19  ?_
                        exact JE (by first | rfl | omega) hI)))
         · first
           | exact absurd c_15 (by omega)
           | (refine b_X3_rowOf_101 (by first | omega | assumption) ?_
              refine s_X1_zeros hR ?_
              refine b_X3_rowOf_105  ?_
              refine s_X3_samplesOf (by omega) (by omega) ?_
              refine b_X3_rowOf_108  ?_
              refine JQ.mk (by omega) ?_
              refine b_X4_rowOf_0  ?_
              refine s_X4_in (by omega) (by omega) (by omega) (fun r hr => ?_)
              refine b_X4_rowOf_6 (by first | omega | assumption) (fun d_6 => ?_) (fun d_6 => ?_)
              · first
                | exact absurd d_6 (by omega)
                | (refine b_X4_rowOf_19  ?_
                   exact JE (by first | rfl | omega) hI)
              · first
                | exact absurd d_6 (by omega)
                | (refine b_X4_rowOf_9  ?_
                   refine s_X4_in (by omega) (by omega) (by omega) (fun r hr => ?_)
                   refine b_X4_rowOf_16 (by first | omega | assumption) (fun d_16 => ?_) (fun d_16 => ?_)
                   · first
                     | exact absurd d_16 (by omega)
                     | (refine b_X4_rowOf_22 (by first | omega | assumption) ?_
                        refine s_X4_lays hM hV hu9 hu11 (fun w1 hS hbits hzf hUP hzs => ?_)
                        have hM1 := hS.MR hM
                        have hmf1 := hS.mf q
                        have ha1 : al (w1 9 0) = 84 := by rw [hM1.2.1]; rfl
                        have hI1 := hS.sd.Inv hI
                        have h991 : w1 9 9 = 15 := (hS.2 9 (by decide) (by decide) (by decide) (by decide)).trans hu9
                        have ha91 : al (w1 9 9) = 4200 := by rw [h991]; rfl
                        have h9111 : w1 9 11 = 16 := (hS.2 11 (by decide) (by decide) (by decide) (by decide)).trans hu11
                        have ha111 : al (w1 9 11) = 4200 := by rw [h9111]; rfl
                        refine b_X4_rowOf_27 (by first | omega | assumption) (fun d_27 => ?_) (fun d_27 => ?_) (fun d_27 => ?_) (fun d_27 => ?_) (fun d_27 => ?_) (fun d_27 => ?_) (fun d_27 => ?_) (fun d_27 => ?_) (fun d_27 => ?_)
                        · first
                          | exact absurd d_27 (by omega)
                          | (refine b_X4_rowOf_76 (by first | omega | assumption) (by first | omega | assumption) (by first | omega | assumption) ?_
                             exact JE (by first | (rw [hM1.2.1, d_27]; exact (congrArg (w1 10) (by omega)).trans (hM1.2.2.1.trans (by omega))) | (rw [hM1.2.1, d_27]; exact hM1.2.2.2.1.trans (by omega))) hI1)
                        · first
                          | exact absurd d_27 (by omega)
                          | (refine b_X4_rowOf_76 (by first | omega | assumption) (by first | omega | assumption) (by first | omega | assumption) ?_
                             exact JE (by first | (rw [hM1.2.1, d_27]; exact (congrArg (w1 10) (by omega)).trans (hM1.2.2.1.trans (by omega))) | (rw [hM1.2.1, d_27]; exact hM1.2.2.2.1.trans (by omega))) hI1)
                        · first
                          | exact absurd d_27 (by omega)
                          | (refine b_X4_rowOf_88 (by first | omega | assumption) ?_
                             refine s_X4_width hM1 ?_
                             refine b_X4_rowOf_93  ?_
                             exact JE (by rfl) hI1)
                        · first
                          | exact absurd d_27 (by omega)
                          | (refine b_X4_rowOf_94 (by first | omega | assumption) ?_
                             exact JE (by exact hbits) hI1)
                        · first
                          | exact absurd d_27 (by omega)
                          | (refine b_X4_rowOf_99 (by first | omega | assumption) ?_
                             refine s_X4_size hM1 ?_
                             refine b_X4_rowOf_104  ?_
                             exact JE (by rfl) hI1)
                        · first
                          | exact absurd d_27 (by omega)
                          | (refine b_X4_rowOf_105 (by first | omega | assumption) ?_
                             refine s_X4_many hM1 ?_
                             refine b_X4_rowOf_110 (by first | omega | assumption) (by first | omega | assumption) ?_
                             exact JE (by rw [h1]) hI1)
                        · first
                          | exact absurd d_27 (by omega)
                          | (refine b_X4_rowOf_115 (by first | omega | assumption) (by first | omega | assumption) (by first | omega | assumption) ?_
                             exact JE (by rw [hzf]) hI1)
                        · first
                          | exact absurd d_27 (by omega)
                          | (refine b_X4_rowOf_124 (by first | omega | assumption) ?_
                             refine s_X4_unlike hM1 ?_
                             refine b_X4_rowOf_129  ?_
                             exact JE (by rw [hmf1]; exact (unl_congr hE).symm) hI1)
                        · first
                          | exact absurd d_27 (by omega)
                          | (refine b_X4_rowOf_130 (by first | omega | assumption) ?_
                             refine s_X4_greatestGap hM1 (fun r2 hg2 => ?_)
                             refine b_X4_rowOf_135  ?_
                             exact JE (by rw [hmf1] at hg2; exact gst_one hg2 (gst_congr hE hg)) hI1))
                   · first
                     | exact absurd d_16 (by omega)
                     | (refine b_X4_rowOf_19  ?_
                        exact JE (by first | rfl | omega) hI)))
         · first
           | exact absurd c_15 (by omega)
           | (refine b_X3_rowOf_109 (by first | omega | assumption) ?_
              refine s_X1_unlike h ?_
              refine b_X3_rowOf_113  ?_
              refine JQ.mk (by omega) ?_
              refine b_X4_rowOf_0  ?_
              refine s_X4_in (by omega) (by omega) (by omega) (fun r hr => ?_)
              refine b_X4_rowOf_6 (by first | omega | assumption) (fun d_6 => ?_) (fun d_6 => ?_)
              · first
                | exact absurd d_6 (by omega)
                | (refine b_X4_rowOf_19  ?_
                   exact JE (by first | rfl | omega) hI)
              · first
                | exact absurd d_6 (by omega)
                | (refine b_X4_rowOf_9  ?_
                   refine s_X4_in (by omega) (by omega) (by omega) (fun r hr => ?_)
                   refine b_X4_rowOf_16 (by first | omega | assumption) (fun d_16 => ?_) (fun d_16 => ?_)
                   · first
                     | exact absurd d_16 (by omega)
                     | (refine b_X4_rowOf_22 (by first | omega | assumption) ?_
                        refine s_X4_lays hM hV hu9 hu11 (fun w1 hS hbits hzf hUP hzs => ?_)
                        have hM1 := hS.MR hM
                        have hmf1 := hS.mf q
                        have ha1 : al (w1 9 0) = 84 := by rw [hM1.2.1]; rfl
                        have hI1 := hS.sd.Inv hI
                        have h991 : w1 9 9 = 15 := (hS.2 9 (by decide) (by decide) (by decide) (by decide)).trans hu9
                        have ha91 : al (w1 9 9) = 4200 := by rw [h991]; rfl
                        have h9111 : w1 9 11 = 16 := (hS.2 11 (by decide) (by decide) (by decide) (by decide)).trans hu11
                        have ha111 : al (w1 9 11) = 4200 := by rw [h9111]; rfl
                        refine b_X4_rowOf_27 (by first | omega | assumption) (fun d_27 => ?_) (fun d_27 => ?_) (fun d_27 => ?_) (fun d_27 => ?_) (fun d_27 => ?_) (fun d_27 => ?_) (fun d_27 => ?_) (fun d_27 => ?_) (fun d_27 => ?_)
                        · first
                          | exact absurd d_27 (by omega)
                          | (refine b_X4_rowOf_76 (by first | omega | assumption) (by first | omega | assumption) (by first | omega | assumption) ?_
                             exact JE (by first | (rw [hM1.2.1, d_27]; exact (congrArg (w1 10) (by omega)).trans (hM1.2.2.1.trans (by omega))) | (rw [hM1.2.1, d_27]; exact hM1.2.2.2.1.trans (by omega))) hI1)
                        · first
                          | exact absurd d_27 (by omega)
                          | (refine b_X4_rowOf_76 (by first | omega | assumption) (by first | omega | assumption) (by first | omega | assumption) ?_
                             exact JE (by first | (rw [hM1.2.1, d_27]; exact (congrArg (w1 10) (by omega)).trans (hM1.2.2.1.trans (by omega))) | (rw [hM1.2.1, d_27]; exact hM1.2.2.2.1.trans (by omega))) hI1)
                        · first
                          | exact absurd d_27 (by omega)
                          | (refine b_X4_rowOf_88 (by first | omega | assumption) ?_
                             refine s_X4_width hM1 ?_
                             refine b_X4_rowOf_93  ?_
                             exact JE (by rfl) hI1)
                        · first
                          | exact absurd d_27 (by omega)
                          | (refine b_X4_rowOf_94 (by first | omega | assumption) ?_
                             exact JE (by exact hbits) hI1)
                        · first
                          | exact absurd d_27 (by omega)
                          | (refine b_X4_rowOf_99 (by first | omega | assumption) ?_
                             refine s_X4_size hM1 ?_
                             refine b_X4_rowOf_104  ?_
                             exact JE (by rfl) hI1)
                        · first
                          | exact absurd d_27 (by omega)
                          | (refine b_X4_rowOf_105 (by first | omega | assumption) ?_
                             refine s_X4_many hM1 ?_
                             refine b_X4_rowOf_110 (by first | omega | assumption) (by first | omega | assumption) ?_
                             exact JE (by rw [h1]) hI1)
                        · first
                          | exact absurd d_27 (by omega)
                          | (refine b_X4_rowOf_115 (by first | omega | assumption) (by first | omega | assumption) (by first | omega | assumption) ?_
                             exact JE (by rw [hzf]) hI1)
                        · first
                          | exact absurd d_27 (by omega)
                          | (refine b_X4_rowOf_124 (by first | omega | assumption) ?_
                             refine s_X4_unlike hM1 ?_
                             refine b_X4_rowOf_129  ?_
                             exact JE (by rw [hmf1]; exact (unl_congr hE).symm) hI1)
                        · first
                          | exact absurd d_27 (by omega)
                          | (refine b_X4_rowOf_130 (by first | omega | assumption) ?_
                             refine s_X4_greatestGap hM1 (fun r2 hg2 => ?_)
                             refine b_X4_rowOf_135  ?_
                             exact JE (by rw [hmf1] at hg2; exact gst_one hg2 (gst_congr hE hg)) hI1))
                   · first
                     | exact absurd d_16 (by omega)
                     | (refine b_X4_rowOf_19  ?_
                        exact JE (by first | rfl | omega) hI)))
         · first
           | exact absurd c_15 (by omega)
           | (refine b_X3_rowOf_114 (by first | omega | assumption) ?_
              refine s_X1_greatestStep h (fun r hg => ?_)
              have hg0 := hg.1
              have hg1 := hg.2.1
              refine b_X3_rowOf_118  ?_
              refine JQ.mk (by omega) ?_
              refine b_X4_rowOf_0  ?_
              refine s_X4_in (by omega) (by omega) (by omega) (fun r hr => ?_)
              refine b_X4_rowOf_6 (by first | omega | assumption) (fun d_6 => ?_) (fun d_6 => ?_)
              · first
                | exact absurd d_6 (by omega)
                | (refine b_X4_rowOf_19  ?_
                   exact JE (by first | rfl | omega) hI)
              · first
                | exact absurd d_6 (by omega)
                | (refine b_X4_rowOf_9  ?_
                   refine s_X4_in (by omega) (by omega) (by omega) (fun r hr => ?_)
                   refine b_X4_rowOf_16 (by first | omega | assumption) (fun d_16 => ?_) (fun d_16 => ?_)
                   · first
                     | exact absurd d_16 (by omega)
                     | (refine b_X4_rowOf_22 (by first | omega | assumption) ?_
                        refine s_X4_lays hM hV hu9 hu11 (fun w1 hS hbits hzf hUP hzs => ?_)
                        have hM1 := hS.MR hM
                        have hmf1 := hS.mf q
                        have ha1 : al (w1 9 0) = 84 := by rw [hM1.2.1]; rfl
                        have hI1 := hS.sd.Inv hI
                        have h991 : w1 9 9 = 15 := (hS.2 9 (by decide) (by decide) (by decide) (by decide)).trans hu9
                        have ha91 : al (w1 9 9) = 4200 := by rw [h991]; rfl
                        have h9111 : w1 9 11 = 16 := (hS.2 11 (by decide) (by decide) (by decide) (by decide)).trans hu11
                        have ha111 : al (w1 9 11) = 4200 := by rw [h9111]; rfl
                        refine b_X4_rowOf_27 (by first | omega | assumption) (fun d_27 => ?_) (fun d_27 => ?_) (fun d_27 => ?_) (fun d_27 => ?_) (fun d_27 => ?_) (fun d_27 => ?_) (fun d_27 => ?_) (fun d_27 => ?_) (fun d_27 => ?_)
                        · first
                          | exact absurd d_27 (by omega)
                          | (refine b_X4_rowOf_76 (by first | omega | assumption) (by first | omega | assumption) (by first | omega | assumption) ?_
                             exact JE (by first | (rw [hM1.2.1, d_27]; exact (congrArg (w1 10) (by omega)).trans (hM1.2.2.1.trans (by omega))) | (rw [hM1.2.1, d_27]; exact hM1.2.2.2.1.trans (by omega))) hI1)
                        · first
                          | exact absurd d_27 (by omega)
                          | (refine b_X4_rowOf_76 (by first | omega | assumption) (by first | omega | assumption) (by first | omega | assumption) ?_
                             exact JE (by first | (rw [hM1.2.1, d_27]; exact (congrArg (w1 10) (by omega)).trans (hM1.2.2.1.trans (by omega))) | (rw [hM1.2.1, d_27]; exact hM1.2.2.2.1.trans (by omega))) hI1)
                        · first
                          | exact absurd d_27 (by omega)
                          | (refine b_X4_rowOf_88 (by first | omega | assumption) ?_
                             refine s_X4_width hM1 ?_
                             refine b_X4_rowOf_93  ?_
                             exact JE (by rfl) hI1)
                        · first
                          | exact absurd d_27 (by omega)
                          | (refine b_X4_rowOf_94 (by first | omega | assumption) ?_
                             exact JE (by exact hbits) hI1)
                        · first
                          | exact absurd d_27 (by omega)
                          | (refine b_X4_rowOf_99 (by first | omega | assumption) ?_
                             refine s_X4_size hM1 ?_
                             refine b_X4_rowOf_104  ?_
                             exact JE (by rfl) hI1)
                        · first
                          | exact absurd d_27 (by omega)
                          | (refine b_X4_rowOf_105 (by first | omega | assumption) ?_
                             refine s_X4_many hM1 ?_
                             refine b_X4_rowOf_110 (by first | omega | assumption) (by first | omega | assumption) ?_
                             exact JE (by rw [h1]) hI1)
                        · first
                          | exact absurd d_27 (by omega)
                          | (refine b_X4_rowOf_115 (by first | omega | assumption) (by first | omega | assumption) (by first | omega | assumption) ?_
                             exact JE (by rw [hzf]) hI1)
                        · first
                          | exact absurd d_27 (by omega)
                          | (refine b_X4_rowOf_124 (by first | omega | assumption) ?_
                             refine s_X4_unlike hM1 ?_
                             refine b_X4_rowOf_129  ?_
                             exact JE (by rw [hmf1]; exact (unl_congr hE).symm) hI1)
                        · first
                          | exact absurd d_27 (by omega)
                          | (refine b_X4_rowOf_130 (by first | omega | assumption) ?_
                             refine s_X4_greatestGap hM1 (fun r2 hg2 => ?_)
                             refine b_X4_rowOf_135  ?_
                             exact JE (by rw [hmf1] at hg2; exact gst_one hg2 (gst_congr hE hg)) hI1))
                   · first
                     | exact absurd d_16 (by omega)
                     | (refine b_X4_rowOf_19  ?_
                        exact JE (by first | rfl | omega) hI)))
         · first
           | exact absurd c_15 (by omega)
           | (refine b_X3_rowOf_119  ?_
              refine JQ.mk (by omega) ?_
              refine b_X4_rowOf_0  ?_
              refine s_X4_in (by omega) (by omega) (by omega) (fun r hr => ?_)
              refine b_X4_rowOf_6 (by first | omega | assumption) (fun d_6 => ?_) (fun d_6 => ?_)
              · first
                | exact absurd d_6 (by omega)
                | (refine b_X4_rowOf_19  ?_
                   exact JE (by first | rfl | omega) hI)
              · first
                | exact absurd d_6 (by omega)
                | (refine b_X4_rowOf_9  ?_
                   refine s_X4_in (by omega) (by omega) (by omega) (fun r hr => ?_)
                   refine b_X4_rowOf_16 (by first | omega | assumption) (fun d_16 => ?_) (fun d_16 => ?_)
                   · first
                     | exact absurd d_16 (by omega)
                     | (refine b_X4_rowOf_22 (by first | omega | assumption) ?_
                        refine s_X4_lays hM hV hu9 hu11 (fun w1 hS hbits hzf hUP hzs => ?_)
                        have hM1 := hS.MR hM
                        have hmf1 := hS.mf q
                        have ha1 : al (w1 9 0) = 84 := by rw [hM1.2.1]; rfl
                        have hI1 := hS.sd.Inv hI
                        have h991 : w1 9 9 = 15 := (hS.2 9 (by decide) (by decide) (by decide) (by decide)).trans hu9
                        have ha91 : al (w1 9 9) = 4200 := by rw [h991]; rfl
                        have h9111 : w1 9 11 = 16 := (hS.2 11 (by decide) (by decide) (by decide) (by decide)).trans hu11
                        have ha111 : al (w1 9 11) = 4200 := by rw [h9111]; rfl
                        refine b_X4_rowOf_27 (by first | omega | assumption) (fun d_27 => ?_) (fun d_27 => ?_) (fun d_27 => ?_) (fun d_27 => ?_) (fun d_27 => ?_) (fun d_27 => ?_) (fun d_27 => ?_) (fun d_27 => ?_) (fun d_27 => ?_)
                        · first
                          | exact absurd d_27 (by omega)
                          | (refine b_X4_rowOf_76 (by first | omega | assumption) (by first | omega | assumption) (by first | omega | assumption) ?_
                             exact JE (by first | (rw [hM1.2.1, d_27]; exact (congrArg (w1 10) (by omega)).trans (hM1.2.2.1.trans (by omega))) | (rw [hM1.2.1, d_27]; exact hM1.2.2.2.1.trans (by omega))) hI1)
                        · first
                          | exact absurd d_27 (by omega)
                          | (refine b_X4_rowOf_76 (by first | omega | assumption) (by first | omega | assumption) (by first | omega | assumption) ?_
                             exact JE (by first | (rw [hM1.2.1, d_27]; exact (congrArg (w1 10) (by omega)).trans (hM1.2.2.1.trans (by omega))) | (rw [hM1.2.1, d_27]; exact hM1.2.2.2.1.trans (by omega))) hI1)
                        · first
                          | exact absurd d_27 (by omega)
                          | (refine b_X4_rowOf_88 (by first | omega | assumption) ?_
                             refine s_X4_width hM1 ?_
                             refine b_X4_rowOf_93  ?_
                             exact JE (by rfl) hI1)
                        · first
                          | exact absurd d_27 (by omega)
                          | (refine b_X4_rowOf_94 (by first | omega | assumption) ?_
                             exact JE (by exact hbits) hI1)
                        · first
                          | exact absurd d_27 (by omega)
                          | (refine b_X4_rowOf_99 (by first | omega | assumption) ?_
                             refine s_X4_size hM1 ?_
                             refine b_X4_rowOf_104  ?_
                             exact JE (by rfl) hI1)
                        · first
                          | exact absurd d_27 (by omega)
                          | (refine b_X4_rowOf_105 (by first | omega | assumption) ?_
                             refine s_X4_many hM1 ?_
                             refine b_X4_rowOf_110 (by first | omega | assumption) (by first | omega | assumption) ?_
                             exact JE (by rw [h1]) hI1)
                        · first
                          | exact absurd d_27 (by omega)
                          | (refine b_X4_rowOf_115 (by first | omega | assumption) (by first | omega | assumption) (by first | omega | assumption) ?_
                             exact JE (by rw [hzf]) hI1)
                        · first
                          | exact absurd d_27 (by omega)
                          | (refine b_X4_rowOf_124 (by first | omega | assumption) ?_
                             refine s_X4_unlike hM1 ?_
                             refine b_X4_rowOf_129  ?_
                             exact JE (by rw [hmf1]; exact (unl_congr hE).symm) hI1)
                        · first
                          | exact absurd d_27 (by omega)
                          | (refine b_X4_rowOf_130 (by first | omega | assumption) ?_
                             refine s_X4_greatestGap hM1 (fun r2 hg2 => ?_)
                             refine b_X4_rowOf_135  ?_
                             exact JE (by rw [hmf1] at hg2; exact gst_one hg2 (gst_congr hE hg)) hI1))
                   · first
                     | exact absurd d_16 (by omega)
                     | (refine b_X4_rowOf_19  ?_
                        exact JE (by first | rfl | omega) hI))))
    · first
      | exact absurd c_4 (by omega)
      | (refine b_X3_rowOf_7  ?_
         refine JQ.mk (by omega) ?_
         refine b_X4_rowOf_0  ?_
         refine s_X4_in (by omega) (by omega) (by omega) (fun r hr => ?_)
         refine b_X4_rowOf_6 (by first | omega | assumption) (fun d_6 => ?_) (fun d_6 => ?_)
         · first
           | exact absurd d_6 (by omega)
           | (refine b_X4_rowOf_19  ?_
              exact JE (by first | rfl | omega) hI)
         · first
           | exact absurd d_6 (by omega)
           | (refine b_X4_rowOf_9  ?_
              refine s_X4_in (by omega) (by omega) (by omega) (fun r hr => ?_)
              refine b_X4_rowOf_16 (by first | omega | assumption) (fun d_16 => ?_) (fun d_16 => ?_)
              · first
                | exact absurd d_16 (by omega)
                | (refine b_X4_rowOf_22 (by first | omega | assumption) ?_
                   refine s_X4_lays hM hV hu9 hu11 (fun w1 hS hbits hzf hUP hzs => ?_)
                   have hM1 := hS.MR hM
                   have hmf1 := hS.mf q
                   have ha1 : al (w1 9 0) = 84 := by rw [hM1.2.1]; rfl
                   have hI1 := hS.sd.Inv hI
                   have h991 : w1 9 9 = 15 := (hS.2 9 (by decide) (by decide) (by decide) (by decide)).trans hu9
                   have ha91 : al (w1 9 9) = 4200 := by rw [h991]; rfl
                   have h9111 : w1 9 11 = 16 := (hS.2 11 (by decide) (by decide) (by decide) (by decide)).trans hu11
                   have ha111 : al (w1 9 11) = 4200 := by rw [h9111]; rfl
                   refine b_X4_rowOf_27 (by first | omega | assumption) (fun d_27 => ?_) (fun d_27 => ?_) (fun d_27 => ?_) (fun d_27 => ?_) (fun d_27 => ?_) (fun d_27 => ?_) (fun d_27 => ?_) (fun d_27 => ?_) (fun d_27 => ?_)
                   · first
                     | exact absurd d_27 (by omega)
                     | (refine b_X4_rowOf_76 (by first | omega | assumption) (by first | omega | assumption) (by first | omega | assumption) ?_
                        exact JE (by first | (rw [hM1.2.1, d_27]; exact (congrArg (w1 10) (by omega)).trans (hM1.2.2.1.trans (by omega))) | (rw [hM1.2.1, d_27]; exact hM1.2.2.2.1.trans (by omega))) hI1)
                   · first
                     | exact absurd d_27 (by omega)
                     | (refine b_X4_rowOf_76 (by first | omega | assumption) (by first | omega | assumption) (by first | omega | assumption) ?_
                        exact JE (by first | (rw [hM1.2.1, d_27]; exact (congrArg (w1 10) (by omega)).trans (hM1.2.2.1.trans (by omega))) | (rw [hM1.2.1, d_27]; exact hM1.2.2.2.1.trans (by omega))) hI1)
                   · first
                     | exact absurd d_27 (by omega)
                     | (refine b_X4_rowOf_88 (by first | omega | assumption) ?_
                        refine s_X4_width hM1 ?_
                        refine b_X4_rowOf_93  ?_
                        exact JE (by rfl) hI1)
                   · first
                     | exact absurd d_27 (by omega)
                     | (refine b_X4_rowOf_94 (by first | omega | assumption) ?_
                        exact JE (by exact hbits) hI1)
                   · first
                     | exact absurd d_27 (by omega)
                     | (refine b_X4_rowOf_99 (by first | omega | assumption) ?_
                        refine s_X4_size hM1 ?_
                        refine b_X4_rowOf_104  ?_
                        exact JE (by rfl) hI1)
                   · first
                     | exact absurd d_27 (by omega)
                     | (refine b_X4_rowOf_105 (by first | omega | assumption) ?_
                        refine s_X4_many hM1 ?_
                        refine b_X4_rowOf_110 (by first | omega | assumption) (by first | omega | assumption) ?_
                        exact JE (by rw [h1]) hI1)
                   · first
                     | exact absurd d_27 (by omega)
                     | (refine b_X4_rowOf_115 (by first | omega | assumption) (by first | omega | assumption) (by first | omega | assumption) ?_
                        exact JE (by rw [hzf]) hI1)
                   · first
                     | exact absurd d_27 (by omega)
                     | (refine b_X4_rowOf_124 (by first | omega | assumption) ?_
                        refine s_X4_unlike hM1 ?_
                        refine b_X4_rowOf_129  ?_
                        exact JE (by rw [hmf1]; exact (unl_congr hE).symm) hI1)
                   · first
                     | exact absurd d_27 (by omega)
                     | (refine b_X4_rowOf_130 (by first | omega | assumption) ?_
                        refine s_X4_greatestGap hM1 (fun r2 hg2 => ?_)
                        refine b_X4_rowOf_135  ?_
                        exact JE (by rw [hmf1] at hg2; exact gst_one hg2 (gst_congr hE hg)) hI1))
              · first
                | exact absurd d_16 (by omega)
                | (refine b_X4_rowOf_19  ?_
                   exact JE (by first | rfl | omega) hI)))
  · have hq2 : q < 0 ∨ 1 < q := by omega
    refine b_X3_rowOf_0  ?_
    refine s_X3_isRow (by omega) (fun r hr => ?_)
    refine b_X3_rowOf_4 (by first | omega | assumption) (fun c_4 => ?_) (fun c_4 => ?_)
    · first
      | exact absurd c_4 (by omega)
      | (refine b_X3_rowOf_10 (by first | omega | assumption) ?_
         refine s_X3_rowAt hra ?_
         refine b_X3_rowOf_15 (by first | omega | assumption) (fun c_15 => ?_) (fun c_15 => ?_) (fun c_15 => ?_) (fun c_15 => ?_) (fun c_15 => ?_) (fun c_15 => ?_) (fun c_15 => ?_) (fun c_15 => ?_) (fun c_15 => ?_) (fun c_15 => ?_)
         · first
           | exact absurd c_15 (by omega)
           | (refine b_X3_rowOf_68 (by first | omega | assumption) ?_
              refine JQ.mk (by omega) ?_
              refine b_X4_rowOf_0  ?_
              refine s_X4_in (by omega) (by omega) (by omega) (fun r hr => ?_)
              refine b_X4_rowOf_6 (by first | omega | assumption) (fun d_6 => ?_) (fun d_6 => ?_)
              · first
                | exact absurd d_6 (by omega)
                | (refine b_X4_rowOf_19  ?_
                   exact JE (by first | rfl | omega) hI)
              · first
                | exact absurd d_6 (by omega)
                | (refine b_X4_rowOf_9  ?_
                   refine s_X4_in (by omega) (by omega) (by omega) (fun r hr => ?_)
                   refine b_X4_rowOf_16 (by first | omega | assumption) (fun d_16 => ?_) (fun d_16 => ?_)
                   · first
                     | exact absurd d_16 (by omega)
                     | (refine b_X4_rowOf_22 (by first | omega | assumption) ?_
                        refine s_X4_lays hM hV hu9 hu11 (fun w1 hS hbits hzf hUP hzs => ?_)
                        have hM1 := hS.MR hM
                        have hmf1 := hS.mf q
                        have ha1 : al (w1 9 0) = 84 := by rw [hM1.2.1]; rfl
                        have hI1 := hS.sd.Inv hI
                        have h991 : w1 9 9 = 15 := (hS.2 9 (by decide) (by decide) (by decide) (by decide)).trans hu9
                        have ha91 : al (w1 9 9) = 4200 := by rw [h991]; rfl
                        have h9111 : w1 9 11 = 16 := (hS.2 11 (by decide) (by decide) (by decide) (by decide)).trans hu11
                        have ha111 : al (w1 9 11) = 4200 := by rw [h9111]; rfl
                        refine b_X4_rowOf_27 (by first | omega | assumption) (fun d_27 => ?_) (fun d_27 => ?_) (fun d_27 => ?_) (fun d_27 => ?_) (fun d_27 => ?_) (fun d_27 => ?_) (fun d_27 => ?_) (fun d_27 => ?_) (fun d_27 => ?_)
                        · first
                          | exact absurd d_27 (by omega)
                          | (refine b_X4_rowOf_76 (by first | omega | assumption) (by first | omega | assumption) (by first | omega | assumption) ?_
                             exact JE (by first | (rw [hM1.2.1, d_27]; exact (congrArg (w1 10) (by omega)).trans (hM1.2.2.1.trans (by omega))) | (rw [hM1.2.1, d_27]; exact hM1.2.2.2.1.trans (by omega))) hI)
                        · first
                          | exact absurd d_27 (by omega)
                          | (refine b_X4_rowOf_76 (by first | omega | assumption) (by first | omega | assumption) (by first | omega | assumption) ?_
                             exact JE (by first | (rw [hM1.2.1, d_27]; exact (congrArg (w1 10) (by omega)).trans (hM1.2.2.1.trans (by omega))) | (rw [hM1.2.1, d_27]; exact hM1.2.2.2.1.trans (by omega))) hI)
                        · first
                          | exact absurd d_27 (by omega)
                          | (refine b_X4_rowOf_88 (by first | omega | assumption) ?_
                             refine s_X4_width hM1 ?_
                             refine b_X4_rowOf_93  ?_
                             exact JE (by rfl) hI)
                        · first
                          | exact absurd d_27 (by omega)
                          | (refine b_X4_rowOf_94 (by first | omega | assumption) ?_
                             exact JE (by exact hbits) hI)
                        · first
                          | exact absurd d_27 (by omega)
                          | (refine b_X4_rowOf_99 (by first | omega | assumption) ?_
                             refine s_X4_size hM1 ?_
                             refine b_X4_rowOf_104  ?_
                             exact JE (by rfl) hI)
                        · first
                          | exact absurd d_27 (by omega)
                          | (refine b_X4_rowOf_105 (by first | omega | assumption) ?_
                             refine s_X4_many hM1 ?_
                             refine b_X4_rowOf_110 (by first | omega | assumption) (by first | omega | assumption) ?_
                             exact JE (by rw [h1]) hI)
                        · first
                          | exact absurd d_27 (by omega)
                          | (refine b_X4_rowOf_115 (by first | omega | assumption) (by first | omega | assumption) (by first | omega | assumption) ?_
                             exact JE (by rw [hzf]) hI)
                        · first
                          | exact absurd d_27 (by omega)
                          | (refine b_X4_rowOf_124 (by first | omega | assumption) ?_
                             refine s_X4_unlike hM1 ?_
                             refine b_X4_rowOf_129  ?_
                             exact JE (by rw [hmf1]; exact (unl_congr hE).symm) hI)
                        · first
                          | exact absurd d_27 (by omega)
                          | (refine b_X4_rowOf_130 (by first | omega | assumption) ?_
                             refine s_X4_greatestGap hM1 (fun r2 hg2 => ?_)
                             refine b_X4_rowOf_135  ?_
                             exact JE (by rw [hmf1] at hg2; exact gst_one hg2 (gst_congr hE hg)) hI))
                   · first
                     | exact absurd d_16 (by omega)
                     | (refine b_X4_rowOf_19  ?_
                        exact JE (by first | rfl | omega) hI)))
         · first
           | exact absurd c_15 (by omega)
           | (refine b_X3_rowOf_73 (by first | omega | assumption) ?_
              refine JQ.mk (by omega) ?_
              refine b_X4_rowOf_0  ?_
              refine s_X4_in (by omega) (by omega) (by omega) (fun r hr => ?_)
              refine b_X4_rowOf_6 (by first | omega | assumption) (fun d_6 => ?_) (fun d_6 => ?_)
              · first
                | exact absurd d_6 (by omega)
                | (refine b_X4_rowOf_19  ?_
                   exact JE (by first | rfl | omega) hI)
              · first
                | exact absurd d_6 (by omega)
                | (refine b_X4_rowOf_9  ?_
                   refine s_X4_in (by omega) (by omega) (by omega) (fun r hr => ?_)
                   refine b_X4_rowOf_16 (by first | omega | assumption) (fun d_16 => ?_) (fun d_16 => ?_)
                   · first
                     | exact absurd d_16 (by omega)
                     | (refine b_X4_rowOf_22 (by first | omega | assumption) ?_
                        refine s_X4_lays hM hV hu9 hu11 (fun w1 hS hbits hzf hUP hzs => ?_)
                        have hM1 := hS.MR hM
                        have hmf1 := hS.mf q
                        have ha1 : al (w1 9 0) = 84 := by rw [hM1.2.1]; rfl
                        have hI1 := hS.sd.Inv hI
                        have h991 : w1 9 9 = 15 := (hS.2 9 (by decide) (by decide) (by decide) (by decide)).trans hu9
                        have ha91 : al (w1 9 9) = 4200 := by rw [h991]; rfl
                        have h9111 : w1 9 11 = 16 := (hS.2 11 (by decide) (by decide) (by decide) (by decide)).trans hu11
                        have ha111 : al (w1 9 11) = 4200 := by rw [h9111]; rfl
                        refine b_X4_rowOf_27 (by first | omega | assumption) (fun d_27 => ?_) (fun d_27 => ?_) (fun d_27 => ?_) (fun d_27 => ?_) (fun d_27 => ?_) (fun d_27 => ?_) (fun d_27 => ?_) (fun d_27 => ?_) (fun d_27 => ?_)
                        · first
                          | exact absurd d_27 (by omega)
                          | (refine b_X4_rowOf_76 (by first | omega | assumption) (by first | omega | assumption) (by first | omega | assumption) ?_
                             exact JE (by first | (rw [hM1.2.1, d_27]; exact (congrArg (w1 10) (by omega)).trans (hM1.2.2.1.trans (by omega))) | (rw [hM1.2.1, d_27]; exact hM1.2.2.2.1.trans (by omega))) hI)
                        · first
                          | exact absurd d_27 (by omega)
                          | (refine b_X4_rowOf_76 (by first | omega | assumption) (by first | omega | assumption) (by first | omega | assumption) ?_
                             exact JE (by first | (rw [hM1.2.1, d_27]; exact (congrArg (w1 10) (by omega)).trans (hM1.2.2.1.trans (by omega))) | (rw [hM1.2.1, d_27]; exact hM1.2.2.2.1.trans (by omega))) hI)
                        · first
                          | exact absurd d_27 (by omega)
                          | (refine b_X4_rowOf_88 (by first | omega | assumption) ?_
                             refine s_X4_width hM1 ?_
                             refine b_X4_rowOf_93  ?_
                             exact JE (by rfl) hI)
                        · first
                          | exact absurd d_27 (by omega)
                          | (refine b_X4_rowOf_94 (by first | omega | assumption) ?_
                             exact JE (by exact hbits) hI)
                        · first
                          | exact absurd d_27 (by omega)
                          | (refine b_X4_rowOf_99 (by first | omega | assumption) ?_
                             refine s_X4_size hM1 ?_
                             refine b_X4_rowOf_104  ?_
                             exact JE (by rfl) hI)
                        · first
                          | exact absurd d_27 (by omega)
                          | (refine b_X4_rowOf_105 (by first | omega | assumption) ?_
                             refine s_X4_many hM1 ?_
                             refine b_X4_rowOf_110 (by first | omega | assumption) (by first | omega | assumption) ?_
                             exact JE (by rw [h1]) hI)
                        · first
                          | exact absurd d_27 (by omega)
                          | (refine b_X4_rowOf_115 (by first | omega | assumption) (by first | omega | assumption) (by first | omega | assumption) ?_
                             exact JE (by rw [hzf]) hI)
                        · first
                          | exact absurd d_27 (by omega)
                          | (refine b_X4_rowOf_124 (by first | omega | assumption) ?_
                             refine s_X4_unlike hM1 ?_
                             refine b_X4_rowOf_129  ?_
                             exact JE (by rw [hmf1]; exact (unl_congr hE).symm) hI)
                        · first
                          | exact absurd d_27 (by omega)
                          | (refine b_X4_rowOf_130 (by first | omega | assumption) ?_
                             refine s_X4_greatestGap hM1 (fun r2 hg2 => ?_)
                             refine b_X4_rowOf_135  ?_
                             exact JE (by rw [hmf1] at hg2; exact gst_one hg2 (gst_congr hE hg)) hI))
                   · first
                     | exact absurd d_16 (by omega)
                     | (refine b_X4_rowOf_19  ?_
                        exact JE (by first | rfl | omega) hI)))
         · first
           | exact absurd c_15 (by omega)
           | (refine b_X3_rowOf_78 (by first | omega | assumption) ?_
              refine s_X1_width hR ?_
              refine b_X3_rowOf_82  ?_
              refine JQ.mk (by omega) ?_
              refine b_X4_rowOf_0  ?_
              refine s_X4_in (by omega) (by omega) (by omega) (fun r hr => ?_)
              refine b_X4_rowOf_6 (by first | omega | assumption) (fun d_6 => ?_) (fun d_6 => ?_)
              · first
                | exact absurd d_6 (by omega)
                | (refine b_X4_rowOf_19  ?_
                   exact JE (by first | rfl | omega) hI)
              · first
                | exact absurd d_6 (by omega)
                | (refine b_X4_rowOf_9  ?_
                   refine s_X4_in (by omega) (by omega) (by omega) (fun r hr => ?_)
                   refine b_X4_rowOf_16 (by first | omega | assumption) (fun d_16 => ?_) (fun d_16 => ?_)
                   · first
                     | exact absurd d_16 (by omega)
                     | (refine b_X4_rowOf_22 (by first | omega | assumption) ?_
                        refine s_X4_lays hM hV hu9 hu11 (fun w1 hS hbits hzf hUP hzs => ?_)
                        have hM1 := hS.MR hM
                        have hmf1 := hS.mf q
                        have ha1 : al (w1 9 0) = 84 := by rw [hM1.2.1]; rfl
                        have hI1 := hS.sd.Inv hI
                        have h991 : w1 9 9 = 15 := (hS.2 9 (by decide) (by decide) (by decide) (by decide)).trans hu9
                        have ha91 : al (w1 9 9) = 4200 := by rw [h991]; rfl
                        have h9111 : w1 9 11 = 16 := (hS.2 11 (by decide) (by decide) (by decide) (by decide)).trans hu11
                        have ha111 : al (w1 9 11) = 4200 := by rw [h9111]; rfl
                        refine b_X4_rowOf_27 (by first | omega | assumption) (fun d_27 => ?_) (fun d_27 => ?_) (fun d_27 => ?_) (fun d_27 => ?_) (fun d_27 => ?_) (fun d_27 => ?_) (fun d_27 => ?_) (fun d_27 => ?_) (fun d_27 => ?_)
                        · first
                          | exact absurd d_27 (by omega)
                          | (refine b_X4_rowOf_76 (by first | omega | assumption) (by first | omega | assumption) (by first | omega | assumption) ?_
                             exact JE (by first | (rw [hM1.2.1, d_27]; exact (congrArg (w1 10) (by omega)).trans (hM1.2.2.1.trans (by omega))) | (rw [hM1.2.1, d_27]; exact hM1.2.2.2.1.trans (by omega))) hI)
                        · first
                          | exact absurd d_27 (by omega)
                          | (refine b_X4_rowOf_76 (by first | omega | assumption) (by first | omega | assumption) (by first | omega | assumption) ?_
                             exact JE (by first | (rw [hM1.2.1, d_27]; exact (congrArg (w1 10) (by omega)).trans (hM1.2.2.1.trans (by omega))) | (rw [hM1.2.1, d_27]; exact hM1.2.2.2.1.trans (by omega))) hI)
                        · first
                          | exact absurd d_27 (by omega)
                          | (refine b_X4_rowOf_88 (by first | omega | assumption) ?_
                             refine s_X4_width hM1 ?_
                             refine b_X4_rowOf_93  ?_
                             exact JE (by rfl) hI)
                        · first
                          | exact absurd d_27 (by omega)
                          | (refine b_X4_rowOf_94 (by first | omega | assumption) ?_
                             exact JE (by exact hbits) hI)
                        · first
                          | exact absurd d_27 (by omega)
                          | (refine b_X4_rowOf_99 (by first | omega | assumption) ?_
                             refine s_X4_size hM1 ?_
                             refine b_X4_rowOf_104  ?_
                             exact JE (by rfl) hI)
                        · first
                          | exact absurd d_27 (by omega)
                          | (refine b_X4_rowOf_105 (by first | omega | assumption) ?_
                             refine s_X4_many hM1 ?_
                             refine b_X4_rowOf_110 (by first | omega | assumption) (by first | omega | assumption) ?_
                             exact JE (by rw [h1]) hI)
                        · first
                          | exact absurd d_27 (by omega)
                          | (refine b_X4_rowOf_115 (by first | omega | assumption) (by first | omega | assumption) (by first | omega | assumption) ?_
                             exact JE (by rw [hzf]) hI)
                        · first
                          | exact absurd d_27 (by omega)
                          | (refine b_X4_rowOf_124 (by first | omega | assumption) ?_
                             refine s_X4_unlike hM1 ?_
                             refine b_X4_rowOf_129  ?_
                             exact JE (by rw [hmf1]; exact (unl_congr hE).symm) hI)
                        · first
                          | exact absurd d_27 (by omega)
                          | (refine b_X4_rowOf_130 (by first | omega | assumption) ?_
                             refine s_X4_greatestGap hM1 (fun r2 hg2 => ?_)
                             refine b_X4_rowOf_135  ?_
                             exact JE (by rw [hmf1] at hg2; exact gst_one hg2 (gst_congr hE hg)) hI))
                   · first
                     | exact absurd d_16 (by omega)
                     | (refine b_X4_rowOf_19  ?_
                        exact JE (by first | rfl | omega) hI)))
         · first
           | exact absurd c_15 (by omega)
           | (refine b_X3_rowOf_83 (by first | omega | assumption) ?_
              refine s_X1_upperLength hR ?_
              refine b_X3_rowOf_87  ?_
              refine JQ.mk (by omega) ?_
              refine b_X4_rowOf_0  ?_
              refine s_X4_in (by omega) (by omega) (by omega) (fun r hr => ?_)
              refine b_X4_rowOf_6 (by first | omega | assumption) (fun d_6 => ?_) (fun d_6 => ?_)
              · first
                | exact absurd d_6 (by omega)
                | (refine b_X4_rowOf_19  ?_
                   exact JE (by first | rfl | omega) hI)
              · first
                | exact absurd d_6 (by omega)
                | (refine b_X4_rowOf_9  ?_
                   refine s_X4_in (by omega) (by omega) (by omega) (fun r hr => ?_)
                   refine b_X4_rowOf_16 (by first | omega | assumption) (fun d_16 => ?_) (fun d_16 => ?_)
                   · first
                     | exact absurd d_16 (by omega)
                     | (refine b_X4_rowOf_22 (by first | omega | assumption) ?_
                        refine s_X4_lays hM hV hu9 hu11 (fun w1 hS hbits hzf hUP hzs => ?_)
                        have hM1 := hS.MR hM
                        have hmf1 := hS.mf q
                        have ha1 : al (w1 9 0) = 84 := by rw [hM1.2.1]; rfl
                        have hI1 := hS.sd.Inv hI
                        have h991 : w1 9 9 = 15 := (hS.2 9 (by decide) (by decide) (by decide) (by decide)).trans hu9
                        have ha91 : al (w1 9 9) = 4200 := by rw [h991]; rfl
                        have h9111 : w1 9 11 = 16 := (hS.2 11 (by decide) (by decide) (by decide) (by decide)).trans hu11
                        have ha111 : al (w1 9 11) = 4200 := by rw [h9111]; rfl
                        refine b_X4_rowOf_27 (by first | omega | assumption) (fun d_27 => ?_) (fun d_27 => ?_) (fun d_27 => ?_) (fun d_27 => ?_) (fun d_27 => ?_) (fun d_27 => ?_) (fun d_27 => ?_) (fun d_27 => ?_) (fun d_27 => ?_)
                        · first
                          | exact absurd d_27 (by omega)
                          | (refine b_X4_rowOf_76 (by first | omega | assumption) (by first | omega | assumption) (by first | omega | assumption) ?_
                             exact JE (by first | (rw [hM1.2.1, d_27]; exact (congrArg (w1 10) (by omega)).trans (hM1.2.2.1.trans (by omega))) | (rw [hM1.2.1, d_27]; exact hM1.2.2.2.1.trans (by omega))) hI)
                        · first
                          | exact absurd d_27 (by omega)
                          | (refine b_X4_rowOf_76 (by first | omega | assumption) (by first | omega | assumption) (by first | omega | assumption) ?_
                             exact JE (by first | (rw [hM1.2.1, d_27]; exact (congrArg (w1 10) (by omega)).trans (hM1.2.2.1.trans (by omega))) | (rw [hM1.2.1, d_27]; exact hM1.2.2.2.1.trans (by omega))) hI)
                        · first
                          | exact absurd d_27 (by omega)
                          | (refine b_X4_rowOf_88 (by first | omega | assumption) ?_
                             refine s_X4_width hM1 ?_
                             refine b_X4_rowOf_93  ?_
                             exact JE (by rfl) hI)
                        · first
                          | exact absurd d_27 (by omega)
                          | (refine b_X4_rowOf_94 (by first | omega | assumption) ?_
                             exact JE (by exact hbits) hI)
                        · first
                          | exact absurd d_27 (by omega)
                          | (refine b_X4_rowOf_99 (by first | omega | assumption) ?_
                             refine s_X4_size hM1 ?_
                             refine b_X4_rowOf_104  ?_
                             exact JE (by rfl) hI)
                        · first
                          | exact absurd d_27 (by omega)
                          | (refine b_X4_rowOf_105 (by first | omega | assumption) ?_
                             refine s_X4_many hM1 ?_
                             refine b_X4_rowOf_110 (by first | omega | assumption) (by first | omega | assumption) ?_
                             exact JE (by rw [h1]) hI)
                        · first
                          | exact absurd d_27 (by omega)
                          | (refine b_X4_rowOf_115 (by first | omega | assumption) (by first | omega | assumption) (by first | omega | assumption) ?_
                             exact JE (by rw [hzf]) hI)
                        · first
                          | exact absurd d_27 (by omega)
                          | (refine b_X4_rowOf_124 (by first | omega | assumption) ?_
                             refine s_X4_unlike hM1 ?_
                             refine b_X4_rowOf_129  ?_
                             exact JE (by rw [hmf1]; exact (unl_congr hE).symm) hI)
                        · first
                          | exact absurd d_27 (by omega)
                          | (refine b_X4_rowOf_130 (by first | omega | assumption) ?_
                             refine s_X4_greatestGap hM1 (fun r2 hg2 => ?_)
                             refine b_X4_rowOf_135  ?_
                             exact JE (by rw [hmf1] at hg2; exact gst_one hg2 (gst_congr hE hg)) hI))
                   · first
                     | exact absurd d_16 (by omega)
                     | (refine b_X4_rowOf_19  ?_
                        exact JE (by first | rfl | omega) hI)))
         · first
           | exact absurd c_15 (by omega)
           | (refine b_X3_rowOf_88 (by first | omega | assumption) ?_
              refine s_X1_bits hR ?_
              refine b_X3_rowOf_92  ?_
              refine JQ.mk (by omega) ?_
              refine b_X4_rowOf_0  ?_
              refine s_X4_in (by omega) (by omega) (by omega) (fun r hr => ?_)
              refine b_X4_rowOf_6 (by first | omega | assumption) (fun d_6 => ?_) (fun d_6 => ?_)
              · first
                | exact absurd d_6 (by omega)
                | (refine b_X4_rowOf_19  ?_
                   exact JE (by first | rfl | omega) hI)
              · first
                | exact absurd d_6 (by omega)
                | (refine b_X4_rowOf_9  ?_
                   refine s_X4_in (by omega) (by omega) (by omega) (fun r hr => ?_)
                   refine b_X4_rowOf_16 (by first | omega | assumption) (fun d_16 => ?_) (fun d_16 => ?_)
                   · first
                     | exact absurd d_16 (by omega)
                     | (refine b_X4_rowOf_22 (by first | omega | assumption) ?_
                        refine s_X4_lays hM hV hu9 hu11 (fun w1 hS hbits hzf hUP hzs => ?_)
                        have hM1 := hS.MR hM
                        have hmf1 := hS.mf q
                        have ha1 : al (w1 9 0) = 84 := by rw [hM1.2.1]; rfl
                        have hI1 := hS.sd.Inv hI
                        have h991 : w1 9 9 = 15 := (hS.2 9 (by decide) (by decide) (by decide) (by decide)).trans hu9
                        have ha91 : al (w1 9 9) = 4200 := by rw [h991]; rfl
                        have h9111 : w1 9 11 = 16 := (hS.2 11 (by decide) (by decide) (by decide) (by decide)).trans hu11
                        have ha111 : al (w1 9 11) = 4200 := by rw [h9111]; rfl
                        refine b_X4_rowOf_27 (by first | omega | assumption) (fun d_27 => ?_) (fun d_27 => ?_) (fun d_27 => ?_) (fun d_27 => ?_) (fun d_27 => ?_) (fun d_27 => ?_) (fun d_27 => ?_) (fun d_27 => ?_) (fun d_27 => ?_)
                        · first
                          | exact absurd d_27 (by omega)
                          | (refine b_X4_rowOf_76 (by first | omega | assumption) (by first | omega | assumption) (by first | omega | assumption) ?_
                             exact JE (by first | (rw [hM1.2.1, d_27]; exact (congrArg (w1 10) (by omega)).trans (hM1.2.2.1.trans (by omega))) | (rw [hM1.2.1, d_27]; exact hM1.2.2.2.1.trans (by omega))) hI)
                        · first
                          | exact absurd d_27 (by omega)
                          | (refine b_X4_rowOf_76 (by first | omega | assumption) (by first | omega | assumption) (by first | omega | assumption) ?_
                             exact JE (by first | (rw [hM1.2.1, d_27]; exact (congrArg (w1 10) (by omega)).trans (hM1.2.2.1.trans (by omega))) | (rw [hM1.2.1, d_27]; exact hM1.2.2.2.1.trans (by omega))) hI)
                        · first
                          | exact absurd d_27 (by omega)
                          | (refine b_X4_rowOf_88 (by first | omega | assumption) ?_
                             refine s_X4_width hM1 ?_
                             refine b_X4_rowOf_93  ?_
                             exact JE (by rfl) hI)
                        · first
                          | exact absurd d_27 (by omega)
                          | (refine b_X4_rowOf_94 (by first | omega | assumption) ?_
                             exact JE (by exact hbits) hI)
                        · first
                          | exact absurd d_27 (by omega)
                          | (refine b_X4_rowOf_99 (by first | omega | assumption) ?_
                             refine s_X4_size hM1 ?_
                             refine b_X4_rowOf_104  ?_
                             exact JE (by rfl) hI)
                        · first
                          | exact absurd d_27 (by omega)
                          | (refine b_X4_rowOf_105 (by first | omega | assumption) ?_
                             refine s_X4_many hM1 ?_
                             refine b_X4_rowOf_110 (by first | omega | assumption) (by first | omega | assumption) ?_
                             exact JE (by rw [h1]) hI)
                        · first
                          | exact absurd d_27 (by omega)
                          | (refine b_X4_rowOf_115 (by first | omega | assumption) (by first | omega | assumption) (by first | omega | assumption) ?_
                             exact JE (by rw [hzf]) hI)
                        · first
                          | exact absurd d_27 (by omega)
                          | (refine b_X4_rowOf_124 (by first | omega | assumption) ?_
                             refine s_X4_unlike hM1 ?_
                             refine b_X4_rowOf_129  ?_
                             exact JE (by rw [hmf1]; exact (unl_congr hE).symm) hI)
                        · first
                          | exact absurd d_27 (by omega)
                          | (refine b_X4_rowOf_130 (by first | omega | assumption) ?_
                             refine s_X4_greatestGap hM1 (fun r2 hg2 => ?_)
                             refine b_X4_rowOf_135  ?_
                             exact JE (by rw [hmf1] at hg2; exact gst_one hg2 (gst_congr hE hg)) hI))
                   · first
                     | exact absurd d_16 (by omega)
                     | (refine b_X4_rowOf_19  ?_
                        exact JE (by first | rfl | omega) hI)))
         · first
           | exact absurd c_15 (by omega)
           | (refine b_X3_rowOf_93 (by first | omega | assumption) ?_
              refine s_X3_samplesOf (by omega) (by omega) ?_
              refine b_X3_rowOf_100  ?_
              refine JQ.mk (by omega) ?_
              refine b_X4_rowOf_0  ?_
              refine s_X4_in (by omega) (by omega) (by omega) (fun r hr => ?_)
              refine b_X4_rowOf_6 (by first | omega | assumption) (fun d_6 => ?_) (fun d_6 => ?_)
              · first
                | exact absurd d_6 (by omega)
                | (refine b_X4_rowOf_19  ?_
                   exact JE (by first | rfl | omega) hI)
              · first
                | exact absurd d_6 (by omega)
                | (refine b_X4_rowOf_9  ?_
                   refine s_X4_in (by omega) (by omega) (by omega) (fun r hr => ?_)
                   refine b_X4_rowOf_16 (by first | omega | assumption) (fun d_16 => ?_) (fun d_16 => ?_)
                   · first
                     | exact absurd d_16 (by omega)
                     | (refine b_X4_rowOf_22 (by first | omega | assumption) ?_
                        refine s_X4_lays hM hV hu9 hu11 (fun w1 hS hbits hzf hUP hzs => ?_)
                        have hM1 := hS.MR hM
                        have hmf1 := hS.mf q
                        have ha1 : al (w1 9 0) = 84 := by rw [hM1.2.1]; rfl
                        have hI1 := hS.sd.Inv hI
                        have h991 : w1 9 9 = 15 := (hS.2 9 (by decide) (by decide) (by decide) (by decide)).trans hu9
                        have ha91 : al (w1 9 9) = 4200 := by rw [h991]; rfl
                        have h9111 : w1 9 11 = 16 := (hS.2 11 (by decide) (by decide) (by decide) (by decide)).trans hu11
                        have ha111 : al (w1 9 11) = 4200 := by rw [h9111]; rfl
                        refine b_X4_rowOf_27 (by first | omega | assumption) (fun d_27 => ?_) (fun d_27 => ?_) (fun d_27 => ?_) (fun d_27 => ?_) (fun d_27 => ?_) (fun d_27 => ?_) (fun d_27 => ?_) (fun d_27 => ?_) (fun d_27 => ?_)
                        · first
                          | exact absurd d_27 (by omega)
                          | (refine b_X4_rowOf_76 (by first | omega | assumption) (by first | omega | assumption) (by first | omega | assumption) ?_
                             exact JE (by first | (rw [hM1.2.1, d_27]; exact (congrArg (w1 10) (by omega)).trans (hM1.2.2.1.trans (by omega))) | (rw [hM1.2.1, d_27]; exact hM1.2.2.2.1.trans (by omega))) hI)
                        · first
                          | exact absurd d_27 (by omega)
                          | (refine b_X4_rowOf_76 (by first | omega | assumption) (by first | omega | assumption) (by first | omega | assumption) ?_
                             exact JE (by first | (rw [hM1.2.1, d_27]; exact (congrArg (w1 10) (by omega)).trans (hM1.2.2.1.trans (by omega))) | (rw [hM1.2.1, d_27]; exact hM1.2.2.2.1.trans (by omega))) hI)
                        · first
                          | exact absurd d_27 (by omega)
                          | (refine b_X4_rowOf_88 (by first | omega | assumption) ?_
                             refine s_X4_width hM1 ?_
                             refine b_X4_rowOf_93  ?_
                             exact JE (by rfl) hI)
                        · first
                          | exact absurd d_27 (by omega)
                          | (refine b_X4_rowOf_94 (by first | omega | assumption) ?_
                             exact JE (by exact hbits) hI)
                        · first
                          | exact absurd d_27 (by omega)
                          | (refine b_X4_rowOf_99 (by first | omega | assumption) ?_
                             refine s_X4_size hM1 ?_
                             refine b_X4_rowOf_104  ?_
                             exact JE (by rfl) hI)
                        · first
                          | exact absurd d_27 (by omega)
                          | (refine b_X4_rowOf_105 (by first | omega | assumption) ?_
                             refine s_X4_many hM1 ?_
                             refine b_X4_rowOf_110 (by first | omega | assumption) (by first | omega | assumption) ?_
                             exact JE (by rw [h1]) hI)
                        · first
                          | exact absurd d_27 (by omega)
                          | (refine b_X4_rowOf_115 (by first | omega | assumption) (by first | omega | assumption) (by first | omega | assumption) ?_
                             exact JE (by rw [hzf]) hI)
                        · first
                          | exact absurd d_27 (by omega)
                          | (refine b_X4_rowOf_124 (by first | omega | assumption) ?_
                             refine s_X4_unlike hM1 ?_
                             refine b_X4_rowOf_129  ?_
                             exact JE (by rw [hmf1]; exact (unl_congr hE).symm) hI)
                        · first
                          | exact absurd d_27 (by omega)
                          | (refine b_X4_rowOf_130 (by first | omega | assumption) ?_
                             refine s_X4_greatestGap hM1 (fun r2 hg2 => ?_)
                             refine b_X4_rowOf_135  ?_
                             exact JE (by rw [hmf1] at hg2; exact gst_one hg2 (gst_congr hE hg)) hI))
                   · first
                     | exact absurd d_16 (by omega)
                     | (refine b_X4_rowOf_19  ?_
                        exact JE (by first | rfl | omega) hI)))
         · first
           | exact absurd c_15 (by omega)
           | (refine b_X3_rowOf_101 (by first | omega | assumption) ?_
              refine s_X1_zeros hR ?_
              refine b_X3_rowOf_105  ?_
              refine s_X3_samplesOf (by omega) (by omega) ?_
              refine b_X3_rowOf_108  ?_
              refine JQ.mk (by omega) ?_
              refine b_X4_rowOf_0  ?_
              refine s_X4_in (by omega) (by omega) (by omega) (fun r hr => ?_)
              refine b_X4_rowOf_6 (by first | omega | assumption) (fun d_6 => ?_) (fun d_6 => ?_)
              · first
                | exact absurd d_6 (by omega)
                | (refine b_X4_rowOf_19  ?_
                   exact JE (by first | rfl | omega) hI)
              · first
                | exact absurd d_6 (by omega)
                | (refine b_X4_rowOf_9  ?_
                   refine s_X4_in (by omega) (by omega) (by omega) (fun r hr => ?_)
                   refine b_X4_rowOf_16 (by first | omega | assumption) (fun d_16 => ?_) (fun d_16 => ?_)
                   · first
                     | exact absurd d_16 (by omega)
                     | (refine b_X4_rowOf_22 (by first | omega | assumption) ?_
                        refine s_X4_lays hM hV hu9 hu11 (fun w1 hS hbits hzf hUP hzs => ?_)
                        have hM1 := hS.MR hM
                        have hmf1 := hS.mf q
                        have ha1 : al (w1 9 0) = 84 := by rw [hM1.2.1]; rfl
                        have hI1 := hS.sd.Inv hI
                        have h991 : w1 9 9 = 15 := (hS.2 9 (by decide) (by decide) (by decide) (by decide)).trans hu9
                        have ha91 : al (w1 9 9) = 4200 := by rw [h991]; rfl
                        have h9111 : w1 9 11 = 16 := (hS.2 11 (by decide) (by decide) (by decide) (by decide)).trans hu11
                        have ha111 : al (w1 9 11) = 4200 := by rw [h9111]; rfl
                        refine b_X4_rowOf_27 (by first | omega | assumption) (fun d_27 => ?_) (fun d_27 => ?_) (fun d_27 => ?_) (fun d_27 => ?_) (fun d_27 => ?_) (fun d_27 => ?_) (fun d_27 => ?_) (fun d_27 => ?_) (fun d_27 => ?_)
                        · first
                          | exact absurd d_27 (by omega)
                          | (refine b_X4_rowOf_76 (by first | omega | assumption) (by first | omega | assumption) (by first | omega | assumption) ?_
                             exact JE (by first | (rw [hM1.2.1, d_27]; exact (congrArg (w1 10) (by omega)).trans (hM1.2.2.1.trans (by omega))) | (rw [hM1.2.1, d_27]; exact hM1.2.2.2.1.trans (by omega))) hI)
                        · first
                          | exact absurd d_27 (by omega)
                          | (refine b_X4_rowOf_76 (by first | omega | assumption) (by first | omega | assumption) (by first | omega | assumption) ?_
                             exact JE (by first | (rw [hM1.2.1, d_27]; exact (congrArg (w1 10) (by omega)).trans (hM1.2.2.1.trans (by omega))) | (rw [hM1.2.1, d_27]; exact hM1.2.2.2.1.trans (by omega))) hI)
                        · first
                          | exact absurd d_27 (by omega)
                          | (refine b_X4_rowOf_88 (by first | omega | assumption) ?_
                             refine s_X4_width hM1 ?_
                             refine b_X4_rowOf_93  ?_
                             exact JE (by rfl) hI)
                        · first
                          | exact absurd d_27 (by omega)
                          | (refine b_X4_rowOf_94 (by first | omega | assumption) ?_
                             exact JE (by exact hbits) hI)
                        · first
                          | exact absurd d_27 (by omega)
                          | (refine b_X4_rowOf_99 (by first | omega | assumption) ?_
                             refine s_X4_size hM1 ?_
                             refine b_X4_rowOf_104  ?_
                             exact JE (by rfl) hI)
                        · first
                          | exact absurd d_27 (by omega)
                          | (refine b_X4_rowOf_105 (by first | omega | assumption) ?_
                             refine s_X4_many hM1 ?_
                             refine b_X4_rowOf_110 (by first | omega | assumption) (by first | omega | assumption) ?_
                             exact JE (by rw [h1]) hI)
                        · first
                          | exact absurd d_27 (by omega)
                          | (refine b_X4_rowOf_115 (by first | omega | assumption) (by first | omega | assumption) (by first | omega | assumption) ?_
                             exact JE (by rw [hzf]) hI)
                        · first
                          | exact absurd d_27 (by omega)
                          | (refine b_X4_rowOf_124 (by first | omega | assumption) ?_
                             refine s_X4_unlike hM1 ?_
                             refine b_X4_rowOf_129  ?_
                             exact JE (by rw [hmf1]; exact (unl_congr hE).symm) hI)
                        · first
                          | exact absurd d_27 (by omega)
                          | (refine b_X4_rowOf_130 (by first | omega | assumption) ?_
                             refine s_X4_greatestGap hM1 (fun r2 hg2 => ?_)
                             refine b_X4_rowOf_135  ?_
                             exact JE (by rw [hmf1] at hg2; exact gst_one hg2 (gst_congr hE hg)) hI))
                   · first
                     | exact absurd d_16 (by omega)
                     | (refine b_X4_rowOf_19  ?_
                        exact JE (by first | rfl | omega) hI)))
         · first
           | exact absurd c_15 (by omega)
           | (refine b_X3_rowOf_109 (by first | omega | assumption) ?_
              refine s_X1_unlike h ?_
              refine b_X3_rowOf_113  ?_
              refine JQ.mk (by omega) ?_
              refine b_X4_rowOf_0  ?_
              refine s_X4_in (by omega) (by omega) (by omega) (fun r hr => ?_)
              refine b_X4_rowOf_6 (by first | omega | assumption) (fun d_6 => ?_) (fun d_6 => ?_)
              · first
                | exact absurd d_6 (by omega)
                | (refine b_X4_rowOf_19  ?_
                   exact JE (by first | rfl | omega) hI)
              · first
                | exact absurd d_6 (by omega)
                | (refine b_X4_rowOf_9  ?_
                   refine s_X4_in (by omega) (by omega) (by omega) (fun r hr => ?_)
                   refine b_X4_rowOf_16 (by first | omega | assumption) (fun d_16 => ?_) (fun d_16 => ?_)
                   · first
                     | exact absurd d_16 (by omega)
                     | (refine b_X4_rowOf_22 (by first | omega | assumption) ?_
                        refine s_X4_lays hM hV hu9 hu11 (fun w1 hS hbits hzf hUP hzs => ?_)
                        have hM1 := hS.MR hM
                        have hmf1 := hS.mf q
                        have ha1 : al (w1 9 0) = 84 := by rw [hM1.2.1]; rfl
                        have hI1 := hS.sd.Inv hI
                        have h991 : w1 9 9 = 15 := (hS.2 9 (by decide) (by decide) (by decide) (by decide)).trans hu9
                        have ha91 : al (w1 9 9) = 4200 := by rw [h991]; rfl
                        have h9111 : w1 9 11 = 16 := (hS.2 11 (by decide) (by decide) (by decide) (by decide)).trans hu11
                        have ha111 : al (w1 9 11) = 4200 := by rw [h9111]; rfl
                        refine b_X4_rowOf_27 (by first | omega | assumption) (fun d_27 => ?_) (fun d_27 => ?_) (fun d_27 => ?_) (fun d_27 => ?_) (fun d_27 => ?_) (fun d_27 => ?_) (fun d_27 => ?_) (fun d_27 => ?_) (fun d_27 => ?_)
                        · first
                          | exact absurd d_27 (by omega)
                          | (refine b_X4_rowOf_76 (by first | omega | assumption) (by first | omega | assumption) (by first | omega | assumption) ?_
                             exact JE (by first | (rw [hM1.2.1, d_27]; exact (congrArg (w1 10) (by omega)).trans (hM1.2.2.1.trans (by omega))) | (rw [hM1.2.1, d_27]; exact hM1.2.2.2.1.trans (by omega))) hI)
                        · first
                          | exact absurd d_27 (by omega)
                          | (refine b_X4_rowOf_76 (by first | omega | assumption) (by first | omega | assumption) (by first | omega | assumption) ?_
                             exact JE (by first | (rw [hM1.2.1, d_27]; exact (congrArg (w1 10) (by omega)).trans (hM1.2.2.1.trans (by omega))) | (rw [hM1.2.1, d_27]; exact hM1.2.2.2.1.trans (by omega))) hI)
                        · first
                          | exact absurd d_27 (by omega)
                          | (refine b_X4_rowOf_88 (by first | omega | assumption) ?_
                             refine s_X4_width hM1 ?_
                             refine b_X4_rowOf_93  ?_
                             exact JE (by rfl) hI)
                        · first
                          | exact absurd d_27 (by omega)
                          | (refine b_X4_rowOf_94 (by first | omega | assumption) ?_
                             exact JE (by exact hbits) hI)
                        · first
                          | exact absurd d_27 (by omega)
                          | (refine b_X4_rowOf_99 (by first | omega | assumption) ?_
                             refine s_X4_size hM1 ?_
                             refine b_X4_rowOf_104  ?_
                             exact JE (by rfl) hI)
                        · first
                          | exact absurd d_27 (by omega)
                          | (refine b_X4_rowOf_105 (by first | omega | assumption) ?_
                             refine s_X4_many hM1 ?_
                             refine b_X4_rowOf_110 (by first | omega | assumption) (by first | omega | assumption) ?_
                             exact JE (by rw [h1]) hI)
                        · first
                          | exact absurd d_27 (by omega)
                          | (refine b_X4_rowOf_115 (by first | omega | assumption) (by first | omega | assumption) (by first | omega | assumption) ?_
                             exact JE (by rw [hzf]) hI)
                        · first
                          | exact absurd d_27 (by omega)
                          | (refine b_X4_rowOf_124 (by first | omega | assumption) ?_
                             refine s_X4_unlike hM1 ?_
                             refine b_X4_rowOf_129  ?_
                             exact JE (by rw [hmf1]; exact (unl_congr hE).symm) hI)
                        · first
                          | exact absurd d_27 (by omega)
                          | (refine b_X4_rowOf_130 (by first | omega | assumption) ?_
                             refine s_X4_greatestGap hM1 (fun r2 hg2 => ?_)
                             refine b_X4_rowOf_135  ?_
                             exact JE (by rw [hmf1] at hg2; exact gst_one hg2 (gst_congr hE hg)) hI))
                   · first
                     | exact absurd d_16 (by omega)
                     | (refine b_X4_rowOf_19  ?_
                        exact JE (by first | rfl | omega) hI)))
         · first
           | exact absurd c_15 (by omega)
           | (refine b_X3_rowOf_114 (by first | omega | assumption) ?_
              refine s_X1_greatestStep h (fun r hg => ?_)
              have hg0 := hg.1
              have hg1 := hg.2.1
              refine b_X3_rowOf_118  ?_
              refine JQ.mk (by omega) ?_
              refine b_X4_rowOf_0  ?_
              refine s_X4_in (by omega) (by omega) (by omega) (fun r hr => ?_)
              refine b_X4_rowOf_6 (by first | omega | assumption) (fun d_6 => ?_) (fun d_6 => ?_)
              · first
                | exact absurd d_6 (by omega)
                | (refine b_X4_rowOf_19  ?_
                   exact JE (by first | rfl | omega) hI)
              · first
                | exact absurd d_6 (by omega)
                | (refine b_X4_rowOf_9  ?_
                   refine s_X4_in (by omega) (by omega) (by omega) (fun r hr => ?_)
                   refine b_X4_rowOf_16 (by first | omega | assumption) (fun d_16 => ?_) (fun d_16 => ?_)
                   · first
                     | exact absurd d_16 (by omega)
                     | (refine b_X4_rowOf_22 (by first | omega | assumption) ?_
                        refine s_X4_lays hM hV hu9 hu11 (fun w1 hS hbits hzf hUP hzs => ?_)
                        have hM1 := hS.MR hM
                        have hmf1 := hS.mf q
                        have ha1 : al (w1 9 0) = 84 := by rw [hM1.2.1]; rfl
                        have hI1 := hS.sd.Inv hI
                        have h991 : w1 9 9 = 15 := (hS.2 9 (by decide) (by decide) (by decide) (by decide)).trans hu9
                        have ha91 : al (w1 9 9) = 4200 := by rw [h991]; rfl
                        have h9111 : w1 9 11 = 16 := (hS.2 11 (by decide) (by decide) (by decide) (by decide)).trans hu11
                        have ha111 : al (w1 9 11) = 4200 := by rw [h9111]; rfl
                        refine b_X4_rowOf_27 (by first | omega | assumption) (fun d_27 => ?_) (fun d_27 => ?_) (fun d_27 => ?_) (fun d_27 => ?_) (fun d_27 => ?_) (fun d_27 => ?_) (fun d_27 => ?_) (fun d_27 => ?_) (fun d_27 => ?_)
                        · first
                          | exact absurd d_27 (by omega)
                          | (refine b_X4_rowOf_76 (by first | omega | assumption) (by first | omega | assumption) (by first | omega | assumption) ?_
                             exact JE (by first | (rw [hM1.2.1, d_27]; exact (congrArg (w1 10) (by omega)).trans (hM1.2.2.1.trans (by omega))) | (rw [hM1.2.1, d_27]; exact hM1.2.2.2.1.trans (by omega))) hI)
                        · first
                          | exact absurd d_27 (by omega)
                          | (refine b_X4_rowOf_76 (by first | omega | assumption) (by first | omega | assumption) (by first | omega | assumption) ?_
                             exact JE (by first | (rw [hM1.2.1, d_27]; exact (congrArg (w1 10) (by omega)).trans (hM1.2.2.1.trans (by omega))) | (rw [hM1.2.1, d_27]; exact hM1.2.2.2.1.trans (by omega))) hI)
                        · first
                          | exact absurd d_27 (by omega)
                          | (refine b_X4_rowOf_88 (by first | omega | assumption) ?_
                             refine s_X4_width hM1 ?_
                             refine b_X4_rowOf_93  ?_
                             exact JE (by rfl) hI)
                        · first
                          | exact absurd d_27 (by omega)
                          | (refine b_X4_rowOf_94 (by first | omega | assumption) ?_
                             exact JE (by exact hbits) hI)
                        · first
                          | exact absurd d_27 (by omega)
                          | (refine b_X4_rowOf_99 (by first | omega | assumption) ?_
                             refine s_X4_size hM1 ?_
                             refine b_X4_rowOf_104  ?_
                             exact JE (by rfl) hI)
                        · first
                          | exact absurd d_27 (by omega)
                          | (refine b_X4_rowOf_105 (by first | omega | assumption) ?_
                             refine s_X4_many hM1 ?_
                             refine b_X4_rowOf_110 (by first | omega | assumption) (by first | omega | assumption) ?_
                             exact JE (by rw [h1]) hI)
                        · first
                          | exact absurd d_27 (by omega)
                          | (refine b_X4_rowOf_115 (by first | omega | assumption) (by first | omega | assumption) (by first | omega | assumption) ?_
                             exact JE (by rw [hzf]) hI)
                        · first
                          | exact absurd d_27 (by omega)
                          | (refine b_X4_rowOf_124 (by first | omega | assumption) ?_
                             refine s_X4_unlike hM1 ?_
                             refine b_X4_rowOf_129  ?_
                             exact JE (by rw [hmf1]; exact (unl_congr hE).symm) hI)
                        · first
                          | exact absurd d_27 (by omega)
                          | (refine b_X4_rowOf_130 (by first | omega | assumption) ?_
                             refine s_X4_greatestGap hM1 (fun r2 hg2 => ?_)
                             refine b_X4_rowOf_135  ?_
                             exact JE (by rw [hmf1] at hg2; exact gst_one hg2 (gst_congr hE hg)) hI))
                   · first
                     | exact absurd d_16 (by omega)
                     | (refine b_X4_rowOf_19  ?_
                        exact JE (by first | rfl | omega) hI)))
         · first
           | exact absurd c_15 (by omega)
           | (refine b_X3_rowOf_119  ?_
              refine JQ.mk (by omega) ?_
              refine b_X4_rowOf_0  ?_
              refine s_X4_in (by omega) (by omega) (by omega) (fun r hr => ?_)
              refine b_X4_rowOf_6 (by first | omega | assumption) (fun d_6 => ?_) (fun d_6 => ?_)
              · first
                | exact absurd d_6 (by omega)
                | (refine b_X4_rowOf_19  ?_
                   exact JE (by first | rfl | omega) hI)
              · first
                | exact absurd d_6 (by omega)
                | (refine b_X4_rowOf_9  ?_
                   refine s_X4_in (by omega) (by omega) (by omega) (fun r hr => ?_)
                   refine b_X4_rowOf_16 (by first | omega | assumption) (fun d_16 => ?_) (fun d_16 => ?_)
                   · first
                     | exact absurd d_16 (by omega)
                     | (refine b_X4_rowOf_22 (by first | omega | assumption) ?_
                        refine s_X4_lays hM hV hu9 hu11 (fun w1 hS hbits hzf hUP hzs => ?_)
                        have hM1 := hS.MR hM
                        have hmf1 := hS.mf q
                        have ha1 : al (w1 9 0) = 84 := by rw [hM1.2.1]; rfl
                        have hI1 := hS.sd.Inv hI
                        have h991 : w1 9 9 = 15 := (hS.2 9 (by decide) (by decide) (by decide) (by decide)).trans hu9
                        have ha91 : al (w1 9 9) = 4200 := by rw [h991]; rfl
                        have h9111 : w1 9 11 = 16 := (hS.2 11 (by decide) (by decide) (by decide) (by decide)).trans hu11
                        have ha111 : al (w1 9 11) = 4200 := by rw [h9111]; rfl
                        refine b_X4_rowOf_27 (by first | omega | assumption) (fun d_27 => ?_) (fun d_27 => ?_) (fun d_27 => ?_) (fun d_27 => ?_) (fun d_27 => ?_) (fun d_27 => ?_) (fun d_27 => ?_) (fun d_27 => ?_) (fun d_27 => ?_)
                        · first
                          | exact absurd d_27 (by omega)
                          | (refine b_X4_rowOf_76 (by first | omega | assumption) (by first | omega | assumption) (by first | omega | assumption) ?_
                             exact JE (by first | (rw [hM1.2.1, d_27]; exact (congrArg (w1 10) (by omega)).trans (hM1.2.2.1.trans (by omega))) | (rw [hM1.2.1, d_27]; exact hM1.2.2.2.1.trans (by omega))) hI)
                        · first
                          | exact absurd d_27 (by omega)
                          | (refine b_X4_rowOf_76 (by first | omega | assumption) (by first | omega | assumption) (by first | omega | assumption) ?_
                             exact JE (by first | (rw [hM1.2.1, d_27]; exact (congrArg (w1 10) (by omega)).trans (hM1.2.2.1.trans (by omega))) | (rw [hM1.2.1, d_27]; exact hM1.2.2.2.1.trans (by omega))) hI)
                        · first
                          | exact absurd d_27 (by omega)
                          | (refine b_X4_rowOf_88 (by first | omega | assumption) ?_
                             refine s_X4_width hM1 ?_
                             refine b_X4_rowOf_93  ?_
                             exact JE (by rfl) hI)
                        · first
                          | exact absurd d_27 (by omega)
                          | (refine b_X4_rowOf_94 (by first | omega | assumption) ?_
                             exact JE (by exact hbits) hI)
                        · first
                          | exact absurd d_27 (by omega)
                          | (refine b_X4_rowOf_99 (by first | omega | assumption) ?_
                             refine s_X4_size hM1 ?_
                             refine b_X4_rowOf_104  ?_
                             exact JE (by rfl) hI)
                        · first
                          | exact absurd d_27 (by omega)
                          | (refine b_X4_rowOf_105 (by first | omega | assumption) ?_
                             refine s_X4_many hM1 ?_
                             refine b_X4_rowOf_110 (by first | omega | assumption) (by first | omega | assumption) ?_
                             exact JE (by rw [h1]) hI)
                        · first
                          | exact absurd d_27 (by omega)
                          | (refine b_X4_rowOf_115 (by first | omega | assumption) (by first | omega | assumption) (by first | omega | assumption) ?_
                             exact JE (by rw [hzf]) hI)
                        · first
                          | exact absurd d_27 (by omega)
                          | (refine b_X4_rowOf_124 (by first | omega | assumption) ?_
                             refine s_X4_unlike hM1 ?_
                             refine b_X4_rowOf_129  ?_
                             exact JE (by rw [hmf1]; exact (unl_congr hE).symm) hI)
                        · first
                          | exact absurd d_27 (by omega)
                          | (refine b_X4_rowOf_130 (by first | omega | assumption) ?_
                             refine s_X4_greatestGap hM1 (fun r2 hg2 => ?_)
                             refine b_X4_rowOf_135  ?_
                             exact JE (by rw [hmf1] at hg2; exact gst_one hg2 (gst_congr hE hg)) hI))
                   · first
                     | exact absurd d_16 (by omega)
                     | (refine b_X4_rowOf_19  ?_
                        exact JE (by first | rfl | omega) hI))))
    · first
      | exact absurd c_4 (by omega)
      | (refine b_X3_rowOf_7  ?_
         refine JQ.mk (by omega) ?_
         refine b_X4_rowOf_0  ?_
         refine s_X4_in (by omega) (by omega) (by omega) (fun r hr => ?_)
         refine b_X4_rowOf_6 (by first | omega | assumption) (fun d_6 => ?_) (fun d_6 => ?_)
         · first
           | exact absurd d_6 (by omega)
           | (refine b_X4_rowOf_19  ?_
              exact JE (by first | rfl | omega) hI)
         · first
           | exact absurd d_6 (by omega)
           | (refine b_X4_rowOf_9  ?_
              refine s_X4_in (by omega) (by omega) (by omega) (fun r hr => ?_)
              refine b_X4_rowOf_16 (by first | omega | assumption) (fun d_16 => ?_) (fun d_16 => ?_)
              · first
                | exact absurd d_16 (by omega)
                | (refine b_X4_rowOf_22 (by first | omega | assumption) ?_
                   refine s_X4_lays hM hV hu9 hu11 (fun w1 hS hbits hzf hUP hzs => ?_)
                   have hM1 := hS.MR hM
                   have hmf1 := hS.mf q
                   have ha1 : al (w1 9 0) = 84 := by rw [hM1.2.1]; rfl
                   have hI1 := hS.sd.Inv hI
                   have h991 : w1 9 9 = 15 := (hS.2 9 (by decide) (by decide) (by decide) (by decide)).trans hu9
                   have ha91 : al (w1 9 9) = 4200 := by rw [h991]; rfl
                   have h9111 : w1 9 11 = 16 := (hS.2 11 (by decide) (by decide) (by decide) (by decide)).trans hu11
                   have ha111 : al (w1 9 11) = 4200 := by rw [h9111]; rfl
                   refine b_X4_rowOf_27 (by first | omega | assumption) (fun d_27 => ?_) (fun d_27 => ?_) (fun d_27 => ?_) (fun d_27 => ?_) (fun d_27 => ?_) (fun d_27 => ?_) (fun d_27 => ?_) (fun d_27 => ?_) (fun d_27 => ?_)
                   · first
                     | exact absurd d_27 (by omega)
                     | (refine b_X4_rowOf_76 (by first | omega | assumption) (by first | omega | assumption) (by first | omega | assumption) ?_
                        exact JE (by first | (rw [hM1.2.1, d_27]; exact (congrArg (w1 10) (by omega)).trans (hM1.2.2.1.trans (by omega))) | (rw [hM1.2.1, d_27]; exact hM1.2.2.2.1.trans (by omega))) hI)
                   · first
                     | exact absurd d_27 (by omega)
                     | (refine b_X4_rowOf_76 (by first | omega | assumption) (by first | omega | assumption) (by first | omega | assumption) ?_
                        exact JE (by first | (rw [hM1.2.1, d_27]; exact (congrArg (w1 10) (by omega)).trans (hM1.2.2.1.trans (by omega))) | (rw [hM1.2.1, d_27]; exact hM1.2.2.2.1.trans (by omega))) hI)
                   · first
                     | exact absurd d_27 (by omega)
                     | (refine b_X4_rowOf_88 (by first | omega | assumption) ?_
                        refine s_X4_width hM1 ?_
                        refine b_X4_rowOf_93  ?_
                        exact JE (by rfl) hI)
                   · first
                     | exact absurd d_27 (by omega)
                     | (refine b_X4_rowOf_94 (by first | omega | assumption) ?_
                        exact JE (by exact hbits) hI)
                   · first
                     | exact absurd d_27 (by omega)
                     | (refine b_X4_rowOf_99 (by first | omega | assumption) ?_
                        refine s_X4_size hM1 ?_
                        refine b_X4_rowOf_104  ?_
                        exact JE (by rfl) hI)
                   · first
                     | exact absurd d_27 (by omega)
                     | (refine b_X4_rowOf_105 (by first | omega | assumption) ?_
                        refine s_X4_many hM1 ?_
                        refine b_X4_rowOf_110 (by first | omega | assumption) (by first | omega | assumption) ?_
                        exact JE (by rw [h1]) hI)
                   · first
                     | exact absurd d_27 (by omega)
                     | (refine b_X4_rowOf_115 (by first | omega | assumption) (by first | omega | assumption) (by first | omega | assumption) ?_
                        exact JE (by rw [hzf]) hI)
                   · first
                     | exact absurd d_27 (by omega)
                     | (refine b_X4_rowOf_124 (by first | omega | assumption) ?_
                        refine s_X4_unlike hM1 ?_
                        refine b_X4_rowOf_129  ?_
                        exact JE (by rw [hmf1]; exact (unl_congr hE).symm) hI)
                   · first
                     | exact absurd d_27 (by omega)
                     | (refine b_X4_rowOf_130 (by first | omega | assumption) ?_
                        refine s_X4_greatestGap hM1 (fun r2 hg2 => ?_)
                        refine b_X4_rowOf_135  ?_
                        exact JE (by rw [hmf1] at hg2; exact gst_one hg2 (gst_congr hE hg)) hI))
              · first
                | exact absurd d_16 (by omega)
                | (refine b_X4_rowOf_19  ?_
                   exact JE (by first | rfl | omega) hI)))

/-- whether a one is at a place -/
def oneAt (f : Int → Int) (n b p r : Int) : Prop := (r = 1 ∧ ∃ i, 0 ≤ i ∧ i < n ∧ pl f n b i = p) ∨ (r = 0 ∧ ∀ i, 0 ≤ i → i < n → ¬ pl f n b i = p)
theorem up_eq {u f g : Int → Int} {n b p r : Int} (hU : UP u g n b) (hE : Eqv n f g) (h0 : 0 ≤ p) (h1 : p < ub n b) (hr : oneAt f n b p r) : u p = r := by
  rcases hU p h0 h1 with ⟨e1, i, g1, g2, g3⟩ | ⟨e1, g⟩ <;> rcases hr with ⟨e2, j, k1, k2, k3⟩ | ⟨e2, k⟩
  · omega
  · exact absurd ((pl_congr hE g1 g2).trans g3) (k i g1 g2)
  · exact absurd ((pl_congr hE k1 k2).symm.trans k3) (g j k1 k2)
  · omega
theorem oneAt_01 {f : Int → Int} {n b p r : Int} (h : oneAt f n b p r) : r = 0 ∨ r = 1 := by
  rcases h with ⟨e, -⟩ | ⟨e, -⟩
  · exact Or.inr e
  · exact Or.inl e

theorem j_upperBit {w : rW} {q x : Int} (hI : Inv w) (hqr : R32 q) (hxr : R32 x) : WP M_X3_upperBit 0 [vr 0, vi q, vi x, vu] [] w (JQ M_X4_upperBit [vr 9, vi q, vi x]) := by
  have ho0 : oc 0 = 3 := rfl
  have ho9 : oc 9 = 4 := rfl
  by_cases hq : q = 0 ∨ q = 1
  · clear ho0
    have ho0 : oc 0 = 3 := rfl
    obtain ⟨a, n, b, hra, hR, hM, hV, hE⟩ := hI.row hq
    obtain ⟨h, hb0, hb1, hb2⟩ := id hR
    obtain ⟨ha13, ho, ha1, h0, h1, hn0, hn4, hv⟩ := id h
    have hn : 0 ≤ n ∧ n ≤ 40 := ⟨hn0, hn4⟩
    have hb : 1 ≤ b ∧ b ≤ 4096 := ⟨by omega, hb2⟩
    have hwb := wd_bd hn.1 hb.2
    have hpw := p2_w hn.1 hb.2
    have hub := ub_bd hn hb
    have hzb := zf_bd hn.1 hb.1 hb.2
    have hsz := szf_bd hn hb
    have hun := unl_bd (f := w (a + 1)) hn0
    have hu9 : w 9 9 = 15 := hI.1.2.2.2.2.2.2.2.2.2.1
    have hu11 : w 9 11 = 16 := hI.1.2.2.2.2.2.2.2.2.2.2.1
    have ha0 : al (w 9 0) = 84 := by rw [hM.2.1]; rfl
    have hbm : w (w 9 0) (42 * q + 1) = b := by rw [hM.2.1]; exact hM.2.2.2.1
    refine b_X3_upperBit_0  ?_
    refine s_X3_isRow (by omega) (fun r hr => ?_)
    refine b_X3_upperBit_4 (by first | omega | assumption) (fun c_4 => ?_) (fun c_4 => ?_)
    · first
      | exact absurd c_4 (by omega)
      | (refine b_X3_upperBit_11  ?_
         refine JQ.mk (by omega) ?_
         refine b_X4_upperBit_0  ?_
         refine s_X4_in (by omega) (by omega) (by omega) (fun r hr => ?_)
         refine b_X4_upperBit_6 (by first | omega | assumption) (fun d_6 => ?_) (fun d_6 => ?_)
         · first
           | exact absurd d_6 (by omega)
           | (refine b_X4_upperBit_13  ?_
              exact JE (by first | rfl | omega) hI)
         · first
           | exact absurd d_6 (by omega)
           | (refine b_X4_upperBit_9 (by first | omega | assumption) (fun d_9 => ?_) (fun d_9 => ?_)
              · first
                | exact absurd d_9 (by omega)
                | (refine b_X4_upperBit_16 (by first | omega | assumption) ?_
                   refine s_X4_lays hM hV hu9 hu11 (fun w1 hS hbits hzf hUP hzs => ?_)
                   have hM1 := hS.MR hM
                   have hmf1 := hS.mf q
                   have ha1 : al (w1 9 0) = 84 := by rw [hM1.2.1]; rfl
                   have hI1 := hS.sd.Inv hI
                   have h991 : w1 9 9 = 15 := (hS.2 9 (by decide) (by decide) (by decide) (by decide)).trans hu9
                   have ha91 : al (w1 9 9) = 4200 := by rw [h991]; rfl
                   have h9111 : w1 9 11 = 16 := (hS.2 11 (by decide) (by decide) (by decide) (by decide)).trans hu11
                   have ha111 : al (w1 9 11) = 4200 := by rw [h9111]; rfl
                   refine b_X4_upperBit_21 (by first | omega | assumption) (by first | omega | assumption) (by first | omega | assumption) (fun d_21 => ?_) (fun d_21 => ?_)
                   · first
                     | exact absurd d_21 (by omega)
                     | (refine b_X4_upperBit_38  ?_
                        refine b_X4_upperBit_40  ?_
                        exact JE (by first | rfl | (rw [h991]; exact (up_eq hUP hE (by omega) (by omega) hr9).trans (by omega)) | omega) hI1)
                   · first
                     | exact absurd d_21 (by omega)
                     | (refine b_X4_upperBit_29 (by first | omega | assumption) (by first | omega | assumption) (by first | omega | assumption) ?_
                        refine b_X4_upperBit_40  ?_
                        exact JE (by first | rfl | (rw [h991]; exact (up_eq hUP hE (by omega) (by omega) hr9).trans (by omega)) | omega) hI1))
              · first
                | exact absurd d_9 (by omega)
                | (refine b_X4_upperBit_13  ?_
                   exact JE (by first | rfl | omega) hI)))
    · first
      | exact absurd c_4 (by omega)
      | (refine b_X3_upperBit_7 (by first | omega | assumption) (fun c_7 => ?_) (fun c_7 => ?_)
         · first
           | exact absurd c_7 (by omega)
           | (refine b_X3_upperBit_14 (by first | omega | assumption) ?_
              refine s_X3_rowAt hra ?_
              refine b_X3_upperBit_19 (by first | omega | assumption) ?_
              refine s_X1_upperLength hR ?_
              refine b_X3_upperBit_25 (by first | omega | assumption) (by first | omega | assumption) (fun c_25 => ?_) (fun c_25 => ?_)
              · first
                | exact absurd c_25 (by omega)
                | (refine b_X3_upperBit_31 (by first | omega | assumption) ?_
                   refine s_X1_hasOneAt hR (by omega) (fun r9 hr7 => ?_)
                   have hr9 : oneAt (w (a + 1)) n b x r9 := hr7
                   clear hr7
                   have hr8 := oneAt_01 hr9
                   refine b_X3_upperBit_36 (by first | omega | assumption) (fun c_36 => ?_) (fun c_36 => ?_)
                   · first
                     | exact absurd c_36 (by omega)
                     | (refine b_X3_upperBit_43  ?_
                        refine b_X3_upperBit_44  ?_
                        refine JQ.mk (by omega) ?_
                        refine b_X4_upperBit_0  ?_
                        refine s_X4_in (by omega) (by omega) (by omega) (fun r hr => ?_)
                        refine b_X4_upperBit_6 (by first | omega | assumption) (fun d_6 => ?_) (fun d_6 => ?_)
                        · first
                          | exact absurd d_6 (by omega)
                          | (refine b_X4_upperBit_13  ?_
                             exact JE (by first | rfl | omega) hI)
                        · first
                          | exact absurd d_6 (by omega)
                          | (refine b_X4_upperBit_9 (by first | omega | assumption) (fun d_9 => ?_) (fun d_9 => ?_)
                             · first
                               | exact absurd d_9 (by omega)
                               | (refine b_X4_upperBit_16 (by first | omega | assumption) ?_
                                  refine s_X4_lays hM hV hu9 hu11 (fun w1 hS hbits hzf hUP hzs => ?_)
                                  have hM1 := hS.MR hM
                                  have hmf1 := hS.mf q
                                  have ha1 : al (w1 9 0) = 84 := by rw [hM1.2.1]; rfl
                                  have hI1 := hS.sd.Inv hI
                                  have h991 : w1 9 9 = 15 := (hS.2 9 (by decide) (by decide) (by decide) (by decide)).trans hu9
                                  have ha91 : al (w1 9 9) = 4200 := by rw [h991]; rfl
                                  have h9111 : w1 9 11 = 16 := (hS.2 11 (by decide) (by decide) (by decide) (by decide)).trans hu11
                                  have ha111 : al (w1 9 11) = 4200 := by rw [h9111]; rfl
                                  refine b_X4_upperBit_21 (by first | omega | assumption) (by first | omega | assumption) (by first | omega | assumption) (fun d_21 => ?_) (fun d_21 => ?_)
                                  · first
                                    | exact absurd d_21 (by omega)
                                    | (refine b_X4_upperBit_38  ?_
                                       refine b_X4_upperBit_40  ?_
                                       exact JE (by first | rfl | (rw [h991]; exact (up_eq hUP hE (by omega) (by omega) hr9).trans (by omega)) | omega) hI1)
                                  · first
                                    | exact absurd d_21 (by omega)
                                    | (refine b_X4_upperBit_29 (by first | omega | assumption) (by first | omega | assumption) (by first | omega | assumption) ?_
                                       refine b_X4_upperBit_40  ?_
                                       exact JE (by first | rfl | (rw [h991]; exact (up_eq hUP hE (by omega) (by omega) hr9).trans (by omega)) | omega) hI1))
                             · first
                               | exact absurd d_9 (by omega)
                               | (refine b_X4_upperBit_13  ?_
                                  exact JE (by first | rfl | omega) hI)))
                   · first
                     | exact absurd c_36 (by omega)
                     | (refine b_X3_upperBit_39  ?_
                        refine b_X3_upperBit_44  ?_
                        refine JQ.mk (by omega) ?_
                        refine b_X4_upperBit_0  ?_
                        refine s_X4_in (by omega) (by omega) (by omega) (fun r hr => ?_)
                        refine b_X4_upperBit_6 (by first | omega | assumption) (fun d_6 => ?_) (fun d_6 => ?_)
                        · first
                          | exact absurd d_6 (by omega)
                          | (refine b_X4_upperBit_13  ?_
                             exact JE (by first | rfl | omega) hI)
                        · first
                          | exact absurd d_6 (by omega)
                          | (refine b_X4_upperBit_9 (by first | omega | assumption) (fun d_9 => ?_) (fun d_9 => ?_)
                             · first
                               | exact absurd d_9 (by omega)
                               | (refine b_X4_upperBit_16 (by first | omega | assumption) ?_
                                  refine s_X4_lays hM hV hu9 hu11 (fun w1 hS hbits hzf hUP hzs => ?_)
                                  have hM1 := hS.MR hM
                                  have hmf1 := hS.mf q
                                  have ha1 : al (w1 9 0) = 84 := by rw [hM1.2.1]; rfl
                                  have hI1 := hS.sd.Inv hI
                                  have h991 : w1 9 9 = 15 := (hS.2 9 (by decide) (by decide) (by decide) (by decide)).trans hu9
                                  have ha91 : al (w1 9 9) = 4200 := by rw [h991]; rfl
                                  have h9111 : w1 9 11 = 16 := (hS.2 11 (by decide) (by decide) (by decide) (by decide)).trans hu11
                                  have ha111 : al (w1 9 11) = 4200 := by rw [h9111]; rfl
                                  refine b_X4_upperBit_21 (by first | omega | assumption) (by first | omega | assumption) (by first | omega | assumption) (fun d_21 => ?_) (fun d_21 => ?_)
                                  · first
                                    | exact absurd d_21 (by omega)
                                    | (refine b_X4_upperBit_38  ?_
                                       refine b_X4_upperBit_40  ?_
                                       exact JE (by first | rfl | (rw [h991]; exact (up_eq hUP hE (by omega) (by omega) hr9).trans (by omega)) | omega) hI1)
                                  · first
                                    | exact absurd d_21 (by omega)
                                    | (refine b_X4_upperBit_29 (by first | omega | assumption) (by first | omega | assumption) (by first | omega | assumption) ?_
                                       refine b_X4_upperBit_40  ?_
                                       exact JE (by first | rfl | (rw [h991]; exact (up_eq hUP hE (by omega) (by omega) hr9).trans (by omega)) | omega) hI1))
                             · first
                               | exact absurd d_9 (by omega)
                               | (refine b_X4_upperBit_13  ?_
                                  exact JE (by first | rfl | omega) hI))))
              · first
                | exact absurd c_25 (by omega)
                | (refine b_X3_upperBit_28  ?_
                   refine JQ.mk (by omega) ?_
                   refine b_X4_upperBit_0  ?_
                   refine s_X4_in (by omega) (by omega) (by omega) (fun r hr => ?_)
                   refine b_X4_upperBit_6 (by first | omega | assumption) (fun d_6 => ?_) (fun d_6 => ?_)
                   · first
                     | exact absurd d_6 (by omega)
                     | (refine b_X4_upperBit_13  ?_
                        exact JE (by first | rfl | omega) hI)
                   · first
                     | exact absurd d_6 (by omega)
                     | (refine b_X4_upperBit_9 (by first | omega | assumption) (fun d_9 => ?_) (fun d_9 => ?_)
                        · first
                          | exact absurd d_9 (by omega)
                          | (refine b_X4_upperBit_16 (by first | omega | assumption) ?_
                             refine s_X4_lays hM hV hu9 hu11 (fun w1 hS hbits hzf hUP hzs => ?_)
                             have hM1 := hS.MR hM
                             have hmf1 := hS.mf q
                             have ha1 : al (w1 9 0) = 84 := by rw [hM1.2.1]; rfl
                             have hI1 := hS.sd.Inv hI
                             have h991 : w1 9 9 = 15 := (hS.2 9 (by decide) (by decide) (by decide) (by decide)).trans hu9
                             have ha91 : al (w1 9 9) = 4200 := by rw [h991]; rfl
                             have h9111 : w1 9 11 = 16 := (hS.2 11 (by decide) (by decide) (by decide) (by decide)).trans hu11
                             have ha111 : al (w1 9 11) = 4200 := by rw [h9111]; rfl
                             refine b_X4_upperBit_21 (by first | omega | assumption) (by first | omega | assumption) (by first | omega | assumption) (fun d_21 => ?_) (fun d_21 => ?_)
                             · first
                               | exact absurd d_21 (by omega)
                               | (refine b_X4_upperBit_38  ?_
                                  refine b_X4_upperBit_40  ?_
                                  exact JE (by first | rfl | (rw [h991]; exact (up_eq hUP hE (by omega) (by omega) hr9).trans (by omega)) | omega) hI1)
                             · first
                               | exact absurd d_21 (by omega)
                               | (refine b_X4_upperBit_29 (by first | omega | assumption) (by first | omega | assumption) (by first | omega | assumption) ?_
                                  refine b_X4_upperBit_40  ?_
                                  exact JE (by first | rfl | (rw [h991]; exact (up_eq hUP hE (by omega) (by omega) hr9).trans (by omega)) | omega) hI1))
                        · first
                          | exact absurd d_9 (by omega)
                          | (refine b_X4_upperBit_13  ?_
                             exact JE (by first | rfl | omega) hI))))
         · first
           | exact absurd c_7 (by omega)
           | (refine b_X3_upperBit_11  ?_
              refine JQ.mk (by omega) ?_
              refine b_X4_upperBit_0  ?_
              refine s_X4_in (by omega) (by omega) (by omega) (fun r hr => ?_)
              refine b_X4_upperBit_6 (by first | omega | assumption) (fun d_6 => ?_) (fun d_6 => ?_)
              · first
                | exact absurd d_6 (by omega)
                | (refine b_X4_upperBit_13  ?_
                   exact JE (by first | rfl | omega) hI)
              · first
                | exact absurd d_6 (by omega)
                | (refine b_X4_upperBit_9 (by first | omega | assumption) (fun d_9 => ?_) (fun d_9 => ?_)
                   · first
                     | exact absurd d_9 (by omega)
                     | (refine b_X4_upperBit_16 (by first | omega | assumption) ?_
                        refine s_X4_lays hM hV hu9 hu11 (fun w1 hS hbits hzf hUP hzs => ?_)
                        have hM1 := hS.MR hM
                        have hmf1 := hS.mf q
                        have ha1 : al (w1 9 0) = 84 := by rw [hM1.2.1]; rfl
                        have hI1 := hS.sd.Inv hI
                        have h991 : w1 9 9 = 15 := (hS.2 9 (by decide) (by decide) (by decide) (by decide)).trans hu9
                        have ha91 : al (w1 9 9) = 4200 := by rw [h991]; rfl
                        have h9111 : w1 9 11 = 16 := (hS.2 11 (by decide) (by decide) (by decide) (by decide)).trans hu11
                        have ha111 : al (w1 9 11) = 4200 := by rw [h9111]; rfl
                        refine b_X4_upperBit_21 (by first | omega | assumption) (by first | omega | assumption) (by first | omega | assumption) (fun d_21 => ?_) (fun d_21 => ?_)
                        · first
                          | exact absurd d_21 (by omega)
                          | (refine b_X4_upperBit_38  ?_
                             refine b_X4_upperBit_40  ?_
                             exact JE (by first | rfl | (rw [h991]; exact (up_eq hUP hE (by omega) (by omega) hr9).trans (by omega)) | omega) hI1)
                        · first
                          | exact absurd d_21 (by omega)
                          | (refine b_X4_upperBit_29 (by first | omega | assumption) (by first | omega | assumption) (by first | omega | assumption) ?_
                             refine b_X4_upperBit_40  ?_
                             exact JE (by first | rfl | (rw [h991]; exact (up_eq hUP hE (by omega) (by omega) hr9).trans (by omega)) | omega) hI1))
                   · first
                     | exact absurd d_9 (by omega)
                     | (refine b_X4_upperBit_13  ?_
                        exact JE (by first | rfl | omega) hI))))
  · have hq2 : q < 0 ∨ 1 < q := by omega
    refine b_X3_upperBit_0  ?_
    refine s_X3_isRow (by omega) (fun r hr => ?_)
    refine b_X3_upperBit_4 (by first | omega | assumption) (fun c_4 => ?_) (fun c_4 => ?_)
    · first
      | exact absurd c_4 (by omega)
      | (refine b_X3_upperBit_11  ?_
         refine JQ.mk (by omega) ?_
         refine b_X4_upperBit_0  ?_
         refine s_X4_in (by omega) (by omega) (by omega) (fun r hr => ?_)
         refine b_X4_upperBit_6 (by first | omega | assumption) (fun d_6 => ?_) (fun d_6 => ?_)
         · first
           | exact absurd d_6 (by omega)
           | (refine b_X4_upperBit_13  ?_
              exact JE (by first | rfl | omega) hI)
         · first
           | exact absurd d_6 (by omega)
           | (refine b_X4_upperBit_9 (by first | omega | assumption) (fun d_9 => ?_) (fun d_9 => ?_)
              · first
                | exact absurd d_9 (by omega)
                | (refine b_X4_upperBit_16 (by first | omega | assumption) ?_
                   refine s_X4_lays hM hV hu9 hu11 (fun w1 hS hbits hzf hUP hzs => ?_)
                   have hM1 := hS.MR hM
                   have hmf1 := hS.mf q
                   have ha1 : al (w1 9 0) = 84 := by rw [hM1.2.1]; rfl
                   have hI1 := hS.sd.Inv hI
                   have h991 : w1 9 9 = 15 := (hS.2 9 (by decide) (by decide) (by decide) (by decide)).trans hu9
                   have ha91 : al (w1 9 9) = 4200 := by rw [h991]; rfl
                   have h9111 : w1 9 11 = 16 := (hS.2 11 (by decide) (by decide) (by decide) (by decide)).trans hu11
                   have ha111 : al (w1 9 11) = 4200 := by rw [h9111]; rfl
                   refine b_X4_upperBit_21 (by first | omega | assumption) (by first | omega | assumption) (by first | omega | assumption) (fun d_21 => ?_) (fun d_21 => ?_)
                   · first
                     | exact absurd d_21 (by omega)
                     | (refine b_X4_upperBit_38  ?_
                        refine b_X4_upperBit_40  ?_
                        exact JE (by first | rfl | (rw [h991]; exact (up_eq hUP hE (by omega) (by omega) hr9).trans (by omega)) | omega) hI)
                   · first
                     | exact absurd d_21 (by omega)
                     | (refine b_X4_upperBit_29 (by first | omega | assumption) (by first | omega | assumption) (by first | omega | assumption) ?_
                        refine b_X4_upperBit_40  ?_
                        exact JE (by first | rfl | (rw [h991]; exact (up_eq hUP hE (by omega) (by omega) hr9).trans (by omega)) | omega) hI))
              · first
                | exact absurd d_9 (by omega)
                | (refine b_X4_upperBit_13  ?_
                   exact JE (by first | rfl | omega) hI)))
    · first
      | exact absurd c_4 (by omega)
      | (refine b_X3_upperBit_7 (by first | omega | assumption) (fun c_7 => ?_) (fun c_7 => ?_)
         · first
           | exact absurd c_7 (by omega)
           | (refine b_X3_upperBit_14 (by first | omega | assumption) ?_
              refine s_X3_rowAt hra ?_
              refine b_X3_upperBit_19 (by first | omega | assumption) ?_
              refine s_X1_upperLength hR ?_
              refine b_X3_upperBit_25 (by first | omega | assumption) (by first | omega | assumption) (fun c_25 => ?_) (fun c_25 => ?_)
              · first
                | exact absurd c_25 (by omega)
                | (refine b_X3_upperBit_31 (by first | omega | assumption) ?_
                   refine s_X1_hasOneAt hR (by omega) (fun r9 hr7 => ?_)
                   have hr9 : oneAt (w (a + 1)) n b x r9 := hr7
                   clear hr7
                   have hr8 := oneAt_01 hr9
                   refine b_X3_upperBit_36 (by first | omega | assumption) (fun c_36 => ?_) (fun c_36 => ?_)
                   · first
                     | exact absurd c_36 (by omega)
                     | (refine b_X3_upperBit_43  ?_
                        refine b_X3_upperBit_44  ?_
                        refine JQ.mk (by omega) ?_
                        refine b_X4_upperBit_0  ?_
                        refine s_X4_in (by omega) (by omega) (by omega) (fun r hr => ?_)
                        refine b_X4_upperBit_6 (by first | omega | assumption) (fun d_6 => ?_) (fun d_6 => ?_)
                        · first
                          | exact absurd d_6 (by omega)
                          | (refine b_X4_upperBit_13  ?_
                             exact JE (by first | rfl | omega) hI)
                        · first
                          | exact absurd d_6 (by omega)
                          | (refine b_X4_upperBit_9 (by first | omega | assumption) (fun d_9 => ?_) (fun d_9 => ?_)
                             · first
                               | exact absurd d_9 (by omega)
                               | (refine b_X4_upperBit_16 (by first | omega | assumption) ?_
                                  refine s_X4_lays hM hV hu9 hu11 (fun w1 hS hbits hzf hUP hzs => ?_)
                                  have hM1 := hS.MR hM
                                  have hmf1 := hS.mf q
                                  have ha1 : al (w1 9 0) = 84 := by rw [hM1.2.1]; rfl
                                  have hI1 := hS.sd.Inv hI
                                  have h991 : w1 9 9 = 15 := (hS.2 9 (by decide) (by decide) (by decide) (by decide)).trans hu9
                                  have ha91 : al (w1 9 9) = 4200 := by rw [h991]; rfl
                                  have h9111 : w1 9 11 = 16 := (hS.2 11 (by decide) (by decide) (by decide) (by decide)).trans hu11
                                  have ha111 : al (w1 9 11) = 4200 := by rw [h9111]; rfl
                                  refine b_X4_upperBit_21 (by first | omega | assumption) (by first | omega | assumption) (by first | omega | assumption) (fun d_21 => ?_) (fun d_21 => ?_)
                                  · first
                                    | exact absurd d_21 (by omega)
                                    | (refine b_X4_upperBit_38  ?_
                                       refine b_X4_upperBit_40  ?_
                                       exact JE (by first | rfl | (rw [h991]; exact (up_eq hUP hE (by omega) (by omega) hr9).trans (by omega)) | omega) hI)
                                  · first
                                    | exact absurd d_21 (by omega)
                                    | (refine b_X4_upperBit_29 (by first | omega | assumption) (by first | omega | assumption) (by first | omega | assumption) ?_
                                       refine b_X4_upperBit_40  ?_
                                       exact JE (by first | rfl | (rw [h991]; exact (up_eq hUP hE (by omega) (by omega) hr9).trans (by omega)) | omega) hI))
                             · first
                               | exact absurd d_9 (by omega)
                               | (refine b_X4_upperBit_13  ?_
                                  exact JE (by first | rfl | omega) hI)))
                   · first
                     | exact absurd c_36 (by omega)
                     | (refine b_X3_upperBit_39  ?_
                        refine b_X3_upperBit_44  ?_
                        refine JQ.mk (by omega) ?_
                        refine b_X4_upperBit_0  ?_
                        refine s_X4_in (by omega) (by omega) (by omega) (fun r hr => ?_)
                        refine b_X4_upperBit_6 (by first | omega | assumption) (fun d_6 => ?_) (fun d_6 => ?_)
                        · first
                          | exact absurd d_6 (by omega)
                          | (refine b_X4_upperBit_13  ?_
                             exact JE (by first | rfl | omega) hI)
                        · first
                          | exact absurd d_6 (by omega)
                          | (refine b_X4_upperBit_9 (by first | omega | assumption) (fun d_9 => ?_) (fun d_9 => ?_)
                             · first
                               | exact absurd d_9 (by omega)
                               | (refine b_X4_upperBit_16 (by first | omega | assumption) ?_
                                  refine s_X4_lays hM hV hu9 hu11 (fun w1 hS hbits hzf hUP hzs => ?_)
                                  have hM1 := hS.MR hM
                                  have hmf1 := hS.mf q
                                  have ha1 : al (w1 9 0) = 84 := by rw [hM1.2.1]; rfl
                                  have hI1 := hS.sd.Inv hI
                                  have h991 : w1 9 9 = 15 := (hS.2 9 (by decide) (by decide) (by decide) (by decide)).trans hu9
                                  have ha91 : al (w1 9 9) = 4200 := by rw [h991]; rfl
                                  have h9111 : w1 9 11 = 16 := (hS.2 11 (by decide) (by decide) (by decide) (by decide)).trans hu11
                                  have ha111 : al (w1 9 11) = 4200 := by rw [h9111]; rfl
                                  refine b_X4_upperBit_21 (by first | omega | assumption) (by first | omega | assumption) (by first | omega | assumption) (fun d_21 => ?_) (fun d_21 => ?_)
                                  · first
                                    | exact absurd d_21 (by omega)
                                    | (refine b_X4_upperBit_38  ?_
                                       refine b_X4_upperBit_40  ?_
                                       exact JE (by first | rfl | (rw [h991]; exact (up_eq hUP hE (by omega) (by omega) hr9).trans (by omega)) | omega) hI)
                                  · first
                                    | exact absurd d_21 (by omega)
                                    | (refine b_X4_upperBit_29 (by first | omega | assumption) (by first | omega | assumption) (by first | omega | assumption) ?_
                                       refine b_X4_upperBit_40  ?_
                                       exact JE (by first | rfl | (rw [h991]; exact (up_eq hUP hE (by omega) (by omega) hr9).trans (by omega)) | omega) hI))
                             · first
                               | exact absurd d_9 (by omega)
                               | (refine b_X4_upperBit_13  ?_
                                  exact JE (by first | rfl | omega) hI))))
              · first
                | exact absurd c_25 (by omega)
                | (refine b_X3_upperBit_28  ?_
                   refine JQ.mk (by omega) ?_
                   refine b_X4_upperBit_0  ?_
                   refine s_X4_in (by omega) (by omega) (by omega) (fun r hr => ?_)
                   refine b_X4_upperBit_6 (by first | omega | assumption) (fun d_6 => ?_) (fun d_6 => ?_)
                   · first
                     | exact absurd d_6 (by omega)
                     | (refine b_X4_upperBit_13  ?_
                        exact JE (by first | rfl | omega) hI)
                   · first
                     | exact absurd d_6 (by omega)
                     | (refine b_X4_upperBit_9 (by first | omega | assumption) (fun d_9 => ?_) (fun d_9 => ?_)
                        · first
                          | exact absurd d_9 (by omega)
                          | (refine b_X4_upperBit_16 (by first | omega | assumption) ?_
                             refine s_X4_lays hM hV hu9 hu11 (fun w1 hS hbits hzf hUP hzs => ?_)
                             have hM1 := hS.MR hM
                             have hmf1 := hS.mf q
                             have ha1 : al (w1 9 0) = 84 := by rw [hM1.2.1]; rfl
                             have hI1 := hS.sd.Inv hI
                             have h991 : w1 9 9 = 15 := (hS.2 9 (by decide) (by decide) (by decide) (by decide)).trans hu9
                             have ha91 : al (w1 9 9) = 4200 := by rw [h991]; rfl
                             have h9111 : w1 9 11 = 16 := (hS.2 11 (by decide) (by decide) (by decide) (by decide)).trans hu11
                             have ha111 : al (w1 9 11) = 4200 := by rw [h9111]; rfl
                             refine b_X4_upperBit_21 (by first | omega | assumption) (by first | omega | assumption) (by first | omega | assumption) (fun d_21 => ?_) (fun d_21 => ?_)
                             · first
                               | exact absurd d_21 (by omega)
                               | (refine b_X4_upperBit_38  ?_
                                  refine b_X4_upperBit_40  ?_
                                  exact JE (by first | rfl | (rw [h991]; exact (up_eq hUP hE (by omega) (by omega) hr9).trans (by omega)) | omega) hI)
                             · first
                               | exact absurd d_21 (by omega)
                               | (refine b_X4_upperBit_29 (by first | omega | assumption) (by first | omega | assumption) (by first | omega | assumption) ?_
                                  refine b_X4_upperBit_40  ?_
                                  exact JE (by first | rfl | (rw [h991]; exact (up_eq hUP hE (by omega) (by omega) hr9).trans (by omega)) | omega) hI))
                        · first
                          | exact absurd d_9 (by omega)
                          | (refine b_X4_upperBit_13  ?_
                             exact JE (by first | rfl | omega) hI))))
         · first
           | exact absurd c_7 (by omega)
           | (refine b_X3_upperBit_11  ?_
              refine JQ.mk (by omega) ?_
              refine b_X4_upperBit_0  ?_
              refine s_X4_in (by omega) (by omega) (by omega) (fun r hr => ?_)
              refine b_X4_upperBit_6 (by first | omega | assumption) (fun d_6 => ?_) (fun d_6 => ?_)
              · first
                | exact absurd d_6 (by omega)
                | (refine b_X4_upperBit_13  ?_
                   exact JE (by first | rfl | omega) hI)
              · first
                | exact absurd d_6 (by omega)
                | (refine b_X4_upperBit_9 (by first | omega | assumption) (fun d_9 => ?_) (fun d_9 => ?_)
                   · first
                     | exact absurd d_9 (by omega)
                     | (refine b_X4_upperBit_16 (by first | omega | assumption) ?_
                        refine s_X4_lays hM hV hu9 hu11 (fun w1 hS hbits hzf hUP hzs => ?_)
                        have hM1 := hS.MR hM
                        have hmf1 := hS.mf q
                        have ha1 : al (w1 9 0) = 84 := by rw [hM1.2.1]; rfl
                        have hI1 := hS.sd.Inv hI
                        have h991 : w1 9 9 = 15 := (hS.2 9 (by decide) (by decide) (by decide) (by decide)).trans hu9
                        have ha91 : al (w1 9 9) = 4200 := by rw [h991]; rfl
                        have h9111 : w1 9 11 = 16 := (hS.2 11 (by decide) (by decide) (by decide) (by decide)).trans hu11
                        have ha111 : al (w1 9 11) = 4200 := by rw [h9111]; rfl
                        refine b_X4_upperBit_21 (by first | omega | assumption) (by first | omega | assumption) (by first | omega | assumption) (fun d_21 => ?_) (fun d_21 => ?_)
                        · first
                          | exact absurd d_21 (by omega)
                          | (refine b_X4_upperBit_38  ?_
                             refine b_X4_upperBit_40  ?_
                             exact JE (by first | rfl | (rw [h991]; exact (up_eq hUP hE (by omega) (by omega) hr9).trans (by omega)) | omega) hI)
                        · first
                          | exact absurd d_21 (by omega)
                          | (refine b_X4_upperBit_29 (by first | omega | assumption) (by first | omega | assumption) (by first | omega | assumption) ?_
                             refine b_X4_upperBit_40  ?_
                             exact JE (by first | rfl | (rw [h991]; exact (up_eq hUP hE (by omega) (by omega) hr9).trans (by omega)) | omega) hI))
                   · first
                     | exact absurd d_9 (by omega)
                     | (refine b_X4_upperBit_13  ?_
                        exact JE (by first | rfl | omega) hI))))

theorem j_partOf {w : rW} {q x y : Int} (hI : Inv w) (hqr : R32 q) (hxr : R32 x) (hyr : R32 y) : WP M_X3_partOf 0 [vr 0, vi q, vi x, vi y, vu, vu] [] w (JQ M_X4_partOf [vr 9, vi q, vi x, vi y]) := by
  have ho0 : oc 0 = 3 := rfl
  have ho9 : oc 9 = 4 := rfl
  by_cases hq : q = 0 ∨ q = 1
  · clear ho0
    have ho0 : oc 0 = 3 := rfl
    obtain ⟨a, n, b, hra, hR, hM, hV, hE⟩ := hI.row hq
    obtain ⟨h, hb0, hb1, hb2⟩ := id hR
    obtain ⟨ha13, ho, ha1, h0, h1, hn0, hn4, hv⟩ := id h
    have hn : 0 ≤ n ∧ n ≤ 40 := ⟨hn0, hn4⟩
    have hb : 1 ≤ b ∧ b ≤ 4096 := ⟨by omega, hb2⟩
    have hwb := wd_bd hn.1 hb.2
    have hpw := p2_w hn.1 hb.2
    have hub := ub_bd hn hb
    have hzb := zf_bd hn.1 hb.1 hb.2
    have hsz := szf_bd hn hb
    have hun := unl_bd (f := w (a + 1)) hn0
    have hu9 : w 9 9 = 15 := hI.1.2.2.2.2.2.2.2.2.2.1
    have hu11 : w 9 11 = 16 := hI.1.2.2.2.2.2.2.2.2.2.2.1
    have ha0 : al (w 9 0) = 84 := by rw [hM.2.1]; rfl
    have hbm : w (w 9 0) (42 * q + 1) = b := by rw [hM.2.1]; exact hM.2.2.2.1
    refine b_X3_partOf_0  ?_
    refine s_X3_isRow (by omega) (fun r hr => ?_)
    refine b_X3_partOf_4 (by first | omega | assumption) (fun c_4 => ?_) (fun c_4 => ?_)
    · first
      | exact absurd c_4 (by omega)
      | (refine b_X3_partOf_20  ?_
         refine JQ.mk (by omega) ?_
         refine b_X4_partOf_0  ?_
         refine s_X4_in (by omega) (by omega) (by omega) (fun r hr => ?_)
         refine b_X4_partOf_6 (by first | omega | assumption) (fun d_6 => ?_) (fun d_6 => ?_)
         · first
           | exact absurd d_6 (by omega)
           | (refine b_X4_partOf_22  ?_
              exact JE (by first | rfl | omega | exact (hE x (by omega) (by omega)).symm | (rw [hE x (by omega) (by omega)]; done) | (rw [hwb.2.2, hE x (by omega) (by omega)]; done) | exact (pl_congr hE (by omega) (by omega)).symm | (rw [pl_congr hE (show 0 ≤ x by omega) (by omega), pl_congr hE (show 0 ≤ x - x % 4 by omega) (by omega), show x / 4 * 4 = x - x % 4 by omega])) hI)
         · first
           | exact absurd d_6 (by omega)
           | (refine b_X4_partOf_9 (by first | omega | assumption) (fun d_9 => ?_) (fun d_9 => ?_)
              · first
                | exact absurd d_9 (by omega)
                | (refine b_X4_partOf_22  ?_
                   exact JE (by first | rfl | omega | exact (hE x (by omega) (by omega)).symm | (rw [hE x (by omega) (by omega)]; done) | (rw [hwb.2.2, hE x (by omega) (by omega)]; done) | exact (pl_congr hE (by omega) (by omega)).symm | (rw [pl_congr hE (show 0 ≤ x by omega) (by omega), pl_congr hE (show 0 ≤ x - x % 4 by omega) (by omega), show x / 4 * 4 = x - x % 4 by omega])) hI)
              · first
                | exact absurd d_9 (by omega)
                | (refine b_X4_partOf_13  ?_
                   refine s_X4_in (by omega) (by omega) (by omega) (fun r hr => ?_)
                   refine b_X4_partOf_19 (by first | omega | assumption) (fun d_19 => ?_) (fun d_19 => ?_)
                   · first
                     | exact absurd d_19 (by omega)
                     | (refine b_X4_partOf_25 (by first | omega | assumption) ?_
                        refine s_X4_many hM ?_
                        refine b_X4_partOf_31 (by first | omega | assumption) (by first | omega | assumption) (fun d_31 => ?_) (fun d_31 => ?_)
                        · first
                          | exact absurd d_31 (by omega)
                          | (refine b_X4_partOf_37 (by first | omega | assumption) (fun d_37 => ?_) (fun d_37 => ?_) (fun d_37 => ?_) (fun d_37 => ?_) (fun d_37 => ?_)
                             · first
                               | exact absurd d_37 (by omega)
                               | (refine b_X4_partOf_68 (by first | omega | assumption) ?_
                                  refine s_X4_number hM (by omega) (by omega) ?_
                                  refine b_X4_partOf_74  ?_
                                  exact JE (by first | rfl | omega | exact (hE x (by omega) (by omega)).symm | (rw [hE x (by omega) (by omega)]; done) | (rw [hwb.2.2, hE x (by omega) (by omega)]; done) | exact (pl_congr hE (by omega) (by omega)).symm | (rw [pl_congr hE (show 0 ≤ x by omega) (by omega), pl_congr hE (show 0 ≤ x - x % 4 by omega) (by omega), show x / 4 * 4 = x - x % 4 by omega])) hI)
                             · first
                               | exact absurd d_37 (by omega)
                               | (refine b_X4_partOf_75 (by first | omega | assumption) ?_
                                  refine s_X4_number hM (by omega) (by omega) ?_
                                  have hvx2 : 0 ≤ mf w q x := (hV.1 x (by omega) (by omega)).1
                                  have hvx3 := (hV.1 x (by omega) (by omega)).2
                                  refine b_X4_partOf_81 (by first | omega | assumption) ?_
                                  refine s_X4_width hM ?_
                                  refine b_X4_partOf_86 (by first | omega | assumption) (by first | omega | assumption) (by first | omega | assumption) (by first | omega | assumption) ?_
                                  exact JE (by first | rfl | omega | exact (hE x (by omega) (by omega)).symm | (rw [hE x (by omega) (by omega)]; done) | (rw [hwb.2.2, hE x (by omega) (by omega)]; done) | exact (pl_congr hE (by omega) (by omega)).symm | (rw [pl_congr hE (show 0 ≤ x by omega) (by omega), pl_congr hE (show 0 ≤ x - x % 4 by omega) (by omega), show x / 4 * 4 = x - x % 4 by omega])) hI)
                             · first
                               | exact absurd d_37 (by omega)
                               | (refine b_X4_partOf_88 (by first | omega | assumption) ?_
                                  refine s_X4_lower hM (by omega) (by omega) ?_
                                  refine b_X4_partOf_94  ?_
                                  exact JE (by first | rfl | omega | exact (hE x (by omega) (by omega)).symm | (rw [hE x (by omega) (by omega)]; done) | (rw [hwb.2.2, hE x (by omega) (by omega)]; done) | exact (pl_congr hE (by omega) (by omega)).symm | (rw [pl_congr hE (show 0 ≤ x by omega) (by omega), pl_congr hE (show 0 ≤ x - x % 4 by omega) (by omega), show x / 4 * 4 = x - x % 4 by omega])) hI)
                             · first
                               | exact absurd d_37 (by omega)
                               | (refine b_X4_partOf_95 (by first | omega | assumption) ?_
                                  refine s_X4_placeOf hM (by omega) (by omega) ?_
                                  refine b_X4_partOf_101  ?_
                                  exact JE (by first | rfl | omega | exact (hE x (by omega) (by omega)).symm | (rw [hE x (by omega) (by omega)]; done) | (rw [hwb.2.2, hE x (by omega) (by omega)]; done) | exact (pl_congr hE (by omega) (by omega)).symm | (rw [pl_congr hE (show 0 ≤ x by omega) (by omega), pl_congr hE (show 0 ≤ x - x % 4 by omega) (by omega), show x / 4 * 4 = x - x % 4 by omega])) hI)
                             · first
                               | exact absurd d_37 (by omega)
                               | (refine b_X4_partOf_102 (by first | omega | assumption) ?_
                                  refine s_X4_placeOf hM (by omega) (by omega) ?_
                                  refine b_X4_partOf_108 (by first | omega | assumption) (by first | omega | assumption) (by first | omega | assumption) ?_
                                  refine s_X4_placeOf hM (by omega) (by omega) ?_
                                  refine b_X4_partOf_118  ?_
                                  exact JE (by first | rfl | omega | exact (hE x (by omega) (by omega)).symm | (rw [hE x (by omega) (by omega)]; done) | (rw [hwb.2.2, hE x (by omega) (by omega)]; done) | exact (pl_congr hE (by omega) (by omega)).symm | (rw [pl_congr hE (show 0 ≤ x by omega) (by omega), pl_congr hE (show 0 ≤ x - x % 4 by omega) (by omega), show x / 4 * 4 = x - x % 4 by omega])) hI))
                        · first
                          | exact absurd d_31 (by omega)
                          | (refine b_X4_partOf_34  ?_
                             exact JE (by first | rfl | omega | exact (hE x (by omega) (by omega)).symm | (rw [hE x (by omega) (by omega)]; done) | (rw [hwb.2.2, hE x (by omega) (by omega)]; done) | exact (pl_congr hE (by omega) (by omega)).symm | (rw [pl_congr hE (show 0 ≤ x by omega) (by omega), pl_congr hE (show 0 ≤ x - x % 4 by omega) (by omega), show x / 4 * 4 = x - x % 4 by omega])) hI))
                   · first
                     | exact absurd d_19 (by omega)
                     | (refine b_X4_partOf_22  ?_
                        exact JE (by first | rfl | omega | exact (hE x (by omega) (by omega)).symm | (rw [hE x (by omega) (by omega)]; done) | (rw [hwb.2.2, hE x (by omega) (by omega)]; done) | exact (pl_congr hE (by omega) (by omega)).symm | (rw [pl_congr hE (show 0 ≤ x by omega) (by omega), pl_congr hE (show 0 ≤ x - x % 4 by omega) (by omega), show x / 4 * 4 = x - x % 4 by omega])) hI))))
    · first
      | exact absurd c_4 (by omega)
      | (refine b_X3_partOf_7 (by first | omega | assumption) (fun c_7 => ?_) (fun c_7 => ?_)
         · first
           | exact absurd c_7 (by omega)
           | (refine b_X3_partOf_20  ?_
              refine JQ.mk (by omega) ?_
              refine b_X4_partOf_0  ?_
              refine s_X4_in (by omega) (by omega) (by omega) (fun r hr => ?_)
              refine b_X4_partOf_6 (by first | omega | assumption) (fun d_6 => ?_) (fun d_6 => ?_)
              · first
                | exact absurd d_6 (by omega)
                | (refine b_X4_partOf_22  ?_
                   exact JE (by first | rfl | omega | exact (hE x (by omega) (by omega)).symm | (rw [hE x (by omega) (by omega)]; done) | (rw [hwb.2.2, hE x (by omega) (by omega)]; done) | exact (pl_congr hE (by omega) (by omega)).symm | (rw [pl_congr hE (show 0 ≤ x by omega) (by omega), pl_congr hE (show 0 ≤ x - x % 4 by omega) (by omega), show x / 4 * 4 = x - x % 4 by omega])) hI)
              · first
                | exact absurd d_6 (by omega)
                | (refine b_X4_partOf_9 (by first | omega | assumption) (fun d_9 => ?_) (fun d_9 => ?_)
                   · first
                     | exact absurd d_9 (by omega)
                     | (refine b_X4_partOf_22  ?_
                        exact JE (by first | rfl | omega | exact (hE x (by omega) (by omega)).symm | (rw [hE x (by omega) (by omega)]; done) | (rw [hwb.2.2, hE x (by omega) (by omega)]; done) | exact (pl_congr hE (by omega) (by omega)).symm | (rw [pl_congr hE (show 0 ≤ x by omega) (by omega), pl_congr hE (show 0 ≤ x - x % 4 by omega) (by omega), show x / 4 * 4 = x - x % 4 by omega])) hI)
                   · first
                     | exact absurd d_9 (by omega)
                     | (refine b_X4_partOf_13  ?_
                        refine s_X4_in (by omega) (by omega) (by omega) (fun r hr => ?_)
                        refine b_X4_partOf_19 (by first | omega | assumption) (fun d_19 => ?_) (fun d_19 => ?_)
                        · first
                          | exact absurd d_19 (by omega)
                          | (refine b_X4_partOf_25 (by first | omega | assumption) ?_
                             refine s_X4_many hM ?_
                             refine b_X4_partOf_31 (by first | omega | assumption) (by first | omega | assumption) (fun d_31 => ?_) (fun d_31 => ?_)
                             · first
                               | exact absurd d_31 (by omega)
                               | (refine b_X4_partOf_37 (by first | omega | assumption) (fun d_37 => ?_) (fun d_37 => ?_) (fun d_37 => ?_) (fun d_37 => ?_) (fun d_37 => ?_)
                                  · first
                                    | exact absurd d_37 (by omega)
                                    | (refine b_X4_partOf_68 (by first | omega | assumption) ?_
                                       refine s_X4_number hM (by omega) (by omega) ?_
                                       refine b_X4_partOf_74  ?_
                                       exact JE (by first | rfl | omega | exact (hE x (by omega) (by omega)).symm | (rw [hE x (by omega) (by omega)]; done) | (rw [hwb.2.2, hE x (by omega) (by omega)]; done) | exact (pl_congr hE (by omega) (by omega)).symm | (rw [pl_congr hE (show 0 ≤ x by omega) (by omega), pl_congr hE (show 0 ≤ x - x % 4 by omega) (by omega), show x / 4 * 4 = x - x % 4 by omega])) hI)
                                  · first
                                    | exact absurd d_37 (by omega)
                                    | (refine b_X4_partOf_75 (by first | omega | assumption) ?_
                                       refine s_X4_number hM (by omega) (by omega) ?_
                                       have hvx2 : 0 ≤ mf w q x := (hV.1 x (by omega) (by omega)).1
                                       have hvx3 := (hV.1 x (by omega) (by omega)).2
                                       refine b_X4_partOf_81 (by first | omega | assumption) ?_
                                       refine s_X4_width hM ?_
                                       refine b_X4_partOf_86 (by first | omega | assumption) (by first | omega | assumption) (by first | omega | assumption) (by first | omega | assumption) ?_
                                       exact JE (by first | rfl | omega | exact (hE x (by omega) (by omega)).symm | (rw [hE x (by omega) (by omega)]; done) | (rw [hwb.2.2, hE x (by omega) (by omega)]; done) | exact (pl_congr hE (by omega) (by omega)).symm | (rw [pl_congr hE (show 0 ≤ x by omega) (by omega), pl_congr hE (show 0 ≤ x - x % 4 by omega) (by omega), show x / 4 * 4 = x - x % 4 by omega])) hI)
                                  · first
                                    | exact absurd d_37 (by omega)
                                    | (refine b_X4_partOf_88 (by first | omega | assumption) ?_
                                       refine s_X4_lower hM (by omega) (by omega) ?_
                                       refine b_X4_partOf_94  ?_
                                       exact JE (by first | rfl | omega | exact (hE x (by omega) (by omega)).symm | (rw [hE x (by omega) (by omega)]; done) | (rw [hwb.2.2, hE x (by omega) (by omega)]; done) | exact (pl_congr hE (by omega) (by omega)).symm | (rw [pl_congr hE (show 0 ≤ x by omega) (by omega), pl_congr hE (show 0 ≤ x - x % 4 by omega) (by omega), show x / 4 * 4 = x - x % 4 by omega])) hI)
                                  · first
                                    | exact absurd d_37 (by omega)
                                    | (refine b_X4_partOf_95 (by first | omega | assumption) ?_
                                       refine s_X4_placeOf hM (by omega) (by omega) ?_
                                       refine b_X4_partOf_101  ?_
                                       exact JE (by first | rfl | omega | exact (hE x (by omega) (by omega)).symm | (rw [hE x (by omega) (by omega)]; done) | (rw [hwb.2.2, hE x (by omega) (by omega)]; done) | exact (pl_congr hE (by omega) (by omega)).symm | (rw [pl_congr hE (show 0 ≤ x by omega) (by omega), pl_congr hE (show 0 ≤ x - x % 4 by omega) (by omega), show x / 4 * 4 = x - x % 4 by omega])) hI)
                                  · first
                                    | exact absurd d_37 (by omega)
                                    | (refine b_X4_partOf_102 (by first | omega | assumption) ?_
                                       refine s_X4_placeOf hM (by omega) (by omega) ?_
                                       refine b_X4_partOf_108 (by first | omega | assumption) (by first | omega | assumption) (by first | omega | assumption) ?_
                                       refine s_X4_placeOf hM (by omega) (by omega) ?_
                                       refine b_X4_partOf_118  ?_
                                       exact JE (by first | rfl | omega | exact (hE x (by omega) (by omega)).symm | (rw [hE x (by omega) (by omega)]; done) | (rw [hwb.2.2, hE x (by omega) (by omega)]; done) | exact (pl_congr hE (by omega) (by omega)).symm | (rw [pl_congr hE (show 0 ≤ x by omega) (by omega), pl_congr hE (show 0 ≤ x - x % 4 by omega) (by omega), show x / 4 * 4 = x - x % 4 by omega])) hI))
                             · first
                               | exact absurd d_31 (by omega)
                               | (refine b_X4_partOf_34  ?_
                                  exact JE (by first | rfl | omega | exact (hE x (by omega) (by omega)).symm | (rw [hE x (by omega) (by omega)]; done) | (rw [hwb.2.2, hE x (by omega) (by omega)]; done) | exact (pl_congr hE (by omega) (by omega)).symm | (rw [pl_congr hE (show 0 ≤ x by omega) (by omega), pl_congr hE (show 0 ≤ x - x % 4 by omega) (by omega), show x / 4 * 4 = x - x % 4 by omega])) hI))
                        · first
                          | exact absurd d_19 (by omega)
                          | (refine b_X4_partOf_22  ?_
                             exact JE (by first | rfl | omega | exact (hE x (by omega) (by omega)).symm | (rw [hE x (by omega) (by omega)]; done) | (rw [hwb.2.2, hE x (by omega) (by omega)]; done) | exact (pl_congr hE (by omega) (by omega)).symm | (rw [pl_congr hE (show 0 ≤ x by omega) (by omega), pl_congr hE (show 0 ≤ x - x % 4 by omega) (by omega), show x / 4 * 4 = x - x % 4 by omega])) hI))))
         · first
           | exact absurd c_7 (by omega)
           | (refine b_X3_partOf_11  ?_
              refine s_X3_isWithin (by omega) (by omega) (by omega) (fun r hr => ?_)
              refine b_X3_partOf_17 (by first | omega | assumption) (fun c_17 => ?_) (fun c_17 => ?_)
              · first
                | exact absurd c_17 (by omega)
                | (refine b_X3_partOf_23 (by first | omega | assumption) ?_
                   refine s_X3_rowAt hra ?_
                   refine b_X3_partOf_28 (by first | omega | assumption) (by first | omega | assumption) (by first | omega | assumption) (fun c_28 => ?_) (fun c_28 => ?_)
                   · first
                     | exact absurd c_28 (by omega)
                     | (refine b_X3_partOf_42 (by first | omega | assumption) ?_
                        refine s_X1_numberIn h (by omega) (by omega) ?_
                        have hvx := hv x (by omega) (by omega)
                        refine b_X3_partOf_48 (by first | omega | assumption) (fun c_48 => ?_) (fun c_48 => ?_) (fun c_48 => ?_) (fun c_48 => ?_) (fun c_48 => ?_)
                        · first
                          | exact absurd c_48 (by omega)
                          | (skip
                             refine b_X3_partOf_80  ?_
                             refine JQ.mk (by omega) ?_
                             refine b_X4_partOf_0  ?_
                             refine s_X4_in (by omega) (by omega) (by omega) (fun r hr => ?_)
                             refine b_X4_partOf_6 (by first | omega | assumption) (fun d_6 => ?_) (fun d_6 => ?_)
                             · first
                               | exact absurd d_6 (by omega)
                               | (refine b_X4_partOf_22  ?_
                                  exact JE (by first | rfl | omega | exact (hE x (by omega) (by omega)).symm | (rw [hE x (by omega) (by omega)]; done) | (rw [hwb.2.2, hE x (by omega) (by omega)]; done) | exact (pl_congr hE (by omega) (by omega)).symm | (rw [pl_congr hE (show 0 ≤ x by omega) (by omega), pl_congr hE (show 0 ≤ x - x % 4 by omega) (by omega), show x / 4 * 4 = x - x % 4 by omega])) hI)
                             · first
                               | exact absurd d_6 (by omega)
                               | (refine b_X4_partOf_9 (by first | omega | assumption) (fun d_9 => ?_) (fun d_9 => ?_)
                                  · first
                                    | exact absurd d_9 (by omega)
                                    | (refine b_X4_partOf_22  ?_
                                       exact JE (by first | rfl | omega | exact (hE x (by omega) (by omega)).symm | (rw [hE x (by omega) (by omega)]; done) | (rw [hwb.2.2, hE x (by omega) (by omega)]; done) | exact (pl_congr hE (by omega) (by omega)).symm | (rw [pl_congr hE (show 0 ≤ x by omega) (by omega), pl_congr hE (show 0 ≤ x - x % 4 by omega) (by omega), show x / 4 * 4 = x - x % 4 by omega])) hI)
                                  · first
                                    | exact absurd d_9 (by omega)
                                    | (refine b_X4_partOf_13  ?_
                                       refine s_X4_in (by omega) (by omega) (by omega) (fun r hr => ?_)
                                       refine b_X4_partOf_19 (by first | omega | assumption) (fun d_19 => ?_) (fun d_19 => ?_)
                                       · first
                                         | exact absurd d_19 (by omega)
                                         | (refine b_X4_partOf_25 (by first | omega | assumption) ?_
                                            refine s_X4_many hM ?_
                                            refine b_X4_partOf_31 (by first | omega | assumption) (by first | omega | assumption) (fun d_31 => ?_) (fun d_31 => ?_)
                                            · first
                                              | exact absurd d_31 (by omega)
                                              | (refine b_X4_partOf_37 (by first | omega | assumption) (fun d_37 => ?_) (fun d_37 => ?_) (fun d_37 => ?_) (fun d_37 => ?_) (fun d_37 => ?_)
                                                 · first
                                                   | exact absurd d_37 (by omega)
                                                   | (refine b_X4_partOf_68 (by first | omega | assumption) ?_
                                                      refine s_X4_number hM (by omega) (by omega) ?_
                                                      refine b_X4_partOf_74  ?_
                                                      exact JE (by first | rfl | omega | exact (hE x (by omega) (by omega)).symm | (rw [hE x (by omega) (by omega)]; done) | (rw [hwb.2.2, hE x (by omega) (by omega)]; done) | exact (pl_congr hE (by omega) (by omega)).symm | (rw [pl_congr hE (show 0 ≤ x by omega) (by omega), pl_congr hE (show 0 ≤ x - x % 4 by omega) (by omega), show x / 4 * 4 = x - x % 4 by omega])) hI)
                                                 · first
                                                   | exact absurd d_37 (by omega)
                                                   | (refine b_X4_partOf_75 (by first | omega | assumption) ?_
                                                      refine s_X4_number hM (by omega) (by omega) ?_
                                                      have hvx2 : 0 ≤ mf w q x := (hV.1 x (by omega) (by omega)).1
                                                      have hvx3 := (hV.1 x (by omega) (by omega)).2
                                                      refine b_X4_partOf_81 (by first | omega | assumption) ?_
                                                      refine s_X4_width hM ?_
                                                      refine b_X4_partOf_86 (by first | omega | assumption) (by first | omega | assumption) (by first | omega | assumption) (by first | omega | assumption) ?_
                                                      exact JE (by first | rfl | omega | exact (hE x (by omega) (by omega)).symm | (rw [hE x (by omega) (by omega)]; done) | (rw [hwb.2.2, hE x (by omega) (by omega)]; done) | exact (pl_congr hE (by omega) (by omega)).symm | (rw [pl_congr hE (show 0 ≤ x by omega) (by omega), pl_congr hE (show 0 ≤ x - x % 4 by omega) (by omega), show x / 4 * 4 = x - x % 4 by omega])) hI)
                                                 · first
                                                   | exact absurd d_37 (by omega)
                                                   | (refine b_X4_partOf_88 (by first | omega | assumption) ?_
                                                      refine s_X4_lower hM (by omega) (by omega) ?_
                                                      refine b_X4_partOf_94  ?_
                                                      exact JE (by first | rfl | omega | exact (hE x (by omega) (by omega)).symm | (rw [hE x (by omega) (by omega)]; done) | (rw [hwb.2.2, hE x (by omega) (by omega)]; done) | exact (pl_congr hE (by omega) (by omega)).symm | (rw [pl_congr hE (show 0 ≤ x by omega) (by omega), pl_congr hE (show 0 ≤ x - x % 4 by omega) (by omega), show x / 4 * 4 = x - x % 4 by omega])) hI)
                                                 · first
                                                   | exact absurd d_37 (by omega)
                                                   | (refine b_X4_partOf_95 (by first | omega | assumption) ?_
                                                      refine s_X4_placeOf hM (by omega) (by omega) ?_
                                                      refine b_X4_partOf_101  ?_
                                                      exact JE (by first | rfl | omega | exact (hE x (by omega) (by omega)).symm | (rw [hE x (by omega) (by omega)]; done) | (rw [hwb.2.2, hE x (by omega) (by omega)]; done) | exact (pl_congr hE (by omega) (by omega)).symm | (rw [pl_congr hE (show 0 ≤ x by omega) (by omega), pl_congr hE (show 0 ≤ x - x % 4 by omega) (by omega), show x / 4 * 4 = x - x % 4 by omega])) hI)
                                                 · first
                                                   | exact absurd d_37 (by omega)
                                                   | (refine b_X4_partOf_102 (by first | omega | assumption) ?_
                                                      refine s_X4_placeOf hM (by omega) (by omega) ?_
                                                      refine b_X4_partOf_108 (by first | omega | assumption) (by first | omega | assumption) (by first | omega | assumption) ?_
                                                      refine s_X4_placeOf hM (by omega) (by omega) ?_
                                                      refine b_X4_partOf_118  ?_
                                                      exact JE (by first | rfl | omega | exact (hE x (by omega) (by omega)).symm | (rw [hE x (by omega) (by omega)]; done) | (rw [hwb.2.2, hE x (by omega) (by omega)]; done) | exact (pl_congr hE (by omega) (by omega)).symm | (rw [pl_congr hE (show 0 ≤ x by omega) (by omega), pl_congr hE (show 0 ≤ x - x % 4 by omega) (by omega), show x / 4 * 4 = x - x % 4 by omega])) hI))
                                            · first
                                              | exact absurd d_31 (by omega)
                                              | (refine b_X4_partOf_34  ?_
                                                 exact JE (by first | rfl | omega | exact (hE x (by omega) (by omega)).symm | (rw [hE x (by omega) (by omega)]; done) | (rw [hwb.2.2, hE x (by omega) (by omega)]; done) | exact (pl_congr hE (by omega) (by omega)).symm | (rw [pl_congr hE (show 0 ≤ x by omega) (by omega), pl_congr hE (show 0 ≤ x - x % 4 by omega) (by omega), show x / 4 * 4 = x - x % 4 by omega])) hI))
                                       · first
                                         | exact absurd d_19 (by omega)
                                         | (refine b_X4_partOf_22  ?_
                                            exact JE (by first | rfl | omega | exact (hE x (by omega) (by omega)).symm | (rw [hE x (by omega) (by omega)]; done) | (rw [hwb.2.2, hE x (by omega) (by omega)]; done) | exact (pl_congr hE (by omega) (by omega)).symm | (rw [pl_congr hE (show 0 ≤ x by omega) (by omega), pl_congr hE (show 0 ≤ x - x % 4 by omega) (by omega), show x / 4 * 4 = x - x % 4 by omega])) hI))))
                        · first
                          | exact absurd c_48 (by omega)
                          | (refine b_X3_partOf_83 (by first | omega | assumption) ?_
                             refine s_X1_upperPart hR (by omega) ?_
                             have hvd := dvp (k := wdn n b) (show 0 ≤ w (a + 1) x by omega)
                             refine b_X3_partOf_90  ?_
                             refine JQ.mk (by omega) ?_
                             refine b_X4_partOf_0  ?_
                             refine s_X4_in (by omega) (by omega) (by omega) (fun r hr => ?_)
                             refine b_X4_partOf_6 (by first | omega | assumption) (fun d_6 => ?_) (fun d_6 => ?_)
                             · first
                               | exact absurd d_6 (by omega)
                               | (refine b_X4_partOf_22  ?_
                                  exact JE (by first | rfl | omega | exact (hE x (by omega) (by omega)).symm | (rw [hE x (by omega) (by omega)]; done) | (rw [hwb.2.2, hE x (by omega) (by omega)]; done) | exact (pl_congr hE (by omega) (by omega)).symm | (rw [pl_congr hE (show 0 ≤ x by omega) (by omega), pl_congr hE (show 0 ≤ x - x % 4 by omega) (by omega), show x / 4 * 4 = x - x % 4 by omega])) hI)
                             · first
                               | exact absurd d_6 (by omega)
                               | (refine b_X4_partOf_9 (by first | omega | assumption) (fun d_9 => ?_) (fun d_9 => ?_)
                                  · first
                                    | exact absurd d_9 (by omega)
                                    | (refine b_X4_partOf_22  ?_
                                       exact JE (by first | rfl | omega | exact (hE x (by omega) (by omega)).symm | (rw [hE x (by omega) (by omega)]; done) | (rw [hwb.2.2, hE x (by omega) (by omega)]; done) | exact (pl_congr hE (by omega) (by omega)).symm | (rw [pl_congr hE (show 0 ≤ x by omega) (by omega), pl_congr hE (show 0 ≤ x - x % 4 by omega) (by omega), show x / 4 * 4 = x - x % 4 by omega])) hI)
                                  · first
                                    | exact absurd d_9 (by omega)
                                    | (refine b_X4_partOf_13  ?_
                                       refine s_X4_in (by omega) (by omega) (by omega) (fun r hr => ?_)
                                       refine b_X4_partOf_19 (by first | omega | assumption) (fun d_19 => ?_) (fun d_19 => ?_)
                                       · first
                                         | exact absurd d_19 (by omega)
                                         | (refine b_X4_partOf_25 (by first | omega | assumption) ?_
                                            refine s_X4_many hM ?_
                                            refine b_X4_partOf_31 (by first | omega | assumption) (by first | omega | assumption) (fun d_31 => ?_) (fun d_31 => ?_)
                                            · first
                                              | exact absurd d_31 (by omega)
                                              | (refine b_X4_partOf_37 (by first | omega | assumption) (fun d_37 => ?_) (fun d_37 => ?_) (fun d_37 => ?_) (fun d_37 => ?_) (fun d_37 => ?_)
                                                 · first
                                                   | exact absurd d_37 (by omega)
                                                   | (refine b_X4_partOf_68 (by first | omega | assumption) ?_
                                                      refine s_X4_number hM (by omega) (by omega) ?_
                                                      refine b_X4_partOf_74  ?_
                                                      exact JE (by first | rfl | omega | exact (hE x (by omega) (by omega)).symm | (rw [hE x (by omega) (by omega)]; done) | (rw [hwb.2.2, hE x (by omega) (by omega)]; done) | exact (pl_congr hE (by omega) (by omega)).symm | (rw [pl_congr hE (show 0 ≤ x by omega) (by omega), pl_congr hE (show 0 ≤ x - x % 4 by omega) (by omega), show x / 4 * 4 = x - x % 4 by omega])) hI)
                                                 · first
                                                   | exact absurd d_37 (by omega)
                                                   | (refine b_X4_partOf_75 (by first | omega | assumption) ?_
                                                      refine s_X4_number hM (by omega) (by omega) ?_
                                                      have hvx2 : 0 ≤ mf w q x := (hV.1 x (by omega) (by omega)).1
                                                      have hvx3 := (hV.1 x (by omega) (by omega)).2
                                                      refine b_X4_partOf_81 (by first | omega | assumption) ?_
                                                      refine s_X4_width hM ?_
                                                      refine b_X4_partOf_86 (by first | omega | assumption) (by first | omega | assumption) (by first | omega | assumption) (by first | omega | assumption) ?_
                                                      exact JE (by first | rfl | omega | exact (hE x (by omega) (by omega)).symm | (rw [hE x (by omega) (by omega)]; done) | (rw [hwb.2.2, hE x (by omega) (by omega)]; done) | exact (pl_congr hE (by omega) (by omega)).symm | (rw [pl_congr hE (show 0 ≤ x by omega) (by omega), pl_congr hE (show 0 ≤ x - x % 4 by omega) (by omega), show x / 4 * 4 = x - x % 4 by omega])) hI)
                                                 · first
                                                   | exact absurd d_37 (by omega)
                                                   | (refine b_X4_partOf_88 (by first | omega | assumption) ?_
                                                      refine s_X4_lower hM (by omega) (by omega) ?_
                                                      refine b_X4_partOf_94  ?_
                                                      exact JE (by first | rfl | omega | exact (hE x (by omega) (by omega)).symm | (rw [hE x (by omega) (by omega)]; done) | (rw [hwb.2.2, hE x (by omega) (by omega)]; done) | exact (pl_congr hE (by omega) (by omega)).symm | (rw [pl_congr hE (show 0 ≤ x by omega) (by omega), pl_congr hE (show 0 ≤ x - x % 4 by omega) (by omega), show x / 4 * 4 = x - x % 4 by omega])) hI)
                                                 · first
                                                   | exact absurd d_37 (by omega)
                                                   | (refine b_X4_partOf_95 (by first | omega | assumption) ?_
                                                      refine s_X4_placeOf hM (by omega) (by omega) ?_
                                                      refine b_X4_partOf_101  ?_
                                                      exact JE (by first | rfl | omega | exact (hE x (by omega) (by omega)).symm | (rw [hE x (by omega) (by omega)]; done) | (rw [hwb.2.2, hE x (by omega) (by omega)]; done) | exact (pl_congr hE (by omega) (by omega)).symm | (rw [pl_congr hE (show 0 ≤ x by omega) (by omega), pl_congr hE (show 0 ≤ x - x % 4 by omega) (by omega), show x / 4 * 4 = x - x % 4 by omega])) hI)
                                                 · first
                                                   | exact absurd d_37 (by omega)
                                                   | (refine b_X4_partOf_102 (by first | omega | assumption) ?_
                                                      refine s_X4_placeOf hM (by omega) (by omega) ?_
                                                      refine b_X4_partOf_108 (by first | omega | assumption) (by first | omega | assumption) (by first | omega | assumption) ?_
                                                      refine s_X4_placeOf hM (by omega) (by omega) ?_
                                                      refine b_X4_partOf_118  ?_
                                                      exact JE (by first | rfl | omega | exact (hE x (by omega) (by omega)).symm | (rw [hE x (by omega) (by omega)]; done) | (rw [hwb.2.2, hE x (by omega) (by omega)]; done) | exact (pl_congr hE (by omega) (by omega)).symm | (rw [pl_congr hE (show 0 ≤ x by omega) (by omega), pl_congr hE (show 0 ≤ x - x % 4 by omega) (by omega), show x / 4 * 4 = x - x % 4 by omega])) hI))
                                            · first
                                              | exact absurd d_31 (by omega)
                                              | (refine b_X4_partOf_34  ?_
                                                 exact JE (by first | rfl | omega | exact (hE x (by omega) (by omega)).symm | (rw [hE x (by omega) (by omega)]; done) | (rw [hwb.2.2, hE x (by omega) (by omega)]; done) | exact (pl_congr hE (by omega) (by omega)).symm | (rw [pl_congr hE (show 0 ≤ x by omega) (by omega), pl_congr hE (show 0 ≤ x - x % 4 by omega) (by omega), show x / 4 * 4 = x - x % 4 by omega])) hI))
                                       · first
                                         | exact absurd d_19 (by omega)
                                         | (refine b_X4_partOf_22  ?_
                                            exact JE (by first | rfl | omega | exact (hE x (by omega) (by omega)).symm | (rw [hE x (by omega) (by omega)]; done) | (rw [hwb.2.2, hE x (by omega) (by omega)]; done) | exact (pl_congr hE (by omega) (by omega)).symm | (rw [pl_congr hE (show 0 ≤ x by omega) (by omega), pl_congr hE (show 0 ≤ x - x % 4 by omega) (by omega), show x / 4 * 4 = x - x % 4 by omega])) hI))))
                        · first
                          | exact absurd c_48 (by omega)
                          | (refine b_X3_partOf_91 (by first | omega | assumption) ?_
                             refine s_X1_lowerPart hR (by omega) ?_
                             have hem := Int.emod_nonneg (w (a + 1) x) (Int.ne_of_gt hpw.1)
                             have hem2 := Int.emod_lt_of_pos (w (a + 1) x) hpw.1
                             refine b_X3_partOf_98  ?_
                             refine JQ.mk (by omega) ?_
                             refine b_X4_partOf_0  ?_
                             refine s_X4_in (by omega) (by omega) (by omega) (fun r hr => ?_)
                             refine b_X4_partOf_6 (by first | omega | assumption) (fun d_6 => ?_) (fun d_6 => ?_)
                             · first
                               | exact absurd d_6 (by omega)
                               | (refine b_X4_partOf_22  ?_
                                  exact JE (by first | rfl | omega | exact (hE x (by omega) (by omega)).symm | (rw [hE x (by omega) (by omega)]; done) | (rw [hwb.2.2, hE x (by omega) (by omega)]; done) | exact (pl_congr hE (by omega) (by omega)).symm | (rw [pl_congr hE (show 0 ≤ x by omega) (by omega), pl_congr hE (show 0 ≤ x - x % 4 by omega) (by omega), show x / 4 * 4 = x - x % 4 by omega])) hI)
                             · first
                               | exact absurd d_6 (by omega)
                               | (refine b_X4_partOf_9 (by first | omega | assumption) (fun d_9 => ?_) (fun d_9 => ?_)
                                  · first
                                    | exact absurd d_9 (by omega)
                                    | (refine b_X4_partOf_22  ?_
                                       exact JE (by first | rfl | omega | exact (hE x (by omega) (by omega)).symm | (rw [hE x (by omega) (by omega)]; done) | (rw [hwb.2.2, hE x (by omega) (by omega)]; done) | exact (pl_congr hE (by omega) (by omega)).symm | (rw [pl_congr hE (show 0 ≤ x by omega) (by omega), pl_congr hE (show 0 ≤ x - x % 4 by omega) (by omega), show x / 4 * 4 = x - x % 4 by omega])) hI)
                                  · first
                                    | exact absurd d_9 (by omega)
                                    | (refine b_X4_partOf_13  ?_
                                       refine s_X4_in (by omega) (by omega) (by omega) (fun r hr => ?_)
                                       refine b_X4_partOf_19 (by first | omega | assumption) (fun d_19 => ?_) (fun d_19 => ?_)
                                       · first
                                         | exact absurd d_19 (by omega)
                                         | (refine b_X4_partOf_25 (by first | omega | assumption) ?_
                                            refine s_X4_many hM ?_
                                            refine b_X4_partOf_31 (by first | omega | assumption) (by first | omega | assumption) (fun d_31 => ?_) (fun d_31 => ?_)
                                            · first
                                              | exact absurd d_31 (by omega)
                                              | (refine b_X4_partOf_37 (by first | omega | assumption) (fun d_37 => ?_) (fun d_37 => ?_) (fun d_37 => ?_) (fun d_37 => ?_) (fun d_37 => ?_)
                                                 · first
                                                   | exact absurd d_37 (by omega)
                                                   | (refine b_X4_partOf_68 (by first | omega | assumption) ?_
                                                      refine s_X4_number hM (by omega) (by omega) ?_
                                                      refine b_X4_partOf_74  ?_
                                                      exact JE (by first | rfl | omega | exact (hE x (by omega) (by omega)).symm | (rw [hE x (by omega) (by omega)]; done) | (rw [hwb.2.2, hE x (by omega) (by omega)]; done) | exact (pl_congr hE (by omega) (by omega)).symm | (rw [pl_congr hE (show 0 ≤ x by omega) (by omega), pl_congr hE (show 0 ≤ x - x % 4 by omega) (by omega), show x / 4 * 4 = x - x % 4 by omega])) hI)
                                                 · first
                                                   | exact absurd d_37 (by omega)
                                                   | (refine b_X4_partOf_75 (by first | omega | assumption) ?_
                                                      refine s_X4_number hM (by omega) (by omega) ?_
                                                      have hvx2 : 0 ≤ mf w q x := (hV.1 x (by omega) (by omega)).1
                                                      have hvx3 := (hV.1 x (by omega) (by omega)).2
                                                      refine b_X4_partOf_81 (by first | omega | assumption) ?_
                                                      refine s_X4_width hM ?_
                                                      refine b_X4_partOf_86 (by first | omega | assumption) (by first | omega | assumption) (by first | omega | assumption) (by first | omega | assumption) ?_
                                                      exact JE (by first | rfl | omega | exact (hE x (by omega) (by omega)).symm | (rw [hE x (by omega) (by omega)]; done) | (rw [hwb.2.2, hE x (by omega) (by omega)]; done) | exact (pl_congr hE (by omega) (by omega)).symm | (rw [pl_congr hE (show 0 ≤ x by omega) (by omega), pl_congr hE (show 0 ≤ x - x % 4 by omega) (by omega), show x / 4 * 4 = x - x % 4 by omega])) hI)
                                                 · first
                                                   | exact absurd d_37 (by omega)
                                                   | (refine b_X4_partOf_88 (by first | omega | assumption) ?_
                                                      refine s_X4_lower hM (by omega) (by omega) ?_
                                                      refine b_X4_partOf_94  ?_
                                                      exact JE (by first | rfl | omega | exact (hE x (by omega) (by omega)).symm | (rw [hE x (by omega) (by omega)]; done) | (rw [hwb.2.2, hE x (by omega) (by omega)]; done) | exact (pl_congr hE (by omega) (by omega)).symm | (rw [pl_congr hE (show 0 ≤ x by omega) (by omega), pl_congr hE (show 0 ≤ x - x % 4 by omega) (by omega), show x / 4 * 4 = x - x % 4 by omega])) hI)
                                                 · first
                                                   | exact absurd d_37 (by omega)
                                                   | (refine b_X4_partOf_95 (by first | omega | assumption) ?_
                                                      refine s_X4_placeOf hM (by omega) (by omega) ?_
                                                      refine b_X4_partOf_101  ?_
                                                      exact JE (by first | rfl | omega | exact (hE x (by omega) (by omega)).symm | (rw [hE x (by omega) (by omega)]; done) | (rw [hwb.2.2, hE x (by omega) (by omega)]; done) | exact (pl_congr hE (by omega) (by omega)).symm | (rw [pl_congr hE (show 0 ≤ x by omega) (by omega), pl_congr hE (show 0 ≤ x - x % 4 by omega) (by omega), show x / 4 * 4 = x - x % 4 by omega])) hI)
                                                 · first
                                                   | exact absurd d_37 (by omega)
                                                   | (refine b_X4_partOf_102 (by first | omega | assumption) ?_
                                                      refine s_X4_placeOf hM (by omega) (by omega) ?_
                                                      refine b_X4_partOf_108 (by first | omega | assumption) (by first | omega | assumption) (by first | omega | assumption) ?_
                                                      refine s_X4_placeOf hM (by omega) (by omega) ?_
                                                      refine b_X4_partOf_118  ?_
                                                      exact JE (by first | rfl | omega | exact (hE x (by omega) (by omega)).symm | (rw [hE x (by omega) (by omega)]; done) | (rw [hwb.2.2, hE x (by omega) (by omega)]; done) | exact (pl_congr hE (by omega) (by omega)).symm | (rw [pl_congr hE (show 0 ≤ x by omega) (by omega), pl_congr hE (show 0 ≤ x - x % 4 by omega) (by omega), show x / 4 * 4 = x - x % 4 by omega])) hI))
                                            · first
                                              | exact absurd d_31 (by omega)
                                              | (refine b_X4_partOf_34  ?_
                                                 exact JE (by first | rfl | omega | exact (hE x (by omega) (by omega)).symm | (rw [hE x (by omega) (by omega)]; done) | (rw [hwb.2.2, hE x (by omega) (by omega)]; done) | exact (pl_congr hE (by omega) (by omega)).symm | (rw [pl_congr hE (show 0 ≤ x by omega) (by omega), pl_congr hE (show 0 ≤ x - x % 4 by omega) (by omega), show x / 4 * 4 = x - x % 4 by omega])) hI))
                                       · first
                                         | exact absurd d_19 (by omega)
                                         | (refine b_X4_partOf_22  ?_
                                            exact JE (by first | rfl | omega | exact (hE x (by omega) (by omega)).symm | (rw [hE x (by omega) (by omega)]; done) | (rw [hwb.2.2, hE x (by omega) (by omega)]; done) | exact (pl_congr hE (by omega) (by omega)).symm | (rw [pl_congr hE (show 0 ≤ x by omega) (by omega), pl_congr hE (show 0 ≤ x - x % 4 by omega) (by omega), show x / 4 * 4 = x - x % 4 by omega])) hI))))
                        · first
                          | exact absurd c_48 (by omega)
                          | (refine b_X3_partOf_99 (by first | omega | assumption) ?_
                             refine s_X1_placeOfOne hR (by omega) (by omega) ?_
                             have hpb := (pl_congr hE (show 0 ≤ x by omega) (by omega)) ▸ pl_ub hV (show 0 ≤ x by omega) (show x < n by omega)
                             refine b_X3_partOf_105  ?_
                             refine JQ.mk (by omega) ?_
                             refine b_X4_partOf_0  ?_
                             refine s_X4_in (by omega) (by omega) (by omega) (fun r hr => ?_)
                             refine b_X4_partOf_6 (by first | omega | assumption) (fun d_6 => ?_) (fun d_6 => ?_)
                             · first
                               | exact absurd d_6 (by omega)
                               | (refine b_X4_partOf_22  ?_
                                  exact JE (by first | rfl | omega | exact (hE x (by omega) (by omega)).symm | (rw [hE x (by omega) (by omega)]; done) | (rw [hwb.2.2, hE x (by omega) (by omega)]; done) | exact (pl_congr hE (by omega) (by omega)).symm | (rw [pl_congr hE (show 0 ≤ x by omega) (by omega), pl_congr hE (show 0 ≤ x - x % 4 by omega) (by omega), show x / 4 * 4 = x - x % 4 by omega])) hI)
                             · first
                               | exact absurd d_6 (by omega)
                               | (refine b_X4_partOf_9 (by first | omega | assumption) (fun d_9 => ?_) (fun d_9 => ?_)
                                  · first
                                    | exact absurd d_9 (by omega)
                                    | (refine b_X4_partOf_22  ?_
                                       exact JE (by first | rfl | omega | exact (hE x (by omega) (by omega)).symm | (rw [hE x (by omega) (by omega)]; done) | (rw [hwb.2.2, hE x (by omega) (by omega)]; done) | exact (pl_congr hE (by omega) (by omega)).symm | (rw [pl_congr hE (show 0 ≤ x by omega) (by omega), pl_congr hE (show 0 ≤ x - x % 4 by omega) (by omega), show x / 4 * 4 = x - x % 4 by omega])) hI)
                                  · first
                                    | exact absurd d_9 (by omega)
                                    | (refine b_X4_partOf_13  ?_
                                       refine s_X4_in (by omega) (by omega) (by omega) (fun r hr => ?_)
                                       refine b_X4_partOf_19 (by first | omega | assumption) (fun d_19 => ?_) (fun d_19 => ?_)
                                       · first
                                         | exact absurd d_19 (by omega)
                                         | (refine b_X4_partOf_25 (by first | omega | assumption) ?_
                                            refine s_X4_many hM ?_
                                            refine b_X4_partOf_31 (by first | omega | assumption) (by first | omega | assumption) (fun d_31 => ?_) (fun d_31 => ?_)
                                            · first
                                              | exact absurd d_31 (by omega)
                                              | (refine b_X4_partOf_37 (by first | omega | assumption) (fun d_37 => ?_) (fun d_37 => ?_) (fun d_37 => ?_) (fun d_37 => ?_) (fun d_37 => ?_)
                                                 · first
                                                   | exact absurd d_37 (by omega)
                                                   | (refine b_X4_partOf_68 (by first | omega | assumption) ?_
                                                      refine s_X4_number hM (by omega) (by omega) ?_
                                                      refine b_X4_partOf_74  ?_
                                                      exact JE (by first | rfl | omega | exact (hE x (by omega) (by omega)).symm | (rw [hE x (by omega) (by omega)]; done) | (rw [hwb.2.2, hE x (by omega) (by omega)]; done) | exact (pl_congr hE (by omega) (by omega)).symm | (rw [pl_congr hE (show 0 ≤ x by omega) (by omega), pl_congr hE (show 0 ≤ x - x % 4 by omega) (by omega), show x / 4 * 4 = x - x % 4 by omega])) hI)
                                                 · first
                                                   | exact absurd d_37 (by omega)
                                                   | (refine b_X4_partOf_75 (by first | omega | assumption) ?_
                                                      refine s_X4_number hM (by omega) (by omega) ?_
                                                      have hvx2 : 0 ≤ mf w q x := (hV.1 x (by omega) (by omega)).1
                                                      have hvx3 := (hV.1 x (by omega) (by omega)).2
                                                      refine b_X4_partOf_81 (by first | omega | assumption) ?_
                                                      refine s_X4_width hM ?_
                                                      refine b_X4_partOf_86 (by first | omega | assumption) (by first | omega | assumption) (by first | omega | assumption) (by first | omega | assumption) ?_
                                                      exact JE (by first | rfl | omega | exact (hE x (by omega) (by omega)).symm | (rw [hE x (by omega) (by omega)]; done) | (rw [hwb.2.2, hE x (by omega) (by omega)]; done) | exact (pl_congr hE (by omega) (by omega)).symm | (rw [pl_congr hE (show 0 ≤ x by omega) (by omega), pl_congr hE (show 0 ≤ x - x % 4 by omega) (by omega), show x / 4 * 4 = x - x % 4 by omega])) hI)
                                                 · first
                                                   | exact absurd d_37 (by omega)
                                                   | (refine b_X4_partOf_88 (by first | omega | assumption) ?_
                                                      refine s_X4_lower hM (by omega) (by omega) ?_
                                                      refine b_X4_partOf_94  ?_
                                                      exact JE (by first | rfl | omega | exact (hE x (by omega) (by omega)).symm | (rw [hE x (by omega) (by omega)]; done) | (rw [hwb.2.2, hE x (by omega) (by omega)]; done) | exact (pl_congr hE (by omega) (by omega)).symm | (rw [pl_congr hE (show 0 ≤ x by omega) (by omega), pl_congr hE (show 0 ≤ x - x % 4 by omega) (by omega), show x / 4 * 4 = x - x % 4 by omega])) hI)
                                                 · first
                                                   | exact absurd d_37 (by omega)
                                                   | (refine b_X4_partOf_95 (by first | omega | assumption) ?_
                                                      refine s_X4_placeOf hM (by omega) (by omega) ?_
                                                      refine b_X4_partOf_101  ?_
                                                      exact JE (by first | rfl | omega | exact (hE x (by omega) (by omega)).symm | (rw [hE x (by omega) (by omega)]; done) | (rw [hwb.2.2, hE x (by omega) (by omega)]; done) | exact (pl_congr hE (by omega) (by omega)).symm | (rw [pl_congr hE (show 0 ≤ x by omega) (by omega), pl_congr hE (show 0 ≤ x - x % 4 by omega) (by omega), show x / 4 * 4 = x - x % 4 by omega])) hI)
                                                 · first
                                                   | exact absurd d_37 (by omega)
                                                   | (refine b_X4_partOf_102 (by first | omega | assumption) ?_
                                                      refine s_X4_placeOf hM (by omega) (by omega) ?_
                                                      refine b_X4_partOf_108 (by first | omega | assumption) (by first | omega | assumption) (by first | omega | assumption) ?_
                                                      refine s_X4_placeOf hM (by omega) (by omega) ?_
                                                      refine b_X4_partOf_118  ?_
                                                      exact JE (by first | rfl | omega | exact (hE x (by omega) (by omega)).symm | (rw [hE x (by omega) (by omega)]; done) | (rw [hwb.2.2, hE x (by omega) (by omega)]; done) | exact (pl_congr hE (by omega) (by omega)).symm | (rw [pl_congr hE (show 0 ≤ x by omega) (by omega), pl_congr hE (show 0 ≤ x - x % 4 by omega) (by omega), show x / 4 * 4 = x - x % 4 by omega])) hI))
                                            · first
                                              | exact absurd d_31 (by omega)
                                              | (refine b_X4_partOf_34  ?_
                                                 exact JE (by first | rfl | omega | exact (hE x (by omega) (by omega)).symm | (rw [hE x (by omega) (by omega)]; done) | (rw [hwb.2.2, hE x (by omega) (by omega)]; done) | exact (pl_congr hE (by omega) (by omega)).symm | (rw [pl_congr hE (show 0 ≤ x by omega) (by omega), pl_congr hE (show 0 ≤ x - x % 4 by omega) (by omega), show x / 4 * 4 = x - x % 4 by omega])) hI))
                                       · first
                                         | exact absurd d_19 (by omega)
                                         | (refine b_X4_partOf_22  ?_
                                            exact JE (by first | rfl | omega | exact (hE x (by omega) (by omega)).symm | (rw [hE x (by omega) (by omega)]; done) | (rw [hwb.2.2, hE x (by omega) (by omega)]; done) | exact (pl_congr hE (by omega) (by omega)).symm | (rw [pl_congr hE (show 0 ≤ x by omega) (by omega), pl_congr hE (show 0 ≤ x - x % 4 by omega) (by omega), show x / 4 * 4 = x - x % 4 by omega])) hI))))
                        · first
                          | exact absurd c_48 (by omega)
                          | (refine b_X3_partOf_106 (by first | omega | assumption) ?_
                             refine s_X1_placeOfOne hR (by omega) (by omega) ?_
                             have hpb := (pl_congr hE (show 0 ≤ x by omega) (by omega)) ▸ pl_ub hV (show 0 ≤ x by omega) (show x < n by omega)
                             refine b_X3_partOf_112  ?_
                             refine s_X3_sampledAhead (by omega) (by omega) ?_
                             refine b_X3_partOf_118 (by first | omega | assumption) ?_
                             refine s_X1_placeOfOne hR (by omega) (by omega) ?_
                             have hpb2 := (pl_congr hE (show 0 ≤ x - x % 4 by omega) (by omega)) ▸ pl_ub hV (show 0 ≤ x - x % 4 by omega) (show x - x % 4 < n by omega)
                             refine b_X3_partOf_121  ?_
                             refine JQ.mk (by omega) ?_
                             refine b_X4_partOf_0  ?_
                             refine s_X4_in (by omega) (by omega) (by omega) (fun r hr => ?_)
                             refine b_X4_partOf_6 (by first | omega | assumption) (fun d_6 => ?_) (fun d_6 => ?_)
                             · first
                               | exact absurd d_6 (by omega)
                               | (refine b_X4_partOf_22  ?_
                                  exact JE (by first | rfl | omega | exact (hE x (by omega) (by omega)).symm | (rw [hE x (by omega) (by omega)]; done) | (rw [hwb.2.2, hE x (by omega) (by omega)]; done) | exact (pl_congr hE (by omega) (by omega)).symm | (rw [pl_congr hE (show 0 ≤ x by omega) (by omega), pl_congr hE (show 0 ≤ x - x % 4 by omega) (by omega), show x / 4 * 4 = x - x % 4 by omega])) hI)
                             · first
                               | exact absurd d_6 (by omega)
                               | (refine b_X4_partOf_9 (by first | omega | assumption) (fun d_9 => ?_) (fun d_9 => ?_)
                                  · first
                                    | exact absurd d_9 (by omega)
                                    | (refine b_X4_partOf_22  ?_
                                       exact JE (by first | rfl | omega | exact (hE x (by omega) (by omega)).symm | (rw [hE x (by omega) (by omega)]; done) | (rw [hwb.2.2, hE x (by omega) (by omega)]; done) | exact (pl_congr hE (by omega) (by omega)).symm | (rw [pl_congr hE (show 0 ≤ x by omega) (by omega), pl_congr hE (show 0 ≤ x - x % 4 by omega) (by omega), show x / 4 * 4 = x - x % 4 by omega])) hI)
                                  · first
                                    | exact absurd d_9 (by omega)
                                    | (refine b_X4_partOf_13  ?_
                                       refine s_X4_in (by omega) (by omega) (by omega) (fun r hr => ?_)
                                       refine b_X4_partOf_19 (by first | omega | assumption) (fun d_19 => ?_) (fun d_19 => ?_)
                                       · first
                                         | exact absurd d_19 (by omega)
                                         | (refine b_X4_partOf_25 (by first | omega | assumption) ?_
                                            refine s_X4_many hM ?_
                                            refine b_X4_partOf_31 (by first | omega | assumption) (by first | omega | assumption) (fun d_31 => ?_) (fun d_31 => ?_)
                                            · first
                                              | exact absurd d_31 (by omega)
                                              | (refine b_X4_partOf_37 (by first | omega | assumption) (fun d_37 => ?_) (fun d_37 => ?_) (fun d_37 => ?_) (fun d_37 => ?_) (fun d_37 => ?_)
                                                 · first
                                                   | exact absurd d_37 (by omega)
                                                   | (refine b_X4_partOf_68 (by first | omega | assumption) ?_
                                                      refine s_X4_number hM (by omega) (by omega) ?_
                                                      refine b_X4_partOf_74  ?_
                                                      exact JE (by first | rfl | omega | exact (hE x (by omega) (by omega)).symm | (rw [hE x (by omega) (by omega)]; done) | (rw [hwb.2.2, hE x (by omega) (by omega)]; done) | exact (pl_congr hE (by omega) (by omega)).symm | (rw [pl_congr hE (show 0 ≤ x by omega) (by omega), pl_congr hE (show 0 ≤ x - x % 4 by omega) (by omega), show x / 4 * 4 = x - x % 4 by omega])) hI)
                                                 · first
                                                   | exact absurd d_37 (by omega)
                                                   | (refine b_X4_partOf_75 (by first | omega | assumption) ?_
                                                      refine s_X4_number hM (by omega) (by omega) ?_
                                                      have hvx2 : 0 ≤ mf w q x := (hV.1 x (by omega) (by omega)).1
                                                      have hvx3 := (hV.1 x (by omega) (by omega)).2
                                                      refine b_X4_partOf_81 (by first | omega | assumption) ?_
                                                      refine s_X4_width hM ?_
                                                      refine b_X4_partOf_86 (by first | omega | assumption) (by first | omega | assumption) (by first | omega | assumption) (by first | omega | assumption) ?_
                                                      exact JE (by first | rfl | omega | exact (hE x (by omega) (by omega)).symm | (rw [hE x (by omega) (by omega)]; done) | (rw [hwb.2.2, hE x (by omega) (by omega)]; done) | exact (pl_congr hE (by omega) (by omega)).symm | (rw [pl_congr hE (show 0 ≤ x by omega) (by omega), pl_congr hE (show 0 ≤ x - x % 4 by omega) (by omega), show x / 4 * 4 = x - x % 4 by omega])) hI)
                                                 · first
                                                   | exact absurd d_37 (by omega)
                                                   | (refine b_X4_partOf_88 (by first | omega | assumption) ?_
                                                      refine s_X4_lower hM (by omega) (by omega) ?_
                                                      refine b_X4_partOf_94  ?_
                                                      exact JE (by first | rfl | omega | exact (hE x (by omega) (by omega)).symm | (rw [hE x (by omega) (by omega)]; done) | (rw [hwb.2.2, hE x (by omega) (by omega)]; done) | exact (pl_congr hE (by omega) (by omega)).symm | (rw [pl_congr hE (show 0 ≤ x by omega) (by omega), pl_congr hE (show 0 ≤ x - x % 4 by omega) (by omega), show x / 4 * 4 = x - x % 4 by omega])) hI)
                                                 · first
                                                   | exact absurd d_37 (by omega)
                                                   | (refine b_X4_partOf_95 (by first | omega | assumption) ?_
                                                      refine s_X4_placeOf hM (by omega) (by omega) ?_
                                                      refine b_X4_partOf_101  ?_
                                                      exact JE (by first | rfl | omega | exact (hE x (by omega) (by omega)).symm | (rw [hE x (by omega) (by omega)]; done) | (rw [hwb.2.2, hE x (by omega) (by omega)]; done) | exact (pl_congr hE (by omega) (by omega)).symm | (rw [pl_congr hE (show 0 ≤ x by omega) (by omega), pl_congr hE (show 0 ≤ x - x % 4 by omega) (by omega), show x / 4 * 4 = x - x % 4 by omega])) hI)
                                                 · first
                                                   | exact absurd d_37 (by omega)
                                                   | (refine b_X4_partOf_102 (by first | omega | assumption) ?_
                                                      refine s_X4_placeOf hM (by omega) (by omega) ?_
                                                      refine b_X4_partOf_108 (by first | omega | assumption) (by first | omega | assumption) (by first | omega | assumption) ?_
                                                      refine s_X4_placeOf hM (by omega) (by omega) ?_
                                                      refine b_X4_partOf_118  ?_
                                                      exact JE (by first | rfl | omega | exact (hE x (by omega) (by omega)).symm | (rw [hE x (by omega) (by omega)]; done) | (rw [hwb.2.2, hE x (by omega) (by omega)]; done) | exact (pl_congr hE (by omega) (by omega)).symm | (rw [pl_congr hE (show 0 ≤ x by omega) (by omega), pl_congr hE (show 0 ≤ x - x % 4 by omega) (by omega), show x / 4 * 4 = x - x % 4 by omega])) hI))
                                            · first
                                              | exact absurd d_31 (by omega)
                                              | (refine b_X4_partOf_34  ?_
                                                 exact JE (by first | rfl | omega | exact (hE x (by omega) (by omega)).symm | (rw [hE x (by omega) (by omega)]; done) | (rw [hwb.2.2, hE x (by omega) (by omega)]; done) | exact (pl_congr hE (by omega) (by omega)).symm | (rw [pl_congr hE (show 0 ≤ x by omega) (by omega), pl_congr hE (show 0 ≤ x - x % 4 by omega) (by omega), show x / 4 * 4 = x - x % 4 by omega])) hI))
                                       · first
                                         | exact absurd d_19 (by omega)
                                         | (refine b_X4_partOf_22  ?_
                                            exact JE (by first | rfl | omega | exact (hE x (by omega) (by omega)).symm | (rw [hE x (by omega) (by omega)]; done) | (rw [hwb.2.2, hE x (by omega) (by omega)]; done) | exact (pl_congr hE (by omega) (by omega)).symm | (rw [pl_congr hE (show 0 ≤ x by omega) (by omega), pl_congr hE (show 0 ≤ x - x % 4 by omega) (by omega), show x / 4 * 4 = x - x % 4 by omega])) hI)))))
                   · first
                     | exact absurd c_28 (by omega)
                     | (refine b_X3_partOf_39  ?_
                        refine JQ.mk (by omega) ?_
                        refine b_X4_partOf_0  ?_
                        refine s_X4_in (by omega) (by omega) (by omega) (fun r hr => ?_)
                        refine b_X4_partOf_6 (by first | omega | assumption) (fun d_6 => ?_) (fun d_6 => ?_)
                        · first
                          | exact absurd d_6 (by omega)
                          | (refine b_X4_partOf_22  ?_
                             exact JE (by first | rfl | omega | exact (hE x (by omega) (by omega)).symm | (rw [hE x (by omega) (by omega)]; done) | (rw [hwb.2.2, hE x (by omega) (by omega)]; done) | exact (pl_congr hE (by omega) (by omega)).symm | (rw [pl_congr hE (show 0 ≤ x by omega) (by omega), pl_congr hE (show 0 ≤ x - x % 4 by omega) (by omega), show x / 4 * 4 = x - x % 4 by omega])) hI)
                        · first
                          | exact absurd d_6 (by omega)
                          | (refine b_X4_partOf_9 (by first | omega | assumption) (fun d_9 => ?_) (fun d_9 => ?_)
                             · first
                               | exact absurd d_9 (by omega)
                               | (refine b_X4_partOf_22  ?_
                                  exact JE (by first | rfl | omega | exact (hE x (by omega) (by omega)).symm | (rw [hE x (by omega) (by omega)]; done) | (rw [hwb.2.2, hE x (by omega) (by omega)]; done) | exact (pl_congr hE (by omega) (by omega)).symm | (rw [pl_congr hE (show 0 ≤ x by omega) (by omega), pl_congr hE (show 0 ≤ x - x % 4 by omega) (by omega), show x / 4 * 4 = x - x % 4 by omega])) hI)
                             · first
                               | exact absurd d_9 (by omega)
                               | (refine b_X4_partOf_13  ?_
                                  refine s_X4_in (by omega) (by omega) (by omega) (fun r hr => ?_)
                                  refine b_X4_partOf_19 (by first | omega | assumption) (fun d_19 => ?_) (fun d_19 => ?_)
                                  · first
                                    | exact absurd d_19 (by omega)
                                    | (refine b_X4_partOf_25 (by first | omega | assumption) ?_
                                       refine s_X4_many hM ?_
                                       refine b_X4_partOf_31 (by first | omega | assumption) (by first | omega | assumption) (fun d_31 => ?_) (fun d_31 => ?_)
                                       · first
                                         | exact absurd d_31 (by omega)
                                         | (refine b_X4_partOf_37 (by first | omega | assumption) (fun d_37 => ?_) (fun d_37 => ?_) (fun d_37 => ?_) (fun d_37 => ?_) (fun d_37 => ?_)
                                            · first
                                              | exact absurd d_37 (by omega)
                                              | (refine b_X4_partOf_68 (by first | omega | assumption) ?_
                                                 refine s_X4_number hM (by omega) (by omega) ?_
                                                 refine b_X4_partOf_74  ?_
                                                 exact JE (by first | rfl | omega | exact (hE x (by omega) (by omega)).symm | (rw [hE x (by omega) (by omega)]; done) | (rw [hwb.2.2, hE x (by omega) (by omega)]; done) | exact (pl_congr hE (by omega) (by omega)).symm | (rw [pl_congr hE (show 0 ≤ x by omega) (by omega), pl_congr hE (show 0 ≤ x - x % 4 by omega) (by omega), show x / 4 * 4 = x - x % 4 by omega])) hI)
                                            · first
                                              | exact absurd d_37 (by omega)
                                              | (refine b_X4_partOf_75 (by first | omega | assumption) ?_
                                                 refine s_X4_number hM (by omega) (by omega) ?_
                                                 have hvx2 : 0 ≤ mf w q x := (hV.1 x (by omega) (by omega)).1
                                                 have hvx3 := (hV.1 x (by omega) (by omega)).2
                                                 refine b_X4_partOf_81 (by first | omega | assumption) ?_
                                                 refine s_X4_width hM ?_
                                                 refine b_X4_partOf_86 (by first | omega | assumption) (by first | omega | assumption) (by first | omega | assumption) (by first | omega | assumption) ?_
                                                 exact JE (by first | rfl | omega | exact (hE x (by omega) (by omega)).symm | (rw [hE x (by omega) (by omega)]; done) | (rw [hwb.2.2, hE x (by omega) (by omega)]; done) | exact (pl_congr hE (by omega) (by omega)).symm | (rw [pl_congr hE (show 0 ≤ x by omega) (by omega), pl_congr hE (show 0 ≤ x - x % 4 by omega) (by omega), show x / 4 * 4 = x - x % 4 by omega])) hI)
                                            · first
                                              | exact absurd d_37 (by omega)
                                              | (refine b_X4_partOf_88 (by first | omega | assumption) ?_
                                                 refine s_X4_lower hM (by omega) (by omega) ?_
                                                 refine b_X4_partOf_94  ?_
                                                 exact JE (by first | rfl | omega | exact (hE x (by omega) (by omega)).symm | (rw [hE x (by omega) (by omega)]; done) | (rw [hwb.2.2, hE x (by omega) (by omega)]; done) | exact (pl_congr hE (by omega) (by omega)).symm | (rw [pl_congr hE (show 0 ≤ x by omega) (by omega), pl_congr hE (show 0 ≤ x - x % 4 by omega) (by omega), show x / 4 * 4 = x - x % 4 by omega])) hI)
                                            · first
                                              | exact absurd d_37 (by omega)
                                              | (refine b_X4_partOf_95 (by first | omega | assumption) ?_
                                                 refine s_X4_placeOf hM (by omega) (by omega) ?_
                                                 refine b_X4_partOf_101  ?_
                                                 exact JE (by first | rfl | omega | exact (hE x (by omega) (by omega)).symm | (rw [hE x (by omega) (by omega)]; done) | (rw [hwb.2.2, hE x (by omega) (by omega)]; done) | exact (pl_congr hE (by omega) (by omega)).symm | (rw [pl_congr hE (show 0 ≤ x by omega) (by omega), pl_congr hE (show 0 ≤ x - x % 4 by omega) (by omega), show x / 4 * 4 = x - x % 4 by omega])) hI)
                                            · first
                                              | exact absurd d_37 (by omega)
                                              | (refine b_X4_partOf_102 (by first | omega | assumption) ?_
                                                 refine s_X4_placeOf hM (by omega) (by omega) ?_
                                                 refine b_X4_partOf_108 (by first | omega | assumption) (by first | omega | assumption) (by first | omega | assumption) ?_
                                                 refine s_X4_placeOf hM (by omega) (by omega) ?_
                                                 refine b_X4_partOf_118  ?_
                                                 exact JE (by first | rfl | omega | exact (hE x (by omega) (by omega)).symm | (rw [hE x (by omega) (by omega)]; done) | (rw [hwb.2.2, hE x (by omega) (by omega)]; done) | exact (pl_congr hE (by omega) (by omega)).symm | (rw [pl_congr hE (show 0 ≤ x by omega) (by omega), pl_congr hE (show 0 ≤ x - x % 4 by omega) (by omega), show x / 4 * 4 = x - x % 4 by omega])) hI))
                                       · first
                                         | exact absurd d_31 (by omega)
                                         | (refine b_X4_partOf_34  ?_
                                            exact JE (by first | rfl | omega | exact (hE x (by omega) (by omega)).symm | (rw [hE x (by omega) (by omega)]; done) | (rw [hwb.2.2, hE x (by omega) (by omega)]; done) | exact (pl_congr hE (by omega) (by omega)).symm | (rw [pl_congr hE (show 0 ≤ x by omega) (by omega), pl_congr hE (show 0 ≤ x - x % 4 by omega) (by omega), show x / 4 * 4 = x - x % 4 by omega])) hI))
                                  · first
                                    | exact absurd d_19 (by omega)
                                    | (refine b_X4_partOf_22  ?_
                                       exact JE (by first | rfl | omega | exact (hE x (by omega) (by omega)).symm | (rw [hE x (by omega) (by omega)]; done) | (rw [hwb.2.2, hE x (by omega) (by omega)]; done) | exact (pl_congr hE (by omega) (by omega)).symm | (rw [pl_congr hE (show 0 ≤ x by omega) (by omega), pl_congr hE (show 0 ≤ x - x % 4 by omega) (by omega), show x / 4 * 4 = x - x % 4 by omega])) hI)))))
              · first
                | exact absurd c_17 (by omega)
                | (refine b_X3_partOf_20  ?_
                   refine JQ.mk (by omega) ?_
                   refine b_X4_partOf_0  ?_
                   refine s_X4_in (by omega) (by omega) (by omega) (fun r hr => ?_)
                   refine b_X4_partOf_6 (by first | omega | assumption) (fun d_6 => ?_) (fun d_6 => ?_)
                   · first
                     | exact absurd d_6 (by omega)
                     | (refine b_X4_partOf_22  ?_
                        exact JE (by first | rfl | omega | exact (hE x (by omega) (by omega)).symm | (rw [hE x (by omega) (by omega)]; done) | (rw [hwb.2.2, hE x (by omega) (by omega)]; done) | exact (pl_congr hE (by omega) (by omega)).symm | (rw [pl_congr hE (show 0 ≤ x by omega) (by omega), pl_congr hE (show 0 ≤ x - x % 4 by omega) (by omega), show x / 4 * 4 = x - x % 4 by omega])) hI)
                   · first
                     | exact absurd d_6 (by omega)
                     | (refine b_X4_partOf_9 (by first | omega | assumption) (fun d_9 => ?_) (fun d_9 => ?_)
                        · first
                          | exact absurd d_9 (by omega)
                          | (refine b_X4_partOf_22  ?_
                             exact JE (by first | rfl | omega | exact (hE x (by omega) (by omega)).symm | (rw [hE x (by omega) (by omega)]; done) | (rw [hwb.2.2, hE x (by omega) (by omega)]; done) | exact (pl_congr hE (by omega) (by omega)).symm | (rw [pl_congr hE (show 0 ≤ x by omega) (by omega), pl_congr hE (show 0 ≤ x - x % 4 by omega) (by omega), show x / 4 * 4 = x - x % 4 by omega])) hI)
                        · first
                          | exact absurd d_9 (by omega)
                          | (refine b_X4_partOf_13  ?_
                             refine s_X4_in (by omega) (by omega) (by omega) (fun r hr => ?_)
                             refine b_X4_partOf_19 (by first | omega | assumption) (fun d_19 => ?_) (fun d_19 => ?_)
                             · first
                               | exact absurd d_19 (by omega)
                               | (refine b_X4_partOf_25 (by first | omega | assumption) ?_
                                  refine s_X4_many hM ?_
                                  refine b_X4_partOf_31 (by first | omega | assumption) (by first | omega | assumption) (fun d_31 => ?_) (fun d_31 => ?_)
                                  · first
                                    | exact absurd d_31 (by omega)
                                    | (refine b_X4_partOf_37 (by first | omega | assumption) (fun d_37 => ?_) (fun d_37 => ?_) (fun d_37 => ?_) (fun d_37 => ?_) (fun d_37 => ?_)
                                       · first
                                         | exact absurd d_37 (by omega)
                                         | (refine b_X4_partOf_68 (by first | omega | assumption) ?_
                                            refine s_X4_number hM (by omega) (by omega) ?_
                                            refine b_X4_partOf_74  ?_
                                            exact JE (by first | rfl | omega | exact (hE x (by omega) (by omega)).symm | (rw [hE x (by omega) (by omega)]; done) | (rw [hwb.2.2, hE x (by omega) (by omega)]; done) | exact (pl_congr hE (by omega) (by omega)).symm | (rw [pl_congr hE (show 0 ≤ x by omega) (by omega), pl_congr hE (show 0 ≤ x - x % 4 by omega) (by omega), show x / 4 * 4 = x - x % 4 by omega])) hI)
                                       · first
                                         | exact absurd d_37 (by omega)
                                         | (refine b_X4_partOf_75 (by first | omega | assumption) ?_
                                            refine s_X4_number hM (by omega) (by omega) ?_
                                            have hvx2 : 0 ≤ mf w q x := (hV.1 x (by omega) (by omega)).1
                                            have hvx3 := (hV.1 x (by omega) (by omega)).2
                                            refine b_X4_partOf_81 (by first | omega | assumption) ?_
                                            refine s_X4_width hM ?_
                                            refine b_X4_partOf_86 (by first | omega | assumption) (by first | omega | assumption) (by first | omega | assumption) (by first | omega | assumption) ?_
                                            exact JE (by first | rfl | omega | exact (hE x (by omega) (by omega)).symm | (rw [hE x (by omega) (by omega)]; done) | (rw [hwb.2.2, hE x (by omega) (by omega)]; done) | exact (pl_congr hE (by omega) (by omega)).symm | (rw [pl_congr hE (show 0 ≤ x by omega) (by omega), pl_congr hE (show 0 ≤ x - x % 4 by omega) (by omega), show x / 4 * 4 = x - x % 4 by omega])) hI)
                                       · first
                                         | exact absurd d_37 (by omega)
                                         | (refine b_X4_partOf_88 (by first | omega | assumption) ?_
                                            refine s_X4_lower hM (by omega) (by omega) ?_
                                            refine b_X4_partOf_94  ?_
                                            exact JE (by first | rfl | omega | exact (hE x (by omega) (by omega)).symm | (rw [hE x (by omega) (by omega)]; done) | (rw [hwb.2.2, hE x (by omega) (by omega)]; done) | exact (pl_congr hE (by omega) (by omega)).symm | (rw [pl_congr hE (show 0 ≤ x by omega) (by omega), pl_congr hE (show 0 ≤ x - x % 4 by omega) (by omega), show x / 4 * 4 = x - x % 4 by omega])) hI)
                                       · first
                                         | exact absurd d_37 (by omega)
                                         | (refine b_X4_partOf_95 (by first | omega | assumption) ?_
                                            refine s_X4_placeOf hM (by omega) (by omega) ?_
                                            refine b_X4_partOf_101  ?_
                                            exact JE (by first | rfl | omega | exact (hE x (by omega) (by omega)).symm | (rw [hE x (by omega) (by omega)]; done) | (rw [hwb.2.2, hE x (by omega) (by omega)]; done) | exact (pl_congr hE (by omega) (by omega)).symm | (rw [pl_congr hE (show 0 ≤ x by omega) (by omega), pl_congr hE (show 0 ≤ x - x % 4 by omega) (by omega), show x / 4 * 4 = x - x % 4 by omega])) hI)
                                       · first
                                         | exact absurd d_37 (by omega)
                                         | (refine b_X4_partOf_102 (by first | omega | assumption) ?_
                                            refine s_X4_placeOf hM (by omega) (by omega) ?_
                                            refine b_X4_partOf_108 (by first | omega | assumption) (by first | omega | assumption) (by first | omega | assumption) ?_
                                            refine s_X4_placeOf hM (by omega) (by omega) ?_
                                            refine b_X4_partOf_118  ?_
                                            exact JE (by first | rfl | omega | exact (hE x (by omega) (by omega)).symm | (rw [hE x (by omega) (by omega)]; done) | (rw [hwb.2.2, hE x (by omega) (by omega)]; done) | exact (pl_congr hE (by omega) (by omega)).symm | (rw [pl_congr hE (show 0 ≤ x by omega) (by omega), pl_congr hE (show 0 ≤ x - x % 4 by omega) (by omega), show x / 4 * 4 = x - x % 4 by omega])) hI))
                                  · first
                                    | exact absurd d_31 (by omega)
                                    | (refine b_X4_partOf_34  ?_
                                       exact JE (by first | rfl | omega | exact (hE x (by omega) (by omega)).symm | (rw [hE x (by omega) (by omega)]; done) | (rw [hwb.2.2, hE x (by omega) (by omega)]; done) | exact (pl_congr hE (by omega) (by omega)).symm | (rw [pl_congr hE (show 0 ≤ x by omega) (by omega), pl_congr hE (show 0 ≤ x - x % 4 by omega) (by omega), show x / 4 * 4 = x - x % 4 by omega])) hI))
                             · first
                               | exact absurd d_19 (by omega)
                               | (refine b_X4_partOf_22  ?_
                                  exact JE (by first | rfl | omega | exact (hE x (by omega) (by omega)).symm | (rw [hE x (by omega) (by omega)]; done) | (rw [hwb.2.2, hE x (by omega) (by omega)]; done) | exact (pl_congr hE (by omega) (by omega)).symm | (rw [pl_congr hE (show 0 ≤ x by omega) (by omega), pl_congr hE (show 0 ≤ x - x % 4 by omega) (by omega), show x / 4 * 4 = x - x % 4 by omega])) hI))))))
  · have hq2 : q < 0 ∨ 1 < q := by omega
    refine b_X3_partOf_0  ?_
    refine s_X3_isRow (by omega) (fun r hr => ?_)
    refine b_X3_partOf_4 (by first | omega | assumption) (fun c_4 => ?_) (fun c_4 => ?_)
    · first
      | exact absurd c_4 (by omega)
      | (refine b_X3_partOf_20  ?_
         refine JQ.mk (by omega) ?_
         refine b_X4_partOf_0  ?_
         refine s_X4_in (by omega) (by omega) (by omega) (fun r hr => ?_)
         refine b_X4_partOf_6 (by first | omega | assumption) (fun d_6 => ?_) (fun d_6 => ?_)
         · first
           | exact absurd d_6 (by omega)
           | (refine b_X4_partOf_22  ?_
              exact JE (by first | rfl | omega | exact (hE x (by omega) (by omega)).symm | (rw [hE x (by omega) (by omega)]; done) | (rw [hwb.2.2, hE x (by omega) (by omega)]; done) | exact (pl_congr hE (by omega) (by omega)).symm | (rw [pl_congr hE (show 0 ≤ x by omega) (by omega), pl_congr hE (show 0 ≤ x - x % 4 by omega) (by omega), show x / 4 * 4 = x - x % 4 by omega])) hI)
         · first
           | exact absurd d_6 (by omega)
           | (refine b_X4_partOf_9 (by first | omega | assumption) (fun d_9 => ?_) (fun d_9 => ?_)
              · first
                | exact absurd d_9 (by omega)
                | (refine b_X4_partOf_22  ?_
                   exact JE (by first | rfl | omega | exact (hE x (by omega) (by omega)).symm | (rw [hE x (by omega) (by omega)]; done) | (rw [hwb.2.2, hE x (by omega) (by omega)]; done) | exact (pl_congr hE (by omega) (by omega)).symm | (rw [pl_congr hE (show 0 ≤ x by omega) (by omega), pl_congr hE (show 0 ≤ x - x % 4 by omega) (by omega), show x / 4 * 4 = x - x % 4 by omega])) hI)
              · first
                | exact absurd d_9 (by omega)
                | (refine b_X4_partOf_13  ?_
                   refine s_X4_in (by omega) (by omega) (by omega) (fun r hr => ?_)
                   refine b_X4_partOf_19 (by first | omega | assumption) (fun d_19 => ?_) (fun d_19 => ?_)
                   · first
                     | exact absurd d_19 (by omega)
                     | (refine b_X4_partOf_25 (by first | omega | assumption) ?_
                        refine s_X4_many hM ?_
                        refine b_X4_partOf_31 (by first | omega | assumption) (by first | omega | assumption) (fun d_31 => ?_) (fun d_31 => ?_)
                        · first
                          | exact absurd d_31 (by omega)
                          | (refine b_X4_partOf_37 (by first | omega | assumption) (fun d_37 => ?_) (fun d_37 => ?_) (fun d_37 => ?_) (fun d_37 => ?_) (fun d_37 => ?_)
                             · first
                               | exact absurd d_37 (by omega)
                               | (refine b_X4_partOf_68 (by first | omega | assumption) ?_
                                  refine s_X4_number hM (by omega) (by omega) ?_
                                  refine b_X4_partOf_74  ?_
                                  exact JE (by first | rfl | omega | exact (hE x (by omega) (by omega)).symm | (rw [hE x (by omega) (by omega)]; done) | (rw [hwb.2.2, hE x (by omega) (by omega)]; done) | exact (pl_congr hE (by omega) (by omega)).symm | (rw [pl_congr hE (show 0 ≤ x by omega) (by omega), pl_congr hE (show 0 ≤ x - x % 4 by omega) (by omega), show x / 4 * 4 = x - x % 4 by omega])) hI)
                             · first
                               | exact absurd d_37 (by omega)
                               | (refine b_X4_partOf_75 (by first | omega | assumption) ?_
                                  refine s_X4_number hM (by omega) (by omega) ?_
                                  have hvx2 : 0 ≤ mf w q x := (hV.1 x (by omega) (by omega)).1
                                  have hvx3 := (hV.1 x (by omega) (by omega)).2
                                  refine b_X4_partOf_81 (by first | omega | assumption) ?_
                                  refine s_X4_width hM ?_
                                  refine b_X4_partOf_86 (by first | omega | assumption) (by first | omega | assumption) (by first | omega | assumption) (by first | omega | assumption) ?_
                                  exact JE (by first | rfl | omega | exact (hE x (by omega) (by omega)).symm | (rw [hE x (by omega) (by omega)]; done) | (rw [hwb.2.2, hE x (by omega) (by omega)]; done) | exact (pl_congr hE (by omega) (by omega)).symm | (rw [pl_congr hE (show 0 ≤ x by omega) (by omega), pl_congr hE (show 0 ≤ x - x % 4 by omega) (by omega), show x / 4 * 4 = x - x % 4 by omega])) hI)
                             · first
                               | exact absurd d_37 (by omega)
                               | (refine b_X4_partOf_88 (by first | omega | assumption) ?_
                                  refine s_X4_lower hM (by omega) (by omega) ?_
                                  refine b_X4_partOf_94  ?_
                                  exact JE (by first | rfl | omega | exact (hE x (by omega) (by omega)).symm | (rw [hE x (by omega) (by omega)]; done) | (rw [hwb.2.2, hE x (by omega) (by omega)]; done) | exact (pl_congr hE (by omega) (by omega)).symm | (rw [pl_congr hE (show 0 ≤ x by omega) (by omega), pl_congr hE (show 0 ≤ x - x % 4 by omega) (by omega), show x / 4 * 4 = x - x % 4 by omega])) hI)
                             · first
                               | exact absurd d_37 (by omega)
                               | (refine b_X4_partOf_95 (by first | omega | assumption) ?_
                                  refine s_X4_placeOf hM (by omega) (by omega) ?_
                                  refine b_X4_partOf_101  ?_
                                  exact JE (by first | rfl | omega | exact (hE x (by omega) (by omega)).symm | (rw [hE x (by omega) (by omega)]; done) | (rw [hwb.2.2, hE x (by omega) (by omega)]; done) | exact (pl_congr hE (by omega) (by omega)).symm | (rw [pl_congr hE (show 0 ≤ x by omega) (by omega), pl_congr hE (show 0 ≤ x - x % 4 by omega) (by omega), show x / 4 * 4 = x - x % 4 by omega])) hI)
                             · first
                               | exact absurd d_37 (by omega)
                               | (refine b_X4_partOf_102 (by first | omega | assumption) ?_
                                  refine s_X4_placeOf hM (by omega) (by omega) ?_
                                  refine b_X4_partOf_108 (by first | omega | assumption) (by first | omega | assumption) (by first | omega | assumption) ?_
                                  refine s_X4_placeOf hM (by omega) (by omega) ?_
                                  refine b_X4_partOf_118  ?_
                                  exact JE (by first | rfl | omega | exact (hE x (by omega) (by omega)).symm | (rw [hE x (by omega) (by omega)]; done) | (rw [hwb.2.2, hE x (by omega) (by omega)]; done) | exact (pl_congr hE (by omega) (by omega)).symm | (rw [pl_congr hE (show 0 ≤ x by omega) (by omega), pl_congr hE (show 0 ≤ x - x % 4 by omega) (by omega), show x / 4 * 4 = x - x % 4 by omega])) hI))
                        · first
                          | exact absurd d_31 (by omega)
                          | (refine b_X4_partOf_34  ?_
                             exact JE (by first | rfl | omega | exact (hE x (by omega) (by omega)).symm | (rw [hE x (by omega) (by omega)]; done) | (rw [hwb.2.2, hE x (by omega) (by omega)]; done) | exact (pl_congr hE (by omega) (by omega)).symm | (rw [pl_congr hE (show 0 ≤ x by omega) (by omega), pl_congr hE (show 0 ≤ x - x % 4 by omega) (by omega), show x / 4 * 4 = x - x % 4 by omega])) hI))
                   · first
                     | exact absurd d_19 (by omega)
                     | (refine b_X4_partOf_22  ?_
                        exact JE (by first | rfl | omega | exact (hE x (by omega) (by omega)).symm | (rw [hE x (by omega) (by omega)]; done) | (rw [hwb.2.2, hE x (by omega) (by omega)]; done) | exact (pl_congr hE (by omega) (by omega)).symm | (rw [pl_congr hE (show 0 ≤ x by omega) (by omega), pl_congr hE (show 0 ≤ x - x % 4 by omega) (by omega), show x / 4 * 4 = x - x % 4 by omega])) hI))))
    · first
      | exact absurd c_4 (by omega)
      | (refine b_X3_partOf_7 (by first | omega | assumption) (fun c_7 => ?_) (fun c_7 => ?_)
         · first
           | exact absurd c_7 (by omega)
           | (refine b_X3_partOf_20  ?_
              refine JQ.mk (by omega) ?_
              refine b_X4_partOf_0  ?_
              refine s_X4_in (by omega) (by omega) (by omega) (fun r hr => ?_)
              refine b_X4_partOf_6 (by first | omega | assumption) (fun d_6 => ?_) (fun d_6 => ?_)
              · first
                | exact absurd d_6 (by omega)
                | (refine b_X4_partOf_22  ?_
                   exact JE (by first | rfl | omega | exact (hE x (by omega) (by omega)).symm | (rw [hE x (by omega) (by omega)]; done) | (rw [hwb.2.2, hE x (by omega) (by omega)]; done) | exact (pl_congr hE (by omega) (by omega)).symm | (rw [pl_congr hE (show 0 ≤ x by omega) (by omega), pl_congr hE (show 0 ≤ x - x % 4 by omega) (by omega), show x / 4 * 4 = x - x % 4 by omega])) hI)
              · first
                | exact absurd d_6 (by omega)
                | (refine b_X4_partOf_9 (by first | omega | assumption) (fun d_9 => ?_) (fun d_9 => ?_)
                   · first
                     | exact absurd d_9 (by omega)
                     | (refine b_X4_partOf_22  ?_
                        exact JE (by first | rfl | omega | exact (hE x (by omega) (by omega)).symm | (rw [hE x (by omega) (by omega)]; done) | (rw [hwb.2.2, hE x (by omega) (by omega)]; done) | exact (pl_congr hE (by omega) (by omega)).symm | (rw [pl_congr hE (show 0 ≤ x by omega) (by omega), pl_congr hE (show 0 ≤ x - x % 4 by omega) (by omega), show x / 4 * 4 = x - x % 4 by omega])) hI)
                   · first
                     | exact absurd d_9 (by omega)
                     | (refine b_X4_partOf_13  ?_
                        refine s_X4_in (by omega) (by omega) (by omega) (fun r hr => ?_)
                        refine b_X4_partOf_19 (by first | omega | assumption) (fun d_19 => ?_) (fun d_19 => ?_)
                        · first
                          | exact absurd d_19 (by omega)
                          | (refine b_X4_partOf_25 (by first | omega | assumption) ?_
                             refine s_X4_many hM ?_
                             refine b_X4_partOf_31 (by first | omega | assumption) (by first | omega | assumption) (fun d_31 => ?_) (fun d_31 => ?_)
                             · first
                               | exact absurd d_31 (by omega)
                               | (refine b_X4_partOf_37 (by first | omega | assumption) (fun d_37 => ?_) (fun d_37 => ?_) (fun d_37 => ?_) (fun d_37 => ?_) (fun d_37 => ?_)
                                  · first
                                    | exact absurd d_37 (by omega)
                                    | (refine b_X4_partOf_68 (by first | omega | assumption) ?_
                                       refine s_X4_number hM (by omega) (by omega) ?_
                                       refine b_X4_partOf_74  ?_
                                       exact JE (by first | rfl | omega | exact (hE x (by omega) (by omega)).symm | (rw [hE x (by omega) (by omega)]; done) | (rw [hwb.2.2, hE x (by omega) (by omega)]; done) | exact (pl_congr hE (by omega) (by omega)).symm | (rw [pl_congr hE (show 0 ≤ x by omega) (by omega), pl_congr hE (show 0 ≤ x - x % 4 by omega) (by omega), show x / 4 * 4 = x - x % 4 by omega])) hI)
                                  · first
                                    | exact absurd d_37 (by omega)
                                    | (refine b_X4_partOf_75 (by first | omega | assumption) ?_
                                       refine s_X4_number hM (by omega) (by omega) ?_
                                       have hvx2 : 0 ≤ mf w q x := (hV.1 x (by omega) (by omega)).1
                                       have hvx3 := (hV.1 x (by omega) (by omega)).2
                                       refine b_X4_partOf_81 (by first | omega | assumption) ?_
                                       refine s_X4_width hM ?_
                                       refine b_X4_partOf_86 (by first | omega | assumption) (by first | omega | assumption) (by first | omega | assumption) (by first | omega | assumption) ?_
                                       exact JE (by first | rfl | omega | exact (hE x (by omega) (by omega)).symm | (rw [hE x (by omega) (by omega)]; done) | (rw [hwb.2.2, hE x (by omega) (by omega)]; done) | exact (pl_congr hE (by omega) (by omega)).symm | (rw [pl_congr hE (show 0 ≤ x by omega) (by omega), pl_congr hE (show 0 ≤ x - x % 4 by omega) (by omega), show x / 4 * 4 = x - x % 4 by omega])) hI)
                                  · first
                                    | exact absurd d_37 (by omega)
                                    | (refine b_X4_partOf_88 (by first | omega | assumption) ?_
                                       refine s_X4_lower hM (by omega) (by omega) ?_
                                       refine b_X4_partOf_94  ?_
                                       exact JE (by first | rfl | omega | exact (hE x (by omega) (by omega)).symm | (rw [hE x (by omega) (by omega)]; done) | (rw [hwb.2.2, hE x (by omega) (by omega)]; done) | exact (pl_congr hE (by omega) (by omega)).symm | (rw [pl_congr hE (show 0 ≤ x by omega) (by omega), pl_congr hE (show 0 ≤ x - x % 4 by omega) (by omega), show x / 4 * 4 = x - x % 4 by omega])) hI)
                                  · first
                                    | exact absurd d_37 (by omega)
                                    | (refine b_X4_partOf_95 (by first | omega | assumption) ?_
                                       refine s_X4_placeOf hM (by omega) (by omega) ?_
                                       refine b_X4_partOf_101  ?_
                                       exact JE (by first | rfl | omega | exact (hE x (by omega) (by omega)).symm | (rw [hE x (by omega) (by omega)]; done) | (rw [hwb.2.2, hE x (by omega) (by omega)]; done) | exact (pl_congr hE (by omega) (by omega)).symm | (rw [pl_congr hE (show 0 ≤ x by omega) (by omega), pl_congr hE (show 0 ≤ x - x % 4 by omega) (by omega), show x / 4 * 4 = x - x % 4 by omega])) hI)
                                  · first
                                    | exact absurd d_37 (by omega)
                                    | (refine b_X4_partOf_102 (by first | omega | assumption) ?_
                                       refine s_X4_placeOf hM (by omega) (by omega) ?_
                                       refine b_X4_partOf_108 (by first | omega | assumption) (by first | omega | assumption) (by first | omega | assumption) ?_
                                       refine s_X4_placeOf hM (by omega) (by omega) ?_
                                       refine b_X4_partOf_118  ?_
                                       exact JE (by first | rfl | omega | exact (hE x (by omega) (by omega)).symm | (rw [hE x (by omega) (by omega)]; done) | (rw [hwb.2.2, hE x (by omega) (by omega)]; done) | exact (pl_congr hE (by omega) (by omega)).symm | (rw [pl_congr hE (show 0 ≤ x by omega) (by omega), pl_congr hE (show 0 ≤ x - x % 4 by omega) (by omega), show x / 4 * 4 = x - x % 4 by omega])) hI))
                             · first
                               | exact absurd d_31 (by omega)
                               | (refine b_X4_partOf_34  ?_
                                  exact JE (by first | rfl | omega | exact (hE x (by omega) (by omega)).symm | (rw [hE x (by omega) (by omega)]; done) | (rw [hwb.2.2, hE x (by omega) (by omega)]; done) | exact (pl_congr hE (by omega) (by omega)).symm | (rw [pl_congr hE (show 0 ≤ x by omega) (by omega), pl_congr hE (show 0 ≤ x - x % 4 by omega) (by omega), show x / 4 * 4 = x - x % 4 by omega])) hI))
                        · first
                          | exact absurd d_19 (by omega)
                          | (refine b_X4_partOf_22  ?_
                             exact JE (by first | rfl | omega | exact (hE x (by omega) (by omega)).symm | (rw [hE x (by omega) (by omega)]; done) | (rw [hwb.2.2, hE x (by omega) (by omega)]; done) | exact (pl_congr hE (by omega) (by omega)).symm | (rw [pl_congr hE (show 0 ≤ x by omega) (by omega), pl_congr hE (show 0 ≤ x - x % 4 by omega) (by omega), show x / 4 * 4 = x - x % 4 by omega])) hI))))
         · first
           | exact absurd c_7 (by omega)
           | (refine b_X3_partOf_11  ?_
              refine s_X3_isWithin (by omega) (by omega) (by omega) (fun r hr => ?_)
              refine b_X3_partOf_17 (by first | omega | assumption) (fun c_17 => ?_) (fun c_17 => ?_)
              · first
                | exact absurd c_17 (by omega)
                | (refine b_X3_partOf_23 (by first | omega | assumption) ?_
                   refine s_X3_rowAt hra ?_
                   refine b_X3_partOf_28 (by first | omega | assumption) (by first | omega | assumption) (by first | omega | assumption) (fun c_28 => ?_) (fun c_28 => ?_)
                   · first
                     | exact absurd c_28 (by omega)
                     | (refine b_X3_partOf_42 (by first | omega | assumption) ?_
                        refine s_X1_numberIn h (by omega) (by omega) ?_
                        have hvx := hv x (by omega) (by omega)
                        refine b_X3_partOf_48 (by first | omega | assumption) (fun c_48 => ?_) (fun c_48 => ?_) (fun c_48 => ?_) (fun c_48 => ?_) (fun c_48 => ?_)
                        · first
                          | exact absurd c_48 (by omega)
                          | (skip
                             refine b_X3_partOf_80  ?_
                             refine JQ.mk (by omega) ?_
                             refine b_X4_partOf_0  ?_
                             refine s_X4_in (by omega) (by omega) (by omega) (fun r hr => ?_)
                             refine b_X4_partOf_6 (by first | omega | assumption) (fun d_6 => ?_) (fun d_6 => ?_)
                             · first
                               | exact absurd d_6 (by omega)
                               | (refine b_X4_partOf_22  ?_
                                  exact JE (by first | rfl | omega | exact (hE x (by omega) (by omega)).symm | (rw [hE x (by omega) (by omega)]; done) | (rw [hwb.2.2, hE x (by omega) (by omega)]; done) | exact (pl_congr hE (by omega) (by omega)).symm | (rw [pl_congr hE (show 0 ≤ x by omega) (by omega), pl_congr hE (show 0 ≤ x - x % 4 by omega) (by omega), show x / 4 * 4 = x - x % 4 by omega])) hI)
                             · first
                               | exact absurd d_6 (by omega)
                               | (refine b_X4_partOf_9 (by first | omega | assumption) (fun d_9 => ?_) (fun d_9 => ?_)
                                  · first
                                    | exact absurd d_9 (by omega)
                                    | (refine b_X4_partOf_22  ?_
                                       exact JE (by first | rfl | omega | exact (hE x (by omega) (by omega)).symm | (rw [hE x (by omega) (by omega)]; done) | (rw [hwb.2.2, hE x (by omega) (by omega)]; done) | exact (pl_congr hE (by omega) (by omega)).symm | (rw [pl_congr hE (show 0 ≤ x by omega) (by omega), pl_congr hE (show 0 ≤ x - x % 4 by omega) (by omega), show x / 4 * 4 = x - x % 4 by omega])) hI)
                                  · first
                                    | exact absurd d_9 (by omega)
                                    | (refine b_X4_partOf_13  ?_
                                       refine s_X4_in (by omega) (by omega) (by omega) (fun r hr => ?_)
                                       refine b_X4_partOf_19 (by first | omega | assumption) (fun d_19 => ?_) (fun d_19 => ?_)
                                       · first
                                         | exact absurd d_19 (by omega)
                                         | (refine b_X4_partOf_25 (by first | omega | assumption) ?_
                                            refine s_X4_many hM ?_
                                            refine b_X4_partOf_31 (by first | omega | assumption) (by first | omega | assumption) (fun d_31 => ?_) (fun d_31 => ?_)
                                            · first
                                              | exact absurd d_31 (by omega)
                                              | (refine b_X4_partOf_37 (by first | omega | assumption) (fun d_37 => ?_) (fun d_37 => ?_) (fun d_37 => ?_) (fun d_37 => ?_) (fun d_37 => ?_)
                                                 · first
                                                   | exact absurd d_37 (by omega)
                                                   | (refine b_X4_partOf_68 (by first | omega | assumption) ?_
                                                      refine s_X4_number hM (by omega) (by omega) ?_
                                                      refine b_X4_partOf_74  ?_
                                                      exact JE (by first | rfl | omega | exact (hE x (by omega) (by omega)).symm | (rw [hE x (by omega) (by omega)]; done) | (rw [hwb.2.2, hE x (by omega) (by omega)]; done) | exact (pl_congr hE (by omega) (by omega)).symm | (rw [pl_congr hE (show 0 ≤ x by omega) (by omega), pl_congr hE (show 0 ≤ x - x % 4 by omega) (by omega), show x / 4 * 4 = x - x % 4 by omega])) hI)
                                                 · first
                                                   | exact absurd d_37 (by omega)
                                                   | (refine b_X4_partOf_75 (by first | omega | assumption) ?_
                                                      refine s_X4_number hM (by omega) (by omega) ?_
                                                      have hvx2 : 0 ≤ mf w q x := (hV.1 x (by omega) (by omega)).1
                                                      have hvx3 := (hV.1 x (by omega) (by omega)).2
                                                      refine b_X4_partOf_81 (by first | omega | assumption) ?_
                                                      refine s_X4_width hM ?_
                                                      refine b_X4_partOf_86 (by first | omega | assumption) (by first | omega | assumption) (by first | omega | assumption) (by first | omega | assumption) ?_
                                                      exact JE (by first | rfl | omega | exact (hE x (by omega) (by omega)).symm | (rw [hE x (by omega) (by omega)]; done) | (rw [hwb.2.2, hE x (by omega) (by omega)]; done) | exact (pl_congr hE (by omega) (by omega)).symm | (rw [pl_congr hE (show 0 ≤ x by omega) (by omega), pl_congr hE (show 0 ≤ x - x % 4 by omega) (by omega), show x / 4 * 4 = x - x % 4 by omega])) hI)
                                                 · first
                                                   | exact absurd d_37 (by omega)
                                                   | (refine b_X4_partOf_88 (by first | omega | assumption) ?_
                                                      refine s_X4_lower hM (by omega) (by omega) ?_
                                                      refine b_X4_partOf_94  ?_
                                                      exact JE (by first | rfl | omega | exact (hE x (by omega) (by omega)).symm | (rw [hE x (by omega) (by omega)]; done) | (rw [hwb.2.2, hE x (by omega) (by omega)]; done) | exact (pl_congr hE (by omega) (by omega)).symm | (rw [pl_congr hE (show 0 ≤ x by omega) (by omega), pl_congr hE (show 0 ≤ x - x % 4 by omega) (by omega), show x / 4 * 4 = x - x % 4 by omega])) hI)
                                                 · first
                                                   | exact absurd d_37 (by omega)
                                                   | (refine b_X4_partOf_95 (by first | omega | assumption) ?_
                                                      refine s_X4_placeOf hM (by omega) (by omega) ?_
                                                      refine b_X4_partOf_101  ?_
                                                      exact JE (by first | rfl | omega | exact (hE x (by omega) (by omega)).symm | (rw [hE x (by omega) (by omega)]; done) | (rw [hwb.2.2, hE x (by omega) (by omega)]; done) | exact (pl_congr hE (by omega) (by omega)).symm | (rw [pl_congr hE (show 0 ≤ x by omega) (by omega), pl_congr hE (show 0 ≤ x - x % 4 by omega) (by omega), show x / 4 * 4 = x - x % 4 by omega])) hI)
                                                 · first
                                                   | exact absurd d_37 (by omega)
                                                   | (refine b_X4_partOf_102 (by first | omega | assumption) ?_
                                                      refine s_X4_placeOf hM (by omega) (by omega) ?_
                                                      refine b_X4_partOf_108 (by first | omega | assumption) (by first | omega | assumption) (by first | omega | assumption) ?_
                                                      refine s_X4_placeOf hM (by omega) (by omega) ?_
                                                      refine b_X4_partOf_118  ?_
                                                      exact JE (by first | rfl | omega | exact (hE x (by omega) (by omega)).symm | (rw [hE x (by omega) (by omega)]; done) | (rw [hwb.2.2, hE x (by omega) (by omega)]; done) | exact (pl_congr hE (by omega) (by omega)).symm | (rw [pl_congr hE (show 0 ≤ x by omega) (by omega), pl_congr hE (show 0 ≤ x - x % 4 by omega) (by omega), show x / 4 * 4 = x - x % 4 by omega])) hI))
                                            · first
                                              | exact absurd d_31 (by omega)
                                              | (refine b_X4_partOf_34  ?_
                                                 exact JE (by first | rfl | omega | exact (hE x (by omega) (by omega)).symm | (rw [hE x (by omega) (by omega)]; done) | (rw [hwb.2.2, hE x (by omega) (by omega)]; done) | exact (pl_congr hE (by omega) (by omega)).symm | (rw [pl_congr hE (show 0 ≤ x by omega) (by omega), pl_congr hE (show 0 ≤ x - x % 4 by omega) (by omega), show x / 4 * 4 = x - x % 4 by omega])) hI))
                                       · first
                                         | exact absurd d_19 (by omega)
                                         | (refine b_X4_partOf_22  ?_
                                            exact JE (by first | rfl | omega | exact (hE x (by omega) (by omega)).symm | (rw [hE x (by omega) (by omega)]; done) | (rw [hwb.2.2, hE x (by omega) (by omega)]; done) | exact (pl_congr hE (by omega) (by omega)).symm | (rw [pl_congr hE (show 0 ≤ x by omega) (by omega), pl_congr hE (show 0 ≤ x - x % 4 by omega) (by omega), show x / 4 * 4 = x - x % 4 by omega])) hI))))
                        · first
                          | exact absurd c_48 (by omega)
                          | (refine b_X3_partOf_83 (by first | omega | assumption) ?_
                             refine s_X1_upperPart hR (by omega) ?_
                             have hvd := dvp (k := wdn n b) (show 0 ≤ w (a + 1) x by omega)
                             refine b_X3_partOf_90  ?_
                             refine JQ.mk (by omega) ?_
                             refine b_X4_partOf_0  ?_
                             refine s_X4_in (by omega) (by omega) (by omega) (fun r hr => ?_)
                             refine b_X4_partOf_6 (by first | omega | assumption) (fun d_6 => ?_) (fun d_6 => ?_)
                             · first
                               | exact absurd d_6 (by omega)
                               | (refine b_X4_partOf_22  ?_
                                  exact JE (by first | rfl | omega | exact (hE x (by omega) (by omega)).symm | (rw [hE x (by omega) (by omega)]; done) | (rw [hwb.2.2, hE x (by omega) (by omega)]; done) | exact (pl_congr hE (by omega) (by omega)).symm | (rw [pl_congr hE (show 0 ≤ x by omega) (by omega), pl_congr hE (show 0 ≤ x - x % 4 by omega) (by omega), show x / 4 * 4 = x - x % 4 by omega])) hI)
                             · first
                               | exact absurd d_6 (by omega)
                               | (refine b_X4_partOf_9 (by first | omega | assumption) (fun d_9 => ?_) (fun d_9 => ?_)
                                  · first
                                    | exact absurd d_9 (by omega)
                                    | (refine b_X4_partOf_22  ?_
                                       exact JE (by first | rfl | omega | exact (hE x (by omega) (by omega)).symm | (rw [hE x (by omega) (by omega)]; done) | (rw [hwb.2.2, hE x (by omega) (by omega)]; done) | exact (pl_congr hE (by omega) (by omega)).symm | (rw [pl_congr hE (show 0 ≤ x by omega) (by omega), pl_congr hE (show 0 ≤ x - x % 4 by omega) (by omega), show x / 4 * 4 = x - x % 4 by omega])) hI)
                                  · first
                                    | exact absurd d_9 (by omega)
                                    | (refine b_X4_partOf_13  ?_
                                       refine s_X4_in (by omega) (by omega) (by omega) (fun r hr => ?_)
                                       refine b_X4_partOf_19 (by first | omega | assumption) (fun d_19 => ?_) (fun d_19 => ?_)
                                       · first
                                         | exact absurd d_19 (by omega)
                                         | (refine b_X4_partOf_25 (by first | omega | assumption) ?_
                                            refine s_X4_many hM ?_
                                            refine b_X4_partOf_31 (by first | omega | assumption) (by first | omega | assumption) (fun d_31 => ?_) (fun d_31 => ?_)
                                            · first
                                              | exact absurd d_31 (by omega)
                                              | (refine b_X4_partOf_37 (by first | omega | assumption) (fun d_37 => ?_) (fun d_37 => ?_) (fun d_37 => ?_) (fun d_37 => ?_) (fun d_37 => ?_)
                                                 · first
                                                   | exact absurd d_37 (by omega)
                                                   | (refine b_X4_partOf_68 (by first | omega | assumption) ?_
                                                      refine s_X4_number hM (by omega) (by omega) ?_
                                                      refine b_X4_partOf_74  ?_
                                                      exact JE (by first | rfl | omega | exact (hE x (by omega) (by omega)).symm | (rw [hE x (by omega) (by omega)]; done) | (rw [hwb.2.2, hE x (by omega) (by omega)]; done) | exact (pl_congr hE (by omega) (by omega)).symm | (rw [pl_congr hE (show 0 ≤ x by omega) (by omega), pl_congr hE (show 0 ≤ x - x % 4 by omega) (by omega), show x / 4 * 4 = x - x % 4 by omega])) hI)
                                                 · first
                                                   | exact absurd d_37 (by omega)
                                                   | (refine b_X4_partOf_75 (by first | omega | assumption) ?_
                                                      refine s_X4_number hM (by omega) (by omega) ?_
                                                      have hvx2 : 0 ≤ mf w q x := (hV.1 x (by omega) (by omega)).1
                                                      have hvx3 := (hV.1 x (by omega) (by omega)).2
                                                      refine b_X4_partOf_81 (by first | omega | assumption) ?_
                                                      refine s_X4_width hM ?_
                                                      refine b_X4_partOf_86 (by first | omega | assumption) (by first | omega | assumption) (by first | omega | assumption) (by first | omega | assumption) ?_
                                                      exact JE (by first | rfl | omega | exact (hE x (by omega) (by omega)).symm | (rw [hE x (by omega) (by omega)]; done) | (rw [hwb.2.2, hE x (by omega) (by omega)]; done) | exact (pl_congr hE (by omega) (by omega)).symm | (rw [pl_congr hE (show 0 ≤ x by omega) (by omega), pl_congr hE (show 0 ≤ x - x % 4 by omega) (by omega), show x / 4 * 4 = x - x % 4 by omega])) hI)
                                                 · first
                                                   | exact absurd d_37 (by omega)
                                                   | (refine b_X4_partOf_88 (by first | omega | assumption) ?_
                                                      refine s_X4_lower hM (by omega) (by omega) ?_
                                                      refine b_X4_partOf_94  ?_
                                                      exact JE (by first | rfl | omega | exact (hE x (by omega) (by omega)).symm | (rw [hE x (by omega) (by omega)]; done) | (rw [hwb.2.2, hE x (by omega) (by omega)]; done) | exact (pl_congr hE (by omega) (by omega)).symm | (rw [pl_congr hE (show 0 ≤ x by omega) (by omega), pl_congr hE (show 0 ≤ x - x % 4 by omega) (by omega), show x / 4 * 4 = x - x % 4 by omega])) hI)
                                                 · first
                                                   | exact absurd d_37 (by omega)
                                                   | (refine b_X4_partOf_95 (by first | omega | assumption) ?_
                                                      refine s_X4_placeOf hM (by omega) (by omega) ?_
                                                      refine b_X4_partOf_101  ?_
                                                      exact JE (by first | rfl | omega | exact (hE x (by omega) (by omega)).symm | (rw [hE x (by omega) (by omega)]; done) | (rw [hwb.2.2, hE x (by omega) (by omega)]; done) | exact (pl_congr hE (by omega) (by omega)).symm | (rw [pl_congr hE (show 0 ≤ x by omega) (by omega), pl_congr hE (show 0 ≤ x - x % 4 by omega) (by omega), show x / 4 * 4 = x - x % 4 by omega])) hI)
                                                 · first
                                                   | exact absurd d_37 (by omega)
                                                   | (refine b_X4_partOf_102 (by first | omega | assumption) ?_
                                                      refine s_X4_placeOf hM (by omega) (by omega) ?_
                                                      refine b_X4_partOf_108 (by first | omega | assumption) (by first | omega | assumption) (by first | omega | assumption) ?_
                                                      refine s_X4_placeOf hM (by omega) (by omega) ?_
                                                      refine b_X4_partOf_118  ?_
                                                      exact JE (by first | rfl | omega | exact (hE x (by omega) (by omega)).symm | (rw [hE x (by omega) (by omega)]; done) | (rw [hwb.2.2, hE x (by omega) (by omega)]; done) | exact (pl_congr hE (by omega) (by omega)).symm | (rw [pl_congr hE (show 0 ≤ x by omega) (by omega), pl_congr hE (show 0 ≤ x - x % 4 by omega) (by omega), show x / 4 * 4 = x - x % 4 by omega])) hI))
                                            · first
                                              | exact absurd d_31 (by omega)
                                              | (refine b_X4_partOf_34  ?_
                                                 exact JE (by first | rfl | omega | exact (hE x (by omega) (by omega)).symm | (rw [hE x (by omega) (by omega)]; done) | (rw [hwb.2.2, hE x (by omega) (by omega)]; done) | exact (pl_congr hE (by omega) (by omega)).symm | (rw [pl_congr hE (show 0 ≤ x by omega) (by omega), pl_congr hE (show 0 ≤ x - x % 4 by omega) (by omega), show x / 4 * 4 = x - x % 4 by omega])) hI))
                                       · first
                                         | exact absurd d_19 (by omega)
                                         | (refine b_X4_partOf_22  ?_
                                            exact JE (by first | rfl | omega | exact (hE x (by omega) (by omega)).symm | (rw [hE x (by omega) (by omega)]; done) | (rw [hwb.2.2, hE x (by omega) (by omega)]; done) | exact (pl_congr hE (by omega) (by omega)).symm | (rw [pl_congr hE (show 0 ≤ x by omega) (by omega), pl_congr hE (show 0 ≤ x - x % 4 by omega) (by omega), show x / 4 * 4 = x - x % 4 by omega])) hI))))
                        · first
                          | exact absurd c_48 (by omega)
                          | (refine b_X3_partOf_91 (by first | omega | assumption) ?_
                             refine s_X1_lowerPart hR (by omega) ?_
                             have hem := Int.emod_nonneg (w (a + 1) x) (Int.ne_of_gt hpw.1)
                             have hem2 := Int.emod_lt_of_pos (w (a + 1) x) hpw.1
                             refine b_X3_partOf_98  ?_
                             refine JQ.mk (by omega) ?_
                             refine b_X4_partOf_0  ?_
                             refine s_X4_in (by omega) (by omega) (by omega) (fun r hr => ?_)
                             refine b_X4_partOf_6 (by first | omega | assumption) (fun d_6 => ?_) (fun d_6 => ?_)
                             · first
                               | exact absurd d_6 (by omega)
                               | (refine b_X4_partOf_22  ?_
                                  exact JE (by first | rfl | omega | exact (hE x (by omega) (by omega)).symm | (rw [hE x (by omega) (by omega)]; done) | (rw [hwb.2.2, hE x (by omega) (by omega)]; done) | exact (pl_congr hE (by omega) (by omega)).symm | (rw [pl_congr hE (show 0 ≤ x by omega) (by omega), pl_congr hE (show 0 ≤ x - x % 4 by omega) (by omega), show x / 4 * 4 = x - x % 4 by omega])) hI)
                             · first
                               | exact absurd d_6 (by omega)
                               | (refine b_X4_partOf_9 (by first | omega | assumption) (fun d_9 => ?_) (fun d_9 => ?_)
                                  · first
                                    | exact absurd d_9 (by omega)
                                    | (refine b_X4_partOf_22  ?_
                                       exact JE (by first | rfl | omega | exact (hE x (by omega) (by omega)).symm | (rw [hE x (by omega) (by omega)]; done) | (rw [hwb.2.2, hE x (by omega) (by omega)]; done) | exact (pl_congr hE (by omega) (by omega)).symm | (rw [pl_congr hE (show 0 ≤ x by omega) (by omega), pl_congr hE (show 0 ≤ x - x % 4 by omega) (by omega), show x / 4 * 4 = x - x % 4 by omega])) hI)
                                  · first
                                    | exact absurd d_9 (by omega)
                                    | (refine b_X4_partOf_13  ?_
                                       refine s_X4_in (by omega) (by omega) (by omega) (fun r hr => ?_)
                                       refine b_X4_partOf_19 (by first | omega | assumption) (fun d_19 => ?_) (fun d_19 => ?_)
                                       · first
                                         | exact absurd d_19 (by omega)
                                         | (refine b_X4_partOf_25 (by first | omega | assumption) ?_
                                            refine s_X4_many hM ?_
                                            refine b_X4_partOf_31 (by first | omega | assumption) (by first | omega | assumption) (fun d_31 => ?_) (fun d_31 => ?_)
                                            · first
                                              | exact absurd d_31 (by omega)
                                              | (refine b_X4_partOf_37 (by first | omega | assumption) (fun d_37 => ?_) (fun d_37 => ?_) (fun d_37 => ?_) (fun d_37 => ?_) (fun d_37 => ?_)
                                                 · first
                                                   | exact absurd d_37 (by omega)
                                                   | (refine b_X4_partOf_68 (by first | omega | assumption) ?_
                                                      refine s_X4_number hM (by omega) (by omega) ?_
                                                      refine b_X4_partOf_74  ?_
                                                      exact JE (by first | rfl | omega | exact (hE x (by omega) (by omega)).symm | (rw [hE x (by omega) (by omega)]; done) | (rw [hwb.2.2, hE x (by omega) (by omega)]; done) | exact (pl_congr hE (by omega) (by omega)).symm | (rw [pl_congr hE (show 0 ≤ x by omega) (by omega), pl_congr hE (show 0 ≤ x - x % 4 by omega) (by omega), show x / 4 * 4 = x - x % 4 by omega])) hI)
                                                 · first
                                                   | exact absurd d_37 (by omega)
                                                   | (refine b_X4_partOf_75 (by first | omega | assumption) ?_
                                                      refine s_X4_number hM (by omega) (by omega) ?_
                                                      have hvx2 : 0 ≤ mf w q x := (hV.1 x (by omega) (by omega)).1
                                                      have hvx3 := (hV.1 x (by omega) (by omega)).2
                                                      refine b_X4_partOf_81 (by first | omega | assumption) ?_
                                                      refine s_X4_width hM ?_
                                                      refine b_X4_partOf_86 (by first | omega | assumption) (by first | omega | assumption) (by first | omega | assumption) (by first | omega | assumption) ?_
                                                      exact JE (by first | rfl | omega | exact (hE x (by omega) (by omega)).symm | (rw [hE x (by omega) (by omega)]; done) | (rw [hwb.2.2, hE x (by omega) (by omega)]; done) | exact (pl_congr hE (by omega) (by omega)).symm | (rw [pl_congr hE (show 0 ≤ x by omega) (by omega), pl_congr hE (show 0 ≤ x - x % 4 by omega) (by omega), show x / 4 * 4 = x - x % 4 by omega])) hI)
                                                 · first
                                                   | exact absurd d_37 (by omega)
                                                   | (refine b_X4_partOf_88 (by first | omega | assumption) ?_
                                                      refine s_X4_lower hM (by omega) (by omega) ?_
                                                      refine b_X4_partOf_94  ?_
                                                      exact JE (by first | rfl | omega | exact (hE x (by omega) (by omega)).symm | (rw [hE x (by omega) (by omega)]; done) | (rw [hwb.2.2, hE x (by omega) (by omega)]; done) | exact (pl_congr hE (by omega) (by omega)).symm | (rw [pl_congr hE (show 0 ≤ x by omega) (by omega), pl_congr hE (show 0 ≤ x - x % 4 by omega) (by omega), show x / 4 * 4 = x - x % 4 by omega])) hI)
                                                 · first
                                                   | exact absurd d_37 (by omega)
                                                   | (refine b_X4_partOf_95 (by first | omega | assumption) ?_
                                                      refine s_X4_placeOf hM (by omega) (by omega) ?_
                                                      refine b_X4_partOf_101  ?_
                                                      exact JE (by first | rfl | omega | exact (hE x (by omega) (by omega)).symm | (rw [hE x (by omega) (by omega)]; done) | (rw [hwb.2.2, hE x (by omega) (by omega)]; done) | exact (pl_congr hE (by omega) (by omega)).symm | (rw [pl_congr hE (show 0 ≤ x by omega) (by omega), pl_congr hE (show 0 ≤ x - x % 4 by omega) (by omega), show x / 4 * 4 = x - x % 4 by omega])) hI)
                                                 · first
                                                   | exact absurd d_37 (by omega)
                                                   | (refine b_X4_partOf_102 (by first | omega | assumption) ?_
                                                      refine s_X4_placeOf hM (by omega) (by omega) ?_
                                                      refine b_X4_partOf_108 (by first | omega | assumption) (by first | omega | assumption) (by first | omega | assumption) ?_
                                                      refine s_X4_placeOf hM (by omega) (by omega) ?_
                                                      refine b_X4_partOf_118  ?_
                                                      exact JE (by first | rfl | omega | exact (hE x (by omega) (by omega)).symm | (rw [hE x (by omega) (by omega)]; done) | (rw [hwb.2.2, hE x (by omega) (by omega)]; done) | exact (pl_congr hE (by omega) (by omega)).symm | (rw [pl_congr hE (show 0 ≤ x by omega) (by omega), pl_congr hE (show 0 ≤ x - x % 4 by omega) (by omega), show x / 4 * 4 = x - x % 4 by omega])) hI))
                                            · first
                                              | exact absurd d_31 (by omega)
                                              | (refine b_X4_partOf_34  ?_
                                                 exact JE (by first | rfl | omega | exact (hE x (by omega) (by omega)).symm | (rw [hE x (by omega) (by omega)]; done) | (rw [hwb.2.2, hE x (by omega) (by omega)]; done) | exact (pl_congr hE (by omega) (by omega)).symm | (rw [pl_congr hE (show 0 ≤ x by omega) (by omega), pl_congr hE (show 0 ≤ x - x % 4 by omega) (by omega), show x / 4 * 4 = x - x % 4 by omega])) hI))
                                       · first
                                         | exact absurd d_19 (by omega)
                                         | (refine b_X4_partOf_22  ?_
                                            exact JE (by first | rfl | omega | exact (hE x (by omega) (by omega)).symm | (rw [hE x (by omega) (by omega)]; done) | (rw [hwb.2.2, hE x (by omega) (by omega)]; done) | exact (pl_congr hE (by omega) (by omega)).symm | (rw [pl_congr hE (show 0 ≤ x by omega) (by omega), pl_congr hE (show 0 ≤ x - x % 4 by omega) (by omega), show x / 4 * 4 = x - x % 4 by omega])) hI))))
                        · first
                          | exact absurd c_48 (by omega)
                          | (refine b_X3_partOf_99 (by first | omega | assumption) ?_
                             refine s_X1_placeOfOne hR (by omega) (by omega) ?_
                             have hpb := (pl_congr hE (show 0 ≤ x by omega) (by omega)) ▸ pl_ub hV (show 0 ≤ x by omega) (show x < n by omega)
                             refine b_X3_partOf_105  ?_
                             refine JQ.mk (by omega) ?_
                             refine b_X4_partOf_0  ?_
                             refine s_X4_in (by omega) (by omega) (by omega) (fun r hr => ?_)
                             refine b_X4_partOf_6 (by first | omega | assumption) (fun d_6 => ?_) (fun d_6 => ?_)
                             · first
                               | exact absurd d_6 (by omega)
                               | (refine b_X4_partOf_22  ?_
                                  exact JE (by first | rfl | omega | exact (hE x (by omega) (by omega)).symm | (rw [hE x (by omega) (by omega)]; done) | (rw [hwb.2.2, hE x (by omega) (by omega)]; done) | exact (pl_congr hE (by omega) (by omega)).symm | (rw [pl_congr hE (show 0 ≤ x by omega) (by omega), pl_congr hE (show 0 ≤ x - x % 4 by omega) (by omega), show x / 4 * 4 = x - x % 4 by omega])) hI)
                             · first
                               | exact absurd d_6 (by omega)
                               | (refine b_X4_partOf_9 (by first | omega | assumption) (fun d_9 => ?_) (fun d_9 => ?_)
                                  · first
                                    | exact absurd d_9 (by omega)
                                    | (refine b_X4_partOf_22  ?_
                                       exact JE (by first | rfl | omega | exact (hE x (by omega) (by omega)).symm | (rw [hE x (by omega) (by omega)]; done) | (rw [hwb.2.2, hE x (by omega) (by omega)]; done) | exact (pl_congr hE (by omega) (by omega)).symm | (rw [pl_congr hE (show 0 ≤ x by omega) (by omega), pl_congr hE (show 0 ≤ x - x % 4 by omega) (by omega), show x / 4 * 4 = x - x % 4 by omega])) hI)
                                  · first
                                    | exact absurd d_9 (by omega)
                                    | (refine b_X4_partOf_13  ?_
                                       refine s_X4_in (by omega) (by omega) (by omega) (fun r hr => ?_)
                                       refine b_X4_partOf_19 (by first | omega | assumption) (fun d_19 => ?_) (fun d_19 => ?_)
                                       · first
                                         | exact absurd d_19 (by omega)
                                         | (refine b_X4_partOf_25 (by first | omega | assumption) ?_
                                            refine s_X4_many hM ?_
                                            refine b_X4_partOf_31 (by first | omega | assumption) (by first | omega | assumption) (fun d_31 => ?_) (fun d_31 => ?_)
                                            · first
                                              | exact absurd d_31 (by omega)
                                              | (refine b_X4_partOf_37 (by first | omega | assumption) (fun d_37 => ?_) (fun d_37 => ?_) (fun d_37 => ?_) (fun d_37 => ?_) (fun d_37 => ?_)
                                                 · first
                                                   | exact absurd d_37 (by omega)
                                                   | (refine b_X4_partOf_68 (by first | omega | assumption) ?_
                                                      refine s_X4_number hM (by omega) (by omega) ?_
                                                      refine b_X4_partOf_74  ?_
                                                      exact JE (by first | rfl | omega | exact (hE x (by omega) (by omega)).symm | (rw [hE x (by omega) (by omega)]; done) | (rw [hwb.2.2, hE x (by omega) (by omega)]; done) | exact (pl_congr hE (by omega) (by omega)).symm | (rw [pl_congr hE (show 0 ≤ x by omega) (by omega), pl_congr hE (show 0 ≤ x - x % 4 by omega) (by omega), show x / 4 * 4 = x - x % 4 by omega])) hI)
                                                 · first
                                                   | exact absurd d_37 (by omega)
                                                   | (refine b_X4_partOf_75 (by first | omega | assumption) ?_
                                                      refine s_X4_number hM (by omega) (by omega) ?_
                                                      have hvx2 : 0 ≤ mf w q x := (hV.1 x (by omega) (by omega)).1
                                                      have hvx3 := (hV.1 x (by omega) (by omega)).2
                                                      refine b_X4_partOf_81 (by first | omega | assumption) ?_
                                                      refine s_X4_width hM ?_
                                                      refine b_X4_partOf_86 (by first | omega | assumption) (by first | omega | assumption) (by first | omega | assumption) (by first | omega | assumption) ?_
                                                      exact JE (by first | rfl | omega | exact (hE x (by omega) (by omega)).symm | (rw [hE x (by omega) (by omega)]; done) | (rw [hwb.2.2, hE x (by omega) (by omega)]; done) | exact (pl_congr hE (by omega) (by omega)).symm | (rw [pl_congr hE (show 0 ≤ x by omega) (by omega), pl_congr hE (show 0 ≤ x - x % 4 by omega) (by omega), show x / 4 * 4 = x - x % 4 by omega])) hI)
                                                 · first
                                                   | exact absurd d_37 (by omega)
                                                   | (refine b_X4_partOf_88 (by first | omega | assumption) ?_
                                                      refine s_X4_lower hM (by omega) (by omega) ?_
                                                      refine b_X4_partOf_94  ?_
                                                      exact JE (by first | rfl | omega | exact (hE x (by omega) (by omega)).symm | (rw [hE x (by omega) (by omega)]; done) | (rw [hwb.2.2, hE x (by omega) (by omega)]; done) | exact (pl_congr hE (by omega) (by omega)).symm | (rw [pl_congr hE (show 0 ≤ x by omega) (by omega), pl_congr hE (show 0 ≤ x - x % 4 by omega) (by omega), show x / 4 * 4 = x - x % 4 by omega])) hI)
                                                 · first
                                                   | exact absurd d_37 (by omega)
                                                   | (refine b_X4_partOf_95 (by first | omega | assumption) ?_
                                                      refine s_X4_placeOf hM (by omega) (by omega) ?_
                                                      refine b_X4_partOf_101  ?_
                                                      exact JE (by first | rfl | omega | exact (hE x (by omega) (by omega)).symm | (rw [hE x (by omega) (by omega)]; done) | (rw [hwb.2.2, hE x (by omega) (by omega)]; done) | exact (pl_congr hE (by omega) (by omega)).symm | (rw [pl_congr hE (show 0 ≤ x by omega) (by omega), pl_congr hE (show 0 ≤ x - x % 4 by omega) (by omega), show x / 4 * 4 = x - x % 4 by omega])) hI)
                                                 · first
                                                   | exact absurd d_37 (by omega)
                                                   | (refine b_X4_partOf_102 (by first | omega | assumption) ?_
                                                      refine s_X4_placeOf hM (by omega) (by omega) ?_
                                                      refine b_X4_partOf_108 (by first | omega | assumption) (by first | omega | assumption) (by first | omega | assumption) ?_
                                                      refine s_X4_placeOf hM (by omega) (by omega) ?_
                                                      refine b_X4_partOf_118  ?_
                                                      exact JE (by first | rfl | omega | exact (hE x (by omega) (by omega)).symm | (rw [hE x (by omega) (by omega)]; done) | (rw [hwb.2.2, hE x (by omega) (by omega)]; done) | exact (pl_congr hE (by omega) (by omega)).symm | (rw [pl_congr hE (show 0 ≤ x by omega) (by omega), pl_congr hE (show 0 ≤ x - x % 4 by omega) (by omega), show x / 4 * 4 = x - x % 4 by omega])) hI))
                                            · first
                                              | exact absurd d_31 (by omega)
                                              | (refine b_X4_partOf_34  ?_
                                                 exact JE (by first | rfl | omega | exact (hE x (by omega) (by omega)).symm | (rw [hE x (by omega) (by omega)]; done) | (rw [hwb.2.2, hE x (by omega) (by omega)]; done) | exact (pl_congr hE (by omega) (by omega)).symm | (rw [pl_congr hE (show 0 ≤ x by omega) (by omega), pl_congr hE (show 0 ≤ x - x % 4 by omega) (by omega), show x / 4 * 4 = x - x % 4 by omega])) hI))
                                       · first
                                         | exact absurd d_19 (by omega)
                                         | (refine b_X4_partOf_22  ?_
                                            exact JE (by first | rfl | omega | exact (hE x (by omega) (by omega)).symm | (rw [hE x (by omega) (by omega)]; done) | (rw [hwb.2.2, hE x (by omega) (by omega)]; done) | exact (pl_congr hE (by omega) (by omega)).symm | (rw [pl_congr hE (show 0 ≤ x by omega) (by omega), pl_congr hE (show 0 ≤ x - x % 4 by omega) (by omega), show x / 4 * 4 = x - x % 4 by omega])) hI))))
                        · first
                          | exact absurd c_48 (by omega)
                          | (refine b_X3_partOf_106 (by first | omega | assumption) ?_
                             refine s_X1_placeOfOne hR (by omega) (by omega) ?_
                             have hpb := (pl_congr hE (show 0 ≤ x by omega) (by omega)) ▸ pl_ub hV (show 0 ≤ x by omega) (show x < n by omega)
                             refine b_X3_partOf_112  ?_
                             refine s_X3_sampledAhead (by omega) (by omega) ?_
                             refine b_X3_partOf_118 (by first | omega | assumption) ?_
                             refine s_X1_placeOfOne hR (by omega) (by omega) ?_
                             have hpb2 := (pl_congr hE (show 0 ≤ x - x % 4 by omega) (by omega)) ▸ pl_ub hV (show 0 ≤ x - x % 4 by omega) (show x - x % 4 < n by omega)
                             refine b_X3_partOf_121  ?_
                             refine JQ.mk (by omega) ?_
                             refine b_X4_partOf_0  ?_
                             refine s_X4_in (by omega) (by omega) (by omega) (fun r hr => ?_)
                             refine b_X4_partOf_6 (by first | omega | assumption) (fun d_6 => ?_) (fun d_6 => ?_)
                             · first
                               | exact absurd d_6 (by omega)
                               | (refine b_X4_partOf_22  ?_
                                  exact JE (by first | rfl | omega | exact (hE x (by omega) (by omega)).symm | (rw [hE x (by omega) (by omega)]; done) | (rw [hwb.2.2, hE x (by omega) (by omega)]; done) | exact (pl_congr hE (by omega) (by omega)).symm | (rw [pl_congr hE (show 0 ≤ x by omega) (by omega), pl_congr hE (show 0 ≤ x - x % 4 by omega) (by omega), show x / 4 * 4 = x - x % 4 by omega])) hI)
                             · first
                               | exact absurd d_6 (by omega)
                               | (refine b_X4_partOf_9 (by first | omega | assumption) (fun d_9 => ?_) (fun d_9 => ?_)
                                  · first
                                    | exact absurd d_9 (by omega)
                                    | (refine b_X4_partOf_22  ?_
                                       exact JE (by first | rfl | omega | exact (hE x (by omega) (by omega)).symm | (rw [hE x (by omega) (by omega)]; done) | (rw [hwb.2.2, hE x (by omega) (by omega)]; done) | exact (pl_congr hE (by omega) (by omega)).symm | (rw [pl_congr hE (show 0 ≤ x by omega) (by omega), pl_congr hE (show 0 ≤ x - x % 4 by omega) (by omega), show x / 4 * 4 = x - x % 4 by omega])) hI)
                                  · first
                                    | exact absurd d_9 (by omega)
                                    | (refine b_X4_partOf_13  ?_
                                       refine s_X4_in (by omega) (by omega) (by omega) (fun r hr => ?_)
                                       refine b_X4_partOf_19 (by first | omega | assumption) (fun d_19 => ?_) (fun d_19 => ?_)
                                       · first
                                         | exact absurd d_19 (by omega)
                                         | (refine b_X4_partOf_25 (by first | omega | assumption) ?_
                                            refine s_X4_many hM ?_
                                            refine b_X4_partOf_31 (by first | omega | assumption) (by first | omega | assumption) (fun d_31 => ?_) (fun d_31 => ?_)
                                            · first
                                              | exact absurd d_31 (by omega)
                                              | (refine b_X4_partOf_37 (by first | omega | assumption) (fun d_37 => ?_) (fun d_37 => ?_) (fun d_37 => ?_) (fun d_37 => ?_) (fun d_37 => ?_)
                                                 · first
                                                   | exact absurd d_37 (by omega)
                                                   | (refine b_X4_partOf_68 (by first | omega | assumption) ?_
                                                      refine s_X4_number hM (by omega) (by omega) ?_
                                                      refine b_X4_partOf_74  ?_
                                                      exact JE (by first | rfl | omega | exact (hE x (by omega) (by omega)).symm | (rw [hE x (by omega) (by omega)]; done) | (rw [hwb.2.2, hE x (by omega) (by omega)]; done) | exact (pl_congr hE (by omega) (by omega)).symm | (rw [pl_congr hE (show 0 ≤ x by omega) (by omega), pl_congr hE (show 0 ≤ x - x % 4 by omega) (by omega), show x / 4 * 4 = x - x % 4 by omega])) hI)
                                                 · first
                                                   | exact absurd d_37 (by omega)
                                                   | (refine b_X4_partOf_75 (by first | omega | assumption) ?_
                                                      refine s_X4_number hM (by omega) (by omega) ?_
                                                      have hvx2 : 0 ≤ mf w q x := (hV.1 x (by omega) (by omega)).1
                                                      have hvx3 := (hV.1 x (by omega) (by omega)).2
                                                      refine b_X4_partOf_81 (by first | omega | assumption) ?_
                                                      refine s_X4_width hM ?_
                                                      refine b_X4_partOf_86 (by first | omega | assumption) (by first | omega | assumption) (by first | omega | assumption) (by first | omega | assumption) ?_
                                                      exact JE (by first | rfl | omega | exact (hE x (by omega) (by omega)).symm | (rw [hE x (by omega) (by omega)]; done) | (rw [hwb.2.2, hE x (by omega) (by omega)]; done) | exact (pl_congr hE (by omega) (by omega)).symm | (rw [pl_congr hE (show 0 ≤ x by omega) (by omega), pl_congr hE (show 0 ≤ x - x % 4 by omega) (by omega), show x / 4 * 4 = x - x % 4 by omega])) hI)
                                                 · first
                                                   | exact absurd d_37 (by omega)
                                                   | (refine b_X4_partOf_88 (by first | omega | assumption) ?_
                                                      refine s_X4_lower hM (by omega) (by omega) ?_
                                                      refine b_X4_partOf_94  ?_
                                                      exact JE (by first | rfl | omega | exact (hE x (by omega) (by omega)).symm | (rw [hE x (by omega) (by omega)]; done) | (rw [hwb.2.2, hE x (by omega) (by omega)]; done) | exact (pl_congr hE (by omega) (by omega)).symm | (rw [pl_congr hE (show 0 ≤ x by omega) (by omega), pl_congr hE (show 0 ≤ x - x % 4 by omega) (by omega), show x / 4 * 4 = x - x % 4 by omega])) hI)
                                                 · first
                                                   | exact absurd d_37 (by omega)
                                                   | (refine b_X4_partOf_95 (by first | omega | assumption) ?_
                                                      refine s_X4_placeOf hM (by omega) (by omega) ?_
                                                      refine b_X4_partOf_101  ?_
                                                      exact JE (by first | rfl | omega | exact (hE x (by omega) (by omega)).symm | (rw [hE x (by omega) (by omega)]; done) | (rw [hwb.2.2, hE x (by omega) (by omega)]; done) | exact (pl_congr hE (by omega) (by omega)).symm | (rw [pl_congr hE (show 0 ≤ x by omega) (by omega), pl_congr hE (show 0 ≤ x - x % 4 by omega) (by omega), show x / 4 * 4 = x - x % 4 by omega])) hI)
                                                 · first
                                                   | exact absurd d_37 (by omega)
                                                   | (refine b_X4_partOf_102 (by first | omega | assumption) ?_
                                                      refine s_X4_placeOf hM (by omega) (by omega) ?_
                                                      refine b_X4_partOf_108 (by first | omega | assumption) (by first | omega | assumption) (by first | omega | assumption) ?_
                                                      refine s_X4_placeOf hM (by omega) (by omega) ?_
                                                      refine b_X4_partOf_118  ?_
                                                      exact JE (by first | rfl | omega | exact (hE x (by omega) (by omega)).symm | (rw [hE x (by omega) (by omega)]; done) | (rw [hwb.2.2, hE x (by omega) (by omega)]; done) | exact (pl_congr hE (by omega) (by omega)).symm | (rw [pl_congr hE (show 0 ≤ x by omega) (by omega), pl_congr hE (show 0 ≤ x - x % 4 by omega) (by omega), show x / 4 * 4 = x - x % 4 by omega])) hI))
                                            · first
                                              | exact absurd d_31 (by omega)
                                              | (refine b_X4_partOf_34  ?_
                                                 exact JE (by first | rfl | omega | exact (hE x (by omega) (by omega)).symm | (rw [hE x (by omega) (by omega)]; done) | (rw [hwb.2.2, hE x (by omega) (by omega)]; done) | exact (pl_congr hE (by omega) (by omega)).symm | (rw [pl_congr hE (show 0 ≤ x by omega) (by omega), pl_congr hE (show 0 ≤ x - x % 4 by omega) (by omega), show x / 4 * 4 = x - x % 4 by omega])) hI))
                                       · first
                                         | exact absurd d_19 (by omega)
                                         | (refine b_X4_partOf_22  ?_
                                            exact JE (by first | rfl | omega | exact (hE x (by omega) (by omega)).symm | (rw [hE x (by omega) (by omega)]; done) | (rw [hwb.2.2, hE x (by omega) (by omega)]; done) | exact (pl_congr hE (by omega) (by omega)).symm | (rw [pl_congr hE (show 0 ≤ x by omega) (by omega), pl_congr hE (show 0 ≤ x - x % 4 by omega) (by omega), show x / 4 * 4 = x - x % 4 by omega])) hI)))))
                   · first
                     | exact absurd c_28 (by omega)
                     | (refine b_X3_partOf_39  ?_
                        refine JQ.mk (by omega) ?_
                        refine b_X4_partOf_0  ?_
                        refine s_X4_in (by omega) (by omega) (by omega) (fun r hr => ?_)
                        refine b_X4_partOf_6 (by first | omega | assumption) (fun d_6 => ?_) (fun d_6 => ?_)
                        · first
                          | exact absurd d_6 (by omega)
                          | (refine b_X4_partOf_22  ?_
                             exact JE (by first | rfl | omega | exact (hE x (by omega) (by omega)).symm | (rw [hE x (by omega) (by omega)]; done) | (rw [hwb.2.2, hE x (by omega) (by omega)]; done) | exact (pl_congr hE (by omega) (by omega)).symm | (rw [pl_congr hE (show 0 ≤ x by omega) (by omega), pl_congr hE (show 0 ≤ x - x % 4 by omega) (by omega), show x / 4 * 4 = x - x % 4 by omega])) hI)
                        · first
                          | exact absurd d_6 (by omega)
                          | (refine b_X4_partOf_9 (by first | omega | assumption) (fun d_9 => ?_) (fun d_9 => ?_)
                             · first
                               | exact absurd d_9 (by omega)
                               | (refine b_X4_partOf_22  ?_
                                  exact JE (by first | rfl | omega | exact (hE x (by omega) (by omega)).symm | (rw [hE x (by omega) (by omega)]; done) | (rw [hwb.2.2, hE x (by omega) (by omega)]; done) | exact (pl_congr hE (by omega) (by omega)).symm | (rw [pl_congr hE (show 0 ≤ x by omega) (by omega), pl_congr hE (show 0 ≤ x - x % 4 by omega) (by omega), show x / 4 * 4 = x - x % 4 by omega])) hI)
                             · first
                               | exact absurd d_9 (by omega)
                               | (refine b_X4_partOf_13  ?_
                                  refine s_X4_in (by omega) (by omega) (by omega) (fun r hr => ?_)
                                  refine b_X4_partOf_19 (by first | omega | assumption) (fun d_19 => ?_) (fun d_19 => ?_)
                                  · first
                                    | exact absurd d_19 (by omega)
                                    | (refine b_X4_partOf_25 (by first | omega | assumption) ?_
                                       refine s_X4_many hM ?_
                                       refine b_X4_partOf_31 (by first | omega | assumption) (by first | omega | assumption) (fun d_31 => ?_) (fun d_31 => ?_)
                                       · first
                                         | exact absurd d_31 (by omega)
                                         | (refine b_X4_partOf_37 (by first | omega | assumption) (fun d_37 => ?_) (fun d_37 => ?_) (fun d_37 => ?_) (fun d_37 => ?_) (fun d_37 => ?_)
                                            · first
                                              | exact absurd d_37 (by omega)
                                              | (refine b_X4_partOf_68 (by first | omega | assumption) ?_
                                                 refine s_X4_number hM (by omega) (by omega) ?_
                                                 refine b_X4_partOf_74  ?_
                                                 exact JE (by first | rfl | omega | exact (hE x (by omega) (by omega)).symm | (rw [hE x (by omega) (by omega)]; done) | (rw [hwb.2.2, hE x (by omega) (by omega)]; done) | exact (pl_congr hE (by omega) (by omega)).symm | (rw [pl_congr hE (show 0 ≤ x by omega) (by omega), pl_congr hE (show 0 ≤ x - x % 4 by omega) (by omega), show x / 4 * 4 = x - x % 4 by omega])) hI)
                                            · first
                                              | exact absurd d_37 (by omega)
                                              | (refine b_X4_partOf_75 (by first | omega | assumption) ?_
                                                 refine s_X4_number hM (by omega) (by omega) ?_
                                                 have hvx2 : 0 ≤ mf w q x := (hV.1 x (by omega) (by omega)).1
                                                 have hvx3 := (hV.1 x (by omega) (by omega)).2
                                                 refine b_X4_partOf_81 (by first | omega | assumption) ?_
                                                 refine s_X4_width hM ?_
                                                 refine b_X4_partOf_86 (by first | omega | assumption) (by first | omega | assumption) (by first | omega | assumption) (by first | omega | assumption) ?_
                                                 exact JE (by first | rfl | omega | exact (hE x (by omega) (by omega)).symm | (rw [hE x (by omega) (by omega)]; done) | (rw [hwb.2.2, hE x (by omega) (by omega)]; done) | exact (pl_congr hE (by omega) (by omega)).symm | (rw [pl_congr hE (show 0 ≤ x by omega) (by omega), pl_congr hE (show 0 ≤ x - x % 4 by omega) (by omega), show x / 4 * 4 = x - x % 4 by omega])) hI)
                                            · first
                                              | exact absurd d_37 (by omega)
                                              | (refine b_X4_partOf_88 (by first | omega | assumption) ?_
                                                 refine s_X4_lower hM (by omega) (by omega) ?_
                                                 refine b_X4_partOf_94  ?_
                                                 exact JE (by first | rfl | omega | exact (hE x (by omega) (by omega)).symm | (rw [hE x (by omega) (by omega)]; done) | (rw [hwb.2.2, hE x (by omega) (by omega)]; done) | exact (pl_congr hE (by omega) (by omega)).symm | (rw [pl_congr hE (show 0 ≤ x by omega) (by omega), pl_congr hE (show 0 ≤ x - x % 4 by omega) (by omega), show x / 4 * 4 = x - x % 4 by omega])) hI)
                                            · first
                                              | exact absurd d_37 (by omega)
                                              | (refine b_X4_partOf_95 (by first | omega | assumption) ?_
                                                 refine s_X4_placeOf hM (by omega) (by omega) ?_
                                                 refine b_X4_partOf_101  ?_
                                                 exact JE (by first | rfl | omega | exact (hE x (by omega) (by omega)).symm | (rw [hE x (by omega) (by omega)]; done) | (rw [hwb.2.2, hE x (by omega) (by omega)]; done) | exact (pl_congr hE (by omega) (by omega)).symm | (rw [pl_congr hE (show 0 ≤ x by omega) (by omega), pl_congr hE (show 0 ≤ x - x % 4 by omega) (by omega), show x / 4 * 4 = x - x % 4 by omega])) hI)
                                            · first
                                              | exact absurd d_37 (by omega)
                                              | (refine b_X4_partOf_102 (by first | omega | assumption) ?_
                                                 refine s_X4_placeOf hM (by omega) (by omega) ?_
                                                 refine b_X4_partOf_108 (by first | omega | assumption) (by first | omega | assumption) (by first | omega | assumption) ?_
                                                 refine s_X4_placeOf hM (by omega) (by omega) ?_
                                                 refine b_X4_partOf_118  ?_
                                                 exact JE (by first | rfl | omega | exact (hE x (by omega) (by omega)).symm | (rw [hE x (by omega) (by omega)]; done) | (rw [hwb.2.2, hE x (by omega) (by omega)]; done) | exact (pl_congr hE (by omega) (by omega)).symm | (rw [pl_congr hE (show 0 ≤ x by omega) (by omega), pl_congr hE (show 0 ≤ x - x % 4 by omega) (by omega), show x / 4 * 4 = x - x % 4 by omega])) hI))
                                       · first
                                         | exact absurd d_31 (by omega)
                                         | (refine b_X4_partOf_34  ?_
                                            exact JE (by first | rfl | omega | exact (hE x (by omega) (by omega)).symm | (rw [hE x (by omega) (by omega)]; done) | (rw [hwb.2.2, hE x (by omega) (by omega)]; done) | exact (pl_congr hE (by omega) (by omega)).symm | (rw [pl_congr hE (show 0 ≤ x by omega) (by omega), pl_congr hE (show 0 ≤ x - x % 4 by omega) (by omega), show x / 4 * 4 = x - x % 4 by omega])) hI))
                                  · first
                                    | exact absurd d_19 (by omega)
                                    | (refine b_X4_partOf_22  ?_
                                       exact JE (by first | rfl | omega | exact (hE x (by omega) (by omega)).symm | (rw [hE x (by omega) (by omega)]; done) | (rw [hwb.2.2, hE x (by omega) (by omega)]; done) | exact (pl_congr hE (by omega) (by omega)).symm | (rw [pl_congr hE (show 0 ≤ x by omega) (by omega), pl_congr hE (show 0 ≤ x - x % 4 by omega) (by omega), show x / 4 * 4 = x - x % 4 by omega])) hI)))))
              · first
                | exact absurd c_17 (by omega)
                | (refine b_X3_partOf_20  ?_
                   refine JQ.mk (by omega) ?_
                   refine b_X4_partOf_0  ?_
                   refine s_X4_in (by omega) (by omega) (by omega) (fun r hr => ?_)
                   refine b_X4_partOf_6 (by first | omega | assumption) (fun d_6 => ?_) (fun d_6 => ?_)
                   · first
                     | exact absurd d_6 (by omega)
                     | (refine b_X4_partOf_22  ?_
                        exact JE (by first | rfl | omega | exact (hE x (by omega) (by omega)).symm | (rw [hE x (by omega) (by omega)]; done) | (rw [hwb.2.2, hE x (by omega) (by omega)]; done) | exact (pl_congr hE (by omega) (by omega)).symm | (rw [pl_congr hE (show 0 ≤ x by omega) (by omega), pl_congr hE (show 0 ≤ x - x % 4 by omega) (by omega), show x / 4 * 4 = x - x % 4 by omega])) hI)
                   · first
                     | exact absurd d_6 (by omega)
                     | (refine b_X4_partOf_9 (by first | omega | assumption) (fun d_9 => ?_) (fun d_9 => ?_)
                        · first
                          | exact absurd d_9 (by omega)
                          | (refine b_X4_partOf_22  ?_
                             exact JE (by first | rfl | omega | exact (hE x (by omega) (by omega)).symm | (rw [hE x (by omega) (by omega)]; done) | (rw [hwb.2.2, hE x (by omega) (by omega)]; done) | exact (pl_congr hE (by omega) (by omega)).symm | (rw [pl_congr hE (show 0 ≤ x by omega) (by omega), pl_congr hE (show 0 ≤ x - x % 4 by omega) (by omega), show x / 4 * 4 = x - x % 4 by omega])) hI)
                        · first
                          | exact absurd d_9 (by omega)
                          | (refine b_X4_partOf_13  ?_
                             refine s_X4_in (by omega) (by omega) (by omega) (fun r hr => ?_)
                             refine b_X4_partOf_19 (by first | omega | assumption) (fun d_19 => ?_) (fun d_19 => ?_)
                             · first
                               | exact absurd d_19 (by omega)
                               | (refine b_X4_partOf_25 (by first | omega | assumption) ?_
                                  refine s_X4_many hM ?_
                                  refine b_X4_partOf_31 (by first | omega | assumption) (by first | omega | assumption) (fun d_31 => ?_) (fun d_31 => ?_)
                                  · first
                                    | exact absurd d_31 (by omega)
                                    | (refine b_X4_partOf_37 (by first | omega | assumption) (fun d_37 => ?_) (fun d_37 => ?_) (fun d_37 => ?_) (fun d_37 => ?_) (fun d_37 => ?_)
                                       · first
                                         | exact absurd d_37 (by omega)
                                         | (refine b_X4_partOf_68 (by first | omega | assumption) ?_
                                            refine s_X4_number hM (by omega) (by omega) ?_
                                            refine b_X4_partOf_74  ?_
                                            exact JE (by first | rfl | omega | exact (hE x (by omega) (by omega)).symm | (rw [hE x (by omega) (by omega)]; done) | (rw [hwb.2.2, hE x (by omega) (by omega)]; done) | exact (pl_congr hE (by omega) (by omega)).symm | (rw [pl_congr hE (show 0 ≤ x by omega) (by omega), pl_congr hE (show 0 ≤ x - x % 4 by omega) (by omega), show x / 4 * 4 = x - x % 4 by omega])) hI)
                                       · first
                                         | exact absurd d_37 (by omega)
                                         | (refine b_X4_partOf_75 (by first | omega | assumption) ?_
                                            refine s_X4_number hM (by omega) (by omega) ?_
                                            have hvx2 : 0 ≤ mf w q x := (hV.1 x (by omega) (by omega)).1
                                            have hvx3 := (hV.1 x (by omega) (by omega)).2
                                            refine b_X4_partOf_81 (by first | omega | assumption) ?_
                                            refine s_X4_width hM ?_
                                            refine b_X4_partOf_86 (by first | omega | assumption) (by first | omega | assumption) (by first | omega | assumption) (by first | omega | assumption) ?_
                                            exact JE (by first | rfl | omega | exact (hE x (by omega) (by omega)).symm | (rw [hE x (by omega) (by omega)]; done) | (rw [hwb.2.2, hE x (by omega) (by omega)]; done) | exact (pl_congr hE (by omega) (by omega)).symm | (rw [pl_congr hE (show 0 ≤ x by omega) (by omega), pl_congr hE (show 0 ≤ x - x % 4 by omega) (by omega), show x / 4 * 4 = x - x % 4 by omega])) hI)
                                       · first
                                         | exact absurd d_37 (by omega)
                                         | (refine b_X4_partOf_88 (by first | omega | assumption) ?_
                                            refine s_X4_lower hM (by omega) (by omega) ?_
                                            refine b_X4_partOf_94  ?_
                                            exact JE (by first | rfl | omega | exact (hE x (by omega) (by omega)).symm | (rw [hE x (by omega) (by omega)]; done) | (rw [hwb.2.2, hE x (by omega) (by omega)]; done) | exact (pl_congr hE (by omega) (by omega)).symm | (rw [pl_congr hE (show 0 ≤ x by omega) (by omega), pl_congr hE (show 0 ≤ x - x % 4 by omega) (by omega), show x / 4 * 4 = x - x % 4 by omega])) hI)
                                       · first
                                         | exact absurd d_37 (by omega)
                                         | (refine b_X4_partOf_95 (by first | omega | assumption) ?_
                                            refine s_X4_placeOf hM (by omega) (by omega) ?_
                                            refine b_X4_partOf_101  ?_
                                            exact JE (by first | rfl | omega | exact (hE x (by omega) (by omega)).symm | (rw [hE x (by omega) (by omega)]; done) | (rw [hwb.2.2, hE x (by omega) (by omega)]; done) | exact (pl_congr hE (by omega) (by omega)).symm | (rw [pl_congr hE (show 0 ≤ x by omega) (by omega), pl_congr hE (show 0 ≤ x - x % 4 by omega) (by omega), show x / 4 * 4 = x - x % 4 by omega])) hI)
                                       · first
                                         | exact absurd d_37 (by omega)
                                         | (refine b_X4_partOf_102 (by first | omega | assumption) ?_
                                            refine s_X4_placeOf hM (by omega) (by omega) ?_
                                            refine b_X4_partOf_108 (by first | omega | assumption) (by first | omega | assumption) (by first | omega | assumption) ?_
                                            refine s_X4_placeOf hM (by omega) (by omega) ?_
                                            refine b_X4_partOf_118  ?_
                                            exact JE (by first | rfl | omega | exact (hE x (by omega) (by omega)).symm | (rw [hE x (by omega) (by omega)]; done) | (rw [hwb.2.2, hE x (by omega) (by omega)]; done) | exact (pl_congr hE (by omega) (by omega)).symm | (rw [pl_congr hE (show 0 ≤ x by omega) (by omega), pl_congr hE (show 0 ≤ x - x % 4 by omega) (by omega), show x / 4 * 4 = x - x % 4 by omega])) hI))
                                  · first
                                    | exact absurd d_31 (by omega)
                                    | (refine b_X4_partOf_34  ?_
                                       exact JE (by first | rfl | omega | exact (hE x (by omega) (by omega)).symm | (rw [hE x (by omega) (by omega)]; done) | (rw [hwb.2.2, hE x (by omega) (by omega)]; done) | exact (pl_congr hE (by omega) (by omega)).symm | (rw [pl_congr hE (show 0 ≤ x by omega) (by omega), pl_congr hE (show 0 ≤ x - x % 4 by omega) (by omega), show x / 4 * 4 = x - x % 4 by omega])) hI))
                             · first
                               | exact absurd d_19 (by omega)
                               | (refine b_X4_partOf_22  ?_
                                  exact JE (by first | rfl | omega | exact (hE x (by omega) (by omega)).symm | (rw [hE x (by omega) (by omega)]; done) | (rw [hwb.2.2, hE x (by omega) (by omega)]; done) | exact (pl_congr hE (by omega) (by omega)).symm | (rw [pl_congr hE (show 0 ≤ x by omega) (by omega), pl_congr hE (show 0 ≤ x - x % 4 by omega) (by omega), show x / 4 * 4 = x - x % 4 by omega])) hI))))))

theorem j_sample {w : rW} {q x y : Int} (hI : Inv w) (hqr : R32 q) (hxr : R32 x) (hyr : R32 y) : WP M_X3_sample 0 [vr 0, vi q, vi x, vi y, vu, vu] [] w (JQ M_X4_sample [vr 9, vi q, vi x, vi y, vu]) := by
  have ho0 : oc 0 = 3 := rfl
  have ho9 : oc 9 = 4 := rfl
  by_cases hq : q = 0 ∨ q = 1
  · clear ho0
    have ho0 : oc 0 = 3 := rfl
    obtain ⟨a, n, b, hra, hR, hM, hV, hE⟩ := hI.row hq
    obtain ⟨h, hb0, hb1, hb2⟩ := id hR
    obtain ⟨ha13, ho, ha1, h0, h1, hn0, hn4, hv⟩ := id h
    have hn : 0 ≤ n ∧ n ≤ 40 := ⟨hn0, hn4⟩
    have hb : 1 ≤ b ∧ b ≤ 4096 := ⟨by omega, hb2⟩
    have hwb := wd_bd hn.1 hb.2
    have hpw := p2_w hn.1 hb.2
    have hub := ub_bd hn hb
    have hzb := zf_bd hn.1 hb.1 hb.2
    have hsz := szf_bd hn hb
    have hun := unl_bd (f := w (a + 1)) hn0
    have hu9 : w 9 9 = 15 := hI.1.2.2.2.2.2.2.2.2.2.1
    have hu11 : w 9 11 = 16 := hI.1.2.2.2.2.2.2.2.2.2.2.1
    have ha0 : al (w 9 0) = 84 := by rw [hM.2.1]; rfl
    have hbm : w (w 9 0) (42 * q + 1) = b := by rw [hM.2.1]; exact hM.2.2.2.1
    refine b_X3_sample_0  ?_
    refine s_X3_isRow (by omega) (fun r hr => ?_)
    refine b_X3_sample_4 (by first | omega | assumption) (fun c_4 => ?_) (fun c_4 => ?_)
    · first
      | exact absurd c_4 (by omega)
      | (refine b_X3_sample_20  ?_
         refine JQ.mk (by omega) ?_
         refine b_X4_sample_0  ?_
         refine s_X4_in (by omega) (by omega) (by omega) (fun r hr => ?_)
         refine b_X4_sample_6 (by first | omega | assumption) (fun d_6 => ?_) (fun d_6 => ?_)
         · first
           | exact absurd d_6 (by omega)
           | (refine b_X4_sample_22  ?_
              exact JE (by first | rfl | omega) hI)
         · first
           | exact absurd d_6 (by omega)
           | (refine b_X4_sample_9  ?_
              refine s_X4_in (by omega) (by omega) (by omega) (fun r hr => ?_)
              refine b_X4_sample_15 (by first | omega | assumption) (fun d_15 => ?_) (fun d_15 => ?_)
              · first
                | exact absurd d_15 (by omega)
                | (refine b_X4_sample_22  ?_
                   exact JE (by first | rfl | omega) hI)
              · first
                | exact absurd d_15 (by omega)
                | (refine b_X4_sample_18 (by first | omega | assumption) (fun d_18 => ?_) (fun d_18 => ?_)
                   · first
                     | exact absurd d_18 (by omega)
                     | (refine b_X4_sample_25 (by first | omega | assumption) ?_
                        refine s_X4_lays hM hV hu9 hu11 (fun w1 hS hbits hzf hUP hzs => ?_)
                        have hM1 := hS.MR hM
                        have hmf1 := hS.mf q
                        have ha1 : al (w1 9 0) = 84 := by rw [hM1.2.1]; rfl
                        have hI1 := hS.sd.Inv hI
                        have h991 : w1 9 9 = 15 := (hS.2 9 (by decide) (by decide) (by decide) (by decide)).trans hu9
                        have ha91 : al (w1 9 9) = 4200 := by rw [h991]; rfl
                        have h9111 : w1 9 11 = 16 := (hS.2 11 (by decide) (by decide) (by decide) (by decide)).trans hu11
                        have ha111 : al (w1 9 11) = 4200 := by rw [h9111]; rfl
                        refine b_X4_sample_30 (by first | omega | assumption) (fun d_30 => ?_) (fun d_30 => ?_)
                        · first
                          | exact absurd d_30 (by omega)
                          | (refine b_X4_sample_42 (by first | omega | assumption) ?_
                             refine b_X4_sample_46 (by first | omega | assumption) (by first | omega | assumption) (by first | omega | assumption) (by first | omega | assumption) (fun d_46 => ?_) (fun d_46 => ?_)
                             · first
                               | exact absurd d_46 (by omega)
                               | (refine b_X4_sample_61 (by first | omega | assumption) (fun d_61 => ?_) (fun d_61 => ?_)
                                  · first
                                    | exact absurd d_61 (by omega)
                                    | (refine b_X4_sample_76 (by first | omega | assumption) (by first | omega | assumption) (by first | omega | assumption) ?_
                                       refine b_X4_sample_84  ?_
                                       exact JE (by first | (rw [hmf1]; exact (pl_congr hE (by omega) (by omega)).symm) | (rw [h9111, hzs _ (by omega) (by omega)]; exact (pz_congr hn0 hE).symm)) hI1)
                                  · first
                                    | exact absurd d_61 (by omega)
                                    | (refine b_X4_sample_65 (by first | omega | assumption) ?_
                                       refine s_X4_placeOf hM1 (by omega) (by omega) ?_
                                       refine b_X4_sample_73  ?_
                                       refine b_X4_sample_84  ?_
                                       exact JE (by first | (rw [hmf1]; exact (pl_congr hE (by omega) (by omega)).symm) | (rw [h9111, hzs _ (by omega) (by omega)]; exact (pz_congr hn0 hE).symm)) hI1))
                             · first
                               | exact absurd d_46 (by omega)
                               | (refine b_X4_sample_58  ?_
                                  exact JE (by rfl) hI1))
                        · first
                          | exact absurd d_30 (by omega)
                          | (refine b_X4_sample_34 (by first | omega | assumption) ?_
                             refine s_X4_many hM1 ?_
                             refine b_X4_sample_39  ?_
                             refine b_X4_sample_46 (by first | omega | assumption) (by first | omega | assumption) (by first | omega | assumption) (by first | omega | assumption) (fun d_46 => ?_) (fun d_46 => ?_)
                             · first
                               | exact absurd d_46 (by omega)
                               | (refine b_X4_sample_61 (by first | omega | assumption) (fun d_61 => ?_) (fun d_61 => ?_)
                                  · first
                                    | exact absurd d_61 (by omega)
                                    | (refine b_X4_sample_76 (by first | omega | assumption) (by first | omega | assumption) (by first | omega | assumption) ?_
                                       refine b_X4_sample_84  ?_
                                       exact JE (by first | (rw [hmf1]; exact (pl_congr hE (by omega) (by omega)).symm) | (rw [h9111, hzs _ (by omega) (by omega)]; exact (pz_congr hn0 hE).symm)) hI1)
                                  · first
                                    | exact absurd d_61 (by omega)
                                    | (refine b_X4_sample_65 (by first | omega | assumption) ?_
                                       refine s_X4_placeOf hM1 (by omega) (by omega) ?_
                                       refine b_X4_sample_73  ?_
                                       refine b_X4_sample_84  ?_
                                       exact JE (by first | (rw [hmf1]; exact (pl_congr hE (by omega) (by omega)).symm) | (rw [h9111, hzs _ (by omega) (by omega)]; exact (pz_congr hn0 hE).symm)) hI1))
                             · first
                               | exact absurd d_46 (by omega)
                               | (refine b_X4_sample_58  ?_
                                  exact JE (by rfl) hI1)))
                   · first
                     | exact absurd d_18 (by omega)
                     | (refine b_X4_sample_22  ?_
                        exact JE (by first | rfl | omega) hI))))
    · first
      | exact absurd c_4 (by omega)
      | (refine b_X3_sample_7  ?_
         refine s_X3_isWithin (by omega) (by omega) (by omega) (fun r hr => ?_)
         refine b_X3_sample_13 (by first | omega | assumption) (fun c_13 => ?_) (fun c_13 => ?_)
         · first
           | exact absurd c_13 (by omega)
           | (refine b_X3_sample_20  ?_
              refine JQ.mk (by omega) ?_
              refine b_X4_sample_0  ?_
              refine s_X4_in (by omega) (by omega) (by omega) (fun r hr => ?_)
              refine b_X4_sample_6 (by first | omega | assumption) (fun d_6 => ?_) (fun d_6 => ?_)
              · first
                | exact absurd d_6 (by omega)
                | (refine b_X4_sample_22  ?_
                   exact JE (by first | rfl | omega) hI)
              · first
                | exact absurd d_6 (by omega)
                | (refine b_X4_sample_9  ?_
                   refine s_X4_in (by omega) (by omega) (by omega) (fun r hr => ?_)
                   refine b_X4_sample_15 (by first | omega | assumption) (fun d_15 => ?_) (fun d_15 => ?_)
                   · first
                     | exact absurd d_15 (by omega)
                     | (refine b_X4_sample_22  ?_
                        exact JE (by first | rfl | omega) hI)
                   · first
                     | exact absurd d_15 (by omega)
                     | (refine b_X4_sample_18 (by first | omega | assumption) (fun d_18 => ?_) (fun d_18 => ?_)
                        · first
                          | exact absurd d_18 (by omega)
                          | (refine b_X4_sample_25 (by first | omega | assumption) ?_
                             refine s_X4_lays hM hV hu9 hu11 (fun w1 hS hbits hzf hUP hzs => ?_)
                             have hM1 := hS.MR hM
                             have hmf1 := hS.mf q
                             have ha1 : al (w1 9 0) = 84 := by rw [hM1.2.1]; rfl
                             have hI1 := hS.sd.Inv hI
                             have h991 : w1 9 9 = 15 := (hS.2 9 (by decide) (by decide) (by decide) (by decide)).trans hu9
                             have ha91 : al (w1 9 9) = 4200 := by rw [h991]; rfl
                             have h9111 : w1 9 11 = 16 := (hS.2 11 (by decide) (by decide) (by decide) (by decide)).trans hu11
                             have ha111 : al (w1 9 11) = 4200 := by rw [h9111]; rfl
                             refine b_X4_sample_30 (by first | omega | assumption) (fun d_30 => ?_) (fun d_30 => ?_)
                             · first
                               | exact absurd d_30 (by omega)
                               | (refine b_X4_sample_42 (by first | omega | assumption) ?_
                                  refine b_X4_sample_46 (by first | omega | assumption) (by first | omega | assumption) (by first | omega | assumption) (by first | omega | assumption) (fun d_46 => ?_) (fun d_46 => ?_)
                                  · first
                                    | exact absurd d_46 (by omega)
                                    | (refine b_X4_sample_61 (by first | omega | assumption) (fun d_61 => ?_) (fun d_61 => ?_)
                                       · first
                                         | exact absurd d_61 (by omega)
                                         | (refine b_X4_sample_76 (by first | omega | assumption) (by first | omega | assumption) (by first | omega | assumption) ?_
                                            refine b_X4_sample_84  ?_
                                            exact JE (by first | (rw [hmf1]; exact (pl_congr hE (by omega) (by omega)).symm) | (rw [h9111, hzs _ (by omega) (by omega)]; exact (pz_congr hn0 hE).symm)) hI1)
                                       · first
                                         | exact absurd d_61 (by omega)
                                         | (refine b_X4_sample_65 (by first | omega | assumption) ?_
                                            refine s_X4_placeOf hM1 (by omega) (by omega) ?_
                                            refine b_X4_sample_73  ?_
                                            refine b_X4_sample_84  ?_
                                            exact JE (by first | (rw [hmf1]; exact (pl_congr hE (by omega) (by omega)).symm) | (rw [h9111, hzs _ (by omega) (by omega)]; exact (pz_congr hn0 hE).symm)) hI1))
                                  · first
                                    | exact absurd d_46 (by omega)
                                    | (refine b_X4_sample_58  ?_
                                       exact JE (by rfl) hI1))
                             · first
                               | exact absurd d_30 (by omega)
                               | (refine b_X4_sample_34 (by first | omega | assumption) ?_
                                  refine s_X4_many hM1 ?_
                                  refine b_X4_sample_39  ?_
                                  refine b_X4_sample_46 (by first | omega | assumption) (by first | omega | assumption) (by first | omega | assumption) (by first | omega | assumption) (fun d_46 => ?_) (fun d_46 => ?_)
                                  · first
                                    | exact absurd d_46 (by omega)
                                    | (refine b_X4_sample_61 (by first | omega | assumption) (fun d_61 => ?_) (fun d_61 => ?_)
                                       · first
                                         | exact absurd d_61 (by omega)
                                         | (refine b_X4_sample_76 (by first | omega | assumption) (by first | omega | assumption) (by first | omega | assumption) ?_
                                            refine b_X4_sample_84  ?_
                                            exact JE (by first | (rw [hmf1]; exact (pl_congr hE (by omega) (by omega)).symm) | (rw [h9111, hzs _ (by omega) (by omega)]; exact (pz_congr hn0 hE).symm)) hI1)
                                       · first
                                         | exact absurd d_61 (by omega)
                                         | (refine b_X4_sample_65 (by first | omega | assumption) ?_
                                            refine s_X4_placeOf hM1 (by omega) (by omega) ?_
                                            refine b_X4_sample_73  ?_
                                            refine b_X4_sample_84  ?_
                                            exact JE (by first | (rw [hmf1]; exact (pl_congr hE (by omega) (by omega)).symm) | (rw [h9111, hzs _ (by omega) (by omega)]; exact (pz_congr hn0 hE).symm)) hI1))
                                  · first
                                    | exact absurd d_46 (by omega)
                                    | (refine b_X4_sample_58  ?_
                                       exact JE (by rfl) hI1)))
                        · first
                          | exact absurd d_18 (by omega)
                          | (refine b_X4_sample_22  ?_
                             exact JE (by first | rfl | omega) hI))))
         · first
           | exact absurd c_13 (by omega)
           | (refine b_X3_sample_16 (by first | omega | assumption) (fun c_16 => ?_) (fun c_16 => ?_)
              · first
                | exact absurd c_16 (by omega)
                | (refine b_X3_sample_23 (by first | omega | assumption) ?_
                   refine s_X3_rowAt hra ?_
                   refine b_X3_sample_28 (by first | omega | assumption) (fun c_28 => ?_) (fun c_28 => ?_)
                   · first
                     | exact absurd c_28 (by omega)
                     | (refine b_X3_sample_44 (by first | omega | assumption) ?_
                        refine b_X3_sample_49  ?_
                        refine s_X3_samplesOf (by omega) (by omega) ?_
                        refine b_X3_sample_52 (by first | omega | assumption) (by first | omega | assumption) (fun c_52 => ?_) (fun c_52 => ?_)
                        · first
                          | exact absurd c_52 (by omega)
                          | (refine b_X3_sample_58 (by first | omega | assumption) (fun c_58 => ?_) (fun c_58 => ?_)
                             · first
                               | exact absurd c_58 (by omega)
                               | (refine b_X3_sample_78 (by first | omega | assumption) ?_
                                  refine s_X1_placeOfOne hR (by omega) (by omega) ?_
                                  first
                                  | have hpb := (pl_congr (b := b) hE (show 0 ≤ 4 * y by omega) (by omega)) ▸ pl_ub hV (show 0 ≤ 4 * y by omega) (show 4 * y < n by omega)
                                  | skip
                                  refine b_X3_sample_85  ?_
                                  refine JQ.mk (by omega) ?_
                                  refine b_X4_sample_0  ?_
                                  refine s_X4_in (by omega) (by omega) (by omega) (fun r hr => ?_)
                                  refine b_X4_sample_6 (by first | omega | assumption) (fun d_6 => ?_) (fun d_6 => ?_)
                                  · first
                                    | exact absurd d_6 (by omega)
                                    | (refine b_X4_sample_22  ?_
                                       exact JE (by first | rfl | omega) hI)
                                  · first
                                    | exact absurd d_6 (by omega)
                                    | (refine b_X4_sample_9  ?_
                                       refine s_X4_in (by omega) (by omega) (by omega) (fun r hr => ?_)
                                       refine b_X4_sample_15 (by first | omega | assumption) (fun d_15 => ?_) (fun d_15 => ?_)
                                       · first
                                         | exact absurd d_15 (by omega)
                                         | (refine b_X4_sample_22  ?_
                                            exact JE (by first | rfl | omega) hI)
                                       · first
                                         | exact absurd d_15 (by omega)
                                         | (refine b_X4_sample_18 (by first | omega | assumption) (fun d_18 => ?_) (fun d_18 => ?_)
                                            · first
                                              | exact absurd d_18 (by omega)
                                              | (refine b_X4_sample_25 (by first | omega | assumption) ?_
                                                 refine s_X4_lays hM hV hu9 hu11 (fun w1 hS hbits hzf hUP hzs => ?_)
                                                 have hM1 := hS.MR hM
                                                 have hmf1 := hS.mf q
                                                 have ha1 : al (w1 9 0) = 84 := by rw [hM1.2.1]; rfl
                                                 have hI1 := hS.sd.Inv hI
                                                 have h991 : w1 9 9 = 15 := (hS.2 9 (by decide) (by decide) (by decide) (by decide)).trans hu9
                                                 have ha91 : al (w1 9 9) = 4200 := by rw [h991]; rfl
                                                 have h9111 : w1 9 11 = 16 := (hS.2 11 (by decide) (by decide) (by decide) (by decide)).trans hu11
                                                 have ha111 : al (w1 9 11) = 4200 := by rw [h9111]; rfl
                                                 refine b_X4_sample_30 (by first | omega | assumption) (fun d_30 => ?_) (fun d_30 => ?_)
                                                 · first
                                                   | exact absurd d_30 (by omega)
                                                   | (refine b_X4_sample_42 (by first | omega | assumption) ?_
                                                      refine b_X4_sample_46 (by first | omega | assumption) (by first | omega | assumption) (by first | omega | assumption) (by first | omega | assumption) (fun d_46 => ?_) (fun d_46 => ?_)
                                                      · first
                                                        | exact absurd d_46 (by omega)
                                                        | (refine b_X4_sample_61 (by first | omega | assumption) (fun d_61 => ?_) (fun d_61 => ?_)
                                                           · first
                                                             | exact absurd d_61 (by omega)
                                                             | (refine b_X4_sample_76 (by first | omega | assumption) (by first | omega | assumption) (by first | omega | assumption) ?_
                                                                refine b_X4_sample_84  ?_
                                                                exact JE (by first | (rw [hmf1]; exact (pl_congr hE (by omega) (by omega)).symm) | (rw [h9111, hzs _ (by omega) (by omega)]; exact (pz_congr hn0 hE).symm)) hI1)
                                                           · first
                                                             | exact absurd d_61 (by omega)
                                                             | (refine b_X4_sample_65 (by first | omega | assumption) ?_
                                                                refine s_X4_placeOf hM1 (by omega) (by omega) ?_
                                                                refine b_X4_sample_73  ?_
                                                                refine b_X4_sample_84  ?_
                                                                exact JE (by first | (rw [hmf1]; exact (pl_congr hE (by omega) (by omega)).symm) | (rw [h9111, hzs _ (by omega) (by omega)]; exact (pz_congr hn0 hE).symm)) hI1))
                                                      · first
                                                        | exact absurd d_46 (by omega)
                                                        | (refine b_X4_sample_58  ?_
                                                           exact JE (by rfl) hI1))
                                                 · first
                                                   | exact absurd d_30 (by omega)
                                                   | (refine b_X4_sample_34 (by first | omega | assumption) ?_
                                                      refine s_X4_many hM1 ?_
                                                      refine b_X4_sample_39  ?_
                                                      refine b_X4_sample_46 (by first | omega | assumption) (by first | omega | assumption) (by first | omega | assumption) (by first | omega | assumption) (fun d_46 => ?_) (fun d_46 => ?_)
                                                      · first
                                                        | exact absurd d_46 (by omega)
                                                        | (refine b_X4_sample_61 (by first | omega | assumption) (fun d_61 => ?_) (fun d_61 => ?_)
                                                           · first
                                                             | exact absurd d_61 (by omega)
                                                             | (refine b_X4_sample_76 (by first | omega | assumption) (by first | omega | assumption) (by first | omega | assumption) ?_
                                                                refine b_X4_sample_84  ?_
                                                                exact JE (by first | (rw [hmf1]; exact (pl_congr hE (by omega) (by omega)).symm) | (rw [h9111, hzs _ (by omega) (by omega)]; exact (pz_congr hn0 hE).symm)) hI1)
                                                           · first
                                                             | exact absurd d_61 (by omega)
                                                             | (refine b_X4_sample_65 (by first | omega | assumption) ?_
                                                                refine s_X4_placeOf hM1 (by omega) (by omega) ?_
                                                                refine b_X4_sample_73  ?_
                                                                refine b_X4_sample_84  ?_
                                                                exact JE (by first | (rw [hmf1]; exact (pl_congr hE (by omega) (by omega)).symm) | (rw [h9111, hzs _ (by omega) (by omega)]; exact (pz_congr hn0 hE).symm)) hI1))
                                                      · first
                                                        | exact absurd d_46 (by omega)
                                                        | (refine b_X4_sample_58  ?_
                                                           exact JE (by rfl) hI1)))
                                            · first
                                              | exact absurd d_18 (by omega)
                                              | (refine b_X4_sample_22  ?_
                                                 exact JE (by first | rfl | omega) hI))))
                             · first
                               | exact absurd c_58 (by omega)
                               | (refine b_X3_sample_68 (by first | omega | assumption) ?_
                                  refine s_X1_placeOfZero hR (by omega) ?_
                                  have hpz := pz_bd (f := w (a + 1)) (b := b) hn (show 0 ≤ 4 * y ∧ 4 * y < 5000 by omega)
                                  refine b_X3_sample_75  ?_
                                  first
                                  | have hpb := (pl_congr (b := b) hE (show 0 ≤ 4 * y by omega) (by omega)) ▸ pl_ub hV (show 0 ≤ 4 * y by omega) (show 4 * y < n by omega)
                                  | skip
                                  refine b_X3_sample_85  ?_
                                  refine JQ.mk (by omega) ?_
                                  refine b_X4_sample_0  ?_
                                  refine s_X4_in (by omega) (by omega) (by omega) (fun r hr => ?_)
                                  refine b_X4_sample_6 (by first | omega | assumption) (fun d_6 => ?_) (fun d_6 => ?_)
                                  · first
                                    | exact absurd d_6 (by omega)
                                    | (refine b_X4_sample_22  ?_
                                       exact JE (by first | rfl | omega) hI)
                                  · first
                                    | exact absurd d_6 (by omega)
                                    | (refine b_X4_sample_9  ?_
                                       refine s_X4_in (by omega) (by omega) (by omega) (fun r hr => ?_)
                                       refine b_X4_sample_15 (by first | omega | assumption) (fun d_15 => ?_) (fun d_15 => ?_)
                                       · first
                                         | exact absurd d_15 (by omega)
                                         | (refine b_X4_sample_22  ?_
                                            exact JE (by first | rfl | omega) hI)
                                       · first
                                         | exact absurd d_15 (by omega)
                                         | (refine b_X4_sample_18 (by first | omega | assumption) (fun d_18 => ?_) (fun d_18 => ?_)
                                            · first
                                              | exact absurd d_18 (by omega)
                                              | (refine b_X4_sample_25 (by first | omega | assumption) ?_
                                                 refine s_X4_lays hM hV hu9 hu11 (fun w1 hS hbits hzf hUP hzs => ?_)
                                                 have hM1 := hS.MR hM
                                                 have hmf1 := hS.mf q
                                                 have ha1 : al (w1 9 0) = 84 := by rw [hM1.2.1]; rfl
                                                 have hI1 := hS.sd.Inv hI
                                                 have h991 : w1 9 9 = 15 := (hS.2 9 (by decide) (by decide) (by decide) (by decide)).trans hu9
                                                 have ha91 : al (w1 9 9) = 4200 := by rw [h991]; rfl
                                                 have h9111 : w1 9 11 = 16 := (hS.2 11 (by decide) (by decide) (by decide) (by decide)).trans hu11
                                                 have ha111 : al (w1 9 11) = 4200 := by rw [h9111]; rfl
                                                 refine b_X4_sample_30 (by first | omega | assumption) (fun d_30 => ?_) (fun d_30 => ?_)
                                                 · first
                                                   | exact absurd d_30 (by omega)
                                                   | (refine b_X4_sample_42 (by first | omega | assumption) ?_
                                                      refine b_X4_sample_46 (by first | omega | assumption) (by first | omega | assumption) (by first | omega | assumption) (by first | omega | assumption) (fun d_46 => ?_) (fun d_46 => ?_)
                                                      · first
                                                        | exact absurd d_46 (by omega)
                                                        | (refine b_X4_sample_61 (by first | omega | assumption) (fun d_61 => ?_) (fun d_61 => ?_)
                                                           · first
                                                             | exact absurd d_61 (by omega)
                                                             | (refine b_X4_sample_76 (by first | omega | assumption) (by first | omega | assumption) (by first | omega | assumption) ?_
                                                                refine b_X4_sample_84  ?_
                                                                exact JE (by first | (rw [hmf1]; exact (pl_congr hE (by omega) (by omega)).symm) | (rw [h9111, hzs _ (by omega) (by omega)]; exact (pz_congr hn0 hE).symm)) hI1)
                                                           · first
                                                             | exact absurd d_61 (by omega)
                                                             | (refine b_X4_sample_65 (by first | omega | assumption) ?_
                                                                refine s_X4_placeOf hM1 (by omega) (by omega) ?_
                                                                refine b_X4_sample_73  ?_
                                                                refine b_X4_sample_84  ?_
                                                                exact JE (by first | (rw [hmf1]; exact (pl_congr hE (by omega) (by omega)).symm) | (rw [h9111, hzs _ (by omega) (by omega)]; exact (pz_congr hn0 hE).symm)) hI1))
                                                      · first
                                                        | exact absurd d_46 (by omega)
                                                        | (refine b_X4_sample_58  ?_
                                                           exact JE (by rfl) hI1))
                                                 · first
                                                   | exact absurd d_30 (by omega)
                                                   | (refine b_X4_sample_34 (by first | omega | assumption) ?_
                                                      refine s_X4_many hM1 ?_
                                                      refine b_X4_sample_39  ?_
                                                      refine b_X4_sample_46 (by first | omega | assumption) (by first | omega | assumption) (by first | omega | assumption) (by first | omega | assumption) (fun d_46 => ?_) (fun d_46 => ?_)
                                                      · first
                                                        | exact absurd d_46 (by omega)
                                                        | (refine b_X4_sample_61 (by first | omega | assumption) (fun d_61 => ?_) (fun d_61 => ?_)
                                                           · first
                                                             | exact absurd d_61 (by omega)
                                                             | (refine b_X4_sample_76 (by first | omega | assumption) (by first | omega | assumption) (by first | omega | assumption) ?_
                                                                refine b_X4_sample_84  ?_
                                                                exact JE (by first | (rw [hmf1]; exact (pl_congr hE (by omega) (by omega)).symm) | (rw [h9111, hzs _ (by omega) (by omega)]; exact (pz_congr hn0 hE).symm)) hI1)
                                                           · first
                                                             | exact absurd d_61 (by omega)
                                                             | (refine b_X4_sample_65 (by first | omega | assumption) ?_
                                                                refine s_X4_placeOf hM1 (by omega) (by omega) ?_
                                                                refine b_X4_sample_73  ?_
                                                                refine b_X4_sample_84  ?_
                                                                exact JE (by first | (rw [hmf1]; exact (pl_congr hE (by omega) (by omega)).symm) | (rw [h9111, hzs _ (by omega) (by omega)]; exact (pz_congr hn0 hE).symm)) hI1))
                                                      · first
                                                        | exact absurd d_46 (by omega)
                                                        | (refine b_X4_sample_58  ?_
                                                           exact JE (by rfl) hI1)))
                                            · first
                                              | exact absurd d_18 (by omega)
                                              | (refine b_X4_sample_22  ?_
                                                 exact JE (by first | rfl | omega) hI)))))
                        · first
                          | exact absurd c_52 (by omega)
                          | (refine b_X3_sample_55  ?_
                             refine JQ.mk (by omega) ?_
                             refine b_X4_sample_0  ?_
                             refine s_X4_in (by omega) (by omega) (by omega) (fun r hr => ?_)
                             refine b_X4_sample_6 (by first | omega | assumption) (fun d_6 => ?_) (fun d_6 => ?_)
                             · first
                               | exact absurd d_6 (by omega)
                               | (refine b_X4_sample_22  ?_
                                  exact JE (by first | rfl | omega) hI)
                             · first
                               | exact absurd d_6 (by omega)
                               | (refine b_X4_sample_9  ?_
                                  refine s_X4_in (by omega) (by omega) (by omega) (fun r hr => ?_)
                                  refine b_X4_sample_15 (by first | omega | assumption) (fun d_15 => ?_) (fun d_15 => ?_)
                                  · first
                                    | exact absurd d_15 (by omega)
                                    | (refine b_X4_sample_22  ?_
                                       exact JE (by first | rfl | omega) hI)
                                  · first
                                    | exact absurd d_15 (by omega)
                                    | (refine b_X4_sample_18 (by first | omega | assumption) (fun d_18 => ?_) (fun d_18 => ?_)
                                       · first
                                         | exact absurd d_18 (by omega)
                                         | (refine b_X4_sample_25 (by first | omega | assumption) ?_
                                            refine s_X4_lays hM hV hu9 hu11 (fun w1 hS hbits hzf hUP hzs => ?_)
                                            have hM1 := hS.MR hM
                                            have hmf1 := hS.mf q
                                            have ha1 : al (w1 9 0) = 84 := by rw [hM1.2.1]; rfl
                                            have hI1 := hS.sd.Inv hI
                                            have h991 : w1 9 9 = 15 := (hS.2 9 (by decide) (by decide) (by decide) (by decide)).trans hu9
                                            have ha91 : al (w1 9 9) = 4200 := by rw [h991]; rfl
                                            have h9111 : w1 9 11 = 16 := (hS.2 11 (by decide) (by decide) (by decide) (by decide)).trans hu11
                                            have ha111 : al (w1 9 11) = 4200 := by rw [h9111]; rfl
                                            refine b_X4_sample_30 (by first | omega | assumption) (fun d_30 => ?_) (fun d_30 => ?_)
                                            · first
                                              | exact absurd d_30 (by omega)
                                              | (refine b_X4_sample_42 (by first | omega | assumption) ?_
                                                 refine b_X4_sample_46 (by first | omega | assumption) (by first | omega | assumption) (by first | omega | assumption) (by first | omega | assumption) (fun d_46 => ?_) (fun d_46 => ?_)
                                                 · first
                                                   | exact absurd d_46 (by omega)
                                                   | (refine b_X4_sample_61 (by first | omega | assumption) (fun d_61 => ?_) (fun d_61 => ?_)
                                                      · first
                                                        | exact absurd d_61 (by omega)
                                                        | (refine b_X4_sample_76 (by first | omega | assumption) (by first | omega | assumption) (by first | omega | assumption) ?_
                                                           refine b_X4_sample_84  ?_
                                                           exact JE (by first | (rw [hmf1]; exact (pl_congr hE (by omega) (by omega)).symm) | (rw [h9111, hzs _ (by omega) (by omega)]; exact (pz_congr hn0 hE).symm)) hI1)
                                                      · first
                                                        | exact absurd d_61 (by omega)
                                                        | (refine b_X4_sample_65 (by first | omega | assumption) ?_
                                                           refine s_X4_placeOf hM1 (by omega) (by omega) ?_
                                                           refine b_X4_sample_73  ?_
                                                           refine b_X4_sample_84  ?_
                                                           exact JE (by first | (rw [hmf1]; exact (pl_congr hE (by omega) (by omega)).symm) | (rw [h9111, hzs _ (by omega) (by omega)]; exact (pz_congr hn0 hE).symm)) hI1))
                                                 · first
                                                   | exact absurd d_46 (by omega)
                                                   | (refine b_X4_sample_58  ?_
                                                      exact JE (by rfl) hI1))
                                            · first
                                              | exact absurd d_30 (by omega)
                                              | (refine b_X4_sample_34 (by first | omega | assumption) ?_
                                                 refine s_X4_many hM1 ?_
                                                 refine b_X4_sample_39  ?_
                                                 refine b_X4_sample_46 (by first | omega | assumption) (by first | omega | assumption) (by first | omega | assumption) (by first | omega | assumption) (fun d_46 => ?_) (fun d_46 => ?_)
                                                 · first
                                                   | exact absurd d_46 (by omega)
                                                   | (refine b_X4_sample_61 (by first | omega | assumption) (fun d_61 => ?_) (fun d_61 => ?_)
                                                      · first
                                                        | exact absurd d_61 (by omega)
                                                        | (refine b_X4_sample_76 (by first | omega | assumption) (by first | omega | assumption) (by first | omega | assumption) ?_
                                                           refine b_X4_sample_84  ?_
                                                           exact JE (by first | (rw [hmf1]; exact (pl_congr hE (by omega) (by omega)).symm) | (rw [h9111, hzs _ (by omega) (by omega)]; exact (pz_congr hn0 hE).symm)) hI1)
                                                      · first
                                                        | exact absurd d_61 (by omega)
                                                        | (refine b_X4_sample_65 (by first | omega | assumption) ?_
                                                           refine s_X4_placeOf hM1 (by omega) (by omega) ?_
                                                           refine b_X4_sample_73  ?_
                                                           refine b_X4_sample_84  ?_
                                                           exact JE (by first | (rw [hmf1]; exact (pl_congr hE (by omega) (by omega)).symm) | (rw [h9111, hzs _ (by omega) (by omega)]; exact (pz_congr hn0 hE).symm)) hI1))
                                                 · first
                                                   | exact absurd d_46 (by omega)
                                                   | (refine b_X4_sample_58  ?_
                                                      exact JE (by rfl) hI1)))
                                       · first
                                         | exact absurd d_18 (by omega)
                                         | (refine b_X4_sample_22  ?_
                                            exact JE (by first | rfl | omega) hI)))))
                   · first
                     | exact absurd c_28 (by omega)
                     | (refine b_X3_sample_36 (by first | omega | assumption) ?_
                        refine s_X1_zeros hR ?_
                        refine b_X3_sample_41  ?_
                        refine b_X3_sample_49  ?_
                        refine s_X3_samplesOf (by omega) (by omega) ?_
                        refine b_X3_sample_52 (by first | omega | assumption) (by first | omega | assumption) (fun c_52 => ?_) (fun c_52 => ?_)
                        · first
                          | exact absurd c_52 (by omega)
                          | (refine b_X3_sample_58 (by first | omega | assumption) (fun c_58 => ?_) (fun c_58 => ?_)
                             · first
                               | exact absurd c_58 (by omega)
                               | (refine b_X3_sample_78 (by first | omega | assumption) ?_
                                  refine s_X1_placeOfOne hR (by omega) (by omega) ?_
                                  first
                                  | have hpb := (pl_congr (b := b) hE (show 0 ≤ 4 * y by omega) (by omega)) ▸ pl_ub hV (show 0 ≤ 4 * y by omega) (show 4 * y < n by omega)
                                  | skip
                                  refine b_X3_sample_85  ?_
                                  refine JQ.mk (by omega) ?_
                                  refine b_X4_sample_0  ?_
                                  refine s_X4_in (by omega) (by omega) (by omega) (fun r hr => ?_)
                                  refine b_X4_sample_6 (by first | omega | assumption) (fun d_6 => ?_) (fun d_6 => ?_)
                                  · first
                                    | exact absurd d_6 (by omega)
                                    | (refine b_X4_sample_22  ?_
                                       exact JE (by first | rfl | omega) hI)
                                  · first
                                    | exact absurd d_6 (by omega)
                                    | (refine b_X4_sample_9  ?_
                                       refine s_X4_in (by omega) (by omega) (by omega) (fun r hr => ?_)
                                       refine b_X4_sample_15 (by first | omega | assumption) (fun d_15 => ?_) (fun d_15 => ?_)
                                       · first
                                         | exact absurd d_15 (by omega)
                                         | (refine b_X4_sample_22  ?_
                                            exact JE (by first | rfl | omega) hI)
                                       · first
                                         | exact absurd d_15 (by omega)
                                         | (refine b_X4_sample_18 (by first | omega | assumption) (fun d_18 => ?_) (fun d_18 => ?_)
                                            · first
                                              | exact absurd d_18 (by omega)
                                              | (refine b_X4_sample_25 (by first | omega | assumption) ?_
                                                 refine s_X4_lays hM hV hu9 hu11 (fun w1 hS hbits hzf hUP hzs => ?_)
                                                 have hM1 := hS.MR hM
                                                 have hmf1 := hS.mf q
                                                 have ha1 : al (w1 9 0) = 84 := by rw [hM1.2.1]; rfl
                                                 have hI1 := hS.sd.Inv hI
                                                 have h991 : w1 9 9 = 15 := (hS.2 9 (by decide) (by decide) (by decide) (by decide)).trans hu9
                                                 have ha91 : al (w1 9 9) = 4200 := by rw [h991]; rfl
                                                 have h9111 : w1 9 11 = 16 := (hS.2 11 (by decide) (by decide) (by decide) (by decide)).trans hu11
                                                 have ha111 : al (w1 9 11) = 4200 := by rw [h9111]; rfl
                                                 refine b_X4_sample_30 (by first | omega | assumption) (fun d_30 => ?_) (fun d_30 => ?_)
                                                 · first
                                                   | exact absurd d_30 (by omega)
                                                   | (refine b_X4_sample_42 (by first | omega | assumption) ?_
                                                      refine b_X4_sample_46 (by first | omega | assumption) (by first | omega | assumption) (by first | omega | assumption) (by first | omega | assumption) (fun d_46 => ?_) (fun d_46 => ?_)
                                                      · first
                                                        | exact absurd d_46 (by omega)
                                                        | (refine b_X4_sample_61 (by first | omega | assumption) (fun d_61 => ?_) (fun d_61 => ?_)
                                                           · first
                                                             | exact absurd d_61 (by omega)
                                                             | (refine b_X4_sample_76 (by first | omega | assumption) (by first | omega | assumption) (by first | omega | assumption) ?_
                                                                refine b_X4_sample_84  ?_
                                                                exact JE (by first | (rw [hmf1]; exact (pl_congr hE (by omega) (by omega)).symm) | (rw [h9111, hzs _ (by omega) (by omega)]; exact (pz_congr hn0 hE).symm)) hI1)
                                                           · first
                                                             | exact absurd d_61 (by omega)
                                                             | (refine b_X4_sample_65 (by first | omega | assumption) ?_
                                                                refine s_X4_placeOf hM1 (by omega) (by omega) ?_
                                                                refine b_X4_sample_73  ?_
                                                                refine b_X4_sample_84  ?_
                                                                exact JE (by first | (rw [hmf1]; exact (pl_congr hE (by omega) (by omega)).symm) | (rw [h9111, hzs _ (by omega) (by omega)]; exact (pz_congr hn0 hE).symm)) hI1))
                                                      · first
                                                        | exact absurd d_46 (by omega)
                                                        | (refine b_X4_sample_58  ?_
                                                           exact JE (by rfl) hI1))
                                                 · first
                                                   | exact absurd d_30 (by omega)
                                                   | (refine b_X4_sample_34 (by first | omega | assumption) ?_
                                                      refine s_X4_many hM1 ?_
                                                      refine b_X4_sample_39  ?_
                                                      refine b_X4_sample_46 (by first | omega | assumption) (by first | omega | assumption) (by first | omega | assumption) (by first | omega | assumption) (fun d_46 => ?_) (fun d_46 => ?_)
                                                      · first
                                                        | exact absurd d_46 (by omega)
                                                        | (refine b_X4_sample_61 (by first | omega | assumption) (fun d_61 => ?_) (fun d_61 => ?_)
                                                           · first
                                                             | exact absurd d_61 (by omega)
                                                             | (refine b_X4_sample_76 (by first | omega | assumption) (by first | omega | assumption) (by first | omega | assumption) ?_
                                                                refine b_X4_sample_84  ?_
                                                                exact JE (by first | (rw [hmf1]; exact (pl_congr hE (by omega) (by omega)).symm) | (rw [h9111, hzs _ (by omega) (by omega)]; exact (pz_congr hn0 hE).symm)) hI1)
                                                           · first
                                                             | exact absurd d_61 (by omega)
                                                             | (refine b_X4_sample_65 (by first | omega | assumption) ?_
                                                                refine s_X4_placeOf hM1 (by omega) (by omega) ?_
                                                                refine b_X4_sample_73  ?_
                                                                refine b_X4_sample_84  ?_
                                                                exact JE (by first | (rw [hmf1]; exact (pl_congr hE (by omega) (by omega)).symm) | (rw [h9111, hzs _ (by omega) (by omega)]; exact (pz_congr hn0 hE).symm)) hI1))
                                                      · first
                                                        | exact absurd d_46 (by omega)
                                                        | (refine b_X4_sample_58  ?_
                                                           exact JE (by rfl) hI1)))
                                            · first
                                              | exact absurd d_18 (by omega)
                                              | (refine b_X4_sample_22  ?_
                                                 exact JE (by first | rfl | omega) hI))))
                             · first
                               | exact absurd c_58 (by omega)
                               | (refine b_X3_sample_68 (by first | omega | assumption) ?_
                                  refine s_X1_placeOfZero hR (by omega) ?_
                                  have hpz := pz_bd (f := w (a + 1)) (b := b) hn (show 0 ≤ 4 * y ∧ 4 * y < 5000 by omega)
                                  refine b_X3_sample_75  ?_
                                  first
                                  | have hpb := (pl_congr (b := b) hE (show 0 ≤ 4 * y by omega) (by omega)) ▸ pl_ub hV (show 0 ≤ 4 * y by omega) (show 4 * y < n by omega)
                                  | skip
                                  refine b_X3_sample_85  ?_
                                  refine JQ.mk (by omega) ?_
                                  refine b_X4_sample_0  ?_
                                  refine s_X4_in (by omega) (by omega) (by omega) (fun r hr => ?_)
                                  refine b_X4_sample_6 (by first | omega | assumption) (fun d_6 => ?_) (fun d_6 => ?_)
                                  · first
                                    | exact absurd d_6 (by omega)
                                    | (refine b_X4_sample_22  ?_
                                       exact JE (by first | rfl | omega) hI)
                                  · first
                                    | exact absurd d_6 (by omega)
                                    | (refine b_X4_sample_9  ?_
                                       refine s_X4_in (by omega) (by omega) (by omega) (fun r hr => ?_)
                                       refine b_X4_sample_15 (by first | omega | assumption) (fun d_15 => ?_) (fun d_15 => ?_)
                                       · first
                                         | exact absurd d_15 (by omega)
                                         | (refine b_X4_sample_22  ?_
                                            exact JE (by first | rfl | omega) hI)
                                       · first
                                         | exact absurd d_15 (by omega)
                                         | (refine b_X4_sample_18 (by first | omega | assumption) (fun d_18 => ?_) (fun d_18 => ?_)
                                            · first
                                              | exact absurd d_18 (by omega)
                                              | (refine b_X4_sample_25 (by first | omega | assumption) ?_
                                                 refine s_X4_lays hM hV hu9 hu11 (fun w1 hS hbits hzf hUP hzs => ?_)
                                                 have hM1 := hS.MR hM
                                                 have hmf1 := hS.mf q
                                                 have ha1 : al (w1 9 0) = 84 := by rw [hM1.2.1]; rfl
                                                 have hI1 := hS.sd.Inv hI
                                                 have h991 : w1 9 9 = 15 := (hS.2 9 (by decide) (by decide) (by decide) (by decide)).trans hu9
                                                 have ha91 : al (w1 9 9) = 4200 := by rw [h991]; rfl
                                                 have h9111 : w1 9 11 = 16 := (hS.2 11 (by decide) (by decide) (by decide) (by decide)).trans hu11
                                                 have ha111 : al (w1 9 11) = 4200 := by rw [h9111]; rfl
                                                 refine b_X4_sample_30 (by first | omega | assumption) (fun d_30 => ?_) (fun d_30 => ?_)
                                                 · first
                                                   | exact absurd d_30 (by omega)
                                                   | (refine b_X4_sample_42 (by first | omega | assumption) ?_
                                                      refine b_X4_sample_46 (by first | omega | assumption) (by first | omega | assumption) (by first | omega | assumption) (by first | omega | assumption) (fun d_46 => ?_) (fun d_46 => ?_)
                                                      · first
                                                        | exact absurd d_46 (by omega)
                                                        | (refine b_X4_sample_61 (by first | omega | assumption) (fun d_61 => ?_) (fun d_61 => ?_)
                                                           · first
                                                             | exact absurd d_61 (by omega)
                                                             | (refine b_X4_sample_76 (by first | omega | assumption) (by first | omega | assumption) (by first | omega | assumption) ?_
                                                                refine b_X4_sample_84  ?_
                                                                exact JE (by first | (rw [hmf1]; exact (pl_congr hE (by omega) (by omega)).symm) | (rw [h9111, hzs _ (by omega) (by omega)]; exact (pz_congr hn0 hE).symm)) hI1)
                                                           · first
                                                             | exact absurd d_61 (by omega)
                                                             | (refine b_X4_sample_65 (by first | omega | assumption) ?_
                                                                refine s_X4_placeOf hM1 (by omega) (by omega) ?_
                                                                refine b_X4_sample_73  ?_
                                                                refine b_X4_sample_84  ?_
                                                                exact JE (by first | (rw [hmf1]; exact (pl_congr hE (by omega) (by omega)).symm) | (rw [h9111, hzs _ (by omega) (by omega)]; exact (pz_congr hn0 hE).symm)) hI1))
                                                      · first
                                                        | exact absurd d_46 (by omega)
                                                        | (refine b_X4_sample_58  ?_
                                                           exact JE (by rfl) hI1))
                                                 · first
                                                   | exact absurd d_30 (by omega)
                                                   | (refine b_X4_sample_34 (by first | omega | assumption) ?_
                                                      refine s_X4_many hM1 ?_
                                                      refine b_X4_sample_39  ?_
                                                      refine b_X4_sample_46 (by first | omega | assumption) (by first | omega | assumption) (by first | omega | assumption) (by first | omega | assumption) (fun d_46 => ?_) (fun d_46 => ?_)
                                                      · first
                                                        | exact absurd d_46 (by omega)
                                                        | (refine b_X4_sample_61 (by first | omega | assumption) (fun d_61 => ?_) (fun d_61 => ?_)
                                                           · first
                                                             | exact absurd d_61 (by omega)
                                                             | (refine b_X4_sample_76 (by first | omega | assumption) (by first | omega | assumption) (by first | omega | assumption) ?_
                                                                refine b_X4_sample_84  ?_
                                                                exact JE (by first | (rw [hmf1]; exact (pl_congr hE (by omega) (by omega)).symm) | (rw [h9111, hzs _ (by omega) (by omega)]; exact (pz_congr hn0 hE).symm)) hI1)
                                                           · first
                                                             | exact absurd d_61 (by omega)
                                                             | (refine b_X4_sample_65 (by first | omega | assumption) ?_
                                                                refine s_X4_placeOf hM1 (by omega) (by omega) ?_
                                                                refine b_X4_sample_73  ?_
                                                                refine b_X4_sample_84  ?_
                                                                exact JE (by first | (rw [hmf1]; exact (pl_congr hE (by omega) (by omega)).symm) | (rw [h9111, hzs _ (by omega) (by omega)]; exact (pz_congr hn0 hE).symm)) hI1))
                                                      · first
                                                        | exact absurd d_46 (by omega)
                                                        | (refine b_X4_sample_58  ?_
                                                           exact JE (by rfl) hI1)))
                                            · first
                                              | exact absurd d_18 (by omega)
                                              | (refine b_X4_sample_22  ?_
                                                 exact JE (by first | rfl | omega) hI)))))
                        · first
                          | exact absurd c_52 (by omega)
                          | (refine b_X3_sample_55  ?_
                             refine JQ.mk (by omega) ?_
                             refine b_X4_sample_0  ?_
                             refine s_X4_in (by omega) (by omega) (by omega) (fun r hr => ?_)
                             refine b_X4_sample_6 (by first | omega | assumption) (fun d_6 => ?_) (fun d_6 => ?_)
                             · first
                               | exact absurd d_6 (by omega)
                               | (refine b_X4_sample_22  ?_
                                  exact JE (by first | rfl | omega) hI)
                             · first
                               | exact absurd d_6 (by omega)
                               | (refine b_X4_sample_9  ?_
                                  refine s_X4_in (by omega) (by omega) (by omega) (fun r hr => ?_)
                                  refine b_X4_sample_15 (by first | omega | assumption) (fun d_15 => ?_) (fun d_15 => ?_)
                                  · first
                                    | exact absurd d_15 (by omega)
                                    | (refine b_X4_sample_22  ?_
                                       exact JE (by first | rfl | omega) hI)
                                  · first
                                    | exact absurd d_15 (by omega)
                                    | (refine b_X4_sample_18 (by first | omega | assumption) (fun d_18 => ?_) (fun d_18 => ?_)
                                       · first
                                         | exact absurd d_18 (by omega)
                                         | (refine b_X4_sample_25 (by first | omega | assumption) ?_
                                            refine s_X4_lays hM hV hu9 hu11 (fun w1 hS hbits hzf hUP hzs => ?_)
                                            have hM1 := hS.MR hM
                                            have hmf1 := hS.mf q
                                            have ha1 : al (w1 9 0) = 84 := by rw [hM1.2.1]; rfl
                                            have hI1 := hS.sd.Inv hI
                                            have h991 : w1 9 9 = 15 := (hS.2 9 (by decide) (by decide) (by decide) (by decide)).trans hu9
                                            have ha91 : al (w1 9 9) = 4200 := by rw [h991]; rfl
                                            have h9111 : w1 9 11 = 16 := (hS.2 11 (by decide) (by decide) (by decide) (by decide)).trans hu11
                                            have ha111 : al (w1 9 11) = 4200 := by rw [h9111]; rfl
                                            refine b_X4_sample_30 (by first | omega | assumption) (fun d_30 => ?_) (fun d_30 => ?_)
                                            · first
                                              | exact absurd d_30 (by omega)
                                              | (refine b_X4_sample_42 (by first | omega | assumption) ?_
                                                 refine b_X4_sample_46 (by first | omega | assumption) (by first | omega | assumption) (by first | omega | assumption) (by first | omega | assumption) (fun d_46 => ?_) (fun d_46 => ?_)
                                                 · first
                                                   | exact absurd d_46 (by omega)
                                                   | (refine b_X4_sample_61 (by first | omega | assumption) (fun d_61 => ?_) (fun d_61 => ?_)
                                                      · first
                                                        | exact absurd d_61 (by omega)
                                                        | (refine b_X4_sample_76 (by first | omega | assumption) (by first | omega | assumption) (by first | omega | assumption) ?_
                                                           refine b_X4_sample_84  ?_
                                                           exact JE (by first | (rw [hmf1]; exact (pl_congr hE (by omega) (by omega)).symm) | (rw [h9111, hzs _ (by omega) (by omega)]; exact (pz_congr hn0 hE).symm)) hI1)
                                                      · first
                                                        | exact absurd d_61 (by omega)
                                                        | (refine b_X4_sample_65 (by first | omega | assumption) ?_
                                                           refine s_X4_placeOf hM1 (by omega) (by omega) ?_
                                                           refine b_X4_sample_73  ?_
                                                           refine b_X4_sample_84  ?_
                                                           exact JE (by first | (rw [hmf1]; exact (pl_congr hE (by omega) (by omega)).symm) | (rw [h9111, hzs _ (by omega) (by omega)]; exact (pz_congr hn0 hE).symm)) hI1))
                                                 · first
                                                   | exact absurd d_46 (by omega)
                                                   | (refine b_X4_sample_58  ?_
                                                      exact JE (by rfl) hI1))
                                            · first
                                              | exact absurd d_30 (by omega)
                                              | (refine b_X4_sample_34 (by first | omega | assumption) ?_
                                                 refine s_X4_many hM1 ?_
                                                 refine b_X4_sample_39  ?_
                                                 refine b_X4_sample_46 (by first | omega | assumption) (by first | omega | assumption) (by first | omega | assumption) (by first | omega | assumption) (fun d_46 => ?_) (fun d_46 => ?_)
                                                 · first
                                                   | exact absurd d_46 (by omega)
                                                   | (refine b_X4_sample_61 (by first | omega | assumption) (fun d_61 => ?_) (fun d_61 => ?_)
                                                      · first
                                                        | exact absurd d_61 (by omega)
                                                        | (refine b_X4_sample_76 (by first | omega | assumption) (by first | omega | assumption) (by first | omega | assumption) ?_
                                                           refine b_X4_sample_84  ?_
                                                           exact JE (by first | (rw [hmf1]; exact (pl_congr hE (by omega) (by omega)).symm) | (rw [h9111, hzs _ (by omega) (by omega)]; exact (pz_congr hn0 hE).symm)) hI1)
                                                      · first
                                                        | exact absurd d_61 (by omega)
                                                        | (refine b_X4_sample_65 (by first | omega | assumption) ?_
                                                           refine s_X4_placeOf hM1 (by omega) (by omega) ?_
                                                           refine b_X4_sample_73  ?_
                                                           refine b_X4_sample_84  ?_
                                                           exact JE (by first | (rw [hmf1]; exact (pl_congr hE (by omega) (by omega)).symm) | (rw [h9111, hzs _ (by omega) (by omega)]; exact (pz_congr hn0 hE).symm)) hI1))
                                                 · first
                                                   | exact absurd d_46 (by omega)
                                                   | (refine b_X4_sample_58  ?_
                                                      exact JE (by rfl) hI1)))
                                       · first
                                         | exact absurd d_18 (by omega)
                                         | (refine b_X4_sample_22  ?_
                                            exact JE (by first | rfl | omega) hI))))))
              · first
                | exact absurd c_16 (by omega)
                | (refine b_X3_sample_20  ?_
                   refine JQ.mk (by omega) ?_
                   refine b_X4_sample_0  ?_
                   refine s_X4_in (by omega) (by omega) (by omega) (fun r hr => ?_)
                   refine b_X4_sample_6 (by first | omega | assumption) (fun d_6 => ?_) (fun d_6 => ?_)
                   · first
                     | exact absurd d_6 (by omega)
                     | (refine b_X4_sample_22  ?_
                        exact JE (by first | rfl | omega) hI)
                   · first
                     | exact absurd d_6 (by omega)
                     | (refine b_X4_sample_9  ?_
                        refine s_X4_in (by omega) (by omega) (by omega) (fun r hr => ?_)
                        refine b_X4_sample_15 (by first | omega | assumption) (fun d_15 => ?_) (fun d_15 => ?_)
                        · first
                          | exact absurd d_15 (by omega)
                          | (refine b_X4_sample_22  ?_
                             exact JE (by first | rfl | omega) hI)
                        · first
                          | exact absurd d_15 (by omega)
                          | (refine b_X4_sample_18 (by first | omega | assumption) (fun d_18 => ?_) (fun d_18 => ?_)
                             · first
                               | exact absurd d_18 (by omega)
                               | (refine b_X4_sample_25 (by first | omega | assumption) ?_
                                  refine s_X4_lays hM hV hu9 hu11 (fun w1 hS hbits hzf hUP hzs => ?_)
                                  have hM1 := hS.MR hM
                                  have hmf1 := hS.mf q
                                  have ha1 : al (w1 9 0) = 84 := by rw [hM1.2.1]; rfl
                                  have hI1 := hS.sd.Inv hI
                                  have h991 : w1 9 9 = 15 := (hS.2 9 (by decide) (by decide) (by decide) (by decide)).trans hu9
                                  have ha91 : al (w1 9 9) = 4200 := by rw [h991]; rfl
                                  have h9111 : w1 9 11 = 16 := (hS.2 11 (by decide) (by decide) (by decide) (by decide)).trans hu11
                                  have ha111 : al (w1 9 11) = 4200 := by rw [h9111]; rfl
                                  refine b_X4_sample_30 (by first | omega | assumption) (fun d_30 => ?_) (fun d_30 => ?_)
                                  · first
                                    | exact absurd d_30 (by omega)
                                    | (refine b_X4_sample_42 (by first | omega | assumption) ?_
                                       refine b_X4_sample_46 (by first | omega | assumption) (by first | omega | assumption) (by first | omega | assumption) (by first | omega | assumption) (fun d_46 => ?_) (fun d_46 => ?_)
                                       · first
                                         | exact absurd d_46 (by omega)
                                         | (refine b_X4_sample_61 (by first | omega | assumption) (fun d_61 => ?_) (fun d_61 => ?_)
                                            · first
                                              | exact absurd d_61 (by omega)
                                              | (refine b_X4_sample_76 (by first | omega | assumption) (by first | omega | assumption) (by first | omega | assumption) ?_
                                                 refine b_X4_sample_84  ?_
                                                 exact JE (by first | (rw [hmf1]; exact (pl_congr hE (by omega) (by omega)).symm) | (rw [h9111, hzs _ (by omega) (by omega)]; exact (pz_congr hn0 hE).symm)) hI1)
                                            · first
                                              | exact absurd d_61 (by omega)
                                              | (refine b_X4_sample_65 (by first | omega | assumption) ?_
                                                 refine s_X4_placeOf hM1 (by omega) (by omega) ?_
                                                 refine b_X4_sample_73  ?_
                                                 refine b_X4_sample_84  ?_
                                                 exact JE (by first | (rw [hmf1]; exact (pl_congr hE (by omega) (by omega)).symm) | (rw [h9111, hzs _ (by omega) (by omega)]; exact (pz_congr hn0 hE).symm)) hI1))
                                       · first
                                         | exact absurd d_46 (by omega)
                                         | (refine b_X4_sample_58  ?_
                                            exact JE (by rfl) hI1))
                                  · first
                                    | exact absurd d_30 (by omega)
                                    | (refine b_X4_sample_34 (by first | omega | assumption) ?_
                                       refine s_X4_many hM1 ?_
                                       refine b_X4_sample_39  ?_
                                       refine b_X4_sample_46 (by first | omega | assumption) (by first | omega | assumption) (by first | omega | assumption) (by first | omega | assumption) (fun d_46 => ?_) (fun d_46 => ?_)
                                       · first
                                         | exact absurd d_46 (by omega)
                                         | (refine b_X4_sample_61 (by first | omega | assumption) (fun d_61 => ?_) (fun d_61 => ?_)
                                            · first
                                              | exact absurd d_61 (by omega)
                                              | (refine b_X4_sample_76 (by first | omega | assumption) (by first | omega | assumption) (by first | omega | assumption) ?_
                                                 refine b_X4_sample_84  ?_
                                                 exact JE (by first | (rw [hmf1]; exact (pl_congr hE (by omega) (by omega)).symm) | (rw [h9111, hzs _ (by omega) (by omega)]; exact (pz_congr hn0 hE).symm)) hI1)
                                            · first
                                              | exact absurd d_61 (by omega)
                                              | (refine b_X4_sample_65 (by first | omega | assumption) ?_
                                                 refine s_X4_placeOf hM1 (by omega) (by omega) ?_
                                                 refine b_X4_sample_73  ?_
                                                 refine b_X4_sample_84  ?_
                                                 exact JE (by first | (rw [hmf1]; exact (pl_congr hE (by omega) (by omega)).symm) | (rw [h9111, hzs _ (by omega) (by omega)]; exact (pz_congr hn0 hE).symm)) hI1))
                                       · first
                                         | exact absurd d_46 (by omega)
                                         | (refine b_X4_sample_58  ?_
                                            exact JE (by rfl) hI1)))
                             · first
                               | exact absurd d_18 (by omega)
                               | (refine b_X4_sample_22  ?_
                                  exact JE (by first | rfl | omega) hI))))))
  · have hq2 : q < 0 ∨ 1 < q := by omega
    refine b_X3_sample_0  ?_
    refine s_X3_isRow (by omega) (fun r hr => ?_)
    refine b_X3_sample_4 (by first | omega | assumption) (fun c_4 => ?_) (fun c_4 => ?_)
    · first
      | exact absurd c_4 (by omega)
      | (refine b_X3_sample_20  ?_
         refine JQ.mk (by omega) ?_
         refine b_X4_sample_0  ?_
         refine s_X4_in (by omega) (by omega) (by omega) (fun r hr => ?_)
         refine b_X4_sample_6 (by first | omega | assumption) (fun d_6 => ?_) (fun d_6 => ?_)
         · first
           | exact absurd d_6 (by omega)
           | (refine b_X4_sample_22  ?_
              exact JE (by first | rfl | omega) hI)
         · first
           | exact absurd d_6 (by omega)
           | (refine b_X4_sample_9  ?_
              refine s_X4_in (by omega) (by omega) (by omega) (fun r hr => ?_)
              refine b_X4_sample_15 (by first | omega | assumption) (fun d_15 => ?_) (fun d_15 => ?_)
              · first
                | exact absurd d_15 (by omega)
                | (refine b_X4_sample_22  ?_
                   exact JE (by first | rfl | omega) hI)
              · first
                | exact absurd d_15 (by omega)
                | (refine b_X4_sample_18 (by first | omega | assumption) (fun d_18 => ?_) (fun d_18 => ?_)
                   · first
                     | exact absurd d_18 (by omega)
                     | (refine b_X4_sample_25 (by first | omega | assumption) ?_
                        refine s_X4_lays hM hV hu9 hu11 (fun w1 hS hbits hzf hUP hzs => ?_)
                        have hM1 := hS.MR hM
                        have hmf1 := hS.mf q
                        have ha1 : al (w1 9 0) = 84 := by rw [hM1.2.1]; rfl
                        have hI1 := hS.sd.Inv hI
                        have h991 : w1 9 9 = 15 := (hS.2 9 (by decide) (by decide) (by decide) (by decide)).trans hu9
                        have ha91 : al (w1 9 9) = 4200 := by rw [h991]; rfl
                        have h9111 : w1 9 11 = 16 := (hS.2 11 (by decide) (by decide) (by decide) (by decide)).trans hu11
                        have ha111 : al (w1 9 11) = 4200 := by rw [h9111]; rfl
                        refine b_X4_sample_30 (by first | omega | assumption) (fun d_30 => ?_) (fun d_30 => ?_)
                        · first
                          | exact absurd d_30 (by omega)
                          | (refine b_X4_sample_42 (by first | omega | assumption) ?_
                             refine b_X4_sample_46 (by first | omega | assumption) (by first | omega | assumption) (by first | omega | assumption) (by first | omega | assumption) (fun d_46 => ?_) (fun d_46 => ?_)
                             · first
                               | exact absurd d_46 (by omega)
                               | (refine b_X4_sample_61 (by first | omega | assumption) (fun d_61 => ?_) (fun d_61 => ?_)
                                  · first
                                    | exact absurd d_61 (by omega)
                                    | (refine b_X4_sample_76 (by first | omega | assumption) (by first | omega | assumption) (by first | omega | assumption) ?_
                                       refine b_X4_sample_84  ?_
                                       exact JE (by first | (rw [hmf1]; exact (pl_congr hE (by omega) (by omega)).symm) | (rw [h9111, hzs _ (by omega) (by omega)]; exact (pz_congr hn0 hE).symm)) hI)
                                  · first
                                    | exact absurd d_61 (by omega)
                                    | (refine b_X4_sample_65 (by first | omega | assumption) ?_
                                       refine s_X4_placeOf hM1 (by omega) (by omega) ?_
                                       refine b_X4_sample_73  ?_
                                       refine b_X4_sample_84  ?_
                                       exact JE (by first | (rw [hmf1]; exact (pl_congr hE (by omega) (by omega)).symm) | (rw [h9111, hzs _ (by omega) (by omega)]; exact (pz_congr hn0 hE).symm)) hI))
                             · first
                               | exact absurd d_46 (by omega)
                               | (refine b_X4_sample_58  ?_
                                  exact JE (by rfl) hI))
                        · first
                          | exact absurd d_30 (by omega)
                          | (refine b_X4_sample_34 (by first | omega | assumption) ?_
                             refine s_X4_many hM1 ?_
                             refine b_X4_sample_39  ?_
                             refine b_X4_sample_46 (by first | omega | assumption) (by first | omega | assumption) (by first | omega | assumption) (by first | omega | assumption) (fun d_46 => ?_) (fun d_46 => ?_)
                             · first
                               | exact absurd d_46 (by omega)
                               | (refine b_X4_sample_61 (by first | omega | assumption) (fun d_61 => ?_) (fun d_61 => ?_)
                                  · first
                                    | exact absurd d_61 (by omega)
                                    | (refine b_X4_sample_76 (by first | omega | assumption) (by first | omega | assumption) (by first | omega | assumption) ?_
                                       refine b_X4_sample_84  ?_
                                       exact JE (by first | (rw [hmf1]; exact (pl_congr hE (by omega) (by omega)).symm) | (rw [h9111, hzs _ (by omega) (by omega)]; exact (pz_congr hn0 hE).symm)) hI)
                                  · first
                                    | exact absurd d_61 (by omega)
                                    | (refine b_X4_sample_65 (by first | omega | assumption) ?_
                                       refine s_X4_placeOf hM1 (by omega) (by omega) ?_
                                       refine b_X4_sample_73  ?_
                                       refine b_X4_sample_84  ?_
                                       exact JE (by first | (rw [hmf1]; exact (pl_congr hE (by omega) (by omega)).symm) | (rw [h9111, hzs _ (by omega) (by omega)]; exact (pz_congr hn0 hE).symm)) hI))
                             · first
                               | exact absurd d_46 (by omega)
                               | (refine b_X4_sample_58  ?_
                                  exact JE (by rfl) hI)))
                   · first
                     | exact absurd d_18 (by omega)
                     | (refine b_X4_sample_22  ?_
                        exact JE (by first | rfl | omega) hI))))
    · first
      | exact absurd c_4 (by omega)
      | (refine b_X3_sample_7  ?_
         refine s_X3_isWithin (by omega) (by omega) (by omega) (fun r hr => ?_)
         refine b_X3_sample_13 (by first | omega | assumption) (fun c_13 => ?_) (fun c_13 => ?_)
         · first
           | exact absurd c_13 (by omega)
           | (refine b_X3_sample_20  ?_
              refine JQ.mk (by omega) ?_
              refine b_X4_sample_0  ?_
              refine s_X4_in (by omega) (by omega) (by omega) (fun r hr => ?_)
              refine b_X4_sample_6 (by first | omega | assumption) (fun d_6 => ?_) (fun d_6 => ?_)
              · first
                | exact absurd d_6 (by omega)
                | (refine b_X4_sample_22  ?_
                   exact JE (by first | rfl | omega) hI)
              · first
                | exact absurd d_6 (by omega)
                | (refine b_X4_sample_9  ?_
                   refine s_X4_in (by omega) (by omega) (by omega) (fun r hr => ?_)
                   refine b_X4_sample_15 (by first | omega | assumption) (fun d_15 => ?_) (fun d_15 => ?_)
                   · first
                     | exact absurd d_15 (by omega)
                     | (refine b_X4_sample_22  ?_
                        exact JE (by first | rfl | omega) hI)
                   · first
                     | exact absurd d_15 (by omega)
                     | (refine b_X4_sample_18 (by first | omega | assumption) (fun d_18 => ?_) (fun d_18 => ?_)
                        · first
                          | exact absurd d_18 (by omega)
                          | (refine b_X4_sample_25 (by first | omega | assumption) ?_
                             refine s_X4_lays hM hV hu9 hu11 (fun w1 hS hbits hzf hUP hzs => ?_)
                             have hM1 := hS.MR hM
                             have hmf1 := hS.mf q
                             have ha1 : al (w1 9 0) = 84 := by rw [hM1.2.1]; rfl
                             have hI1 := hS.sd.Inv hI
                             have h991 : w1 9 9 = 15 := (hS.2 9 (by decide) (by decide) (by decide) (by decide)).trans hu9
                             have ha91 : al (w1 9 9) = 4200 := by rw [h991]; rfl
                             have h9111 : w1 9 11 = 16 := (hS.2 11 (by decide) (by decide) (by decide) (by decide)).trans hu11
                             have ha111 : al (w1 9 11) = 4200 := by rw [h9111]; rfl
                             refine b_X4_sample_30 (by first | omega | assumption) (fun d_30 => ?_) (fun d_30 => ?_)
                             · first
                               | exact absurd d_30 (by omega)
                               | (refine b_X4_sample_42 (by first | omega | assumption) ?_
                                  refine b_X4_sample_46 (by first | omega | assumption) (by first | omega | assumption) (by first | omega | assumption) (by first | omega | assumption) (fun d_46 => ?_) (fun d_46 => ?_)
                                  · first
                                    | exact absurd d_46 (by omega)
                                    | (refine b_X4_sample_61 (by first | omega | assumption) (fun d_61 => ?_) (fun d_61 => ?_)
                                       · first
                                         | exact absurd d_61 (by omega)
                                         | (refine b_X4_sample_76 (by first | omega | assumption) (by first | omega | assumption) (by first | omega | assumption) ?_
                                            refine b_X4_sample_84  ?_
                                            exact JE (by first | (rw [hmf1]; exact (pl_congr hE (by omega) (by omega)).symm) | (rw [h9111, hzs _ (by omega) (by omega)]; exact (pz_congr hn0 hE).symm)) hI)
                                       · first
                                         | exact absurd d_61 (by omega)
                                         | (refine b_X4_sample_65 (by first | omega | assumption) ?_
                                            refine s_X4_placeOf hM1 (by omega) (by omega) ?_
                                            refine b_X4_sample_73  ?_
                                            refine b_X4_sample_84  ?_
                                            exact JE (by first | (rw [hmf1]; exact (pl_congr hE (by omega) (by omega)).symm) | (rw [h9111, hzs _ (by omega) (by omega)]; exact (pz_congr hn0 hE).symm)) hI))
                                  · first
                                    | exact absurd d_46 (by omega)
                                    | (refine b_X4_sample_58  ?_
                                       exact JE (by rfl) hI))
                             · first
                               | exact absurd d_30 (by omega)
                               | (refine b_X4_sample_34 (by first | omega | assumption) ?_
                                  refine s_X4_many hM1 ?_
                                  refine b_X4_sample_39  ?_
                                  refine b_X4_sample_46 (by first | omega | assumption) (by first | omega | assumption) (by first | omega | assumption) (by first | omega | assumption) (fun d_46 => ?_) (fun d_46 => ?_)
                                  · first
                                    | exact absurd d_46 (by omega)
                                    | (refine b_X4_sample_61 (by first | omega | assumption) (fun d_61 => ?_) (fun d_61 => ?_)
                                       · first
                                         | exact absurd d_61 (by omega)
                                         | (refine b_X4_sample_76 (by first | omega | assumption) (by first | omega | assumption) (by first | omega | assumption) ?_
                                            refine b_X4_sample_84  ?_
                                            exact JE (by first | (rw [hmf1]; exact (pl_congr hE (by omega) (by omega)).symm) | (rw [h9111, hzs _ (by omega) (by omega)]; exact (pz_congr hn0 hE).symm)) hI)
                                       · first
                                         | exact absurd d_61 (by omega)
                                         | (refine b_X4_sample_65 (by first | omega | assumption) ?_
                                            refine s_X4_placeOf hM1 (by omega) (by omega) ?_
                                            refine b_X4_sample_73  ?_
                                            refine b_X4_sample_84  ?_
                                            exact JE (by first | (rw [hmf1]; exact (pl_congr hE (by omega) (by omega)).symm) | (rw [h9111, hzs _ (by omega) (by omega)]; exact (pz_congr hn0 hE).symm)) hI))
                                  · first
                                    | exact absurd d_46 (by omega)
                                    | (refine b_X4_sample_58  ?_
                                       exact JE (by rfl) hI)))
                        · first
                          | exact absurd d_18 (by omega)
                          | (refine b_X4_sample_22  ?_
                             exact JE (by first | rfl | omega) hI))))
         · first
           | exact absurd c_13 (by omega)
           | (refine b_X3_sample_16 (by first | omega | assumption) (fun c_16 => ?_) (fun c_16 => ?_)
              · first
                | exact absurd c_16 (by omega)
                | (refine b_X3_sample_23 (by first | omega | assumption) ?_
                   refine s_X3_rowAt hra ?_
                   refine b_X3_sample_28 (by first | omega | assumption) (fun c_28 => ?_) (fun c_28 => ?_)
                   · first
                     | exact absurd c_28 (by omega)
                     | (refine b_X3_sample_44 (by first | omega | assumption) ?_
                        refine b_X3_sample_49  ?_
                        refine s_X3_samplesOf (by omega) (by omega) ?_
                        refine b_X3_sample_52 (by first | omega | assumption) (by first | omega | assumption) (fun c_52 => ?_) (fun c_52 => ?_)
                        · first
                          | exact absurd c_52 (by omega)
                          | (refine b_X3_sample_58 (by first | omega | assumption) (fun c_58 => ?_) (fun c_58 => ?_)
                             · first
                               | exact absurd c_58 (by omega)
                               | (refine b_X3_sample_78 (by first | omega | assumption) ?_
                                  refine s_X1_placeOfOne hR (by omega) (by omega) ?_
                                  first
                                  | have hpb := (pl_congr (b := b) hE (show 0 ≤ 4 * y by omega) (by omega)) ▸ pl_ub hV (show 0 ≤ 4 * y by omega) (show 4 * y < n by omega)
                                  | skip
                                  refine b_X3_sample_85  ?_
                                  refine JQ.mk (by omega) ?_
                                  refine b_X4_sample_0  ?_
                                  refine s_X4_in (by omega) (by omega) (by omega) (fun r hr => ?_)
                                  refine b_X4_sample_6 (by first | omega | assumption) (fun d_6 => ?_) (fun d_6 => ?_)
                                  · first
                                    | exact absurd d_6 (by omega)
                                    | (refine b_X4_sample_22  ?_
                                       exact JE (by first | rfl | omega) hI)
                                  · first
                                    | exact absurd d_6 (by omega)
                                    | (refine b_X4_sample_9  ?_
                                       refine s_X4_in (by omega) (by omega) (by omega) (fun r hr => ?_)
                                       refine b_X4_sample_15 (by first | omega | assumption) (fun d_15 => ?_) (fun d_15 => ?_)
                                       · first
                                         | exact absurd d_15 (by omega)
                                         | (refine b_X4_sample_22  ?_
                                            exact JE (by first | rfl | omega) hI)
                                       · first
                                         | exact absurd d_15 (by omega)
                                         | (refine b_X4_sample_18 (by first | omega | assumption) (fun d_18 => ?_) (fun d_18 => ?_)
                                            · first
                                              | exact absurd d_18 (by omega)
                                              | (refine b_X4_sample_25 (by first | omega | assumption) ?_
                                                 refine s_X4_lays hM hV hu9 hu11 (fun w1 hS hbits hzf hUP hzs => ?_)
                                                 have hM1 := hS.MR hM
                                                 have hmf1 := hS.mf q
                                                 have ha1 : al (w1 9 0) = 84 := by rw [hM1.2.1]; rfl
                                                 have hI1 := hS.sd.Inv hI
                                                 have h991 : w1 9 9 = 15 := (hS.2 9 (by decide) (by decide) (by decide) (by decide)).trans hu9
                                                 have ha91 : al (w1 9 9) = 4200 := by rw [h991]; rfl
                                                 have h9111 : w1 9 11 = 16 := (hS.2 11 (by decide) (by decide) (by decide) (by decide)).trans hu11
                                                 have ha111 : al (w1 9 11) = 4200 := by rw [h9111]; rfl
                                                 refine b_X4_sample_30 (by first | omega | assumption) (fun d_30 => ?_) (fun d_30 => ?_)
                                                 · first
                                                   | exact absurd d_30 (by omega)
                                                   | (refine b_X4_sample_42 (by first | omega | assumption) ?_
                                                      refine b_X4_sample_46 (by first | omega | assumption) (by first | omega | assumption) (by first | omega | assumption) (by first | omega | assumption) (fun d_46 => ?_) (fun d_46 => ?_)
                                                      · first
                                                        | exact absurd d_46 (by omega)
                                                        | (refine b_X4_sample_61 (by first | omega | assumption) (fun d_61 => ?_) (fun d_61 => ?_)
                                                           · first
                                                             | exact absurd d_61 (by omega)
                                                             | (refine b_X4_sample_76 (by first | omega | assumption) (by first | omega | assumption) (by first | omega | assumption) ?_
                                                                refine b_X4_sample_84  ?_
                                                                exact JE (by first | (rw [hmf1]; exact (pl_congr hE (by omega) (by omega)).symm) | (rw [h9111, hzs _ (by omega) (by omega)]; exact (pz_congr hn0 hE).symm)) hI)
                                                           · first
                                                             | exact absurd d_61 (by omega)
                                                             | (refine b_X4_sample_65 (by first | omega | assumption) ?_
                                                                refine s_X4_placeOf hM1 (by omega) (by omega) ?_
                                                                refine b_X4_sample_73  ?_
                                                                refine b_X4_sample_84  ?_
                                                                exact JE (by first | (rw [hmf1]; exact (pl_congr hE (by omega) (by omega)).symm) | (rw [h9111, hzs _ (by omega) (by omega)]; exact (pz_congr hn0 hE).symm)) hI))
                                                      · first
                                                        | exact absurd d_46 (by omega)
                                                        | (refine b_X4_sample_58  ?_
                                                           exact JE (by rfl) hI))
                                                 · first
                                                   | exact absurd d_30 (by omega)
                                                   | (refine b_X4_sample_34 (by first | omega | assumption) ?_
                                                      refine s_X4_many hM1 ?_
                                                      refine b_X4_sample_39  ?_
                                                      refine b_X4_sample_46 (by first | omega | assumption) (by first | omega | assumption) (by first | omega | assumption) (by first | omega | assumption) (fun d_46 => ?_) (fun d_46 => ?_)
                                                      · first
                                                        | exact absurd d_46 (by omega)
                                                        | (refine b_X4_sample_61 (by first | omega | assumption) (fun d_61 => ?_) (fun d_61 => ?_)
                                                           · first
                                                             | exact absurd d_61 (by omega)
                                                             | (refine b_X4_sample_76 (by first | omega | assumption) (by first | omega | assumption) (by first | omega | assumption) ?_
                                                                refine b_X4_sample_84  ?_
                                                                exact JE (by first | (rw [hmf1]; exact (pl_congr hE (by omega) (by omega)).symm) | (rw [h9111, hzs _ (by omega) (by omega)]; exact (pz_congr hn0 hE).symm)) hI)
                                                           · first
                                                             | exact absurd d_61 (by omega)
                                                             | (refine b_X4_sample_65 (by first | omega | assumption) ?_
                                                                refine s_X4_placeOf hM1 (by omega) (by omega) ?_
                                                                refine b_X4_sample_73  ?_
                                                                refine b_X4_sample_84  ?_
                                                                exact JE (by first | (rw [hmf1]; exact (pl_congr hE (by omega) (by omega)).symm) | (rw [h9111, hzs _ (by omega) (by omega)]; exact (pz_congr hn0 hE).symm)) hI))
                                                      · first
                                                        | exact absurd d_46 (by omega)
                                                        | (refine b_X4_sample_58  ?_
                                                           exact JE (by rfl) hI)))
                                            · first
                                              | exact absurd d_18 (by omega)
                                              | (refine b_X4_sample_22  ?_
                                                 exact JE (by first | rfl | omega) hI))))
                             · first
                               | exact absurd c_58 (by omega)
                               | (refine b_X3_sample_68 (by first | omega | assumption) ?_
                                  refine s_X1_placeOfZero hR (by omega) ?_
                                  have hpz := pz_bd (f := w (a + 1)) (b := b) hn (show 0 ≤ 4 * y ∧ 4 * y < 5000 by omega)
                                  refine b_X3_sample_75  ?_
                                  first
                                  | have hpb := (pl_congr (b := b) hE (show 0 ≤ 4 * y by omega) (by omega)) ▸ pl_ub hV (show 0 ≤ 4 * y by omega) (show 4 * y < n by omega)
                                  | skip
                                  refine b_X3_sample_85  ?_
                                  refine JQ.mk (by omega) ?_
                                  refine b_X4_sample_0  ?_
                                  refine s_X4_in (by omega) (by omega) (by omega) (fun r hr => ?_)
                                  refine b_X4_sample_6 (by first | omega | assumption) (fun d_6 => ?_) (fun d_6 => ?_)
                                  · first
                                    | exact absurd d_6 (by omega)
                                    | (refine b_X4_sample_22  ?_
                                       exact JE (by first | rfl | omega) hI)
                                  · first
                                    | exact absurd d_6 (by omega)
                                    | (refine b_X4_sample_9  ?_
                                       refine s_X4_in (by omega) (by omega) (by omega) (fun r hr => ?_)
                                       refine b_X4_sample_15 (by first | omega | assumption) (fun d_15 => ?_) (fun d_15 => ?_)
                                       · first
                                         | exact absurd d_15 (by omega)
                                         | (refine b_X4_sample_22  ?_
                                            exact JE (by first | rfl | omega) hI)
                                       · first
                                         | exact absurd d_15 (by omega)
                                         | (refine b_X4_sample_18 (by first | omega | assumption) (fun d_18 => ?_) (fun d_18 => ?_)
                                            · first
                                              | exact absurd d_18 (by omega)
                                              | (refine b_X4_sample_25 (by first | omega | assumption) ?_
                                                 refine s_X4_lays hM hV hu9 hu11 (fun w1 hS hbits hzf hUP hzs => ?_)
                                                 have hM1 := hS.MR hM
                                                 have hmf1 := hS.mf q
                                                 have ha1 : al (w1 9 0) = 84 := by rw [hM1.2.1]; rfl
                                                 have hI1 := hS.sd.Inv hI
                                                 have h991 : w1 9 9 = 15 := (hS.2 9 (by decide) (by decide) (by decide) (by decide)).trans hu9
                                                 have ha91 : al (w1 9 9) = 4200 := by rw [h991]; rfl
                                                 have h9111 : w1 9 11 = 16 := (hS.2 11 (by decide) (by decide) (by decide) (by decide)).trans hu11
                                                 have ha111 : al (w1 9 11) = 4200 := by rw [h9111]; rfl
                                                 refine b_X4_sample_30 (by first | omega | assumption) (fun d_30 => ?_) (fun d_30 => ?_)
                                                 · first
                                                   | exact absurd d_30 (by omega)
                                                   | (refine b_X4_sample_42 (by first | omega | assumption) ?_
                                                      refine b_X4_sample_46 (by first | omega | assumption) (by first | omega | assumption) (by first | omega | assumption) (by first | omega | assumption) (fun d_46 => ?_) (fun d_46 => ?_)
                                                      · first
                                                        | exact absurd d_46 (by omega)
                                                        | (refine b_X4_sample_61 (by first | omega | assumption) (fun d_61 => ?_) (fun d_61 => ?_)
                                                           · first
                                                             | exact absurd d_61 (by omega)
                                                             | (refine b_X4_sample_76 (by first | omega | assumption) (by first | omega | assumption) (by first | omega | assumption) ?_
                                                                refine b_X4_sample_84  ?_
                                                                exact JE (by first | (rw [hmf1]; exact (pl_congr hE (by omega) (by omega)).symm) | (rw [h9111, hzs _ (by omega) (by omega)]; exact (pz_congr hn0 hE).symm)) hI)
                                                           · first
                                                             | exact absurd d_61 (by omega)
                                                             | (refine b_X4_sample_65 (by first | omega | assumption) ?_
                                                                refine s_X4_placeOf hM1 (by omega) (by omega) ?_
                                                                refine b_X4_sample_73  ?_
                                                                refine b_X4_sample_84  ?_
                                                                exact JE (by first | (rw [hmf1]; exact (pl_congr hE (by omega) (by omega)).symm) | (rw [h9111, hzs _ (by omega) (by omega)]; exact (pz_congr hn0 hE).symm)) hI))
                                                      · first
                                                        | exact absurd d_46 (by omega)
                                                        | (refine b_X4_sample_58  ?_
                                                           exact JE (by rfl) hI))
                                                 · first
                                                   | exact absurd d_30 (by omega)
                                                   | (refine b_X4_sample_34 (by first | omega | assumption) ?_
                                                      refine s_X4_many hM1 ?_
                                                      refine b_X4_sample_39  ?_
                                                      refine b_X4_sample_46 (by first | omega | assumption) (by first | omega | assumption) (by first | omega | assumption) (by first | omega | assumption) (fun d_46 => ?_) (fun d_46 => ?_)
                                                      · first
                                                        | exact absurd d_46 (by omega)
                                                        | (refine b_X4_sample_61 (by first | omega | assumption) (fun d_61 => ?_) (fun d_61 => ?_)
                                                           · first
                                                             | exact absurd d_61 (by omega)
                                                             | (refine b_X4_sample_76 (by first | omega | assumption) (by first | omega | assumption) (by first | omega | assumption) ?_
                                                                refine b_X4_sample_84  ?_
                                                                exact JE (by first | (rw [hmf1]; exact (pl_congr hE (by omega) (by omega)).symm) | (rw [h9111, hzs _ (by omega) (by omega)]; exact (pz_congr hn0 hE).symm)) hI)
                                                           · first
                                                             | exact absurd d_61 (by omega)
                                                             | (refine b_X4_sample_65 (by first | omega | assumption) ?_
                                                                refine s_X4_placeOf hM1 (by omega) (by omega) ?_
                                                                refine b_X4_sample_73  ?_
                                                                refine b_X4_sample_84  ?_
                                                                exact JE (by first | (rw [hmf1]; exact (pl_congr hE (by omega) (by omega)).symm) | (rw [h9111, hzs _ (by omega) (by omega)]; exact (pz_congr hn0 hE).symm)) hI))
                                                      · first
                                                        | exact absurd d_46 (by omega)
                                                        | (refine b_X4_sample_58  ?_
                                                           exact JE (by rfl) hI)))
                                            · first
                                              | exact absurd d_18 (by omega)
                                              | (refine b_X4_sample_22  ?_
                                                 exact JE (by first | rfl | omega) hI)))))
                        · first
                          | exact absurd c_52 (by omega)
                          | (refine b_X3_sample_55  ?_
                             refine JQ.mk (by omega) ?_
                             refine b_X4_sample_0  ?_
                             refine s_X4_in (by omega) (by omega) (by omega) (fun r hr => ?_)
                             refine b_X4_sample_6 (by first | omega | assumption) (fun d_6 => ?_) (fun d_6 => ?_)
                             · first
                               | exact absurd d_6 (by omega)
                               | (refine b_X4_sample_22  ?_
                                  exact JE (by first | rfl | omega) hI)
                             · first
                               | exact absurd d_6 (by omega)
                               | (refine b_X4_sample_9  ?_
                                  refine s_X4_in (by omega) (by omega) (by omega) (fun r hr => ?_)
                                  refine b_X4_sample_15 (by first | omega | assumption) (fun d_15 => ?_) (fun d_15 => ?_)
                                  · first
                                    | exact absurd d_15 (by omega)
                                    | (refine b_X4_sample_22  ?_
                                       exact JE (by first | rfl | omega) hI)
                                  · first
                                    | exact absurd d_15 (by omega)
                                    | (refine b_X4_sample_18 (by first | omega | assumption) (fun d_18 => ?_) (fun d_18 => ?_)
                                       · first
                                         | exact absurd d_18 (by omega)
                                         | (refine b_X4_sample_25 (by first | omega | assumption) ?_
                                            refine s_X4_lays hM hV hu9 hu11 (fun w1 hS hbits hzf hUP hzs => ?_)
                                            have hM1 := hS.MR hM
                                            have hmf1 := hS.mf q
                                            have ha1 : al (w1 9 0) = 84 := by rw [hM1.2.1]; rfl
                                            have hI1 := hS.sd.Inv hI
                                            have h991 : w1 9 9 = 15 := (hS.2 9 (by decide) (by decide) (by decide) (by decide)).trans hu9
                                            have ha91 : al (w1 9 9) = 4200 := by rw [h991]; rfl
                                            have h9111 : w1 9 11 = 16 := (hS.2 11 (by decide) (by decide) (by decide) (by decide)).trans hu11
                                            have ha111 : al (w1 9 11) = 4200 := by rw [h9111]; rfl
                                            refine b_X4_sample_30 (by first | omega | assumption) (fun d_30 => ?_) (fun d_30 => ?_)
                                            · first
                                              | exact absurd d_30 (by omega)
                                              | (refine b_X4_sample_42 (by first | omega | assumption) ?_
                                                 refine b_X4_sample_46 (by first | omega | assumption) (by first | omega | assumption) (by first | omega | assumption) (by first | omega | assumption) (fun d_46 => ?_) (fun d_46 => ?_)
                                                 · first
                                                   | exact absurd d_46 (by omega)
                                                   | (refine b_X4_sample_61 (by first | omega | assumption) (fun d_61 => ?_) (fun d_61 => ?_)
                                                      · first
                                                        | exact absurd d_61 (by omega)
                                                        | (refine b_X4_sample_76 (by first | omega | assumption) (by first | omega | assumption) (by first | omega | assumption) ?_
                                                           refine b_X4_sample_84  ?_
                                                           exact JE (by first | (rw [hmf1]; exact (pl_congr hE (by omega) (by omega)).symm) | (rw [h9111, hzs _ (by omega) (by omega)]; exact (pz_congr hn0 hE).symm)) hI)
                                                      · first
                                                        | exact absurd d_61 (by omega)
                                                        | (refine b_X4_sample_65 (by first | omega | assumption) ?_
                                                           refine s_X4_placeOf hM1 (by omega) (by omega) ?_
                                                           refine b_X4_sample_73  ?_
                                                           refine b_X4_sample_84  ?_
                                                           exact JE (by first | (rw [hmf1]; exact (pl_congr hE (by omega) (by omega)).symm) | (rw [h9111, hzs _ (by omega) (by omega)]; exact (pz_congr hn0 hE).symm)) hI))
                                                 · first
                                                   | exact absurd d_46 (by omega)
                                                   | (refine b_X4_sample_58  ?_
                                                      exact JE (by rfl) hI))
                                            · first
                                              | exact absurd d_30 (by omega)
                                              | (refine b_X4_sample_34 (by first | omega | assumption) ?_
                                                 refine s_X4_many hM1 ?_
                                                 refine b_X4_sample_39  ?_
                                                 refine b_X4_sample_46 (by first | omega | assumption) (by first | omega | assumption) (by first | omega | assumption) (by first | omega | assumption) (fun d_46 => ?_) (fun d_46 => ?_)
                                                 · first
                                                   | exact absurd d_46 (by omega)
                                                   | (refine b_X4_sample_61 (by first | omega | assumption) (fun d_61 => ?_) (fun d_61 => ?_)
                                                      · first
                                                        | exact absurd d_61 (by omega)
                                                        | (refine b_X4_sample_76 (by first | omega | assumption) (by first | omega | assumption) (by first | omega | assumption) ?_
                                                           refine b_X4_sample_84  ?_
                                                           exact JE (by first | (rw [hmf1]; exact (pl_congr hE (by omega) (by omega)).symm) | (rw [h9111, hzs _ (by omega) (by omega)]; exact (pz_congr hn0 hE).symm)) hI)
                                                      · first
                                                        | exact absurd d_61 (by omega)
                                                        | (refine b_X4_sample_65 (by first | omega | assumption) ?_
                                                           refine s_X4_placeOf hM1 (by omega) (by omega) ?_
                                                           refine b_X4_sample_73  ?_
                                                           refine b_X4_sample_84  ?_
                                                           exact JE (by first | (rw [hmf1]; exact (pl_congr hE (by omega) (by omega)).symm) | (rw [h9111, hzs _ (by omega) (by omega)]; exact (pz_congr hn0 hE).symm)) hI))
                                                 · first
                                                   | exact absurd d_46 (by omega)
                                                   | (refine b_X4_sample_58  ?_
                                                      exact JE (by rfl) hI)))
                                       · first
                                         | exact absurd d_18 (by omega)
                                         | (refine b_X4_sample_22  ?_
                                            exact JE (by first | rfl | omega) hI)))))
                   · first
                     | exact absurd c_28 (by omega)
                     | (refine b_X3_sample_36 (by first | omega | assumption) ?_
                        refine s_X1_zeros hR ?_
                        refine b_X3_sample_41  ?_
                        refine b_X3_sample_49  ?_
                        refine s_X3_samplesOf (by omega) (by omega) ?_
                        refine b_X3_sample_52 (by first | omega | assumption) (by first | omega | assumption) (fun c_52 => ?_) (fun c_52 => ?_)
                        · first
                          | exact absurd c_52 (by omega)
                          | (refine b_X3_sample_58 (by first | omega | assumption) (fun c_58 => ?_) (fun c_58 => ?_)
                             · first
                               | exact absurd c_58 (by omega)
                               | (refine b_X3_sample_78 (by first | omega | assumption) ?_
                                  refine s_X1_placeOfOne hR (by omega) (by omega) ?_
                                  first
                                  | have hpb := (pl_congr (b := b) hE (show 0 ≤ 4 * y by omega) (by omega)) ▸ pl_ub hV (show 0 ≤ 4 * y by omega) (show 4 * y < n by omega)
                                  | skip
                                  refine b_X3_sample_85  ?_
                                  refine JQ.mk (by omega) ?_
                                  refine b_X4_sample_0  ?_
                                  refine s_X4_in (by omega) (by omega) (by omega) (fun r hr => ?_)
                                  refine b_X4_sample_6 (by first | omega | assumption) (fun d_6 => ?_) (fun d_6 => ?_)
                                  · first
                                    | exact absurd d_6 (by omega)
                                    | (refine b_X4_sample_22  ?_
                                       exact JE (by first | rfl | omega) hI)
                                  · first
                                    | exact absurd d_6 (by omega)
                                    | (refine b_X4_sample_9  ?_
                                       refine s_X4_in (by omega) (by omega) (by omega) (fun r hr => ?_)
                                       refine b_X4_sample_15 (by first | omega | assumption) (fun d_15 => ?_) (fun d_15 => ?_)
                                       · first
                                         | exact absurd d_15 (by omega)
                                         | (refine b_X4_sample_22  ?_
                                            exact JE (by first | rfl | omega) hI)
                                       · first
                                         | exact absurd d_15 (by omega)
                                         | (refine b_X4_sample_18 (by first | omega | assumption) (fun d_18 => ?_) (fun d_18 => ?_)
                                            · first
                                              | exact absurd d_18 (by omega)
                                              | (refine b_X4_sample_25 (by first | omega | assumption) ?_
                                                 refine s_X4_lays hM hV hu9 hu11 (fun w1 hS hbits hzf hUP hzs => ?_)
                                                 have hM1 := hS.MR hM
                                                 have hmf1 := hS.mf q
                                                 have ha1 : al (w1 9 0) = 84 := by rw [hM1.2.1]; rfl
                                                 have hI1 := hS.sd.Inv hI
                                                 have h991 : w1 9 9 = 15 := (hS.2 9 (by decide) (by decide) (by decide) (by decide)).trans hu9
                                                 have ha91 : al (w1 9 9) = 4200 := by rw [h991]; rfl
                                                 have h9111 : w1 9 11 = 16 := (hS.2 11 (by decide) (by decide) (by decide) (by decide)).trans hu11
                                                 have ha111 : al (w1 9 11) = 4200 := by rw [h9111]; rfl
                                                 refine b_X4_sample_30 (by first | omega | assumption) (fun d_30 => ?_) (fun d_30 => ?_)
                                                 · first
                                                   | exact absurd d_30 (by omega)
                                                   | (refine b_X4_sample_42 (by first | omega | assumption) ?_
                                                      refine b_X4_sample_46 (by first | omega | assumption) (by first | omega | assumption) (by first | omega | assumption) (by first | omega | assumption) (fun d_46 => ?_) (fun d_46 => ?_)
                                                      · first
                                                        | exact absurd d_46 (by omega)
                                                        | (refine b_X4_sample_61 (by first | omega | assumption) (fun d_61 => ?_) (fun d_61 => ?_)
                                                           · first
                                                             | exact absurd d_61 (by omega)
                                                             | (refine b_X4_sample_76 (by first | omega | assumption) (by first | omega | assumption) (by first | omega | assumption) ?_
                                                                refine b_X4_sample_84  ?_
                                                                exact JE (by first | (rw [hmf1]; exact (pl_congr hE (by omega) (by omega)).symm) | (rw [h9111, hzs _ (by omega) (by omega)]; exact (pz_congr hn0 hE).symm)) hI)
                                                           · first
                                                             | exact absurd d_61 (by omega)
                                                             | (refine b_X4_sample_65 (by first | omega | assumption) ?_
                                                                refine s_X4_placeOf hM1 (by omega) (by omega) ?_
                                                                refine b_X4_sample_73  ?_
                                                                refine b_X4_sample_84  ?_
                                                                exact JE (by first | (rw [hmf1]; exact (pl_congr hE (by omega) (by omega)).symm) | (rw [h9111, hzs _ (by omega) (by omega)]; exact (pz_congr hn0 hE).symm)) hI))
                                                      · first
                                                        | exact absurd d_46 (by omega)
                                                        | (refine b_X4_sample_58  ?_
                                                           exact JE (by rfl) hI))
                                                 · first
                                                   | exact absurd d_30 (by omega)
                                                   | (refine b_X4_sample_34 (by first | omega | assumption) ?_
                                                      refine s_X4_many hM1 ?_
                                                      refine b_X4_sample_39  ?_
                                                      refine b_X4_sample_46 (by first | omega | assumption) (by first | omega | assumption) (by first | omega | assumption) (by first | omega | assumption) (fun d_46 => ?_) (fun d_46 => ?_)
                                                      · first
                                                        | exact absurd d_46 (by omega)
                                                        | (refine b_X4_sample_61 (by first | omega | assumption) (fun d_61 => ?_) (fun d_61 => ?_)
                                                           · first
                                                             | exact absurd d_61 (by omega)
                                                             | (refine b_X4_sample_76 (by first | omega | assumption) (by first | omega | assumption) (by first | omega | assumption) ?_
                                                                refine b_X4_sample_84  ?_
                                                                exact JE (by first | (rw [hmf1]; exact (pl_congr hE (by omega) (by omega)).symm) | (rw [h9111, hzs _ (by omega) (by omega)]; exact (pz_congr hn0 hE).symm)) hI)
                                                           · first
                                                             | exact absurd d_61 (by omega)
                                                             | (refine b_X4_sample_65 (by first | omega | assumption) ?_
                                                                refine s_X4_placeOf hM1 (by omega) (by omega) ?_
                                                                refine b_X4_sample_73  ?_
                                                                refine b_X4_sample_84  ?_
                                                                exact JE (by first | (rw [hmf1]; exact (pl_congr hE (by omega) (by omega)).symm) | (rw [h9111, hzs _ (by omega) (by omega)]; exact (pz_congr hn0 hE).symm)) hI))
                                                      · first
                                                        | exact absurd d_46 (by omega)
                                                        | (refine b_X4_sample_58  ?_
                                                           exact JE (by rfl) hI)))
                                            · first
                                              | exact absurd d_18 (by omega)
                                              | (refine b_X4_sample_22  ?_
                                                 exact JE (by first | rfl | omega) hI))))
                             · first
                               | exact absurd c_58 (by omega)
                               | (refine b_X3_sample_68 (by first | omega | assumption) ?_
                                  refine s_X1_placeOfZero hR (by omega) ?_
                                  have hpz := pz_bd (f := w (a + 1)) (b := b) hn (show 0 ≤ 4 * y ∧ 4 * y < 5000 by omega)
                                  refine b_X3_sample_75  ?_
                                  first
                                  | have hpb := (pl_congr (b := b) hE (show 0 ≤ 4 * y by omega) (by omega)) ▸ pl_ub hV (show 0 ≤ 4 * y by omega) (show 4 * y < n by omega)
                                  | skip
                                  refine b_X3_sample_85  ?_
                                  refine JQ.mk (by omega) ?_
                                  refine b_X4_sample_0  ?_
                                  refine s_X4_in (by omega) (by omega) (by omega) (fun r hr => ?_)
                                  refine b_X4_sample_6 (by first | omega | assumption) (fun d_6 => ?_) (fun d_6 => ?_)
                                  · first
                                    | exact absurd d_6 (by omega)
                                    | (refine b_X4_sample_22  ?_
                                       exact JE (by first | rfl | omega) hI)
                                  · first
                                    | exact absurd d_6 (by omega)
                                    | (refine b_X4_sample_9  ?_
                                       refine s_X4_in (by omega) (by omega) (by omega) (fun r hr => ?_)
                                       refine b_X4_sample_15 (by first | omega | assumption) (fun d_15 => ?_) (fun d_15 => ?_)
                                       · first
                                         | exact absurd d_15 (by omega)
                                         | (refine b_X4_sample_22  ?_
                                            exact JE (by first | rfl | omega) hI)
                                       · first
                                         | exact absurd d_15 (by omega)
                                         | (refine b_X4_sample_18 (by first | omega | assumption) (fun d_18 => ?_) (fun d_18 => ?_)
                                            · first
                                              | exact absurd d_18 (by omega)
                                              | (refine b_X4_sample_25 (by first | omega | assumption) ?_
                                                 refine s_X4_lays hM hV hu9 hu11 (fun w1 hS hbits hzf hUP hzs => ?_)
                                                 have hM1 := hS.MR hM
                                                 have hmf1 := hS.mf q
                                                 have ha1 : al (w1 9 0) = 84 := by rw [hM1.2.1]; rfl
                                                 have hI1 := hS.sd.Inv hI
                                                 have h991 : w1 9 9 = 15 := (hS.2 9 (by decide) (by decide) (by decide) (by decide)).trans hu9
                                                 have ha91 : al (w1 9 9) = 4200 := by rw [h991]; rfl
                                                 have h9111 : w1 9 11 = 16 := (hS.2 11 (by decide) (by decide) (by decide) (by decide)).trans hu11
                                                 have ha111 : al (w1 9 11) = 4200 := by rw [h9111]; rfl
                                                 refine b_X4_sample_30 (by first | omega | assumption) (fun d_30 => ?_) (fun d_30 => ?_)
                                                 · first
                                                   | exact absurd d_30 (by omega)
                                                   | (refine b_X4_sample_42 (by first | omega | assumption) ?_
                                                      refine b_X4_sample_46 (by first | omega | assumption) (by first | omega | assumption) (by first | omega | assumption) (by first | omega | assumption) (fun d_46 => ?_) (fun d_46 => ?_)
                                                      · first
                                                        | exact absurd d_46 (by omega)
                                                        | (refine b_X4_sample_61 (by first | omega | assumption) (fun d_61 => ?_) (fun d_61 => ?_)
                                                           · first
                                                             | exact absurd d_61 (by omega)
                                                             | (refine b_X4_sample_76 (by first | omega | assumption) (by first | omega | assumption) (by first | omega | assumption) ?_
                                                                refine b_X4_sample_84  ?_
                                                                exact JE (by first | (rw [hmf1]; exact (pl_congr hE (by omega) (by omega)).symm) | (rw [h9111, hzs _ (by omega) (by omega)]; exact (pz_congr hn0 hE).symm)) hI)
                                                           · first
                                                             | exact absurd d_61 (by omega)
                                                             | (refine b_X4_sample_65 (by first | omega | assumption) ?_
                                                                refine s_X4_placeOf hM1 (by omega) (by omega) ?_
                                                                refine b_X4_sample_73  ?_
                                                                refine b_X4_sample_84  ?_
                                                                exact JE (by first | (rw [hmf1]; exact (pl_congr hE (by omega) (by omega)).symm) | (rw [h9111, hzs _ (by omega) (by omega)]; exact (pz_congr hn0 hE).symm)) hI))
                                                      · first
                                                        | exact absurd d_46 (by omega)
                                                        | (refine b_X4_sample_58  ?_
                                                           exact JE (by rfl) hI))
                                                 · first
                                                   | exact absurd d_30 (by omega)
                                                   | (refine b_X4_sample_34 (by first | omega | assumption) ?_
                                                      refine s_X4_many hM1 ?_
                                                      refine b_X4_sample_39  ?_
                                                      refine b_X4_sample_46 (by first | omega | assumption) (by first | omega | assumption) (by first | omega | assumption) (by first | omega | assumption) (fun d_46 => ?_) (fun d_46 => ?_)
                                                      · first
                                                        | exact absurd d_46 (by omega)
                                                        | (refine b_X4_sample_61 (by first | omega | assumption) (fun d_61 => ?_) (fun d_61 => ?_)
                                                           · first
                                                             | exact absurd d_61 (by omega)
                                                             | (refine b_X4_sample_76 (by first | omega | assumption) (by first | omega | assumption) (by first | omega | assumption) ?_
                                                                refine b_X4_sample_84  ?_
                                                                exact JE (by first | (rw [hmf1]; exact (pl_congr hE (by omega) (by omega)).symm) | (rw [h9111, hzs _ (by omega) (by omega)]; exact (pz_congr hn0 hE).symm)) hI)
                                                           · first
                                                             | exact absurd d_61 (by omega)
                                                             | (refine b_X4_sample_65 (by first | omega | assumption) ?_
                                                                refine s_X4_placeOf hM1 (by omega) (by omega) ?_
                                                                refine b_X4_sample_73  ?_
                                                                refine b_X4_sample_84  ?_
                                                                exact JE (by first | (rw [hmf1]; exact (pl_congr hE (by omega) (by omega)).symm) | (rw [h9111, hzs _ (by omega) (by omega)]; exact (pz_congr hn0 hE).symm)) hI))
                                                      · first
                                                        | exact absurd d_46 (by omega)
                                                        | (refine b_X4_sample_58  ?_
                                                           exact JE (by rfl) hI)))
                                            · first
                                              | exact absurd d_18 (by omega)
                                              | (refine b_X4_sample_22  ?_
                                                 exact JE (by first | rfl | omega) hI)))))
                        · first
                          | exact absurd c_52 (by omega)
                          | (refine b_X3_sample_55  ?_
                             refine JQ.mk (by omega) ?_
                             refine b_X4_sample_0  ?_
                             refine s_X4_in (by omega) (by omega) (by omega) (fun r hr => ?_)
                             refine b_X4_sample_6 (by first | omega | assumption) (fun d_6 => ?_) (fun d_6 => ?_)
                             · first
                               | exact absurd d_6 (by omega)
                               | (refine b_X4_sample_22  ?_
                                  exact JE (by first | rfl | omega) hI)
                             · first
                               | exact absurd d_6 (by omega)
                               | (refine b_X4_sample_9  ?_
                                  refine s_X4_in (by omega) (by omega) (by omega) (fun r hr => ?_)
                                  refine b_X4_sample_15 (by first | omega | assumption) (fun d_15 => ?_) (fun d_15 => ?_)
                                  · first
                                    | exact absurd d_15 (by omega)
                                    | (refine b_X4_sample_22  ?_
                                       exact JE (by first | rfl | omega) hI)
                                  · first
                                    | exact absurd d_15 (by omega)
                                    | (refine b_X4_sample_18 (by first | omega | assumption) (fun d_18 => ?_) (fun d_18 => ?_)
                                       · first
                                         | exact absurd d_18 (by omega)
                                         | (refine b_X4_sample_25 (by first | omega | assumption) ?_
                                            refine s_X4_lays hM hV hu9 hu11 (fun w1 hS hbits hzf hUP hzs => ?_)
                                            have hM1 := hS.MR hM
                                            have hmf1 := hS.mf q
                                            have ha1 : al (w1 9 0) = 84 := by rw [hM1.2.1]; rfl
                                            have hI1 := hS.sd.Inv hI
                                            have h991 : w1 9 9 = 15 := (hS.2 9 (by decide) (by decide) (by decide) (by decide)).trans hu9
                                            have ha91 : al (w1 9 9) = 4200 := by rw [h991]; rfl
                                            have h9111 : w1 9 11 = 16 := (hS.2 11 (by decide) (by decide) (by decide) (by decide)).trans hu11
                                            have ha111 : al (w1 9 11) = 4200 := by rw [h9111]; rfl
                                            refine b_X4_sample_30 (by first | omega | assumption) (fun d_30 => ?_) (fun d_30 => ?_)
                                            · first
                                              | exact absurd d_30 (by omega)
                                              | (refine b_X4_sample_42 (by first | omega | assumption) ?_
                                                 refine b_X4_sample_46 (by first | omega | assumption) (by first | omega | assumption) (by first | omega | assumption) (by first | omega | assumption) (fun d_46 => ?_) (fun d_46 => ?_)
                                                 · first
                                                   | exact absurd d_46 (by omega)
                                                   | (refine b_X4_sample_61 (by first | omega | assumption) (fun d_61 => ?_) (fun d_61 => ?_)
                                                      · first
                                                        | exact absurd d_61 (by omega)
                                                        | (refine b_X4_sample_76 (by first | omega | assumption) (by first | omega | assumption) (by first | omega | assumption) ?_
                                                           refine b_X4_sample_84  ?_
                                                           exact JE (by first | (rw [hmf1]; exact (pl_congr hE (by omega) (by omega)).symm) | (rw [h9111, hzs _ (by omega) (by omega)]; exact (pz_congr hn0 hE).symm)) hI)
                                                      · first
                                                        | exact absurd d_61 (by omega)
                                                        | (refine b_X4_sample_65 (by first | omega | assumption) ?_
                                                           refine s_X4_placeOf hM1 (by omega) (by omega) ?_
                                                           refine b_X4_sample_73  ?_
                                                           refine b_X4_sample_84  ?_
                                                           exact JE (by first | (rw [hmf1]; exact (pl_congr hE (by omega) (by omega)).symm) | (rw [h9111, hzs _ (by omega) (by omega)]; exact (pz_congr hn0 hE).symm)) hI))
                                                 · first
                                                   | exact absurd d_46 (by omega)
                                                   | (refine b_X4_sample_58  ?_
                                                      exact JE (by rfl) hI))
                                            · first
                                              | exact absurd d_30 (by omega)
                                              | (refine b_X4_sample_34 (by first | omega | assumption) ?_
                                                 refine s_X4_many hM1 ?_
                                                 refine b_X4_sample_39  ?_
                                                 refine b_X4_sample_46 (by first | omega | assumption) (by first | omega | assumption) (by first | omega | assumption) (by first | omega | assumption) (fun d_46 => ?_) (fun d_46 => ?_)
                                                 · first
                                                   | exact absurd d_46 (by omega)
                                                   | (refine b_X4_sample_61 (by first | omega | assumption) (fun d_61 => ?_) (fun d_61 => ?_)
                                                      · first
                                                        | exact absurd d_61 (by omega)
                                                        | (refine b_X4_sample_76 (by first | omega | assumption) (by first | omega | assumption) (by first | omega | assumption) ?_
                                                           refine b_X4_sample_84  ?_
                                                           exact JE (by first | (rw [hmf1]; exact (pl_congr hE (by omega) (by omega)).symm) | (rw [h9111, hzs _ (by omega) (by omega)]; exact (pz_congr hn0 hE).symm)) hI)
                                                      · first
                                                        | exact absurd d_61 (by omega)
                                                        | (refine b_X4_sample_65 (by first | omega | assumption) ?_
                                                           refine s_X4_placeOf hM1 (by omega) (by omega) ?_
                                                           refine b_X4_sample_73  ?_
                                                           refine b_X4_sample_84  ?_
                                                           exact JE (by first | (rw [hmf1]; exact (pl_congr hE (by omega) (by omega)).symm) | (rw [h9111, hzs _ (by omega) (by omega)]; exact (pz_congr hn0 hE).symm)) hI))
                                                 · first
                                                   | exact absurd d_46 (by omega)
                                                   | (refine b_X4_sample_58  ?_
                                                      exact JE (by rfl) hI)))
                                       · first
                                         | exact absurd d_18 (by omega)
                                         | (refine b_X4_sample_22  ?_
                                            exact JE (by first | rfl | omega) hI))))))
              · first
                | exact absurd c_16 (by omega)
                | (refine b_X3_sample_20  ?_
                   refine JQ.mk (by omega) ?_
                   refine b_X4_sample_0  ?_
                   refine s_X4_in (by omega) (by omega) (by omega) (fun r hr => ?_)
                   refine b_X4_sample_6 (by first | omega | assumption) (fun d_6 => ?_) (fun d_6 => ?_)
                   · first
                     | exact absurd d_6 (by omega)
                     | (refine b_X4_sample_22  ?_
                        exact JE (by first | rfl | omega) hI)
                   · first
                     | exact absurd d_6 (by omega)
                     | (refine b_X4_sample_9  ?_
                        refine s_X4_in (by omega) (by omega) (by omega) (fun r hr => ?_)
                        refine b_X4_sample_15 (by first | omega | assumption) (fun d_15 => ?_) (fun d_15 => ?_)
                        · first
                          | exact absurd d_15 (by omega)
                          | (refine b_X4_sample_22  ?_
                             exact JE (by first | rfl | omega) hI)
                        · first
                          | exact absurd d_15 (by omega)
                          | (refine b_X4_sample_18 (by first | omega | assumption) (fun d_18 => ?_) (fun d_18 => ?_)
                             · first
                               | exact absurd d_18 (by omega)
                               | (refine b_X4_sample_25 (by first | omega | assumption) ?_
                                  refine s_X4_lays hM hV hu9 hu11 (fun w1 hS hbits hzf hUP hzs => ?_)
                                  have hM1 := hS.MR hM
                                  have hmf1 := hS.mf q
                                  have ha1 : al (w1 9 0) = 84 := by rw [hM1.2.1]; rfl
                                  have hI1 := hS.sd.Inv hI
                                  have h991 : w1 9 9 = 15 := (hS.2 9 (by decide) (by decide) (by decide) (by decide)).trans hu9
                                  have ha91 : al (w1 9 9) = 4200 := by rw [h991]; rfl
                                  have h9111 : w1 9 11 = 16 := (hS.2 11 (by decide) (by decide) (by decide) (by decide)).trans hu11
                                  have ha111 : al (w1 9 11) = 4200 := by rw [h9111]; rfl
                                  refine b_X4_sample_30 (by first | omega | assumption) (fun d_30 => ?_) (fun d_30 => ?_)
                                  · first
                                    | exact absurd d_30 (by omega)
                                    | (refine b_X4_sample_42 (by first | omega | assumption) ?_
                                       refine b_X4_sample_46 (by first | omega | assumption) (by first | omega | assumption) (by first | omega | assumption) (by first | omega | assumption) (fun d_46 => ?_) (fun d_46 => ?_)
                                       · first
                                         | exact absurd d_46 (by omega)
                                         | (refine b_X4_sample_61 (by first | omega | assumption) (fun d_61 => ?_) (fun d_61 => ?_)
                                            · first
                                              | exact absurd d_61 (by omega)
                                              | (refine b_X4_sample_76 (by first | omega | assumption) (by first | omega | assumption) (by first | omega | assumption) ?_
                                                 refine b_X4_sample_84  ?_
                                                 exact JE (by first | (rw [hmf1]; exact (pl_congr hE (by omega) (by omega)).symm) | (rw [h9111, hzs _ (by omega) (by omega)]; exact (pz_congr hn0 hE).symm)) hI)
                                            · first
                                              | exact absurd d_61 (by omega)
                                              | (refine b_X4_sample_65 (by first | omega | assumption) ?_
                                                 refine s_X4_placeOf hM1 (by omega) (by omega) ?_
                                                 refine b_X4_sample_73  ?_
                                                 refine b_X4_sample_84  ?_
                                                 exact JE (by first | (rw [hmf1]; exact (pl_congr hE (by omega) (by omega)).symm) | (rw [h9111, hzs _ (by omega) (by omega)]; exact (pz_congr hn0 hE).symm)) hI))
                                       · first
                                         | exact absurd d_46 (by omega)
                                         | (refine b_X4_sample_58  ?_
                                            exact JE (by rfl) hI))
                                  · first
                                    | exact absurd d_30 (by omega)
                                    | (refine b_X4_sample_34 (by first | omega | assumption) ?_
                                       refine s_X4_many hM1 ?_
                                       refine b_X4_sample_39  ?_
                                       refine b_X4_sample_46 (by first | omega | assumption) (by first | omega | assumption) (by first | omega | assumption) (by first | omega | assumption) (fun d_46 => ?_) (fun d_46 => ?_)
                                       · first
                                         | exact absurd d_46 (by omega)
                                         | (refine b_X4_sample_61 (by first | omega | assumption) (fun d_61 => ?_) (fun d_61 => ?_)
                                            · first
                                              | exact absurd d_61 (by omega)
                                              | (refine b_X4_sample_76 (by first | omega | assumption) (by first | omega | assumption) (by first | omega | assumption) ?_
                                                 refine b_X4_sample_84  ?_
                                                 exact JE (by first | (rw [hmf1]; exact (pl_congr hE (by omega) (by omega)).symm) | (rw [h9111, hzs _ (by omega) (by omega)]; exact (pz_congr hn0 hE).symm)) hI)
                                            · first
                                              | exact absurd d_61 (by omega)
                                              | (refine b_X4_sample_65 (by first | omega | assumption) ?_
                                                 refine s_X4_placeOf hM1 (by omega) (by omega) ?_
                                                 refine b_X4_sample_73  ?_
                                                 refine b_X4_sample_84  ?_
                                                 exact JE (by first | (rw [hmf1]; exact (pl_congr hE (by omega) (by omega)).symm) | (rw [h9111, hzs _ (by omega) (by omega)]; exact (pz_congr hn0 hE).symm)) hI))
                                       · first
                                         | exact absurd d_46 (by omega)
                                         | (refine b_X4_sample_58  ?_
                                            exact JE (by rfl) hI)))
                             · first
                               | exact absurd d_18 (by omega)
                               | (refine b_X4_sample_22  ?_
                                  exact JE (by first | rfl | omega) hI))))))

theorem j_next {w : rW} {q x y : Int} (hI : Inv w) (hqr : R32 q) (hxr : R32 x) (hyr : R32 y) : WP M_X3_next 0 [vr 0, vi q, vi x, vi y, vu, vu] [] w (JQ M_X4_next [vr 9, vi q, vi x, vi y]) := by
  have ho0 : oc 0 = 3 := rfl
  have ho9 : oc 9 = 4 := rfl
  by_cases hq : q = 0 ∨ q = 1
  · clear ho0
    have ho0 : oc 0 = 3 := rfl
    obtain ⟨a, n, b, hra, hR, hM, hV, hE⟩ := hI.row hq
    obtain ⟨h, hb0, hb1, hb2⟩ := id hR
    obtain ⟨ha13, ho, ha1, h0, h1, hn0, hn4, hv⟩ := id h
    have hn : 0 ≤ n ∧ n ≤ 40 := ⟨hn0, hn4⟩
    have hb : 1 ≤ b ∧ b ≤ 4096 := ⟨by omega, hb2⟩
    have hwb := wd_bd hn.1 hb.2
    have hpw := p2_w hn.1 hb.2
    have hub := ub_bd hn hb
    have hzb := zf_bd hn.1 hb.1 hb.2
    have hsz := szf_bd hn hb
    have hun := unl_bd (f := w (a + 1)) hn0
    have hu9 : w 9 9 = 15 := hI.1.2.2.2.2.2.2.2.2.2.1
    have hu11 : w 9 11 = 16 := hI.1.2.2.2.2.2.2.2.2.2.2.1
    have ha0 : al (w 9 0) = 84 := by rw [hM.2.1]; rfl
    have hbm : w (w 9 0) (42 * q + 1) = b := by rw [hM.2.1]; exact hM.2.2.2.1
    refine b_X3_next_0  ?_
    refine s_X3_isRow (by omega) (fun r hr => ?_)
    refine b_X3_next_4 (by first | omega | assumption) (fun c_4 => ?_) (fun c_4 => ?_)
    · first
      | exact absurd c_4 (by omega)
      | (refine b_X3_next_27  ?_
         refine JQ.mk (by omega) ?_
         refine b_X4_next_0  ?_
         refine s_X4_in (by omega) (by omega) (by omega) (fun r hr => ?_)
         refine b_X4_next_6 (by first | omega | assumption) (fun d_6 => ?_) (fun d_6 => ?_)
         · first
           | exact absurd d_6 (by omega)
           | (refine b_X4_next_29  ?_
              exact JE (by first | rfl | omega) hI)
         · first
           | exact absurd d_6 (by omega)
           | (refine b_X4_next_9  ?_
              refine s_X4_in (by omega) (by omega) (by omega) (fun r hr => ?_)
              refine b_X4_next_17 (by first | omega | assumption) (fun d_17 => ?_) (fun d_17 => ?_)
              · first
                | exact absurd d_17 (by omega)
                | (refine b_X4_next_29  ?_
                   exact JE (by first | rfl | omega) hI)
              · first
                | exact absurd d_17 (by omega)
                | (refine b_X4_next_20  ?_
                   refine s_X4_in (by omega) (by omega) (by omega) (fun r hr => ?_)
                   refine b_X4_next_26 (by first | omega | assumption) (fun d_26 => ?_) (fun d_26 => ?_)
                   · first
                     | exact absurd d_26 (by omega)
                     | (refine b_X4_next_32 (by first | omega | assumption) (by first | omega | assumption) (by first | omega | assumption) (by first | omega | assumption) (by first | omega | assumption) (fun d_32 => ?_) (fun d_32 => ?_)
                        · first
                          | exact absurd d_32 (by omega)
                          | (refine b_X4_next_50 (by first | omega | assumption) ?_
                             refine s_X4_finds hM hV hu9 hu11 (by omega) (fun w1 hS hwk hfd => ?_)
                             have hM1 := hS.MR hM
                             have hmf1 := hS.mf q
                             have ha1 : al (w1 9 0) = 84 := by rw [hM1.2.1]; rfl
                             have hI1 := hS.sd.Inv hI
                             refine b_X4_next_56 (by first | omega | assumption) (fun d_56 => ?_) (fun d_56 => ?_)
                             · first
                               | exact absurd d_56 (by omega)
                               | (refine b_X4_next_66 (by first | omega | assumption) (by first | omega | assumption) (fun d_66 => ?_) (fun d_66 => ?_)
                                  · first
                                    | exact absurd d_66 (by omega)
                                    | (refine b_X4_next_78 (by first | omega | assumption) (fun d_78 => ?_) (fun d_78 => ?_)
                                       · first
                                         | exact absurd d_78 (by omega)
                                         | (refine b_X4_next_94 (by first | omega | assumption) ?_
                                            refine b_X4_next_98  ?_
                                            exact JE (by first | rfl | omega | (rw [hmf1, (by omega : w1 9 13 = cl (w (a + 1)) n x)]; exact (hE _ (by omega) (by omega)).symm)) hI1)
                                       · first
                                         | exact absurd d_78 (by omega)
                                         | (refine b_X4_next_82 (by first | omega | assumption) ?_
                                            refine s_X4_number hM1 (by omega) (by omega) ?_
                                            refine b_X4_next_91  ?_
                                            refine b_X4_next_98  ?_
                                            exact JE (by first | rfl | omega | (rw [hmf1, (by omega : w1 9 13 = cl (w (a + 1)) n x)]; exact (hE _ (by omega) (by omega)).symm)) hI1))
                                  · first
                                    | exact absurd d_66 (by omega)
                                    | (refine b_X4_next_73  ?_
                                       refine b_X4_next_98  ?_
                                       exact JE (by first | rfl | omega | (rw [hmf1, (by omega : w1 9 13 = cl (w (a + 1)) n x)]; exact (hE _ (by omega) (by omega)).symm)) hI1))
                             · first
                               | exact absurd d_56 (by omega)
                               | (refine b_X4_next_61 (by first | omega | assumption) ?_
                                  exact JE (by rw [hwk]; exact (wtn_congr hn0 hE).symm) hI1))
                        · first
                          | exact absurd d_32 (by omega)
                          | (refine b_X4_next_47  ?_
                             exact JE (by rfl) hI))
                   · first
                     | exact absurd d_26 (by omega)
                     | (refine b_X4_next_29  ?_
                        exact JE (by first | rfl | omega) hI))))
    · first
      | exact absurd c_4 (by omega)
      | (refine b_X3_next_7  ?_
         refine s_X3_isWithin (by omega) (by omega) (by omega) (fun r hr => ?_)
         refine b_X3_next_15 (by first | omega | assumption) (fun c_15 => ?_) (fun c_15 => ?_)
         · first
           | exact absurd c_15 (by omega)
           | (refine b_X3_next_27  ?_
              refine JQ.mk (by omega) ?_
              refine b_X4_next_0  ?_
              refine s_X4_in (by omega) (by omega) (by omega) (fun r hr => ?_)
              refine b_X4_next_6 (by first | omega | assumption) (fun d_6 => ?_) (fun d_6 => ?_)
              · first
                | exact absurd d_6 (by omega)
                | (refine b_X4_next_29  ?_
                   exact JE (by first | rfl | omega) hI)
              · first
                | exact absurd d_6 (by omega)
                | (refine b_X4_next_9  ?_
                   refine s_X4_in (by omega) (by omega) (by omega) (fun r hr => ?_)
                   refine b_X4_next_17 (by first | omega | assumption) (fun d_17 => ?_) (fun d_17 => ?_)
                   · first
                     | exact absurd d_17 (by omega)
                     | (refine b_X4_next_29  ?_
                        exact JE (by first | rfl | omega) hI)
                   · first
                     | exact absurd d_17 (by omega)
                     | (refine b_X4_next_20  ?_
                        refine s_X4_in (by omega) (by omega) (by omega) (fun r hr => ?_)
                        refine b_X4_next_26 (by first | omega | assumption) (fun d_26 => ?_) (fun d_26 => ?_)
                        · first
                          | exact absurd d_26 (by omega)
                          | (refine b_X4_next_32 (by first | omega | assumption) (by first | omega | assumption) (by first | omega | assumption) (by first | omega | assumption) (by first | omega | assumption) (fun d_32 => ?_) (fun d_32 => ?_)
                             · first
                               | exact absurd d_32 (by omega)
                               | (refine b_X4_next_50 (by first | omega | assumption) ?_
                                  refine s_X4_finds hM hV hu9 hu11 (by omega) (fun w1 hS hwk hfd => ?_)
                                  have hM1 := hS.MR hM
                                  have hmf1 := hS.mf q
                                  have ha1 : al (w1 9 0) = 84 := by rw [hM1.2.1]; rfl
                                  have hI1 := hS.sd.Inv hI
                                  refine b_X4_next_56 (by first | omega | assumption) (fun d_56 => ?_) (fun d_56 => ?_)
                                  · first
                                    | exact absurd d_56 (by omega)
                                    | (refine b_X4_next_66 (by first | omega | assumption) (by first | omega | assumption) (fun d_66 => ?_) (fun d_66 => ?_)
                                       · first
                                         | exact absurd d_66 (by omega)
                                         | (refine b_X4_next_78 (by first | omega | assumption) (fun d_78 => ?_) (fun d_78 => ?_)
                                            · first
                                              | exact absurd d_78 (by omega)
                                              | (refine b_X4_next_94 (by first | omega | assumption) ?_
                                                 refine b_X4_next_98  ?_
                                                 exact JE (by first | rfl | omega | (rw [hmf1, (by omega : w1 9 13 = cl (w (a + 1)) n x)]; exact (hE _ (by omega) (by omega)).symm)) hI1)
                                            · first
                                              | exact absurd d_78 (by omega)
                                              | (refine b_X4_next_82 (by first | omega | assumption) ?_
                                                 refine s_X4_number hM1 (by omega) (by omega) ?_
                                                 refine b_X4_next_91  ?_
                                                 refine b_X4_next_98  ?_
                                                 exact JE (by first | rfl | omega | (rw [hmf1, (by omega : w1 9 13 = cl (w (a + 1)) n x)]; exact (hE _ (by omega) (by omega)).symm)) hI1))
                                       · first
                                         | exact absurd d_66 (by omega)
                                         | (refine b_X4_next_73  ?_
                                            refine b_X4_next_98  ?_
                                            exact JE (by first | rfl | omega | (rw [hmf1, (by omega : w1 9 13 = cl (w (a + 1)) n x)]; exact (hE _ (by omega) (by omega)).symm)) hI1))
                                  · first
                                    | exact absurd d_56 (by omega)
                                    | (refine b_X4_next_61 (by first | omega | assumption) ?_
                                       exact JE (by rw [hwk]; exact (wtn_congr hn0 hE).symm) hI1))
                             · first
                               | exact absurd d_32 (by omega)
                               | (refine b_X4_next_47  ?_
                                  exact JE (by rfl) hI))
                        · first
                          | exact absurd d_26 (by omega)
                          | (refine b_X4_next_29  ?_
                             exact JE (by first | rfl | omega) hI))))
         · first
           | exact absurd c_15 (by omega)
           | (refine b_X3_next_18  ?_
              refine s_X3_isWithin (by omega) (by omega) (by omega) (fun r hr => ?_)
              refine b_X3_next_24 (by first | omega | assumption) (fun c_24 => ?_) (fun c_24 => ?_)
              · first
                | exact absurd c_24 (by omega)
                | (refine b_X3_next_30 (by first | omega | assumption) ?_
                   refine s_X3_rowAt hra ?_
                   refine b_X3_next_35 (by first | omega | assumption) (by first | omega | assumption) (by first | omega | assumption) (fun c_35 => ?_) (fun c_35 => ?_)
                   · first
                     | exact absurd c_35 (by omega)
                     | (refine b_X3_next_49 (by first | omega | assumption) (fun c_49 => ?_) (fun c_49 => ?_)
                        · first
                          | exact absurd c_49 (by omega)
                          | (refine b_X3_next_61 (by first | omega | assumption) ?_
                             refine s_X1_countLess h (by omega) ?_
                             have hcl := cl_spec (f := w (a + 1)) (n := n) (x := x) hn0
                             have hcc := cl_congr (x := x) hn0 hE
                             refine b_X3_next_67 (by first | omega | assumption) (by first | omega | assumption) (by first | omega | assumption) (fun c_67 => ?_) (fun c_67 => ?_)
                             · first
                               | exact absurd c_67 (by omega)
                               | (refine b_X3_next_82 (by first | omega | assumption) (fun c_82 => ?_) (fun c_82 => ?_)
                                  · first
                                    | exact absurd c_82 (by omega)
                                    | (refine b_X3_next_96  ?_
                                       refine b_X3_next_98  ?_
                                       refine JQ.mk (by omega) ?_
                                       refine b_X4_next_0  ?_
                                       refine s_X4_in (by omega) (by omega) (by omega) (fun r hr => ?_)
                                       refine b_X4_next_6 (by first | omega | assumption) (fun d_6 => ?_) (fun d_6 => ?_)
                                       · first
                                         | exact absurd d_6 (by omega)
                                         | (refine b_X4_next_29  ?_
                                            exact JE (by first | rfl | omega) hI)
                                       · first
                                         | exact absurd d_6 (by omega)
                                         | (refine b_X4_next_9  ?_
                                            refine s_X4_in (by omega) (by omega) (by omega) (fun r hr => ?_)
                                            refine b_X4_next_17 (by first | omega | assumption) (fun d_17 => ?_) (fun d_17 => ?_)
                                            · first
                                              | exact absurd d_17 (by omega)
                                              | (refine b_X4_next_29  ?_
                                                 exact JE (by first | rfl | omega) hI)
                                            · first
                                              | exact absurd d_17 (by omega)
                                              | (refine b_X4_next_20  ?_
                                                 refine s_X4_in (by omega) (by omega) (by omega) (fun r hr => ?_)
                                                 refine b_X4_next_26 (by first | omega | assumption) (fun d_26 => ?_) (fun d_26 => ?_)
                                                 · first
                                                   | exact absurd d_26 (by omega)
                                                   | (refine b_X4_next_32 (by first | omega | assumption) (by first | omega | assumption) (by first | omega | assumption) (by first | omega | assumption) (by first | omega | assumption) (fun d_32 => ?_) (fun d_32 => ?_)
                                                      · first
                                                        | exact absurd d_32 (by omega)
                                                        | (refine b_X4_next_50 (by first | omega | assumption) ?_
                                                           refine s_X4_finds hM hV hu9 hu11 (by omega) (fun w1 hS hwk hfd => ?_)
                                                           have hM1 := hS.MR hM
                                                           have hmf1 := hS.mf q
                                                           have ha1 : al (w1 9 0) = 84 := by rw [hM1.2.1]; rfl
                                                           have hI1 := hS.sd.Inv hI
                                                           refine b_X4_next_56 (by first | omega | assumption) (fun d_56 => ?_) (fun d_56 => ?_)
                                                           · first
                                                             | exact absurd d_56 (by omega)
                                                             | (refine b_X4_next_66 (by first | omega | assumption) (by first | omega | assumption) (fun d_66 => ?_) (fun d_66 => ?_)
                                                                · first
                                                                  | exact absurd d_66 (by omega)
                                                                  | (refine b_X4_next_78 (by first | omega | assumption) (fun d_78 => ?_) (fun d_78 => ?_)
                                                                     · first
                                                                       | exact absurd d_78 (by omega)
                                                                       | (refine b_X4_next_94 (by first | omega | assumption) ?_
                                                                          refine b_X4_next_98  ?_
                                                                          exact JE (by first | rfl | omega | (rw [hmf1, (by omega : w1 9 13 = cl (w (a + 1)) n x)]; exact (hE _ (by omega) (by omega)).symm)) hI1)
                                                                     · first
                                                                       | exact absurd d_78 (by omega)
                                                                       | (refine b_X4_next_82 (by first | omega | assumption) ?_
                                                                          refine s_X4_number hM1 (by omega) (by omega) ?_
                                                                          refine b_X4_next_91  ?_
                                                                          refine b_X4_next_98  ?_
                                                                          exact JE (by first | rfl | omega | (rw [hmf1, (by omega : w1 9 13 = cl (w (a + 1)) n x)]; exact (hE _ (by omega) (by omega)).symm)) hI1))
                                                                · first
                                                                  | exact absurd d_66 (by omega)
                                                                  | (refine b_X4_next_73  ?_
                                                                     refine b_X4_next_98  ?_
                                                                     exact JE (by first | rfl | omega | (rw [hmf1, (by omega : w1 9 13 = cl (w (a + 1)) n x)]; exact (hE _ (by omega) (by omega)).symm)) hI1))
                                                           · first
                                                             | exact absurd d_56 (by omega)
                                                             | (refine b_X4_next_61 (by first | omega | assumption) ?_
                                                                exact JE (by rw [hwk]; exact (wtn_congr hn0 hE).symm) hI1))
                                                      · first
                                                        | exact absurd d_32 (by omega)
                                                        | (refine b_X4_next_47  ?_
                                                           exact JE (by rfl) hI))
                                                 · first
                                                   | exact absurd d_26 (by omega)
                                                   | (refine b_X4_next_29  ?_
                                                      exact JE (by first | rfl | omega) hI))))
                                  · first
                                    | exact absurd c_82 (by omega)
                                    | (refine b_X3_next_86 (by first | omega | assumption) ?_
                                       refine s_X1_numberIn h (by omega) (by omega) ?_
                                       have hvc := hv (cl (w (a + 1)) n x) (by omega) (by omega)
                                       refine b_X3_next_93  ?_
                                       refine b_X3_next_98  ?_
                                       refine JQ.mk (by omega) ?_
                                       refine b_X4_next_0  ?_
                                       refine s_X4_in (by omega) (by omega) (by omega) (fun r hr => ?_)
                                       refine b_X4_next_6 (by first | omega | assumption) (fun d_6 => ?_) (fun d_6 => ?_)
                                       · first
                                         | exact absurd d_6 (by omega)
                                         | (refine b_X4_next_29  ?_
                                            exact JE (by first | rfl | omega) hI)
                                       · first
                                         | exact absurd d_6 (by omega)
                                         | (refine b_X4_next_9  ?_
                                            refine s_X4_in (by omega) (by omega) (by omega) (fun r hr => ?_)
                                            refine b_X4_next_17 (by first | omega | assumption) (fun d_17 => ?_) (fun d_17 => ?_)
                                            · first
                                              | exact absurd d_17 (by omega)
                                              | (refine b_X4_next_29  ?_
                                                 exact JE (by first | rfl | omega) hI)
                                            · first
                                              | exact absurd d_17 (by omega)
                                              | (refine b_X4_next_20  ?_
                                                 refine s_X4_in (by omega) (by omega) (by omega) (fun r hr => ?_)
                                                 refine b_X4_next_26 (by first | omega | assumption) (fun d_26 => ?_) (fun d_26 => ?_)
                                                 · first
                                                   | exact absurd d_26 (by omega)
                                                   | (refine b_X4_next_32 (by first | omega | assumption) (by first | omega | assumption) (by first | omega | assumption) (by first | omega | assumption) (by first | omega | assumption) (fun d_32 => ?_) (fun d_32 => ?_)
                                                      · first
                                                        | exact absurd d_32 (by omega)
                                                        | (refine b_X4_next_50 (by first | omega | assumption) ?_
                                                           refine s_X4_finds hM hV hu9 hu11 (by omega) (fun w1 hS hwk hfd => ?_)
                                                           have hM1 := hS.MR hM
                                                           have hmf1 := hS.mf q
                                                           have ha1 : al (w1 9 0) = 84 := by rw [hM1.2.1]; rfl
                                                           have hI1 := hS.sd.Inv hI
                                                           refine b_X4_next_56 (by first | omega | assumption) (fun d_56 => ?_) (fun d_56 => ?_)
                                                           · first
                                                             | exact absurd d_56 (by omega)
                                                             | (refine b_X4_next_66 (by first | omega | assumption) (by first | omega | assumption) (fun d_66 => ?_) (fun d_66 => ?_)
                                                                · first
                                                                  | exact absurd d_66 (by omega)
                                                                  | (refine b_X4_next_78 (by first | omega | assumption) (fun d_78 => ?_) (fun d_78 => ?_)
                                                                     · first
                                                                       | exact absurd d_78 (by omega)
                                                                       | (refine b_X4_next_94 (by first | omega | assumption) ?_
                                                                          refine b_X4_next_98  ?_
                                                                          exact JE (by first | rfl | omega | (rw [hmf1, (by omega : w1 9 13 = cl (w (a + 1)) n x)]; exact (hE _ (by omega) (by omega)).symm)) hI1)
                                                                     · first
                                                                       | exact absurd d_78 (by omega)
                                                                       | (refine b_X4_next_82 (by first | omega | assumption) ?_
                                                                          refine s_X4_number hM1 (by omega) (by omega) ?_
                                                                          refine b_X4_next_91  ?_
                                                                          refine b_X4_next_98  ?_
                                                                          exact JE (by first | rfl | omega | (rw [hmf1, (by omega : w1 9 13 = cl (w (a + 1)) n x)]; exact (hE _ (by omega) (by omega)).symm)) hI1))
                                                                · first
                                                                  | exact absurd d_66 (by omega)
                                                                  | (refine b_X4_next_73  ?_
                                                                     refine b_X4_next_98  ?_
                                                                     exact JE (by first | rfl | omega | (rw [hmf1, (by omega : w1 9 13 = cl (w (a + 1)) n x)]; exact (hE _ (by omega) (by omega)).symm)) hI1))
                                                           · first
                                                             | exact absurd d_56 (by omega)
                                                             | (refine b_X4_next_61 (by first | omega | assumption) ?_
                                                                exact JE (by rw [hwk]; exact (wtn_congr hn0 hE).symm) hI1))
                                                      · first
                                                        | exact absurd d_32 (by omega)
                                                        | (refine b_X4_next_47  ?_
                                                           exact JE (by rfl) hI))
                                                 · first
                                                   | exact absurd d_26 (by omega)
                                                   | (refine b_X4_next_29  ?_
                                                      exact JE (by first | rfl | omega) hI)))))
                             · first
                               | exact absurd c_67 (by omega)
                               | (refine b_X3_next_79  ?_
                                  refine JQ.mk (by omega) ?_
                                  refine b_X4_next_0  ?_
                                  refine s_X4_in (by omega) (by omega) (by omega) (fun r hr => ?_)
                                  refine b_X4_next_6 (by first | omega | assumption) (fun d_6 => ?_) (fun d_6 => ?_)
                                  · first
                                    | exact absurd d_6 (by omega)
                                    | (refine b_X4_next_29  ?_
                                       exact JE (by first | rfl | omega) hI)
                                  · first
                                    | exact absurd d_6 (by omega)
                                    | (refine b_X4_next_9  ?_
                                       refine s_X4_in (by omega) (by omega) (by omega) (fun r hr => ?_)
                                       refine b_X4_next_17 (by first | omega | assumption) (fun d_17 => ?_) (fun d_17 => ?_)
                                       · first
                                         | exact absurd d_17 (by omega)
                                         | (refine b_X4_next_29  ?_
                                            exact JE (by first | rfl | omega) hI)
                                       · first
                                         | exact absurd d_17 (by omega)
                                         | (refine b_X4_next_20  ?_
                                            refine s_X4_in (by omega) (by omega) (by omega) (fun r hr => ?_)
                                            refine b_X4_next_26 (by first | omega | assumption) (fun d_26 => ?_) (fun d_26 => ?_)
                                            · first
                                              | exact absurd d_26 (by omega)
                                              | (refine b_X4_next_32 (by first | omega | assumption) (by first | omega | assumption) (by first | omega | assumption) (by first | omega | assumption) (by first | omega | assumption) (fun d_32 => ?_) (fun d_32 => ?_)
                                                 · first
                                                   | exact absurd d_32 (by omega)
                                                   | (refine b_X4_next_50 (by first | omega | assumption) ?_
                                                      refine s_X4_finds hM hV hu9 hu11 (by omega) (fun w1 hS hwk hfd => ?_)
                                                      have hM1 := hS.MR hM
                                                      have hmf1 := hS.mf q
                                                      have ha1 : al (w1 9 0) = 84 := by rw [hM1.2.1]; rfl
                                                      have hI1 := hS.sd.Inv hI
                                                      refine b_X4_next_56 (by first | omega | assumption) (fun d_56 => ?_) (fun d_56 => ?_)
                                                      · first
                                                        | exact absurd d_56 (by omega)
                                                        | (refine b_X4_next_66 (by first | omega | assumption) (by first | omega | assumption) (fun d_66 => ?_) (fun d_66 => ?_)
                                                           · first
                                                             | exact absurd d_66 (by omega)
                                                             | (refine b_X4_next_78 (by first | omega | assumption) (fun d_78 => ?_) (fun d_78 => ?_)
                                                                · first
                                                                  | exact absurd d_78 (by omega)
                                                                  | (refine b_X4_next_94 (by first | omega | assumption) ?_
                                                                     refine b_X4_next_98  ?_
                                                                     exact JE (by first | rfl | omega | (rw [hmf1, (by omega : w1 9 13 = cl (w (a + 1)) n x)]; exact (hE _ (by omega) (by omega)).symm)) hI1)
                                                                · first
                                                                  | exact absurd d_78 (by omega)
                                                                  | (refine b_X4_next_82 (by first | omega | assumption) ?_
                                                                     refine s_X4_number hM1 (by omega) (by omega) ?_
                                                                     refine b_X4_next_91  ?_
                                                                     refine b_X4_next_98  ?_
                                                                     exact JE (by first | rfl | omega | (rw [hmf1, (by omega : w1 9 13 = cl (w (a + 1)) n x)]; exact (hE _ (by omega) (by omega)).symm)) hI1))
                                                           · first
                                                             | exact absurd d_66 (by omega)
                                                             | (refine b_X4_next_73  ?_
                                                                refine b_X4_next_98  ?_
                                                                exact JE (by first | rfl | omega | (rw [hmf1, (by omega : w1 9 13 = cl (w (a + 1)) n x)]; exact (hE _ (by omega) (by omega)).symm)) hI1))
                                                      · first
                                                        | exact absurd d_56 (by omega)
                                                        | (refine b_X4_next_61 (by first | omega | assumption) ?_
                                                           exact JE (by rw [hwk]; exact (wtn_congr hn0 hE).symm) hI1))
                                                 · first
                                                   | exact absurd d_32 (by omega)
                                                   | (refine b_X4_next_47  ?_
                                                      exact JE (by rfl) hI))
                                            · first
                                              | exact absurd d_26 (by omega)
                                              | (refine b_X4_next_29  ?_
                                                 exact JE (by first | rfl | omega) hI)))))
                        · first
                          | exact absurd c_49 (by omega)
                          | (refine b_X3_next_54 (by first | omega | assumption) ?_
                             refine s_X1_workToNext hR (by omega) ?_
                             have hwb2 := wtn_bd (f := w (a + 1)) hn hb (show 0 ≤ x ∧ x ≤ 4095 by omega) hv
                             refine b_X3_next_60  ?_
                             refine JQ.mk (by omega) ?_
                             refine b_X4_next_0  ?_
                             refine s_X4_in (by omega) (by omega) (by omega) (fun r hr => ?_)
                             refine b_X4_next_6 (by first | omega | assumption) (fun d_6 => ?_) (fun d_6 => ?_)
                             · first
                               | exact absurd d_6 (by omega)
                               | (refine b_X4_next_29  ?_
                                  exact JE (by first | rfl | omega) hI)
                             · first
                               | exact absurd d_6 (by omega)
                               | (refine b_X4_next_9  ?_
                                  refine s_X4_in (by omega) (by omega) (by omega) (fun r hr => ?_)
                                  refine b_X4_next_17 (by first | omega | assumption) (fun d_17 => ?_) (fun d_17 => ?_)
                                  · first
                                    | exact absurd d_17 (by omega)
                                    | (refine b_X4_next_29  ?_
                                       exact JE (by first | rfl | omega) hI)
                                  · first
                                    | exact absurd d_17 (by omega)
                                    | (refine b_X4_next_20  ?_
                                       refine s_X4_in (by omega) (by omega) (by omega) (fun r hr => ?_)
                                       refine b_X4_next_26 (by first | omega | assumption) (fun d_26 => ?_) (fun d_26 => ?_)
                                       · first
                                         | exact absurd d_26 (by omega)
                                         | (refine b_X4_next_32 (by first | omega | assumption) (by first | omega | assumption) (by first | omega | assumption) (by first | omega | assumption) (by first | omega | assumption) (fun d_32 => ?_) (fun d_32 => ?_)
                                            · first
                                              | exact absurd d_32 (by omega)
                                              | (refine b_X4_next_50 (by first | omega | assumption) ?_
                                                 refine s_X4_finds hM hV hu9 hu11 (by omega) (fun w1 hS hwk hfd => ?_)
                                                 have hM1 := hS.MR hM
                                                 have hmf1 := hS.mf q
                                                 have ha1 : al (w1 9 0) = 84 := by rw [hM1.2.1]; rfl
                                                 have hI1 := hS.sd.Inv hI
                                                 refine b_X4_next_56 (by first | omega | assumption) (fun d_56 => ?_) (fun d_56 => ?_)
                                                 · first
                                                   | exact absurd d_56 (by omega)
                                                   | (refine b_X4_next_66 (by first | omega | assumption) (by first | omega | assumption) (fun d_66 => ?_) (fun d_66 => ?_)
                                                      · first
                                                        | exact absurd d_66 (by omega)
                                                        | (refine b_X4_next_78 (by first | omega | assumption) (fun d_78 => ?_) (fun d_78 => ?_)
                                                           · first
                                                             | exact absurd d_78 (by omega)
                                                             | (refine b_X4_next_94 (by first | omega | assumption) ?_
                                                                refine b_X4_next_98  ?_
                                                                exact JE (by first | rfl | omega | (rw [hmf1, (by omega : w1 9 13 = cl (w (a + 1)) n x)]; exact (hE _ (by omega) (by omega)).symm)) hI1)
                                                           · first
                                                             | exact absurd d_78 (by omega)
                                                             | (refine b_X4_next_82 (by first | omega | assumption) ?_
                                                                refine s_X4_number hM1 (by omega) (by omega) ?_
                                                                refine b_X4_next_91  ?_
                                                                refine b_X4_next_98  ?_
                                                                exact JE (by first | rfl | omega | (rw [hmf1, (by omega : w1 9 13 = cl (w (a + 1)) n x)]; exact (hE _ (by omega) (by omega)).symm)) hI1))
                                                      · first
                                                        | exact absurd d_66 (by omega)
                                                        | (refine b_X4_next_73  ?_
                                                           refine b_X4_next_98  ?_
                                                           exact JE (by first | rfl | omega | (rw [hmf1, (by omega : w1 9 13 = cl (w (a + 1)) n x)]; exact (hE _ (by omega) (by omega)).symm)) hI1))
                                                 · first
                                                   | exact absurd d_56 (by omega)
                                                   | (refine b_X4_next_61 (by first | omega | assumption) ?_
                                                      exact JE (by rw [hwk]; exact (wtn_congr hn0 hE).symm) hI1))
                                            · first
                                              | exact absurd d_32 (by omega)
                                              | (refine b_X4_next_47  ?_
                                                 exact JE (by rfl) hI))
                                       · first
                                         | exact absurd d_26 (by omega)
                                         | (refine b_X4_next_29  ?_
                                            exact JE (by first | rfl | omega) hI)))))
                   · first
                     | exact absurd c_35 (by omega)
                     | (refine b_X3_next_46  ?_
                        refine JQ.mk (by omega) ?_
                        refine b_X4_next_0  ?_
                        refine s_X4_in (by omega) (by omega) (by omega) (fun r hr => ?_)
                        refine b_X4_next_6 (by first | omega | assumption) (fun d_6 => ?_) (fun d_6 => ?_)
                        · first
                          | exact absurd d_6 (by omega)
                          | (refine b_X4_next_29  ?_
                             exact JE (by first | rfl | omega) hI)
                        · first
                          | exact absurd d_6 (by omega)
                          | (refine b_X4_next_9  ?_
                             refine s_X4_in (by omega) (by omega) (by omega) (fun r hr => ?_)
                             refine b_X4_next_17 (by first | omega | assumption) (fun d_17 => ?_) (fun d_17 => ?_)
                             · first
                               | exact absurd d_17 (by omega)
                               | (refine b_X4_next_29  ?_
                                  exact JE (by first | rfl | omega) hI)
                             · first
                               | exact absurd d_17 (by omega)
                               | (refine b_X4_next_20  ?_
                                  refine s_X4_in (by omega) (by omega) (by omega) (fun r hr => ?_)
                                  refine b_X4_next_26 (by first | omega | assumption) (fun d_26 => ?_) (fun d_26 => ?_)
                                  · first
                                    | exact absurd d_26 (by omega)
                                    | (refine b_X4_next_32 (by first | omega | assumption) (by first | omega | assumption) (by first | omega | assumption) (by first | omega | assumption) (by first | omega | assumption) (fun d_32 => ?_) (fun d_32 => ?_)
                                       · first
                                         | exact absurd d_32 (by omega)
                                         | (refine b_X4_next_50 (by first | omega | assumption) ?_
                                            refine s_X4_finds hM hV hu9 hu11 (by omega) (fun w1 hS hwk hfd => ?_)
                                            have hM1 := hS.MR hM
                                            have hmf1 := hS.mf q
                                            have ha1 : al (w1 9 0) = 84 := by rw [hM1.2.1]; rfl
                                            have hI1 := hS.sd.Inv hI
                                            refine b_X4_next_56 (by first | omega | assumption) (fun d_56 => ?_) (fun d_56 => ?_)
                                            · first
                                              | exact absurd d_56 (by omega)
                                              | (refine b_X4_next_66 (by first | omega | assumption) (by first | omega | assumption) (fun d_66 => ?_) (fun d_66 => ?_)
                                                 · first
                                                   | exact absurd d_66 (by omega)
                                                   | (refine b_X4_next_78 (by first | omega | assumption) (fun d_78 => ?_) (fun d_78 => ?_)
                                                      · first
                                                        | exact absurd d_78 (by omega)
                                                        | (refine b_X4_next_94 (by first | omega | assumption) ?_
                                                           refine b_X4_next_98  ?_
                                                           exact JE (by first | rfl | omega | (rw [hmf1, (by omega : w1 9 13 = cl (w (a + 1)) n x)]; exact (hE _ (by omega) (by omega)).symm)) hI1)
                                                      · first
                                                        | exact absurd d_78 (by omega)
                                                        | (refine b_X4_next_82 (by first | omega | assumption) ?_
                                                           refine s_X4_number hM1 (by omega) (by omega) ?_
                                                           refine b_X4_next_91  ?_
                                                           refine b_X4_next_98  ?_
                                                           exact JE (by first | rfl | omega | (rw [hmf1, (by omega : w1 9 13 = cl (w (a + 1)) n x)]; exact (hE _ (by omega) (by omega)).symm)) hI1))
                                                 · first
                                                   | exact absurd d_66 (by omega)
                                                   | (refine b_X4_next_73  ?_
                                                      refine b_X4_next_98  ?_
                                                      exact JE (by first | rfl | omega | (rw [hmf1, (by omega : w1 9 13 = cl (w (a + 1)) n x)]; exact (hE _ (by omega) (by omega)).symm)) hI1))
                                            · first
                                              | exact absurd d_56 (by omega)
                                              | (refine b_X4_next_61 (by first | omega | assumption) ?_
                                                 exact JE (by rw [hwk]; exact (wtn_congr hn0 hE).symm) hI1))
                                       · first
                                         | exact absurd d_32 (by omega)
                                         | (refine b_X4_next_47  ?_
                                            exact JE (by rfl) hI))
                                  · first
                                    | exact absurd d_26 (by omega)
                                    | (refine b_X4_next_29  ?_
                                       exact JE (by first | rfl | omega) hI)))))
              · first
                | exact absurd c_24 (by omega)
                | (refine b_X3_next_27  ?_
                   refine JQ.mk (by omega) ?_
                   refine b_X4_next_0  ?_
                   refine s_X4_in (by omega) (by omega) (by omega) (fun r hr => ?_)
                   refine b_X4_next_6 (by first | omega | assumption) (fun d_6 => ?_) (fun d_6 => ?_)
                   · first
                     | exact absurd d_6 (by omega)
                     | (refine b_X4_next_29  ?_
                        exact JE (by first | rfl | omega) hI)
                   · first
                     | exact absurd d_6 (by omega)
                     | (refine b_X4_next_9  ?_
                        refine s_X4_in (by omega) (by omega) (by omega) (fun r hr => ?_)
                        refine b_X4_next_17 (by first | omega | assumption) (fun d_17 => ?_) (fun d_17 => ?_)
                        · first
                          | exact absurd d_17 (by omega)
                          | (refine b_X4_next_29  ?_
                             exact JE (by first | rfl | omega) hI)
                        · first
                          | exact absurd d_17 (by omega)
                          | (refine b_X4_next_20  ?_
                             refine s_X4_in (by omega) (by omega) (by omega) (fun r hr => ?_)
                             refine b_X4_next_26 (by first | omega | assumption) (fun d_26 => ?_) (fun d_26 => ?_)
                             · first
                               | exact absurd d_26 (by omega)
                               | (refine b_X4_next_32 (by first | omega | assumption) (by first | omega | assumption) (by first | omega | assumption) (by first | omega | assumption) (by first | omega | assumption) (fun d_32 => ?_) (fun d_32 => ?_)
                                  · first
                                    | exact absurd d_32 (by omega)
                                    | (refine b_X4_next_50 (by first | omega | assumption) ?_
                                       refine s_X4_finds hM hV hu9 hu11 (by omega) (fun w1 hS hwk hfd => ?_)
                                       have hM1 := hS.MR hM
                                       have hmf1 := hS.mf q
                                       have ha1 : al (w1 9 0) = 84 := by rw [hM1.2.1]; rfl
                                       have hI1 := hS.sd.Inv hI
                                       refine b_X4_next_56 (by first | omega | assumption) (fun d_56 => ?_) (fun d_56 => ?_)
                                       · first
                                         | exact absurd d_56 (by omega)
                                         | (refine b_X4_next_66 (by first | omega | assumption) (by first | omega | assumption) (fun d_66 => ?_) (fun d_66 => ?_)
                                            · first
                                              | exact absurd d_66 (by omega)
                                              | (refine b_X4_next_78 (by first | omega | assumption) (fun d_78 => ?_) (fun d_78 => ?_)
                                                 · first
                                                   | exact absurd d_78 (by omega)
                                                   | (refine b_X4_next_94 (by first | omega | assumption) ?_
                                                      refine b_X4_next_98  ?_
                                                      exact JE (by first | rfl | omega | (rw [hmf1, (by omega : w1 9 13 = cl (w (a + 1)) n x)]; exact (hE _ (by omega) (by omega)).symm)) hI1)
                                                 · first
                                                   | exact absurd d_78 (by omega)
                                                   | (refine b_X4_next_82 (by first | omega | assumption) ?_
                                                      refine s_X4_number hM1 (by omega) (by omega) ?_
                                                      refine b_X4_next_91  ?_
                                                      refine b_X4_next_98  ?_
                                                      exact JE (by first | rfl | omega | (rw [hmf1, (by omega : w1 9 13 = cl (w (a + 1)) n x)]; exact (hE _ (by omega) (by omega)).symm)) hI1))
                                            · first
                                              | exact absurd d_66 (by omega)
                                              | (refine b_X4_next_73  ?_
                                                 refine b_X4_next_98  ?_
                                                 exact JE (by first | rfl | omega | (rw [hmf1, (by omega : w1 9 13 = cl (w (a + 1)) n x)]; exact (hE _ (by omega) (by omega)).symm)) hI1))
                                       · first
                                         | exact absurd d_56 (by omega)
                                         | (refine b_X4_next_61 (by first | omega | assumption) ?_
                                            exact JE (by rw [hwk]; exact (wtn_congr hn0 hE).symm) hI1))
                                  · first
                                    | exact absurd d_32 (by omega)
                                    | (refine b_X4_next_47  ?_
                                       exact JE (by rfl) hI))
                             · first
                               | exact absurd d_26 (by omega)
                               | (refine b_X4_next_29  ?_
                                  exact JE (by first | rfl | omega) hI))))))
  · have hq2 : q < 0 ∨ 1 < q := by omega
    refine b_X3_next_0  ?_
    refine s_X3_isRow (by omega) (fun r hr => ?_)
    refine b_X3_next_4 (by first | omega | assumption) (fun c_4 => ?_) (fun c_4 => ?_)
    · first
      | exact absurd c_4 (by omega)
      | (refine b_X3_next_27  ?_
         refine JQ.mk (by omega) ?_
         refine b_X4_next_0  ?_
         refine s_X4_in (by omega) (by omega) (by omega) (fun r hr => ?_)
         refine b_X4_next_6 (by first | omega | assumption) (fun d_6 => ?_) (fun d_6 => ?_)
         · first
           | exact absurd d_6 (by omega)
           | (refine b_X4_next_29  ?_
              exact JE (by first | rfl | omega) hI)
         · first
           | exact absurd d_6 (by omega)
           | (refine b_X4_next_9  ?_
              refine s_X4_in (by omega) (by omega) (by omega) (fun r hr => ?_)
              refine b_X4_next_17 (by first | omega | assumption) (fun d_17 => ?_) (fun d_17 => ?_)
              · first
                | exact absurd d_17 (by omega)
                | (refine b_X4_next_29  ?_
                   exact JE (by first | rfl | omega) hI)
              · first
                | exact absurd d_17 (by omega)
                | (refine b_X4_next_20  ?_
                   refine s_X4_in (by omega) (by omega) (by omega) (fun r hr => ?_)
                   refine b_X4_next_26 (by first | omega | assumption) (fun d_26 => ?_) (fun d_26 => ?_)
                   · first
                     | exact absurd d_26 (by omega)
                     | (refine b_X4_next_32 (by first | omega | assumption) (by first | omega | assumption) (by first | omega | assumption) (by first | omega | assumption) (by first | omega | assumption) (fun d_32 => ?_) (fun d_32 => ?_)
                        · first
                          | exact absurd d_32 (by omega)
                          | (refine b_X4_next_50 (by first | omega | assumption) ?_
                             refine s_X4_finds hM hV hu9 hu11 (by omega) (fun w1 hS hwk hfd => ?_)
                             have hM1 := hS.MR hM
                             have hmf1 := hS.mf q
                             have ha1 : al (w1 9 0) = 84 := by rw [hM1.2.1]; rfl
                             have hI1 := hS.sd.Inv hI
                             refine b_X4_next_56 (by first | omega | assumption) (fun d_56 => ?_) (fun d_56 => ?_)
                             · first
                               | exact absurd d_56 (by omega)
                               | (refine b_X4_next_66 (by first | omega | assumption) (by first | omega | assumption) (fun d_66 => ?_) (fun d_66 => ?_)
                                  · first
                                    | exact absurd d_66 (by omega)
                                    | (refine b_X4_next_78 (by first | omega | assumption) (fun d_78 => ?_) (fun d_78 => ?_)
                                       · first
                                         | exact absurd d_78 (by omega)
                                         | (refine b_X4_next_94 (by first | omega | assumption) ?_
                                            refine b_X4_next_98  ?_
                                            exact JE (by first | rfl | omega | (rw [hmf1, (by omega : w1 9 13 = cl (w (a + 1)) n x)]; exact (hE _ (by omega) (by omega)).symm)) hI)
                                       · first
                                         | exact absurd d_78 (by omega)
                                         | (refine b_X4_next_82 (by first | omega | assumption) ?_
                                            refine s_X4_number hM1 (by omega) (by omega) ?_
                                            refine b_X4_next_91  ?_
                                            refine b_X4_next_98  ?_
                                            exact JE (by first | rfl | omega | (rw [hmf1, (by omega : w1 9 13 = cl (w (a + 1)) n x)]; exact (hE _ (by omega) (by omega)).symm)) hI))
                                  · first
                                    | exact absurd d_66 (by omega)
                                    | (refine b_X4_next_73  ?_
                                       refine b_X4_next_98  ?_
                                       exact JE (by first | rfl | omega | (rw [hmf1, (by omega : w1 9 13 = cl (w (a + 1)) n x)]; exact (hE _ (by omega) (by omega)).symm)) hI))
                             · first
                               | exact absurd d_56 (by omega)
                               | (refine b_X4_next_61 (by first | omega | assumption) ?_
                                  exact JE (by rw [hwk]; exact (wtn_congr hn0 hE).symm) hI))
                        · first
                          | exact absurd d_32 (by omega)
                          | (refine b_X4_next_47  ?_
                             exact JE (by rfl) hI))
                   · first
                     | exact absurd d_26 (by omega)
                     | (refine b_X4_next_29  ?_
                        exact JE (by first | rfl | omega) hI))))
    · first
      | exact absurd c_4 (by omega)
      | (refine b_X3_next_7  ?_
         refine s_X3_isWithin (by omega) (by omega) (by omega) (fun r hr => ?_)
         refine b_X3_next_15 (by first | omega | assumption) (fun c_15 => ?_) (fun c_15 => ?_)
         · first
           | exact absurd c_15 (by omega)
           | (refine b_X3_next_27  ?_
              refine JQ.mk (by omega) ?_
              refine b_X4_next_0  ?_
              refine s_X4_in (by omega) (by omega) (by omega) (fun r hr => ?_)
              refine b_X4_next_6 (by first | omega | assumption) (fun d_6 => ?_) (fun d_6 => ?_)
              · first
                | exact absurd d_6 (by omega)
                | (refine b_X4_next_29  ?_
                   exact JE (by first | rfl | omega) hI)
              · first
                | exact absurd d_6 (by omega)
                | (refine b_X4_next_9  ?_
                   refine s_X4_in (by omega) (by omega) (by omega) (fun r hr => ?_)
                   refine b_X4_next_17 (by first | omega | assumption) (fun d_17 => ?_) (fun d_17 => ?_)
                   · first
                     | exact absurd d_17 (by omega)
                     | (refine b_X4_next_29  ?_
                        exact JE (by first | rfl | omega) hI)
                   · first
                     | exact absurd d_17 (by omega)
                     | (refine b_X4_next_20  ?_
                        refine s_X4_in (by omega) (by omega) (by omega) (fun r hr => ?_)
                        refine b_X4_next_26 (by first | omega | assumption) (fun d_26 => ?_) (fun d_26 => ?_)
                        · first
                          | exact absurd d_26 (by omega)
                          | (refine b_X4_next_32 (by first | omega | assumption) (by first | omega | assumption) (by first | omega | assumption) (by first | omega | assumption) (by first | omega | assumption) (fun d_32 => ?_) (fun d_32 => ?_)
                             · first
                               | exact absurd d_32 (by omega)
                               | (refine b_X4_next_50 (by first | omega | assumption) ?_
                                  refine s_X4_finds hM hV hu9 hu11 (by omega) (fun w1 hS hwk hfd => ?_)
                                  have hM1 := hS.MR hM
                                  have hmf1 := hS.mf q
                                  have ha1 : al (w1 9 0) = 84 := by rw [hM1.2.1]; rfl
                                  have hI1 := hS.sd.Inv hI
                                  refine b_X4_next_56 (by first | omega | assumption) (fun d_56 => ?_) (fun d_56 => ?_)
                                  · first
                                    | exact absurd d_56 (by omega)
                                    | (refine b_X4_next_66 (by first | omega | assumption) (by first | omega | assumption) (fun d_66 => ?_) (fun d_66 => ?_)
                                       · first
                                         | exact absurd d_66 (by omega)
                                         | (refine b_X4_next_78 (by first | omega | assumption) (fun d_78 => ?_) (fun d_78 => ?_)
                                            · first
                                              | exact absurd d_78 (by omega)
                                              | (refine b_X4_next_94 (by first | omega | assumption) ?_
                                                 refine b_X4_next_98  ?_
                                                 exact JE (by first | rfl | omega | (rw [hmf1, (by omega : w1 9 13 = cl (w (a + 1)) n x)]; exact (hE _ (by omega) (by omega)).symm)) hI)
                                            · first
                                              | exact absurd d_78 (by omega)
                                              | (refine b_X4_next_82 (by first | omega | assumption) ?_
                                                 refine s_X4_number hM1 (by omega) (by omega) ?_
                                                 refine b_X4_next_91  ?_
                                                 refine b_X4_next_98  ?_
                                                 exact JE (by first | rfl | omega | (rw [hmf1, (by omega : w1 9 13 = cl (w (a + 1)) n x)]; exact (hE _ (by omega) (by omega)).symm)) hI))
                                       · first
                                         | exact absurd d_66 (by omega)
                                         | (refine b_X4_next_73  ?_
                                            refine b_X4_next_98  ?_
                                            exact JE (by first | rfl | omega | (rw [hmf1, (by omega : w1 9 13 = cl (w (a + 1)) n x)]; exact (hE _ (by omega) (by omega)).symm)) hI))
                                  · first
                                    | exact absurd d_56 (by omega)
                                    | (refine b_X4_next_61 (by first | omega | assumption) ?_
                                       exact JE (by rw [hwk]; exact (wtn_congr hn0 hE).symm) hI))
                             · first
                               | exact absurd d_32 (by omega)
                               | (refine b_X4_next_47  ?_
                                  exact JE (by rfl) hI))
                        · first
                          | exact absurd d_26 (by omega)
                          | (refine b_X4_next_29  ?_
                             exact JE (by first | rfl | omega) hI))))
         · first
           | exact absurd c_15 (by omega)
           | (refine b_X3_next_18  ?_
              refine s_X3_isWithin (by omega) (by omega) (by omega) (fun r hr => ?_)
              refine b_X3_next_24 (by first | omega | assumption) (fun c_24 => ?_) (fun c_24 => ?_)
              · first
                | exact absurd c_24 (by omega)
                | (refine b_X3_next_30 (by first | omega | assumption) ?_
                   refine s_X3_rowAt hra ?_
                   refine b_X3_next_35 (by first | omega | assumption) (by first | omega | assumption) (by first | omega | assumption) (fun c_35 => ?_) (fun c_35 => ?_)
                   · first
                     | exact absurd c_35 (by omega)
                     | (refine b_X3_next_49 (by first | omega | assumption) (fun c_49 => ?_) (fun c_49 => ?_)
                        · first
                          | exact absurd c_49 (by omega)
                          | (refine b_X3_next_61 (by first | omega | assumption) ?_
                             refine s_X1_countLess h (by omega) ?_
                             have hcl := cl_spec (f := w (a + 1)) (n := n) (x := x) hn0
                             have hcc := cl_congr (x := x) hn0 hE
                             refine b_X3_next_67 (by first | omega | assumption) (by first | omega | assumption) (by first | omega | assumption) (fun c_67 => ?_) (fun c_67 => ?_)
                             · first
                               | exact absurd c_67 (by omega)
                               | (refine b_X3_next_82 (by first | omega | assumption) (fun c_82 => ?_) (fun c_82 => ?_)
                                  · first
                                    | exact absurd c_82 (by omega)
                                    | (refine b_X3_next_96  ?_
                                       refine b_X3_next_98  ?_
                                       refine JQ.mk (by omega) ?_
                                       refine b_X4_next_0  ?_
                                       refine s_X4_in (by omega) (by omega) (by omega) (fun r hr => ?_)
                                       refine b_X4_next_6 (by first | omega | assumption) (fun d_6 => ?_) (fun d_6 => ?_)
                                       · first
                                         | exact absurd d_6 (by omega)
                                         | (refine b_X4_next_29  ?_
                                            exact JE (by first | rfl | omega) hI)
                                       · first
                                         | exact absurd d_6 (by omega)
                                         | (refine b_X4_next_9  ?_
                                            refine s_X4_in (by omega) (by omega) (by omega) (fun r hr => ?_)
                                            refine b_X4_next_17 (by first | omega | assumption) (fun d_17 => ?_) (fun d_17 => ?_)
                                            · first
                                              | exact absurd d_17 (by omega)
                                              | (refine b_X4_next_29  ?_
                                                 exact JE (by first | rfl | omega) hI)
                                            · first
                                              | exact absurd d_17 (by omega)
                                              | (refine b_X4_next_20  ?_
                                                 refine s_X4_in (by omega) (by omega) (by omega) (fun r hr => ?_)
                                                 refine b_X4_next_26 (by first | omega | assumption) (fun d_26 => ?_) (fun d_26 => ?_)
                                                 · first
                                                   | exact absurd d_26 (by omega)
                                                   | (refine b_X4_next_32 (by first | omega | assumption) (by first | omega | assumption) (by first | omega | assumption) (by first | omega | assumption) (by first | omega | assumption) (fun d_32 => ?_) (fun d_32 => ?_)
                                                      · first
                                                        | exact absurd d_32 (by omega)
                                                        | (refine b_X4_next_50 (by first | omega | assumption) ?_
                                                           refine s_X4_finds hM hV hu9 hu11 (by omega) (fun w1 hS hwk hfd => ?_)
                                                           have hM1 := hS.MR hM
                                                           have hmf1 := hS.mf q
                                                           have ha1 : al (w1 9 0) = 84 := by rw [hM1.2.1]; rfl
                                                           have hI1 := hS.sd.Inv hI
                                                           refine b_X4_next_56 (by first | omega | assumption) (fun d_56 => ?_) (fun d_56 => ?_)
                                                           · first
                                                             | exact absurd d_56 (by omega)
                                                             | (refine b_X4_next_66 (by first | omega | assumption) (by first | omega | assumption) (fun d_66 => ?_) (fun d_66 => ?_)
                                                                · first
                                                                  | exact absurd d_66 (by omega)
                                                                  | (refine b_X4_next_78 (by first | omega | assumption) (fun d_78 => ?_) (fun d_78 => ?_)
                                                                     · first
                                                                       | exact absurd d_78 (by omega)
                                                                       | (refine b_X4_next_94 (by first | omega | assumption) ?_
                                                                          refine b_X4_next_98  ?_
                                                                          exact JE (by first | rfl | omega | (rw [hmf1, (by omega : w1 9 13 = cl (w (a + 1)) n x)]; exact (hE _ (by omega) (by omega)).symm)) hI)
                                                                     · first
                                                                       | exact absurd d_78 (by omega)
                                                                       | (refine b_X4_next_82 (by first | omega | assumption) ?_
                                                                          refine s_X4_number hM1 (by omega) (by omega) ?_
                                                                          refine b_X4_next_91  ?_
                                                                          refine b_X4_next_98  ?_
                                                                          exact JE (by first | rfl | omega | (rw [hmf1, (by omega : w1 9 13 = cl (w (a + 1)) n x)]; exact (hE _ (by omega) (by omega)).symm)) hI))
                                                                · first
                                                                  | exact absurd d_66 (by omega)
                                                                  | (refine b_X4_next_73  ?_
                                                                     refine b_X4_next_98  ?_
                                                                     exact JE (by first | rfl | omega | (rw [hmf1, (by omega : w1 9 13 = cl (w (a + 1)) n x)]; exact (hE _ (by omega) (by omega)).symm)) hI))
                                                           · first
                                                             | exact absurd d_56 (by omega)
                                                             | (refine b_X4_next_61 (by first | omega | assumption) ?_
                                                                exact JE (by rw [hwk]; exact (wtn_congr hn0 hE).symm) hI))
                                                      · first
                                                        | exact absurd d_32 (by omega)
                                                        | (refine b_X4_next_47  ?_
                                                           exact JE (by rfl) hI))
                                                 · first
                                                   | exact absurd d_26 (by omega)
                                                   | (refine b_X4_next_29  ?_
                                                      exact JE (by first | rfl | omega) hI))))
                                  · first
                                    | exact absurd c_82 (by omega)
                                    | (refine b_X3_next_86 (by first | omega | assumption) ?_
                                       refine s_X1_numberIn h (by omega) (by omega) ?_
                                       have hvc := hv (cl (w (a + 1)) n x) (by omega) (by omega)
                                       refine b_X3_next_93  ?_
                                       refine b_X3_next_98  ?_
                                       refine JQ.mk (by omega) ?_
                                       refine b_X4_next_0  ?_
                                       refine s_X4_in (by omega) (by omega) (by omega) (fun r hr => ?_)
                                       refine b_X4_next_6 (by first | omega | assumption) (fun d_6 => ?_) (fun d_6 => ?_)
                                       · first
                                         | exact absurd d_6 (by omega)
                                         | (refine b_X4_next_29  ?_
                                            exact JE (by first | rfl | omega) hI)
                                       · first
                                         | exact absurd d_6 (by omega)
                                         | (refine b_X4_next_9  ?_
                                            refine s_X4_in (by omega) (by omega) (by omega) (fun r hr => ?_)
                                            refine b_X4_next_17 (by first | omega | assumption) (fun d_17 => ?_) (fun d_17 => ?_)
                                            · first
                                              | exact absurd d_17 (by omega)
                                              | (refine b_X4_next_29  ?_
                                                 exact JE (by first | rfl | omega) hI)
                                            · first
                                              | exact absurd d_17 (by omega)
                                              | (refine b_X4_next_20  ?_
                                                 refine s_X4_in (by omega) (by omega) (by omega) (fun r hr => ?_)
                                                 refine b_X4_next_26 (by first | omega | assumption) (fun d_26 => ?_) (fun d_26 => ?_)
                                                 · first
                                                   | exact absurd d_26 (by omega)
                                                   | (refine b_X4_next_32 (by first | omega | assumption) (by first | omega | assumption) (by first | omega | assumption) (by first | omega | assumption) (by first | omega | assumption) (fun d_32 => ?_) (fun d_32 => ?_)
                                                      · first
                                                        | exact absurd d_32 (by omega)
                                                        | (refine b_X4_next_50 (by first | omega | assumption) ?_
                                                           refine s_X4_finds hM hV hu9 hu11 (by omega) (fun w1 hS hwk hfd => ?_)
                                                           have hM1 := hS.MR hM
                                                           have hmf1 := hS.mf q
                                                           have ha1 : al (w1 9 0) = 84 := by rw [hM1.2.1]; rfl
                                                           have hI1 := hS.sd.Inv hI
                                                           refine b_X4_next_56 (by first | omega | assumption) (fun d_56 => ?_) (fun d_56 => ?_)
                                                           · first
                                                             | exact absurd d_56 (by omega)
                                                             | (refine b_X4_next_66 (by first | omega | assumption) (by first | omega | assumption) (fun d_66 => ?_) (fun d_66 => ?_)
                                                                · first
                                                                  | exact absurd d_66 (by omega)
                                                                  | (refine b_X4_next_78 (by first | omega | assumption) (fun d_78 => ?_) (fun d_78 => ?_)
                                                                     · first
                                                                       | exact absurd d_78 (by omega)
                                                                       | (refine b_X4_next_94 (by first | omega | assumption) ?_
                                                                          refine b_X4_next_98  ?_
                                                                          exact JE (by first | rfl | omega | (rw [hmf1, (by omega : w1 9 13 = cl (w (a + 1)) n x)]; exact (hE _ (by omega) (by omega)).symm)) hI)
                                                                     · first
                                                                       | exact absurd d_78 (by omega)
                                                                       | (refine b_X4_next_82 (by first | omega | assumption) ?_
                                                                          refine s_X4_number hM1 (by omega) (by omega) ?_
                                                                          refine b_X4_next_91  ?_
                                                                          refine b_X4_next_98  ?_
                                                                          exact JE (by first | rfl | omega | (rw [hmf1, (by omega : w1 9 13 = cl (w (a + 1)) n x)]; exact (hE _ (by omega) (by omega)).symm)) hI))
                                                                · first
                                                                  | exact absurd d_66 (by omega)
                                                                  | (refine b_X4_next_73  ?_
                                                                     refine b_X4_next_98  ?_
                                                                     exact JE (by first | rfl | omega | (rw [hmf1, (by omega : w1 9 13 = cl (w (a + 1)) n x)]; exact (hE _ (by omega) (by omega)).symm)) hI))
                                                           · first
                                                             | exact absurd d_56 (by omega)
                                                             | (refine b_X4_next_61 (by first | omega | assumption) ?_
                                                                exact JE (by rw [hwk]; exact (wtn_congr hn0 hE).symm) hI))
                                                      · first
                                                        | exact absurd d_32 (by omega)
                                                        | (refine b_X4_next_47  ?_
                                                           exact JE (by rfl) hI))
                                                 · first
                                                   | exact absurd d_26 (by omega)
                                                   | (refine b_X4_next_29  ?_
                                                      exact JE (by first | rfl | omega) hI)))))
                             · first
                               | exact absurd c_67 (by omega)
                               | (refine b_X3_next_79  ?_
                                  refine JQ.mk (by omega) ?_
                                  refine b_X4_next_0  ?_
                                  refine s_X4_in (by omega) (by omega) (by omega) (fun r hr => ?_)
                                  refine b_X4_next_6 (by first | omega | assumption) (fun d_6 => ?_) (fun d_6 => ?_)
                                  · first
                                    | exact absurd d_6 (by omega)
                                    | (refine b_X4_next_29  ?_
                                       exact JE (by first | rfl | omega) hI)
                                  · first
                                    | exact absurd d_6 (by omega)
                                    | (refine b_X4_next_9  ?_
                                       refine s_X4_in (by omega) (by omega) (by omega) (fun r hr => ?_)
                                       refine b_X4_next_17 (by first | omega | assumption) (fun d_17 => ?_) (fun d_17 => ?_)
                                       · first
                                         | exact absurd d_17 (by omega)
                                         | (refine b_X4_next_29  ?_
                                            exact JE (by first | rfl | omega) hI)
                                       · first
                                         | exact absurd d_17 (by omega)
                                         | (refine b_X4_next_20  ?_
                                            refine s_X4_in (by omega) (by omega) (by omega) (fun r hr => ?_)
                                            refine b_X4_next_26 (by first | omega | assumption) (fun d_26 => ?_) (fun d_26 => ?_)
                                            · first
                                              | exact absurd d_26 (by omega)
                                              | (refine b_X4_next_32 (by first | omega | assumption) (by first | omega | assumption) (by first | omega | assumption) (by first | omega | assumption) (by first | omega | assumption) (fun d_32 => ?_) (fun d_32 => ?_)
                                                 · first
                                                   | exact absurd d_32 (by omega)
                                                   | (refine b_X4_next_50 (by first | omega | assumption) ?_
                                                      refine s_X4_finds hM hV hu9 hu11 (by omega) (fun w1 hS hwk hfd => ?_)
                                                      have hM1 := hS.MR hM
                                                      have hmf1 := hS.mf q
                                                      have ha1 : al (w1 9 0) = 84 := by rw [hM1.2.1]; rfl
                                                      have hI1 := hS.sd.Inv hI
                                                      refine b_X4_next_56 (by first | omega | assumption) (fun d_56 => ?_) (fun d_56 => ?_)
                                                      · first
                                                        | exact absurd d_56 (by omega)
                                                        | (refine b_X4_next_66 (by first | omega | assumption) (by first | omega | assumption) (fun d_66 => ?_) (fun d_66 => ?_)
                                                           · first
                                                             | exact absurd d_66 (by omega)
                                                             | (refine b_X4_next_78 (by first | omega | assumption) (fun d_78 => ?_) (fun d_78 => ?_)
                                                                · first
                                                                  | exact absurd d_78 (by omega)
                                                                  | (refine b_X4_next_94 (by first | omega | assumption) ?_
                                                                     refine b_X4_next_98  ?_
                                                                     exact JE (by first | rfl | omega | (rw [hmf1, (by omega : w1 9 13 = cl (w (a + 1)) n x)]; exact (hE _ (by omega) (by omega)).symm)) hI)
                                                                · first
                                                                  | exact absurd d_78 (by omega)
                                                                  | (refine b_X4_next_82 (by first | omega | assumption) ?_
                                                                     refine s_X4_number hM1 (by omega) (by omega) ?_
                                                                     refine b_X4_next_91  ?_
                                                                     refine b_X4_next_98  ?_
                                                                     exact JE (by first | rfl | omega | (rw [hmf1, (by omega : w1 9 13 = cl (w (a + 1)) n x)]; exact (hE _ (by omega) (by omega)).symm)) hI))
                                                           · first
                                                             | exact absurd d_66 (by omega)
                                                             | (refine b_X4_next_73  ?_
                                                                refine b_X4_next_98  ?_
                                                                exact JE (by first | rfl | omega | (rw [hmf1, (by omega : w1 9 13 = cl (w (a + 1)) n x)]; exact (hE _ (by omega) (by omega)).symm)) hI))
                                                      · first
                                                        | exact absurd d_56 (by omega)
                                                        | (refine b_X4_next_61 (by first | omega | assumption) ?_
                                                           exact JE (by rw [hwk]; exact (wtn_congr hn0 hE).symm) hI))
                                                 · first
                                                   | exact absurd d_32 (by omega)
                                                   | (refine b_X4_next_47  ?_
                                                      exact JE (by rfl) hI))
                                            · first
                                              | exact absurd d_26 (by omega)
                                              | (refine b_X4_next_29  ?_
                                                 exact JE (by first | rfl | omega) hI)))))
                        · first
                          | exact absurd c_49 (by omega)
                          | (refine b_X3_next_54 (by first | omega | assumption) ?_
                             refine s_X1_workToNext hR (by omega) ?_
                             have hwb2 := wtn_bd (f := w (a + 1)) hn hb (show 0 ≤ x ∧ x ≤ 4095 by omega) hv
                             refine b_X3_next_60  ?_
                             refine JQ.mk (by omega) ?_
                             refine b_X4_next_0  ?_
                             refine s_X4_in (by omega) (by omega) (by omega) (fun r hr => ?_)
                             refine b_X4_next_6 (by first | omega | assumption) (fun d_6 => ?_) (fun d_6 => ?_)
                             · first
                               | exact absurd d_6 (by omega)
                               | (refine b_X4_next_29  ?_
                                  exact JE (by first | rfl | omega) hI)
                             · first
                               | exact absurd d_6 (by omega)
                               | (refine b_X4_next_9  ?_
                                  refine s_X4_in (by omega) (by omega) (by omega) (fun r hr => ?_)
                                  refine b_X4_next_17 (by first | omega | assumption) (fun d_17 => ?_) (fun d_17 => ?_)
                                  · first
                                    | exact absurd d_17 (by omega)
                                    | (refine b_X4_next_29  ?_
                                       exact JE (by first | rfl | omega) hI)
                                  · first
                                    | exact absurd d_17 (by omega)
                                    | (refine b_X4_next_20  ?_
                                       refine s_X4_in (by omega) (by omega) (by omega) (fun r hr => ?_)
                                       refine b_X4_next_26 (by first | omega | assumption) (fun d_26 => ?_) (fun d_26 => ?_)
                                       · first
                                         | exact absurd d_26 (by omega)
                                         | (refine b_X4_next_32 (by first | omega | assumption) (by first | omega | assumption) (by first | omega | assumption) (by first | omega | assumption) (by first | omega | assumption) (fun d_32 => ?_) (fun d_32 => ?_)
                                            · first
                                              | exact absurd d_32 (by omega)
                                              | (refine b_X4_next_50 (by first | omega | assumption) ?_
                                                 refine s_X4_finds hM hV hu9 hu11 (by omega) (fun w1 hS hwk hfd => ?_)
                                                 have hM1 := hS.MR hM
                                                 have hmf1 := hS.mf q
                                                 have ha1 : al (w1 9 0) = 84 := by rw [hM1.2.1]; rfl
                                                 have hI1 := hS.sd.Inv hI
                                                 refine b_X4_next_56 (by first | omega | assumption) (fun d_56 => ?_) (fun d_56 => ?_)
                                                 · first
                                                   | exact absurd d_56 (by omega)
                                                   | (refine b_X4_next_66 (by first | omega | assumption) (by first | omega | assumption) (fun d_66 => ?_) (fun d_66 => ?_)
                                                      · first
                                                        | exact absurd d_66 (by omega)
                                                        | (refine b_X4_next_78 (by first | omega | assumption) (fun d_78 => ?_) (fun d_78 => ?_)
                                                           · first
                                                             | exact absurd d_78 (by omega)
                                                             | (refine b_X4_next_94 (by first | omega | assumption) ?_
                                                                refine b_X4_next_98  ?_
                                                                exact JE (by first | rfl | omega | (rw [hmf1, (by omega : w1 9 13 = cl (w (a + 1)) n x)]; exact (hE _ (by omega) (by omega)).symm)) hI)
                                                           · first
                                                             | exact absurd d_78 (by omega)
                                                             | (refine b_X4_next_82 (by first | omega | assumption) ?_
                                                                refine s_X4_number hM1 (by omega) (by omega) ?_
                                                                refine b_X4_next_91  ?_
                                                                refine b_X4_next_98  ?_
                                                                exact JE (by first | rfl | omega | (rw [hmf1, (by omega : w1 9 13 = cl (w (a + 1)) n x)]; exact (hE _ (by omega) (by omega)).symm)) hI))
                                                      · first
                                                        | exact absurd d_66 (by omega)
                                                        | (refine b_X4_next_73  ?_
                                                           refine b_X4_next_98  ?_
                                                           exact JE (by first | rfl | omega | (rw [hmf1, (by omega : w1 9 13 = cl (w (a + 1)) n x)]; exact (hE _ (by omega) (by omega)).symm)) hI))
                                                 · first
                                                   | exact absurd d_56 (by omega)
                                                   | (refine b_X4_next_61 (by first | omega | assumption) ?_
                                                      exact JE (by rw [hwk]; exact (wtn_congr hn0 hE).symm) hI))
                                            · first
                                              | exact absurd d_32 (by omega)
                                              | (refine b_X4_next_47  ?_
                                                 exact JE (by rfl) hI))
                                       · first
                                         | exact absurd d_26 (by omega)
                                         | (refine b_X4_next_29  ?_
                                            exact JE (by first | rfl | omega) hI)))))
                   · first
                     | exact absurd c_35 (by omega)
                     | (refine b_X3_next_46  ?_
                        refine JQ.mk (by omega) ?_
                        refine b_X4_next_0  ?_
                        refine s_X4_in (by omega) (by omega) (by omega) (fun r hr => ?_)
                        refine b_X4_next_6 (by first | omega | assumption) (fun d_6 => ?_) (fun d_6 => ?_)
                        · first
                          | exact absurd d_6 (by omega)
                          | (refine b_X4_next_29  ?_
                             exact JE (by first | rfl | omega) hI)
                        · first
                          | exact absurd d_6 (by omega)
                          | (refine b_X4_next_9  ?_
                             refine s_X4_in (by omega) (by omega) (by omega) (fun r hr => ?_)
                             refine b_X4_next_17 (by first | omega | assumption) (fun d_17 => ?_) (fun d_17 => ?_)
                             · first
                               | exact absurd d_17 (by omega)
                               | (refine b_X4_next_29  ?_
                                  exact JE (by first | rfl | omega) hI)
                             · first
                               | exact absurd d_17 (by omega)
                               | (refine b_X4_next_20  ?_
                                  refine s_X4_in (by omega) (by omega) (by omega) (fun r hr => ?_)
                                  refine b_X4_next_26 (by first | omega | assumption) (fun d_26 => ?_) (fun d_26 => ?_)
                                  · first
                                    | exact absurd d_26 (by omega)
                                    | (refine b_X4_next_32 (by first | omega | assumption) (by first | omega | assumption) (by first | omega | assumption) (by first | omega | assumption) (by first | omega | assumption) (fun d_32 => ?_) (fun d_32 => ?_)
                                       · first
                                         | exact absurd d_32 (by omega)
                                         | (refine b_X4_next_50 (by first | omega | assumption) ?_
                                            refine s_X4_finds hM hV hu9 hu11 (by omega) (fun w1 hS hwk hfd => ?_)
                                            have hM1 := hS.MR hM
                                            have hmf1 := hS.mf q
                                            have ha1 : al (w1 9 0) = 84 := by rw [hM1.2.1]; rfl
                                            have hI1 := hS.sd.Inv hI
                                            refine b_X4_next_56 (by first | omega | assumption) (fun d_56 => ?_) (fun d_56 => ?_)
                                            · first
                                              | exact absurd d_56 (by omega)
                                              | (refine b_X4_next_66 (by first | omega | assumption) (by first | omega | assumption) (fun d_66 => ?_) (fun d_66 => ?_)
                                                 · first
                                                   | exact absurd d_66 (by omega)
                                                   | (refine b_X4_next_78 (by first | omega | assumption) (fun d_78 => ?_) (fun d_78 => ?_)
                                                      · first
                                                        | exact absurd d_78 (by omega)
                                                        | (refine b_X4_next_94 (by first | omega | assumption) ?_
                                                           refine b_X4_next_98  ?_
                                                           exact JE (by first | rfl | omega | (rw [hmf1, (by omega : w1 9 13 = cl (w (a + 1)) n x)]; exact (hE _ (by omega) (by omega)).symm)) hI)
                                                      · first
                                                        | exact absurd d_78 (by omega)
                                                        | (refine b_X4_next_82 (by first | omega | assumption) ?_
                                                           refine s_X4_number hM1 (by omega) (by omega) ?_
                                                           refine b_X4_next_91  ?_
                                                           refine b_X4_next_98  ?_
                                                           exact JE (by first | rfl | omega | (rw [hmf1, (by omega : w1 9 13 = cl (w (a + 1)) n x)]; exact (hE _ (by omega) (by omega)).symm)) hI))
                                                 · first
                                                   | exact absurd d_66 (by omega)
                                                   | (refine b_X4_next_73  ?_
                                                      refine b_X4_next_98  ?_
                                                      exact JE (by first | rfl | omega | (rw [hmf1, (by omega : w1 9 13 = cl (w (a + 1)) n x)]; exact (hE _ (by omega) (by omega)).symm)) hI))
                                            · first
                                              | exact absurd d_56 (by omega)
                                              | (refine b_X4_next_61 (by first | omega | assumption) ?_
                                                 exact JE (by rw [hwk]; exact (wtn_congr hn0 hE).symm) hI))
                                       · first
                                         | exact absurd d_32 (by omega)
                                         | (refine b_X4_next_47  ?_
                                            exact JE (by rfl) hI))
                                  · first
                                    | exact absurd d_26 (by omega)
                                    | (refine b_X4_next_29  ?_
                                       exact JE (by first | rfl | omega) hI)))))
              · first
                | exact absurd c_24 (by omega)
                | (refine b_X3_next_27  ?_
                   refine JQ.mk (by omega) ?_
                   refine b_X4_next_0  ?_
                   refine s_X4_in (by omega) (by omega) (by omega) (fun r hr => ?_)
                   refine b_X4_next_6 (by first | omega | assumption) (fun d_6 => ?_) (fun d_6 => ?_)
                   · first
                     | exact absurd d_6 (by omega)
                     | (refine b_X4_next_29  ?_
                        exact JE (by first | rfl | omega) hI)
                   · first
                     | exact absurd d_6 (by omega)
                     | (refine b_X4_next_9  ?_
                        refine s_X4_in (by omega) (by omega) (by omega) (fun r hr => ?_)
                        refine b_X4_next_17 (by first | omega | assumption) (fun d_17 => ?_) (fun d_17 => ?_)
                        · first
                          | exact absurd d_17 (by omega)
                          | (refine b_X4_next_29  ?_
                             exact JE (by first | rfl | omega) hI)
                        · first
                          | exact absurd d_17 (by omega)
                          | (refine b_X4_next_20  ?_
                             refine s_X4_in (by omega) (by omega) (by omega) (fun r hr => ?_)
                             refine b_X4_next_26 (by first | omega | assumption) (fun d_26 => ?_) (fun d_26 => ?_)
                             · first
                               | exact absurd d_26 (by omega)
                               | (refine b_X4_next_32 (by first | omega | assumption) (by first | omega | assumption) (by first | omega | assumption) (by first | omega | assumption) (by first | omega | assumption) (fun d_32 => ?_) (fun d_32 => ?_)
                                  · first
                                    | exact absurd d_32 (by omega)
                                    | (refine b_X4_next_50 (by first | omega | assumption) ?_
                                       refine s_X4_finds hM hV hu9 hu11 (by omega) (fun w1 hS hwk hfd => ?_)
                                       have hM1 := hS.MR hM
                                       have hmf1 := hS.mf q
                                       have ha1 : al (w1 9 0) = 84 := by rw [hM1.2.1]; rfl
                                       have hI1 := hS.sd.Inv hI
                                       refine b_X4_next_56 (by first | omega | assumption) (fun d_56 => ?_) (fun d_56 => ?_)
                                       · first
                                         | exact absurd d_56 (by omega)
                                         | (refine b_X4_next_66 (by first | omega | assumption) (by first | omega | assumption) (fun d_66 => ?_) (fun d_66 => ?_)
                                            · first
                                              | exact absurd d_66 (by omega)
                                              | (refine b_X4_next_78 (by first | omega | assumption) (fun d_78 => ?_) (fun d_78 => ?_)
                                                 · first
                                                   | exact absurd d_78 (by omega)
                                                   | (refine b_X4_next_94 (by first | omega | assumption) ?_
                                                      refine b_X4_next_98  ?_
                                                      exact JE (by first | rfl | omega | (rw [hmf1, (by omega : w1 9 13 = cl (w (a + 1)) n x)]; exact (hE _ (by omega) (by omega)).symm)) hI)
                                                 · first
                                                   | exact absurd d_78 (by omega)
                                                   | (refine b_X4_next_82 (by first | omega | assumption) ?_
                                                      refine s_X4_number hM1 (by omega) (by omega) ?_
                                                      refine b_X4_next_91  ?_
                                                      refine b_X4_next_98  ?_
                                                      exact JE (by first | rfl | omega | (rw [hmf1, (by omega : w1 9 13 = cl (w (a + 1)) n x)]; exact (hE _ (by omega) (by omega)).symm)) hI))
                                            · first
                                              | exact absurd d_66 (by omega)
                                              | (refine b_X4_next_73  ?_
                                                 refine b_X4_next_98  ?_
                                                 exact JE (by first | rfl | omega | (rw [hmf1, (by omega : w1 9 13 = cl (w (a + 1)) n x)]; exact (hE _ (by omega) (by omega)).symm)) hI))
                                       · first
                                         | exact absurd d_56 (by omega)
                                         | (refine b_X4_next_61 (by first | omega | assumption) ?_
                                            exact JE (by rw [hwk]; exact (wtn_congr hn0 hE).symm) hI))
                                  · first
                                    | exact absurd d_32 (by omega)
                                    | (refine b_X4_next_47  ?_
                                       exact JE (by rfl) hI))
                             · first
                               | exact absurd d_26 (by omega)
                               | (refine b_X4_next_29  ?_
                                  exact JE (by first | rfl | omega) hI))))))

theorem j_count {w : rW} {q : Int} (hI : Inv w) (hqr : R32 q) : WP M_X3_count 0 [vr 0, vi q] [] w (JQ M_X4_count [vr 9, vi q]) := by
  have ho0 : oc 0 = 3 := rfl
  have ho9 : oc 9 = 4 := rfl
  obtain ⟨⟨r1, r2, r3, r4, r5, r6, r7, r8, r9, r10, r11, r12⟩, ⟨a0, a1, n0, b0, n1, b1, g1, g2, g3, ⟨k1, k2, k3, k4⟩, ⟨l1, l2, l3, l4⟩⟩, ⟨o, s, t1, t2, t3, t4, t5, t6, t7, t8⟩, ⟨t, u1, u2, u3, u4, u5⟩⟩ := id hI
  have c0 : oc (w 0 0) = 1 := by rw [g1]; exact k1.1.2.1
  have c1 : oc (w 0 1) = 1 := by rw [g2]; exact l1.1.2.1
  have c2 : oc (w 0 2) = 0 := by rw [r1]; rfl
  have c3 : oc (w 0 3) = 2 := by rw [r2]; rfl
  have e0 : w (w 0 0) 1 = n0 := by rw [g1]; exact k1.1.2.2.2.2.1
  have e1 : w (w 0 1) 1 = n1 := by rw [g2]; exact l1.1.2.2.2.2.1
  have e2 : w (w 0 2) 2 = s := by rw [r1]; exact t2
  have e3 : w (w 0 3) 1 = t := by rw [r2]; exact u1
  have f0 : 0 ≤ n0 ∧ n0 ≤ 40 := ⟨k2.2.2.2.2.1, k2.2.2.2.2.2.1⟩
  have f1 : 0 ≤ n1 ∧ n1 ≤ 40 := ⟨l2.2.2.2.2.1, l2.2.2.2.2.2.1⟩
  have d0 := szf_bd f0 (show 1 ≤ b0 ∧ b0 ≤ 4096 from ⟨by have h9 := k1.2.2.1; omega, k1.2.2.2⟩)
  have d1 := szf_bd f1 (show 1 ≤ b1 ∧ b1 ≤ 4096 from ⟨by have h9 := l1.2.2.1; omega, l1.2.2.2⟩)
  refine b_X3_count_0 (by first | omega | assumption) (fun c_0 => ?_) (fun c_0 => ?_) (fun c_0 => ?_) (fun c_0 => ?_) (fun c_0 => ?_)
  · first
    | exact absurd c_0 (by omega)
    | (refine b_X3_count_32 (by first | omega | assumption) (by first | omega | assumption) (by first | omega | assumption) ?_
       refine JQ.mk (by omega) ?_
       refine b_X4_count_0 (by first | omega | assumption) (fun d_0 => ?_) (fun d_0 => ?_) (fun d_0 => ?_) (fun d_0 => ?_) (fun d_0 => ?_)
       · first
         | exact absurd d_0 (by omega)
         | (refine b_X4_count_32 (by first | omega | assumption) ?_
            refine s_X4_many k2 ?_
            refine b_X4_count_37 (by first | omega | assumption) ?_
            refine s_X4_many l2 ?_
            refine b_X4_count_42  ?_
            exact JE (by first | rfl | omega | (rw [g1, g2, k1.1.2.2.2.2.1, l1.1.2.2.2.2.1]; done)) hI)
       · first
         | exact absurd d_0 (by omega)
         | (refine b_X4_count_44 (by first | omega | assumption) ?_
            refine s_X4_size k2 ?_
            refine b_X4_count_49 (by first | omega | assumption) ?_
            refine s_X4_size l2 ?_
            refine b_X4_count_54  ?_
            exact JE (by first | rfl | omega | (rw [g1, g2, k1.1.2.2.2.2.1, l1.1.2.2.2.2.1]; done)) hI)
       · first
         | exact absurd d_0 (by omega)
         | (refine b_X4_count_56 (by first | omega | assumption) ?_
            exact JE (by first | rfl | omega | (rw [g1, g2, k1.1.2.2.2.2.1, l1.1.2.2.2.2.1]; done)) hI)
       · first
         | exact absurd d_0 (by omega)
         | (refine b_X4_count_61 (by first | omega | assumption) ?_
            exact JE (by first | rfl | omega | (rw [g1, g2, k1.1.2.2.2.2.1, l1.1.2.2.2.2.1]; done)) hI)
       · first
         | exact absurd d_0 (by omega)
         | (refine b_X4_count_66  ?_
            exact JE (by first | rfl | omega | (rw [g1, g2, k1.1.2.2.2.2.1, l1.1.2.2.2.2.1]; done)) hI))
  · first
    | exact absurd c_0 (by omega)
    | (refine b_X3_count_48 (by first | omega | assumption) (by first | omega | assumption) ?_
       rw [g1]
       refine s_X1_bits k1 ?_
       refine b_X3_count_55 (by first | omega | assumption) (by first | omega | assumption) ?_
       rw [g2]
       refine s_X1_bits l1 ?_
       refine b_X3_count_62  ?_
       refine JQ.mk (by omega) ?_
       refine b_X4_count_0 (by first | omega | assumption) (fun d_0 => ?_) (fun d_0 => ?_) (fun d_0 => ?_) (fun d_0 => ?_) (fun d_0 => ?_)
       · first
         | exact absurd d_0 (by omega)
         | (refine b_X4_count_32 (by first | omega | assumption) ?_
            refine s_X4_many k2 ?_
            refine b_X4_count_37 (by first | omega | assumption) ?_
            refine s_X4_many l2 ?_
            refine b_X4_count_42  ?_
            exact JE (by first | rfl | omega | (rw [g1, g2, k1.1.2.2.2.2.1, l1.1.2.2.2.2.1]; done)) hI)
       · first
         | exact absurd d_0 (by omega)
         | (refine b_X4_count_44 (by first | omega | assumption) ?_
            refine s_X4_size k2 ?_
            refine b_X4_count_49 (by first | omega | assumption) ?_
            refine s_X4_size l2 ?_
            refine b_X4_count_54  ?_
            exact JE (by first | rfl | omega | (rw [g1, g2, k1.1.2.2.2.2.1, l1.1.2.2.2.2.1]; done)) hI)
       · first
         | exact absurd d_0 (by omega)
         | (refine b_X4_count_56 (by first | omega | assumption) ?_
            exact JE (by first | rfl | omega | (rw [g1, g2, k1.1.2.2.2.2.1, l1.1.2.2.2.2.1]; done)) hI)
       · first
         | exact absurd d_0 (by omega)
         | (refine b_X4_count_61 (by first | omega | assumption) ?_
            exact JE (by first | rfl | omega | (rw [g1, g2, k1.1.2.2.2.2.1, l1.1.2.2.2.2.1]; done)) hI)
       · first
         | exact absurd d_0 (by omega)
         | (refine b_X4_count_66  ?_
            exact JE (by first | rfl | omega | (rw [g1, g2, k1.1.2.2.2.2.1, l1.1.2.2.2.2.1]; done)) hI))
  · first
    | exact absurd c_0 (by omega)
    | (refine b_X3_count_64 (by first | omega | assumption) (by first | omega | assumption) ?_
       refine JQ.mk (by omega) ?_
       refine b_X4_count_0 (by first | omega | assumption) (fun d_0 => ?_) (fun d_0 => ?_) (fun d_0 => ?_) (fun d_0 => ?_) (fun d_0 => ?_)
       · first
         | exact absurd d_0 (by omega)
         | (refine b_X4_count_32 (by first | omega | assumption) ?_
            refine s_X4_many k2 ?_
            refine b_X4_count_37 (by first | omega | assumption) ?_
            refine s_X4_many l2 ?_
            refine b_X4_count_42  ?_
            exact JE (by first | rfl | omega | (rw [g1, g2, k1.1.2.2.2.2.1, l1.1.2.2.2.2.1]; done)) hI)
       · first
         | exact absurd d_0 (by omega)
         | (refine b_X4_count_44 (by first | omega | assumption) ?_
            refine s_X4_size k2 ?_
            refine b_X4_count_49 (by first | omega | assumption) ?_
            refine s_X4_size l2 ?_
            refine b_X4_count_54  ?_
            exact JE (by first | rfl | omega | (rw [g1, g2, k1.1.2.2.2.2.1, l1.1.2.2.2.2.1]; done)) hI)
       · first
         | exact absurd d_0 (by omega)
         | (refine b_X4_count_56 (by first | omega | assumption) ?_
            exact JE (by first | rfl | omega | (rw [g1, g2, k1.1.2.2.2.2.1, l1.1.2.2.2.2.1]; done)) hI)
       · first
         | exact absurd d_0 (by omega)
         | (refine b_X4_count_61 (by first | omega | assumption) ?_
            exact JE (by first | rfl | omega | (rw [g1, g2, k1.1.2.2.2.2.1, l1.1.2.2.2.2.1]; done)) hI)
       · first
         | exact absurd d_0 (by omega)
         | (refine b_X4_count_66  ?_
            exact JE (by first | rfl | omega | (rw [g1, g2, k1.1.2.2.2.2.1, l1.1.2.2.2.2.1]; done)) hI))
  · first
    | exact absurd c_0 (by omega)
    | (refine b_X3_count_72 (by first | omega | assumption) (by first | omega | assumption) ?_
       refine JQ.mk (by omega) ?_
       refine b_X4_count_0 (by first | omega | assumption) (fun d_0 => ?_) (fun d_0 => ?_) (fun d_0 => ?_) (fun d_0 => ?_) (fun d_0 => ?_)
       · first
         | exact absurd d_0 (by omega)
         | (refine b_X4_count_32 (by first | omega | assumption) ?_
            refine s_X4_many k2 ?_
            refine b_X4_count_37 (by first | omega | assumption) ?_
            refine s_X4_many l2 ?_
            refine b_X4_count_42  ?_
            exact JE (by first | rfl | omega | (rw [g1, g2, k1.1.2.2.2.2.1, l1.1.2.2.2.2.1]; done)) hI)
       · first
         | exact absurd d_0 (by omega)
         | (refine b_X4_count_44 (by first | omega | assumption) ?_
            refine s_X4_size k2 ?_
            refine b_X4_count_49 (by first | omega | assumption) ?_
            refine s_X4_size l2 ?_
            refine b_X4_count_54  ?_
            exact JE (by first | rfl | omega | (rw [g1, g2, k1.1.2.2.2.2.1, l1.1.2.2.2.2.1]; done)) hI)
       · first
         | exact absurd d_0 (by omega)
         | (refine b_X4_count_56 (by first | omega | assumption) ?_
            exact JE (by first | rfl | omega | (rw [g1, g2, k1.1.2.2.2.2.1, l1.1.2.2.2.2.1]; done)) hI)
       · first
         | exact absurd d_0 (by omega)
         | (refine b_X4_count_61 (by first | omega | assumption) ?_
            exact JE (by first | rfl | omega | (rw [g1, g2, k1.1.2.2.2.2.1, l1.1.2.2.2.2.1]; done)) hI)
       · first
         | exact absurd d_0 (by omega)
         | (refine b_X4_count_66  ?_
            exact JE (by first | rfl | omega | (rw [g1, g2, k1.1.2.2.2.2.1, l1.1.2.2.2.2.1]; done)) hI))
  · first
    | exact absurd c_0 (by omega)
    | (refine b_X3_count_80  ?_
       refine JQ.mk (by omega) ?_
       refine b_X4_count_0 (by first | omega | assumption) (fun d_0 => ?_) (fun d_0 => ?_) (fun d_0 => ?_) (fun d_0 => ?_) (fun d_0 => ?_)
       · first
         | exact absurd d_0 (by omega)
         | (refine b_X4_count_32 (by first | omega | assumption) ?_
            refine s_X4_many k2 ?_
            refine b_X4_count_37 (by first | omega | assumption) ?_
            refine s_X4_many l2 ?_
            refine b_X4_count_42  ?_
            exact JE (by first | rfl | omega | (rw [g1, g2, k1.1.2.2.2.2.1, l1.1.2.2.2.2.1]; done)) hI)
       · first
         | exact absurd d_0 (by omega)
         | (refine b_X4_count_44 (by first | omega | assumption) ?_
            refine s_X4_size k2 ?_
            refine b_X4_count_49 (by first | omega | assumption) ?_
            refine s_X4_size l2 ?_
            refine b_X4_count_54  ?_
            exact JE (by first | rfl | omega | (rw [g1, g2, k1.1.2.2.2.2.1, l1.1.2.2.2.2.1]; done)) hI)
       · first
         | exact absurd d_0 (by omega)
         | (refine b_X4_count_56 (by first | omega | assumption) ?_
            exact JE (by first | rfl | omega | (rw [g1, g2, k1.1.2.2.2.2.1, l1.1.2.2.2.2.1]; done)) hI)
       · first
         | exact absurd d_0 (by omega)
         | (refine b_X4_count_61 (by first | omega | assumption) ?_
            exact JE (by first | rfl | omega | (rw [g1, g2, k1.1.2.2.2.2.1, l1.1.2.2.2.2.1]; done)) hI)
       · first
         | exact absurd d_0 (by omega)
         | (refine b_X4_count_66  ?_
            exact JE (by first | rfl | omega | (rw [g1, g2, k1.1.2.2.2.2.1, l1.1.2.2.2.2.1]; done)) hI))

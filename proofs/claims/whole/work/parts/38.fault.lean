theorem SF.sd {w W : rW} (h : SF w W) : Sd w W := ⟨fun r k h1 _ h3 _ _ _ => h.1 r k h1 h3, fun k h1 h2 _ _ _ _ => h.2 k h1 h2⟩

theorem j_fault {w : rW} {q x : Int} (hI : Inv w) (hqr : R32 q) (hxr : R32 x) : WP M_X3_fault 0 [vr 0, vi q, vi x, vu] [] w (JQ M_X4_fault [vr 9, vi q, vi x, vu]) := by
  have ho0 : oc 0 = 3 := rfl
  have ho9 : oc 9 = 4 := rfl
  by_cases hq : q = 0 ∨ q = 1
  · clear ho0
    have ho0 : oc 0 = 3 := rfl
    obtain ⟨a, n, b, hra, hR, hM, hV, hE⟩ := hI.row hq
    obtain ⟨h, hb0, hb1, hb2⟩ := id hR
    obtain ⟨ha13, ho, ha1, h0, h1, hn0, hn4, hv⟩ := id h
    have hn : 0 ≤ n ∧ n ≤ 40 := ⟨hn0, hn4⟩
    have hb : 1 ≤ b ∧ b ≤ 4096 := ⟨by omega, hb2⟩
    have hwb := wd_bd hn.1 hb.2
    have hpw := p2_w hn.1 hb.2
    have hub := ub_bd hn hb
    have hzb := zf_bd hn.1 hb.1 hb.2
    have hsz := szf_bd hn hb
    have hun := unl_bd (f := w (a + 1)) hn0
    have hu9 : w 9 9 = 15 := hI.1.2.2.2.2.2.2.2.2.2.1
    have hu11 : w 9 11 = 16 := hI.1.2.2.2.2.2.2.2.2.2.2.1
    have ha0 : al (w 9 0) = 84 := by rw [hM.2.1]; rfl
    have hbm : w (w 9 0) (42 * q + 1) = b := by rw [hM.2.1]; exact hM.2.2.2.1
    obtain ⟨t, u1, u2, u3, u4, u5⟩ := hI.2.2.2
    have c2 : w 0 3 = 7 := hI.1.2.1
    have o3 : oc (w 0 3) = 2 := by rw [c2]; rfl
    have hTY : TY w t := ⟨u2, hI.1.2.2.2.2.2.2.2.1, hI.1.2.2.2.2.2.2.2.2.1, u3, u4, fun i z1 z2 => (u5 i z1 z2).2⟩
    have hTX : TX w t := ⟨u1, hI.1.2.2.2.1, u3, u4, fun i z1 z2 => by have y := u5 i z1 z2; omega⟩
    refine b_X3_fault_0  ?_
    refine s_X3_isRow (by omega) (fun r hr => ?_)
    refine b_X3_fault_4 (by first | omega | assumption) (fun c_4 => ?_) (fun c_4 => ?_)
    · first
      | exact absurd c_4 (by omega)
      | (refine b_X3_fault_16  ?_
         refine JQ.mk (by omega) ?_
         refine b_X4_fault_0  ?_
         refine s_X4_in (by omega) (by omega) (by omega) (fun r hr => ?_)
         refine b_X4_fault_6 (by first | omega | assumption) (fun d_6 => ?_) (fun d_6 => ?_)
         · first
           | exact absurd d_6 (by omega)
           | (refine b_X4_fault_18  ?_
              exact JE (by first | rfl | omega) hI)
         · first
           | exact absurd d_6 (by omega)
           | (refine b_X4_fault_9  ?_
              refine s_X4_in (by omega) (by omega) (by omega) (fun r hr => ?_)
              refine b_X4_fault_15 (by first | omega | assumption) (fun d_15 => ?_) (fun d_15 => ?_)
              · first
                | exact absurd d_15 (by omega)
                | (refine b_X4_fault_21 (by first | omega | assumption) (by first | omega | assumption) (by first | omega | assumption) ?_
                   refine s_X4_faulty hTY ⟨hb1, hb2⟩ hbm (fun W1 r v hSF hr hv hl => ?_)
                   have hr2 : r = p0 := by rw [hr, ← hp0]; exact (pF_congr (fun i z1 z2 => (u5 i z1 z2).1) _ 0 0 0 0 (by decide)).symm
                   clear hl hr
                   have hI1 := (SF.sd hSF).Inv hI
                   refine b_X4_fault_36 (by first | omega | assumption) (fun d_36 => ?_) (fun d_36 => ?_)
                   · first
                     | exact absurd d_36 (by omega)
                     | (refine b_X4_fault_47  ?_
                        refine b_X4_fault_55  ?_
                        exact JE (by first | rfl | omega) hI1)
                   · first
                     | exact absurd d_36 (by omega)
                     | (refine b_X4_fault_43 (by first | omega | assumption) (fun d_43 => ?_) (fun d_43 => ?_)
                        · first
                          | exact absurd d_43 (by omega)
                          | (refine b_X4_fault_51 (by first | omega | assumption) ?_
                             refine b_X4_fault_55  ?_
                             exact JE (by first | rfl | omega) hI1)
                        · first
                          | exact absurd d_43 (by omega)
                          | (refine b_X4_fault_47  ?_
                             refine b_X4_fault_55  ?_
                             exact JE (by first | rfl | omega) hI1)))
              · first
                | exact absurd d_15 (by omega)
                | (refine b_X4_fault_18  ?_
                   exact JE (by first | rfl | omega) hI)))
    · first
      | exact absurd c_4 (by omega)
      | (refine b_X3_fault_7  ?_
         refine s_X3_isWithin (by omega) (by omega) (by omega) (fun r hr => ?_)
         refine b_X3_fault_13 (by first | omega | assumption) (fun c_13 => ?_) (fun c_13 => ?_)
         · first
           | exact absurd c_13 (by omega)
           | (refine b_X3_fault_19 (by first | omega | assumption) ?_
              refine s_X3_rowAt hra ?_
              refine b_X3_fault_28 (by first | omega | assumption) (by first | omega | assumption) ?_
              rw [c2, hb0]
              refine s_X2_firstFault hTX ⟨hb1, hb2⟩ ?_
              have hpb := pF_bd (g := w 8) (t := t) (lim := b) (t + 1).toNat 0 0 0 0 (by decide) (by decide) (by omega)
              generalize hp0 : pF (w 8) t b (t + 1).toNat 0 0 0 0 = p0 at hpb ⊢
              refine b_X3_fault_34 (by first | omega | assumption) (fun c_34 => ?_) (fun c_34 => ?_)
              · first
                | exact absurd c_34 (by omega)
                | (refine b_X3_fault_43 (by first | omega | assumption) (fun c_43 => ?_) (fun c_43 => ?_)
                   · first
                     | exact absurd c_43 (by omega)
                     | (refine b_X3_fault_53 (by first | omega | assumption) (by first | omega | assumption) ?_
                        refine b_X3_fault_56  ?_
                        refine JQ.mk (by omega) ?_
                        refine b_X4_fault_0  ?_
                        refine s_X4_in (by omega) (by omega) (by omega) (fun r hr => ?_)
                        refine b_X4_fault_6 (by first | omega | assumption) (fun d_6 => ?_) (fun d_6 => ?_)
                        · first
                          | exact absurd d_6 (by omega)
                          | (refine b_X4_fault_18  ?_
                             exact JE (by first | rfl | omega) hI)
                        · first
                          | exact absurd d_6 (by omega)
                          | (refine b_X4_fault_9  ?_
                             refine s_X4_in (by omega) (by omega) (by omega) (fun r hr => ?_)
                             refine b_X4_fault_15 (by first | omega | assumption) (fun d_15 => ?_) (fun d_15 => ?_)
                             · first
                               | exact absurd d_15 (by omega)
                               | (refine b_X4_fault_21 (by first | omega | assumption) (by first | omega | assumption) (by first | omega | assumption) ?_
                                  refine s_X4_faulty hTY ⟨hb1, hb2⟩ hbm (fun W1 r v hSF hr hv hl => ?_)
                                  have hr2 : r = p0 := by rw [hr, ← hp0]; exact (pF_congr (fun i z1 z2 => (u5 i z1 z2).1) _ 0 0 0 0 (by decide)).symm
                                  clear hl hr
                                  have hI1 := (SF.sd hSF).Inv hI
                                  refine b_X4_fault_36 (by first | omega | assumption) (fun d_36 => ?_) (fun d_36 => ?_)
                                  · first
                                    | exact absurd d_36 (by omega)
                                    | (refine b_X4_fault_47  ?_
                                       refine b_X4_fault_55  ?_
                                       exact JE (by first | rfl | omega) hI1)
                                  · first
                                    | exact absurd d_36 (by omega)
                                    | (refine b_X4_fault_43 (by first | omega | assumption) (fun d_43 => ?_) (fun d_43 => ?_)
                                       · first
                                         | exact absurd d_43 (by omega)
                                         | (refine b_X4_fault_51 (by first | omega | assumption) ?_
                                            refine b_X4_fault_55  ?_
                                            exact JE (by first | rfl | omega) hI1)
                                       · first
                                         | exact absurd d_43 (by omega)
                                         | (refine b_X4_fault_47  ?_
                                            refine b_X4_fault_55  ?_
                                            exact JE (by first | rfl | omega) hI1)))
                             · first
                               | exact absurd d_15 (by omega)
                               | (refine b_X4_fault_18  ?_
                                  exact JE (by first | rfl | omega) hI)))
                   · first
                     | exact absurd c_43 (by omega)
                     | (refine b_X3_fault_47 (by first | omega | assumption) (by first | omega | assumption) ?_
                        refine b_X3_fault_56  ?_
                        refine JQ.mk (by omega) ?_
                        refine b_X4_fault_0  ?_
                        refine s_X4_in (by omega) (by omega) (by omega) (fun r hr => ?_)
                        refine b_X4_fault_6 (by first | omega | assumption) (fun d_6 => ?_) (fun d_6 => ?_)
                        · first
                          | exact absurd d_6 (by omega)
                          | (refine b_X4_fault_18  ?_
                             exact JE (by first | rfl | omega) hI)
                        · first
                          | exact absurd d_6 (by omega)
                          | (refine b_X4_fault_9  ?_
                             refine s_X4_in (by omega) (by omega) (by omega) (fun r hr => ?_)
                             refine b_X4_fault_15 (by first | omega | assumption) (fun d_15 => ?_) (fun d_15 => ?_)
                             · first
                               | exact absurd d_15 (by omega)
                               | (refine b_X4_fault_21 (by first | omega | assumption) (by first | omega | assumption) (by first | omega | assumption) ?_
                                  refine s_X4_faulty hTY ⟨hb1, hb2⟩ hbm (fun W1 r v hSF hr hv hl => ?_)
                                  have hr2 : r = p0 := by rw [hr, ← hp0]; exact (pF_congr (fun i z1 z2 => (u5 i z1 z2).1) _ 0 0 0 0 (by decide)).symm
                                  clear hl hr
                                  have hI1 := (SF.sd hSF).Inv hI
                                  refine b_X4_fault_36 (by first | omega | assumption) (fun d_36 => ?_) (fun d_36 => ?_)
                                  · first
                                    | exact absurd d_36 (by omega)
                                    | (refine b_X4_fault_47  ?_
                                       refine b_X4_fault_55  ?_
                                       exact JE (by first | rfl | omega) hI1)
                                  · first
                                    | exact absurd d_36 (by omega)
                                    | (refine b_X4_fault_43 (by first | omega | assumption) (fun d_43 => ?_) (fun d_43 => ?_)
                                       · first
                                         | exact absurd d_43 (by omega)
                                         | (refine b_X4_fault_51 (by first | omega | assumption) ?_
                                            refine b_X4_fault_55  ?_
                                            exact JE (by first | rfl | omega) hI1)
                                       · first
                                         | exact absurd d_43 (by omega)
                                         | (refine b_X4_fault_47  ?_
                                            refine b_X4_fault_55  ?_
                                            exact JE (by first | rfl | omega) hI1)))
                             · first
                               | exact absurd d_15 (by omega)
                               | (refine b_X4_fault_18  ?_
                                  exact JE (by first | rfl | omega) hI))))
              · first
                | exact absurd c_34 (by omega)
                | (refine b_X3_fault_40  ?_
                   refine JQ.mk (by omega) ?_
                   refine b_X4_fault_0  ?_
                   refine s_X4_in (by omega) (by omega) (by omega) (fun r hr => ?_)
                   refine b_X4_fault_6 (by first | omega | assumption) (fun d_6 => ?_) (fun d_6 => ?_)
                   · first
                     | exact absurd d_6 (by omega)
                     | (refine b_X4_fault_18  ?_
                        exact JE (by first | rfl | omega) hI)
                   · first
                     | exact absurd d_6 (by omega)
                     | (refine b_X4_fault_9  ?_
                        refine s_X4_in (by omega) (by omega) (by omega) (fun r hr => ?_)
                        refine b_X4_fault_15 (by first | omega | assumption) (fun d_15 => ?_) (fun d_15 => ?_)
                        · first
                          | exact absurd d_15 (by omega)
                          | (refine b_X4_fault_21 (by first | omega | assumption) (by first | omega | assumption) (by first | omega | assumption) ?_
                             refine s_X4_faulty hTY ⟨hb1, hb2⟩ hbm (fun W1 r v hSF hr hv hl => ?_)
                             have hr2 : r = p0 := by rw [hr, ← hp0]; exact (pF_congr (fun i z1 z2 => (u5 i z1 z2).1) _ 0 0 0 0 (by decide)).symm
                             clear hl hr
                             have hI1 := (SF.sd hSF).Inv hI
                             refine b_X4_fault_36 (by first | omega | assumption) (fun d_36 => ?_) (fun d_36 => ?_)
                             · first
                               | exact absurd d_36 (by omega)
                               | (refine b_X4_fault_47  ?_
                                  refine b_X4_fault_55  ?_
                                  exact JE (by first | rfl | omega) hI1)
                             · first
                               | exact absurd d_36 (by omega)
                               | (refine b_X4_fault_43 (by first | omega | assumption) (fun d_43 => ?_) (fun d_43 => ?_)
                                  · first
                                    | exact absurd d_43 (by omega)
                                    | (refine b_X4_fault_51 (by first | omega | assumption) ?_
                                       refine b_X4_fault_55  ?_
                                       exact JE (by first | rfl | omega) hI1)
                                  · first
                                    | exact absurd d_43 (by omega)
                                    | (refine b_X4_fault_47  ?_
                                       refine b_X4_fault_55  ?_
                                       exact JE (by first | rfl | omega) hI1)))
                        · first
                          | exact absurd d_15 (by omega)
                          | (refine b_X4_fault_18  ?_
                             exact JE (by first | rfl | omega) hI))))
         · first
           | exact absurd c_13 (by omega)
           | (refine b_X3_fault_16  ?_
              refine JQ.mk (by omega) ?_
              refine b_X4_fault_0  ?_
              refine s_X4_in (by omega) (by omega) (by omega) (fun r hr => ?_)
              refine b_X4_fault_6 (by first | omega | assumption) (fun d_6 => ?_) (fun d_6 => ?_)
              · first
                | exact absurd d_6 (by omega)
                | (refine b_X4_fault_18  ?_
                   exact JE (by first | rfl | omega) hI)
              · first
                | exact absurd d_6 (by omega)
                | (refine b_X4_fault_9  ?_
                   refine s_X4_in (by omega) (by omega) (by omega) (fun r hr => ?_)
                   refine b_X4_fault_15 (by first | omega | assumption) (fun d_15 => ?_) (fun d_15 => ?_)
                   · first
                     | exact absurd d_15 (by omega)
                     | (refine b_X4_fault_21 (by first | omega | assumption) (by first | omega | assumption) (by first | omega | assumption) ?_
                        refine s_X4_faulty hTY ⟨hb1, hb2⟩ hbm (fun W1 r v hSF hr hv hl => ?_)
                        have hr2 : r = p0 := by rw [hr, ← hp0]; exact (pF_congr (fun i z1 z2 => (u5 i z1 z2).1) _ 0 0 0 0 (by decide)).symm
                        clear hl hr
                        have hI1 := (SF.sd hSF).Inv hI
                        refine b_X4_fault_36 (by first | omega | assumption) (fun d_36 => ?_) (fun d_36 => ?_)
                        · first
                          | exact absurd d_36 (by omega)
                          | (refine b_X4_fault_47  ?_
                             refine b_X4_fault_55  ?_
                             exact JE (by first | rfl | omega) hI1)
                        · first
                          | exact absurd d_36 (by omega)
                          | (refine b_X4_fault_43 (by first | omega | assumption) (fun d_43 => ?_) (fun d_43 => ?_)
                             · first
                               | exact absurd d_43 (by omega)
                               | (refine b_X4_fault_51 (by first | omega | assumption) ?_
                                  refine b_X4_fault_55  ?_
                                  exact JE (by first | rfl | omega) hI1)
                             · first
                               | exact absurd d_43 (by omega)
                               | (refine b_X4_fault_47  ?_
                                  refine b_X4_fault_55  ?_
                                  exact JE (by first | rfl | omega) hI1)))
                   · first
                     | exact absurd d_15 (by omega)
                     | (refine b_X4_fault_18  ?_
                        exact JE (by first | rfl | omega) hI))))
  · have hq2 : q < 0 ∨ 1 < q := by omega
    refine b_X3_fault_0  ?_
    refine s_X3_isRow (by omega) (fun r hr => ?_)
    refine b_X3_fault_4 (by first | omega | assumption) (fun c_4 => ?_) (fun c_4 => ?_)
    · first
      | exact absurd c_4 (by omega)
      | (refine b_X3_fault_16  ?_
         refine JQ.mk (by omega) ?_
         refine b_X4_fault_0  ?_
         refine s_X4_in (by omega) (by omega) (by omega) (fun r hr => ?_)
         refine b_X4_fault_6 (by first | omega | assumption) (fun d_6 => ?_) (fun d_6 => ?_)
         · first
           | exact absurd d_6 (by omega)
           | (refine b_X4_fault_18  ?_
              exact JE (by first | rfl | omega) hI)
         · first
           | exact absurd d_6 (by omega)
           | (refine b_X4_fault_9  ?_
              refine s_X4_in (by omega) (by omega) (by omega) (fun r hr => ?_)
              refine b_X4_fault_15 (by first | omega | assumption) (fun d_15 => ?_) (fun d_15 => ?_)
              · first
                | exact absurd d_15 (by omega)
                | (refine b_X4_fault_21 (by first | omega | assumption) (by first | omega | assumption) (by first | omega | assumption) ?_
                   refine s_X4_faulty hTY ⟨hb1, hb2⟩ hbm (fun W1 r v hSF hr hv hl => ?_)
                   have hr2 : r = p0 := by rw [hr, ← hp0]; exact (pF_congr (fun i z1 z2 => (u5 i z1 z2).1) _ 0 0 0 0 (by decide)).symm
                   clear hl hr
                   have hI1 := (SF.sd hSF).Inv hI
                   refine b_X4_fault_36 (by first | omega | assumption) (fun d_36 => ?_) (fun d_36 => ?_)
                   · first
                     | exact absurd d_36 (by omega)
                     | (refine b_X4_fault_47  ?_
                        refine b_X4_fault_55  ?_
                        exact JE (by first | rfl | omega) hI)
                   · first
                     | exact absurd d_36 (by omega)
                     | (refine b_X4_fault_43 (by first | omega | assumption) (fun d_43 => ?_) (fun d_43 => ?_)
                        · first
                          | exact absurd d_43 (by omega)
                          | (refine b_X4_fault_51 (by first | omega | assumption) ?_
                             refine b_X4_fault_55  ?_
                             exact JE (by first | rfl | omega) hI)
                        · first
                          | exact absurd d_43 (by omega)
                          | (refine b_X4_fault_47  ?_
                             refine b_X4_fault_55  ?_
                             exact JE (by first | rfl | omega) hI)))
              · first
                | exact absurd d_15 (by omega)
                | (refine b_X4_fault_18  ?_
                   exact JE (by first | rfl | omega) hI)))
    · first
      | exact absurd c_4 (by omega)
      | (refine b_X3_fault_7  ?_
         refine s_X3_isWithin (by omega) (by omega) (by omega) (fun r hr => ?_)
         refine b_X3_fault_13 (by first | omega | assumption) (fun c_13 => ?_) (fun c_13 => ?_)
         · first
           | exact absurd c_13 (by omega)
           | (refine b_X3_fault_19 (by first | omega | assumption) ?_
              refine s_X3_rowAt hra ?_
              refine b_X3_fault_28 (by first | omega | assumption) (by first | omega | assumption) ?_
              rw [c2, hb0]
              refine s_X2_firstFault hTX ⟨hb1, hb2⟩ ?_
              have hpb := pF_bd (g := w 8) (t := t) (lim := b) (t + 1).toNat 0 0 0 0 (by decide) (by decide) (by omega)
              generalize hp0 : pF (w 8) t b (t + 1).toNat 0 0 0 0 = p0 at hpb ⊢
              refine b_X3_fault_34 (by first | omega | assumption) (fun c_34 => ?_) (fun c_34 => ?_)
              · first
                | exact absurd c_34 (by omega)
                | (refine b_X3_fault_43 (by first | omega | assumption) (fun c_43 => ?_) (fun c_43 => ?_)
                   · first
                     | exact absurd c_43 (by omega)
                     | (refine b_X3_fault_53 (by first | omega | assumption) (by first | omega | assumption) ?_
                        refine b_X3_fault_56  ?_
                        refine JQ.mk (by omega) ?_
                        refine b_X4_fault_0  ?_
                        refine s_X4_in (by omega) (by omega) (by omega) (fun r hr => ?_)
                        refine b_X4_fault_6 (by first | omega | assumption) (fun d_6 => ?_) (fun d_6 => ?_)
                        · first
                          | exact absurd d_6 (by omega)
                          | (refine b_X4_fault_18  ?_
                             exact JE (by first | rfl | omega) hI)
                        · first
                          | exact absurd d_6 (by omega)
                          | (refine b_X4_fault_9  ?_
                             refine s_X4_in (by omega) (by omega) (by omega) (fun r hr => ?_)
                             refine b_X4_fault_15 (by first | omega | assumption) (fun d_15 => ?_) (fun d_15 => ?_)
                             · first
                               | exact absurd d_15 (by omega)
                               | (refine b_X4_fault_21 (by first | omega | assumption) (by first | omega | assumption) (by first | omega | assumption) ?_
                                  refine s_X4_faulty hTY ⟨hb1, hb2⟩ hbm (fun W1 r v hSF hr hv hl => ?_)
                                  have hr2 : r = p0 := by rw [hr, ← hp0]; exact (pF_congr (fun i z1 z2 => (u5 i z1 z2).1) _ 0 0 0 0 (by decide)).symm
                                  clear hl hr
                                  have hI1 := (SF.sd hSF).Inv hI
                                  refine b_X4_fault_36 (by first | omega | assumption) (fun d_36 => ?_) (fun d_36 => ?_)
                                  · first
                                    | exact absurd d_36 (by omega)
                                    | (refine b_X4_fault_47  ?_
                                       refine b_X4_fault_55  ?_
                                       exact JE (by first | rfl | omega) hI)
                                  · first
                                    | exact absurd d_36 (by omega)
                                    | (refine b_X4_fault_43 (by first | omega | assumption) (fun d_43 => ?_) (fun d_43 => ?_)
                                       · first
                                         | exact absurd d_43 (by omega)
                                         | (refine b_X4_fault_51 (by first | omega | assumption) ?_
                                            refine b_X4_fault_55  ?_
                                            exact JE (by first | rfl | omega) hI)
                                       · first
                                         | exact absurd d_43 (by omega)
                                         | (refine b_X4_fault_47  ?_
                                            refine b_X4_fault_55  ?_
                                            exact JE (by first | rfl | omega) hI)))
                             · first
                               | exact absurd d_15 (by omega)
                               | (refine b_X4_fault_18  ?_
                                  exact JE (by first | rfl | omega) hI)))
                   · first
                     | exact absurd c_43 (by omega)
                     | (refine b_X3_fault_47 (by first | omega | assumption) (by first | omega | assumption) ?_
                        refine b_X3_fault_56  ?_
                        refine JQ.mk (by omega) ?_
                        refine b_X4_fault_0  ?_
                        refine s_X4_in (by omega) (by omega) (by omega) (fun r hr => ?_)
                        refine b_X4_fault_6 (by first | omega | assumption) (fun d_6 => ?_) (fun d_6 => ?_)
                        · first
                          | exact absurd d_6 (by omega)
                          | (refine b_X4_fault_18  ?_
                             exact JE (by first | rfl | omega) hI)
                        · first
                          | exact absurd d_6 (by omega)
                          | (refine b_X4_fault_9  ?_
                             refine s_X4_in (by omega) (by omega) (by omega) (fun r hr => ?_)
                             refine b_X4_fault_15 (by first | omega | assumption) (fun d_15 => ?_) (fun d_15 => ?_)
                             · first
                               | exact absurd d_15 (by omega)
                               | (refine b_X4_fault_21 (by first | omega | assumption) (by first | omega | assumption) (by first | omega | assumption) ?_
                                  refine s_X4_faulty hTY ⟨hb1, hb2⟩ hbm (fun W1 r v hSF hr hv hl => ?_)
                                  have hr2 : r = p0 := by rw [hr, ← hp0]; exact (pF_congr (fun i z1 z2 => (u5 i z1 z2).1) _ 0 0 0 0 (by decide)).symm
                                  clear hl hr
                                  have hI1 := (SF.sd hSF).Inv hI
                                  refine b_X4_fault_36 (by first | omega | assumption) (fun d_36 => ?_) (fun d_36 => ?_)
                                  · first
                                    | exact absurd d_36 (by omega)
                                    | (refine b_X4_fault_47  ?_
                                       refine b_X4_fault_55  ?_
                                       exact JE (by first | rfl | omega) hI)
                                  · first
                                    | exact absurd d_36 (by omega)
                                    | (refine b_X4_fault_43 (by first | omega | assumption) (fun d_43 => ?_) (fun d_43 => ?_)
                                       · first
                                         | exact absurd d_43 (by omega)
                                         | (refine b_X4_fault_51 (by first | omega | assumption) ?_
                                            refine b_X4_fault_55  ?_
                                            exact JE (by first | rfl | omega) hI)
                                       · first
                                         | exact absurd d_43 (by omega)
                                         | (refine b_X4_fault_47  ?_
                                            refine b_X4_fault_55  ?_
                                            exact JE (by first | rfl | omega) hI)))
                             · first
                               | exact absurd d_15 (by omega)
                               | (refine b_X4_fault_18  ?_
                                  exact JE (by first | rfl | omega) hI))))
              · first
                | exact absurd c_34 (by omega)
                | (refine b_X3_fault_40  ?_
                   refine JQ.mk (by omega) ?_
                   refine b_X4_fault_0  ?_
                   refine s_X4_in (by omega) (by omega) (by omega) (fun r hr => ?_)
                   refine b_X4_fault_6 (by first | omega | assumption) (fun d_6 => ?_) (fun d_6 => ?_)
                   · first
                     | exact absurd d_6 (by omega)
                     | (refine b_X4_fault_18  ?_
                        exact JE (by first | rfl | omega) hI)
                   · first
                     | exact absurd d_6 (by omega)
                     | (refine b_X4_fault_9  ?_
                        refine s_X4_in (by omega) (by omega) (by omega) (fun r hr => ?_)
                        refine b_X4_fault_15 (by first | omega | assumption) (fun d_15 => ?_) (fun d_15 => ?_)
                        · first
                          | exact absurd d_15 (by omega)
                          | (refine b_X4_fault_21 (by first | omega | assumption) (by first | omega | assumption) (by first | omega | assumption) ?_
                             refine s_X4_faulty hTY ⟨hb1, hb2⟩ hbm (fun W1 r v hSF hr hv hl => ?_)
                             have hr2 : r = p0 := by rw [hr, ← hp0]; exact (pF_congr (fun i z1 z2 => (u5 i z1 z2).1) _ 0 0 0 0 (by decide)).symm
                             clear hl hr
                             have hI1 := (SF.sd hSF).Inv hI
                             refine b_X4_fault_36 (by first | omega | assumption) (fun d_36 => ?_) (fun d_36 => ?_)
                             · first
                               | exact absurd d_36 (by omega)
                               | (refine b_X4_fault_47  ?_
                                  refine b_X4_fault_55  ?_
                                  exact JE (by first | rfl | omega) hI)
                             · first
                               | exact absurd d_36 (by omega)
                               | (refine b_X4_fault_43 (by first | omega | assumption) (fun d_43 => ?_) (fun d_43 => ?_)
                                  · first
                                    | exact absurd d_43 (by omega)
                                    | (refine b_X4_fault_51 (by first | omega | assumption) ?_
                                       refine b_X4_fault_55  ?_
                                       exact JE (by first | rfl | omega) hI)
                                  · first
                                    | exact absurd d_43 (by omega)
                                    | (refine b_X4_fault_47  ?_
                                       refine b_X4_fault_55  ?_
                                       exact JE (by first | rfl | omega) hI)))
                        · first
                          | exact absurd d_15 (by omega)
                          | (refine b_X4_fault_18  ?_
                             exact JE (by first | rfl | omega) hI))))
         · first
           | exact absurd c_13 (by omega)
           | (refine b_X3_fault_16  ?_
              refine JQ.mk (by omega) ?_
              refine b_X4_fault_0  ?_
              refine s_X4_in (by omega) (by omega) (by omega) (fun r hr => ?_)
              refine b_X4_fault_6 (by first | omega | assumption) (fun d_6 => ?_) (fun d_6 => ?_)
              · first
                | exact absurd d_6 (by omega)
                | (refine b_X4_fault_18  ?_
                   exact JE (by first | rfl | omega) hI)
              · first
                | exact absurd d_6 (by omega)
                | (refine b_X4_fault_9  ?_
                   refine s_X4_in (by omega) (by omega) (by omega) (fun r hr => ?_)
                   refine b_X4_fault_15 (by first | omega | assumption) (fun d_15 => ?_) (fun d_15 => ?_)
                   · first
                     | exact absurd d_15 (by omega)
                     | (refine b_X4_fault_21 (by first | omega | assumption) (by first | omega | assumption) (by first | omega | assumption) ?_
                        refine s_X4_faulty hTY ⟨hb1, hb2⟩ hbm (fun W1 r v hSF hr hv hl => ?_)
                        have hr2 : r = p0 := by rw [hr, ← hp0]; exact (pF_congr (fun i z1 z2 => (u5 i z1 z2).1) _ 0 0 0 0 (by decide)).symm
                        clear hl hr
                        have hI1 := (SF.sd hSF).Inv hI
                        refine b_X4_fault_36 (by first | omega | assumption) (fun d_36 => ?_) (fun d_36 => ?_)
                        · first
                          | exact absurd d_36 (by omega)
                          | (refine b_X4_fault_47  ?_
                             refine b_X4_fault_55  ?_
                             exact JE (by first | rfl | omega) hI)
                        · first
                          | exact absurd d_36 (by omega)
                          | (refine b_X4_fault_43 (by first | omega | assumption) (fun d_43 => ?_) (fun d_43 => ?_)
                             · first
                               | exact absurd d_43 (by omega)
                               | (refine b_X4_fault_51 (by first | omega | assumption) ?_
                                  refine b_X4_fault_55  ?_
                                  exact JE (by first | rfl | omega) hI)
                             · first
                               | exact absurd d_43 (by omega)
                               | (refine b_X4_fault_47  ?_
                                  refine b_X4_fault_55  ?_
                                  exact JE (by first | rfl | omega) hI)))
                   · first
                     | exact absurd d_15 (by omega)
                     | (refine b_X4_fault_18  ?_
                        exact JE (by first | rfl | omega) hI))))

theorem l_X2_fill {Q : List rV → rW → Prop} {w0 : rW} {a t lim : Int} (hT : TX w0 t) (hRa : Ra w0 a) (hl : 2 ≤ lim ∧ lim ≤ 4096) : ∀ (f : Nat) (be st v p m : Int) (W : rW), (t + 1 - p).toNat = f → 0 ≤ st → st ≤ p → p ≤ t + 1 → dgs st p v → 0 ≤ be → be < 4096 → 0 ≤ m → 2 * m ≤ st → pF (w0 8) t lim f be st v p = -1 → (∀ r k, r ≠ a → r ≠ a + 1 → W r k = w0 r k) → (∀ k, k ≠ 1 → W a k = w0 a k) → W a 1 = m → (∀ i, 0 ≤ i → i < m → 0 ≤ W (a + 1) i ∧ W (a + 1) i ≤ be) → (∀ W', (∀ r k, r ≠ a → r ≠ a + 1 → W' r k = w0 r k) → (∀ k, k ≠ 1 → W' a k = w0 a k) → W' a 1 = m + (nb (w0 8) t f v p).length → (∀ i, 0 ≤ i → i < m → W' (a + 1) i = W (a + 1) i) → (∀ i : Nat, i < (nb (w0 8) t f v p).length → W' (a + 1) (m + i) = (nb (w0 8) t f v p).getD i 0) → Q [] W') → WP M_X2_fill 9 [vr 7, vr a, vi v, vi p] [] W Q := by
  have ho : oc 7 = 2 := rfl
  obtain ⟨a13, ao, aal, a0⟩ := id hRa
  intro f
  induction f with
  | zero =>
    intro be st v p m W hf hs hsp hp hd hb0 hb1 hm0 hm1 hpF hF hA h1 hv hQ
    have t71 : W 7 1 = t := (hF 7 1 (by omega) (by omega)).trans hT.1
    have t1 := hT.2.2.2.1
    have t0 := hT.2.2.1
    refine b_X2_fill_9 ho (by omega) (by omega) (fun g => ?_) (fun g => absurd g (by omega))
    exact b_X2_fill_56 (hQ W hF hA (by rw [h1]; show m = m + ((0 : Nat) : Int); omega) (fun _ _ _ => rfl) (fun i hi => absurd hi (Nat.not_lt_zero _)))
  | succ f ih =>
    intro be st v p m W hf hs hsp hp hd hb0 hb1 hm0 hm1 hpF hF hA h1 hv hQ
    have e7 : W 7 = w0 7 := funext fun k => hF 7 k (by omega) (by omega)
    have e8 : W 8 = w0 8 := funext fun k => hF 8 k (by omega) (by omega)
    have hTW : TX W t := by unfold TX; rw [e7, e8]; exact hT
    have t71 := hTW.1
    have t1 := hT.2.2.2.1
    have t0 := hT.2.2.1
    have hc := chr0_r hT (show 0 ≤ p by omega)
    have hc0 : t ≤ p → chr0 (w0 8) t p = 0 := fun z => by unfold chr0; rw [if_neg (by omega)]
    have hR : R0 W a m := ⟨a13, ao, aal, (hA 0 (by decide)).trans a0, h1, hm0, by omega, fun i z1 z2 => by have y := hv i z1 z2; omega⟩
    have hdb := dgs_b hd
    refine b_X2_fill_9 ho (by omega) (by omega) (fun g => absurd g (by omega)) (fun g => ?_)
    refine b_X2_fill_17 ho ?_
    refine s_X2_endsNumber hTW (by omega) (fun r hr => ?_)
    rw [e8] at hr
    refine b_X2_fill_22 (by omega) (fun g1 => ?_) (fun g1 => ?_)
    · have hne : ¬ (t ≤ p ∨ chr0 (w0 8) t p = 44) := by omega
      by_cases cd : 48 ≤ chr0 (w0 8) t p ∧ chr0 (w0 8) t p ≤ 57
      · by_cases fu : p - st = 4 ∨ (p - st = 1 ∧ v = 0)
        · have y := (pF_bad (lim := lim) (be := be) (f := f) (Or.inl ⟨cd, fu⟩)).symm.trans hpF
          omega
        · have P := pF_dig (lim := lim) (be := be) (f := f) cd fu
          have N := nb_dig (f := f) (v := v) hne
          rw [P] at hpF
          rw [N] at hQ
          refine b_X2_fill_36 ho ?_
          refine s_X2_characterAt hTW (by omega) ?_
          rw [e8]
          refine b_X2_fill_45 (b_X2_fill_50 ?_)
          exact ih be st _ (p + 1) m W (by omega) hs (by omega) (by omega) (dgs_s hd cd fu) hb0 hb1 hm0 hm1 hpF hF hA h1 hv hQ
      · have y := (pF_bad (st := st) (v := v) (lim := lim) (be := be) (f := f) (Or.inr ⟨cd, Or.inr hne⟩)).symm.trans hpF
        omega
    · have hen : t ≤ p ∨ chr0 (w0 8) t p = 44 := by omega
      have cd : ¬ (48 ≤ chr0 (w0 8) t p ∧ chr0 (w0 8) t p ≤ 57) := by omega
      by_cases hst : p = st
      · have y := (pF_bad (st := st) (v := v) (lim := lim) (be := be) (f := f) (Or.inr ⟨cd, Or.inl hst⟩)).symm.trans hpF
        omega
      have P := pF_end (lim := lim) (be := be) (v := v) (st := st) (f := f) cd (by omega)
      have N := nb_end (f := f) (v := v) hen
      rw [P] at hpF
      have vb : be ≤ v := by
        by_cases y : v < be
        · rw [if_pos y] at hpF; omega
        · omega
      rw [if_neg (by omega)] at hpF
      have vl : v < lim := by
        by_cases y : lim ≤ v
        · rw [if_pos y] at hpF; omega
        · omega
      rw [if_neg (by omega)] at hpF
      have hp2 : pF (w0 8) t lim f v (p + 1) 0 (p + 1) = -1 := by
        by_cases y : t ≤ p
        · obtain rfl : f = 0 := by omega
          rfl
        · rw [if_neg y] at hpF; exact hpF
      have hcl : cl (W (a + 1)) m (v + 1) = m := cl_is hm0 (Int.le_refl _) (fun j z1 z2 => by have y := hv j z1 z2; omega) (fun z => absurd z (Int.lt_irrefl _))
      refine b_X2_fill_25 ao ?_
      refine s_X1_insert hR (by omega) (by omega) (fun w1 g1 g2 g3 g4 g5 g6 => ?_)
      rw [hcl] at g4 g5
      refine b_X2_fill_30 (b_X2_fill_50 ?_)
      refine ih v (p + 1) 0 (p + 1) (m + 1) w1 (by omega) (by omega) (Int.le_refl _) (by omega) (Or.inl ⟨rfl, rfl⟩) (by omega) (by omega) (by omega) (by omega) hp2 (fun r k z1 z2 => (g1 r k z1 z2).trans (hF r k z1 z2)) (fun k z => (g2 k z).trans (hA k z)) g3 (fun i z1 z2 => ?_) (fun W' k1 k2 k3 k4 k5 => hQ W' k1 k2 (by rw [k3, N, List.length_cons]; omega) (fun i i0 i1 => (k4 i i0 (by omega)).trans (g4 i i0 i1)) (fun i hi => ?_))
      · by_cases y : i = m
        · rw [y, g5]; omega
        · rw [g4 i z1 (by omega)]
          have x := hv i z1 (by omega)
          omega
      · rw [N]
        rw [N, List.length_cons] at hi
        cases i with
        | zero =>
          have x := k4 m hm0 (by omega)
          rw [g5] at x
          show W' (a + 1) (m + ((0 : Nat) : Int)) = v
          rw [show m + ((0 : Nat) : Int) = m by omega]
          exact x
        | succ i =>
          have x := k5 i (by omega)
          show W' (a + 1) (m + ((i + 1 : Nat) : Int)) = (nb (w0 8) t f 0 (p + 1)).getD i 0
          rw [show m + ((i + 1 : Nat) : Int) = m + 1 + (i : Int) by omega]
          exact x
theorem s_X2_fill {Q : List rV → rW → Prop} {w0 : rW} {a t lim : Int} (hT : TX w0 t) (hRa : Ra w0 a) (hl : 2 ≤ lim ∧ lim ≤ 4096) (hp : pF (w0 8) t lim (t + 1).toNat 0 0 0 0 = -1) (hQ : ∀ W' : rW, (∀ r k, r ≠ a → r ≠ a + 1 → W' r k = w0 r k) → (∀ k, k ≠ 1 → W' a k = w0 a k) → W' a 1 = ((nb (w0 8) t (t + 1).toNat 0 0).length : Int) → (∀ i : Nat, i < (nb (w0 8) t (t + 1).toNat 0 0).length → W' (a + 1) i = (nb (w0 8) t (t + 1).toNat 0 0).getD i 0) → Q [] W') : WP M_X2_fill 0 [vr 7, vr a, vu, vu] [] w0 Q := by
  have t0 := hT.2.2.1
  refine b_X2_fill_0 hRa.2.1 ?_
  refine l_X2_fill hT hRa hl _ 0 0 0 0 0 _ (by rw [Int.sub_zero]) (by decide) (by decide) (by omega) (Or.inl ⟨rfl, rfl⟩) (by decide) (by decide) (by decide) (by decide) hp (fun r k z1 z2 => ws_nr z1) (fun k z => ws_nk z) (ws_eq _ _ _ _) (fun i z1 z2 => by omega) (fun W' k1 k2 k3 k4 k5 => hQ W' k1 k2 (by rw [k3]; omega) (fun i hi => ?_))
  have x := k5 i hi
  rw [Int.zero_add] at x
  exact x
theorem nb_ok {g : Int → Int} {t lim : Int} : ∀ (f : Nat) (be st v p : Int), (t + 1 - p).toNat = f → 0 ≤ st → st ≤ p → p ≤ t + 1 → pF g t lim f be st v p = -1 → st + 2 * ((nb g t f v p).length : Int) ≤ t + 2 ∧ (∀ i : Nat, i < (nb g t f v p).length → be ≤ (nb g t f v p).getD i 0 ∧ (nb g t f v p).getD i 0 < lim) ∧ ∀ i j : Nat, i ≤ j → j < (nb g t f v p).length → (nb g t f v p).getD i 0 ≤ (nb g t f v p).getD j 0
  | 0, be, st, v, p, hf, hs, hsp, hp, hpF => ⟨by show st + 2 * ((0 : Nat) : Int) ≤ t + 2; omega, fun i hi => absurd hi (Nat.not_lt_zero _), fun i j _ hi => absurd hi (Nat.not_lt_zero _)⟩
  | f + 1, be, st, v, p, hf, hs, hsp, hp, hpF => by
    have hc0 : t ≤ p → chr0 g t p = 0 := fun z => by unfold chr0; rw [if_neg (by omega)]
    by_cases hen : t ≤ p ∨ chr0 g t p = 44
    · have cd : ¬ (48 ≤ chr0 g t p ∧ chr0 g t p ≤ 57) := by omega
      by_cases hst : p = st
      · have y := (pF_bad (st := st) (v := v) (lim := lim) (be := be) (f := f) (Or.inr ⟨cd, Or.inl hst⟩)).symm.trans hpF
        omega
      have P := pF_end (lim := lim) (be := be) (v := v) (st := st) (f := f) cd (by omega)
      have N := nb_end (f := f) (v := v) hen
      rw [P] at hpF
      have vb : be ≤ v := by
        by_cases y : v < be
        · rw [if_pos y] at hpF; omega
        · omega
      rw [if_neg (by omega)] at hpF
      have vl : v < lim := by
        by_cases y : lim ≤ v
        · rw [if_pos y] at hpF; omega
        · omega
      rw [if_neg (by omega)] at hpF
      have hp2 : pF g t lim f v (p + 1) 0 (p + 1) = -1 := by
        by_cases y : t ≤ p
        · obtain rfl : f = 0 := by omega
          rfl
        · rw [if_neg y] at hpF; exact hpF
      obtain ⟨k1, k2, k3⟩ := nb_ok f v (p + 1) 0 (p + 1) (by omega) (by omega) (Int.le_refl _) (by omega) hp2
      rw [N]
      refine ⟨by rw [List.length_cons]; omega, fun i hi => ?_, fun i j hij hj => ?_⟩
      · rw [List.length_cons] at hi
        cases i with
        | zero => exact ⟨vb, vl⟩
        | succ i =>
          have x := k2 i (by omega)
          show be ≤ (nb g t f 0 (p + 1)).getD i 0 ∧ (nb g t f 0 (p + 1)).getD i 0 < lim
          omega
      · rw [List.length_cons] at hj
        cases j with
        | zero =>
          obtain rfl : i = 0 := by omega
          exact Int.le_refl _
        | succ j =>
          cases i with
          | zero => exact (k2 j (by omega)).1
          | succ i => exact k3 i j (by omega) (by omega)
    · by_cases cd : 48 ≤ chr0 g t p ∧ chr0 g t p ≤ 57
      · by_cases fu : p - st = 4 ∨ (p - st = 1 ∧ v = 0)
        · have y := (pF_bad (lim := lim) (be := be) (f := f) (Or.inl ⟨cd, fu⟩)).symm.trans hpF
          omega
        · rw [pF_dig cd fu] at hpF
          rw [nb_dig hen]
          exact nb_ok f be st _ (p + 1) (by omega) hs (by omega) (by omega) hpF
      · have y := (pF_bad (st := st) (v := v) (lim := lim) (be := be) (f := f) (Or.inr ⟨cd, Or.inr hen⟩)).symm.trans hpF
        omega

theorem CV.txt {w w1 : rW} {a0 a1 o s t t1 : Int} {RS : Int → Int → Int} {HS : Int → Int → Int → Int} {TS TS1 : Int → Int} (h : CV w a0 a1 RS HS o s t TS) (hF : ∀ r k, r ≠ 7 → r ≠ 8 → w1 r k = w r k) (h0 : w1 7 0 = 8) (h1 : w1 7 1 = t1) (h2 : ∀ i, 0 ≤ i → i < t1 → w1 8 i = TS1 i) : CV w1 a0 a1 RS HS o s t1 TS1 := by
  obtain ⟨⟨c1, c2, c3⟩, c4, c5, c6, c7, c8, c9, c10, c11⟩ := h
  have e : ∀ r, r ≠ 7 → r ≠ 8 → w1 r = w r := fun r y z => funext fun k => hF r k y z
  have ea := c7.1.1.1
  have eb := c8.1.1.1
  have e0 := e 0 (by decide) (by decide)
  exact ⟨⟨by rw [e0]; exact c1, by rw [e0]; exact c2, h0⟩, by rw [e0]; exact c4, by rw [e0]; exact c5, c6, c7.mv (e _ (by omega) (by omega)) (e _ (by omega) (by omega)), c8.mv (e _ (by omega) (by omega)) (e _ (by omega) (by omega)), c9.mv (e 5 (by decide) (by decide)) (e 6 (by decide) (by decide)), h1, h2⟩
theorem MV.txt {w w1 : rW} {s t t1 : Int} {RS : Int → Int → Int} {HS : Int → Int → Int → Int} {TS TS1 : Int → Int} (h : MV w RS HS s t TS) (hF : ∀ r k, r ≠ 13 → ¬ (r = 9 ∧ k = 5) → w1 r k = w r k) (h1 : w1 9 5 = t1) (h2 : ∀ i, 0 ≤ i → i < t1 → w1 13 i = TS1 i) : MV w1 RS HS s t1 TS1 := by
  obtain ⟨⟨m1, m2, m3, m4, m5, m6, m7, m8⟩, k1, ⟨h01, h02, h03, h04⟩, k3, k4⟩ := h
  have e9 : ∀ k, k ≠ 5 → w1 9 k = w 9 k := fun k z => hF 9 k (by decide) (fun y => z y.2)
  have e10 : w1 10 = w 10 := funext fun k => hF 10 k (by decide) (fun y => absurd y.1 (by decide))
  have e11 : w1 11 = w 11 := funext fun k => hF 11 k (by decide) (fun y => absurd y.1 (by decide))
  refine ⟨?_, by rw [e10]; exact k1, ⟨by rw [e9 3 (by decide)]; exact h01, h02, h03, by rw [e11]; exact h04⟩, h1, h2⟩
  unfold Mr
  rw [e9 0 (by decide), e9 1 (by decide), e9 2 (by decide), e9 4 (by decide), e9 7 (by decide), e9 9 (by decide), e9 11 (by decide), e9 15 (by decide)]
  exact ⟨m1, m2, m3, m4, m5, m6, m7, m8⟩
theorem s_X2_append {Q : List rV → rW → Prop} {w : rW} {t x : Int} (h0 : w 7 0 = 8) (h1 : w 7 1 = t) (ht : 0 ≤ t ∧ t < 60) (hQ : Q [] (wset (wset w 8 t x) 7 1 (t + 1))) : WP M_X2_append 0 [vr 7, vi x] [] w Q := by
  have ho : oc 7 = 2 := rfl
  have ha : al (w 7 0) = 60 := by rw [h0]; rfl
  refine b_X2_append_0 ho (by omega) (fun g => absurd g (by omega)) (fun _ => ?_)
  refine b_X2_append_7 ho (by omega) (by omega) (by omega) (fun g => absurd g (by omega)) (fun _ => ?_)
  refine b_X2_append_19 ho (by omega) (by omega) ?_
  rw [h0, h1]
  rw [show wset w 8 t x 7 1 = t from (ws_nr (by decide)).trans h1]
  exact b_X2_append_39 hQ

theorem j_clearText {w : rW} (hI : Inv w)  : WP M_X3_clearText 0 [vr 0, vu] [] w (JQ M_X4_clearText [vr 9, vu]) := by
  have ho0 : oc 0 = 3 := rfl
  have ho9 : oc 9 = 4 := rfl
  · skip
    obtain ⟨a0, a1, o, s, t, RS, HS, TS, hC, hMV, hVS⟩ := hI.to
    have hC4 := hC.2.1
    have hC5 := hC.2.2.1
    have hs4 : 0 ≤ s ∧ s ≤ 4 := ⟨hMV.2.2.1.2.1, hMV.2.2.1.2.2.1⟩
    obtain ⟨⟨c1, c2, c3⟩, -, -, -, -, -, -, c10, c11⟩ := id hC
    obtain ⟨m1, -, -, m5, m6⟩ := id hMV
    have ht := hVS.2.2.1
    have o3 : oc (w 0 3) = 2 := by rw [c2]; rfl
    have t3 : w (w 0 3) 1 = t := by rw [c2]; exact c10
    refine b_X3_clearText_0 (by first | omega | assumption) (by first | omega | assumption) ?_
    have hFC : FC w (wset w (w 0 3) 1 0) := FC.rf.set (by omega)
    rw [t3]
    rw [c2] at hFC ⊢
    have hMV1 := hMV.mv hFC
    have hC2 : CV (wset w 7 1 0) a0 a1 RS HS o s 0 TS := hC.txt (fun r k z1 z2 => ws_nr z1) (by rw [ws_nk (by decide)]; exact c3) (ws_eq _ _ _ _) (fun i z1 z2 => by omega)
    have e95 : wset w 7 1 0 9 5 = t := hMV1.2.2.2.1
    refine JQ.mk (by omega) ?_
    refine b_X4_clearText_0 (by first | omega | assumption) ?_
    have hM2 : MV (wset (wset w 7 1 0) 9 5 0) RS HS s 0 TS := hMV1.txt (fun r k z1 z2 => by
      by_cases z : r = 9
      · rw [z, ws_nk (fun y => z2 ⟨z, y⟩)]
      · rw [ws_nr z]) (ws_eq _ _ _ _) (fun i z1 z2 => by omega)
    exact JE e95 (Inv.mk (hC2.mv (fun r k z => ws_nr (by omega))) hM2 ⟨hVS.1, hVS.2.1, by omega, fun i z1 z2 => by omega⟩)

theorem j_type {w : rW} {q : Int} (hI : Inv w) (hqr : R32 q) : WP M_X3_type 0 [vr 0, vi q] [] w (JQ M_X4_type [vr 9, vi q]) := by
  have ho0 : oc 0 = 3 := rfl
  have ho9 : oc 9 = 4 := rfl
  · skip
    obtain ⟨a0, a1, o, s, t, RS, HS, TS, hC, hMV, hVS⟩ := hI.to
    have hC4 := hC.2.1
    have hC5 := hC.2.2.1
    have hs4 : 0 ≤ s ∧ s ≤ 4 := ⟨hMV.2.2.1.2.1, hMV.2.2.1.2.2.1⟩
    obtain ⟨⟨c1, c2, c3⟩, -, -, -, -, -, -, c10, c11⟩ := id hC
    obtain ⟨m1, -, -, m5, m6⟩ := id hMV
    have ht := hVS.2.2.1
    have o3 : oc (w 0 3) = 2 := by rw [c2]; rfl
    have t3 : w (w 0 3) 1 = t := by rw [c2]; exact c10
    refine b_X3_type_0  ?_
    refine s_X3_isWithin (by omega) (by omega) (by omega) (fun r hr => ?_)
    refine b_X3_type_8 (by first | omega | assumption) (fun c_8 => ?_) (fun c_8 => ?_)
    · first
      | exact absurd c_8 (by omega)
      | (refine b_X3_type_14 (by first | omega | assumption) (by first | omega | assumption) (by first | omega | assumption) (fun c_14 => ?_) (fun c_14 => ?_)
         · first
           | exact absurd c_14 (by omega)
           | (refine b_X3_type_29 (by first | omega | assumption) (by first | omega | assumption) ?_
              rw [c2]
              refine s_X2_append c3 c10 (by omega) ?_
              have o3b : oc (wset (wset w 8 t q) 7 1 (t + 1) 0 3) = 2 := by rw [show wset (wset w 8 t q) 7 1 (t + 1) 0 3 = 7 from by rw [ws_nr (by decide), ws_nr (by decide)]; exact c2]; rfl
              refine b_X3_type_37 (by first | omega | assumption) (by first | omega | assumption) ?_
              have hC2 : CV (wset (wset w 8 t q) 7 1 (t + 1)) a0 a1 RS HS o s (t + 1) (fun i => if i = t then q else TS i) := hC.txt (fun r k z1 z2 => by rw [ws_nr z1, ws_nr z2]) (by rw [ws_nk (by decide), ws_nr (by decide)]; exact c3) (ws_eq _ _ _ _) (fun i z1 z2 => by
                rw [ws_nr (by decide)]
                try dsimp only
                by_cases z : i = t
                · rw [if_pos z, z, ws_eq]
                · rw [if_neg z, ws_nk z]; exact c11 i z1 (by omega))
              rw [show wset (wset w 8 t q) 7 1 (t + 1) 0 3 = 7 from by rw [ws_nr (by decide), ws_nr (by decide)]; exact c2, ws_eq]
              have hFC : FC w (wset (wset w 8 t q) 7 1 (t + 1)) := (FC.rf.set (by decide)).set (by decide)
              have hMV1 := hMV.mv hFC
              have e95 : wset (wset w 8 t q) 7 1 (t + 1) 9 5 = t := hMV1.2.2.2.1
              have e94 : wset (wset w 8 t q) 7 1 (t + 1) 9 4 = 13 := hMV1.1.2.2.2.1
              refine JQ.mk (by omega) ?_
              refine b_X4_type_0  ?_
              refine s_X4_in (by omega) (by omega) (by omega) (fun r hr => ?_)
              refine b_X4_type_8 (by first | omega | assumption) (fun d_8 => ?_) (fun d_8 => ?_)
              · first
                | exact absurd d_8 (by omega)
                | (refine b_X4_type_14 (by first | omega | assumption) (by first | omega | assumption) (fun d_14 => ?_) (fun d_14 => ?_)
                   · first
                     | exact absurd d_14 (by omega)
                     | (refine b_X4_type_26 (by first | omega | assumption) (by first | omega | assumption) (by first | omega | assumption) (by first | omega | assumption) (by first | omega | assumption) (by first | omega | assumption) ?_
                        rw [e95]
                        rw [show ∀ W : rW, wset (wset W 13 t q) 9 5 (wset W 13 t q 9 5 + 1) 9 5 = W 9 5 + 1 from fun W => by rw [ws_eq, ws_nr (by decide)], e95]
                        have hM2 : MV (wset (wset (wset (wset w 8 t q) 7 1 (t + 1)) 13 t q) 9 5 (wset (wset (wset w 8 t q) 7 1 (t + 1)) 13 t q 9 5 + 1)) RS HS s (t + 1) (fun i => if i = t then q else TS i) := hMV1.txt (fun r k z1 z2 => by
                          by_cases z : r = 9
                          · rw [z, ws_nk (fun y => z2 ⟨z, y⟩), ws_nr (by decide)]
                          · rw [ws_nr z, ws_nr z1]) (by rw [ws_eq, ws_nr (by decide), e95]) (fun i z1 z2 => by
                          rw [ws_nr (by decide)]
                          try dsimp only
                          by_cases z : i = t
                          · rw [if_pos z, z, ws_eq]
                          · rw [if_neg z, ws_nk z]; exact hMV1.2.2.2.2 i z1 (by omega))
                        exact JE rfl (Inv.mk (hC2.mv (fun r k z => by rw [ws_nr (by omega), ws_nr (by omega)])) hM2 ⟨hVS.1, hVS.2.1, by omega, fun i z1 z2 => by
                          try dsimp only
                          by_cases z : i = t
                          · rw [if_pos z]; omega
                          · rw [if_neg z]; exact hVS.2.2.2 i z1 (by omega)⟩))
                   · first
                     | exact absurd d_14 (by omega)
                     | (refine b_X4_type_23  ?_
                        exfalso
                        omega))
              · first
                | exact absurd d_8 (by omega)
                | (refine b_X4_type_11  ?_
                   exfalso
                   omega))
         · first
           | exact absurd c_14 (by omega)
           | (refine b_X3_type_26  ?_
              refine JQ.mk (by omega) ?_
              refine b_X4_type_0  ?_
              refine s_X4_in (by omega) (by omega) (by omega) (fun r hr => ?_)
              refine b_X4_type_8 (by first | omega | assumption) (fun d_8 => ?_) (fun d_8 => ?_)
              · first
                | exact absurd d_8 (by omega)
                | (refine b_X4_type_14 (by first | omega | assumption) (by first | omega | assumption) (fun d_14 => ?_) (fun d_14 => ?_)
                   · first
                     | exact absurd d_14 (by omega)
                     | (refine b_X4_type_26 (by first | omega | assumption) (by first | omega | assumption) (by first | omega | assumption) (by first | omega | assumption) (by first | omega | assumption) (by first | omega | assumption) ?_
                        exact JE (by first | rfl | omega) hI)
                   · first
                     | exact absurd d_14 (by omega)
                     | (refine b_X4_type_23  ?_
                        exact JE (by first | rfl | omega) hI))
              · first
                | exact absurd d_8 (by omega)
                | (refine b_X4_type_11  ?_
                   exact JE (by first | rfl | omega) hI)))
    · first
      | exact absurd c_8 (by omega)
      | (refine b_X3_type_11  ?_
         refine JQ.mk (by omega) ?_
         refine b_X4_type_0  ?_
         refine s_X4_in (by omega) (by omega) (by omega) (fun r hr => ?_)
         refine b_X4_type_8 (by first | omega | assumption) (fun d_8 => ?_) (fun d_8 => ?_)
         · first
           | exact absurd d_8 (by omega)
           | (refine b_X4_type_14 (by first | omega | assumption) (by first | omega | assumption) (fun d_14 => ?_) (fun d_14 => ?_)
              · first
                | exact absurd d_14 (by omega)
                | (refine b_X4_type_26 (by first | omega | assumption) (by first | omega | assumption) (by first | omega | assumption) (by first | omega | assumption) (by first | omega | assumption) (by first | omega | assumption) ?_
                   exact JE (by first | rfl | omega) hI)
              · first
                | exact absurd d_14 (by omega)
                | (refine b_X4_type_23  ?_
                   exact JE (by first | rfl | omega) hI))
         · first
           | exact absurd d_8 (by omega)
           | (refine b_X4_type_11  ?_
              exact JE (by first | rfl | omega) hI))

theorem j_undo {w : rW} (hI : Inv w)  : WP M_X3_undo 0 [vr 0] [] w (JQ M_X4_undo [vr 9, vu]) := by
  have ho0 : oc 0 = 3 := rfl
  have ho9 : oc 9 = 4 := rfl
  · skip
    obtain ⟨a0, a1, o, s, t, RS, HS, TS, hC, hMV, hVS⟩ := hI.to
    have hC4 := hC.2.1
    have hC5 := hC.2.2.1
    have hs4 : 0 ≤ s ∧ s ≤ 4 := ⟨hMV.2.2.1.2.1, hMV.2.2.1.2.2.1⟩
    obtain ⟨⟨c1, c2, c3⟩, c4, c5, c6, c7, c8, c9, c10, c11⟩ := id hC
    have o2 : oc (w 0 2) = 0 := by rw [c1]; rfl
    have s2 : w (w 0 2) 2 = s := by rw [c1]; exact c9.2.2.1
    have m93 : w 9 3 = s := hMV.2.2.1.1
    refine b_X3_undo_0 (by first | omega | assumption) (by first | omega | assumption) (by first | omega | assumption) (fun c_0 => ?_) (fun c_0 => ?_)
    · first
      | exact absurd c_0 (by omega)
      | (refine b_X3_undo_14 (by first | omega | assumption) (by first | omega | assumption) ?_
         rw [c1, c4, c5]
         refine s_X0_restore c9 c7.1.1.ra c8.1.1.ra c6 (by omega) (fun p hp => hVS.2.1 (s - 1) p (by omega) (by omega) hp) (fun wr hF1 hRa0 hH1 hK0 hK1 => ?_)
         have o2b : oc (wr 0 2) = 0 := by rw [hF1 0 2 (by decide) (by decide) (by decide) (by decide) (by decide), c1]; rfl
         refine b_X3_undo_29 (by first | omega | assumption) (by first | omega | assumption) ?_
         have e02 : wr 0 2 = 5 := (hF1 0 2 (by decide) (by decide) (by decide) (by decide) (by decide)).trans c1
         rw [e02, hH1.2.2.1]
         have hFC : FC w wr := fun r k z => hF1 r k (by omega) (by omega) (by omega) (by omega) (by omega)
         have hMV1 := hMV.mv hFC
         have hC2 : CV wr a0 a1 (HS (s - 1)) HS o (s - 1) t TS := ⟨⟨e02, (hF1 0 3 (by decide) (by decide) (by decide) (by decide) (by decide)).trans c2, (hF1 7 0 (by decide) (by decide) (by decide) (by decide) (by decide)).trans c3⟩, (hF1 0 0 (by decide) (by decide) (by decide) (by decide) (by decide)).trans c4, (hF1 0 1 (by decide) (by decide) (by decide) (by decide) (by decide)).trans c5, c6, hK0, hK1, hH1, (hF1 7 1 (by decide) (by decide) (by decide) (by decide) (by decide)).trans c10, fun i z1 z2 => (hF1 8 i (by decide) (by decide) (by decide) (by decide) (by decide)).trans (c11 i z1 z2)⟩
         have e93 : wr 9 3 = s := hMV1.2.2.1.1
         refine JQ.mk (by omega) ?_
         refine b_X4_undo_0 (by first | omega | assumption) (by first | omega | assumption) (fun d_0 => ?_) (fun d_0 => ?_)
         · first
           | exact absurd d_0 (by omega)
           | (refine b_X4_undo_10 (by first | omega | assumption) ?_
              rw [e93]
              have hr2 : Mr (wset wr 9 3 (s - 1)) := by
                obtain ⟨x1, x2, x3, x4, x5, x6, x7, x8⟩ := hMV1.1
                refine ⟨?_, ?_, ?_, ?_, ?_, ?_, ?_, ?_⟩ <;> rw [ws_nk (by decide)] <;> assumption
              refine l_X4_undo (z := s - 1) hr2 (ws_eq _ _ _ _) (by omega) (fun w2 hf hg => ?_) _ _ 0 (Nat.lt_succ_self _) (by decide) (by decide) (fun _ _ _ => rfl) (fun k z1 z2 => by omega)
              obtain ⟨-, h02, h03, h04⟩ := hMV1.2.2.1
              have e11 : w2 11 = wr 11 := funext fun k => (hf 11 k (by decide)).trans (ws_nr (by decide))
              refine JE rfl (Inv.mk (hC2.mv (fun r k z => (hf r k (by omega)).trans (ws_nr (by omega)))) (RS := HS (s - 1)) (HS := HS) (s := s - 1) (t := t) (TS := TS) ⟨?_, fun p hp => ?_, ⟨?_, by omega, by omega, fun j p z1 z2 z3 => ?_⟩, ?_, fun i z1 z2 => ?_⟩ ⟨fun p hp => hVS.2.1 (s - 1) p (by omega) (by omega) hp, fun j p z1 z2 z3 => hVS.2.1 j p z1 (by omega) z3, hVS.2.2⟩)
              · obtain ⟨x1, x2, x3, x4, x5, x6, x7, x8⟩ := hr2
                refine ⟨?_, ?_, ?_, ?_, ?_, ?_, ?_, ?_⟩ <;> rw [hf 9 _ (by decide)] <;> assumption
              · refine (h04 (s - 1) p (by omega) (by omega) hp).mv (hVS.2.1 (s - 1) p (by omega) (by omega) hp).2.1 (fun k z1 z2 => ?_)
                rw [hg _ (by omega) (by omega), ws_nr (by decide), Int.add_assoc]
              · rw [hf 9 3 (by decide), ws_eq]
              · rw [e11]; exact h04 j p z1 (by omega) z3
              · rw [hf 9 5 (by decide), ws_nk (by decide)]; exact hMV1.2.2.2.1
              · rw [hf 13 i (by decide), ws_nr (by decide)]; exact hMV1.2.2.2.2 i z1 z2)
         · first
           | exact absurd d_0 (by omega)
           | (refine b_X4_undo_7  ?_
              exfalso
              omega))
    · first
      | exact absurd c_0 (by omega)
      | (refine b_X3_undo_11  ?_
         refine JQ.mk (by omega) ?_
         refine b_X4_undo_0 (by first | omega | assumption) (by first | omega | assumption) (fun d_0 => ?_) (fun d_0 => ?_)
         · first
           | exact absurd d_0 (by omega)
           | (refine b_X4_undo_10 (by first | omega | assumption) ?_
              exfalso; omega)
         · first
           | exact absurd d_0 (by omega)
           | (refine b_X4_undo_7  ?_
              exact JE (by first | rfl | omega) hI))

theorem j_bound {w : rW} {q x : Int} (hI : Inv w) (hqr : R32 q) (hxr : R32 x) : WP M_X3_bound 0 [vr 0, vi q, vi x, vu, vu] [] w (JQ M_X4_bound [vr 9, vi q, vi x, vu]) := by
  have ho0 : oc 0 = 3 := rfl
  have ho9 : oc 9 = 4 := rfl
  by_cases hq : q = 0 ∨ q = 1
  · skip
    obtain ⟨a, n, b, hra, hR, hM, hV, hE⟩ := hI.row hq
    obtain ⟨h, hb0, hb1, hb2⟩ := id hR
    obtain ⟨ha13, ho, ha1, h0, h1, hn0, hn4, hv⟩ := id h
    have hn : 0 ≤ n ∧ n ≤ 40 := ⟨hn0, hn4⟩
    have hb : 1 ≤ b ∧ b ≤ 4096 := ⟨by omega, hb2⟩
    have hwb := wd_bd hn.1 hb.2
    have hpw := p2_w hn.1 hb.2
    have hub := ub_bd hn hb
    have hzb := zf_bd hn.1 hb.1 hb.2
    have hsz := szf_bd hn hb
    have hun := unl_bd (f := w (a + 1)) hn0
    have hu9 : w 9 9 = 15 := hI.1.2.2.2.2.2.2.2.2.2.1
    have hu11 : w 9 11 = 16 := hI.1.2.2.2.2.2.2.2.2.2.2.1
    have ha0 : al (w 9 0) = 84 := by rw [hM.2.1]; rfl
    have hbm : w (w 9 0) (42 * q + 1) = b := by rw [hM.2.1]; exact hM.2.2.2.1
    obtain ⟨a0, a1, o, s, t, RS, HS, TS, hC, hMV, hVS⟩ := hI.to
    have hC4 := hC.2.1
    have hC5 := hC.2.2.1
    have hs4 : 0 ≤ s ∧ s ≤ 4 := ⟨hMV.2.2.1.2.1, hMV.2.2.1.2.2.1⟩
    have hqa : (q = 0 ∧ a = a0) ∨ (q = 1 ∧ a = a1) := by omega
    have hRn : RS q 0 = n := ((hMV.2.1 q hq).k0).symm.trans hM.2.2.1
    have hRb : RS q 1 = b := (hMV.2.1 q hq).2.1.symm.trans hM.2.2.2.1
    have hVq := hVS.1 q hq
    refine b_X3_bound_0  ?_
    refine s_X3_isRow (by omega) (fun r hr => ?_)
    refine b_X3_bound_4 (by first | omega | assumption) (fun c_4 => ?_) (fun c_4 => ?_)
    · first
      | exact absurd c_4 (by omega)
      | (refine b_X3_bound_18  ?_
         refine JQ.mk (by omega) ?_
         refine b_X4_bound_0  ?_
         refine s_X4_in (by omega) (by omega) (by omega) (fun r hr => ?_)
         refine b_X4_bound_6 (by first | omega | assumption) (fun d_6 => ?_) (fun d_6 => ?_)
         · first
           | exact absurd d_6 (by omega)
           | (refine b_X4_bound_20  ?_
              exact JE (by first | rfl | omega) hI)
         · first
           | exact absurd d_6 (by omega)
           | (refine b_X4_bound_9  ?_
              refine s_X4_in (by omega) (by omega) (by omega) (fun r hr => ?_)
              refine b_X4_bound_17 (by first | omega | assumption) (fun d_17 => ?_) (fun d_17 => ?_)
              · first
                | exact absurd d_17 (by omega)
                | (refine b_X4_bound_23 (by first | omega | assumption) ?_
                   refine s_X4_many hM ?_
                   refine b_X4_bound_28 (by first | omega | assumption) (fun d_28 => ?_) (fun d_28 => ?_)
                   · first
                     | exact absurd d_28 (by omega)
                     | (refine b_X4_bound_50 (by first | omega | assumption) ?_
                        refine False.elim (by omega)
                        refine b_X4_bound_54 (by first | omega | assumption) (by first | omega | assumption) (by first | omega | assumption) ?_
                        exfalso
                        omega
                        refine b_X4_bound_83  ?_
                        exact JE (by first | rfl | omega) hI)
                   · first
                     | exact absurd d_28 (by omega)
                     | (refine b_X4_bound_31 (by first | omega | assumption) ?_
                        refine s_X4_many hM ?_
                        refine b_X4_bound_38 (by first | omega | assumption) ?_
                        refine s_X4_number hM (by omega) (by omega) ?_
                        refine b_X4_bound_43 (by first | omega | assumption) (by first | omega | assumption) (fun d_43 => ?_) (fun d_43 => ?_)
                        · first
                          | exact absurd d_43 (by omega)
                          | (refine b_X4_bound_50 (by first | omega | assumption) ?_
                             refine False.elim (by omega)
                             refine b_X4_bound_54 (by first | omega | assumption) (by first | omega | assumption) (by first | omega | assumption) ?_
                             exfalso
                             omega
                             refine b_X4_bound_83  ?_
                             exact JE (by first | rfl | omega) hI)
                        · first
                          | exact absurd d_43 (by omega)
                          | (refine b_X4_bound_47  ?_
                             exact JE (by first | rfl | omega) hI)))
              · first
                | exact absurd d_17 (by omega)
                | (refine b_X4_bound_20  ?_
                   exact JE (by first | rfl | omega) hI)))
    · first
      | exact absurd c_4 (by omega)
      | (refine b_X3_bound_7  ?_
         refine s_X3_isWithin (by omega) (by omega) (by omega) (fun r hr => ?_)
         refine b_X3_bound_15 (by first | omega | assumption) (fun c_15 => ?_) (fun c_15 => ?_)
         · first
           | exact absurd c_15 (by omega)
           | (refine b_X3_bound_21 (by first | omega | assumption) ?_
              refine s_X3_rowAt hra ?_
              refine b_X3_bound_26 (by first | omega | assumption) ?_
              refine s_X1_countLess h (by omega) ?_
              have hcl := cl_spec (f := w (a + 1)) (n := n) (x := x) hn0
              refine b_X3_bound_32 (by first | omega | assumption) (by first | omega | assumption) (by first | omega | assumption) (fun c_32 => ?_) (fun c_32 => ?_)
              · first
                | exact absurd c_32 (by omega)
                | (refine b_X3_bound_42 (by first | omega | assumption) ?_
                   refine s_X3_remember hC hVS (fun w1 o1 hF1 hC1 => ?_)
                   have hCq := hC1.crw hqa
                   have e11 : w1 a 1 = n := hCq.1.1.2.2.2.2.1.trans hRn
                   refine b_X3_bound_46 (by first | omega | assumption) ?_
                   have hFC : FC w (wset w1 a 2 x) := hF1.set (by omega)
                   have hM1 := hM.fc hFC
                   have hMV1 := hMV.mv hFC
                   have hVb : VK (bndH (RS q) x) := bndH_v hVq (by omega) (fun i z1 z2 => by
                     have y1 := hcl.2.2.1 i z1 (by omega)
                     have y2 := hC.crw hqa
                     have y3 := y2.2 i z1 (by omega)
                     omega)
                   have hC2 := hC1.row (w1 := wset w1 a 2 x) (H := bndH (RS q) x) hqa (fun r k z1 z2 => ws_nr z1) (CRw.of (by
                     obtain ⟨y1, y2, y3, y4⟩ := hCq.1.1.ra
                     exact ⟨y1, y2, y3, by rw [ws_nk (by decide)]; exact y4⟩) hVb (by rw [ws_nk (by decide), bndH_k (by decide)]; exact hCq.1.1.2.2.2.2.1) (ws_eq _ _ _ _) (fun i z1 z2 => by
                     rw [ws_nr (by omega), bndH_k (by omega)]
                     rw [bndH_k (by decide)] at z2
                     exact hCq.2 i z1 z2))
                   have e12 : w1 a 2 = b := hCq.1.2.1.trans hRb
                   rw [e12]
                   have hlast : 0 < n → mf w q (n - 1) < x := fun z => by
                     have y1 := hcl.2.2.1 (n - 1) (by omega) (by omega)
                     rw [hE (n - 1) (by omega) (by omega)] at y1
                     exact y1
                   have hmf1 : mf (wset w1 a 2 x) q = mf w q := funext fun i => hFC 10 _ (by decide)
                   refine JQ.mk (by omega) ?_
                   refine b_X4_bound_0  ?_
                   refine s_X4_in (by omega) (by omega) (by omega) (fun r hr => ?_)
                   refine b_X4_bound_6 (by first | omega | assumption) (fun d_6 => ?_) (fun d_6 => ?_)
                   · first
                     | exact absurd d_6 (by omega)
                     | (refine b_X4_bound_20  ?_
                        exfalso
                        omega)
                   · first
                     | exact absurd d_6 (by omega)
                     | (refine b_X4_bound_9  ?_
                        refine s_X4_in (by omega) (by omega) (by omega) (fun r hr => ?_)
                        refine b_X4_bound_17 (by first | omega | assumption) (fun d_17 => ?_) (fun d_17 => ?_)
                        · first
                          | exact absurd d_17 (by omega)
                          | (refine b_X4_bound_23 (by first | omega | assumption) ?_
                             refine s_X4_many hM1 ?_
                             refine b_X4_bound_28 (by first | omega | assumption) (fun d_28 => ?_) (fun d_28 => ?_)
                             · first
                               | exact absurd d_28 (by omega)
                               | (refine b_X4_bound_50 (by first | omega | assumption) ?_
                                  refine s_X4_keeps hMV1.1 (fun wk hk1 hk2 => ?_)
                                  have hMk := hM1.as (hk1 9 0 (by decide)) (funext fun k => hk1 10 k (by decide))
                                  have hk9 : wk 9 0 = 10 := hMk.2.1
                                  have ak : al (wk 9 0) = 84 := by rw [hk9]; rfl
                                  refine b_X4_bound_54 (by first | omega | assumption) (by first | omega | assumption) (by first | omega | assumption) ?_
                                  rw [hk9, hMk.2.2.2.1]
                                  refine s_X4_act (RS1 := upR RS q (bndH (RS q) x)) hMV1 hVS (by omega) (by omega) hk1 hk2 (fun r k z1 z2 z3 => ws_nr z1) (rowsUp hq hMV1.2.1 (fun p hp => (hVS.1 p hp).2.1) (fun k z => ?_) ?_) (fun w2 hFM hM2 => ?_)
                                  · rw [ws_nk (by omega)]; exact hk1 10 k (by decide)
                                  · refine ⟨?_, ?_, fun i z1 z2 => ?_⟩
                                    · dsimp only
                                      rw [ws_nk (by omega), hk1 10 _ (by decide), bndH_k (by decide)]
                                      exact (hMV1.2.1 q hq).1
                                    · dsimp only
                                      rw [ws_eq]; rfl
                                    · dsimp only
                                      rw [bndH_k (by decide)] at z2
                                      rw [ws_nk (by omega), hk1 10 _ (by decide), bndH_k (by omega)]
                                      exact (hMV1.2.1 q hq).2.2 i z1 z2
                                  refine b_X4_bound_83  ?_
                                  exact JE rfl (Inv.mk (hC2.mv hFM) hM2 (hVS.push (hVS.up hVb) hs4)))
                             · first
                               | exact absurd d_28 (by omega)
                               | (refine b_X4_bound_31 (by first | omega | assumption) ?_
                                  refine s_X4_many hM1 ?_
                                  refine b_X4_bound_38 (by first | omega | assumption) ?_
                                  refine s_X4_number hM1 (by omega) (by omega) ?_
                                  rw [hmf1]
                                  have hvl := hV.1 (n - 1) (by omega) (by omega)
                                  have hlast := hlast (by omega)
                                  refine b_X4_bound_43 (by first | omega | assumption) (by first | omega | assumption) (fun d_43 => ?_) (fun d_43 => ?_)
                                  · first
                                    | exact absurd d_43 (by omega)
                                    | (refine b_X4_bound_50 (by first | omega | assumption) ?_
                                       refine s_X4_keeps hMV1.1 (fun wk hk1 hk2 => ?_)
                                       have hMk := hM1.as (hk1 9 0 (by decide)) (funext fun k => hk1 10 k (by decide))
                                       have hk9 : wk 9 0 = 10 := hMk.2.1
                                       have ak : al (wk 9 0) = 84 := by rw [hk9]; rfl
                                       refine b_X4_bound_54 (by first | omega | assumption) (by first | omega | assumption) (by first | omega | assumption) ?_
                                       rw [hk9, hMk.2.2.2.1]
                                       refine s_X4_act (RS1 := upR RS q (bndH (RS q) x)) hMV1 hVS (by omega) (by omega) hk1 hk2 (fun r k z1 z2 z3 => ws_nr z1) (rowsUp hq hMV1.2.1 (fun p hp => (hVS.1 p hp).2.1) (fun k z => ?_) ?_) (fun w2 hFM hM2 => ?_)
                                       · rw [ws_nk (by omega)]; exact hk1 10 k (by decide)
                                       · refine ⟨?_, ?_, fun i z1 z2 => ?_⟩
                                         · dsimp only
                                           rw [ws_nk (by omega), hk1 10 _ (by decide), bndH_k (by decide)]
                                           exact (hMV1.2.1 q hq).1
                                         · dsimp only
                                           rw [ws_eq]; rfl
                                         · dsimp only
                                           rw [bndH_k (by decide)] at z2
                                           rw [ws_nk (by omega), hk1 10 _ (by decide), bndH_k (by omega)]
                                           exact (hMV1.2.1 q hq).2.2 i z1 z2
                                       refine b_X4_bound_83  ?_
                                       exact JE rfl (Inv.mk (hC2.mv hFM) hM2 (hVS.push (hVS.up hVb) hs4)))
                                  · first
                                    | exact absurd d_43 (by omega)
                                    | (refine b_X4_bound_47  ?_
                                       exfalso
                                       omega)))
                        · first
                          | exact absurd d_17 (by omega)
                          | (refine b_X4_bound_20  ?_
                             exfalso
                             omega)))
              · first
                | exact absurd c_32 (by omega)
                | (have hlast2 : 0 < n ∧ x ≤ mf w q (n - 1) := by
                     have y1 := hcl.2.2.2 (by omega)
                     have y2 := hE _ hcl.1 (by omega : cl (w (a + 1)) n x < n)
                     have y3 := hV.2 _ (n - 1) hcl.1 (by omega) (by omega)
                     omega
                   have hvl := hV.1 (n - 1) (by omega) (by omega)
                   refine b_X3_bound_39  ?_
                   refine JQ.mk (by omega) ?_
                   refine b_X4_bound_0  ?_
                   refine s_X4_in (by omega) (by omega) (by omega) (fun r hr => ?_)
                   refine b_X4_bound_6 (by first | omega | assumption) (fun d_6 => ?_) (fun d_6 => ?_)
                   · first
                     | exact absurd d_6 (by omega)
                     | (refine b_X4_bound_20  ?_
                        exact JE (by first | rfl | omega) hI)
                   · first
                     | exact absurd d_6 (by omega)
                     | (refine b_X4_bound_9  ?_
                        refine s_X4_in (by omega) (by omega) (by omega) (fun r hr => ?_)
                        refine b_X4_bound_17 (by first | omega | assumption) (fun d_17 => ?_) (fun d_17 => ?_)
                        · first
                          | exact absurd d_17 (by omega)
                          | (refine b_X4_bound_23 (by first | omega | assumption) ?_
                             refine s_X4_many hM ?_
                             refine b_X4_bound_28 (by first | omega | assumption) (fun d_28 => ?_) (fun d_28 => ?_)
                             · first
                               | exact absurd d_28 (by omega)
                               | (refine b_X4_bound_50 (by first | omega | assumption) ?_
                                  refine False.elim (by omega)
                                  refine b_X4_bound_54 (by first | omega | assumption) (by first | omega | assumption) (by first | omega | assumption) ?_
                                  exfalso
                                  omega
                                  refine b_X4_bound_83  ?_
                                  exact JE (by first | rfl | omega) hI)
                             · first
                               | exact absurd d_28 (by omega)
                               | (refine b_X4_bound_31 (by first | omega | assumption) ?_
                                  refine s_X4_many hM ?_
                                  refine b_X4_bound_38 (by first | omega | assumption) ?_
                                  refine s_X4_number hM (by omega) (by omega) ?_
                                  refine b_X4_bound_43 (by first | omega | assumption) (by first | omega | assumption) (fun d_43 => ?_) (fun d_43 => ?_)
                                  · first
                                    | exact absurd d_43 (by omega)
                                    | (refine b_X4_bound_50 (by first | omega | assumption) ?_
                                       refine False.elim (by omega)
                                       refine b_X4_bound_54 (by first | omega | assumption) (by first | omega | assumption) (by first | omega | assumption) ?_
                                       exfalso
                                       omega
                                       refine b_X4_bound_83  ?_
                                       exact JE (by first | rfl | omega) hI)
                                  · first
                                    | exact absurd d_43 (by omega)
                                    | (refine b_X4_bound_47  ?_
                                       exact JE (by first | rfl | omega) hI)))
                        · first
                          | exact absurd d_17 (by omega)
                          | (refine b_X4_bound_20  ?_
                             exact JE (by first | rfl | omega) hI))))
         · first
           | exact absurd c_15 (by omega)
           | (refine b_X3_bound_18  ?_
              refine JQ.mk (by omega) ?_
              refine b_X4_bound_0  ?_
              refine s_X4_in (by omega) (by omega) (by omega) (fun r hr => ?_)
              refine b_X4_bound_6 (by first | omega | assumption) (fun d_6 => ?_) (fun d_6 => ?_)
              · first
                | exact absurd d_6 (by omega)
                | (refine b_X4_bound_20  ?_
                   exact JE (by first | rfl | omega) hI)
              · first
                | exact absurd d_6 (by omega)
                | (refine b_X4_bound_9  ?_
                   refine s_X4_in (by omega) (by omega) (by omega) (fun r hr => ?_)
                   refine b_X4_bound_17 (by first | omega | assumption) (fun d_17 => ?_) (fun d_17 => ?_)
                   · first
                     | exact absurd d_17 (by omega)
                     | (refine b_X4_bound_23 (by first | omega | assumption) ?_
                        refine s_X4_many hM ?_
                        refine b_X4_bound_28 (by first | omega | assumption) (fun d_28 => ?_) (fun d_28 => ?_)
                        · first
                          | exact absurd d_28 (by omega)
                          | (refine b_X4_bound_50 (by first | omega | assumption) ?_
                             refine False.elim (by omega)
                             refine b_X4_bound_54 (by first | omega | assumption) (by first | omega | assumption) (by first | omega | assumption) ?_
                             exfalso
                             omega
                             refine b_X4_bound_83  ?_
                             exact JE (by first | rfl | omega) hI)
                        · first
                          | exact absurd d_28 (by omega)
                          | (refine b_X4_bound_31 (by first | omega | assumption) ?_
                             refine s_X4_many hM ?_
                             refine b_X4_bound_38 (by first | omega | assumption) ?_
                             refine s_X4_number hM (by omega) (by omega) ?_
                             refine b_X4_bound_43 (by first | omega | assumption) (by first | omega | assumption) (fun d_43 => ?_) (fun d_43 => ?_)
                             · first
                               | exact absurd d_43 (by omega)
                               | (refine b_X4_bound_50 (by first | omega | assumption) ?_
                                  refine False.elim (by omega)
                                  refine b_X4_bound_54 (by first | omega | assumption) (by first | omega | assumption) (by first | omega | assumption) ?_
                                  exfalso
                                  omega
                                  refine b_X4_bound_83  ?_
                                  exact JE (by first | rfl | omega) hI)
                             · first
                               | exact absurd d_43 (by omega)
                               | (refine b_X4_bound_47  ?_
                                  exact JE (by first | rfl | omega) hI)))
                   · first
                     | exact absurd d_17 (by omega)
                     | (refine b_X4_bound_20  ?_
                        exact JE (by first | rfl | omega) hI))))
  · have hq2 : q < 0 ∨ 1 < q := by omega
    refine b_X3_bound_0  ?_
    refine s_X3_isRow (by omega) (fun r hr => ?_)
    refine b_X3_bound_4 (by first | omega | assumption) (fun c_4 => ?_) (fun c_4 => ?_)
    · first
      | exact absurd c_4 (by omega)
      | (refine b_X3_bound_18  ?_
         refine JQ.mk (by omega) ?_
         refine b_X4_bound_0  ?_
         refine s_X4_in (by omega) (by omega) (by omega) (fun r hr => ?_)
         refine b_X4_bound_6 (by first | omega | assumption) (fun d_6 => ?_) (fun d_6 => ?_)
         · first
           | exact absurd d_6 (by omega)
           | (refine b_X4_bound_20  ?_
              exact JE (by first | rfl | omega) hI)
         · first
           | exact absurd d_6 (by omega)
           | (refine b_X4_bound_9  ?_
              refine s_X4_in (by omega) (by omega) (by omega) (fun r hr => ?_)
              refine b_X4_bound_17 (by first | omega | assumption) (fun d_17 => ?_) (fun d_17 => ?_)
              · first
                | exact absurd d_17 (by omega)
                | (refine b_X4_bound_23 (by first | omega | assumption) ?_
                   refine s_X4_many hM ?_
                   refine b_X4_bound_28 (by first | omega | assumption) (fun d_28 => ?_) (fun d_28 => ?_)
                   · first
                     | exact absurd d_28 (by omega)
                     | (refine b_X4_bound_50 (by first | omega | assumption) ?_
                        refine False.elim (by omega)
                        refine b_X4_bound_54 (by first | omega | assumption) (by first | omega | assumption) (by first | omega | assumption) ?_
                        exfalso
                        omega
                        refine b_X4_bound_83  ?_
                        exact JE (by first | rfl | omega) hI)
                   · first
                     | exact absurd d_28 (by omega)
                     | (refine b_X4_bound_31 (by first | omega | assumption) ?_
                        refine s_X4_many hM ?_
                        refine b_X4_bound_38 (by first | omega | assumption) ?_
                        refine s_X4_number hM (by omega) (by omega) ?_
                        refine b_X4_bound_43 (by first | omega | assumption) (by first | omega | assumption) (fun d_43 => ?_) (fun d_43 => ?_)
                        · first
                          | exact absurd d_43 (by omega)
                          | (refine b_X4_bound_50 (by first | omega | assumption) ?_
                             refine False.elim (by omega)
                             refine b_X4_bound_54 (by first | omega | assumption) (by first | omega | assumption) (by first | omega | assumption) ?_
                             exfalso
                             omega
                             refine b_X4_bound_83  ?_
                             exact JE (by first | rfl | omega) hI)
                        · first
                          | exact absurd d_43 (by omega)
                          | (refine b_X4_bound_47  ?_
                             exact JE (by first | rfl | omega) hI)))
              · first
                | exact absurd d_17 (by omega)
                | (refine b_X4_bound_20  ?_
                   exact JE (by first | rfl | omega) hI)))
    · first
      | exact absurd c_4 (by omega)
      | (refine b_X3_bound_7  ?_
         refine s_X3_isWithin (by omega) (by omega) (by omega) (fun r hr => ?_)
         refine b_X3_bound_15 (by first | omega | assumption) (fun c_15 => ?_) (fun c_15 => ?_)
         · first
           | exact absurd c_15 (by omega)
           | (refine b_X3_bound_21 (by first | omega | assumption) ?_
              refine s_X3_rowAt hra ?_
              refine b_X3_bound_26 (by first | omega | assumption) ?_
              refine s_X1_countLess h (by omega) ?_
              refine b_X3_bound_32 (by first | omega | assumption) (by first | omega | assumption) (by first | omega | assumption) (fun c_32 => ?_) (fun c_32 => ?_)
              · first
                | exact absurd c_32 (by omega)
                | (refine b_X3_bound_42 (by first | omega | assumption) ?_
                   refine s_X3_remember hC hVS (fun w1 o1 hF1 hC1 => ?_)
                   have hCq := hC1.crw hqa
                   have e11 : w1 a 1 = n := hCq.1.1.2.2.2.2.1.trans hRn
                   refine b_X3_bound_46 (by first | omega | assumption) ?_
                   exfalso
                   omega)
              · first
                | exact absurd c_32 (by omega)
                | (refine b_X3_bound_39  ?_
                   refine JQ.mk (by omega) ?_
                   refine b_X4_bound_0  ?_
                   refine s_X4_in (by omega) (by omega) (by omega) (fun r hr => ?_)
                   refine b_X4_bound_6 (by first | omega | assumption) (fun d_6 => ?_) (fun d_6 => ?_)
                   · first
                     | exact absurd d_6 (by omega)
                     | (refine b_X4_bound_20  ?_
                        exact JE (by first | rfl | omega) hI)
                   · first
                     | exact absurd d_6 (by omega)
                     | (refine b_X4_bound_9  ?_
                        refine s_X4_in (by omega) (by omega) (by omega) (fun r hr => ?_)
                        refine b_X4_bound_17 (by first | omega | assumption) (fun d_17 => ?_) (fun d_17 => ?_)
                        · first
                          | exact absurd d_17 (by omega)
                          | (refine b_X4_bound_23 (by first | omega | assumption) ?_
                             refine s_X4_many hM ?_
                             refine b_X4_bound_28 (by first | omega | assumption) (fun d_28 => ?_) (fun d_28 => ?_)
                             · first
                               | exact absurd d_28 (by omega)
                               | (refine b_X4_bound_50 (by first | omega | assumption) ?_
                                  refine False.elim (by omega)
                                  refine b_X4_bound_54 (by first | omega | assumption) (by first | omega | assumption) (by first | omega | assumption) ?_
                                  exfalso
                                  omega
                                  refine b_X4_bound_83  ?_
                                  exact JE (by first | rfl | omega) hI)
                             · first
                               | exact absurd d_28 (by omega)
                               | (refine b_X4_bound_31 (by first | omega | assumption) ?_
                                  refine s_X4_many hM ?_
                                  refine b_X4_bound_38 (by first | omega | assumption) ?_
                                  refine s_X4_number hM (by omega) (by omega) ?_
                                  refine b_X4_bound_43 (by first | omega | assumption) (by first | omega | assumption) (fun d_43 => ?_) (fun d_43 => ?_)
                                  · first
                                    | exact absurd d_43 (by omega)
                                    | (refine b_X4_bound_50 (by first | omega | assumption) ?_
                                       refine False.elim (by omega)
                                       refine b_X4_bound_54 (by first | omega | assumption) (by first | omega | assumption) (by first | omega | assumption) ?_
                                       exfalso
                                       omega
                                       refine b_X4_bound_83  ?_
                                       exact JE (by first | rfl | omega) hI)
                                  · first
                                    | exact absurd d_43 (by omega)
                                    | (refine b_X4_bound_47  ?_
                                       exact JE (by first | rfl | omega) hI)))
                        · first
                          | exact absurd d_17 (by omega)
                          | (refine b_X4_bound_20  ?_
                             exact JE (by first | rfl | omega) hI))))
         · first
           | exact absurd c_15 (by omega)
           | (refine b_X3_bound_18  ?_
              refine JQ.mk (by omega) ?_
              refine b_X4_bound_0  ?_
              refine s_X4_in (by omega) (by omega) (by omega) (fun r hr => ?_)
              refine b_X4_bound_6 (by first | omega | assumption) (fun d_6 => ?_) (fun d_6 => ?_)
              · first
                | exact absurd d_6 (by omega)
                | (refine b_X4_bound_20  ?_
                   exact JE (by first | rfl | omega) hI)
              · first
                | exact absurd d_6 (by omega)
                | (refine b_X4_bound_9  ?_
                   refine s_X4_in (by omega) (by omega) (by omega) (fun r hr => ?_)
                   refine b_X4_bound_17 (by first | omega | assumption) (fun d_17 => ?_) (fun d_17 => ?_)
                   · first
                     | exact absurd d_17 (by omega)
                     | (refine b_X4_bound_23 (by first | omega | assumption) ?_
                        refine s_X4_many hM ?_
                        refine b_X4_bound_28 (by first | omega | assumption) (fun d_28 => ?_) (fun d_28 => ?_)
                        · first
                          | exact absurd d_28 (by omega)
                          | (refine b_X4_bound_50 (by first | omega | assumption) ?_
                             refine False.elim (by omega)
                             refine b_X4_bound_54 (by first | omega | assumption) (by first | omega | assumption) (by first | omega | assumption) ?_
                             exfalso
                             omega
                             refine b_X4_bound_83  ?_
                             exact JE (by first | rfl | omega) hI)
                        · first
                          | exact absurd d_28 (by omega)
                          | (refine b_X4_bound_31 (by first | omega | assumption) ?_
                             refine s_X4_many hM ?_
                             refine b_X4_bound_38 (by first | omega | assumption) ?_
                             refine s_X4_number hM (by omega) (by omega) ?_
                             refine b_X4_bound_43 (by first | omega | assumption) (by first | omega | assumption) (fun d_43 => ?_) (fun d_43 => ?_)
                             · first
                               | exact absurd d_43 (by omega)
                               | (refine b_X4_bound_50 (by first | omega | assumption) ?_
                                  refine False.elim (by omega)
                                  refine b_X4_bound_54 (by first | omega | assumption) (by first | omega | assumption) (by first | omega | assumption) ?_
                                  exfalso
                                  omega
                                  refine b_X4_bound_83  ?_
                                  exact JE (by first | rfl | omega) hI)
                             · first
                               | exact absurd d_43 (by omega)
                               | (refine b_X4_bound_47  ?_
                                  exact JE (by first | rfl | omega) hI)))
                   · first
                     | exact absurd d_17 (by omega)
                     | (refine b_X4_bound_20  ?_
                        exact JE (by first | rfl | omega) hI))))

theorem CV.tx {w : rW} {a0 a1 o s t : Int} {RS : Int → Int → Int} {HS : Int → Int → Int → Int} {TS : Int → Int} (h : CV w a0 a1 RS HS o s t TS) (hV : VS RS HS s t TS) : TX w t := by
  obtain ⟨⟨c1, c2, c3⟩, c4, c5, c6, c7, c8, c9, c10, c11⟩ := h
  refine ⟨c10, c3, hV.2.2.1.1, hV.2.2.1.2, fun i z1 z2 => ?_⟩
  have y := hV.2.2.2 i z1 z2
  rw [c11 i z1 z2]
  omega
theorem MV.ty {w : rW} {s t : Int} {RS : Int → Int → Int} {HS : Int → Int → Int → Int} {TS : Int → Int} (h : MV w RS HS s t TS) (hV : VS RS HS s t TS) : TY w t := by
  obtain ⟨⟨m1, m2, m3, m4, m5, m6, m7, m8⟩, k1, k2, k3, k4⟩ := h
  refine ⟨k3, m4, m5, hV.2.2.1.1, hV.2.2.1.2, fun i z1 z2 => ?_⟩
  rw [k4 i z1 z2]
  exact hV.2.2.2 i z1 z2
theorem MV.sf {w w1 : rW} {s t : Int} {RS : Int → Int → Int} {HS : Int → Int → Int → Int} {TS : Int → Int} (h : MV w RS HS s t TS) (hF : SF w w1) : MV w1 RS HS s t TS := by
  obtain ⟨⟨m1, m2, m3, m4, m5, m6, m7, m8⟩, k1, ⟨h1, h2, h3, h4⟩, k3, k4⟩ := h
  have e10 : w1 10 = w 10 := funext fun k => hF.1 10 k (by decide) (by decide)
  have e11 : w1 11 = w 11 := funext fun k => hF.1 11 k (by decide) (by decide)
  have e13 : w1 13 = w 13 := funext fun k => hF.1 13 k (by decide) (by decide)
  refine ⟨?_, by rw [e10]; exact k1, ⟨by rw [hF.2 3 (by decide) (by decide)]; exact h1, h2, h3, by rw [e11]; exact h4⟩, by rw [hF.2 5 (by decide) (by decide)]; exact k3, by rw [e13]; exact k4⟩
  unfold Mr
  rw [hF.2 0 (by decide) (by decide), hF.2 1 (by decide) (by decide), hF.2 2 (by decide) (by decide), hF.2 4 (by decide) (by decide), hF.2 7 (by decide) (by decide), hF.2 9 (by decide) (by decide), hF.2 11 (by decide) (by decide), hF.2 15 (by decide) (by decide)]
  exact ⟨m1, m2, m3, m4, m5, m6, m7, m8⟩
theorem SF.fm {w w1 : rW} (h : SF w w1) : FM w w1 := fun r k z => h.1 r k (by omega) (by omega)
/-- a row of a list's numbers -/
def rdH (l : List Int) (b : Int) : Int → Int := fun k => if k = 0 then (l.length : Int) else if k = 1 then b else l.getD (k - 2).toNat 0
theorem rdH_0 {l : List Int} {b : Int} : rdH l b 0 = l.length := rfl
theorem rdH_1 {l : List Int} {b : Int} : rdH l b 1 = b := rfl
theorem rdH_i {l : List Int} {b i : Int} (h : 0 ≤ i) : rdH l b (2 + i) = l.getD i.toNat 0 := by
  unfold rdH
  rw [if_neg (by omega), if_neg (by omega), show (2 + i - 2).toNat = i.toNat by omega]
theorem rdH_v {l : List Int} {b : Int} (hb : 2 ≤ b ∧ b ≤ 4096) (hl : l.length ≤ 40) (h1 : ∀ i : Nat, i < l.length → 0 ≤ l.getD i 0 ∧ l.getD i 0 < b) (h2 : ∀ i j : Nat, i ≤ j → j < l.length → l.getD i 0 ≤ l.getD j 0) : VK (rdH l b) := by
  unfold VK
  rw [rdH_0, rdH_1]
  refine ⟨by omega, by omega, hb.1, hb.2, fun i g1 g2 => ?_, fun i j g1 g2 g3 => ?_⟩
  · dsimp only
    rw [rdH_i g1]
    exact h1 _ (by omega)
  · dsimp only
    rw [rdH_i g1, rdH_i (by omega)]
    exact h2 _ _ (by omega) (by omega)
theorem l_X4_read {Q : List rV → rW → Prop} {w0 : rW} {q m : Int} (hq : q = 0 ∨ q = 1) (h9 : w0 9 0 = 10) (h97 : w0 9 7 = 14) (h98 : w0 9 8 = m) (hm : 0 ≤ m ∧ m ≤ 40) (hQ : ∀ w1, (∀ r k, r ≠ 10 → w1 r k = w0 r k) → (∀ k, ¬ (42 * q + 2 ≤ k ∧ k < 42 * q + 42) → w1 10 k = w0 10 k) → (∀ i, 0 ≤ i → i < m → w1 10 (42 * q + 2 + i) = w0 14 i) → ∀ jj, WP M_X4_read 87 [vr 9, vi q, vi jj] [] w1 Q) : ∀ (k : Nat) (w : rW) (j : Int), (m - j).toNat < k → 0 ≤ j → j ≤ m → (∀ r k, r ≠ 10 → w r k = w0 r k) → (∀ k, ¬ (42 * q + 2 ≤ k ∧ k < 42 * q + 42) → w 10 k = w0 10 k) → (∀ i, 0 ≤ i → i < j → w 10 (42 * q + 2 + i) = w0 14 i) → WP M_X4_read 54 [vr 9, vi q, vi j] [] w Q := by
  intro k
  induction k with
  | zero => intro w j hk; omega
  | succ k ih =>
    intro w j hk hj0 hj1 hF hO hA
    have ho : oc 9 = 4 := rfl
    have e0 : w 9 0 = 10 := (hF 9 0 (by decide)).trans h9
    have e7 : w 9 7 = 14 := (hF 9 7 (by decide)).trans h97
    have e8 : w 9 8 = m := (hF 9 8 (by decide)).trans h98
    have a0 : al (w 9 0) = 84 := by rw [e0]; rfl
    have a7 : al (w 9 7) = 41 := by rw [e7]; rfl
    refine b_X4_read_54 ho (by omega) (by omega) (fun g => ?_) (fun g => ?_)
    · exact hQ w hF hO (fun i z1 z2 => hA i z1 (by omega)) j
    · refine b_X4_read_62 ho hj0 (by omega) (by omega) (by omega) ?_
      rw [e0, e7]
      refine ih _ _ (by omega) (by omega) (by omega) (fun r k z => ?_) (fun k z => ?_) (fun i z1 z2 => ?_)
      · rw [ws_nr z]; exact hF r k z
      · rw [ws_nk (by omega)]; exact hO k z
      · by_cases y : i = j
        · rw [y, ws_eq]; exact hF 14 j (by decide)
        · rw [ws_nk (by omega)]; exact hA i z1 (by omega)

theorem j_read {w : rW} {q : Int} (hI : Inv w) (hqr : R32 q) : WP M_X3_read 0 [vr 0, vi q, vu] [] w (JQ M_X4_read [vr 9, vi q, vu]) := by
  have ho0 : oc 0 = 3 := rfl
  have ho9 : oc 9 = 4 := rfl
  by_cases hq : q = 0 ∨ q = 1
  · skip
    obtain ⟨a, n, b, hra, hR, hM, hV, hE⟩ := hI.row hq
    obtain ⟨h, hb0, hb1, hb2⟩ := id hR
    obtain ⟨ha13, ho, ha1, h0, h1, hn0, hn4, hv⟩ := id h
    have hn : 0 ≤ n ∧ n ≤ 40 := ⟨hn0, hn4⟩
    have hb : 1 ≤ b ∧ b ≤ 4096 := ⟨by omega, hb2⟩
    have hwb := wd_bd hn.1 hb.2
    have hpw := p2_w hn.1 hb.2
    have hub := ub_bd hn hb
    have hzb := zf_bd hn.1 hb.1 hb.2
    have hsz := szf_bd hn hb
    have hun := unl_bd (f := w (a + 1)) hn0
    have hu9 : w 9 9 = 15 := hI.1.2.2.2.2.2.2.2.2.2.1
    have hu11 : w 9 11 = 16 := hI.1.2.2.2.2.2.2.2.2.2.2.1
    have ha0 : al (w 9 0) = 84 := by rw [hM.2.1]; rfl
    have hbm : w (w 9 0) (42 * q + 1) = b := by rw [hM.2.1]; exact hM.2.2.2.1
    obtain ⟨a0, a1, o, s, t, RS, HS, TS, hC, hMV, hVS⟩ := hI.to
    have hC4 := hC.2.1
    have hC5 := hC.2.2.1
    have hs4 : 0 ≤ s ∧ s ≤ 4 := ⟨hMV.2.2.1.2.1, hMV.2.2.1.2.2.1⟩
    have hqa : (q = 0 ∧ a = a0) ∨ (q = 1 ∧ a = a1) := by omega
    have hRn : RS q 0 = n := ((hMV.2.1 q hq).k0).symm.trans hM.2.2.1
    have hRb : RS q 1 = b := (hMV.2.1 q hq).2.1.symm.trans hM.2.2.2.1
    have hVq := hVS.1 q hq
    have c2 : w 0 3 = 7 := hC.1.2.1
    have o3 : oc (w 0 3) = 2 := by rw [c2]; rfl
    have ht := hVS.2.2.1
    have hbmx : w (w 9 0) (42 * q + 1) = b := hbm
    refine b_X3_read_0  ?_
    refine s_X3_isRow (by omega) (fun r hr => ?_)
    refine b_X3_read_4 (by first | omega | assumption) (fun c_4 => ?_) (fun c_4 => ?_)
    · first
      | exact absurd c_4 (by omega)
      | (refine b_X3_read_10 (by first | omega | assumption) ?_
         refine s_X3_rowAt hra ?_
         refine b_X3_read_15 (by first | omega | assumption) (by first | omega | assumption) (by first | omega | assumption) ?_
         rw [c2, hb0]
         refine s_X2_firstFault (CV.tx hC hVS) ⟨hb1, hb2⟩ ?_
         rw [pF_congr hC.2.2.2.2.2.2.2.2 _ 0 0 0 0 (by decide)]
         have hpb := pF_bd (g := TS) (t := t) (lim := b) (t + 1).toNat 0 0 0 0 (by decide) (by decide) (by omega)
         generalize hp0 : pF TS t b (t + 1).toNat 0 0 0 0 = p0 at hpb ⊢
         refine b_X3_read_27 (by first | omega | assumption) (fun c_27 => ?_) (fun c_27 => ?_)
         · first
           | exact absurd c_27 (by omega)
           | (refine b_X3_read_34 (by first | omega | assumption) ?_
              refine s_X3_remember hC hVS (fun w1 o1 hF1 hC1 => ?_)
              have hCq := hC1.crw hqa
              have e11 : w1 a 1 = n := hCq.1.1.2.2.2.2.1.trans hRn
              have o31 : oc (w1 0 3) = 2 := by rw [show w1 0 3 = 7 from hC1.1.2.1]; rfl
              refine b_X3_read_38 (by first | omega | assumption) (by first | omega | assumption) ?_
              have c21 : w1 0 3 = 7 := hC1.1.2.1
              rw [c21]
              refine s_X2_fill (hC1.tx (hVS.push (fun p hp => hVS.1 p hp) hs4)) hCq.1.1.ra ⟨hb1, hb2⟩ ((pF_congr hC1.2.2.2.2.2.2.2.2 _ 0 0 0 0 (by decide)).trans (hp0.trans (by omega))) (fun w2 hg1 hg2 hg3 hg4 => ?_)
              refine b_X3_read_46 (by first | omega | assumption) ?_
              have hFC : FC w w2 := hF1.tr (fun r k z => hg1 r k (by omega) (by omega))
              have hM1 := hM.fc hFC
              have hMV1 := hMV.mv hFC
              have hn8 : nb (w1 8) t (t + 1).toNat 0 0 = nb TS t (t + 1).toNat 0 0 := nb_congr hC1.2.2.2.2.2.2.2.2 _ _ _ (by decide)
              rw [hn8] at hg3 hg4
              have hok := nb_ok (g := TS) (t := t) (lim := b) (t + 1).toNat 0 0 0 0 (by rw [Int.sub_zero]) (by decide) (by decide) (by omega) (hp0.trans (by omega))
              have hl40 : (nb TS t (t + 1).toNat 0 0).length ≤ 40 := by omega
              have hVi : VK (rdH (nb TS t (t + 1).toNat 0 0) b) := rdH_v ⟨hb1, hb2⟩ hl40 hok.2.1 hok.2.2
              have hC2 := hC1.row (w1 := w2) (H := rdH (nb TS t (t + 1).toNat 0 0) b) hqa hg1 (CRw.of (by
                obtain ⟨y1, y2, y3, y4⟩ := hCq.1.1.ra
                exact ⟨y1, y2, y3, by rw [hg2 0 (by decide)]; exact y4⟩) hVi (hg3.trans rdH_0.symm) (by rw [hg2 2 (by decide), rdH_1]; exact hCq.1.2.1.trans hRb) (fun i z1 z2 => by
                rw [rdH_0] at z2
                have y := hg4 i.toNat (by omega)
                rw [Int.toNat_of_nonneg z1] at y
                rw [rdH_i z1]
                exact y))
              have hbmx : w2 (w2 9 0) (42 * q + 1) = b := by rw [hM1.2.1]; exact hM1.2.2.2.1
              have ha2 : al (w2 9 0) = 84 := by rw [hM1.2.1]; rfl
              rw [hg3]
              refine JQ.mk (by omega) ?_
              refine b_X4_read_0  ?_
              refine s_X4_in (by omega) (by omega) (by omega) (fun r hr => ?_)
              refine b_X4_read_6 (by first | omega | assumption) (fun d_6 => ?_) (fun d_6 => ?_)
              · first
                | exact absurd d_6 (by omega)
                | (refine b_X4_read_12 (by first | omega | assumption) (by first | omega | assumption) (by first | omega | assumption) ?_
                   refine s_X4_faulty (MV.ty hMV1 hVS) ⟨hb1, hb2⟩ hbmx (fun W1 r v hSF hr hv hl => ?_)
                   have hr2 : r = p0 := hr.trans ((pF_congr hMV1.2.2.2.2 _ 0 0 0 0 (by decide)).trans hp0)
                   have hl2 := hl (hr2.trans (by omega))
                   rw [nb_congr hMV1.2.2.2.2 _ _ _ (by decide)] at hl2
                   clear hl
                   obtain ⟨hl3, hl4⟩ := hl2
                   have hMV2 := hMV1.sf hSF
                   have hM2 := hM1.as (hSF.2 0 (by decide) (by decide)) (funext fun k => hSF.1 10 k (by decide) (by decide))
                   refine b_X4_read_27 (by first | omega | assumption) (fun d_27 => ?_) (fun d_27 => ?_)
                   · first
                     | exact absurd d_27 (by omega)
                     | (refine b_X4_read_35 (by first | omega | assumption) ?_
                        refine s_X4_keeps hMV2.1 (fun wk hk1 hk2 => ?_)
                        have hMk := hM2.as (hk1 9 0 (by decide)) (funext fun k => hk1 10 k (by decide))
                        have hk9 : wk 9 0 = 10 := hMk.2.1
                        have hk97 : wk 9 7 = 14 := (hk1 9 7 (by decide)).trans hMV2.1.2.2.2.2.1
                        have hk98 : wk 9 8 = (nb TS t (t + 1).toNat 0 0).length := (hk1 9 8 (by decide)).trans hl3
                        have ak : al (wk 9 0) = 84 := by rw [hk9]; rfl
                        refine b_X4_read_39 (by first | omega | assumption) (by first | omega | assumption) (by first | omega | assumption) ?_
                        rw [hk9, hk98]
                        refine l_X4_read (m := ((nb TS t (t + 1).toNat 0 0).length : Int)) (w0 := wset wk 10 (42 * q) ((nb TS t (t + 1).toNat 0 0).length : Int)) hq ((ws_nr (by decide)).trans hk9) ((ws_nr (by decide)).trans hk97) ((ws_nr (by decide)).trans hk98) (by omega) (fun wb hb1 hb2 hb3 jj => ?_) _ _ 0 (Nat.lt_succ_self _) (by decide) (by omega) (fun _ _ _ => rfl) (fun _ _ => rfl) (fun i z1 z2 => by omega)
                        have e8 : wb 9 8 = (nb TS t (t + 1).toNat 0 0).length := (hb1 9 8 (by decide)).trans ((ws_nr (by decide)).trans hk98)
                        refine b_X4_read_87 ho9 ?_
                        rw [e8]
                        refine s_X4_act (RS1 := upR RS q (rdH (nb TS t (t + 1).toNat 0 0) b)) hMV2 hVS (by omega) (by omega) hk1 hk2 (fun r k z1 z2 z3 => by rw [hb1 r k z1, ws_nr z1]) (rowsUp hq hMV2.2.1 (fun p hp => (hVS.1 p hp).2.1) (fun k z => ?_) ?_) (fun w3 hFM hM3 => ?_)
                        · rw [hb2 k (by omega), ws_nk (by omega)]; exact hk1 10 k (by decide)
                        · refine ⟨?_, ?_, fun i z1 z2 => ?_⟩
                          · dsimp only
                            rw [Int.add_zero, hb2 _ (by omega), ws_eq, rdH_0]
                          · dsimp only
                            rw [hb2 _ (by omega), ws_nk (by omega), hk1 10 _ (by decide), rdH_1]
                            exact hM2.2.2.2.1
                          · rw [rdH_0] at z2
                            dsimp only
                            rw [← Int.add_assoc, hb3 i z1 z2, ws_nr (by decide), hk1 14 _ (by decide), rdH_i z1]
                            have y := hl4 i.toNat (by omega)
                            rw [Int.toNat_of_nonneg z1] at y
                            exact y
                        · refine b_X4_read_95 ?_
                          exact JE rfl (Inv.mk ((hC2.mv (SF.fm hSF)).mv hFM) hM3 (hVS.push (hVS.up hVi) hs4)))
                   · first
                     | exact absurd d_27 (by omega)
                     | (refine b_X4_read_32  ?_
                        exfalso
                        omega))
              · first
                | exact absurd d_6 (by omega)
                | (refine b_X4_read_9  ?_
                   exfalso
                   omega))
         · first
           | exact absurd c_27 (by omega)
           | (refine b_X3_read_31  ?_
              refine JQ.mk (by omega) ?_
              refine b_X4_read_0  ?_
              refine s_X4_in (by omega) (by omega) (by omega) (fun r hr => ?_)
              refine b_X4_read_6 (by first | omega | assumption) (fun d_6 => ?_) (fun d_6 => ?_)
              · first
                | exact absurd d_6 (by omega)
                | (refine b_X4_read_12 (by first | omega | assumption) (by first | omega | assumption) (by first | omega | assumption) ?_
                   refine s_X4_faulty (MV.ty hMV hVS) ⟨hb1, hb2⟩ hbm (fun W1 r v hSF hr hv hl => ?_)
                   have hr2 : r = p0 := hr.trans ((pF_congr hMV.2.2.2.2 _ 0 0 0 0 (by decide)).trans hp0)
                   have hI1 : Inv W1 := (SF.sd hSF).Inv hI
                   clear hl hr
                   refine b_X4_read_27 (by first | omega | assumption) (fun d_27 => ?_) (fun d_27 => ?_)
                   · first
                     | exact absurd d_27 (by omega)
                     | (refine b_X4_read_35 (by first | omega | assumption) ?_
                        refine False.elim (by omega)
                        refine b_X4_read_39 (by first | omega | assumption) (by first | omega | assumption) (by first | omega | assumption) ?_
                        exfalso; omega)
                   · first
                     | exact absurd d_27 (by omega)
                     | (refine b_X4_read_32  ?_
                        exact JE (by first | rfl | omega) hI1))
              · first
                | exact absurd d_6 (by omega)
                | (refine b_X4_read_9  ?_
                   exact JE (by first | rfl | omega) hI)))
    · first
      | exact absurd c_4 (by omega)
      | (refine b_X3_read_7  ?_
         refine JQ.mk (by omega) ?_
         refine b_X4_read_0  ?_
         refine s_X4_in (by omega) (by omega) (by omega) (fun r hr => ?_)
         refine b_X4_read_6 (by first | omega | assumption) (fun d_6 => ?_) (fun d_6 => ?_)
         · first
           | exact absurd d_6 (by omega)
           | (refine b_X4_read_12 (by first | omega | assumption) (by first | omega | assumption) (by first | omega | assumption) ?_
              refine s_X4_faulty (MV.ty hMV hVS) ⟨hb1, hb2⟩ hbm (fun W1 r v hSF hr hv hl => ?_)
              have hr2 : r = p0 := hr.trans ((pF_congr hMV.2.2.2.2 _ 0 0 0 0 (by decide)).trans hp0)
              have hI1 : Inv W1 := (SF.sd hSF).Inv hI
              clear hl hr
              refine b_X4_read_27 (by first | omega | assumption) (fun d_27 => ?_) (fun d_27 => ?_)
              · first
                | exact absurd d_27 (by omega)
                | (refine b_X4_read_35 (by first | omega | assumption) ?_
                   refine False.elim (by omega)
                   refine b_X4_read_39 (by first | omega | assumption) (by first | omega | assumption) (by first | omega | assumption) ?_
                   exfalso; omega)
              · first
                | exact absurd d_27 (by omega)
                | (refine b_X4_read_32  ?_
                   exact JE (by first | rfl | omega) hI1))
         · first
           | exact absurd d_6 (by omega)
           | (refine b_X4_read_9  ?_
              exact JE (by first | rfl | omega) hI))
  · have hq2 : q < 0 ∨ 1 < q := by omega
    refine b_X3_read_0  ?_
    refine s_X3_isRow (by omega) (fun r hr => ?_)
    refine b_X3_read_4 (by first | omega | assumption) (fun c_4 => ?_) (fun c_4 => ?_)
    · first
      | exact absurd c_4 (by omega)
      | (refine b_X3_read_10 (by first | omega | assumption) ?_
         refine s_X3_rowAt hra ?_
         refine b_X3_read_15 (by first | omega | assumption) (by first | omega | assumption) (by first | omega | assumption) ?_
         rw [c2, hb0]
         refine s_X2_firstFault (CV.tx hC hVS) ⟨hb1, hb2⟩ ?_
         rw [pF_congr hC.2.2.2.2.2.2.2.2 _ 0 0 0 0 (by decide)]
         have hpb := pF_bd (g := TS) (t := t) (lim := b) (t + 1).toNat 0 0 0 0 (by decide) (by decide) (by omega)
         generalize hp0 : pF TS t b (t + 1).toNat 0 0 0 0 = p0 at hpb ⊢
         refine b_X3_read_27 (by first | omega | assumption) (fun c_27 => ?_) (fun c_27 => ?_)
         · first
           | exact absurd c_27 (by omega)
           | (refine b_X3_read_34 (by first | omega | assumption) ?_
              refine s_X3_remember hC hVS (fun w1 o1 hF1 hC1 => ?_)
              have hCq := hC1.crw hqa
              have e11 : w1 a 1 = n := hCq.1.1.2.2.2.2.1.trans hRn
              refine b_X3_read_38 (by first | omega | assumption) (by first | omega | assumption) ?_
              have c21 : w1 0 3 = 7 := hC1.1.2.1
              rw [c21]
              refine s_X2_fill (hC1.tx (hVS.push (fun p hp => hVS.1 p hp) hs4)) hCq.1.1.ra ⟨hb1, hb2⟩ ((pF_congr hC1.2.2.2.2.2.2.2.2 _ 0 0 0 0 (by decide)).trans (hp0.trans (by omega))) (fun w2 hg1 hg2 hg3 hg4 => ?_)
              refine b_X3_read_46 (by first | omega | assumption) ?_
              exfalso
              omega)
         · first
           | exact absurd c_27 (by omega)
           | (refine b_X3_read_31  ?_
              refine JQ.mk (by omega) ?_
              refine b_X4_read_0  ?_
              refine s_X4_in (by omega) (by omega) (by omega) (fun r hr => ?_)
              refine b_X4_read_6 (by first | omega | assumption) (fun d_6 => ?_) (fun d_6 => ?_)
              · first
                | exact absurd d_6 (by omega)
                | (refine b_X4_read_12 (by first | omega | assumption) (by first | omega | assumption) (by first | omega | assumption) ?_
                   refine s_X4_faulty (MV.ty hMV hVS) ⟨hb1, hb2⟩ hbm (fun W1 r v hSF hr hv hl => ?_)
                   have hr2 : r = p0 := hr.trans ((pF_congr hMV.2.2.2.2 _ 0 0 0 0 (by decide)).trans hp0)
                   have hI1 : Inv W1 := (SF.sd hSF).Inv hI
                   clear hl hr
                   refine b_X4_read_27 (by first | omega | assumption) (fun d_27 => ?_) (fun d_27 => ?_)
                   · first
                     | exact absurd d_27 (by omega)
                     | (refine b_X4_read_35 (by first | omega | assumption) ?_
                        refine False.elim (by omega)
                        refine b_X4_read_39 (by first | omega | assumption) (by first | omega | assumption) (by first | omega | assumption) ?_
                        exfalso; omega)
                   · first
                     | exact absurd d_27 (by omega)
                     | (refine b_X4_read_32  ?_
                        exact JE (by first | rfl | omega) hI1))
              · first
                | exact absurd d_6 (by omega)
                | (refine b_X4_read_9  ?_
                   exact JE (by first | rfl | omega) hI)))
    · first
      | exact absurd c_4 (by omega)
      | (refine b_X3_read_7  ?_
         refine JQ.mk (by omega) ?_
         refine b_X4_read_0  ?_
         refine s_X4_in (by omega) (by omega) (by omega) (fun r hr => ?_)
         refine b_X4_read_6 (by first | omega | assumption) (fun d_6 => ?_) (fun d_6 => ?_)
         · first
           | exact absurd d_6 (by omega)
           | (refine b_X4_read_12 (by first | omega | assumption) (by first | omega | assumption) (by first | omega | assumption) ?_
              refine s_X4_faulty (MV.ty hMV hVS) ⟨hb1, hb2⟩ hbm (fun W1 r v hSF hr hv hl => ?_)
              have hr2 : r = p0 := hr.trans ((pF_congr hMV.2.2.2.2 _ 0 0 0 0 (by decide)).trans hp0)
              have hI1 : Inv W1 := (SF.sd hSF).Inv hI
              clear hl hr
              refine b_X4_read_27 (by first | omega | assumption) (fun d_27 => ?_) (fun d_27 => ?_)
              · first
                | exact absurd d_27 (by omega)
                | (refine b_X4_read_35 (by first | omega | assumption) ?_
                   refine False.elim (by omega)
                   refine b_X4_read_39 (by first | omega | assumption) (by first | omega | assumption) (by first | omega | assumption) ?_
                   exfalso; omega)
              · first
                | exact absurd d_27 (by omega)
                | (refine b_X4_read_32  ?_
                   exact JE (by first | rfl | omega) hI1))
         · first
           | exact absurd d_6 (by omega)
           | (refine b_X4_read_9  ?_
              exact JE (by first | rfl | omega) hI))

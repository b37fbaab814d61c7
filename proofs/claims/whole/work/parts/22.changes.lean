theorem FC.rf {w : rW} : FC w w := fun _ _ _ => rfl
theorem FC.set {w w1 : rW} {r k v : Int} (h : FC w w1) (hr : r ≤ 8) : FC w (wset w1 r k v) := fun r1 k1 z => by
  rw [ws_nr (by omega)]; exact h r1 k1 z
theorem MR.as {w w1 : rW} {q n b : Int} (h : MR w q n b) (e9 : w1 9 0 = w 9 0) (e10 : w1 10 = w 10) : MR w1 q n b := by
  obtain ⟨g1, g2, g3, g4, g5, g6, g7, g8, g9⟩ := h
  have em : mf w1 q = mf w q := funext fun i => by unfold mf; rw [e10]
  exact ⟨g1, e9.trans g2, by rw [e10]; exact g3, by rw [e10]; exact g4, g5, g6, g7, g8, by rw [em]; exact g9⟩
theorem MR.fc {w w1 : rW} {q n b : Int} (h : MR w q n b) (hF : FC w w1) : MR w1 q n b := h.as (hF 9 0 (by decide)) (funext fun k => hF 10 k (by decide))
theorem rowsUp {w1 wb : rW} {q : Int} {RS : Int → Int → Int} {H : Int → Int} (hq : q = 0 ∨ q = 1) (hold : ∀ p, (p = 0 ∨ p = 1) → KR (fun k => w1 10 (42 * p + k)) (RS p)) (h40 : ∀ p, (p = 0 ∨ p = 1) → RS p 0 ≤ 40) (hch : ∀ k, ¬ (42 * q ≤ k ∧ k < 42 * q + 42) → wb 10 k = w1 10 k) (hnew : KR (fun k => wb 10 (42 * q + k)) H) : ∀ p, (p = 0 ∨ p = 1) → KR (fun k => wb 10 (42 * p + k)) (upR RS q H p) := by
  intro p hp
  by_cases z : p = q
  · rw [z, upR_s]; exact hnew
  · rw [upR_n z]
    exact (hold p hp).mv (h40 p hp) (fun k g1 g2 => hch _ (by omega))
theorem CV.crw {w : rW} {a0 a1 o s t q a : Int} {RS : Int → Int → Int} {HS : Int → Int → Int → Int} {TS : Int → Int} (h : CV w a0 a1 RS HS o s t TS) (hq : (q = 0 ∧ a = a0) ∨ (q = 1 ∧ a = a1)) : CRw w a (RS q) := by
  rcases hq with ⟨rfl, rfl⟩ | ⟨rfl, rfl⟩
  · exact h.2.2.2.2.1
  · exact h.2.2.2.2.2.1
def clrH (H : Int → Int) : Int → Int := fun k => if k = 0 then 0 else H k
theorem clrH_0 {H : Int → Int} : clrH H 0 = 0 := rfl
theorem clrH_k {H : Int → Int} {k : Int} (h : k ≠ 0) : clrH H k = H k := if_neg h
theorem clrH_v {H : Int → Int} (h : VK H) : VK (clrH H) := by
  obtain ⟨v0, v1, v2, v3, v4⟩ := h
  unfold VK
  rw [clrH_0, clrH_k (by decide)]
  exact ⟨by decide, by decide, v2, v3, fun i g1 g2 => by omega, fun i j g1 g2 g3 => by omega⟩
def bndH (H : Int → Int) (b : Int) : Int → Int := fun k => if k = 1 then b else H k
theorem bndH_1 {H : Int → Int} {b : Int} : bndH H b 1 = b := rfl
theorem bndH_k {H : Int → Int} {b k : Int} (h : k ≠ 1) : bndH H b k = H k := if_neg h
theorem bndH_v {H : Int → Int} {b : Int} (h : VK H) (hb : 2 ≤ b ∧ b ≤ 4096) (hl : ∀ i, 0 ≤ i → i < H 0 → H (2 + i) < b) : VK (bndH H b) := by
  obtain ⟨v0, v1, v2, v3, v4⟩ := h
  unfold VK
  rw [bndH_1, bndH_k (by decide)]
  refine ⟨v0, v1, hb.1, hb.2, fun i g1 g2 => ?_, fun i j g1 g2 g3 => ?_⟩
  · dsimp only
    rw [bndH_k (by omega)]
    exact ⟨(v4.1 i g1 g2).1, hl i g1 g2⟩
  · dsimp only
    rw [bndH_k (by omega), bndH_k (by omega)]
    exact v4.2 i j g1 g2 g3

theorem j_clear {w : rW} {q : Int} (hI : Inv w) (hqr : R32 q) : WP M_X3_clear 0 [vr 0, vi q, vu, vu] [] w (JQ M_X4_clear [vr 9, vi q, vu]) := by
  have ho0 : oc 0 = 3 := rfl
  have ho9 : oc 9 = 4 := rfl
  by_cases hq : q = 0 ∨ q = 1
  · skip
    obtain ⟨a, n, b, hra, hR, hM, hV, hE⟩ := hI.row hq
    obtain ⟨h, hb0, hb1, hb2⟩ := id hR
    obtain ⟨ha13, ho, ha1, h0, h1, hn0, hn4, hv⟩ := id h
    have hn : 0 ≤ n ∧ n ≤ 40 := ⟨hn0, hn4⟩
    have hb : 1 ≤ b ∧ b ≤ 4096 := ⟨by omega, hb2⟩
    have hwb := wd_bd hn.1 hb.2
    have hpw := p2_w hn.1 hb.2
    have hub := ub_bd hn hb
    have hzb := zf_bd hn.1 hb.1 hb.2
    have hsz := szf_bd hn hb
    have hun := unl_bd (f := w (a + 1)) hn0
    have hu9 : w 9 9 = 15 := hI.1.2.2.2.2.2.2.2.2.2.1
    have hu11 : w 9 11 = 16 := hI.1.2.2.2.2.2.2.2.2.2.2.1
    have ha0 : al (w 9 0) = 84 := by rw [hM.2.1]; rfl
    have hbm : w (w 9 0) (42 * q + 1) = b := by rw [hM.2.1]; exact hM.2.2.2.1
    obtain ⟨a0, a1, o, s, t, RS, HS, TS, hC, hMV, hVS⟩ := hI.to
    have hC4 := hC.2.1
    have hC5 := hC.2.2.1
    have hs4 : 0 ≤ s ∧ s ≤ 4 := ⟨hMV.2.2.1.2.1, hMV.2.2.1.2.2.1⟩
    have hqa : (q = 0 ∧ a = a0) ∨ (q = 1 ∧ a = a1) := by omega
    have hRn : RS q 0 = n := ((hMV.2.1 q hq).k0).symm.trans hM.2.2.1
    have hRb : RS q 1 = b := (hMV.2.1 q hq).2.1.symm.trans hM.2.2.2.1
    have hVq := hVS.1 q hq
    refine b_X3_clear_0  ?_
    refine s_X3_isRow (by omega) (fun r hr => ?_)
    refine b_X3_clear_4 (by first | omega | assumption) (fun c_4 => ?_) (fun c_4 => ?_)
    · first
      | exact absurd c_4 (by omega)
      | (refine b_X3_clear_10 (by first | omega | assumption) ?_
         refine s_X3_rowAt hra ?_
         refine b_X3_clear_15 (by first | omega | assumption) ?_
         refine s_X3_remember hC hVS (fun w1 o1 hF1 hC1 => ?_)
         have hCq := hC1.crw hqa
         have e11 : w1 a 1 = n := hCq.1.1.2.2.2.2.1.trans hRn
         refine b_X3_clear_20 (by first | omega | assumption) ?_
         have hFC : FC w (wset w1 a 1 0) := hF1.set (by omega)
         have hM1 := hM.fc hFC
         have hMV1 := hMV.mv hFC
         have hC2 := hC1.row (w1 := wset w1 a 1 0) (H := clrH (RS q)) hqa (fun r k z1 z2 => ws_nr z1) (CRw.of (by
           obtain ⟨y1, y2, y3, y4⟩ := hCq.1.1.ra
           exact ⟨y1, y2, y3, by rw [ws_nk (by decide)]; exact y4⟩) (clrH_v hVq) (ws_eq _ _ _ _) (by rw [ws_nk (by decide), clrH_k (by decide)]; exact hCq.1.2.1) (fun i z1 z2 => by rw [clrH_0] at z2; omega))
         rw [e11]
         refine JQ.mk (by omega) ?_
         refine b_X4_clear_0  ?_
         refine s_X4_in (by omega) (by omega) (by omega) (fun r hr => ?_)
         refine b_X4_clear_6 (by first | omega | assumption) (fun d_6 => ?_) (fun d_6 => ?_)
         · first
           | exact absurd d_6 (by omega)
           | (refine b_X4_clear_12 (by first | omega | assumption) ?_
              refine s_X4_keeps hMV1.1 (fun wk hk1 hk2 => ?_)
              have hMk := hM1.as (hk1 9 0 (by decide)) (funext fun k => hk1 10 k (by decide))
              have hk9 : wk 9 0 = 10 := hMk.2.1
              have ak : al (wk 9 0) = 84 := by rw [hk9]; rfl
              refine b_X4_clear_16 (by first | omega | assumption) ?_
              refine s_X4_many hMk ?_
              refine b_X4_clear_21 (by first | omega | assumption) (by first | omega | assumption) (by first | omega | assumption) ?_
              rw [hk9]
              refine s_X4_act (RS1 := upR RS q (clrH (RS q))) hMV1 hVS (by omega) (by omega) hk1 hk2 (fun r k z1 z2 z3 => ws_nr z1) (rowsUp hq hMV1.2.1 (fun p hp => (hVS.1 p hp).2.1) (fun k z => ?_) ?_) (fun w2 hFM hM2 => ?_)
              · rw [ws_nk (by omega)]; exact hk1 10 k (by decide)
              · refine ⟨?_, ?_, fun i z1 z2 => ?_⟩
                · dsimp only
                  rw [Int.add_zero, ws_eq]; rfl
                · dsimp only
                  rw [ws_nk (by omega), hk1 10 _ (by decide), clrH_k (by decide)]
                  exact (hMV1.2.1 q hq).2.1
                · rw [clrH_0] at z2; omega
              refine b_X4_clear_37  ?_
              exact JE rfl (Inv.mk (hC2.mv hFM) hM2 (hVS.push (hVS.up (clrH_v hVq)) hs4)))
         · first
           | exact absurd d_6 (by omega)
           | (refine b_X4_clear_9  ?_
              exfalso
              omega))
    · first
      | exact absurd c_4 (by omega)
      | (refine b_X3_clear_7  ?_
         refine JQ.mk (by omega) ?_
         refine b_X4_clear_0  ?_
         refine s_X4_in (by omega) (by omega) (by omega) (fun r hr => ?_)
         refine b_X4_clear_6 (by first | omega | assumption) (fun d_6 => ?_) (fun d_6 => ?_)
         · first
           | exact absurd d_6 (by omega)
           | (refine b_X4_clear_12 (by first | omega | assumption) ?_
              refine False.elim (by omega)
              refine b_X4_clear_16 (by first | omega | assumption) ?_
              refine s_X4_many hM ?_
              refine b_X4_clear_21 (by first | omega | assumption) (by first | omega | assumption) (by first | omega | assumption) ?_
              exfalso
              omega
              refine b_X4_clear_37  ?_
              exact JE (by first | rfl | omega) hI)
         · first
           | exact absurd d_6 (by omega)
           | (refine b_X4_clear_9  ?_
              exact JE (by first | rfl | omega) hI))
  · have hq2 : q < 0 ∨ 1 < q := by omega
    refine b_X3_clear_0  ?_
    refine s_X3_isRow (by omega) (fun r hr => ?_)
    refine b_X3_clear_4 (by first | omega | assumption) (fun c_4 => ?_) (fun c_4 => ?_)
    · first
      | exact absurd c_4 (by omega)
      | (refine b_X3_clear_10 (by first | omega | assumption) ?_
         refine s_X3_rowAt hra ?_
         refine b_X3_clear_15 (by first | omega | assumption) ?_
         refine s_X3_remember hC hVS (fun w1 o1 hF1 hC1 => ?_)
         have hCq := hC1.crw hqa
         have e11 : w1 a 1 = n := hCq.1.1.2.2.2.2.1.trans hRn
         refine b_X3_clear_20 (by first | omega | assumption) ?_
         exfalso
         omega)
    · first
      | exact absurd c_4 (by omega)
      | (refine b_X3_clear_7  ?_
         refine JQ.mk (by omega) ?_
         refine b_X4_clear_0  ?_
         refine s_X4_in (by omega) (by omega) (by omega) (fun r hr => ?_)
         refine b_X4_clear_6 (by first | omega | assumption) (fun d_6 => ?_) (fun d_6 => ?_)
         · first
           | exact absurd d_6 (by omega)
           | (refine b_X4_clear_12 (by first | omega | assumption) ?_
              refine False.elim (by omega)
              refine b_X4_clear_16 (by first | omega | assumption) ?_
              refine s_X4_many hM ?_
              refine b_X4_clear_21 (by first | omega | assumption) (by first | omega | assumption) (by first | omega | assumption) ?_
              exfalso
              omega
              refine b_X4_clear_37  ?_
              exact JE (by first | rfl | omega) hI)
         · first
           | exact absurd d_6 (by omega)
           | (refine b_X4_clear_9  ?_
              exact JE (by first | rfl | omega) hI))

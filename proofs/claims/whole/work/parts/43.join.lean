theorem j_join {w : rW} {q : Int} (hI : Inv w) (hqr : R32 q) : WP M_X3_join 0 [vr 0, vi q, vu, vu, vu] [] w (JQ M_X4_join [vr 9, vi q, vu, vu, vu, vu, vu]) := by
  have ho0 : oc 0 = 3 := rfl
  have ho9 : oc 9 = 4 := rfl
  obtain ⟨a0, a1, o, s, t, RS, HS, TS, hC, hMV, hVS⟩ := hI.to
  have hs4 : 0 ≤ s ∧ s ≤ 4 := ⟨hMV.2.2.1.2.1, hMV.2.2.1.2.2.1⟩
  refine b_X3_join_0 ?_
  refine s_X3_isWithin (by omega) (by omega) (by omega) (fun r hr => ?_)
  refine b_X3_join_6 (by omega) (fun g => ?_) (fun g => ?_)
  · have hq : q = 0 ∨ q = 1 := by omega
    have hV0 := hVS.1 0 (Or.inl rfl)
    have hV1 := hVS.1 1 (Or.inr rfl)
    obtain ⟨n0, n4, b0, b4, bF0, sF⟩ := id hV0
    obtain ⟨m0, m4, c0, c4, bG0, sG⟩ := id hV1
    have e0 := hC.2.1
    have e1 := hC.2.2.1
    have hac := hC.2.2.2.1
    have hC0 := hC.2.2.2.2.1
    have hC1 := hC.2.2.2.2.2.1
    have bF : inB (fun i => RS 0 (2 + i)) (RS 0 0) := fun i i0 i1 => by have y := bF0 i i0 i1; omega
    have bG : inB (fun i => RS 1 (2 + i)) (RS 1 0) := fun i i0 i1 => by have y := bG0 i i0 i1; omega
    have hzb := jz_bd (o := q) (f := fun i => RS 0 (2 + i)) (g := fun i => RS 1 (2 + i)) ⟨n0, n4⟩ ⟨m0, m4⟩
    have main : ∀ s0 : Int, s0 = q → WP M_X3_join 22 [vr 0, vi q, vu, vu, vu] [vi s0] w (JQ M_X4_join [vr 9, vi q, vu, vu, vu, vu, vu]) := fun s0 hs0 => by
      rw [hs0]
      refine b_X3_join_22 ho0 ?_
      refine s_X3_joinedSize e0 e1 hC0.1.1 hC1.1.1 hqr ?_
      rw [jz_congr (f2 := fun i => RS 0 (2 + i)) (g2 := fun i => RS 1 (2 + i)) m0 hC0.2 hC1.2]
      refine b_X3_join_28 (by omega) (fun g1 => ?_) (fun g1 => ?_)
      · refine b_X3_join_36 ho0 ?_
        refine s_X3_remember hC hVS (fun w1 o1 hF1 hCk => ?_)
        have f0 := hCk.2.1
        have f1 := hCk.2.2.1
        have hD0 := hCk.2.2.2.2.1
        have hD1 := hCk.2.2.2.2.2.1
        have c53 : ∀ (w2 : rW) (k : Int), (∀ r p, r ≠ a0 → r ≠ a0 + 1 → w2 r p = w1 r p) → (∀ p, p ≠ 1 → w2 a0 p = w1 a0 p) → R0 w2 a0 k → JN q (fun i => RS 0 (2 + i)) (RS 0 0) (fun i => RS 1 (2 + i)) 0 (w2 (a0 + 1)) k → WP M_X3_join 53 [vr 0, vi q, vi q, vi 0, vu] [] w2 (JQ M_X4_join [vr 9, vi q, vu, vu, vu, vu, vu]) := fun w2 k hF2 hA2 hR2 hJ2 => by
          refine l_X3_join f0 f1 hac hD1.1.1 hD1.2 hq n0 sF sG bF bG g1 (fun w3 k3 i3 hF3 hA3 hR3 hJ3 => ?_) _ w2 0 k (Nat.lt_succ_self _) (Int.le_refl _) m0 hF2 hA2 hR2 hJ2
          obtain ⟨a13, ao, aal, r0, r1, k0, k4, av⟩ := id hR3
          have x0 : w3 0 0 = a0 := (hF3 0 0 (by omega) (by omega)).trans f0
          have x1 : w3 0 1 = a1 := (hF3 0 1 (by omega) (by omega)).trans f1
          have y0 : w3 a0 2 = RS 0 1 := (hA3 2 (by decide)).trans hD0.1.2.1
          have y1 : w3 a1 2 = RS 1 1 := (hF3 a1 2 (by omega) (by omega)).trans hD1.1.2.1
          have z0 : wset w3 a0 2 (max (RS 0 1) (RS 1 1)) 0 0 = a0 := (ws_nr (by omega)).trans x0
          have z1 : wset w3 a0 2 (max (RS 0 1) (RS 1 1)) a0 1 = k3 := (ws_nk (by decide)).trans r1
          refine b_X3_join_106 ho0 (by rw [x0]; exact ao) (by rw [x1]; exact hD1.1.1.2.1) (by rw [x0]; omega) (by rw [x1]; omega) (by rw [x0, x1, y0, y1, z0]; exact ao) ?_
          rw [x0, x1, y0, y1, z0, z1]
          have hb4 : 2 ≤ max (RS 0 1) (RS 1 1) ∧ max (RS 0 1) (RS 1 1) ≤ 4096 := by omega
          have hval : ∀ (f : Int → Int) (kk : Int), 0 ≤ kk → JN q (fun i => RS 0 (2 + i)) (RS 0 0) (fun i => RS 1 (2 + i)) (RS 1 0) f kk → ∀ i, 0 ≤ i → i < kk → 0 ≤ f i ∧ f i < max (RS 0 1) (RS 1 1) := fun f kk hkk hJJ i i0 i1 => by
            rcases (hJJ.mem n0 m0 hkk sF sG).mp ⟨i, i0, i1, rfl⟩ with ⟨p, p0, p1, e⟩ | ⟨p, p0, p1, e⟩
            · have y := bF0 p p0 p1
              dsimp only at y e
              omega
            · have y := bG0 p p0 p1
              dsimp only at y e
              omega
          have hVH : VK (jnH (w3 (a0 + 1)) k3 (max (RS 0 1) (RS 1 1))) := jnH_v ⟨k0, k4⟩ hb4 hJ3.srt (hval _ _ k0 hJ3)
          have eb : wset w3 a0 2 (max (RS 0 1) (RS 1 1)) (a0 + 1) = w3 (a0 + 1) := funext fun p => ws_nr (by omega)
          have hC2 := hCk.row (q := 0) (w1 := wset w3 a0 2 (max (RS 0 1) (RS 1 1))) (H := jnH (w3 (a0 + 1)) k3 (max (RS 0 1) (RS 1 1))) (Or.inl ⟨rfl, rfl⟩) (fun r p z1 z2 => by rw [ws_nr z1]; exact hF3 r p z1 z2) (CRw.of ⟨a13, ao, aal, by rw [ws_nk (by decide)]; exact r0⟩ hVH z1 (ws_eq _ _ _ _) (fun i i0 i1 => by rw [eb, jnH_i i0]))
          have hFC : FC w (wset w3 a0 2 (max (RS 0 1) (RS 1 1))) := FC.set (hF1.tr (fun r p z => hF3 r p (by omega) (by omega))) (by omega)
          have hMV4 := hMV.mv hFC
          have hK0 := Lk.mr (w := wset w3 a0 2 (max (RS 0 1) (RS 1 1))) (Or.inl rfl) hMV4.1.1 (hMV4.2.1 0 (Or.inl rfl)) hV0
          have hK1 := Lk.mr (w := wset w3 a0 2 (max (RS 0 1) (RS 1 1))) (Or.inr rfl) hMV4.1.1 (hMV4.2.1 1 (Or.inr rfl)) hV1
          have hsz := hJ3.size n0 m0 k0 sF sG bF bG
          refine JQ.mk (by omega) ?_
          refine s_X4_merge hK0.1 hK1.1 hMV4.1.2.2.2.2.2.2.2 hK0.2 hK1.2 hq sF sG bF bG (fun w5 t5 hF5 t0 t80 hJ5 => ?_)
          obtain ⟨ek, ev⟩ := JN.one k0 t0 hJ3 hJ5
          have hMV5 := hMV4.j17 hF5
          refine b_X4_join_166 (by omega) (fun _ => ?_) (fun g2 => absurd g2 (by omega))
          refine b_X4_join_175 ho9 ?_
          refine s_X4_keeps hMV5.1 (fun wk hk1 hk2 => ?_)
          have hk9 : wk 9 0 = 10 := (hk1 9 0 (by decide)).trans hMV5.1.1
          have hk15 : wk 9 15 = 17 := (hk1 9 15 (by decide)).trans hMV5.1.2.2.2.2.2.2.2
          have h17 : wk 17 = w5 17 := funext fun p => hk1 17 p (by decide)
          refine b_X4_join_179 ho9 (by rw [hk9]; decide) ?_
          rw [hk9]
          refine lc_X4_join (w0 := wset wk 10 0 t5) ((ws_nr (by decide)).trans hk9) ((ws_nr (by decide)).trans hk15) (by omega) (fun wb jj hb1 hb2 hb3 => ?_) _ _ 0 (Nat.lt_succ_self _) (Int.le_refl _) t0 (fun _ _ _ => rfl) (fun _ _ => rfl) (fun i i0 i1 => by omega)
          have hb9 : wb 9 0 = 10 := (hb1 9 0 (by decide)).trans ((ws_nr (by decide)).trans hk9)
          have hbO : ∀ p, ¬ (2 ≤ p ∧ p < 42) → p ≠ 0 → wb 10 p = w5 10 p := fun p x1 x2 => (hb2 p x1).trans ((ws_nk x2).trans (hk1 10 p (by decide)))
          have v43 : wb 10 43 = RS 1 1 := (hbO 43 (by omega) (by decide)).trans (hMV5.2.1 1 (Or.inr rfl)).2.1
          have v1 : wb 10 1 = RS 0 1 := (hbO 1 (by omega) (by decide)).trans (hMV5.2.1 0 (Or.inl rfl)).2.1
          have ab : al (wb 9 0) = 84 := by rw [hb9]; rfl
          have c254 : ∀ v : Int, v = max (RS 0 1) (RS 1 1) → WP M_X4_join 254 [vr 9, vi q, vi t5, vi (RS 0 0), vi (RS 1 0), vi jj, vu] [vi v, vi 1, vr 10] wb (fun v2 w2 => v2 = [vi k3] ∧ Inv w2) := fun v hv => by
            refine b_X4_join_254 (by decide) (by decide) ho9 ?_
            refine s_X4_act (RS1 := upR RS 0 (jnH (w3 (a0 + 1)) k3 (max (RS 0 1) (RS 1 1)))) hMV5 hVS (by omega) (by omega) hk1 hk2 (fun r p x1 x2 x3 => by rw [ws_nr x1, hb1 r p x1, ws_nr x1]) (rowsUp (Or.inl rfl) hMV5.2.1 (fun p hp => (hVS.1 p hp).2.1) (fun p x => ?_) ?_) (fun w6 hFM hM6 => ?_)
            · rw [ws_nk (by omega)]; exact hbO p (by omega) (by omega)
            · refine ⟨?_, ?_, fun i i0 i1 => ?_⟩
              · dsimp only
                rw [show (42 : Int) * 0 + 0 = 0 by decide, ws_nk (by decide), hb2 0 (by omega), ws_eq, jnH_0]
                exact ek.symm
              · dsimp only
                rw [show (42 : Int) * 0 + 1 = 1 by decide, ws_eq, jnH_1]
                exact hv
              · rw [jnH_0] at i1
                dsimp only
                rw [show (42 : Int) * 0 + (2 + i) = 2 + i by omega, ws_nk (by omega), hb3 i i0 (by omega), ws_nr (by decide), h17, jnH_i i0]
                exact (ev i i0 i1).symm
            · refine b_X4_join_260 ?_
              exact JE ek.symm (Inv.mk ((hC2.mv (fun r p x => hF5 r p (by omega))).mv hFM) hM6 (hVS.push (hVS.up hVH) hs4))
          refine b_X4_join_217 ho9 (by omega) (by omega) (by rw [hb9]; omega) (by rw [hb9]; omega) (fun g2 => ?_) (fun g2 => ?_)
          · rw [hb9, v43, v1] at g2
            refine b_X4_join_248 ho9 (by omega) ?_
            rw [hb9, v1]
            exact c254 _ (by omega)
          · rw [hb9, v43, v1] at g2
            refine b_X4_join_238 ho9 (by omega) ?_
            rw [hb9, v43]
            exact c254 _ (by omega)
        refine b_X3_join_40 hqr (fun g2 => ?_) (fun g2 => ?_)
        · refine b_X3_join_51 ?_
          exact c53 w1 (RS 0 0) (fun _ _ _ _ => rfl) (fun _ _ => rfl) hD0.1.1 (JN.of0 g2 n0 sF hD0.2)
        · refine b_X3_join_44 ho0 (by rw [f0]; exact hD0.1.1.2.1) ?_
          rw [f0]
          refine s_X1_dropRepeated hD0.1.1 (sF.to hD0.2) (fun w2 k2 hF2 hA2 hR2 hS2 hm2 => ?_)
          refine b_X3_join_51 ?_
          refine c53 w2 k2 hF2 hA2 hR2 (JN.of1 g2 hS2 (fun u => (hm2 u).trans ⟨fun ⟨i, i0, i1, e⟩ => ⟨i, i0, i1, (hD0.2 i i0 i1).symm.trans e⟩, fun ⟨i, i0, i1, e⟩ => ⟨i, i0, i1, (hD0.2 i i0 i1).trans e⟩⟩))
      · refine b_X3_join_33 ?_
        have hK0 := Lk.mr (w := w) (Or.inl rfl) hMV.1.1 (hMV.2.1 0 (Or.inl rfl)) hV0
        have hK1 := Lk.mr (w := w) (Or.inr rfl) hMV.1.1 (hMV.2.1 1 (Or.inr rfl)) hV1
        refine JQ.mk (by omega) ?_
        refine s_X4_merge hK0.1 hK1.1 hMV.1.2.2.2.2.2.2.2 hK0.2 hK1.2 hq sF sG bF bG (fun w5 t5 hF5 t0 t80 hJ5 => ?_)
        have hsz := hJ5.size n0 m0 t0 sF sG bF bG
        refine b_X4_join_166 (by omega) (fun g2 => absurd g2 (by omega)) (fun _ => ?_)
        refine b_X4_join_172 ?_
        exact JE rfl ((Sd.j17 hF5).Inv hI)
    refine b_X3_join_12 hqr (fun g1 => b_X3_join_21 (main 0 (by omega))) (fun g1 => b_X3_join_17 (main 1 (by omega)))
  · refine b_X3_join_9 (JQ.mk (by omega) ?_)
    refine b_X4_join_0 ?_
    refine s_X4_in (by omega) (by omega) (by omega) (fun r2 hr2 => ?_)
    refine b_X4_join_6 (by omega) (fun g1 => absurd g1 (by omega)) (fun _ => ?_)
    exact b_X4_join_9 (JE rfl hI)


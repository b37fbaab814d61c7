/-! exchange -/
def swR (RS : Int → Int → Int) : Int → Int → Int := fun p => if p = 0 then RS 1 else RS 0
theorem l_X4_exchange {Q : List rV → rW → Prop} {wk : rW} (hr : Mr wk) (hQ : ∀ w1, (∀ r k, r ≠ 10 → w1 r k = wk r k) → (∀ k, 0 ≤ k → k < 42 → w1 10 k = wk 12 (42 + k) ∧ w1 10 (42 + k) = wk 12 k) → WP M_X4_exchange 48 [vr 9, vi 42] [] w1 Q) : ∀ (k : Nat) (w : rW) (j : Int), (42 - j).toNat < k → 0 ≤ j → j ≤ 42 → (∀ r k, r ≠ 10 → w r k = wk r k) → (∀ k, 0 ≤ k → k < j → w 10 k = wk 12 (42 + k) ∧ w 10 (42 + k) = wk 12 k) → WP M_X4_exchange 6 [vr 9, vi j] [] w Q := by
  intro k
  induction k with
  | zero => intro w j hk; omega
  | succ k ih =>
    intro w j hk hj0 hj1 hF hB
    have ho : oc 9 = 4 := rfl
    have e0 : w 9 0 = 10 := (hF 9 0 (by decide)).trans hr.1
    have e2 : w 9 2 = 12 := (hF 9 2 (by decide)).trans hr.2.2.1
    have a0 : al (w 9 0) = 84 := by rw [e0]; rfl
    have a2 : al (w 9 2) = 84 := by rw [e2]; rfl
    have r1 : ∀ v, wset w 10 j v 9 0 = 10 := fun v => (ws_nr (by decide)).trans e0
    have r2 : ∀ v, wset w 10 j v 9 2 = 12 := fun v => (ws_nr (by decide)).trans e2
    have r3 : ∀ v k, wset w 10 j v 12 k = w 12 k := fun v k => ws_nr (by decide)
    have a3 : al 12 = 84 := rfl
    have a4 : al 10 = 84 := rfl
    refine b_X4_exchange_6 (by omega) (fun g => ?_) (fun g => ?_)
    · have ej : j = 42 := by omega
      rw [ej] at hB ⊢
      exact hQ w hF hB
    · refine b_X4_exchange_12 ho (by omega) (by omega) hj0 (by omega) (by rw [e0, r2, a3]; omega) (by rw [e0, r1, a4]; omega) ?_
      rw [e0, e2, r1, r2, r3]
      refine ih _ _ (by omega) (by omega) (by omega) (fun r k g1 => ?_) (fun k g1 g2 => ?_)
      · rw [ws_nr g1, ws_nr g1]; exact hF r k g1
      · by_cases y : k = j
        · rw [y, ws_eq, ws_nk (by omega), ws_eq]
          exact ⟨hF 12 _ (by decide), hF 12 _ (by decide)⟩
        · rw [ws_nk (by omega), ws_nk y, ws_nk (by omega), ws_nk (by omega)]
          exact hB k g1 (by omega)

theorem j_exchange {w : rW} (hI : Inv w)  : WP M_X3_exchange 0 [vr 0, vu] [] w (JQ M_X4_exchange [vr 9, vu]) := by
  have ho0 : oc 0 = 3 := rfl
  have ho9 : oc 9 = 4 := rfl
  · skip
    obtain ⟨a0, a1, o, s, t, RS, HS, TS, hC, hMV, hVS⟩ := hI.to
    have hC4 := hC.2.1
    have hC5 := hC.2.2.1
    have hs4 : 0 ≤ s ∧ s ≤ 4 := ⟨hMV.2.2.1.2.1, hMV.2.2.1.2.2.1⟩
    refine b_X3_exchange_0 (by first | omega | assumption) ?_
    refine s_X3_remember hC hVS (fun w1 o1 hF1 hC1 => ?_)
    have oe : oc (wset (wset w1 0 0 (w1 0 1)) 0 1 (w1 0 0) 0 0) = 1 := by
      rw [ws_nk (by decide), ws_eq, hC1.2.2.1]
      exact hC1.2.2.2.2.2.1.1.1.2.1
    refine b_X3_exchange_4 (by first | omega | assumption) (by first | omega | assumption) ?_
    have d0 : w1 0 0 = a0 := hC1.2.1
    have d1 : w1 0 1 = a1 := hC1.2.2.1
    rw [d0, d1]
    obtain ⟨⟨c1, c2, c3⟩, c4, c5, c6, c7, c8, c9, c10, c11⟩ := id hC1
    have f00 : wset (wset w1 0 0 a1) 0 1 a0 0 0 = a1 := by rw [ws_nk (by decide), ws_eq]
    have fr : ∀ r, r ≠ 0 → wset (wset w1 0 0 a1) 0 1 a0 r = w1 r := fun r z => funext fun k => by rw [ws_nr z, ws_nr z]
    rw [f00, show wset (wset w1 0 0 a1) 0 1 a0 a1 1 = RS 1 0 from by rw [fr a1 (by omega)]; exact c8.1.1.2.2.2.2.1]
    have hFC : FC w (wset (wset w1 0 0 a1) 0 1 a0) := (hF1.set (by decide)).set (by decide)
    have hMV1 := hMV.mv hFC
    have hC2 : CV (wset (wset w1 0 0 a1) 0 1 a0) a1 a0 (swR RS) (pushH HS s RS) o1 (pushN s) t TS := ⟨⟨by rw [ws_nk (by decide), ws_nk (by decide)]; exact c1, by rw [ws_nk (by decide), ws_nk (by decide)]; exact c2, by rw [fr 7 (by decide)]; exact c3⟩, f00, ws_eq _ _ _ _, by omega, c8.mv (fr _ (by omega)) (fr _ (by omega)), c7.mv (fr _ (by omega)) (fr _ (by omega)), c9.mv (fr _ (by decide)) (fr _ (by decide)), by rw [fr 7 (by decide)]; exact c10, by rw [fr 8 (by decide)]; exact c11⟩
    have hr40 := fun p hp => (hVS.1 p hp).2.1
    have hr0 := fun p hp => (hVS.1 p hp).1
    have hr1b := hr40 1 (Or.inr rfl)
    have hr1a := hr0 1 (Or.inr rfl)
    refine JQ.mk (by omega) ?_
    refine b_X4_exchange_0 (by first | omega | assumption) ?_
    refine s_X4_keeps hMV1.1 (fun wk hk1 hk2 => ?_)
    refine b_X4_exchange_4  ?_
    have hrk : Mr wk := by
      obtain ⟨x1, x2, x3, x4, x5, x6, x7, x8⟩ := hMV1.1
      refine ⟨?_, ?_, ?_, ?_, ?_, ?_, ?_, ?_⟩ <;> rw [hk1 9 _ (by decide)] <;> assumption
    refine l_X4_exchange hrk (fun wb hb1 hb2 => ?_) _ _ 0 (Nat.lt_succ_self _) (by decide) (by decide) (fun _ _ _ => rfl) (fun k z1 z2 => by omega)
    have e90 : wb 9 0 = 10 := (hb1 9 0 (by decide)).trans hrk.1
    have krow : ∀ p, (p = 0 ∨ p = 1) → KR (fun k => wb 10 (42 * p + k)) (swR RS p) := fun p hp => by
      rcases hp with rfl | rfl
      · refine (hMV1.2.1 1 (Or.inr rfl)).mv hr1b (fun k z1 z2 => ?_)
        rw [show 42 * 0 + k = k by omega, (hb2 k z1 z2).1, hk2 _ (by omega) (by omega), show 42 * 1 + k = 42 + k by omega]
      · refine (hMV1.2.1 0 (Or.inl rfl)).mv (hr40 0 (Or.inl rfl)) (fun k z1 z2 => ?_)
        rw [show 42 * 1 + k = 42 + k by omega, (hb2 k z1 z2).2, hk2 _ (by omega) (by omega)]
        congr 1
        omega
    have hs0 : wb 10 0 = RS 1 0 := (krow 0 (Or.inl rfl)).k0
    refine b_X4_exchange_48 ho9 (by rw [e90]; decide) ?_
    rw [e90, hs0]
    refine s_X4_act (RS1 := swR RS) hMV1 hVS (by omega) (by omega) hk1 hk2 (fun r k z1 z2 z3 => hb1 r k z1) krow (fun w2 hFM hM2 => ?_)
    refine b_X4_exchange_58 ?_
    exact JE rfl (Inv.mk (hC2.mv hFM) hM2 (hVS.push (fun p hp => by
      rcases hp with rfl | rfl
      · exact hVS.1 1 (Or.inr rfl)
      · exact hVS.1 0 (Or.inl rfl)) hs4))

/-! a number put in, a number taken out -/
theorem l_X1_insert {Q : List rV → rW → Prop} {w0 : rW} {a n x c : Int} (h0 : R0 w0 a n) (hn : n < 40) (hx : 0 ≤ x ∧ x ≤ 4095) (hc : 0 ≤ c ∧ c ≤ n) (hQ : ∀ w1, (∀ r k, r ≠ a → r ≠ a + 1 → w1 r k = w0 r k) → (∀ k, k ≠ 1 → w1 a k = w0 a k) → w1 a 1 = n + 1 → (∀ i, 0 ≤ i → i < c → w1 (a + 1) i = w0 (a + 1) i) → w1 (a + 1) c = x → (∀ i, c < i → i ≤ n → w1 (a + 1) i = w0 (a + 1) (i - 1)) → Q [vi c] w1) : ∀ (k : Nat) (w : rW) (j : Int), j.toNat < k → c ≤ j → j ≤ n → (∀ r k, r ≠ a + 1 → w r k = w0 r k) → (∀ i, 0 ≤ i → i < j → w (a + 1) i = w0 (a + 1) i) → (∀ i, j < i → i ≤ n → w (a + 1) i = w0 (a + 1) (i - 1)) → (j < n → w (a + 1) j = w0 (a + 1) j ∨ 0 ≤ w (a + 1) j ∧ w (a + 1) j ≤ 4095) → WP M_X1_insert 22 [vr a, vi x, vi c, vi j] [] w Q := by
  intro k
  induction k with
  | zero => intro w j hk; omega
  | succ k ih =>
    intro w j hk hj0 hj1 hF hL hR hm
    obtain ⟨ha, ho, ha1, h00, h01, hn0, hn4, hv⟩ := id h0
    have e0 : w a 0 = a + 1 := (hF a 0 (by omega)).trans h00
    have e1 : w a 1 = n := (hF a 1 (by omega)).trans h01
    have h : R0 w a n := ⟨ha, ho, ha1, e0, e1, hn0, hn4, fun i g1 g2 => by
      rcases Int.lt_trichotomy i j with z | z | z
      · rw [hL i g1 z]; exact hv i g1 g2
      · rw [z]
        rcases hm (by omega) with y | y
        · rw [y]; exact hv j (by omega) (by omega)
        · exact y
      · rw [hR i z (by omega)]; exact hv (i - 1) (by omega) (by omega)⟩
    have h2 : al (w a 0) = 40 := by rw [e0]; exact ha1
    refine b_X1_insert_22 (by omega) (by omega) (fun g => ?_) (fun g => ?_)
    · have ej : j = c := by omega
      subst ej
      refine b_X1_insert_45 ho ?_
      refine s_X1_put ho h2 hc.1 (by omega) ?_
      rw [e0]
      refine b_X1_insert_51 ho ?_
      refine b_X1_insert_61 (hQ _ (fun r k z1 z2 => ?_) (fun k z => ?_) ?_ (fun i z1 z2 => ?_) ?_ (fun i z1 z2 => ?_))
      · rw [ws_nr z1, ws_nr z2]; exact hF r k z2
      · rw [ws_nk z, ws_nr (by omega)]; exact hF a k (by omega)
      · rw [ws_eq, ws_nr (by omega), e1]
      · rw [ws_nr (by omega), ws_nk (by omega)]; exact hL i z1 z2
      · rw [ws_nr (by omega), ws_eq]
      · rw [ws_nr (by omega), ws_nk (by omega)]; exact hR i z1 z2
    · refine b_X1_insert_27 ho ?_
      refine s_X1_numberIn h (by omega) (by omega) ?_
      refine b_X1_insert_36 ho ?_
      refine s_X1_put ho h2 (by omega) (by omega) ?_
      rw [e0]
      refine b_X1_insert_39 ?_
      refine ih _ _ (by omega) (by omega) (by omega) (fun r k z => ?_) (fun i z1 z2 => ?_) (fun i z1 z2 => ?_) (fun z => ?_)
      · rw [ws_nr z]; exact hF r k z
      · rw [ws_nk (by omega)]; exact hL i z1 (by omega)
      · by_cases y : i = j
        · rw [y, ws_eq]; exact hL (j - 1) (by omega) (by omega)
        · rw [ws_nk y]; exact hR i (by omega) z2
      · rw [ws_nk (by omega), show j + -1 = j - 1 by omega]
        exact Or.inl (hL (j - 1) (by omega) (by omega))
theorem s_X1_insert {Q : List rV → rW → Prop} {w : rW} {a n x : Int} (h : R0 w a n) (hn : n < 40) (hx : 0 ≤ x ∧ x ≤ 4095) (hQ : ∀ w1, (∀ r k, r ≠ a → r ≠ a + 1 → w1 r k = w r k) → (∀ k, k ≠ 1 → w1 a k = w a k) → w1 a 1 = n + 1 → (∀ i, 0 ≤ i → i < cl (w (a + 1)) n (x + 1) → w1 (a + 1) i = w (a + 1) i) → w1 (a + 1) (cl (w (a + 1)) n (x + 1)) = x → (∀ i, cl (w (a + 1)) n (x + 1) < i → i ≤ n → w1 (a + 1) i = w (a + 1) (i - 1)) → Q [vi (cl (w (a + 1)) n (x + 1))] w1) : WP M_X1_insert 0 [vr a, vi x, vu, vu] [] w Q := by
  obtain ⟨ha, ho, ha1, h00, h01, hn0, hn4, hv⟩ := id h
  have hcl := cl_spec (f := w (a + 1)) (n := n) (x := x + 1) hn0
  refine b_X1_insert_0 ho ?_
  refine s_X1_countLess h (by omega) ?_
  refine b_X1_insert_7 ho (by omega) (fun g => absurd g (by omega)) (fun g => ?_)
  refine b_X1_insert_17 ho ?_
  rw [h01]
  exact l_X1_insert h hn hx ⟨hcl.1, hcl.2.1⟩ hQ _ w n (Nat.lt_succ_self _) hcl.2.1 (Int.le_refl _) (fun _ _ _ => rfl) (fun _ _ _ => rfl) (fun i z1 z2 => by omega) (fun z => absurd z (Int.lt_irrefl _))
theorem l_X1_remove {Q : List rV → rW → Prop} {w0 : rW} {a n d i : Int} (h0 : R0 w0 a n) (hi : 0 ≤ i ∧ i < n) (hQ : ∀ w1, (∀ r k, r ≠ a → r ≠ a + 1 → w1 r k = w0 r k) → (∀ k, k ≠ 1 → w1 a k = w0 a k) → w1 a 1 = n - 1 → (∀ k, 0 ≤ k → k < i → w1 (a + 1) k = w0 (a + 1) k) → (∀ k, i ≤ k → k < n - 1 → w1 (a + 1) k = w0 (a + 1) (k + 1)) → Q [vi d] w1) : ∀ (k : Nat) (w : rW) (j : Int), (n - j).toNat < k → i ≤ j → j ≤ n - 1 → (∀ r k, r ≠ a + 1 → w r k = w0 r k) → (∀ k, 0 ≤ k → k < i → w (a + 1) k = w0 (a + 1) k) → (∀ k, i ≤ k → k < j → w (a + 1) k = w0 (a + 1) (k + 1)) → (∀ k, j ≤ k → k < n → w (a + 1) k = w0 (a + 1) k) → WP M_X1_remove 20 [vr a, vi i, vi d, vi j] [] w Q := by
  intro k
  induction k with
  | zero => intro w j hk; omega
  | succ k ih =>
    intro w j hk hj0 hj1 hF hA hB hD
    obtain ⟨ha, ho, ha1, h00, h01, hn0, hn4, hv⟩ := id h0
    have e0 : w a 0 = a + 1 := (hF a 0 (by omega)).trans h00
    have e1 : w a 1 = n := (hF a 1 (by omega)).trans h01
    have h : R0 w a n := ⟨ha, ho, ha1, e0, e1, hn0, hn4, fun p g1 g2 => by
      by_cases z : p < i
      · rw [hA p g1 z]; exact hv p g1 g2
      · by_cases y : p < j
        · rw [hB p (by omega) y]; exact hv (p + 1) (by omega) (by omega)
        · rw [hD p (by omega) g2]; exact hv p g1 g2⟩
    have h2 : al (w a 0) = 40 := by rw [e0]; exact ha1
    refine b_X1_remove_20 ho (by omega) (by omega) (fun g => ?_) (fun g => ?_)
    · have ej : j = n - 1 := by omega
      subst ej
      refine b_X1_remove_48 ho ?_
      refine b_X1_remove_58 (hQ _ (fun r k z1 z2 => ?_) (fun k z => ?_) ?_ (fun k z1 z2 => ?_) (fun k z1 z2 => ?_))
      · rw [ws_nr z1]; exact hF r k z2
      · rw [ws_nk z]; exact hF a k (by omega)
      · rw [ws_eq, e1]
      · rw [ws_nr (by omega)]; exact hA k z1 z2
      · rw [ws_nr (by omega)]; exact hB k z1 z2
    · refine b_X1_remove_30 ho ?_
      refine s_X1_numberIn h (by omega) (by omega) ?_
      refine b_X1_remove_39 ho ?_
      refine s_X1_put ho h2 (by omega) (by omega) ?_
      rw [e0]
      refine b_X1_remove_42 ?_
      refine ih _ _ (by omega) (by omega) (by omega) (fun r k z => ?_) (fun k z1 z2 => ?_) (fun k z1 z2 => ?_) (fun k z1 z2 => ?_)
      · rw [ws_nr z]; exact hF r k z
      · rw [ws_nk (by omega)]; exact hA k z1 z2
      · by_cases y : k = j
        · rw [y, ws_eq]; exact hD (j + 1) (by omega) (by omega)
        · rw [ws_nk y]; exact hB k z1 (by omega)
      · rw [ws_nk (by omega)]; exact hD k (by omega) z2
theorem s_X1_remove {Q : List rV → rW → Prop} {w : rW} {a n i : Int} (h : R0 w a n) (hi : 0 ≤ i ∧ i < n) (hQ : ∀ w1, (∀ r k, r ≠ a → r ≠ a + 1 → w1 r k = w r k) → (∀ k, k ≠ 1 → w1 a k = w a k) → w1 a 1 = n - 1 → (∀ k, 0 ≤ k → k < i → w1 (a + 1) k = w (a + 1) k) → (∀ k, i ≤ k → k < n - 1 → w1 (a + 1) k = w (a + 1) (k + 1)) → Q [vi (w (a + 1) i)] w1) : WP M_X1_remove 0 [vr a, vi i, vu, vu] [] w Q := by
  obtain ⟨ha, ho, ha1, h00, h01, hn0, hn4, hv⟩ := id h
  refine b_X1_remove_0 ho ?_
  refine s_X1_numberIn h hi.1 hi.2 ?_
  refine b_X1_remove_5 (by omega) (fun g => absurd g (by omega)) (fun g => ?_)
  refine b_X1_remove_10 ho (by omega) (by omega) (fun g => absurd g (by omega)) (fun g => ?_)
  refine b_X1_remove_18 ?_
  exact l_X1_remove h hi hQ _ w i (Nat.lt_succ_self _) (Int.le_refl _) (by omega) (fun _ _ _ => rfl) (fun _ _ _ => rfl) (fun k z1 z2 => by omega) (fun _ _ _ => rfl)

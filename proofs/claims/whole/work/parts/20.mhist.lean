/-! the reference's history -/
def Mr (w : rW) : Prop := w 9 0 = 10 ∧ w 9 1 = 11 ∧ w 9 2 = 12 ∧ w 9 4 = 13 ∧ w 9 7 = 14 ∧ w 9 9 = 15 ∧ w 9 11 = 16 ∧ w 9 15 = 17
def MHs (w : rW) (s : Int) (HS : Int → Int → Int → Int) : Prop := w 9 3 = s ∧ 0 ≤ s ∧ s ≤ 4 ∧ ∀ j q, 0 ≤ j → j < s → (q = 0 ∨ q = 1) → KR (fun k => w 11 (84 * j + 42 * q + k)) (HS j q)
theorem l_X4_keeps {Q : List rV → rW → Prop} {w0 : rW} (hr : Mr w0) (hQ : ∀ w1, (∀ r k, r ≠ 12 → w1 r k = w0 r k) → (∀ k, 0 ≤ k → k < 84 → w1 12 k = w0 10 k) → Q [] w1) : ∀ (k : Nat) (w : rW) (j : Int), (84 - j).toNat < k → 0 ≤ j → j ≤ 84 → (∀ r k, r ≠ 12 → w r k = w0 r k) → (∀ k, 0 ≤ k → k < j → w 12 k = w0 10 k) → WP M_X4_keeps 2 [vr 9, vi j] [] w Q := by
  intro k
  induction k with
  | zero => intro w j hk; omega
  | succ k ih =>
    intro w j hk hj0 hj1 hF hB
    have ho : oc 9 = 4 := rfl
    have e0 : w 9 0 = 10 := (hF 9 0 (by decide)).trans hr.1
    have e2 : w 9 2 = 12 := (hF 9 2 (by decide)).trans hr.2.2.1
    have a0 : al (w 9 0) = 84 := by rw [e0]; rfl
    have a2 : al (w 9 2) = 84 := by rw [e2]; rfl
    refine b_X4_keeps_2 (by omega) (fun g => ?_) (fun g => ?_)
    · exact b_X4_keeps_26 (hQ w hF (fun k g1 g2 => hB k g1 (by omega)))
    · refine b_X4_keeps_8 ho hj0 (by omega) (by omega) ?_
      rw [e0, e2]
      refine ih _ _ (by omega) (by omega) (by omega) (fun r k g1 => ?_) (fun k g1 g2 => ?_)
      · rw [ws_nr g1]; exact hF r k g1
      · by_cases z : k = j
        · rw [z, ws_eq]; exact hF 10 j (by decide)
        · rw [ws_nk z]; exact hB k g1 (by omega)
theorem s_X4_keeps {Q : List rV → rW → Prop} {w : rW} (hr : Mr w) (hQ : ∀ w1, (∀ r k, r ≠ 12 → w1 r k = w r k) → (∀ k, 0 ≤ k → k < 84 → w1 12 k = w 10 k) → Q [] w1) : WP M_X4_keeps 0 [vr 9, vu] [] w Q := by
  refine b_X4_keeps_0 ?_
  exact l_X4_keeps hr hQ _ w 0 (Nat.lt_succ_self _) (by decide) (by decide) (fun _ _ _ => rfl) (fun k g1 g2 => by omega)
theorem lb_X4_acted {Q : List rV → rW → Prop} {w0 : rW} {x z : Int} (hr : Mr w0) (h3 : w0 9 3 = z) (hz : 0 ≤ z ∧ z < 4) (hQ : ∀ w1, (∀ r k, r ≠ 11 → ¬ (r = 9 ∧ k = 3) → w1 r k = w0 r k) → w1 9 3 = z + 1 → (∀ k, 0 ≤ k → k < 84 * z → w1 11 k = w0 11 k) → (∀ k, 0 ≤ k → k < 84 → w1 11 (84 * z + k) = w0 12 k) → Q [vi x] w1) : ∀ (k : Nat) (w : rW) (j : Int), (84 - j).toNat < k → 0 ≤ j → j ≤ 84 → (∀ r k, r ≠ 11 → w r k = w0 r k) → (∀ k, 0 ≤ k → k < 84 * z → w 11 k = w0 11 k) → (∀ k, 0 ≤ k → k < j → w 11 (84 * z + k) = w0 12 k) → WP M_X4_acted 56 [vr 9, vi x, vi j] [] w Q := by
  intro k
  induction k with
  | zero => intro w j hk; omega
  | succ k ih =>
    intro w j hk hj0 hj1 hF hO hB
    have ho : oc 9 = 4 := rfl
    have e1 : w 9 1 = 11 := (hF 9 1 (by decide)).trans hr.2.1
    have e2 : w 9 2 = 12 := (hF 9 2 (by decide)).trans hr.2.2.1
    have e3 : w 9 3 = z := (hF 9 3 (by decide)).trans h3
    have a1 : al (w 9 1) = 336 := by rw [e1]; rfl
    have a2 : al (w 9 2) = 84 := by rw [e2]; rfl
    refine b_X4_acted_56 (by omega) (fun g => ?_) (fun g => ?_)
    · refine b_X4_acted_88 ho ?_
      refine b_X4_acted_98 (hQ _ (fun r k g1 g2 => ?_) ?_ (fun k g1 g2 => ?_) (fun k g1 g2 => ?_))
      · by_cases y : r = 9
        · rw [y, ws_nk (fun v => g2 ⟨y, v⟩), ← y]; exact hF r k g1
        · rw [ws_nr y]; exact hF r k g1
      · rw [ws_eq, e3]
      · rw [ws_nr (by decide)]; exact hO k g1 g2
      · rw [ws_nr (by decide)]; exact hB k g1 (by omega)
    · refine b_X4_acted_62 ho hj0 (by omega) (by omega) (by omega) ?_
      rw [e1, e2, e3]
      refine ih _ _ (by omega) (by omega) (by omega) (fun r k g1 => ?_) (fun k g1 g2 => ?_) (fun k g1 g2 => ?_)
      · rw [ws_nr g1]; exact hF r k g1
      · rw [ws_nk (by omega)]; exact hO k g1 g2
      · by_cases y : k = j
        · rw [y, ws_eq]; exact hF 12 j (by decide)
        · rw [ws_nk (by omega)]; exact hB k g1 (by omega)
theorem la_X4_acted {Q : List rV → rW → Prop} {w0 : rW} {x : Int} (hr : Mr w0) (hQ : ∀ w1, (∀ r k, r ≠ 11 → w1 r k = w0 r k) → (∀ k, 0 ≤ k → k < 252 → w1 11 k = w0 11 (k + 84)) → WP M_X4_acted 44 [vr 9, vi x, vi 252] [] w1 Q) : ∀ (k : Nat) (w : rW) (j : Int), (252 - j).toNat < k → 0 ≤ j → j ≤ 252 → (∀ r k, r ≠ 11 → w r k = w0 r k) → (∀ k, 0 ≤ k → k < j → w 11 k = w0 11 (k + 84)) → (∀ k, j ≤ k → w 11 k = w0 11 k) → WP M_X4_acted 16 [vr 9, vi x, vi j] [] w Q := by
  intro k
  induction k with
  | zero => intro w j hk; omega
  | succ k ih =>
    intro w j hk hj0 hj1 hF hB hO
    have ho : oc 9 = 4 := rfl
    have e1 : w 9 1 = 11 := (hF 9 1 (by decide)).trans hr.2.1
    have a1 : al (w 9 1) = 336 := by rw [e1]; rfl
    refine b_X4_acted_16 (by omega) (fun g => ?_) (fun g => ?_)
    · have ej : j = 252 := by omega
      rw [ej] at hB ⊢
      exact hQ w hF hB
    · refine b_X4_acted_23 ho (by omega) (by omega) hj0 (by omega) ?_
      rw [e1]
      refine ih _ _ (by omega) (by omega) (by omega) (fun r k g1 => ?_) (fun k g1 g2 => ?_) (fun k g1 => ?_)
      · rw [ws_nr g1]; exact hF r k g1
      · by_cases y : k = j
        · rw [y, ws_eq]; exact hO (j + 84) (by omega)
        · rw [ws_nk y]; exact hB k g1 (by omega)
      · rw [ws_nk (by omega)]; exact hO k (by omega)
/-- the history with the state that was kept -/
theorem s_X4_acted {Q : List rV → rW → Prop} {w : rW} {x s : Int} {RS : Int → Int → Int} {HS : Int → Int → Int → Int} (hr : Mr w) (hx : R32 x) (hx1 : -1000001 < x) (hH : MHs w s HS) (hB : ∀ q, (q = 0 ∨ q = 1) → KR (fun k => w 12 (42 * q + k)) (RS q)) (hr40 : ∀ q, (q = 0 ∨ q = 1) → RS q 0 ≤ 40) (h40 : ∀ j q, 0 ≤ j → j < s → (q = 0 ∨ q = 1) → HS j q 0 ≤ 40)
    (hQ : ∀ w1, (∀ r k, r ≠ 11 → ¬ (r = 9 ∧ k = 3) → w1 r k = w r k) → MHs w1 (pushN s) (pushH HS s RS) → Q [vi x] w1) : WP M_X4_acted 0 [vr 9, vi x, vu] [] w Q := by
  obtain ⟨h3, s0, s4, hk⟩ := id hH
  have ho : oc 9 = 4 := rfl
  have fin : ∀ (w1 : rW) (z : Int), z + 1 = pushN s → 0 ≤ z ∧ z < 4 → w1 9 3 = z + 1 → (∀ j q, 0 ≤ j → j < z → (q = 0 ∨ q = 1) → KR (fun k => w1 11 (84 * j + 42 * q + k)) (pushH HS s RS j q)) → (∀ q, pushH HS s RS z q = RS q) → (∀ k, 0 ≤ k → k < 84 → w1 11 (84 * z + k) = w 12 k) → MHs w1 (pushN s) (pushH HS s RS) := by
    intro w1 z hz1 hz e3 hold hnew hB1
    refine ⟨e3.trans hz1, by omega, by omega, fun j q g1 g2 g3 => ?_⟩
    by_cases y : j = z
    · rw [y, hnew q]
      refine (hB q g3).mv (hr40 q g3) (fun k k0 k1 => ?_)
      rw [Int.add_assoc]
      exact hB1 _ (by omega) (by omega)
    · exact hold j q g1 (by omega) g3
  refine b_X4_acted_0 hx (fun g => absurd g (by omega)) (fun _ => ?_)
  refine b_X4_acted_6 ho (by omega) (fun g => ?_) (fun g => ?_)
  · have hs : s < 4 := by omega
    refine b_X4_acted_54 ?_
    refine lb_X4_acted hr h3 ⟨s0, hs⟩ (fun w1 hF e3 hO hB1 => hQ w1 hF (fin w1 s (by unfold pushN; rw [if_pos hs]) ⟨s0, hs⟩ e3 (fun j q g1 g2 g3 => ?_) (fun q => by unfold pushH; rw [if_pos hs, if_pos rfl]) hB1)) _ w 0 (Nat.lt_succ_self _) (by decide) (by decide) (fun _ _ _ => rfl) (fun _ _ _ => rfl) (fun k g1 g2 => by omega)
    unfold pushH
    rw [if_pos hs, if_neg (by omega)]
    exact (hk j q g1 g2 g3).mv (h40 j q g1 g2 g3) (fun k k0 k1 => hO _ (by omega) (by omega))
  · have hs : s = 4 := by omega
    refine b_X4_acted_14 ?_
    refine la_X4_acted hr (fun w1 hF1 hS1 => ?_) _ w 0 (Nat.lt_succ_self _) (by decide) (by decide) (fun _ _ _ => rfl) (fun k g1 g2 => by omega) (fun _ _ => rfl)
    refine b_X4_acted_44 ho ?_
    refine b_X4_acted_54 ?_
    have e93 : w1 9 3 = 4 := (hF1 9 3 (by decide)).trans (by omega)
    have hr2 : Mr (wset w1 9 3 (w1 9 3 - 1)) := by
      obtain ⟨r1, r2, r3, r4, r5, r6, r7, r8⟩ := hr
      refine ⟨?_, ?_, ?_, ?_, ?_, ?_, ?_, ?_⟩ <;> rw [ws_nk (by decide), hF1 9 _ (by decide)] <;> assumption
    refine lb_X4_acted (z := 3) hr2 (by rw [ws_eq, e93]; rfl) (by decide) (fun w2 hF e3 hO hB1 => hQ w2 (fun r k g1 g2 => ?_) (fin w2 3 (by unfold pushN; rw [if_neg (by omega)]; rfl) (by decide) e3 (fun j q g1 g2 g3 => ?_) (fun q => by unfold pushH; rw [if_neg (by omega), if_pos rfl]) (fun k g1 g2 => ?_))) _ _ 0 (Nat.lt_succ_self _) (by decide) (by decide) (fun _ _ _ => rfl) (fun _ _ _ => rfl) (fun k g1 g2 => by omega)
    · rw [hF r k g1 g2]
      by_cases y : r = 9
      · rw [y, ws_nk (fun v => g2 ⟨y, v⟩), ← y]; exact hF1 r k g1
      · rw [ws_nr y]; exact hF1 r k g1
    · unfold pushH
      rw [if_neg (by omega), if_neg (by omega)]
      refine (hk (j + 1) q (by omega) (by omega) g3).mv (h40 (j + 1) q (by omega) (by omega) g3) (fun k k0 k1 => ?_)
      rw [hO _ (by omega) (by omega), ws_nr (by decide), hS1 _ (by omega) (by omega)]
      congr 1
      omega
    · rw [hB1 k g1 g2, ws_nr (by decide)]; exact hF1 12 k (by decide)
theorem l_X4_undo {Q : List rV → rW → Prop} {w0 : rW} {z : Int} (hr : Mr w0) (h3 : w0 9 3 = z) (hz : 0 ≤ z ∧ z < 4) (hQ : ∀ w1, (∀ r k, r ≠ 10 → w1 r k = w0 r k) → (∀ k, 0 ≤ k → k < 84 → w1 10 k = w0 11 (84 * z + k)) → Q [vi z] w1) : ∀ (k : Nat) (w : rW) (j : Int), (84 - j).toNat < k → 0 ≤ j → j ≤ 84 → (∀ r k, r ≠ 10 → w r k = w0 r k) → (∀ k, 0 ≤ k → k < j → w 10 k = w0 11 (84 * z + k)) → WP M_X4_undo 22 [vr 9, vi j] [] w Q := by
  intro k
  induction k with
  | zero => intro w j hk; omega
  | succ k ih =>
    intro w j hk hj0 hj1 hF hB
    have ho : oc 9 = 4 := rfl
    have e0 : w 9 0 = 10 := (hF 9 0 (by decide)).trans hr.1
    have e1 : w 9 1 = 11 := (hF 9 1 (by decide)).trans hr.2.1
    have e3 : w 9 3 = z := (hF 9 3 (by decide)).trans h3
    have a0 : al (w 9 0) = 84 := by rw [e0]; rfl
    have a1 : al (w 9 1) = 336 := by rw [e1]; rfl
    refine b_X4_undo_22 (by omega) (fun g => ?_) (fun g => ?_)
    · refine b_X4_undo_54 ho ?_
      rw [e3]
      exact hQ w hF (fun k g1 g2 => hB k g1 (by omega))
    · refine b_X4_undo_28 ho (by omega) (by omega) hj0 (by omega) ?_
      rw [e0, e1, e3]
      refine ih _ _ (by omega) (by omega) (by omega) (fun r k g1 => ?_) (fun k g1 g2 => ?_)
      · rw [ws_nr g1]; exact hF r k g1
      · by_cases y : k = j
        · rw [y, ws_eq]; exact hF 11 _ (by decide)
        · rw [ws_nk y]; exact hB k g1 (by omega)

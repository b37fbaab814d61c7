/-! THE SIDES APART: each holds a state, told by rows H (H 0: how many, H 1: the bound, H (2 + i): number i) -/
def KR (F H : Int → Int) : Prop := F 0 = H 0 ∧ F 1 = H 1 ∧ ∀ i, 0 ≤ i → i < H 0 → F (2 + i) = H (2 + i)
def VK (H : Int → Int) : Prop := 0 ≤ H 0 ∧ H 0 ≤ 40 ∧ 2 ≤ H 1 ∧ H 1 ≤ 4096 ∧ VR (fun i => H (2 + i)) (H 0) (H 1)
def CRw (w : rW) (a : Int) (H : Int → Int) : Prop := R1 w a (H 0) (H 1) ∧ ∀ i, 0 ≤ i → i < H 0 → w (a + 1) i = H (2 + i)
theorem KR.rf {H : Int → Int} : KR H H := ⟨rfl, rfl, fun _ _ _ => rfl⟩
theorem KR.mv {F G H : Int → Int} (h : KR F H) (h4 : H 0 ≤ 40) (hg : ∀ k, 0 ≤ k → k < 42 → G k = F k) : KR G H :=
  ⟨(hg 0 (by decide) (by decide)).trans h.1, (hg 1 (by decide) (by decide)).trans h.2.1, fun i h0 h1 => (hg (2 + i) (by omega) (by omega)).trans (h.2.2 i h0 h1)⟩
theorem R0.mv {w w1 : rW} {a n : Int} (h : R0 w a n) (ea : w1 a = w a) (eb : w1 (a + 1) = w (a + 1)) : R0 w1 a n := by
  obtain ⟨g1, g2, g3, g4, g5, g6, g7, g8⟩ := h
  exact ⟨g1, g2, g3, by rw [ea]; exact g4, by rw [ea]; exact g5, g6, g7, by rw [eb]; exact g8⟩
theorem R1.mv {w w1 : rW} {a n b : Int} (h : R1 w a n b) (ea : w1 a = w a) (eb : w1 (a + 1) = w (a + 1)) : R1 w1 a n b := ⟨h.1.mv ea eb, by rw [ea]; exact h.2.1, h.2.2⟩
theorem CRw.mv {w w1 : rW} {a : Int} {H : Int → Int} (h : CRw w a H) (ea : w1 a = w a) (eb : w1 (a + 1) = w (a + 1)) : CRw w1 a H := ⟨h.1.mv ea eb, by rw [eb]; exact h.2⟩
theorem VK.b40 {H : Int → Int} (h : VK H) : H 0 ≤ 40 := h.2.1
/-- what a row's object is, its numbers apart -/
def Ra (w : rW) (a : Int) : Prop := (a = 1 ∨ a = 3) ∧ oc a = 1 ∧ al (a + 1) = 40 ∧ w a 0 = a + 1
theorem R0.ra {w : rW} {a n : Int} (h : R0 w a n) : Ra w a := ⟨h.1, h.2.1, h.2.2.1, h.2.2.2.1⟩
theorem CRw.of {w : rW} {a : Int} {H : Int → Int} (h : Ra w a) (hV : VK H) (h0 : w a 1 = H 0) (h1 : w a 2 = H 1) (h2 : ∀ i, 0 ≤ i → i < H 0 → w (a + 1) i = H (2 + i)) : CRw w a H := by
  obtain ⟨v0, v1, v2, v3, v4, v5⟩ := hV
  refine ⟨⟨⟨h.1, h.2.1, h.2.2.1, h.2.2.2, h0, v0, v1, fun i g1 g2 => ?_⟩, h1, v2, v3⟩, h2⟩
  have g3 := v4 i g1 g2
  rw [h2 i g1 g2]
  dsimp only at g3
  omega

theorem l_X1_saveTo {Q : List rV → rW → Prop} {w0 : rW} {a p : Int} {H : Int → Int} (hC : CRw w0 a H) (hp : 0 ≤ p ∧ p ≤ 294) (hQ : ∀ w1, (∀ r k, ¬ (r = 6 ∧ p ≤ k ∧ k < p + 42) → w1 r k = w0 r k) → KR (fun k => w1 6 (p + k)) H → Q [] w1) : ∀ (k : Nat) (w : rW) (j : Int), (40 - j).toNat < k → 0 ≤ j → j ≤ 40 → (∀ r k, ¬ (r = 6 ∧ p ≤ k ∧ k < p + 42) → w r k = w0 r k) → w 6 p = H 0 → w 6 (p + 1) = H 1 → (∀ i, 0 ≤ i → i < j → i < H 0 → w 6 (p + 2 + i) = H (2 + i)) → WP M_X1_saveTo 32 [vr a, vr 6, vi p, vi j] [] w Q := by
  intro k
  induction k with
  | zero => intro w j hk; omega
  | succ k ih =>
    intro w j hk hj0 hj1 hF e0 e1 e2
    have ha := hC.1.1.1
    have hC1 : CRw w a H := hC.mv (funext fun k => hF a k (by omega)) (funext fun k => hF (a + 1) k (by omega))
    have h := hC1.1.1
    have ho := h.2.1
    have hal6 : al 6 = 336 := rfl
    have hn4 : H 0 ≤ 40 := h.2.2.2.2.2.2.1
    refine b_X1_saveTo_32 (by omega) (fun g => ?_) (fun g => ?_)
    · refine b_X1_saveTo_56 (hQ w hF ⟨?_, ?_, fun i g1 g2 => ?_⟩)
      · show w 6 (p + 0) = H 0
        rw [Int.add_zero]; exact e0
      · exact e1
      · show w 6 (p + (2 + i)) = H (2 + i)
        rw [← Int.add_assoc]; exact e2 i g1 (by omega) g2
    · refine b_X1_saveTo_38 (by omega) ?_
      refine s_X1_numberAt h ⟨by omega, by omega⟩ (fun r hr => ?_)
      refine b_X1_saveTo_49 (by omega) (by omega) ?_
      refine ih _ _ (by omega) (by omega) (by omega) (fun r k hrk => ?_) ?_ ?_ (fun i g1 g2 g3 => ?_)
      · by_cases z : r = 6
        · rw [z, ws_nk (by omega), ← z]; exact hF r k hrk
        · rw [ws_nr z]; exact hF r k hrk
      · rw [ws_nk (by omega)]; exact e0
      · rw [ws_nk (by omega)]; exact e1
      · by_cases z : i = j
        · rw [z, ws_eq]
          rcases hr with ⟨-, -, hr⟩ | ⟨hr, -⟩
          · rw [hr]; exact hC1.2 j hj0 (by omega)
          · omega
        · rw [ws_nk (by omega)]; exact e2 i g1 (by omega) g3
theorem s_X1_saveTo {Q : List rV → rW → Prop} {w : rW} {a p : Int} {H : Int → Int} (hC : CRw w a H) (hp : 0 ≤ p ∧ p ≤ 294) (hQ : ∀ w1, (∀ r k, ¬ (r = 6 ∧ p ≤ k ∧ k < p + 42) → w1 r k = w r k) → KR (fun k => w1 6 (p + k)) H → Q [] w1) : WP M_X1_saveTo 0 [vr a, vr 6, vi p, vu] [] w Q := by
  have ha := hC.1.1.1
  have ho := hC.1.1.2.1
  have hal6 : al 6 = 336 := rfl
  refine b_X1_saveTo_0 (by omega) (fun g => absurd g (by omega)) (fun g => ?_)
  refine b_X1_saveTo_4 (by omega) (by omega) (by omega) (fun g => ?_) (fun g => absurd g (by omega))
  refine b_X1_saveTo_14 (by omega) (by omega) (by omega) (by omega) (by omega) ?_
  refine l_X1_saveTo hC hp hQ _ _ 0 (Nat.lt_succ_self _) (by decide) (by decide) (fun r k hrk => ?_) ?_ ?_ (fun i g1 g2 g3 => by omega)
  · by_cases z : r = 6
    · rw [z, ws_nk (by omega), ws_nk (by omega)]
    · rw [ws_nr z, ws_nr z]
  · rw [ws_nk (by omega), ws_eq]; exact hC.1.1.2.2.2.2.1
  · rw [ws_eq, ws_nr (by omega)]; exact hC.1.2.1

theorem l_X1_loadFrom {Q : List rV → rW → Prop} {w0 : rW} {a p : Int} {H : Int → Int} (hRa : Ra w0 a) (hV : VK H) (hK : KR (fun k => w0 6 (p + k)) H) (hp : 0 ≤ p ∧ p ≤ 294) (hQ : ∀ w1, (∀ r k, r ≠ a → r ≠ a + 1 → w1 r k = w0 r k) → CRw w1 a H → Q [] w1) : ∀ (k : Nat) (w : rW) (j : Int), (40 - j).toNat < k → 0 ≤ j → j ≤ 40 → (∀ r k, r ≠ a → r ≠ a + 1 → w r k = w0 r k) → w a 0 = a + 1 → w a 1 = H 0 → w a 2 = H 1 → (∀ i, 0 ≤ i → i < j → w (a + 1) i = w0 6 (p + 2 + i)) → WP M_X1_loadFrom 32 [vr a, vr 6, vi p, vi j] [] w Q := by
  intro k
  induction k with
  | zero => intro w j hk; omega
  | succ k ih =>
    intro w j hk hj0 hj1 hF e0 e1 e2 e3
    obtain ⟨ha, ho, ha1, -⟩ := id hRa
    have hal6 : al 6 = 336 := rfl
    have h2 : al (w a 0) = 40 := by rw [e0]; exact ha1
    refine b_X1_loadFrom_32 (by omega) (fun g => ?_) (fun g => ?_)
    · refine b_X1_loadFrom_56 (hQ w hF (CRw.of ⟨ha, ho, ha1, e0⟩ hV e1 e2 (fun i g1 g2 => ?_)))
      have h4 := hV.2.1
      rw [e3 i g1 (by omega), Int.add_assoc]
      exact hK.2.2 i g1 g2
    · refine b_X1_loadFrom_38 (by omega) (by omega) (by omega) ?_
      refine s_X1_put ho h2 hj0 g ?_
      rw [e0]
      refine b_X1_loadFrom_50 ?_
      refine ih _ _ (by omega) (by omega) (by omega) (fun r k g1 g2 => ?_) ?_ ?_ ?_ (fun i g1 g2 => ?_)
      · rw [ws_nr g2]; exact hF r k g1 g2
      · rw [ws_nr (by omega)]; exact e0
      · rw [ws_nr (by omega)]; exact e1
      · rw [ws_nr (by omega)]; exact e2
      · by_cases z : i = j
        · rw [z, ws_eq]; exact hF 6 _ (by omega) (by omega)
        · rw [ws_nk z]; exact e3 i g1 (by omega)
theorem s_X1_loadFrom {Q : List rV → rW → Prop} {w : rW} {a p : Int} {H : Int → Int} (hRa : Ra w a) (hV : VK H) (hK : KR (fun k => w 6 (p + k)) H) (hp : 0 ≤ p ∧ p ≤ 294) (hQ : ∀ w1, (∀ r k, r ≠ a → r ≠ a + 1 → w1 r k = w r k) → CRw w1 a H → Q [] w1) : WP M_X1_loadFrom 0 [vr a, vr 6, vi p, vu] [] w Q := by
  obtain ⟨ha, ho, ha1, ha0⟩ := id hRa
  have hal6 : al 6 = 336 := rfl
  have k0 : w 6 p = H 0 := by have k9 := hK.1; dsimp only at k9; rwa [Int.add_zero] at k9
  have k1 : w 6 (p + 1) = H 1 := hK.2.1
  refine b_X1_loadFrom_0 (by omega) (fun g => absurd g (by omega)) (fun g => ?_)
  refine b_X1_loadFrom_4 (by omega) (by omega) (by omega) (fun g => ?_) (fun g => absurd g (by omega))
  refine b_X1_loadFrom_14 (by omega) (by omega) (by omega) (by omega) (by omega) ?_
  refine l_X1_loadFrom hRa hV hK hp hQ _ _ 0 (Nat.lt_succ_self _) (by decide) (by decide) (fun r k g1 g2 => ?_) ?_ ?_ ?_ (fun i g1 g2 => by omega)
  · rw [ws_nr g1, ws_nr g1]
  · rw [ws_nk (by decide), ws_nk (by decide)]; exact ha0
  · rw [ws_nk (by decide), ws_eq]; exact k0
  · rw [ws_eq, ws_nr (by omega)]; exact k1
theorem s_X0_startOf {Q : List rV → rW → Prop} {w : rW} {o j : Int} (h1 : w 5 1 = o) (h0 : 0 ≤ o ∧ o < 4) (hj : 0 ≤ j ∧ j < 5) (hQ : Q [vi ((o + j) % 4 * 84)] w) : WP M_X0_startOf 0 [vr 5, vi j] [] w Q := by
  refine b_X0_startOf_0 rfl (by omega) (by omega) ?_
  rw [h1]
  exact hQ
/-- the class's history -/
def CHs (w : rW) (o s : Int) (HS : Int → Int → Int → Int) : Prop := w 5 0 = 6 ∧ w 5 1 = o ∧ w 5 2 = s ∧ 0 ≤ o ∧ o < 4 ∧ 0 ≤ s ∧ s ≤ 4 ∧ ∀ j q, 0 ≤ j → j < s → (q = 0 ∨ q = 1) → KR (fun k => w 6 ((o + j) % 4 * 84 + 42 * q + k)) (HS j q)
/-- the history with one state more -/
def pushH (HS : Int → Int → Int → Int) (s : Int) (RS : Int → Int → Int) : Int → Int → Int → Int := fun j q => if s < 4 then (if j = s then RS q else HS j q) else (if j = 3 then RS q else HS (j + 1) q)
def pushN (s : Int) : Int := if s < 4 then s + 1 else 4
theorem keep_end {w w1 w2 : rW} {o1 z p : Int} {RS : Int → Int → Int} {NS : Int → Int → Int → Int} (hz : 0 ≤ z ∧ z < 4) (ho : 0 ≤ o1 ∧ o1 < 4) (hp : p = (o1 + z) % 4 * 84)
    (h40 : ∀ j q, 0 ≤ j → j < z → (q = 0 ∨ q = 1) → NS j q 0 ≤ 40) (hr40 : RS 0 0 ≤ 40)
    (hold : ∀ j q, 0 ≤ j → j < z → (q = 0 ∨ q = 1) → KR (fun k => w 6 ((o1 + j) % 4 * 84 + 42 * q + k)) (NS j q)) (hnew : ∀ q, NS z q = RS q)
    (hF1 : ∀ k, ¬ (p ≤ k ∧ k < p + 42) → w1 6 k = w 6 k) (hK1 : KR (fun k => w1 6 (p + k)) (RS 0)) (hF2 : ∀ k, ¬ (p + 42 ≤ k ∧ k < p + 42 + 42) → w2 6 k = w1 6 k) (hK2 : KR (fun k => w2 6 (p + 42 + k)) (RS 1)) :
    ∀ j q, 0 ≤ j → j < z + 1 → (q = 0 ∨ q = 1) → KR (fun k => w2 6 ((o1 + j) % 4 * 84 + 42 * q + k)) (NS j q) := by
  intro j q g1 g2 g3
  by_cases e : j = z
  · rw [e, hnew q]
    rcases g3 with rfl | rfl
    · refine hK1.mv hr40 (fun k k0 k1 => ?_)
      rw [show (o1 + z) % 4 * 84 + 42 * 0 + k = p + k by omega]
      exact hF2 _ (by omega)
    · rw [show (fun k => w2 6 ((o1 + z) % 4 * 84 + 42 * 1 + k)) = fun k => w2 6 (p + 42 + k) from funext fun k => by rw [hp]; congr 1]
      exact hK2
  · refine (hold j q g1 (by omega) g3).mv (h40 j q g1 (by omega) g3) (fun k k0 k1 => ?_)
    rw [hF2 _ (by omega), hF1 _ (by omega)]
theorem s_X0_keep {Q : List rV → rW → Prop} {w : rW} {a0 a1 o s : Int} {RS : Int → Int → Int} {HS : Int → Int → Int → Int} (hH : CHs w o s HS) (h0 : CRw w a0 (RS 0)) (h1 : CRw w a1 (RS 1)) (h40 : ∀ j q, 0 ≤ j → j < s → (q = 0 ∨ q = 1) → HS j q 0 ≤ 40)
    (hQ : ∀ w1 o1, (∀ r k, r ≠ 5 → r ≠ 6 → w1 r k = w r k) → CHs w1 o1 (pushN s) (pushH HS s RS) → Q [] w1) : WP M_X0_keep 0 [vr 5, vr a0, vr a1, vu] [] w Q := by
  obtain ⟨e0, e1, e2, o0, o1, s0, s1, hk⟩ := id hH
  have ho : oc 5 = 0 := rfl
  have ha0 := h0.1.1.1
  have ha1 := h1.1.1.1
  have hr40 : RS 0 0 ≤ 40 := h0.1.1.2.2.2.2.2.2.1
  have key : ∀ (v : rW) (o2 z : Int), (∀ r k, r ≠ 5 → v r k = w r k) → v 5 0 = 6 → v 5 1 = o2 → v 5 2 = z → 0 ≤ o2 ∧ o2 < 4 → 0 ≤ z ∧ z < 4 → z + 1 = pushN s → (∀ j q, 0 ≤ j → j < z → (q = 0 ∨ q = 1) → pushH HS s RS j q 0 ≤ 40) → (∀ j q, 0 ≤ j → j < z → (q = 0 ∨ q = 1) → KR (fun k => w 6 ((o2 + j) % 4 * 84 + 42 * q + k)) (pushH HS s RS j q)) → (∀ q, pushH HS s RS z q = RS q) → WP M_X0_keep 30 [vr 5, vr a0, vr a1, vu] [] v Q := by
    intro v o2 z vF v0 v1 v2 ho2 hz hzn hp40 hold hnew
    have c0 : CRw v a0 (RS 0) := h0.mv (funext fun k => vF a0 k (by omega)) (funext fun k => vF (a0 + 1) k (by omega))
    have c1 : CRw v a1 (RS 1) := h1.mv (funext fun k => vF a1 k (by omega)) (funext fun k => vF (a1 + 1) k (by omega))
    refine b_X0_keep_30 ho ?_
    rw [v2]
    refine s_X0_startOf v1 ho2 (by omega) ?_
    have c0o := c0.1.1.2.1
    refine b_X0_keep_38 ho c0o ?_
    rw [v0]
    refine s_X1_saveTo c0 (by omega) (fun w1 hF1 hK1 => ?_)
    have w10 : ∀ r k, r ≠ 6 → w1 r k = v r k := fun r k g => hF1 r k (fun z => g z.1)
    have c2 : CRw w1 a1 (RS 1) := c1.mv (funext fun k => w10 a1 k (by omega)) (funext fun k => w10 (a1 + 1) k (by omega))
    have c2o := c2.1.1.2.1
    refine b_X0_keep_48 ho c2o ?_
    rw [w10 5 0 (by decide), v0]
    refine s_X1_saveTo c2 (by omega) (fun w2 hF2 hK2 => ?_)
    have w20 : ∀ r k, r ≠ 6 → w2 r k = w1 r k := fun r k g => hF2 r k (fun z => g z.1)
    refine b_X0_keep_60 ho ?_
    have w25 : ∀ k, w2 5 k = v 5 k := fun k => (w20 5 k (by decide)).trans (w10 5 k (by decide))
    refine hQ _ o2 (fun r k g1 g2 => ?_) ⟨?_, ?_, ?_, ho2.1, ho2.2, by omega, by omega, ?_⟩
    · rw [ws_nr g1, w20 r k g2, w10 r k g2]; exact vF r k g1
    · rw [ws_nk (by decide), w25]; exact v0
    · rw [ws_nk (by decide), w25]; exact v1
    · rw [ws_eq, w25, v2]; exact hzn
    · have e6 : wset w2 5 2 (w2 5 2 + 1) 6 = w2 6 := funext fun k => ws_nr (by decide)
      rw [e6, ← hzn]
      refine keep_end (w := w) (w1 := w1) hz ho2 rfl hp40 hr40 hold hnew (fun k g => ?_) hK1 (fun k g => hF2 6 k (fun z => g z.2)) hK2
      rw [hF1 6 k (fun z => g z.2)]
      exact vF 6 k (by decide)
  refine b_X0_keep_0 ho (by omega) (fun g => ?_) (fun g => ?_)
  · have hs : s < 4 := by omega
    refine key w o s (fun _ _ _ => rfl) e0 e1 e2 ⟨o0, o1⟩ ⟨s0, hs⟩ (by unfold pushN; rw [if_pos hs]) (fun j q g1 g2 g3 => ?_) (fun j q g1 g2 g3 => ?_) (fun q => ?_)
    · unfold pushH; rw [if_pos hs, if_neg (by omega)]; exact h40 j q g1 g2 g3
    · unfold pushH; rw [if_pos hs, if_neg (by omega)]; exact hk j q g1 g2 g3
    · unfold pushH; rw [if_pos hs, if_pos rfl]
  · have hs : s = 4 := by omega
    refine b_X0_keep_8 ho (by omega) (by omega) ?_
    rw [e1]
    refine key _ ((o + 1) % 4) 3 (fun r k g => ?_) ?_ ?_ ?_ (by omega) (by omega) (by unfold pushN; rw [if_neg (by omega)]; rfl) (fun j q g1 g2 g3 => ?_) (fun j q g1 g2 g3 => ?_) (fun q => ?_)
    · rw [ws_nr g, ws_nr g]
    · rw [ws_nk (by decide), ws_nk (by decide)]; exact e0
    · rw [ws_nk (by decide), ws_eq]
    · rw [ws_eq, ws_nk (by decide), e2, hs]; rfl
    · unfold pushH; rw [if_neg (by omega), if_neg (by omega)]; exact h40 (j + 1) q (by omega) (by omega) g3
    · unfold pushH; rw [if_neg (by omega), if_neg (by omega)]
      have h9 := hk (j + 1) q (by omega) (by omega) g3
      rwa [show (o + (j + 1)) % 4 = ((o + 1) % 4 + j) % 4 by omega] at h9
    · unfold pushH; rw [if_neg (by omega), if_pos rfl]
theorem s_X0_restore {Q : List rV → rW → Prop} {w : rW} {a0 a1 o s : Int} {HS : Int → Int → Int → Int} (hH : CHs w o s HS) (h0 : Ra w a0) (h1 : Ra w a1) (ha : a0 = 1 ∧ a1 = 3 ∨ a0 = 3 ∧ a1 = 1) (hs : 1 ≤ s) (hV : ∀ q, (q = 0 ∨ q = 1) → VK (HS (s - 1) q))
    (hQ : ∀ w1, (∀ r k, r ≠ 1 → r ≠ 2 → r ≠ 3 → r ≠ 4 → r ≠ 5 → w1 r k = w r k) → w1 a0 0 = a0 + 1 → CHs w1 o (s - 1) HS → CRw w1 a0 (HS (s - 1) 0) → CRw w1 a1 (HS (s - 1) 1) → Q [] w1) : WP M_X0_restore 0 [vr 5, vr a0, vr a1, vu] [] w Q := by
  obtain ⟨e0, e1, e2, o0, o1, s0, s1, hk⟩ := id hH
  have ho : oc 5 = 0 := rfl
  have hoa := h0.2.1
  have hob := h1.2.1
  refine b_X0_restore_0 ho (by omega) (fun g => ?_) (fun g => absurd g (by omega))
  refine b_X0_restore_9 ho ?_
  rw [ws_eq, e2]
  refine s_X0_startOf (o := o) (by rw [ws_nk (by decide)]; exact e1) ⟨o0, o1⟩ (by omega) ?_
  refine b_X0_restore_27 ho hoa ?_
  rw [ws_nk (by decide), e0]
  have k0 := hk (s - 1) 0 (by omega) (by omega) (Or.inl rfl)
  have k1 := hk (s - 1) 1 (by omega) (by omega) (Or.inr rfl)
  have v6 : ∀ k, wset w 5 2 (s - 1) 6 k = w 6 k := fun k => ws_nr (by decide)
  refine s_X1_loadFrom (H := HS (s - 1) 0) ⟨h0.1, h0.2.1, h0.2.2.1, by rw [ws_nr (by omega)]; exact h0.2.2.2⟩ (hV 0 (Or.inl rfl)) ?_ (by omega) (fun w1 hF1 hC1 => ?_)
  · rw [show (fun k => wset w 5 2 (s - 1) 6 ((o + (s - 1)) % 4 * 84 + k)) = fun k => w 6 ((o + (s - 1)) % 4 * 84 + 42 * 0 + k) from funext fun k => by rw [v6]; congr 1; omega]
    exact k0
  refine b_X0_restore_37 ho hob ?_
  have w15 : ∀ k, w1 5 k = wset w 5 2 (s - 1) 5 k := fun k => hF1 5 k (by omega) (by omega)
  have w16 : ∀ k, w1 6 k = w 6 k := fun k => (hF1 6 k (by omega) (by omega)).trans (v6 k)
  rw [w15, ws_nk (by decide), e0]
  refine s_X1_loadFrom (H := HS (s - 1) 1) ⟨h1.1, h1.2.1, h1.2.2.1, by rw [hF1 a1 0 (by omega) (by omega), ws_nr (by omega)]; exact h1.2.2.2⟩ (hV 1 (Or.inr rfl)) ?_ (by omega) (fun w2 hF2 hC2 => ?_)
  · rw [show (fun k => w1 6 ((o + (s - 1)) % 4 * 84 + 42 + k)) = fun k => w 6 ((o + (s - 1)) % 4 * 84 + 42 * 1 + k) from funext fun k => by rw [w16]; congr 1]
    exact k1
  refine b_X0_restore_49 ?_
  have w25 : ∀ k, w2 5 k = wset w 5 2 (s - 1) 5 k := fun k => (hF2 5 k (by omega) (by omega)).trans (w15 k)
  have w26 : w2 6 = w 6 := funext fun k => (hF2 6 k (by omega) (by omega)).trans (w16 k)
  have hCa : CRw w2 a0 (HS (s - 1) 0) := hC1.mv (funext fun k => hF2 a0 k (by omega) (by omega)) (funext fun k => hF2 (a0 + 1) k (by omega) (by omega))
  refine hQ w2 (fun r k g1 g2 g3 g4 g5 => ?_) hCa.1.1.2.2.2.1 ⟨?_, ?_, ?_, o0, o1, by omega, by omega, fun j q g1 g2 g3 => ?_⟩ hCa hC2
  · rw [hF2 r k (by omega) (by omega), hF1 r k (by omega) (by omega), ws_nr g5]
  · rw [w25, ws_nk (by decide)]; exact e0
  · rw [w25, ws_nk (by decide)]; exact e1
  · rw [w25, ws_eq]
  · rw [w26]; exact hk j q g1 (by omega) g3

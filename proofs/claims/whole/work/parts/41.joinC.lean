theorem l_X1_dropRepeated {Q : List rV → rW → Prop} {w0 : rW} {a n : Int} (h0 : R0 w0 a n) (hs : Srt (w0 (a + 1)) n) (hQ : ∀ (w1 : rW) (k : Int), (∀ r q, r ≠ a → r ≠ a + 1 → w1 r q = w0 r q) → (∀ q, q ≠ 1 → w1 a q = w0 a q) → R0 w1 a k → SS (w1 (a + 1)) k → (∀ u, has (w1 (a + 1)) k u ↔ has (w0 (a + 1)) n u) → Q [] w1) : ∀ (d : Nat) (w : rW) (p i : Int), (n - i).toNat < d → 0 ≤ p → p ≤ i → i ≤ n → (∀ r q, r ≠ a + 1 → w r q = w0 r q) → (∀ j, i ≤ j → j < n → w (a + 1) j = w0 (a + 1) j) → (∀ j, 0 ≤ j → j < n → 0 ≤ w (a + 1) j ∧ w (a + 1) j ≤ 4095) → SS (w (a + 1)) p → (∀ u, has (w (a + 1)) p u ↔ has (w0 (a + 1)) i u) → ((p = 0 ∧ i = 0) ∨ (0 < p ∧ 0 < i ∧ w (a + 1) (p - 1) = w0 (a + 1) (i - 1))) → WP M_X1_dropRepeated 4 [vr a, vi p, vi i, vu] [] w Q := by
  obtain ⟨ha, ho, ha1, h00, h01, hn0, hn4, hv0⟩ := id h0
  intro d
  induction d with
  | zero => intro w p i hd; omega
  | succ d ih =>
    intro w p i hd hp0 hpi hin hF hT hv hS hM hL
    have e0 : w a 0 = a + 1 := (hF a 0 (by omega)).trans h00
    have e1 : w a 1 = n := (hF a 1 (by omega)).trans h01
    have h : R0 w a n := ⟨ha, ho, ha1, e0, e1, hn0, hn4, hv⟩
    have h2 : al (w a 0) = 40 := by rw [e0]; exact ha1
    refine b_X1_dropRepeated_4 ho (by omega) (by omega) (fun g => ?_) (fun g => ?_)
    · obtain rfl : i = n := by omega
      refine b_X1_dropRepeated_48 ho ?_
      have eb : wset w a 1 p (a + 1) = w (a + 1) := funext fun q => ws_nr (by omega)
      refine hQ (wset w a 1 p) p (fun r q z1 z2 => by rw [ws_nr z1]; exact hF r q z2) (fun q z => by rw [ws_nk z]; exact hF a q (by omega)) ⟨ha, ho, ha1, by rw [ws_nk (by decide)]; exact e0, ws_eq _ _ _ _, hp0, by omega, fun j z1 z2 => by rw [eb]; exact hv j z1 (by omega)⟩ (by rw [eb]; exact hS) (by rw [eb]; exact hM)
    · have hi0 : 0 ≤ i := by omega
      have hin2 : i < n := by omega
      have hx := hv i hi0 hin2
      have hxi := hT i (Int.le_refl _) hin2
      have hIF : IF (w0 (a + 1)) (w0 (a + 1)) i (w0 (a + 1) i) := IF.self hi0 (hs.sub (by omega))
      have hall : ∀ j, 0 ≤ j → j < p → w (a + 1) j ≤ w (a + 1) i := fun j z1 z2 => by
        have y1 := hS.srt j (p - 1) z1 (by omega) (by omega)
        have y2 := hs (i - 1) i (by omega) (by omega) hin2
        omega
      have put : (p = 0 ∨ ¬ w (a + 1) (p - 1) = w (a + 1) i) → WP M_X1_dropRepeated 33 [vr a, vi p, vi i, vi (w (a + 1) i)] [] w Q := fun hne => by
        refine b_X1_dropRepeated_33 ho ?_
        refine s_X1_put ho h2 hp0 (by omega) ?_
        rw [e0]
        refine b_X1_dropRepeated_39 (b_X1_dropRepeated_42 ?_)
        have hA : IF (w (a + 1)) (wset w (a + 1) p (w (a + 1) i) (a + 1)) p (w (a + 1) i) := IF.app hp0 hall (fun j z1 z2 => ws_nk (by omega)) (ws_eq _ _ _ _)
        have hnh : ¬ has (w (a + 1)) p (w (a + 1) i) := fun ⟨j, j0, j1, e⟩ => by
          have y1 := hS.srt j (p - 1) j0 (by omega) (by omega)
          have y2 := hall (p - 1) (by omega) (by omega)
          omega
        refine ih _ _ _ (by omega) (by omega) (by omega) (by omega) (fun r q z => by rw [ws_nr z]; exact hF r q z) (fun j z1 z2 => by rw [ws_nk (by omega)]; exact hT j (by omega) z2) (fun j z1 z2 => ?_) (hA.2.2.1 hS hnh) (fun u => ?_) (Or.inr ⟨by omega, by omega, ?_⟩)
        · by_cases z : j = p
          · rw [z, ws_eq]; exact hx
          · rw [ws_nk z]; exact hv j z1 z2
        · rw [hA.2.2.2 u, hM u, hIF.2.2.2 u, hxi]
        · rw [show p + 1 - 1 = p by omega, show i + 1 - 1 = i by omega, ws_eq]
          exact hxi
      refine b_X1_dropRepeated_12 ho ?_
      refine s_X1_numberIn h hi0 hin2 ?_
      refine b_X1_dropRepeated_17 (by omega) (fun g1 => put (Or.inl g1)) (fun g1 => ?_)
      refine b_X1_dropRepeated_22 ho ?_
      refine s_X1_numberIn h (by omega) (by omega) ?_
      have hx2 := hv (p - 1) (by omega) (by omega)
      refine b_X1_dropRepeated_29 (by omega) (by omega) (fun g2 => ?_) (fun g2 => put (Or.inr g2))
      refine b_X1_dropRepeated_42 ?_
      refine ih _ _ _ (by omega) (by omega) (by omega) (by omega) hF (fun j z1 z2 => hT j (by omega) z2) hv hS (fun u => ?_) (Or.inr ⟨by omega, by omega, ?_⟩)
      · rw [hIF.2.2.2 u, hM u]
        refine ⟨Or.inl, fun z => ?_⟩
        rcases z with z | z
        · exact z
        · refine (hM u).mp ⟨p - 1, by omega, by omega, ?_⟩
          omega
      · rw [show i + 1 - 1 = i by omega]
        omega
theorem s_X1_dropRepeated {Q : List rV → rW → Prop} {w : rW} {a n : Int} (h : R0 w a n) (hs : Srt (w (a + 1)) n) (hQ : ∀ (w1 : rW) (k : Int), (∀ r q, r ≠ a → r ≠ a + 1 → w1 r q = w r q) → (∀ q, q ≠ 1 → w1 a q = w a q) → R0 w1 a k → SS (w1 (a + 1)) k → (∀ u, has (w1 (a + 1)) k u ↔ has (w (a + 1)) n u) → Q [] w1) : WP M_X1_dropRepeated 0 [vr a, vu, vu, vu] [] w Q := by
  have hn0 : 0 ≤ n := h.2.2.2.2.2.1
  refine b_X1_dropRepeated_0 ?_
  exact l_X1_dropRepeated h hs hQ _ w 0 0 (Nat.lt_succ_self _) (Int.le_refl _) (Int.le_refl _) hn0 (fun _ _ _ => rfl) (fun _ _ _ => rfl) h.2.2.2.2.2.2.2 (fun i j g0 g1 g2 => by omega) (fun u => Iff.rfl) (Or.inl ⟨rfl, rfl⟩)
theorem s_X3_joinedSize {Q : List rV → rW → Prop} {w : rW} {a c n m o : Int} (e0 : w 0 0 = a) (e1 : w 0 1 = c) (h : R0 w a n) (hc : R0 w c m) (ho : R32 o) (hQ : Q [vi (jz o (w (a + 1)) n (w (c + 1)) m)] w) : WP M_X3_joinedSize 0 [vr 0, vi o] [] w Q := by
  have h3 : oc 0 = 3 := rfl
  have oa : oc (w 0 0) = 1 := by rw [e0]; exact h.2.1
  have ob : oc (w 0 1) = 1 := by rw [e1]; exact hc.2.1
  unfold jz at hQ
  refine b_X3_joinedSize_0 ho (fun g => ?_) (fun g => ?_)
  · rw [if_pos g] at hQ
    refine b_X3_joinedSize_25 h3 oa ob ?_
    rw [e0, e1, h.2.2.2.2.1, hc.2.2.2.2.1]
    exact hQ
  · rw [if_neg g] at hQ
    refine b_X3_joinedSize_4 h3 oa ?_
    rw [e0]
    refine s_X1_unlike h ?_
    refine b_X3_joinedSize_11 h3 ob ?_
    rw [e1]
    refine s_X1_unlike hc ?_
    refine b_X3_joinedSize_18 h3 ?_
    refine s_X3_commonUnlike e0 e1 h hc ?_
    exact b_X3_joinedSize_23 hQ
theorem l_X3_join {Q : List rV → rW → Prop} {w0 : rW} {a c n m o : Int} {F G : Int → Int} (e0 : w0 0 0 = a) (e1 : w0 0 1 = c) (hac : (a = 1 ∧ c = 3) ∨ (a = 3 ∧ c = 1)) (hc : R0 w0 c m) (hG : ∀ i, 0 ≤ i → i < m → w0 (c + 1) i = G i) (ho : o = 0 ∨ o = 1) (hn : 0 ≤ n) (sF : Srt F n) (sG : Srt G m) (bF : inB F n) (bG : inB G m) (hz : jz o F n G m ≤ 40)
    (hQ : ∀ (w1 : rW) (k i : Int), (∀ r q, r ≠ a → r ≠ a + 1 → w1 r q = w0 r q) → (∀ q, q ≠ 1 → w1 a q = w0 a q) → R0 w1 a k → JN o F n G m (w1 (a + 1)) k → WP M_X3_join 106 [vr 0, vi o, vi o, vi i, vu] [] w1 Q) : ∀ (d : Nat) (w : rW) (i k : Int), (m - i).toNat < d → 0 ≤ i → i ≤ m → (∀ r q, r ≠ a → r ≠ a + 1 → w r q = w0 r q) → (∀ q, q ≠ 1 → w a q = w0 a q) → R0 w a k → JN o F n G i (w (a + 1)) k → WP M_X3_join 53 [vr 0, vi o, vi o, vi i, vu] [] w Q := by
  have h3 : oc 0 = 3 := rfl
  intro d
  induction d with
  | zero => intro w i k hd; omega
  | succ d ih =>
    intro w i k hd hi0 him hF hA hR hJ
    obtain ⟨a13, ao, aal, a0, a1, k0, k4, av⟩ := id hR
    have em : m ≤ 40 := hc.2.2.2.2.2.2.1
    have ea : w 0 0 = a := (hF 0 0 (by omega) (by omega)).trans e0
    have eb : w 0 1 = c := (hF 0 1 (by omega) (by omega)).trans e1
    have hcw : R0 w c m := hc.mv (funext fun q => hF c q (by omega) (by omega)) (funext fun q => hF (c + 1) q (by omega) (by omega))
    have oa : oc (w 0 0) = 1 := by rw [ea]; exact ao
    have ob : oc (w 0 1) = 1 := by rw [eb]; exact hcw.2.1
    have s1 : w (w 0 1) 1 = m := by rw [eb]; exact hcw.2.2.2.2.1
    refine b_X3_join_53 h3 ob (by omega) (by omega) (fun g => ?_) (fun g => ?_)
    · obtain rfl : i = m := by omega
      exact hQ w k i hF hA hR hJ
    · have him2 : i < m := by omega
      have hIF : IF G G i (G i) := IF.self hi0 (sG.sub (by omega))
      have hb := bG i hi0 him2
      have eg : w (c + 1) i = G i := (hF (c + 1) i (by omega) (by omega)).trans (hG i hi0 him2)
      refine b_X3_join_64 h3 ob ?_
      rw [eb]
      refine s_X1_numberIn hcw hi0 him2 ?_
      rw [eg]
      have c90 : (o = 0 ∨ ¬ has (w (a + 1)) k (G i)) → WP M_X3_join 90 [vr 0, vi o, vi o, vi i, vi (G i)] [] w Q := fun hne => by
        have hroom := hJ.room hn (by omega) k0 sF sG bF bG ⟨hi0, him2⟩ hne
        refine b_X3_join_90 h3 oa ?_
        rw [ea]
        refine s_X1_insert hR (by omega) (by omega) (fun w1 g1 g2 g3 g4 g5 g6 => ?_)
        have hI1 : IF (w (a + 1)) (w1 (a + 1)) k (G i) := Ins.fc k0 ⟨g4, g5, g6⟩ rfl
        have hJ1 := hJ.insG hI1 hIF hne
        have hb1 := hJ1.bnd hn (by omega) (by omega) sF (sG.sub (by omega)) bF (fun p p0 p1 => bG p p0 (by omega))
        refine b_X3_join_99 (b_X3_join_100 ?_)
        exact ih w1 (i + 1) (k + 1) (by omega) (by omega) (by omega) (fun r q z1 z2 => (g1 r q z1 z2).trans (hF r q z1 z2)) (fun q z => (g2 q z).trans (hA q z)) ⟨a13, ao, aal, (g2 0 (by decide)).trans a0, g3, by omega, by omega, fun j z1 z2 => by have y := hb1 j z1 z2; omega⟩ hJ1
      refine b_X3_join_72 (by omega) (fun g1 => c90 (Or.inl g1)) (fun g1 => ?_)
      refine b_X3_join_78 h3 oa ?_
      rw [ea]
      refine s_X1_holds hR (by omega) (fun r hr => ?_)
      have hth := tm_has (u := G i) k0 hJ.srt
      unfold tm at hth
      refine b_X3_join_87 (by omega) (fun g2 => ?_) (fun g2 => c90 (Or.inr (fun y => ?_)))
      · refine b_X3_join_100 ?_
        exact ih w (i + 1) k (by omega) (by omega) (by omega) hF hA hR (hJ.skG hIF g1 (hth.mp (by omega)))
      · have y1 := hth.mpr y
        omega

theorem ga_congr {f g : Int → Int} {n i : Int} (h : Eqv n f g) (h0 : 0 ≤ i) : ga f n i = ga g n i := by
  unfold ga
  refine ct_congr (fun j z1 z2 => ?_)
  rw [sb_congr h z1, sb_congr h h0]
theorem gap_congr {f g : Int → Int} {n p i : Int} (h : Eqv n f g) (h0 : 0 ≤ i) : gap f n p i ↔ gap g n p i := by
  unfold gap
  rw [ga_congr h h0, sb_congr h h0]
def gPr (g : Int → Int) (n i : Int) : Int → Prop := fun j => sb g n j > sb g n i ∨ (sb g n j = sb g n i ∧ j < i)
theorem ga_but {g : Int → Int} {n i : Int} (h : Srt g n) (h0 : 0 ≤ i) (h1 : i + 1 < n) : ga g n i = ct (fun j => sb g n j > sb g n i ∨ (sb g n j = sb g n i ∧ j < i)) (n - 1).toNat := by
  have e := ct_s (p := fun j => sb g n j > sb g n i ∨ (sb g n j = sb g n i ∧ j < i)) (i := n - 1) (by omega)
  have hs := sb_nn h h0
  have hl : sb g n (n - 1) = 0 := by unfold sb; rw [if_neg (by omega)]
  unfold ga
  rw [show n - 1 + 1 = n by omega] at e
  rw [e, if_neg (by omega), Int.add_zero]

theorem li_X4_gapOf {Q : List rV → rW → Prop} {w : rW} {q n b p y i : Int} (hM : MR w q n b) (hS : Srt (mf w q) n) (hi : 0 ≤ i ∧ i + 1 < n) (hQ : WP M_X4_gapOf 129 [vr 9, vi q, vi p, vi y, vi (i + 1), vi (sb (mf w q) n i), vi (ga (mf w q) n i), vi n, vu] [] w Q) : ∀ (k : Nat) (j x : Int), (n - j).toNat < k → 1 ≤ j → j ≤ n → x = ct (fun j => sb (mf w q) n j > sb (mf w q) n i ∨ (sb (mf w q) n j = sb (mf w q) n i ∧ j < i)) (j - 1).toNat → WP M_X4_gapOf 63 [vr 9, vi q, vi p, vi y, vi (i + 1), vi (sb (mf w q) n i), vi x, vi j, vu] [] w Q := by
  intro k
  induction k with
  | zero => intro j x hk; omega
  | succ k ih =>
    intro j x hk hj0 hj1 ex
    obtain ⟨hq01, hm0, hmn, hmb, hn0, hn4, hb1, hb2, hv⟩ := id hM
    have ho : oc 9 = 4 := rfl
    have hsi : sb (mf w q) n i = mf w q (i + 1) - mf w q i := by unfold sb; rw [if_pos hi.2]
    have hvi := hv i hi.1 (by omega)
    have hvi2 := hv (i + 1) (by omega) hi.2
    have hsj : j < n → sb (mf w q) n (j - 1) = mf w q j - mf w q (j - 1) := fun z => by unfold sb; rw [if_pos (by omega), show j - 1 + 1 = j by omega]
    have hnx : ct (fun j => sb (mf w q) n j > sb (mf w q) n i ∨ (sb (mf w q) n j = sb (mf w q) n i ∧ j < i)) (j + 1 - 1).toNat = x + if sb (mf w q) n (j - 1) > sb (mf w q) n i ∨ (sb (mf w q) n (j - 1) = sb (mf w q) n i ∧ j - 1 < i) then 1 else 0 := by
      have e := ct_s (p := fun j => sb (mf w q) n j > sb (mf w q) n i ∨ (sb (mf w q) n j = sb (mf w q) n i ∧ j < i)) (i := j - 1) (by omega)
      rw [show j - 1 + 1 = j + 1 - 1 by omega] at e
      rw [e, ← ex]
    refine b_X4_gapOf_63 (by first | omega | assumption) ?_
    refine s_X4_many hM ?_
    refine b_X4_gapOf_70 (by first | omega | assumption) (by first | omega | assumption) (fun c_70 => ?_) (fun c_70 => ?_)
    · have ej : j = n := by omega
      rw [ej, ← ga_but hS hi.1 hi.2] at ex
      rw [ex, ej]
      exact hQ
    · refine b_X4_gapOf_73 (by first | omega | assumption) ?_
      refine s_X4_number hM (by omega) (by omega) ?_
      refine b_X4_gapOf_80 (by first | omega | assumption) ?_
      refine s_X4_number hM (by omega) (by omega) ?_
      have hvj := hv j (by omega) (by omega)
      have hvj2 := hv (j - 1) (by omega) (by omega)
      have hsj := hsj (by omega)
      refine b_X4_gapOf_89 (by first | omega | assumption) (by first | omega | assumption) (fun c_89 => ?_) (fun c_89 => ?_)
      · refine b_X4_gapOf_115  ?_
        refine b_X4_gapOf_120  ?_
        refine ih _ _ (by omega) (by omega) (by omega) ?_
        rw [hnx]
        first | (rw [if_pos (by omega)]; done) | (rw [if_neg (by omega)]; done)
      · refine b_X4_gapOf_101 (by first | omega | assumption) (by first | omega | assumption) (fun c_101 => ?_) (fun c_101 => ?_)
        · refine b_X4_gapOf_119  ?_
          refine b_X4_gapOf_120  ?_
          refine ih _ _ (by omega) (by omega) (by omega) ?_
          rw [hnx]
          first | (rw [if_pos (by omega)]; done) | (rw [if_neg (by omega)]; done)
        · refine b_X4_gapOf_108 (by first | omega | assumption) (by first | omega | assumption) (fun c_108 => ?_) (fun c_108 => ?_)
          · refine b_X4_gapOf_119  ?_
            refine b_X4_gapOf_120  ?_
            refine ih _ _ (by omega) (by omega) (by omega) ?_
            rw [hnx]
            first | (rw [if_pos (by omega)]; done) | (rw [if_neg (by omega)]; done)
          · refine b_X4_gapOf_115  ?_
            refine b_X4_gapOf_120  ?_
            refine ih _ _ (by omega) (by omega) (by omega) ?_
            rw [hnx]
            first | (rw [if_pos (by omega)]; done) | (rw [if_neg (by omega)]; done)

theorem l_X4_gapOf {Q : List rV → rW → Prop} {w : rW} {q n b p y : Int} (hM : MR w q n b) (hS : Srt (mf w q) n) (hp : R32 p) (hy : R32 y) (hQ : ∀ r, ((r = -1000004 ∧ ∀ i, 0 ≤ i → i < n → ¬ gap (mf w q) n p i) ∨ (∃ i, 0 ≤ i ∧ i < n ∧ gap (mf w q) n p i ∧ (∀ i2, 0 ≤ i2 → i2 < i → ¬ gap (mf w q) n p i2) ∧ r = if y = 0 then i else sb (mf w q) n i)) → Q [vi r] w) : ∀ (k : Nat) (j : Int), (n - j).toNat < k → 1 ≤ j → (j ≤ n ∨ j = 1) → (∀ i, 0 ≤ i → i + 1 < j → ¬ gap (mf w q) n p i) → WP M_X4_gapOf 28 [vr 9, vi q, vi p, vi y, vi j, vu, vu, vu, vu] [] w Q := by
  intro k
  induction k with
  | zero => intro j hk; omega
  | succ k ih =>
    intro j hk hj0 hj1 hlt
    obtain ⟨hq01, hm0, hmn, hmb, hn0, hn4, hb1, hb2, hv⟩ := id hM
    have ho : oc 9 = 4 := rfl
    refine b_X4_gapOf_28 ho ?_
    refine s_X4_many hM ?_
    refine b_X4_gapOf_35 (by omega) (by omega) (fun g => ?_) (fun g => ?_)
    · refine b_X4_gapOf_161 (hQ _ (Or.inl ⟨rfl, fun i z1 z2 => ?_⟩))
      by_cases z : i + 1 < j
      · exact hlt i z1 z
      · intro y1
        have y2 := y1.1
        unfold sb at y2
        rw [if_neg (by omega)] at y2
        omega
    · refine b_X4_gapOf_38 ho ?_
      refine s_X4_number hM (by omega) (by omega) ?_
      refine b_X4_gapOf_45 ho ?_
      refine s_X4_number hM (by omega) (by omega) ?_
      refine b_X4_gapOf_54 ?_
      have hsi : mf w q j - mf w q (j - 1) = sb (mf w q) n (j - 1) := by unfold sb; rw [if_pos (by omega), show j - 1 + 1 = j by omega]
      have hvi := hv j (by omega) g
      have hvi2 := hv (j - 1) (by omega) (by omega)
      have hga := ga_bd (f := mf w q) (i := j - 1) hn4
      rw [hsi]
      have nxt : ¬ gap (mf w q) n p (j - 1) → WP M_X4_gapOf 155 [vr 9, vi q, vi p, vi y, vi j, vi (sb (mf w q) n (j - 1)), vi (ga (mf w q) n (j - 1)), vi n, vu] [] w Q := fun z => by
        refine b_X4_gapOf_155 ?_
        refine ih _ (by omega) (by omega) (by omega) (fun i z1 z2 => ?_)
        by_cases z3 : i = j - 1
        · rw [z3]; exact z
        · exact hlt i z1 (by omega)
      have hin := li_X4_gapOf (Q := Q) (p := p) (y := y) hM hS (i := j - 1) (by omega)
      rw [show j - 1 + 1 = j by omega] at hin
      refine hin ?_ _ 1 0 (Nat.lt_succ_self _) (Int.le_refl _) (by omega) rfl
      refine b_X4_gapOf_129 (by omega) (fun g1 => ?_) (fun g1 => ?_)
      · exact nxt (fun z => by have := z.1; omega)
      · refine b_X4_gapOf_135 (by omega) hp (fun g2 => ?_) (fun g2 => ?_)
        · exact nxt (fun z => g2 z.2)
        · have hg : gap (mf w q) n p (j - 1) := ⟨by omega, g2⟩
          refine b_X4_gapOf_141 hy (fun g3 => ?_) (fun g3 => ?_)
          · refine b_X4_gapOf_152 (b_X4_gapOf_154 (hQ _ (Or.inr ⟨j - 1, by omega, by omega, hg, fun i z1 z2 => hlt i z1 (by omega), ?_⟩)))
            rw [if_neg g3]
          · refine b_X4_gapOf_145 (b_X4_gapOf_154 (hQ _ (Or.inr ⟨j - 1, by omega, by omega, hg, fun i z1 z2 => hlt i z1 (by omega), ?_⟩)))
            rw [if_pos g3]

theorem j_gapOf {w : rW} {q x y : Int} (hI : Inv w) (hqr : R32 q) (hxr : R32 x) (hyr : R32 y) : WP M_X3_gapOf 0 [vr 0, vi q, vi x, vi y, vu, vu] [] w (JQ M_X4_gapOf [vr 9, vi q, vi x, vi y, vu, vu, vu, vu, vu]) := by
  have ho0 : oc 0 = 3 := rfl
  have ho9 : oc 9 = 4 := rfl
  by_cases hq : q = 0 ∨ q = 1
  · clear ho0
    have ho0 : oc 0 = 3 := rfl
    obtain ⟨a, n, b, hra, hR, hM, hV, hE⟩ := hI.row hq
    obtain ⟨h, hb0, hb1, hb2⟩ := id hR
    obtain ⟨ha13, ho, ha1, h0, h1, hn0, hn4, hv⟩ := id h
    have hn : 0 ≤ n ∧ n ≤ 40 := ⟨hn0, hn4⟩
    have hb : 1 ≤ b ∧ b ≤ 4096 := ⟨by omega, hb2⟩
    have hwb := wd_bd hn.1 hb.2
    have hpw := p2_w hn.1 hb.2
    have hub := ub_bd hn hb
    have hzb := zf_bd hn.1 hb.1 hb.2
    have hsz := szf_bd hn hb
    have hun := unl_bd (f := w (a + 1)) hn0
    have hu9 : w 9 9 = 15 := hI.1.2.2.2.2.2.2.2.2.2.1
    have hu11 : w 9 11 = 16 := hI.1.2.2.2.2.2.2.2.2.2.2.1
    have ha0 : al (w 9 0) = 84 := by rw [hM.2.1]; rfl
    have hbm : w (w 9 0) (42 * q + 1) = b := by rw [hM.2.1]; exact hM.2.2.2.1
    refine b_X3_gapOf_0  ?_
    refine s_X3_isRow (by omega) (fun r hr => ?_)
    refine b_X3_gapOf_4 (by first | omega | assumption) (fun c_4 => ?_) (fun c_4 => ?_)
    · first
      | exact absurd c_4 (by omega)
      | (refine b_X3_gapOf_20  ?_
         refine JQ.mk (by omega) ?_
         refine b_X4_gapOf_0  ?_
         refine s_X4_in (by omega) (by omega) (by omega) (fun r hr => ?_)
         refine b_X4_gapOf_6 (by first | omega | assumption) (fun d_6 => ?_) (fun d_6 => ?_)
         · first
           | exact absurd d_6 (by omega)
           | (refine b_X4_gapOf_22  ?_
              exact JE (by first | rfl | omega) hI)
         · first
           | exact absurd d_6 (by omega)
           | (refine b_X4_gapOf_9 (by first | omega | assumption) (fun d_9 => ?_) (fun d_9 => ?_)
              · first
                | exact absurd d_9 (by omega)
                | (refine b_X4_gapOf_22  ?_
                   exact JE (by first | rfl | omega) hI)
              · first
                | exact absurd d_9 (by omega)
                | (refine b_X4_gapOf_13  ?_
                   refine s_X4_in (by omega) (by omega) (by omega) (fun r hr => ?_)
                   refine b_X4_gapOf_19 (by first | omega | assumption) (fun d_19 => ?_) (fun d_19 => ?_)
                   · first
                     | exact absurd d_19 (by omega)
                     | (refine b_X4_gapOf_25  ?_
                        refine l_X4_gapOf hM hV.2 (by omega) (by omega) (fun r2 hr2 => ?_) _ 1 (Nat.lt_succ_self _) (Int.le_refl _) (Or.inr rfl) (fun i z1 z2 => by omega)
                        refine JE ?_ hI
                        rcases hr2 with ⟨e1, k1⟩ | ⟨i, e1, e2, e3, e4, e5⟩
                        · first
                          | exact e1
                          | exact absurd hgr (k1 _ hr0 hrn)
                        · first
                          | exact absurd e3 (hg9 i e1 e2)
                          | (have hir : i = rg := by
                               rcases Int.lt_trichotomy i rg with z | z | z
                               · exact absurd e3 (hgm i e1 z)
                               · exact z
                               · exact absurd hgr (e4 rg hr0 z)
                             rw [hir] at e5
                             first
                             | (rw [if_pos (by omega)] at e5; exact e5)
                             | (rw [if_neg (by omega)] at e5; rw [e5, hsbe])))
                   · first
                     | exact absurd d_19 (by omega)
                     | (refine b_X4_gapOf_22  ?_
                        exact JE (by first | rfl | omega) hI))))
    · first
      | exact absurd c_4 (by omega)
      | (refine b_X3_gapOf_7 (by first | omega | assumption) (fun c_7 => ?_) (fun c_7 => ?_)
         · first
           | exact absurd c_7 (by omega)
           | (refine b_X3_gapOf_20  ?_
              refine JQ.mk (by omega) ?_
              refine b_X4_gapOf_0  ?_
              refine s_X4_in (by omega) (by omega) (by omega) (fun r hr => ?_)
              refine b_X4_gapOf_6 (by first | omega | assumption) (fun d_6 => ?_) (fun d_6 => ?_)
              · first
                | exact absurd d_6 (by omega)
                | (refine b_X4_gapOf_22  ?_
                   exact JE (by first | rfl | omega) hI)
              · first
                | exact absurd d_6 (by omega)
                | (refine b_X4_gapOf_9 (by first | omega | assumption) (fun d_9 => ?_) (fun d_9 => ?_)
                   · first
                     | exact absurd d_9 (by omega)
                     | (refine b_X4_gapOf_22  ?_
                        exact JE (by first | rfl | omega) hI)
                   · first
                     | exact absurd d_9 (by omega)
                     | (refine b_X4_gapOf_13  ?_
                        refine s_X4_in (by omega) (by omega) (by omega) (fun r hr => ?_)
                        refine b_X4_gapOf_19 (by first | omega | assumption) (fun d_19 => ?_) (fun d_19 => ?_)
                        · first
                          | exact absurd d_19 (by omega)
                          | (refine b_X4_gapOf_25  ?_
                             refine l_X4_gapOf hM hV.2 (by omega) (by omega) (fun r2 hr2 => ?_) _ 1 (Nat.lt_succ_self _) (Int.le_refl _) (Or.inr rfl) (fun i z1 z2 => by omega)
                             refine JE ?_ hI
                             rcases hr2 with ⟨e1, k1⟩ | ⟨i, e1, e2, e3, e4, e5⟩
                             · first
                               | exact e1
                               | exact absurd hgr (k1 _ hr0 hrn)
                             · first
                               | exact absurd e3 (hg9 i e1 e2)
                               | (have hir : i = rg := by
                                    rcases Int.lt_trichotomy i rg with z | z | z
                                    · exact absurd e3 (hgm i e1 z)
                                    · exact z
                                    · exact absurd hgr (e4 rg hr0 z)
                                  rw [hir] at e5
                                  first
                                  | (rw [if_pos (by omega)] at e5; exact e5)
                                  | (rw [if_neg (by omega)] at e5; rw [e5, hsbe])))
                        · first
                          | exact absurd d_19 (by omega)
                          | (refine b_X4_gapOf_22  ?_
                             exact JE (by first | rfl | omega) hI))))
         · first
           | exact absurd c_7 (by omega)
           | (refine b_X3_gapOf_11  ?_
              refine s_X3_isWithin (by omega) (by omega) (by omega) (fun r hr => ?_)
              refine b_X3_gapOf_17 (by first | omega | assumption) (fun c_17 => ?_) (fun c_17 => ?_)
              · first
                | exact absurd c_17 (by omega)
                | (refine b_X3_gapOf_23 (by first | omega | assumption) ?_
                   refine s_X3_rowAt hra ?_
                   refine b_X3_gapOf_28 (by first | omega | assumption) ?_
                   refine s_X1_indexOfGap h (by omega) (fun rg hg => ?_)
                   have hr9 : -1 ≤ rg ∧ rg < 41 := by
                     rcases hg with ⟨k, -⟩ | ⟨k1, k2, -⟩ <;> omega
                   refine b_X3_gapOf_36 (by first | omega | assumption) (fun c_36 => ?_) (fun c_36 => ?_)
                   · first
                     | exact absurd c_36 (by omega)
                     | (obtain ⟨hr0, hrn, hgr, hgm⟩ : 0 ≤ rg ∧ rg < n ∧ gap (mf w q) n x rg ∧ ∀ i, 0 ≤ i → i < rg → ¬ gap (mf w q) n x i := by
                          rcases hg with ⟨k, -⟩ | ⟨k1, k2, k3, k4⟩
                          · omega
                          · exact ⟨k1, k2, (gap_congr hE k1).mp k3, fun i z1 z2 z3 => k4 i z1 z2 ((gap_congr hE z1).mpr z3)⟩
                        clear hg
                        have hsbr := sb_bd h hr0
                        have hsbe := sb_congr (n := n) hE hr0
                        refine b_X3_gapOf_46 (by first | omega | assumption) (fun c_46 => ?_) (fun c_46 => ?_)
                        · first
                          | exact absurd c_46 (by omega)
                          | (refine b_X3_gapOf_55 (by first | omega | assumption) ?_
                             refine s_X1_stepBehind h (by omega) (by omega) ?_
                             refine b_X3_gapOf_62  ?_
                             refine JQ.mk (by omega) ?_
                             refine b_X4_gapOf_0  ?_
                             refine s_X4_in (by omega) (by omega) (by omega) (fun r hr => ?_)
                             refine b_X4_gapOf_6 (by first | omega | assumption) (fun d_6 => ?_) (fun d_6 => ?_)
                             · first
                               | exact absurd d_6 (by omega)
                               | (refine b_X4_gapOf_22  ?_
                                  exact JE (by first | rfl | omega) hI)
                             · first
                               | exact absurd d_6 (by omega)
                               | (refine b_X4_gapOf_9 (by first | omega | assumption) (fun d_9 => ?_) (fun d_9 => ?_)
                                  · first
                                    | exact absurd d_9 (by omega)
                                    | (refine b_X4_gapOf_22  ?_
                                       exact JE (by first | rfl | omega) hI)
                                  · first
                                    | exact absurd d_9 (by omega)
                                    | (refine b_X4_gapOf_13  ?_
                                       refine s_X4_in (by omega) (by omega) (by omega) (fun r hr => ?_)
                                       refine b_X4_gapOf_19 (by first | omega | assumption) (fun d_19 => ?_) (fun d_19 => ?_)
                                       · first
                                         | exact absurd d_19 (by omega)
                                         | (refine b_X4_gapOf_25  ?_
                                            refine l_X4_gapOf hM hV.2 (by omega) (by omega) (fun r2 hr2 => ?_) _ 1 (Nat.lt_succ_self _) (Int.le_refl _) (Or.inr rfl) (fun i z1 z2 => by omega)
                                            refine JE ?_ hI
                                            rcases hr2 with ⟨e1, k1⟩ | ⟨i, e1, e2, e3, e4, e5⟩
                                            · first
                                              | exact e1
                                              | exact absurd hgr (k1 _ hr0 hrn)
                                            · first
                                              | exact absurd e3 (hg9 i e1 e2)
                                              | (have hir : i = rg := by
                                                   rcases Int.lt_trichotomy i rg with z | z | z
                                                   · exact absurd e3 (hgm i e1 z)
                                                   · exact z
                                                   · exact absurd hgr (e4 rg hr0 z)
                                                 rw [hir] at e5
                                                 first
                                                 | (rw [if_pos (by omega)] at e5; exact e5)
                                                 | (rw [if_neg (by omega)] at e5; rw [e5, hsbe])))
                                       · first
                                         | exact absurd d_19 (by omega)
                                         | (refine b_X4_gapOf_22  ?_
                                            exact JE (by first | rfl | omega) hI))))
                        · first
                          | exact absurd c_46 (by omega)
                          | (refine b_X3_gapOf_50  ?_
                             refine b_X3_gapOf_62  ?_
                             refine JQ.mk (by omega) ?_
                             refine b_X4_gapOf_0  ?_
                             refine s_X4_in (by omega) (by omega) (by omega) (fun r hr => ?_)
                             refine b_X4_gapOf_6 (by first | omega | assumption) (fun d_6 => ?_) (fun d_6 => ?_)
                             · first
                               | exact absurd d_6 (by omega)
                               | (refine b_X4_gapOf_22  ?_
                                  exact JE (by first | rfl | omega) hI)
                             · first
                               | exact absurd d_6 (by omega)
                               | (refine b_X4_gapOf_9 (by first | omega | assumption) (fun d_9 => ?_) (fun d_9 => ?_)
                                  · first
                                    | exact absurd d_9 (by omega)
                                    | (refine b_X4_gapOf_22  ?_
                                       exact JE (by first | rfl | omega) hI)
                                  · first
                                    | exact absurd d_9 (by omega)
                                    | (refine b_X4_gapOf_13  ?_
                                       refine s_X4_in (by omega) (by omega) (by omega) (fun r hr => ?_)
                                       refine b_X4_gapOf_19 (by first | omega | assumption) (fun d_19 => ?_) (fun d_19 => ?_)
                                       · first
                                         | exact absurd d_19 (by omega)
                                         | (refine b_X4_gapOf_25  ?_
                                            refine l_X4_gapOf hM hV.2 (by omega) (by omega) (fun r2 hr2 => ?_) _ 1 (Nat.lt_succ_self _) (Int.le_refl _) (Or.inr rfl) (fun i z1 z2 => by omega)
                                            refine JE ?_ hI
                                            rcases hr2 with ⟨e1, k1⟩ | ⟨i, e1, e2, e3, e4, e5⟩
                                            · first
                                              | exact e1
                                              | exact absurd hgr (k1 _ hr0 hrn)
                                            · first
                                              | exact absurd e3 (hg9 i e1 e2)
                                              | (have hir : i = rg := by
                                                   rcases Int.lt_trichotomy i rg with z | z | z
                                                   · exact absurd e3 (hgm i e1 z)
                                                   · exact z
                                                   · exact absurd hgr (e4 rg hr0 z)
                                                 rw [hir] at e5
                                                 first
                                                 | (rw [if_pos (by omega)] at e5; exact e5)
                                                 | (rw [if_neg (by omega)] at e5; rw [e5, hsbe])))
                                       · first
                                         | exact absurd d_19 (by omega)
                                         | (refine b_X4_gapOf_22  ?_
                                            exact JE (by first | rfl | omega) hI)))))
                   · first
                     | exact absurd c_36 (by omega)
                     | (have hg9 : ∀ i, 0 ≤ i → i < n → ¬ gap (mf w q) n x i := fun i z1 z2 z3 => by
                          rcases hg with ⟨-, k⟩ | ⟨k, -⟩
                          · exact k i z1 z2 ((gap_congr hE z1).mpr z3)
                          · omega
                        clear hg
                        refine b_X3_gapOf_43  ?_
                        refine JQ.mk (by omega) ?_
                        refine b_X4_gapOf_0  ?_
                        refine s_X4_in (by omega) (by omega) (by omega) (fun r hr => ?_)
                        refine b_X4_gapOf_6 (by first | omega | assumption) (fun d_6 => ?_) (fun d_6 => ?_)
                        · first
                          | exact absurd d_6 (by omega)
                          | (refine b_X4_gapOf_22  ?_
                             exact JE (by first | rfl | omega) hI)
                        · first
                          | exact absurd d_6 (by omega)
                          | (refine b_X4_gapOf_9 (by first | omega | assumption) (fun d_9 => ?_) (fun d_9 => ?_)
                             · first
                               | exact absurd d_9 (by omega)
                               | (refine b_X4_gapOf_22  ?_
                                  exact JE (by first | rfl | omega) hI)
                             · first
                               | exact absurd d_9 (by omega)
                               | (refine b_X4_gapOf_13  ?_
                                  refine s_X4_in (by omega) (by omega) (by omega) (fun r hr => ?_)
                                  refine b_X4_gapOf_19 (by first | omega | assumption) (fun d_19 => ?_) (fun d_19 => ?_)
                                  · first
                                    | exact absurd d_19 (by omega)
                                    | (refine b_X4_gapOf_25  ?_
                                       refine l_X4_gapOf hM hV.2 (by omega) (by omega) (fun r2 hr2 => ?_) _ 1 (Nat.lt_succ_self _) (Int.le_refl _) (Or.inr rfl) (fun i z1 z2 => by omega)
                                       refine JE ?_ hI
                                       rcases hr2 with ⟨e1, k1⟩ | ⟨i, e1, e2, e3, e4, e5⟩
                                       · first
                                         | exact e1
                                         | exact absurd hgr (k1 _ hr0 hrn)
                                       · first
                                         | exact absurd e3 (hg9 i e1 e2)
                                         | (have hir : i = rg := by
                                              rcases Int.lt_trichotomy i rg with z | z | z
                                              · exact absurd e3 (hgm i e1 z)
                                              · exact z
                                              · exact absurd hgr (e4 rg hr0 z)
                                            rw [hir] at e5
                                            first
                                            | (rw [if_pos (by omega)] at e5; exact e5)
                                            | (rw [if_neg (by omega)] at e5; rw [e5, hsbe])))
                                  · first
                                    | exact absurd d_19 (by omega)
                                    | (refine b_X4_gapOf_22  ?_
                                       exact JE (by first | rfl | omega) hI)))))
              · first
                | exact absurd c_17 (by omega)
                | (refine b_X3_gapOf_20  ?_
                   refine JQ.mk (by omega) ?_
                   refine b_X4_gapOf_0  ?_
                   refine s_X4_in (by omega) (by omega) (by omega) (fun r hr => ?_)
                   refine b_X4_gapOf_6 (by first | omega | assumption) (fun d_6 => ?_) (fun d_6 => ?_)
                   · first
                     | exact absurd d_6 (by omega)
                     | (refine b_X4_gapOf_22  ?_
                        exact JE (by first | rfl | omega) hI)
                   · first
                     | exact absurd d_6 (by omega)
                     | (refine b_X4_gapOf_9 (by first | omega | assumption) (fun d_9 => ?_) (fun d_9 => ?_)
                        · first
                          | exact absurd d_9 (by omega)
                          | (refine b_X4_gapOf_22  ?_
                             exact JE (by first | rfl | omega) hI)
                        · first
                          | exact absurd d_9 (by omega)
                          | (refine b_X4_gapOf_13  ?_
                             refine s_X4_in (by omega) (by omega) (by omega) (fun r hr => ?_)
                             refine b_X4_gapOf_19 (by first | omega | assumption) (fun d_19 => ?_) (fun d_19 => ?_)
                             · first
                               | exact absurd d_19 (by omega)
                               | (refine b_X4_gapOf_25  ?_
                                  refine l_X4_gapOf hM hV.2 (by omega) (by omega) (fun r2 hr2 => ?_) _ 1 (Nat.lt_succ_self _) (Int.le_refl _) (Or.inr rfl) (fun i z1 z2 => by omega)
                                  refine JE ?_ hI
                                  rcases hr2 with ⟨e1, k1⟩ | ⟨i, e1, e2, e3, e4, e5⟩
                                  · first
                                    | exact e1
                                    | exact absurd hgr (k1 _ hr0 hrn)
                                  · first
                                    | exact absurd e3 (hg9 i e1 e2)
                                    | (have hir : i = rg := by
                                         rcases Int.lt_trichotomy i rg with z | z | z
                                         · exact absurd e3 (hgm i e1 z)
                                         · exact z
                                         · exact absurd hgr (e4 rg hr0 z)
                                       rw [hir] at e5
                                       first
                                       | (rw [if_pos (by omega)] at e5; exact e5)
                                       | (rw [if_neg (by omega)] at e5; rw [e5, hsbe])))
                             · first
                               | exact absurd d_19 (by omega)
                               | (refine b_X4_gapOf_22  ?_
                                  exact JE (by first | rfl | omega) hI))))))
  · have hq2 : q < 0 ∨ 1 < q := by omega
    refine b_X3_gapOf_0  ?_
    refine s_X3_isRow (by omega) (fun r hr => ?_)
    refine b_X3_gapOf_4 (by first | omega | assumption) (fun c_4 => ?_) (fun c_4 => ?_)
    · first
      | exact absurd c_4 (by omega)
      | (refine b_X3_gapOf_20  ?_
         refine JQ.mk (by omega) ?_
         refine b_X4_gapOf_0  ?_
         refine s_X4_in (by omega) (by omega) (by omega) (fun r hr => ?_)
         refine b_X4_gapOf_6 (by first | omega | assumption) (fun d_6 => ?_) (fun d_6 => ?_)
         · first
           | exact absurd d_6 (by omega)
           | (refine b_X4_gapOf_22  ?_
              exact JE (by first | rfl | omega) hI)
         · first
           | exact absurd d_6 (by omega)
           | (refine b_X4_gapOf_9 (by first | omega | assumption) (fun d_9 => ?_) (fun d_9 => ?_)
              · first
                | exact absurd d_9 (by omega)
                | (refine b_X4_gapOf_22  ?_
                   exact JE (by first | rfl | omega) hI)
              · first
                | exact absurd d_9 (by omega)
                | (refine b_X4_gapOf_13  ?_
                   refine s_X4_in (by omega) (by omega) (by omega) (fun r hr => ?_)
                   refine b_X4_gapOf_19 (by first | omega | assumption) (fun d_19 => ?_) (fun d_19 => ?_)
                   · first
                     | exact absurd d_19 (by omega)
                     | (refine b_X4_gapOf_25  ?_
                        refine l_X4_gapOf hM hV.2 (by omega) (by omega) (fun r2 hr2 => ?_) _ 1 (Nat.lt_succ_self _) (Int.le_refl _) (Or.inr rfl) (fun i z1 z2 => by omega)
                        refine JE ?_ hI
                        rcases hr2 with ⟨e1, k1⟩ | ⟨i, e1, e2, e3, e4, e5⟩
                        · first
                          | exact e1
                          | exact absurd hgr (k1 _ hr0 hrn)
                        · first
                          | exact absurd e3 (hg9 i e1 e2)
                          | (have hir : i = rg := by
                               rcases Int.lt_trichotomy i rg with z | z | z
                               · exact absurd e3 (hgm i e1 z)
                               · exact z
                               · exact absurd hgr (e4 rg hr0 z)
                             rw [hir] at e5
                             first
                             | (rw [if_pos (by omega)] at e5; exact e5)
                             | (rw [if_neg (by omega)] at e5; rw [e5, hsbe])))
                   · first
                     | exact absurd d_19 (by omega)
                     | (refine b_X4_gapOf_22  ?_
                        exact JE (by first | rfl | omega) hI))))
    · first
      | exact absurd c_4 (by omega)
      | (refine b_X3_gapOf_7 (by first | omega | assumption) (fun c_7 => ?_) (fun c_7 => ?_)
         · first
           | exact absurd c_7 (by omega)
           | (refine b_X3_gapOf_20  ?_
              refine JQ.mk (by omega) ?_
              refine b_X4_gapOf_0  ?_
              refine s_X4_in (by omega) (by omega) (by omega) (fun r hr => ?_)
              refine b_X4_gapOf_6 (by first | omega | assumption) (fun d_6 => ?_) (fun d_6 => ?_)
              · first
                | exact absurd d_6 (by omega)
                | (refine b_X4_gapOf_22  ?_
                   exact JE (by first | rfl | omega) hI)
              · first
                | exact absurd d_6 (by omega)
                | (refine b_X4_gapOf_9 (by first | omega | assumption) (fun d_9 => ?_) (fun d_9 => ?_)
                   · first
                     | exact absurd d_9 (by omega)
                     | (refine b_X4_gapOf_22  ?_
                        exact JE (by first | rfl | omega) hI)
                   · first
                     | exact absurd d_9 (by omega)
                     | (refine b_X4_gapOf_13  ?_
                        refine s_X4_in (by omega) (by omega) (by omega) (fun r hr => ?_)
                        refine b_X4_gapOf_19 (by first | omega | assumption) (fun d_19 => ?_) (fun d_19 => ?_)
                        · first
                          | exact absurd d_19 (by omega)
                          | (refine b_X4_gapOf_25  ?_
                             refine l_X4_gapOf hM hV.2 (by omega) (by omega) (fun r2 hr2 => ?_) _ 1 (Nat.lt_succ_self _) (Int.le_refl _) (Or.inr rfl) (fun i z1 z2 => by omega)
                             refine JE ?_ hI
                             rcases hr2 with ⟨e1, k1⟩ | ⟨i, e1, e2, e3, e4, e5⟩
                             · first
                               | exact e1
                               | exact absurd hgr (k1 _ hr0 hrn)
                             · first
                               | exact absurd e3 (hg9 i e1 e2)
                               | (have hir : i = rg := by
                                    rcases Int.lt_trichotomy i rg with z | z | z
                                    · exact absurd e3 (hgm i e1 z)
                                    · exact z
                                    · exact absurd hgr (e4 rg hr0 z)
                                  rw [hir] at e5
                                  first
                                  | (rw [if_pos (by omega)] at e5; exact e5)
                                  | (rw [if_neg (by omega)] at e5; rw [e5, hsbe])))
                        · first
                          | exact absurd d_19 (by omega)
                          | (refine b_X4_gapOf_22  ?_
                             exact JE (by first | rfl | omega) hI))))
         · first
           | exact absurd c_7 (by omega)
           | (refine b_X3_gapOf_11  ?_
              refine s_X3_isWithin (by omega) (by omega) (by omega) (fun r hr => ?_)
              refine b_X3_gapOf_17 (by first | omega | assumption) (fun c_17 => ?_) (fun c_17 => ?_)
              · first
                | exact absurd c_17 (by omega)
                | (refine b_X3_gapOf_23 (by first | omega | assumption) ?_
                   refine s_X3_rowAt hra ?_
                   refine b_X3_gapOf_28 (by first | omega | assumption) ?_
                   refine s_X1_indexOfGap h (by omega) (fun rg hg => ?_)
                   have hr9 : -1 ≤ rg ∧ rg < 41 := by
                     rcases hg with ⟨k, -⟩ | ⟨k1, k2, -⟩ <;> omega
                   refine b_X3_gapOf_36 (by first | omega | assumption) (fun c_36 => ?_) (fun c_36 => ?_)
                   · first
                     | exact absurd c_36 (by omega)
                     | (obtain ⟨hr0, hrn, hgr, hgm⟩ : 0 ≤ rg ∧ rg < n ∧ gap (mf w q) n x rg ∧ ∀ i, 0 ≤ i → i < rg → ¬ gap (mf w q) n x i := by
                          rcases hg with ⟨k, -⟩ | ⟨k1, k2, k3, k4⟩
                          · omega
                          · exact ⟨k1, k2, (gap_congr hE k1).mp k3, fun i z1 z2 z3 => k4 i z1 z2 ((gap_congr hE z1).mpr z3)⟩
                        clear hg
                        have hsbr := sb_bd h hr0
                        have hsbe := sb_congr (n := n) hE hr0
                        refine b_X3_gapOf_46 (by first | omega | assumption) (fun c_46 => ?_) (fun c_46 => ?_)
                        · first
                          | exact absurd c_46 (by omega)
                          | (refine b_X3_gapOf_55 (by first | omega | assumption) ?_
                             refine s_X1_stepBehind h (by omega) (by omega) ?_
                             refine b_X3_gapOf_62  ?_
                             refine JQ.mk (by omega) ?_
                             refine b_X4_gapOf_0  ?_
                             refine s_X4_in (by omega) (by omega) (by omega) (fun r hr => ?_)
                             refine b_X4_gapOf_6 (by first | omega | assumption) (fun d_6 => ?_) (fun d_6 => ?_)
                             · first
                               | exact absurd d_6 (by omega)
                               | (refine b_X4_gapOf_22  ?_
                                  exact JE (by first | rfl | omega) hI)
                             · first
                               | exact absurd d_6 (by omega)
                               | (refine b_X4_gapOf_9 (by first | omega | assumption) (fun d_9 => ?_) (fun d_9 => ?_)
                                  · first
                                    | exact absurd d_9 (by omega)
                                    | (refine b_X4_gapOf_22  ?_
                                       exact JE (by first | rfl | omega) hI)
                                  · first
                                    | exact absurd d_9 (by omega)
                                    | (refine b_X4_gapOf_13  ?_
                                       refine s_X4_in (by omega) (by omega) (by omega) (fun r hr => ?_)
                                       refine b_X4_gapOf_19 (by first | omega | assumption) (fun d_19 => ?_) (fun d_19 => ?_)
                                       · first
                                         | exact absurd d_19 (by omega)
                                         | (refine b_X4_gapOf_25  ?_
                                            refine l_X4_gapOf hM hV.2 (by omega) (by omega) (fun r2 hr2 => ?_) _ 1 (Nat.lt_succ_self _) (Int.le_refl _) (Or.inr rfl) (fun i z1 z2 => by omega)
                                            refine JE ?_ hI
                                            rcases hr2 with ⟨e1, k1⟩ | ⟨i, e1, e2, e3, e4, e5⟩
                                            · first
                                              | exact e1
                                              | exact absurd hgr (k1 _ hr0 hrn)
                                            · first
                                              | exact absurd e3 (hg9 i e1 e2)
                                              | (have hir : i = rg := by
                                                   rcases Int.lt_trichotomy i rg with z | z | z
                                                   · exact absurd e3 (hgm i e1 z)
                                                   · exact z
                                                   · exact absurd hgr (e4 rg hr0 z)
                                                 rw [hir] at e5
                                                 first
                                                 | (rw [if_pos (by omega)] at e5; exact e5)
                                                 | (rw [if_neg (by omega)] at e5; rw [e5, hsbe])))
                                       · first
                                         | exact absurd d_19 (by omega)
                                         | (refine b_X4_gapOf_22  ?_
                                            exact JE (by first | rfl | omega) hI))))
                        · first
                          | exact absurd c_46 (by omega)
                          | (refine b_X3_gapOf_50  ?_
                             refine b_X3_gapOf_62  ?_
                             refine JQ.mk (by omega) ?_
                             refine b_X4_gapOf_0  ?_
                             refine s_X4_in (by omega) (by omega) (by omega) (fun r hr => ?_)
                             refine b_X4_gapOf_6 (by first | omega | assumption) (fun d_6 => ?_) (fun d_6 => ?_)
                             · first
                               | exact absurd d_6 (by omega)
                               | (refine b_X4_gapOf_22  ?_
                                  exact JE (by first | rfl | omega) hI)
                             · first
                               | exact absurd d_6 (by omega)
                               | (refine b_X4_gapOf_9 (by first | omega | assumption) (fun d_9 => ?_) (fun d_9 => ?_)
                                  · first
                                    | exact absurd d_9 (by omega)
                                    | (refine b_X4_gapOf_22  ?_
                                       exact JE (by first | rfl | omega) hI)
                                  · first
                                    | exact absurd d_9 (by omega)
                                    | (refine b_X4_gapOf_13  ?_
                                       refine s_X4_in (by omega) (by omega) (by omega) (fun r hr => ?_)
                                       refine b_X4_gapOf_19 (by first | omega | assumption) (fun d_19 => ?_) (fun d_19 => ?_)
                                       · first
                                         | exact absurd d_19 (by omega)
                                         | (refine b_X4_gapOf_25  ?_
                                            refine l_X4_gapOf hM hV.2 (by omega) (by omega) (fun r2 hr2 => ?_) _ 1 (Nat.lt_succ_self _) (Int.le_refl _) (Or.inr rfl) (fun i z1 z2 => by omega)
                                            refine JE ?_ hI
                                            rcases hr2 with ⟨e1, k1⟩ | ⟨i, e1, e2, e3, e4, e5⟩
                                            · first
                                              | exact e1
                                              | exact absurd hgr (k1 _ hr0 hrn)
                                            · first
                                              | exact absurd e3 (hg9 i e1 e2)
                                              | (have hir : i = rg := by
                                                   rcases Int.lt_trichotomy i rg with z | z | z
                                                   · exact absurd e3 (hgm i e1 z)
                                                   · exact z
                                                   · exact absurd hgr (e4 rg hr0 z)
                                                 rw [hir] at e5
                                                 first
                                                 | (rw [if_pos (by omega)] at e5; exact e5)
                                                 | (rw [if_neg (by omega)] at e5; rw [e5, hsbe])))
                                       · first
                                         | exact absurd d_19 (by omega)
                                         | (refine b_X4_gapOf_22  ?_
                                            exact JE (by first | rfl | omega) hI)))))
                   · first
                     | exact absurd c_36 (by omega)
                     | (have hg9 : ∀ i, 0 ≤ i → i < n → ¬ gap (mf w q) n x i := fun i z1 z2 z3 => by
                          rcases hg with ⟨-, k⟩ | ⟨k, -⟩
                          · exact k i z1 z2 ((gap_congr hE z1).mpr z3)
                          · omega
                        clear hg
                        refine b_X3_gapOf_43  ?_
                        refine JQ.mk (by omega) ?_
                        refine b_X4_gapOf_0  ?_
                        refine s_X4_in (by omega) (by omega) (by omega) (fun r hr => ?_)
                        refine b_X4_gapOf_6 (by first | omega | assumption) (fun d_6 => ?_) (fun d_6 => ?_)
                        · first
                          | exact absurd d_6 (by omega)
                          | (refine b_X4_gapOf_22  ?_
                             exact JE (by first | rfl | omega) hI)
                        · first
                          | exact absurd d_6 (by omega)
                          | (refine b_X4_gapOf_9 (by first | omega | assumption) (fun d_9 => ?_) (fun d_9 => ?_)
                             · first
                               | exact absurd d_9 (by omega)
                               | (refine b_X4_gapOf_22  ?_
                                  exact JE (by first | rfl | omega) hI)
                             · first
                               | exact absurd d_9 (by omega)
                               | (refine b_X4_gapOf_13  ?_
                                  refine s_X4_in (by omega) (by omega) (by omega) (fun r hr => ?_)
                                  refine b_X4_gapOf_19 (by first | omega | assumption) (fun d_19 => ?_) (fun d_19 => ?_)
                                  · first
                                    | exact absurd d_19 (by omega)
                                    | (refine b_X4_gapOf_25  ?_
                                       refine l_X4_gapOf hM hV.2 (by omega) (by omega) (fun r2 hr2 => ?_) _ 1 (Nat.lt_succ_self _) (Int.le_refl _) (Or.inr rfl) (fun i z1 z2 => by omega)
                                       refine JE ?_ hI
                                       rcases hr2 with ⟨e1, k1⟩ | ⟨i, e1, e2, e3, e4, e5⟩
                                       · first
                                         | exact e1
                                         | exact absurd hgr (k1 _ hr0 hrn)
                                       · first
                                         | exact absurd e3 (hg9 i e1 e2)
                                         | (have hir : i = rg := by
                                              rcases Int.lt_trichotomy i rg with z | z | z
                                              · exact absurd e3 (hgm i e1 z)
                                              · exact z
                                              · exact absurd hgr (e4 rg hr0 z)
                                            rw [hir] at e5
                                            first
                                            | (rw [if_pos (by omega)] at e5; exact e5)
                                            | (rw [if_neg (by omega)] at e5; rw [e5, hsbe])))
                                  · first
                                    | exact absurd d_19 (by omega)
                                    | (refine b_X4_gapOf_22  ?_
                                       exact JE (by first | rfl | omega) hI)))))
              · first
                | exact absurd c_17 (by omega)
                | (refine b_X3_gapOf_20  ?_
                   refine JQ.mk (by omega) ?_
                   refine b_X4_gapOf_0  ?_
                   refine s_X4_in (by omega) (by omega) (by omega) (fun r hr => ?_)
                   refine b_X4_gapOf_6 (by first | omega | assumption) (fun d_6 => ?_) (fun d_6 => ?_)
                   · first
                     | exact absurd d_6 (by omega)
                     | (refine b_X4_gapOf_22  ?_
                        exact JE (by first | rfl | omega) hI)
                   · first
                     | exact absurd d_6 (by omega)
                     | (refine b_X4_gapOf_9 (by first | omega | assumption) (fun d_9 => ?_) (fun d_9 => ?_)
                        · first
                          | exact absurd d_9 (by omega)
                          | (refine b_X4_gapOf_22  ?_
                             exact JE (by first | rfl | omega) hI)
                        · first
                          | exact absurd d_9 (by omega)
                          | (refine b_X4_gapOf_13  ?_
                             refine s_X4_in (by omega) (by omega) (by omega) (fun r hr => ?_)
                             refine b_X4_gapOf_19 (by first | omega | assumption) (fun d_19 => ?_) (fun d_19 => ?_)
                             · first
                               | exact absurd d_19 (by omega)
                               | (refine b_X4_gapOf_25  ?_
                                  refine l_X4_gapOf hM hV.2 (by omega) (by omega) (fun r2 hr2 => ?_) _ 1 (Nat.lt_succ_self _) (Int.le_refl _) (Or.inr rfl) (fun i z1 z2 => by omega)
                                  refine JE ?_ hI
                                  rcases hr2 with ⟨e1, k1⟩ | ⟨i, e1, e2, e3, e4, e5⟩
                                  · first
                                    | exact e1
                                    | exact absurd hgr (k1 _ hr0 hrn)
                                  · first
                                    | exact absurd e3 (hg9 i e1 e2)
                                    | (have hir : i = rg := by
                                         rcases Int.lt_trichotomy i rg with z | z | z
                                         · exact absurd e3 (hgm i e1 z)
                                         · exact z
                                         · exact absurd hgr (e4 rg hr0 z)
                                       rw [hir] at e5
                                       first
                                       | (rw [if_pos (by omega)] at e5; exact e5)
                                       | (rw [if_neg (by omega)] at e5; rw [e5, hsbe])))
                             · first
                               | exact absurd d_19 (by omega)
                               | (refine b_X4_gapOf_22  ?_
                                  exact JE (by first | rfl | omega) hI))))))

theorem wdn_hi {n b : Int} (hn : 1 ≤ n) (hb : 0 ≤ b) : b / n < 2 ^ (wdn n b + 1) := by
  unfold wdn
  rw [if_neg (by omega)]
  have e : ((b / n).toNat : Int) = b / n := Int.toNat_of_nonneg (Int.ediv_nonneg hb (by omega))
  have h := Nat.lt_log2_self (n := (b / n).toNat)
  have h2 : (((b / n).toNat : Nat) : Int) < ((2 ^ ((b / n).toNat.log2 + 1) : Nat) : Int) := Int.ofNat_lt.mpr h
  rw [e] at h2
  push_cast at h2
  exact h2
theorem wdn_lo {n b : Int} (hn : 1 ≤ n) (hb : 1 ≤ b / n) : 2 ^ wdn n b ≤ b / n := by
  unfold wdn
  rw [if_neg (by omega)]
  have e : ((b / n).toNat : Int) = b / n := Int.toNat_of_nonneg (by omega)
  have h := Nat.log2_self_le (n := (b / n).toNat) (by omega)
  have h2 : ((2 ^ (b / n).toNat.log2 : Nat) : Int) ≤ (((b / n).toNat : Nat) : Int) := Int.ofNat_le.mpr h
  rw [e] at h2
  push_cast at h2
  exact h2
theorem szf_up {n b : Int} (hn : 1 ≤ n) (hb : 1 ≤ b) : szf n b ≤ szf n (b + 1) := by
  have hp := p2_pos (wdn n b)
  have h1 := wdn_hi (n := n) hn (show 0 ≤ b by omega)
  have h2 := wdn_hi (n := n) hn (show 0 ≤ b + 1 by omega)
  have e1 := Int.mul_ediv_add_emod b n
  have e2 := Int.mul_ediv_add_emod (b + 1) n
  have m1 := Int.emod_nonneg b (show n ≠ 0 by omega)
  have m2 := Int.emod_lt_of_pos b (show 0 < n by omega)
  have m3 := Int.emod_nonneg (b + 1) (show n ≠ 0 by omega)
  have m4 := Int.emod_lt_of_pos (b + 1) (show 0 < n by omega)
  have d1 : b / n ≤ (b + 1) / n := Int.ediv_le_ediv (by omega) (by omega)
  have d0 : 0 ≤ b / n := Int.ediv_nonneg (by omega) (by omega)
  unfold szf zf
  rw [if_neg (by omega), if_neg (by omega)]
  rcases Nat.lt_trichotomy (wdn n (b + 1)) (wdn n b) with z | z | z
  · have h3 : 1 ≤ b / n := by
      rcases Int.lt_or_le (b / n) 1 with y | y
      · have h0 : wdn n b = 0 := by
          unfold wdn
          rw [if_neg (by omega), show b / n = 0 by omega]
          decide
        omega
      · exact y
    have h4 := wdn_lo hn h3
    have h5 := p2_le (show wdn n (b + 1) + 1 ≤ wdn n b by omega)
    omega
  · unfold wd
    rw [z]
    have h3 : (b - 1) / 2 ^ wdn n b ≤ (b + 1 - 1) / 2 ^ wdn n b := Int.ediv_le_ediv hp (by omega)
    omega
  · have h3 : 1 ≤ (b + 1) / n := by
      rcases Int.lt_or_le ((b + 1) / n) 1 with y | y
      · have h0 : wdn n (b + 1) = 0 := by
          unfold wdn
          rw [if_neg (by omega), show (b + 1) / n = 0 by omega]
          decide
        omega
      · exact y
    have h4 := wdn_lo hn h3
    have h5 := p2_le (show wdn n b + 1 ≤ wdn n (b + 1) by omega)
    have hs : (2 : Int) ^ (wdn n b + 1) = 2 * 2 ^ wdn n b := by rw [Int.pow_succ, Int.mul_comm]
    have hle : (b + 1) / n ≤ b / n + 1 := by
      rcases Int.lt_or_le (b / n + 1) ((b + 1) / n) with y | y
      · have y2 := Int.mul_le_mul_of_nonneg_left (show b / n + 2 ≤ (b + 1) / n by omega) (show 0 ≤ n by omega)
        rw [Int.mul_add] at y2
        omega
      · exact y
    have ha : (b + 1) / n = 2 * 2 ^ wdn n b := by omega
    have hb2 : b / n = 2 * 2 ^ wdn n b - 1 := by omega
    have hw : wdn n (b + 1) = wdn n b + 1 := by
      rcases Nat.lt_or_ge (wdn n b + 1) (wdn n (b + 1)) with y | y
      · have y2 := p2_le (show wdn n b + 2 ≤ wdn n (b + 1) by omega)
        rw [show wdn n b + 2 = wdn n b + 1 + 1 by omega, Int.pow_succ, hs] at y2
        omega
      · omega
    rw [ha] at e2
    rw [hb2, Int.mul_sub] at e1
    have hbn : b + 1 = n * (2 * 2 ^ wdn n b) := by omega
    have hup : (b - 1) / 2 ^ wdn n b < 2 * n := Int.ediv_lt_of_lt_mul hp (by
      rw [show 2 * n * 2 ^ wdn n b = n * (2 * 2 ^ wdn n b) by rw [Int.mul_comm 2 n, Int.mul_assoc]]
      omega)
    have hlo : n - 1 ≤ (b + 1 - 1) / 2 ^ (wdn n b + 1) := Int.le_ediv_of_mul_le (by omega) (by
      rw [hs, Int.sub_mul]
      omega)
    unfold wd
    rw [hw]
    have hm : n * ((wdn n b + 1 : Nat) : Int) = n * (wdn n b : Int) + n := by push_cast; rw [Int.mul_add, Int.mul_one]
    rw [hm]
    omega
theorem szf_mono {n b : Int} (hn : 1 ≤ n) (hb : 1 ≤ b) : ∀ k : Nat, szf n b ≤ szf n (b + k)
  | 0 => by simp
  | k + 1 => by
    have h1 := szf_mono hn hb k
    have h2 := szf_up (n := n) (b := b + k) hn (by omega)
    have e : b + ((k + 1 : Nat) : Int) = b + k + 1 := by push_cast; omega
    rw [e]
    omega
theorem l_X4_bestBound {Q : List rV → rW → Prop} {w : rW} {q y n d : Int} (hn : 1 ≤ n ∧ n ≤ 40) (hd : 2 ≤ d ∧ d ≤ 4096) (hQ : ∀ jj, WP M_X4_bestBound 102 [vr 9, vi q, vi y, vi n, vi jj, vi d] [] w Q) : ∀ (k : Nat) (j : Int), (4097 - j).toNat < k → d ≤ j → j ≤ 4097 → WP M_X4_bestBound 64 [vr 9, vi q, vi y, vi n, vi j, vi d] [] w Q := by
  intro k
  induction k with
  | zero => intro j hk; omega
  | succ k ih =>
    intro j hk hj0 hj1
    refine b_X4_bestBound_64 (by omega) (fun g => hQ j) (fun g => ?_)
    have hb1 := szf_bd (n := n) (b := j) (by omega) (by omega)
    have hb2 := szf_bd (n := n) (b := d) (by omega) (by omega)
    have hm := szf_mono (n := n) (b := d) hn.1 (by omega) (j - d).toNat
    rw [show d + ((j - d).toNat : Int) = j by omega] at hm
    refine b_X4_bestBound_72 ?_
    refine s_X4_sizeOf (by omega) (by omega) ?_
    refine b_X4_bestBound_78 ?_
    refine s_X4_sizeOf (by omega) (by omega) ?_
    refine b_X4_bestBound_84 (by omega) (by omega) (fun g2 => ?_) (fun g2 => absurd g2 (by omega))
    refine b_X4_bestBound_92 ?_
    refine b_X4_bestBound_94 ?_
    exact ih _ (by omega) (by omega) (by omega)
theorem s_X3_lowestBestBound {Q : List rV → rW → Prop} {w : rW} {a n : Int} (h : R0 w a n) (hn : 1 ≤ n) (hQ : Q [vi (max 2 (w (a + 1) (n - 1) + 1))] w) : WP M_X3_lowestBestBound 0 [vr a] [] w Q := by
  obtain ⟨ha13, ho, ha1, h0, h1, hn0, hn4, hv⟩ := id h
  have hvn := hv (n - 1) (by omega) (by omega)
  refine b_X3_lowestBestBound_0 ho ?_
  rw [h1]
  refine s_X1_numberIn h (by omega) (by omega) ?_
  exact b_X3_lowestBestBound_11 (by omega) (by omega) hQ

theorem j_bestBound {w : rW} {q x : Int} (hI : Inv w) (hqr : R32 q) (hxr : R32 x) : WP M_X3_bestBound 0 [vr 0, vi q, vi x, vu, vu] [] w (JQ M_X4_bestBound [vr 9, vi q, vi x, vu, vu, vu]) := by
  have ho0 : oc 0 = 3 := rfl
  have ho9 : oc 9 = 4 := rfl
  by_cases hq : q = 0 ∨ q = 1
  · clear ho0
    have ho0 : oc 0 = 3 := rfl
    obtain ⟨a, n, b, hra, hR, hM, hV, hE⟩ := hI.row hq
    obtain ⟨h, hb0, hb1, hb2⟩ := id hR
    obtain ⟨ha13, ho, ha1, h0, h1, hn0, hn4, hv⟩ := id h
    have hn : 0 ≤ n ∧ n ≤ 40 := ⟨hn0, hn4⟩
    have hb : 1 ≤ b ∧ b ≤ 4096 := ⟨by omega, hb2⟩
    have hwb := wd_bd hn.1 hb.2
    have hpw := p2_w hn.1 hb.2
    have hub := ub_bd hn hb
    have hzb := zf_bd hn.1 hb.1 hb.2
    have hsz := szf_bd hn hb
    have hun := unl_bd (f := w (a + 1)) hn0
    have hu9 : w 9 9 = 15 := hI.1.2.2.2.2.2.2.2.2.2.1
    have hu11 : w 9 11 = 16 := hI.1.2.2.2.2.2.2.2.2.2.2.1
    have ha0 : al (w 9 0) = 84 := by rw [hM.2.1]; rfl
    have hbm : w (w 9 0) (42 * q + 1) = b := by rw [hM.2.1]; exact hM.2.2.2.1
    refine b_X3_bestBound_0  ?_
    refine s_X3_isRow (by omega) (fun r hr => ?_)
    refine b_X3_bestBound_4 (by first | omega | assumption) (fun c_4 => ?_) (fun c_4 => ?_)
    · first
      | exact absurd c_4 (by omega)
      | (refine b_X3_bestBound_16  ?_
         refine JQ.mk (by omega) ?_
         refine b_X4_bestBound_0  ?_
         refine s_X4_in (by omega) (by omega) (by omega) (fun r hr => ?_)
         refine b_X4_bestBound_6 (by first | omega | assumption) (fun d_6 => ?_) (fun d_6 => ?_)
         · first
           | exact absurd d_6 (by omega)
           | (refine b_X4_bestBound_18  ?_
              exact JE (by first | rfl | omega | (rw [hsB]; omega)) hI)
         · first
           | exact absurd d_6 (by omega)
           | (refine b_X4_bestBound_9  ?_
              refine s_X4_in (by omega) (by omega) (by omega) (fun r hr => ?_)
              refine b_X4_bestBound_15 (by first | omega | assumption) (fun d_15 => ?_) (fun d_15 => ?_)
              · first
                | exact absurd d_15 (by omega)
                | (refine b_X4_bestBound_21 (by first | omega | assumption) ?_
                   refine s_X4_many hM ?_
                   refine b_X4_bestBound_26 (by first | omega | assumption) (fun d_26 => ?_) (fun d_26 => ?_)
                   · first
                     | exact absurd d_26 (by omega)
                     | (refine b_X4_bestBound_34 (by first | omega | assumption) ?_
                        refine s_X4_number hM (by omega) (by omega) ?_
                        refine b_X4_bestBound_42 (by first | omega | assumption) (fun d_42 => ?_) (fun d_42 => ?_)
                        · first
                          | exact absurd d_42 (by omega)
                          | (refine b_X4_bestBound_56  ?_
                             refine b_X4_bestBound_58  ?_
                             have hdd : ∀ z : Int, (z = mf w q (n - 1) + 1 ∧ 2 ≤ z ∨ z = 2 ∧ mf w q (n - 1) + 1 < 2) → z = d := fun z hz => by
                               split at hmx <;> omega
                             first
                             | rw [hdd (mf w q (n - 1) + 1) (by omega)]
                             | rw [hdd 2 (by omega)]
                             refine l_X4_bestBound (by omega) hd (fun jj => ?_) _ d (Nat.lt_succ_self _) (Int.le_refl _) (by omega)
                             refine b_X4_bestBound_102 (by omega) (fun g7 => ?_) (fun g7 => ?_)
                             · first
                               | exact absurd g7 (by omega)
                               | (refine b_X4_bestBound_111 ?_
                                  refine s_X4_sizeOf hn (show 1 ≤ d ∧ d ≤ 4096 by omega) ?_
                                  exact b_X4_bestBound_117 (JE rfl hI))
                             · first
                               | exact absurd g7 (by omega)
                               | (refine b_X4_bestBound_106 ?_
                                  exact b_X4_bestBound_117 (JE rfl hI)))
                        · first
                          | exact absurd d_42 (by omega)
                          | (refine b_X4_bestBound_52  ?_
                             refine b_X4_bestBound_58  ?_
                             have hdd : ∀ z : Int, (z = mf w q (n - 1) + 1 ∧ 2 ≤ z ∨ z = 2 ∧ mf w q (n - 1) + 1 < 2) → z = d := fun z hz => by
                               split at hmx <;> omega
                             first
                             | rw [hdd (mf w q (n - 1) + 1) (by omega)]
                             | rw [hdd 2 (by omega)]
                             refine l_X4_bestBound (by omega) hd (fun jj => ?_) _ d (Nat.lt_succ_self _) (Int.le_refl _) (by omega)
                             refine b_X4_bestBound_102 (by omega) (fun g7 => ?_) (fun g7 => ?_)
                             · first
                               | exact absurd g7 (by omega)
                               | (refine b_X4_bestBound_111 ?_
                                  refine s_X4_sizeOf hn (show 1 ≤ d ∧ d ≤ 4096 by omega) ?_
                                  exact b_X4_bestBound_117 (JE rfl hI))
                             · first
                               | exact absurd g7 (by omega)
                               | (refine b_X4_bestBound_106 ?_
                                  exact b_X4_bestBound_117 (JE rfl hI))))
                   · first
                     | exact absurd d_26 (by omega)
                     | (refine b_X4_bestBound_31  ?_
                        exact JE (by first | rfl | omega | (rw [hsB]; omega)) hI))
              · first
                | exact absurd d_15 (by omega)
                | (refine b_X4_bestBound_18  ?_
                   exact JE (by first | rfl | omega | (rw [hsB]; omega)) hI)))
    · first
      | exact absurd c_4 (by omega)
      | (refine b_X3_bestBound_7  ?_
         refine s_X3_isWithin (by omega) (by omega) (by omega) (fun r hr => ?_)
         refine b_X3_bestBound_13 (by first | omega | assumption) (fun c_13 => ?_) (fun c_13 => ?_)
         · first
           | exact absurd c_13 (by omega)
           | (refine b_X3_bestBound_19 (by first | omega | assumption) ?_
              refine s_X3_rowAt hra ?_
              refine b_X3_bestBound_24 (by first | omega | assumption) (by first | omega | assumption) (fun c_24 => ?_) (fun c_24 => ?_)
              · first
                | exact absurd c_24 (by omega)
                | (refine b_X3_bestBound_36  ?_
                   refine s_X3_lowestBestBound h (by omega) ?_
                   have hvn := hV.1 (n - 1) (by omega) (by omega)
                   have hen := hE (n - 1) (by omega) (by omega)
                   rw [hen]
                   have hmx : max 2 (mf w q (n - 1) + 1) = if 2 ≤ mf w q (n - 1) + 1 then mf w q (n - 1) + 1 else 2 := by split <;> omega
                   generalize max 2 (mf w q (n - 1) + 1) = d at hmx ⊢
                   have hd : 2 ≤ d ∧ d ≤ 4096 := by split at hmx <;> omega
                   have hsB := szf_bd (n := n) (b := d) hn (by omega)
                   refine b_X3_bestBound_40 (by first | omega | assumption) (fun c_40 => ?_) (fun c_40 => ?_)
                   · first
                     | exact absurd c_40 (by omega)
                     | (refine b_X3_bestBound_51 (by first | omega | assumption) ?_
                        rw [h1]
                        refine s_X3_bitsFor hn (show 1 ≤ d ∧ d ≤ 4096 by omega) ?_
                        refine b_X3_bestBound_60  ?_
                        refine JQ.mk (by omega) ?_
                        refine b_X4_bestBound_0  ?_
                        refine s_X4_in (by omega) (by omega) (by omega) (fun r hr => ?_)
                        refine b_X4_bestBound_6 (by first | omega | assumption) (fun d_6 => ?_) (fun d_6 => ?_)
                        · first
                          | exact absurd d_6 (by omega)
                          | (refine b_X4_bestBound_18  ?_
                             exact JE (by first | rfl | omega | (rw [hsB]; omega)) hI)
                        · first
                          | exact absurd d_6 (by omega)
                          | (refine b_X4_bestBound_9  ?_
                             refine s_X4_in (by omega) (by omega) (by omega) (fun r hr => ?_)
                             refine b_X4_bestBound_15 (by first | omega | assumption) (fun d_15 => ?_) (fun d_15 => ?_)
                             · first
                               | exact absurd d_15 (by omega)
                               | (refine b_X4_bestBound_21 (by first | omega | assumption) ?_
                                  refine s_X4_many hM ?_
                                  refine b_X4_bestBound_26 (by first | omega | assumption) (fun d_26 => ?_) (fun d_26 => ?_)
                                  · first
                                    | exact absurd d_26 (by omega)
                                    | (refine b_X4_bestBound_34 (by first | omega | assumption) ?_
                                       refine s_X4_number hM (by omega) (by omega) ?_
                                       refine b_X4_bestBound_42 (by first | omega | assumption) (fun d_42 => ?_) (fun d_42 => ?_)
                                       · first
                                         | exact absurd d_42 (by omega)
                                         | (refine b_X4_bestBound_56  ?_
                                            refine b_X4_bestBound_58  ?_
                                            have hdd : ∀ z : Int, (z = mf w q (n - 1) + 1 ∧ 2 ≤ z ∨ z = 2 ∧ mf w q (n - 1) + 1 < 2) → z = d := fun z hz => by
                                              split at hmx <;> omega
                                            first
                                            | rw [hdd (mf w q (n - 1) + 1) (by omega)]
                                            | rw [hdd 2 (by omega)]
                                            refine l_X4_bestBound (by omega) hd (fun jj => ?_) _ d (Nat.lt_succ_self _) (Int.le_refl _) (by omega)
                                            refine b_X4_bestBound_102 (by omega) (fun g7 => ?_) (fun g7 => ?_)
                                            · first
                                              | exact absurd g7 (by omega)
                                              | (refine b_X4_bestBound_111 ?_
                                                 refine s_X4_sizeOf hn (show 1 ≤ d ∧ d ≤ 4096 by omega) ?_
                                                 exact b_X4_bestBound_117 (JE rfl hI))
                                            · first
                                              | exact absurd g7 (by omega)
                                              | (refine b_X4_bestBound_106 ?_
                                                 exact b_X4_bestBound_117 (JE rfl hI)))
                                       · first
                                         | exact absurd d_42 (by omega)
                                         | (refine b_X4_bestBound_52  ?_
                                            refine b_X4_bestBound_58  ?_
                                            have hdd : ∀ z : Int, (z = mf w q (n - 1) + 1 ∧ 2 ≤ z ∨ z = 2 ∧ mf w q (n - 1) + 1 < 2) → z = d := fun z hz => by
                                              split at hmx <;> omega
                                            first
                                            | rw [hdd (mf w q (n - 1) + 1) (by omega)]
                                            | rw [hdd 2 (by omega)]
                                            refine l_X4_bestBound (by omega) hd (fun jj => ?_) _ d (Nat.lt_succ_self _) (Int.le_refl _) (by omega)
                                            refine b_X4_bestBound_102 (by omega) (fun g7 => ?_) (fun g7 => ?_)
                                            · first
                                              | exact absurd g7 (by omega)
                                              | (refine b_X4_bestBound_111 ?_
                                                 refine s_X4_sizeOf hn (show 1 ≤ d ∧ d ≤ 4096 by omega) ?_
                                                 exact b_X4_bestBound_117 (JE rfl hI))
                                            · first
                                              | exact absurd g7 (by omega)
                                              | (refine b_X4_bestBound_106 ?_
                                                 exact b_X4_bestBound_117 (JE rfl hI))))
                                  · first
                                    | exact absurd d_26 (by omega)
                                    | (refine b_X4_bestBound_31  ?_
                                       exact JE (by first | rfl | omega | (rw [hsB]; omega)) hI))
                             · first
                               | exact absurd d_15 (by omega)
                               | (refine b_X4_bestBound_18  ?_
                                  exact JE (by first | rfl | omega | (rw [hsB]; omega)) hI)))
                   · first
                     | exact absurd c_40 (by omega)
                     | (refine b_X3_bestBound_46  ?_
                        refine b_X3_bestBound_60  ?_
                        refine JQ.mk (by omega) ?_
                        refine b_X4_bestBound_0  ?_
                        refine s_X4_in (by omega) (by omega) (by omega) (fun r hr => ?_)
                        refine b_X4_bestBound_6 (by first | omega | assumption) (fun d_6 => ?_) (fun d_6 => ?_)
                        · first
                          | exact absurd d_6 (by omega)
                          | (refine b_X4_bestBound_18  ?_
                             exact JE (by first | rfl | omega | (rw [hsB]; omega)) hI)
                        · first
                          | exact absurd d_6 (by omega)
                          | (refine b_X4_bestBound_9  ?_
                             refine s_X4_in (by omega) (by omega) (by omega) (fun r hr => ?_)
                             refine b_X4_bestBound_15 (by first | omega | assumption) (fun d_15 => ?_) (fun d_15 => ?_)
                             · first
                               | exact absurd d_15 (by omega)
                               | (refine b_X4_bestBound_21 (by first | omega | assumption) ?_
                                  refine s_X4_many hM ?_
                                  refine b_X4_bestBound_26 (by first | omega | assumption) (fun d_26 => ?_) (fun d_26 => ?_)
                                  · first
                                    | exact absurd d_26 (by omega)
                                    | (refine b_X4_bestBound_34 (by first | omega | assumption) ?_
                                       refine s_X4_number hM (by omega) (by omega) ?_
                                       refine b_X4_bestBound_42 (by first | omega | assumption) (fun d_42 => ?_) (fun d_42 => ?_)
                                       · first
                                         | exact absurd d_42 (by omega)
                                         | (refine b_X4_bestBound_56  ?_
                                            refine b_X4_bestBound_58  ?_
                                            have hdd : ∀ z : Int, (z = mf w q (n - 1) + 1 ∧ 2 ≤ z ∨ z = 2 ∧ mf w q (n - 1) + 1 < 2) → z = d := fun z hz => by
                                              split at hmx <;> omega
                                            first
                                            | rw [hdd (mf w q (n - 1) + 1) (by omega)]
                                            | rw [hdd 2 (by omega)]
                                            refine l_X4_bestBound (by omega) hd (fun jj => ?_) _ d (Nat.lt_succ_self _) (Int.le_refl _) (by omega)
                                            refine b_X4_bestBound_102 (by omega) (fun g7 => ?_) (fun g7 => ?_)
                                            · first
                                              | exact absurd g7 (by omega)
                                              | (refine b_X4_bestBound_111 ?_
                                                 refine s_X4_sizeOf hn (show 1 ≤ d ∧ d ≤ 4096 by omega) ?_
                                                 exact b_X4_bestBound_117 (JE rfl hI))
                                            · first
                                              | exact absurd g7 (by omega)
                                              | (refine b_X4_bestBound_106 ?_
                                                 exact b_X4_bestBound_117 (JE rfl hI)))
                                       · first
                                         | exact absurd d_42 (by omega)
                                         | (refine b_X4_bestBound_52  ?_
                                            refine b_X4_bestBound_58  ?_
                                            have hdd : ∀ z : Int, (z = mf w q (n - 1) + 1 ∧ 2 ≤ z ∨ z = 2 ∧ mf w q (n - 1) + 1 < 2) → z = d := fun z hz => by
                                              split at hmx <;> omega
                                            first
                                            | rw [hdd (mf w q (n - 1) + 1) (by omega)]
                                            | rw [hdd 2 (by omega)]
                                            refine l_X4_bestBound (by omega) hd (fun jj => ?_) _ d (Nat.lt_succ_self _) (Int.le_refl _) (by omega)
                                            refine b_X4_bestBound_102 (by omega) (fun g7 => ?_) (fun g7 => ?_)
                                            · first
                                              | exact absurd g7 (by omega)
                                              | (refine b_X4_bestBound_111 ?_
                                                 refine s_X4_sizeOf hn (show 1 ≤ d ∧ d ≤ 4096 by omega) ?_
                                                 exact b_X4_bestBound_117 (JE rfl hI))
                                            · first
                                              | exact absurd g7 (by omega)
                                              | (refine b_X4_bestBound_106 ?_
                                                 exact b_X4_bestBound_117 (JE rfl hI))))
                                  · first
                                    | exact absurd d_26 (by omega)
                                    | (refine b_X4_bestBound_31  ?_
                                       exact JE (by first | rfl | omega | (rw [hsB]; omega)) hI))
                             · first
                               | exact absurd d_15 (by omega)
                               | (refine b_X4_bestBound_18  ?_
                                  exact JE (by first | rfl | omega | (rw [hsB]; omega)) hI))))
              · first
                | exact absurd c_24 (by omega)
                | (refine b_X3_bestBound_33  ?_
                   refine JQ.mk (by omega) ?_
                   refine b_X4_bestBound_0  ?_
                   refine s_X4_in (by omega) (by omega) (by omega) (fun r hr => ?_)
                   refine b_X4_bestBound_6 (by first | omega | assumption) (fun d_6 => ?_) (fun d_6 => ?_)
                   · first
                     | exact absurd d_6 (by omega)
                     | (refine b_X4_bestBound_18  ?_
                        exact JE (by first | rfl | omega | (rw [hsB]; omega)) hI)
                   · first
                     | exact absurd d_6 (by omega)
                     | (refine b_X4_bestBound_9  ?_
                        refine s_X4_in (by omega) (by omega) (by omega) (fun r hr => ?_)
                        refine b_X4_bestBound_15 (by first | omega | assumption) (fun d_15 => ?_) (fun d_15 => ?_)
                        · first
                          | exact absurd d_15 (by omega)
                          | (refine b_X4_bestBound_21 (by first | omega | assumption) ?_
                             refine s_X4_many hM ?_
                             refine b_X4_bestBound_26 (by first | omega | assumption) (fun d_26 => ?_) (fun d_26 => ?_)
                             · first
                               | exact absurd d_26 (by omega)
                               | (refine b_X4_bestBound_34 (by first | omega | assumption) ?_
                                  refine s_X4_number hM (by omega) (by omega) ?_
                                  refine b_X4_bestBound_42 (by first | omega | assumption) (fun d_42 => ?_) (fun d_42 => ?_)
                                  · first
                                    | exact absurd d_42 (by omega)
                                    | (refine b_X4_bestBound_56  ?_
                                       refine b_X4_bestBound_58  ?_
                                       have hdd : ∀ z : Int, (z = mf w q (n - 1) + 1 ∧ 2 ≤ z ∨ z = 2 ∧ mf w q (n - 1) + 1 < 2) → z = d := fun z hz => by
                                         split at hmx <;> omega
                                       first
                                       | rw [hdd (mf w q (n - 1) + 1) (by omega)]
                                       | rw [hdd 2 (by omega)]
                                       refine l_X4_bestBound (by omega) hd (fun jj => ?_) _ d (Nat.lt_succ_self _) (Int.le_refl _) (by omega)
                                       refine b_X4_bestBound_102 (by omega) (fun g7 => ?_) (fun g7 => ?_)
                                       · first
                                         | exact absurd g7 (by omega)
                                         | (refine b_X4_bestBound_111 ?_
                                            refine s_X4_sizeOf hn (show 1 ≤ d ∧ d ≤ 4096 by omega) ?_
                                            exact b_X4_bestBound_117 (JE rfl hI))
                                       · first
                                         | exact absurd g7 (by omega)
                                         | (refine b_X4_bestBound_106 ?_
                                            exact b_X4_bestBound_117 (JE rfl hI)))
                                  · first
                                    | exact absurd d_42 (by omega)
                                    | (refine b_X4_bestBound_52  ?_
                                       refine b_X4_bestBound_58  ?_
                                       have hdd : ∀ z : Int, (z = mf w q (n - 1) + 1 ∧ 2 ≤ z ∨ z = 2 ∧ mf w q (n - 1) + 1 < 2) → z = d := fun z hz => by
                                         split at hmx <;> omega
                                       first
                                       | rw [hdd (mf w q (n - 1) + 1) (by omega)]
                                       | rw [hdd 2 (by omega)]
                                       refine l_X4_bestBound (by omega) hd (fun jj => ?_) _ d (Nat.lt_succ_self _) (Int.le_refl _) (by omega)
                                       refine b_X4_bestBound_102 (by omega) (fun g7 => ?_) (fun g7 => ?_)
                                       · first
                                         | exact absurd g7 (by omega)
                                         | (refine b_X4_bestBound_111 ?_
                                            refine s_X4_sizeOf hn (show 1 ≤ d ∧ d ≤ 4096 by omega) ?_
                                            exact b_X4_bestBound_117 (JE rfl hI))
                                       · first
                                         | exact absurd g7 (by omega)
                                         | (refine b_X4_bestBound_106 ?_
                                            exact b_X4_bestBound_117 (JE rfl hI))))
                             · first
                               | exact absurd d_26 (by omega)
                               | (refine b_X4_bestBound_31  ?_
                                  exact JE (by first | rfl | omega | (rw [hsB]; omega)) hI))
                        · first
                          | exact absurd d_15 (by omega)
                          | (refine b_X4_bestBound_18  ?_
                             exact JE (by first | rfl | omega | (rw [hsB]; omega)) hI))))
         · first
           | exact absurd c_13 (by omega)
           | (refine b_X3_bestBound_16  ?_
              refine JQ.mk (by omega) ?_
              refine b_X4_bestBound_0  ?_
              refine s_X4_in (by omega) (by omega) (by omega) (fun r hr => ?_)
              refine b_X4_bestBound_6 (by first | omega | assumption) (fun d_6 => ?_) (fun d_6 => ?_)
              · first
                | exact absurd d_6 (by omega)
                | (refine b_X4_bestBound_18  ?_
                   exact JE (by first | rfl | omega | (rw [hsB]; omega)) hI)
              · first
                | exact absurd d_6 (by omega)
                | (refine b_X4_bestBound_9  ?_
                   refine s_X4_in (by omega) (by omega) (by omega) (fun r hr => ?_)
                   refine b_X4_bestBound_15 (by first | omega | assumption) (fun d_15 => ?_) (fun d_15 => ?_)
                   · first
                     | exact absurd d_15 (by omega)
                     | (refine b_X4_bestBound_21 (by first | omega | assumption) ?_
                        refine s_X4_many hM ?_
                        refine b_X4_bestBound_26 (by first | omega | assumption) (fun d_26 => ?_) (fun d_26 => ?_)
                        · first
                          | exact absurd d_26 (by omega)
                          | (refine b_X4_bestBound_34 (by first | omega | assumption) ?_
                             refine s_X4_number hM (by omega) (by omega) ?_
                             refine b_X4_bestBound_42 (by first | omega | assumption) (fun d_42 => ?_) (fun d_42 => ?_)
                             · first
                               | exact absurd d_42 (by omega)
                               | (refine b_X4_bestBound_56  ?_
                                  refine b_X4_bestBound_58  ?_
                                  have hdd : ∀ z : Int, (z = mf w q (n - 1) + 1 ∧ 2 ≤ z ∨ z = 2 ∧ mf w q (n - 1) + 1 < 2) → z = d := fun z hz => by
                                    split at hmx <;> omega
                                  first
                                  | rw [hdd (mf w q (n - 1) + 1) (by omega)]
                                  | rw [hdd 2 (by omega)]
                                  refine l_X4_bestBound (by omega) hd (fun jj => ?_) _ d (Nat.lt_succ_self _) (Int.le_refl _) (by omega)
                                  refine b_X4_bestBound_102 (by omega) (fun g7 => ?_) (fun g7 => ?_)
                                  · first
                                    | exact absurd g7 (by omega)
                                    | (refine b_X4_bestBound_111 ?_
                                       refine s_X4_sizeOf hn (show 1 ≤ d ∧ d ≤ 4096 by omega) ?_
                                       exact b_X4_bestBound_117 (JE rfl hI))
                                  · first
                                    | exact absurd g7 (by omega)
                                    | (refine b_X4_bestBound_106 ?_
                                       exact b_X4_bestBound_117 (JE rfl hI)))
                             · first
                               | exact absurd d_42 (by omega)
                               | (refine b_X4_bestBound_52  ?_
                                  refine b_X4_bestBound_58  ?_
                                  have hdd : ∀ z : Int, (z = mf w q (n - 1) + 1 ∧ 2 ≤ z ∨ z = 2 ∧ mf w q (n - 1) + 1 < 2) → z = d := fun z hz => by
                                    split at hmx <;> omega
                                  first
                                  | rw [hdd (mf w q (n - 1) + 1) (by omega)]
                                  | rw [hdd 2 (by omega)]
                                  refine l_X4_bestBound (by omega) hd (fun jj => ?_) _ d (Nat.lt_succ_self _) (Int.le_refl _) (by omega)
                                  refine b_X4_bestBound_102 (by omega) (fun g7 => ?_) (fun g7 => ?_)
                                  · first
                                    | exact absurd g7 (by omega)
                                    | (refine b_X4_bestBound_111 ?_
                                       refine s_X4_sizeOf hn (show 1 ≤ d ∧ d ≤ 4096 by omega) ?_
                                       exact b_X4_bestBound_117 (JE rfl hI))
                                  · first
                                    | exact absurd g7 (by omega)
                                    | (refine b_X4_bestBound_106 ?_
                                       exact b_X4_bestBound_117 (JE rfl hI))))
                        · first
                          | exact absurd d_26 (by omega)
                          | (refine b_X4_bestBound_31  ?_
                             exact JE (by first | rfl | omega | (rw [hsB]; omega)) hI))
                   · first
                     | exact absurd d_15 (by omega)
                     | (refine b_X4_bestBound_18  ?_
                        exact JE (by first | rfl | omega | (rw [hsB]; omega)) hI))))
  · have hq2 : q < 0 ∨ 1 < q := by omega
    refine b_X3_bestBound_0  ?_
    refine s_X3_isRow (by omega) (fun r hr => ?_)
    refine b_X3_bestBound_4 (by first | omega | assumption) (fun c_4 => ?_) (fun c_4 => ?_)
    · first
      | exact absurd c_4 (by omega)
      | (refine b_X3_bestBound_16  ?_
         refine JQ.mk (by omega) ?_
         refine b_X4_bestBound_0  ?_
         refine s_X4_in (by omega) (by omega) (by omega) (fun r hr => ?_)
         refine b_X4_bestBound_6 (by first | omega | assumption) (fun d_6 => ?_) (fun d_6 => ?_)
         · first
           | exact absurd d_6 (by omega)
           | (refine b_X4_bestBound_18  ?_
              exact JE (by first | rfl | omega | (rw [hsB]; omega)) hI)
         · first
           | exact absurd d_6 (by omega)
           | (refine b_X4_bestBound_9  ?_
              refine s_X4_in (by omega) (by omega) (by omega) (fun r hr => ?_)
              refine b_X4_bestBound_15 (by first | omega | assumption) (fun d_15 => ?_) (fun d_15 => ?_)
              · first
                | exact absurd d_15 (by omega)
                | (refine b_X4_bestBound_21 (by first | omega | assumption) ?_
                   refine s_X4_many hM ?_
                   refine b_X4_bestBound_26 (by first | omega | assumption) (fun d_26 => ?_) (fun d_26 => ?_)
                   · first
                     | exact absurd d_26 (by omega)
                     | (refine b_X4_bestBound_34 (by first | omega | assumption) ?_
                        refine s_X4_number hM (by omega) (by omega) ?_
                        refine b_X4_bestBound_42 (by first | omega | assumption) (fun d_42 => ?_) (fun d_42 => ?_)
                        · first
                          | exact absurd d_42 (by omega)
                          | (refine b_X4_bestBound_56  ?_
                             refine b_X4_bestBound_58  ?_
                             have hdd : ∀ z : Int, (z = mf w q (n - 1) + 1 ∧ 2 ≤ z ∨ z = 2 ∧ mf w q (n - 1) + 1 < 2) → z = d := fun z hz => by
                               split at hmx <;> omega
                             first
                             | rw [hdd (mf w q (n - 1) + 1) (by omega)]
                             | rw [hdd 2 (by omega)]
                             refine l_X4_bestBound (by omega) hd (fun jj => ?_) _ d (Nat.lt_succ_self _) (Int.le_refl _) (by omega)
                             refine b_X4_bestBound_102 (by omega) (fun g7 => ?_) (fun g7 => ?_)
                             · first
                               | exact absurd g7 (by omega)
                               | (refine b_X4_bestBound_111 ?_
                                  refine s_X4_sizeOf hn (show 1 ≤ d ∧ d ≤ 4096 by omega) ?_
                                  exact b_X4_bestBound_117 (JE rfl hI))
                             · first
                               | exact absurd g7 (by omega)
                               | (refine b_X4_bestBound_106 ?_
                                  exact b_X4_bestBound_117 (JE rfl hI)))
                        · first
                          | exact absurd d_42 (by omega)
                          | (refine b_X4_bestBound_52  ?_
                             refine b_X4_bestBound_58  ?_
                             have hdd : ∀ z : Int, (z = mf w q (n - 1) + 1 ∧ 2 ≤ z ∨ z = 2 ∧ mf w q (n - 1) + 1 < 2) → z = d := fun z hz => by
                               split at hmx <;> omega
                             first
                             | rw [hdd (mf w q (n - 1) + 1) (by omega)]
                             | rw [hdd 2 (by omega)]
                             refine l_X4_bestBound (by omega) hd (fun jj => ?_) _ d (Nat.lt_succ_self _) (Int.le_refl _) (by omega)
                             refine b_X4_bestBound_102 (by omega) (fun g7 => ?_) (fun g7 => ?_)
                             · first
                               | exact absurd g7 (by omega)
                               | (refine b_X4_bestBound_111 ?_
                                  refine s_X4_sizeOf hn (show 1 ≤ d ∧ d ≤ 4096 by omega) ?_
                                  exact b_X4_bestBound_117 (JE rfl hI))
                             · first
                               | exact absurd g7 (by omega)
                               | (refine b_X4_bestBound_106 ?_
                                  exact b_X4_bestBound_117 (JE rfl hI))))
                   · first
                     | exact absurd d_26 (by omega)
                     | (refine b_X4_bestBound_31  ?_
                        exact JE (by first | rfl | omega | (rw [hsB]; omega)) hI))
              · first
                | exact absurd d_15 (by omega)
                | (refine b_X4_bestBound_18  ?_
                   exact JE (by first | rfl | omega | (rw [hsB]; omega)) hI)))
    · first
      | exact absurd c_4 (by omega)
      | (refine b_X3_bestBound_7  ?_
         refine s_X3_isWithin (by omega) (by omega) (by omega) (fun r hr => ?_)
         refine b_X3_bestBound_13 (by first | omega | assumption) (fun c_13 => ?_) (fun c_13 => ?_)
         · first
           | exact absurd c_13 (by omega)
           | (refine b_X3_bestBound_19 (by first | omega | assumption) ?_
              refine s_X3_rowAt hra ?_
              refine b_X3_bestBound_24 (by first | omega | assumption) (by first | omega | assumption) (fun c_24 => ?_) (fun c_24 => ?_)
              · first
                | exact absurd c_24 (by omega)
                | (refine b_X3_bestBound_36  ?_
                   refine s_X3_lowestBestBound h (by omega) ?_
                   have hvn := hV.1 (n - 1) (by omega) (by omega)
                   have hen := hE (n - 1) (by omega) (by omega)
                   rw [hen]
                   have hmx : max 2 (mf w q (n - 1) + 1) = if 2 ≤ mf w q (n - 1) + 1 then mf w q (n - 1) + 1 else 2 := by split <;> omega
                   generalize max 2 (mf w q (n - 1) + 1) = d at hmx ⊢
                   have hd : 2 ≤ d ∧ d ≤ 4096 := by split at hmx <;> omega
                   have hsB := szf_bd (n := n) (b := d) hn (by omega)
                   refine b_X3_bestBound_40 (by first | omega | assumption) (fun c_40 => ?_) (fun c_40 => ?_)
                   · first
                     | exact absurd c_40 (by omega)
                     | (refine b_X3_bestBound_51 (by first | omega | assumption) ?_
                        rw [h1]
                        refine s_X3_bitsFor hn (show 1 ≤ d ∧ d ≤ 4096 by omega) ?_
                        refine b_X3_bestBound_60  ?_
                        refine JQ.mk (by omega) ?_
                        refine b_X4_bestBound_0  ?_
                        refine s_X4_in (by omega) (by omega) (by omega) (fun r hr => ?_)
                        refine b_X4_bestBound_6 (by first | omega | assumption) (fun d_6 => ?_) (fun d_6 => ?_)
                        · first
                          | exact absurd d_6 (by omega)
                          | (refine b_X4_bestBound_18  ?_
                             exact JE (by first | rfl | omega | (rw [hsB]; omega)) hI)
                        · first
                          | exact absurd d_6 (by omega)
                          | (refine b_X4_bestBound_9  ?_
                             refine s_X4_in (by omega) (by omega) (by omega) (fun r hr => ?_)
                             refine b_X4_bestBound_15 (by first | omega | assumption) (fun d_15 => ?_) (fun d_15 => ?_)
                             · first
                               | exact absurd d_15 (by omega)
                               | (refine b_X4_bestBound_21 (by first | omega | assumption) ?_
                                  refine s_X4_many hM ?_
                                  refine b_X4_bestBound_26 (by first | omega | assumption) (fun d_26 => ?_) (fun d_26 => ?_)
                                  · first
                                    | exact absurd d_26 (by omega)
                                    | (refine b_X4_bestBound_34 (by first | omega | assumption) ?_
                                       refine s_X4_number hM (by omega) (by omega) ?_
                                       refine b_X4_bestBound_42 (by first | omega | assumption) (fun d_42 => ?_) (fun d_42 => ?_)
                                       · first
                                         | exact absurd d_42 (by omega)
                                         | (refine b_X4_bestBound_56  ?_
                                            refine b_X4_bestBound_58  ?_
                                            have hdd : ∀ z : Int, (z = mf w q (n - 1) + 1 ∧ 2 ≤ z ∨ z = 2 ∧ mf w q (n - 1) + 1 < 2) → z = d := fun z hz => by
                                              split at hmx <;> omega
                                            first
                                            | rw [hdd (mf w q (n - 1) + 1) (by omega)]
                                            | rw [hdd 2 (by omega)]
                                            refine l_X4_bestBound (by omega) hd (fun jj => ?_) _ d (Nat.lt_succ_self _) (Int.le_refl _) (by omega)
                                            refine b_X4_bestBound_102 (by omega) (fun g7 => ?_) (fun g7 => ?_)
                                            · first
                                              | exact absurd g7 (by omega)
                                              | (refine b_X4_bestBound_111 ?_
                                                 refine s_X4_sizeOf hn (show 1 ≤ d ∧ d ≤ 4096 by omega) ?_
                                                 exact b_X4_bestBound_117 (JE rfl hI))
                                            · first
                                              | exact absurd g7 (by omega)
                                              | (refine b_X4_bestBound_106 ?_
                                                 exact b_X4_bestBound_117 (JE rfl hI)))
                                       · first
                                         | exact absurd d_42 (by omega)
                                         | (refine b_X4_bestBound_52  ?_
                                            refine b_X4_bestBound_58  ?_
                                            have hdd : ∀ z : Int, (z = mf w q (n - 1) + 1 ∧ 2 ≤ z ∨ z = 2 ∧ mf w q (n - 1) + 1 < 2) → z = d := fun z hz => by
                                              split at hmx <;> omega
                                            first
                                            | rw [hdd (mf w q (n - 1) + 1) (by omega)]
                                            | rw [hdd 2 (by omega)]
                                            refine l_X4_bestBound (by omega) hd (fun jj => ?_) _ d (Nat.lt_succ_self _) (Int.le_refl _) (by omega)
                                            refine b_X4_bestBound_102 (by omega) (fun g7 => ?_) (fun g7 => ?_)
                                            · first
                                              | exact absurd g7 (by omega)
                                              | (refine b_X4_bestBound_111 ?_
                                                 refine s_X4_sizeOf hn (show 1 ≤ d ∧ d ≤ 4096 by omega) ?_
                                                 exact b_X4_bestBound_117 (JE rfl hI))
                                            · first
                                              | exact absurd g7 (by omega)
                                              | (refine b_X4_bestBound_106 ?_
                                                 exact b_X4_bestBound_117 (JE rfl hI))))
                                  · first
                                    | exact absurd d_26 (by omega)
                                    | (refine b_X4_bestBound_31  ?_
                                       exact JE (by first | rfl | omega | (rw [hsB]; omega)) hI))
                             · first
                               | exact absurd d_15 (by omega)
                               | (refine b_X4_bestBound_18  ?_
                                  exact JE (by first | rfl | omega | (rw [hsB]; omega)) hI)))
                   · first
                     | exact absurd c_40 (by omega)
                     | (refine b_X3_bestBound_46  ?_
                        refine b_X3_bestBound_60  ?_
                        refine JQ.mk (by omega) ?_
                        refine b_X4_bestBound_0  ?_
                        refine s_X4_in (by omega) (by omega) (by omega) (fun r hr => ?_)
                        refine b_X4_bestBound_6 (by first | omega | assumption) (fun d_6 => ?_) (fun d_6 => ?_)
                        · first
                          | exact absurd d_6 (by omega)
                          | (refine b_X4_bestBound_18  ?_
                             exact JE (by first | rfl | omega | (rw [hsB]; omega)) hI)
                        · first
                          | exact absurd d_6 (by omega)
                          | (refine b_X4_bestBound_9  ?_
                             refine s_X4_in (by omega) (by omega) (by omega) (fun r hr => ?_)
                             refine b_X4_bestBound_15 (by first | omega | assumption) (fun d_15 => ?_) (fun d_15 => ?_)
                             · first
                               | exact absurd d_15 (by omega)
                               | (refine b_X4_bestBound_21 (by first | omega | assumption) ?_
                                  refine s_X4_many hM ?_
                                  refine b_X4_bestBound_26 (by first | omega | assumption) (fun d_26 => ?_) (fun d_26 => ?_)
                                  · first
                                    | exact absurd d_26 (by omega)
                                    | (refine b_X4_bestBound_34 (by first | omega | assumption) ?_
                                       refine s_X4_number hM (by omega) (by omega) ?_
                                       refine b_X4_bestBound_42 (by first | omega | assumption) (fun d_42 => ?_) (fun d_42 => ?_)
                                       · first
                                         | exact absurd d_42 (by omega)
                                         | (refine b_X4_bestBound_56  ?_
                                            refine b_X4_bestBound_58  ?_
                                            have hdd : ∀ z : Int, (z = mf w q (n - 1) + 1 ∧ 2 ≤ z ∨ z = 2 ∧ mf w q (n - 1) + 1 < 2) → z = d := fun z hz => by
                                              split at hmx <;> omega
                                            first
                                            | rw [hdd (mf w q (n - 1) + 1) (by omega)]
                                            | rw [hdd 2 (by omega)]
                                            refine l_X4_bestBound (by omega) hd (fun jj => ?_) _ d (Nat.lt_succ_self _) (Int.le_refl _) (by omega)
                                            refine b_X4_bestBound_102 (by omega) (fun g7 => ?_) (fun g7 => ?_)
                                            · first
                                              | exact absurd g7 (by omega)
                                              | (refine b_X4_bestBound_111 ?_
                                                 refine s_X4_sizeOf hn (show 1 ≤ d ∧ d ≤ 4096 by omega) ?_
                                                 exact b_X4_bestBound_117 (JE rfl hI))
                                            · first
                                              | exact absurd g7 (by omega)
                                              | (refine b_X4_bestBound_106 ?_
                                                 exact b_X4_bestBound_117 (JE rfl hI)))
                                       · first
                                         | exact absurd d_42 (by omega)
                                         | (refine b_X4_bestBound_52  ?_
                                            refine b_X4_bestBound_58  ?_
                                            have hdd : ∀ z : Int, (z = mf w q (n - 1) + 1 ∧ 2 ≤ z ∨ z = 2 ∧ mf w q (n - 1) + 1 < 2) → z = d := fun z hz => by
                                              split at hmx <;> omega
                                            first
                                            | rw [hdd (mf w q (n - 1) + 1) (by omega)]
                                            | rw [hdd 2 (by omega)]
                                            refine l_X4_bestBound (by omega) hd (fun jj => ?_) _ d (Nat.lt_succ_self _) (Int.le_refl _) (by omega)
                                            refine b_X4_bestBound_102 (by omega) (fun g7 => ?_) (fun g7 => ?_)
                                            · first
                                              | exact absurd g7 (by omega)
                                              | (refine b_X4_bestBound_111 ?_
                                                 refine s_X4_sizeOf hn (show 1 ≤ d ∧ d ≤ 4096 by omega) ?_
                                                 exact b_X4_bestBound_117 (JE rfl hI))
                                            · first
                                              | exact absurd g7 (by omega)
                                              | (refine b_X4_bestBound_106 ?_
                                                 exact b_X4_bestBound_117 (JE rfl hI))))
                                  · first
                                    | exact absurd d_26 (by omega)
                                    | (refine b_X4_bestBound_31  ?_
                                       exact JE (by first | rfl | omega | (rw [hsB]; omega)) hI))
                             · first
                               | exact absurd d_15 (by omega)
                               | (refine b_X4_bestBound_18  ?_
                                  exact JE (by first | rfl | omega | (rw [hsB]; omega)) hI))))
              · first
                | exact absurd c_24 (by omega)
                | (refine b_X3_bestBound_33  ?_
                   refine JQ.mk (by omega) ?_
                   refine b_X4_bestBound_0  ?_
                   refine s_X4_in (by omega) (by omega) (by omega) (fun r hr => ?_)
                   refine b_X4_bestBound_6 (by first | omega | assumption) (fun d_6 => ?_) (fun d_6 => ?_)
                   · first
                     | exact absurd d_6 (by omega)
                     | (refine b_X4_bestBound_18  ?_
                        exact JE (by first | rfl | omega | (rw [hsB]; omega)) hI)
                   · first
                     | exact absurd d_6 (by omega)
                     | (refine b_X4_bestBound_9  ?_
                        refine s_X4_in (by omega) (by omega) (by omega) (fun r hr => ?_)
                        refine b_X4_bestBound_15 (by first | omega | assumption) (fun d_15 => ?_) (fun d_15 => ?_)
                        · first
                          | exact absurd d_15 (by omega)
                          | (refine b_X4_bestBound_21 (by first | omega | assumption) ?_
                             refine s_X4_many hM ?_
                             refine b_X4_bestBound_26 (by first | omega | assumption) (fun d_26 => ?_) (fun d_26 => ?_)
                             · first
                               | exact absurd d_26 (by omega)
                               | (refine b_X4_bestBound_34 (by first | omega | assumption) ?_
                                  refine s_X4_number hM (by omega) (by omega) ?_
                                  refine b_X4_bestBound_42 (by first | omega | assumption) (fun d_42 => ?_) (fun d_42 => ?_)
                                  · first
                                    | exact absurd d_42 (by omega)
                                    | (refine b_X4_bestBound_56  ?_
                                       refine b_X4_bestBound_58  ?_
                                       have hdd : ∀ z : Int, (z = mf w q (n - 1) + 1 ∧ 2 ≤ z ∨ z = 2 ∧ mf w q (n - 1) + 1 < 2) → z = d := fun z hz => by
                                         split at hmx <;> omega
                                       first
                                       | rw [hdd (mf w q (n - 1) + 1) (by omega)]
                                       | rw [hdd 2 (by omega)]
                                       refine l_X4_bestBound (by omega) hd (fun jj => ?_) _ d (Nat.lt_succ_self _) (Int.le_refl _) (by omega)
                                       refine b_X4_bestBound_102 (by omega) (fun g7 => ?_) (fun g7 => ?_)
                                       · first
                                         | exact absurd g7 (by omega)
                                         | (refine b_X4_bestBound_111 ?_
                                            refine s_X4_sizeOf hn (show 1 ≤ d ∧ d ≤ 4096 by omega) ?_
                                            exact b_X4_bestBound_117 (JE rfl hI))
                                       · first
                                         | exact absurd g7 (by omega)
                                         | (refine b_X4_bestBound_106 ?_
                                            exact b_X4_bestBound_117 (JE rfl hI)))
                                  · first
                                    | exact absurd d_42 (by omega)
                                    | (refine b_X4_bestBound_52  ?_
                                       refine b_X4_bestBound_58  ?_
                                       have hdd : ∀ z : Int, (z = mf w q (n - 1) + 1 ∧ 2 ≤ z ∨ z = 2 ∧ mf w q (n - 1) + 1 < 2) → z = d := fun z hz => by
                                         split at hmx <;> omega
                                       first
                                       | rw [hdd (mf w q (n - 1) + 1) (by omega)]
                                       | rw [hdd 2 (by omega)]
                                       refine l_X4_bestBound (by omega) hd (fun jj => ?_) _ d (Nat.lt_succ_self _) (Int.le_refl _) (by omega)
                                       refine b_X4_bestBound_102 (by omega) (fun g7 => ?_) (fun g7 => ?_)
                                       · first
                                         | exact absurd g7 (by omega)
                                         | (refine b_X4_bestBound_111 ?_
                                            refine s_X4_sizeOf hn (show 1 ≤ d ∧ d ≤ 4096 by omega) ?_
                                            exact b_X4_bestBound_117 (JE rfl hI))
                                       · first
                                         | exact absurd g7 (by omega)
                                         | (refine b_X4_bestBound_106 ?_
                                            exact b_X4_bestBound_117 (JE rfl hI))))
                             · first
                               | exact absurd d_26 (by omega)
                               | (refine b_X4_bestBound_31  ?_
                                  exact JE (by first | rfl | omega | (rw [hsB]; omega)) hI))
                        · first
                          | exact absurd d_15 (by omega)
                          | (refine b_X4_bestBound_18  ?_
                             exact JE (by first | rfl | omega | (rw [hsB]; omega)) hI))))
         · first
           | exact absurd c_13 (by omega)
           | (refine b_X3_bestBound_16  ?_
              refine JQ.mk (by omega) ?_
              refine b_X4_bestBound_0  ?_
              refine s_X4_in (by omega) (by omega) (by omega) (fun r hr => ?_)
              refine b_X4_bestBound_6 (by first | omega | assumption) (fun d_6 => ?_) (fun d_6 => ?_)
              · first
                | exact absurd d_6 (by omega)
                | (refine b_X4_bestBound_18  ?_
                   exact JE (by first | rfl | omega | (rw [hsB]; omega)) hI)
              · first
                | exact absurd d_6 (by omega)
                | (refine b_X4_bestBound_9  ?_
                   refine s_X4_in (by omega) (by omega) (by omega) (fun r hr => ?_)
                   refine b_X4_bestBound_15 (by first | omega | assumption) (fun d_15 => ?_) (fun d_15 => ?_)
                   · first
                     | exact absurd d_15 (by omega)
                     | (refine b_X4_bestBound_21 (by first | omega | assumption) ?_
                        refine s_X4_many hM ?_
                        refine b_X4_bestBound_26 (by first | omega | assumption) (fun d_26 => ?_) (fun d_26 => ?_)
                        · first
                          | exact absurd d_26 (by omega)
                          | (refine b_X4_bestBound_34 (by first | omega | assumption) ?_
                             refine s_X4_number hM (by omega) (by omega) ?_
                             refine b_X4_bestBound_42 (by first | omega | assumption) (fun d_42 => ?_) (fun d_42 => ?_)
                             · first
                               | exact absurd d_42 (by omega)
                               | (refine b_X4_bestBound_56  ?_
                                  refine b_X4_bestBound_58  ?_
                                  have hdd : ∀ z : Int, (z = mf w q (n - 1) + 1 ∧ 2 ≤ z ∨ z = 2 ∧ mf w q (n - 1) + 1 < 2) → z = d := fun z hz => by
                                    split at hmx <;> omega
                                  first
                                  | rw [hdd (mf w q (n - 1) + 1) (by omega)]
                                  | rw [hdd 2 (by omega)]
                                  refine l_X4_bestBound (by omega) hd (fun jj => ?_) _ d (Nat.lt_succ_self _) (Int.le_refl _) (by omega)
                                  refine b_X4_bestBound_102 (by omega) (fun g7 => ?_) (fun g7 => ?_)
                                  · first
                                    | exact absurd g7 (by omega)
                                    | (refine b_X4_bestBound_111 ?_
                                       refine s_X4_sizeOf hn (show 1 ≤ d ∧ d ≤ 4096 by omega) ?_
                                       exact b_X4_bestBound_117 (JE rfl hI))
                                  · first
                                    | exact absurd g7 (by omega)
                                    | (refine b_X4_bestBound_106 ?_
                                       exact b_X4_bestBound_117 (JE rfl hI)))
                             · first
                               | exact absurd d_42 (by omega)
                               | (refine b_X4_bestBound_52  ?_
                                  refine b_X4_bestBound_58  ?_
                                  have hdd : ∀ z : Int, (z = mf w q (n - 1) + 1 ∧ 2 ≤ z ∨ z = 2 ∧ mf w q (n - 1) + 1 < 2) → z = d := fun z hz => by
                                    split at hmx <;> omega
                                  first
                                  | rw [hdd (mf w q (n - 1) + 1) (by omega)]
                                  | rw [hdd 2 (by omega)]
                                  refine l_X4_bestBound (by omega) hd (fun jj => ?_) _ d (Nat.lt_succ_self _) (Int.le_refl _) (by omega)
                                  refine b_X4_bestBound_102 (by omega) (fun g7 => ?_) (fun g7 => ?_)
                                  · first
                                    | exact absurd g7 (by omega)
                                    | (refine b_X4_bestBound_111 ?_
                                       refine s_X4_sizeOf hn (show 1 ≤ d ∧ d ≤ 4096 by omega) ?_
                                       exact b_X4_bestBound_117 (JE rfl hI))
                                  · first
                                    | exact absurd g7 (by omega)
                                    | (refine b_X4_bestBound_106 ?_
                                       exact b_X4_bestBound_117 (JE rfl hI))))
                        · first
                          | exact absurd d_26 (by omega)
                          | (refine b_X4_bestBound_31  ?_
                             exact JE (by first | rfl | omega | (rw [hsB]; omega)) hI))
                   · first
                     | exact absurd d_15 (by omega)
                     | (refine b_X4_bestBound_18  ?_
                        exact JE (by first | rfl | omega | (rw [hsB]; omega)) hI))))

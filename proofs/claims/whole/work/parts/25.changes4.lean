def insH (H : Int → Int) (c x : Int) : Int → Int := fun k => if k = 0 then H 0 + 1 else if k < 2 + c then H k else if k = 2 + c then x else H (k - 1)
def delH (H : Int → Int) (c : Int) : Int → Int := fun k => if k = 0 then H 0 - 1 else if k < 2 + c then H k else H (k + 1)
theorem insH_0 {H : Int → Int} {c x : Int} : insH H c x 0 = H 0 + 1 := if_pos rfl
theorem insH_lo {H : Int → Int} {c x k : Int} (h0 : k ≠ 0) (h : k < 2 + c) : insH H c x k = H k := by unfold insH; rw [if_neg h0, if_pos h]
theorem insH_at {H : Int → Int} {c x : Int} (h : 0 ≤ c) : insH H c x (2 + c) = x := by unfold insH; rw [if_neg (by omega), if_neg (by omega), if_pos rfl]
theorem insH_hi {H : Int → Int} {c x k : Int} (h0 : 0 ≤ c) (h : 2 + c < k) : insH H c x k = H (k - 1) := by unfold insH; rw [if_neg (by omega), if_neg (by omega), if_neg (by omega)]
theorem delH_0 {H : Int → Int} {c : Int} : delH H c 0 = H 0 - 1 := if_pos rfl
theorem delH_lo {H : Int → Int} {c k : Int} (h0 : k ≠ 0) (h : k < 2 + c) : delH H c k = H k := by unfold delH; rw [if_neg h0, if_pos h]
theorem delH_hi {H : Int → Int} {c k : Int} (h0 : 0 ≤ c) (h : 2 + c ≤ k) : delH H c k = H (k + 1) := by unfold delH; rw [if_neg (by omega), if_neg (by omega)]
theorem insH_v {H : Int → Int} {c x : Int} (h : VK H) (hn : H 0 < 40) (hx : 0 ≤ x ∧ x < H 1) (hc : 0 ≤ c ∧ c ≤ H 0) (h1 : ∀ j, 0 ≤ j → j < c → H (2 + j) ≤ x) (h2 : c < H 0 → x ≤ H (2 + c)) : VK (insH H c x) := by
  obtain ⟨v0, v1, v2, v3, v4, v5⟩ := h
  unfold VK
  rw [insH_0, insH_lo (by decide) (by omega)]
  refine ⟨by omega, by omega, v2, v3, fun i g1 g2 => ?_, fun i j g1 g2 g3 => ?_⟩
  · dsimp only
    rcases Int.lt_trichotomy i c with z | z | z
    · rw [insH_lo (by omega) (by omega)]; exact v4 i g1 (by omega)
    · rw [z, insH_at hc.1]; exact hx
    · rw [insH_hi hc.1 (by omega), show 2 + i - 1 = 2 + (i - 1) by omega]; exact v4 (i - 1) (by omega) (by omega)
  · dsimp only
    rcases Int.lt_trichotomy i c with z | z | z
    · rw [insH_lo (by omega) (by omega)]
      rcases Int.lt_trichotomy j c with y | y | y
      · rw [insH_lo (by omega) (by omega)]; exact v5 i j g1 g2 (by omega)
      · rw [y, insH_at hc.1]; exact h1 i g1 z
      · rw [insH_hi hc.1 (by omega), show 2 + j - 1 = 2 + (j - 1) by omega]; exact v5 i (j - 1) g1 (by omega) (by omega)
    · rw [z, insH_at hc.1]
      rcases Int.lt_trichotomy j c with y | y | y
      · omega
      · rw [y, insH_at hc.1]; omega
      · rw [insH_hi hc.1 (by omega), show 2 + j - 1 = 2 + (j - 1) by omega]
        have y1 := v5 c (j - 1) hc.1 (by omega) (by omega)
        have y2 := h2 (by omega)
        dsimp only at y1
        omega
    · rw [insH_hi hc.1 (by omega), insH_hi hc.1 (by omega), show 2 + i - 1 = 2 + (i - 1) by omega, show 2 + j - 1 = 2 + (j - 1) by omega]
      exact v5 (i - 1) (j - 1) (by omega) (by omega) (by omega)
theorem delH_v {H : Int → Int} {c : Int} (h : VK H) (hc : 0 ≤ c ∧ c < H 0) : VK (delH H c) := by
  obtain ⟨v0, v1, v2, v3, v4, v5⟩ := h
  have key : ∀ i, 0 ≤ i → ∃ j, delH H c (2 + i) = H (2 + j) ∧ (i < c ∧ j = i ∨ c ≤ i ∧ j = i + 1) := fun i g1 => by
    by_cases z : i < c
    · exact ⟨i, delH_lo (by omega) (by omega), Or.inl ⟨z, rfl⟩⟩
    · exact ⟨i + 1, (delH_hi hc.1 (by omega)).trans (congrArg H (by omega)), Or.inr ⟨by omega, rfl⟩⟩
  unfold VK
  rw [delH_0, delH_lo (by decide) (by omega)]
  refine ⟨by omega, by omega, v2, v3, fun i g1 g2 => ?_, fun i j g1 g2 g3 => ?_⟩
  · obtain ⟨p, e, k⟩ := key i g1
    dsimp only
    rw [e]
    exact v4 p (by omega) (by omega)
  · obtain ⟨p, e, k⟩ := key i g1
    obtain ⟨p2, e2, k2⟩ := key j (by omega)
    dsimp only
    rw [e, e2]
    exact v5 p p2 (by omega) (by omega) (by omega)
theorem s_X4_numR {Q : List rV → rW → Prop} {w : rW} {q i : Int} (hq : q = 0 ∨ q = 1) (h9 : w 9 0 = 10) (h0 : 0 ≤ i) (h1 : i < 40) (hQ : Q [vi (w 10 (42 * q + 2 + i))] w) : WP M_X4_number 0 [vr 9, vi q, vi i] [] w Q := by
  have ha : al (w 9 0) = 84 := by rw [h9]; rfl
  refine b_X4_number_0 rfl (by omega) (by omega) ?_
  rw [h9]
  exact hQ
theorem s_X4_manyR {Q : List rV → rW → Prop} {w : rW} {q : Int} (hq : q = 0 ∨ q = 1) (h9 : w 9 0 = 10) (hQ : Q [vi (w 10 (42 * q))] w) : WP M_X4_many 0 [vr 9, vi q] [] w Q := by
  have ha : al (w 9 0) = 84 := by rw [h9]; rfl
  refine b_X4_many_0 rfl (by omega) (by omega) ?_
  rw [h9]
  exact hQ
theorem l_X4_add {Q : List rV → rW → Prop} {wk : rW} {q n x c : Int} (hq : q = 0 ∨ q = 1) (h9 : wk 9 0 = 10) (hn : n < 40) (hc : 0 ≤ c ∧ c ≤ n) (hQ : ∀ w1, (∀ r k, r ≠ 10 → w1 r k = wk r k) → (∀ k, ¬ (42 * q + 2 ≤ k ∧ k < 42 * q + 42) → w1 10 k = wk 10 k) → (∀ i, 0 ≤ i → i < c → w1 10 (42 * q + 2 + i) = wk 10 (42 * q + 2 + i)) → (∀ i, c < i → i ≤ n → w1 10 (42 * q + 2 + i) = wk 10 (42 * q + 2 + (i - 1))) → ∀ jj, WP M_X4_add 109 [vr 9, vi q, vi x, vi c, vi jj] [] w1 Q) : ∀ (k : Nat) (w : rW) (j : Int), j.toNat < k → c ≤ j → j ≤ n → (∀ r k, r ≠ 10 → w r k = wk r k) → (∀ k, ¬ (42 * q + 2 ≤ k ∧ k < 42 * q + 42) → w 10 k = wk 10 k) → (∀ i, 0 ≤ i → i < j → w 10 (42 * q + 2 + i) = wk 10 (42 * q + 2 + i)) → (∀ i, j < i → i ≤ n → w 10 (42 * q + 2 + i) = wk 10 (42 * q + 2 + (i - 1))) → WP M_X4_add 74 [vr 9, vi q, vi x, vi c, vi j] [] w Q := by
  intro k
  induction k with
  | zero => intro w j hk; omega
  | succ k ih =>
    intro w j hk hj0 hj1 hF hO hL hR
    have ho : oc 9 = 4 := rfl
    have e0 : w 9 0 = 10 := (hF 9 0 (by decide)).trans h9
    have a10 : al 10 = 84 := rfl
    refine b_X4_add_74 (by omega) (by omega) (fun g => ?_) (fun g => ?_)
    · have ej : j = c := by omega
      rw [ej] at hL hR ⊢
      exact hQ w hF hO hL hR c
    · refine b_X4_add_80 ho ?_
      refine s_X4_numR hq e0 (by omega) (by omega) ?_
      rw [e0]
      refine b_X4_add_102 (by omega) (by omega) ?_
      refine ih _ _ (by omega) (by omega) (by omega) (fun r k z => ?_) (fun k z => ?_) (fun i z1 z2 => ?_) (fun i z1 z2 => ?_)
      · rw [ws_nr z]; exact hF r k z
      · rw [ws_nk (by omega)]; exact hO k z
      · rw [ws_nk (by omega)]; exact hL i z1 (by omega)
      · by_cases y : i = j
        · rw [y, ws_eq]; exact hL (j - 1) (by omega) (by omega)
        · rw [ws_nk (by omega)]; exact hR i (by omega) z2
theorem l_X4_drop {Q : List rV → rW → Prop} {wk : rW} {q n d c : Int} (hq : q = 0 ∨ q = 1) (h9 : wk 9 0 = 10) (hn : 0 ≤ n ∧ n < 40) (hm : wk 10 (42 * q) = n) (hc : 0 ≤ c ∧ c ≤ n) (hQ : ∀ w1, (∀ r k, r ≠ 10 → w1 r k = wk r k) → (∀ k, ¬ (42 * q + 2 ≤ k ∧ k < 42 * q + 42) → w1 10 k = wk 10 k) → (∀ i, 0 ≤ i → i < c → w1 10 (42 * q + 2 + i) = wk 10 (42 * q + 2 + i)) → (∀ i, c ≤ i → i < n → w1 10 (42 * q + 2 + i) = wk 10 (42 * q + 2 + (i + 1))) → ∀ jj, WP M_X4_drop 94 [vr 9, vi q, vi c, vi d, vi jj] [] w1 Q) : ∀ (k : Nat) (w : rW) (j : Int), (n - j).toNat < k → c ≤ j → j ≤ n → (∀ r k, r ≠ 10 → w r k = wk r k) → (∀ k, ¬ (42 * q + 2 ≤ k ∧ k < 42 * q + 42) → w 10 k = wk 10 k) → (∀ i, 0 ≤ i → i < c → w 10 (42 * q + 2 + i) = wk 10 (42 * q + 2 + i)) → (∀ i, c ≤ i → i < j → w 10 (42 * q + 2 + i) = wk 10 (42 * q + 2 + (i + 1))) → (∀ i, j ≤ i → i ≤ n → w 10 (42 * q + 2 + i) = wk 10 (42 * q + 2 + i)) → WP M_X4_drop 55 [vr 9, vi q, vi c, vi d, vi j] [] w Q := by
  intro k
  induction k with
  | zero => intro w j hk; omega
  | succ k ih =>
    intro w j hk hj0 hj1 hF hO hA hB hD
    have ho : oc 9 = 4 := rfl
    have e0 : w 9 0 = 10 := (hF 9 0 (by decide)).trans h9
    have a10 : al 10 = 84 := rfl
    have em : w 10 (42 * q) = n := (hO _ (by omega)).trans hm
    refine b_X4_drop_55 ho ?_
    refine s_X4_manyR hq e0 ?_
    rw [em]
    refine b_X4_drop_62 (by omega) (by omega) (fun g => ?_) (fun g => ?_)
    · have ej : j = n := by omega
      rw [ej] at hB ⊢
      exact hQ w hF hO hA hB n
    · refine b_X4_drop_65 ho ?_
      refine s_X4_numR hq e0 (by omega) (by omega) ?_
      rw [e0]
      refine b_X4_drop_87 (by omega) (by omega) ?_
      refine ih _ _ (by omega) (by omega) (by omega) (fun r k z => ?_) (fun k z => ?_) (fun i z1 z2 => ?_) (fun i z1 z2 => ?_) (fun i z1 z2 => ?_)
      · rw [ws_nr z]; exact hF r k z
      · rw [ws_nk (by omega)]; exact hO k z
      · rw [ws_nk (by omega)]; exact hA i z1 z2
      · by_cases y : i = j
        · rw [y, ws_eq]; exact hD (j + 1) (by omega) (by omega)
        · rw [ws_nk (by omega)]; exact hB i z1 (by omega)
      · rw [ws_nk (by omega)]; exact hD i (by omega) z2
theorem VK.cl {H f : Int → Int} {n x : Int} (hn : H 0 = n) (h0 : 0 ≤ n) (he : ∀ i, 0 ≤ i → i < n → f i = H (2 + i)) : cl f n x = cl (fun j => H (2 + j)) n x := cl_congr h0 he

theorem j_add {w : rW} {q x : Int} (hI : Inv w) (hqr : R32 q) (hxr : R32 x) : WP M_X3_add 0 [vr 0, vi q, vi x, vu] [] w (JQ M_X4_add [vr 9, vi q, vi x, vu, vu]) := by
  have ho0 : oc 0 = 3 := rfl
  have ho9 : oc 9 = 4 := rfl
  by_cases hq : q = 0 ∨ q = 1
  · skip
    obtain ⟨a, n, b, hra, hR, hM, hV, hE⟩ := hI.row hq
    obtain ⟨h, hb0, hb1, hb2⟩ := id hR
    obtain ⟨ha13, ho, ha1, h0, h1, hn0, hn4, hv⟩ := id h
    have hn : 0 ≤ n ∧ n ≤ 40 := ⟨hn0, hn4⟩
    have hb : 1 ≤ b ∧ b ≤ 4096 := ⟨by omega, hb2⟩
    have hwb := wd_bd hn.1 hb.2
    have hpw := p2_w hn.1 hb.2
    have hub := ub_bd hn hb
    have hzb := zf_bd hn.1 hb.1 hb.2
    have hsz := szf_bd hn hb
    have hun := unl_bd (f := w (a + 1)) hn0
    have hu9 : w 9 9 = 15 := hI.1.2.2.2.2.2.2.2.2.2.1
    have hu11 : w 9 11 = 16 := hI.1.2.2.2.2.2.2.2.2.2.2.1
    have ha0 : al (w 9 0) = 84 := by rw [hM.2.1]; rfl
    have hbm : w (w 9 0) (42 * q + 1) = b := by rw [hM.2.1]; exact hM.2.2.2.1
    obtain ⟨a0, a1, o, s, t, RS, HS, TS, hC, hMV, hVS⟩ := hI.to
    have hC4 := hC.2.1
    have hC5 := hC.2.2.1
    have hs4 : 0 ≤ s ∧ s ≤ 4 := ⟨hMV.2.2.1.2.1, hMV.2.2.1.2.2.1⟩
    have hqa : (q = 0 ∧ a = a0) ∨ (q = 1 ∧ a = a1) := by omega
    have hRn : RS q 0 = n := ((hMV.2.1 q hq).k0).symm.trans hM.2.2.1
    have hRb : RS q 1 = b := (hMV.2.1 q hq).2.1.symm.trans hM.2.2.2.1
    have hVq := hVS.1 q hq
    refine b_X3_add_0  ?_
    refine s_X3_isRow (by omega) (fun r hr => ?_)
    refine b_X3_add_4 (by first | omega | assumption) (fun c_4 => ?_) (fun c_4 => ?_)
    · first
      | exact absurd c_4 (by omega)
      | (refine b_X3_add_18  ?_
         refine JQ.mk (by omega) ?_
         refine b_X4_add_0  ?_
         refine s_X4_in (by omega) (by omega) (by omega) (fun r hr => ?_)
         refine b_X4_add_6 (by first | omega | assumption) (fun d_6 => ?_) (fun d_6 => ?_)
         · first
           | exact absurd d_6 (by omega)
           | (refine b_X4_add_20  ?_
              exact JE (by first | rfl | omega) hI)
         · first
           | exact absurd d_6 (by omega)
           | (refine b_X4_add_9  ?_
              refine s_X4_in (by omega) (by omega) (by omega) (fun r hr => ?_)
              refine b_X4_add_17 (by first | omega | assumption) (fun d_17 => ?_) (fun d_17 => ?_)
              · first
                | exact absurd d_17 (by omega)
                | (refine b_X4_add_23 (by first | omega | assumption) (by first | omega | assumption) (by first | omega | assumption) (by first | omega | assumption) (by first | omega | assumption) (fun d_23 => ?_) (fun d_23 => ?_)
                   · first
                     | exact absurd d_23 (by omega)
                     | (refine b_X4_add_41 (by first | omega | assumption) ?_
                        refine s_X4_many hM ?_
                        refine b_X4_add_46 (by first | omega | assumption) (fun d_46 => ?_) (fun d_46 => ?_)
                        · first
                          | exact absurd d_46 (by omega)
                          | (refine b_X4_add_54 (by first | omega | assumption) ?_
                             refine False.elim (by omega)
                             refine b_X4_add_58 (by first | omega | assumption) ?_
                             refine s_X4_less hM (by omega) ?_
                             refine b_X4_add_66 (by first | omega | assumption) ?_
                             exfalso
                             omega
                             refine b_X4_add_72  ?_
                             exfalso; omega)
                        · first
                          | exact absurd d_46 (by omega)
                          | (refine b_X4_add_51  ?_
                             exact JE (by first | rfl | omega) hI))
                   · first
                     | exact absurd d_23 (by omega)
                     | (refine b_X4_add_38  ?_
                        exact JE (by first | rfl | omega) hI))
              · first
                | exact absurd d_17 (by omega)
                | (refine b_X4_add_20  ?_
                   exact JE (by first | rfl | omega) hI)))
    · first
      | exact absurd c_4 (by omega)
      | (refine b_X3_add_7  ?_
         refine s_X3_isWithin (by omega) (by omega) (by omega) (fun r hr => ?_)
         refine b_X3_add_15 (by first | omega | assumption) (fun c_15 => ?_) (fun c_15 => ?_)
         · first
           | exact absurd c_15 (by omega)
           | (refine b_X3_add_21 (by first | omega | assumption) ?_
              refine s_X3_rowAt hra ?_
              refine b_X3_add_26 (by first | omega | assumption) (by first | omega | assumption) (by first | omega | assumption) (fun c_26 => ?_) (fun c_26 => ?_)
              · first
                | exact absurd c_26 (by omega)
                | (refine b_X3_add_38 (by first | omega | assumption) (by first | omega | assumption) (fun c_38 => ?_) (fun c_38 => ?_)
                   · first
                     | exact absurd c_38 (by omega)
                     | (refine b_X3_add_50 (by first | omega | assumption) ?_
                        refine s_X3_remember hC hVS (fun w1 o1 hF1 hC1 => ?_)
                        have hCq := hC1.crw hqa
                        have e11 : w1 a 1 = n := hCq.1.1.2.2.2.2.1.trans hRn
                        refine b_X3_add_54 (by first | omega | assumption) ?_
                        refine s_X1_insert (hRn ▸ hCq.1.1 : R0 w1 a n) (by omega) (by omega) (fun w2 hg1 hg2 hg3 hg4 hg5 hg6 => ?_)
                        refine b_X3_add_59  ?_
                        have hFC : FC w w2 := hF1.tr (fun r k z => hg1 r k (by omega) (by omega))
                        have hM1 := hM.fc hFC
                        have hMV1 := hMV.mv hFC
                        have hcr : cl (w1 (a + 1)) n (x + 1) = cl (fun j => RS q (2 + j)) n (x + 1) := cl_congr hn0 (fun i z1 z2 => hCq.2 i z1 (by rw [hRn]; exact z2))
                        have hcm : cl (mf w q) n (x + 1) = cl (fun j => RS q (2 + j)) n (x + 1) := cl_congr hn0 (fun i z1 z2 => by
                          have y := (hMV.2.1 q hq).2.2 i z1 (by rw [hRn]; exact z2)
                          dsimp only at y
                          rw [← Int.add_assoc] at y
                          exact y)
                        rw [hcr] at hg4 hg5 hg6 ⊢
                        have hcs := cl_spec (f := fun j => RS q (2 + j)) (n := n) (x := x + 1) hn0
                        generalize cl (fun j => RS q (2 + j)) n (x + 1) = c at hg4 hg5 hg6 hcs hcr hcm ⊢
                        obtain ⟨hc0, hc1, hc2, hc3⟩ := hcs
                        have hVi : VK (insH (RS q) c x) := insH_v hVq (by omega) (by omega) (by omega) (fun j z1 z2 => by have y := hc2 j z1 z2; omega) (fun z => by have y := hc3 (by omega); omega)
                        have hC2 := hC1.row (w1 := w2) (H := insH (RS q) c x) hqa hg1 (CRw.of (by
                          obtain ⟨y1, y2, y3, y4⟩ := hCq.1.1.ra
                          exact ⟨y1, y2, y3, by rw [hg2 0 (by decide)]; exact y4⟩) hVi (by rw [insH_0, hg3, hRn]) (by rw [hg2 2 (by decide), insH_lo (by decide) (by omega)]; exact hCq.1.2.1) (fun i z1 z2 => by
                          rw [insH_0, hRn] at z2
                          rcases Int.lt_trichotomy i c with z | z | z
                          · rw [hg4 i z1 z, insH_lo (by omega) (by omega)]; exact hCq.2 i z1 (by omega)
                          · rw [z, hg5, insH_at hc0]
                          · rw [hg6 i z (by omega), insH_hi hc0 (by omega), show 2 + i - 1 = 2 + (i - 1) by omega]; exact hCq.2 (i - 1) (by omega) (by omega)))
                        refine JQ.mk (by omega) ?_
                        refine b_X4_add_0  ?_
                        refine s_X4_in (by omega) (by omega) (by omega) (fun r hr => ?_)
                        refine b_X4_add_6 (by first | omega | assumption) (fun d_6 => ?_) (fun d_6 => ?_)
                        · first
                          | exact absurd d_6 (by omega)
                          | (refine b_X4_add_20  ?_
                             exfalso
                             omega)
                        · first
                          | exact absurd d_6 (by omega)
                          | (refine b_X4_add_9  ?_
                             refine s_X4_in (by omega) (by omega) (by omega) (fun r hr => ?_)
                             refine b_X4_add_17 (by first | omega | assumption) (fun d_17 => ?_) (fun d_17 => ?_)
                             · first
                               | exact absurd d_17 (by omega)
                               | (have hbm2 : w2 (w2 9 0) (42 * q + 1) = b := by rw [hM1.2.1]; exact hM1.2.2.2.1
                                  have ha2 : al (w2 9 0) = 84 := by rw [hM1.2.1]; rfl
                                  refine b_X4_add_23 (by first | omega | assumption) (by first | omega | assumption) (by first | omega | assumption) (by first | omega | assumption) (by first | omega | assumption) (fun d_23 => ?_) (fun d_23 => ?_)
                                  · first
                                    | exact absurd d_23 (by omega)
                                    | (refine b_X4_add_41 (by first | omega | assumption) ?_
                                       refine s_X4_many hM1 ?_
                                       refine b_X4_add_46 (by first | omega | assumption) (fun d_46 => ?_) (fun d_46 => ?_)
                                       · first
                                         | exact absurd d_46 (by omega)
                                         | (refine b_X4_add_54 (by first | omega | assumption) ?_
                                            refine s_X4_keeps hMV1.1 (fun wk hk1 hk2 => ?_)
                                            have hMk := hM1.as (hk1 9 0 (by decide)) (funext fun k => hk1 10 k (by decide))
                                            have hk9 : wk 9 0 = 10 := hMk.2.1
                                            have ak : al (wk 9 0) = 84 := by rw [hk9]; rfl
                                            refine b_X4_add_58 (by first | omega | assumption) ?_
                                            refine s_X4_less hMk (by omega) ?_
                                            have hml : cl (mf wk q) n (x + 1) = c := by
                                              rw [show mf wk q = mf w q from funext fun i => (hk1 10 _ (by decide)).trans (hFC 10 _ (by decide))]; exact hcm
                                            rw [hml]
                                            refine b_X4_add_66 (by first | omega | assumption) ?_
                                            refine s_X4_many hMk ?_
                                            refine b_X4_add_72  ?_
                                            refine l_X4_add hq hk9 (by omega) ⟨hc0, hc1⟩ (fun wb hb1 hb2 hb3 hb4 jj => ?_) _ wk n (Nat.lt_succ_self _) hc1 (Int.le_refl _) (fun _ _ _ => rfl) (fun _ _ => rfl) (fun _ _ _ => rfl) (fun i z1 z2 => by omega)
                                            have hb9 : wb 9 0 = 10 := (hb1 9 0 (by decide)).trans hk9
                                            have a10 : al 10 = 84 := rfl
                                            have r1 : wset wb 10 (42 * q + 2 + c) x 9 0 = 10 := (ws_nr (by decide)).trans hb9
                                            have r2 : wset wb 10 (42 * q + 2 + c) x 10 (42 * q) = n := by rw [ws_nk (by omega), hb2 _ (by omega), hk1 10 _ (by decide)]; exact hM1.2.2.1
                                            refine b_X4_add_109 ho9 (by omega) (by rw [hb9, a10]; omega) (by omega) (by rw [hb9, r1, a10]; omega) ?_
                                            rw [hb9, r1, r2]
                                            refine s_X4_act (RS1 := upR RS q (insH (RS q) c x)) hMV1 hVS (by omega) (by omega) hk1 hk2 (fun r k z1 z2 z3 => by rw [ws_nr z1, ws_nr z1]; exact hb1 r k z1) (rowsUp hq hMV1.2.1 (fun p hp => (hVS.1 p hp).2.1) (fun k z => ?_) ?_) (fun w3 hFM hM2 => ?_)
                                            · rw [ws_nk (by omega), ws_nk (by omega), hb2 k (by omega)]; exact hk1 10 k (by decide)
                                            · refine ⟨?_, ?_, fun i z1 z2 => ?_⟩
                                              · dsimp only
                                                rw [Int.add_zero, ws_eq, insH_0, hRn]
                                              · dsimp only
                                                rw [ws_nk (by omega), ws_nk (by omega), hb2 _ (by omega), hk1 10 _ (by decide), insH_lo (by decide) (by omega)]
                                                exact (hMV1.2.1 q hq).2.1
                                              · rw [insH_0, hRn] at z2
                                                have hold := fun p y1 y2 => (hMV1.2.1 q hq).2.2 p y1 (by rw [hRn]; exact y2)
                                                dsimp only at hold ⊢
                                                rcases Int.lt_trichotomy i c with z | z | z
                                                · rw [ws_nk (by omega), ws_nk (by omega), ← Int.add_assoc, hb3 i z1 z, hk1 10 _ (by decide), insH_lo (by omega) (by omega), Int.add_assoc]; exact hold i z1 (by omega)
                                                · rw [z, ws_nk (by omega), ← Int.add_assoc, ws_eq, insH_at hc0]
                                                · rw [ws_nk (by omega), ws_nk (by omega), ← Int.add_assoc, hb4 i z (by omega), hk1 10 _ (by decide), insH_hi hc0 (by omega), Int.add_assoc, show 2 + i - 1 = 2 + (i - 1) by omega]; exact hold (i - 1) (by omega) (by omega)
                                            · refine b_X4_add_141 ?_
                                              exact JE rfl (Inv.mk (hC2.mv hFM) hM2 (hVS.push (hVS.up hVi) hs4)))
                                       · first
                                         | exact absurd d_46 (by omega)
                                         | (refine b_X4_add_51  ?_
                                            exfalso
                                            omega))
                                  · first
                                    | exact absurd d_23 (by omega)
                                    | (refine b_X4_add_38  ?_
                                       exfalso
                                       omega))
                             · first
                               | exact absurd d_17 (by omega)
                               | (refine b_X4_add_20  ?_
                                  exfalso
                                  omega)))
                   · first
                     | exact absurd c_38 (by omega)
                     | (refine b_X3_add_47  ?_
                        refine JQ.mk (by omega) ?_
                        refine b_X4_add_0  ?_
                        refine s_X4_in (by omega) (by omega) (by omega) (fun r hr => ?_)
                        refine b_X4_add_6 (by first | omega | assumption) (fun d_6 => ?_) (fun d_6 => ?_)
                        · first
                          | exact absurd d_6 (by omega)
                          | (refine b_X4_add_20  ?_
                             exact JE (by first | rfl | omega) hI)
                        · first
                          | exact absurd d_6 (by omega)
                          | (refine b_X4_add_9  ?_
                             refine s_X4_in (by omega) (by omega) (by omega) (fun r hr => ?_)
                             refine b_X4_add_17 (by first | omega | assumption) (fun d_17 => ?_) (fun d_17 => ?_)
                             · first
                               | exact absurd d_17 (by omega)
                               | (refine b_X4_add_23 (by first | omega | assumption) (by first | omega | assumption) (by first | omega | assumption) (by first | omega | assumption) (by first | omega | assumption) (fun d_23 => ?_) (fun d_23 => ?_)
                                  · first
                                    | exact absurd d_23 (by omega)
                                    | (refine b_X4_add_41 (by first | omega | assumption) ?_
                                       refine s_X4_many hM ?_
                                       refine b_X4_add_46 (by first | omega | assumption) (fun d_46 => ?_) (fun d_46 => ?_)
                                       · first
                                         | exact absurd d_46 (by omega)
                                         | (refine b_X4_add_54 (by first | omega | assumption) ?_
                                            refine False.elim (by omega)
                                            refine b_X4_add_58 (by first | omega | assumption) ?_
                                            refine s_X4_less hM (by omega) ?_
                                            refine b_X4_add_66 (by first | omega | assumption) ?_
                                            exfalso
                                            omega
                                            refine b_X4_add_72  ?_
                                            exfalso; omega)
                                       · first
                                         | exact absurd d_46 (by omega)
                                         | (refine b_X4_add_51  ?_
                                            exact JE (by first | rfl | omega) hI))
                                  · first
                                    | exact absurd d_23 (by omega)
                                    | (refine b_X4_add_38  ?_
                                       exact JE (by first | rfl | omega) hI))
                             · first
                               | exact absurd d_17 (by omega)
                               | (refine b_X4_add_20  ?_
                                  exact JE (by first | rfl | omega) hI))))
              · first
                | exact absurd c_26 (by omega)
                | (refine b_X3_add_35  ?_
                   refine JQ.mk (by omega) ?_
                   refine b_X4_add_0  ?_
                   refine s_X4_in (by omega) (by omega) (by omega) (fun r hr => ?_)
                   refine b_X4_add_6 (by first | omega | assumption) (fun d_6 => ?_) (fun d_6 => ?_)
                   · first
                     | exact absurd d_6 (by omega)
                     | (refine b_X4_add_20  ?_
                        exact JE (by first | rfl | omega) hI)
                   · first
                     | exact absurd d_6 (by omega)
                     | (refine b_X4_add_9  ?_
                        refine s_X4_in (by omega) (by omega) (by omega) (fun r hr => ?_)
                        refine b_X4_add_17 (by first | omega | assumption) (fun d_17 => ?_) (fun d_17 => ?_)
                        · first
                          | exact absurd d_17 (by omega)
                          | (refine b_X4_add_23 (by first | omega | assumption) (by first | omega | assumption) (by first | omega | assumption) (by first | omega | assumption) (by first | omega | assumption) (fun d_23 => ?_) (fun d_23 => ?_)
                             · first
                               | exact absurd d_23 (by omega)
                               | (refine b_X4_add_41 (by first | omega | assumption) ?_
                                  refine s_X4_many hM ?_
                                  refine b_X4_add_46 (by first | omega | assumption) (fun d_46 => ?_) (fun d_46 => ?_)
                                  · first
                                    | exact absurd d_46 (by omega)
                                    | (refine b_X4_add_54 (by first | omega | assumption) ?_
                                       refine False.elim (by omega)
                                       refine b_X4_add_58 (by first | omega | assumption) ?_
                                       refine s_X4_less hM (by omega) ?_
                                       refine b_X4_add_66 (by first | omega | assumption) ?_
                                       exfalso
                                       omega
                                       refine b_X4_add_72  ?_
                                       exfalso; omega)
                                  · first
                                    | exact absurd d_46 (by omega)
                                    | (refine b_X4_add_51  ?_
                                       exact JE (by first | rfl | omega) hI))
                             · first
                               | exact absurd d_23 (by omega)
                               | (refine b_X4_add_38  ?_
                                  exact JE (by first | rfl | omega) hI))
                        · first
                          | exact absurd d_17 (by omega)
                          | (refine b_X4_add_20  ?_
                             exact JE (by first | rfl | omega) hI))))
         · first
           | exact absurd c_15 (by omega)
           | (refine b_X3_add_18  ?_
              refine JQ.mk (by omega) ?_
              refine b_X4_add_0  ?_
              refine s_X4_in (by omega) (by omega) (by omega) (fun r hr => ?_)
              refine b_X4_add_6 (by first | omega | assumption) (fun d_6 => ?_) (fun d_6 => ?_)
              · first
                | exact absurd d_6 (by omega)
                | (refine b_X4_add_20  ?_
                   exact JE (by first | rfl | omega) hI)
              · first
                | exact absurd d_6 (by omega)
                | (refine b_X4_add_9  ?_
                   refine s_X4_in (by omega) (by omega) (by omega) (fun r hr => ?_)
                   refine b_X4_add_17 (by first | omega | assumption) (fun d_17 => ?_) (fun d_17 => ?_)
                   · first
                     | exact absurd d_17 (by omega)
                     | (refine b_X4_add_23 (by first | omega | assumption) (by first | omega | assumption) (by first | omega | assumption) (by first | omega | assumption) (by first | omega | assumption) (fun d_23 => ?_) (fun d_23 => ?_)
                        · first
                          | exact absurd d_23 (by omega)
                          | (refine b_X4_add_41 (by first | omega | assumption) ?_
                             refine s_X4_many hM ?_
                             refine b_X4_add_46 (by first | omega | assumption) (fun d_46 => ?_) (fun d_46 => ?_)
                             · first
                               | exact absurd d_46 (by omega)
                               | (refine b_X4_add_54 (by first | omega | assumption) ?_
                                  refine False.elim (by omega)
                                  refine b_X4_add_58 (by first | omega | assumption) ?_
                                  refine s_X4_less hM (by omega) ?_
                                  refine b_X4_add_66 (by first | omega | assumption) ?_
                                  exfalso
                                  omega
                                  refine b_X4_add_72  ?_
                                  exfalso; omega)
                             · first
                               | exact absurd d_46 (by omega)
                               | (refine b_X4_add_51  ?_
                                  exact JE (by first | rfl | omega) hI))
                        · first
                          | exact absurd d_23 (by omega)
                          | (refine b_X4_add_38  ?_
                             exact JE (by first | rfl | omega) hI))
                   · first
                     | exact absurd d_17 (by omega)
                     | (refine b_X4_add_20  ?_
                        exact JE (by first | rfl | omega) hI))))
  · have hq2 : q < 0 ∨ 1 < q := by omega
    refine b_X3_add_0  ?_
    refine s_X3_isRow (by omega) (fun r hr => ?_)
    refine b_X3_add_4 (by first | omega | assumption) (fun c_4 => ?_) (fun c_4 => ?_)
    · first
      | exact absurd c_4 (by omega)
      | (refine b_X3_add_18  ?_
         refine JQ.mk (by omega) ?_
         refine b_X4_add_0  ?_
         refine s_X4_in (by omega) (by omega) (by omega) (fun r hr => ?_)
         refine b_X4_add_6 (by first | omega | assumption) (fun d_6 => ?_) (fun d_6 => ?_)
         · first
           | exact absurd d_6 (by omega)
           | (refine b_X4_add_20  ?_
              exact JE (by first | rfl | omega) hI)
         · first
           | exact absurd d_6 (by omega)
           | (refine b_X4_add_9  ?_
              refine s_X4_in (by omega) (by omega) (by omega) (fun r hr => ?_)
              refine b_X4_add_17 (by first | omega | assumption) (fun d_17 => ?_) (fun d_17 => ?_)
              · first
                | exact absurd d_17 (by omega)
                | (refine b_X4_add_23 (by first | omega | assumption) (by first | omega | assumption) (by first | omega | assumption) (by first | omega | assumption) (by first | omega | assumption) (fun d_23 => ?_) (fun d_23 => ?_)
                   · first
                     | exact absurd d_23 (by omega)
                     | (refine b_X4_add_41 (by first | omega | assumption) ?_
                        refine s_X4_many hM ?_
                        refine b_X4_add_46 (by first | omega | assumption) (fun d_46 => ?_) (fun d_46 => ?_)
                        · first
                          | exact absurd d_46 (by omega)
                          | (refine b_X4_add_54 (by first | omega | assumption) ?_
                             refine False.elim (by omega)
                             refine b_X4_add_58 (by first | omega | assumption) ?_
                             refine s_X4_less hM (by omega) ?_
                             refine b_X4_add_66 (by first | omega | assumption) ?_
                             exfalso
                             omega
                             refine b_X4_add_72  ?_
                             exfalso; omega)
                        · first
                          | exact absurd d_46 (by omega)
                          | (refine b_X4_add_51  ?_
                             exact JE (by first | rfl | omega) hI))
                   · first
                     | exact absurd d_23 (by omega)
                     | (refine b_X4_add_38  ?_
                        exact JE (by first | rfl | omega) hI))
              · first
                | exact absurd d_17 (by omega)
                | (refine b_X4_add_20  ?_
                   exact JE (by first | rfl | omega) hI)))
    · first
      | exact absurd c_4 (by omega)
      | (refine b_X3_add_7  ?_
         refine s_X3_isWithin (by omega) (by omega) (by omega) (fun r hr => ?_)
         refine b_X3_add_15 (by first | omega | assumption) (fun c_15 => ?_) (fun c_15 => ?_)
         · first
           | exact absurd c_15 (by omega)
           | (refine b_X3_add_21 (by first | omega | assumption) ?_
              refine s_X3_rowAt hra ?_
              refine b_X3_add_26 (by first | omega | assumption) (by first | omega | assumption) (by first | omega | assumption) (fun c_26 => ?_) (fun c_26 => ?_)
              · first
                | exact absurd c_26 (by omega)
                | (refine b_X3_add_38 (by first | omega | assumption) (by first | omega | assumption) (fun c_38 => ?_) (fun c_38 => ?_)
                   · first
                     | exact absurd c_38 (by omega)
                     | (refine b_X3_add_50 (by first | omega | assumption) ?_
                        refine s_X3_remember hC hVS (fun w1 o1 hF1 hC1 => ?_)
                        have hCq := hC1.crw hqa
                        have e11 : w1 a 1 = n := hCq.1.1.2.2.2.2.1.trans hRn
                        refine b_X3_add_54 (by first | omega | assumption) ?_
                        refine s_X1_insert (hRn ▸ hCq.1.1 : R0 w1 a n) (by omega) (by omega) (fun w2 hg1 hg2 hg3 hg4 hg5 hg6 => ?_)
                        refine b_X3_add_59  ?_
                        exfalso
                        omega)
                   · first
                     | exact absurd c_38 (by omega)
                     | (refine b_X3_add_47  ?_
                        refine JQ.mk (by omega) ?_
                        refine b_X4_add_0  ?_
                        refine s_X4_in (by omega) (by omega) (by omega) (fun r hr => ?_)
                        refine b_X4_add_6 (by first | omega | assumption) (fun d_6 => ?_) (fun d_6 => ?_)
                        · first
                          | exact absurd d_6 (by omega)
                          | (refine b_X4_add_20  ?_
                             exact JE (by first | rfl | omega) hI)
                        · first
                          | exact absurd d_6 (by omega)
                          | (refine b_X4_add_9  ?_
                             refine s_X4_in (by omega) (by omega) (by omega) (fun r hr => ?_)
                             refine b_X4_add_17 (by first | omega | assumption) (fun d_17 => ?_) (fun d_17 => ?_)
                             · first
                               | exact absurd d_17 (by omega)
                               | (refine b_X4_add_23 (by first | omega | assumption) (by first | omega | assumption) (by first | omega | assumption) (by first | omega | assumption) (by first | omega | assumption) (fun d_23 => ?_) (fun d_23 => ?_)
                                  · first
                                    | exact absurd d_23 (by omega)
                                    | (refine b_X4_add_41 (by first | omega | assumption) ?_
                                       refine s_X4_many hM ?_
                                       refine b_X4_add_46 (by first | omega | assumption) (fun d_46 => ?_) (fun d_46 => ?_)
                                       · first
                                         | exact absurd d_46 (by omega)
                                         | (refine b_X4_add_54 (by first | omega | assumption) ?_
                                            refine False.elim (by omega)
                                            refine b_X4_add_58 (by first | omega | assumption) ?_
                                            refine s_X4_less hM (by omega) ?_
                                            refine b_X4_add_66 (by first | omega | assumption) ?_
                                            exfalso
                                            omega
                                            refine b_X4_add_72  ?_
                                            exfalso; omega)
                                       · first
                                         | exact absurd d_46 (by omega)
                                         | (refine b_X4_add_51  ?_
                                            exact JE (by first | rfl | omega) hI))
                                  · first
                                    | exact absurd d_23 (by omega)
                                    | (refine b_X4_add_38  ?_
                                       exact JE (by first | rfl | omega) hI))
                             · first
                               | exact absurd d_17 (by omega)
                               | (refine b_X4_add_20  ?_
                                  exact JE (by first | rfl | omega) hI))))
              · first
                | exact absurd c_26 (by omega)
                | (refine b_X3_add_35  ?_
                   refine JQ.mk (by omega) ?_
                   refine b_X4_add_0  ?_
                   refine s_X4_in (by omega) (by omega) (by omega) (fun r hr => ?_)
                   refine b_X4_add_6 (by first | omega | assumption) (fun d_6 => ?_) (fun d_6 => ?_)
                   · first
                     | exact absurd d_6 (by omega)
                     | (refine b_X4_add_20  ?_
                        exact JE (by first | rfl | omega) hI)
                   · first
                     | exact absurd d_6 (by omega)
                     | (refine b_X4_add_9  ?_
                        refine s_X4_in (by omega) (by omega) (by omega) (fun r hr => ?_)
                        refine b_X4_add_17 (by first | omega | assumption) (fun d_17 => ?_) (fun d_17 => ?_)
                        · first
                          | exact absurd d_17 (by omega)
                          | (refine b_X4_add_23 (by first | omega | assumption) (by first | omega | assumption) (by first | omega | assumption) (by first | omega | assumption) (by first | omega | assumption) (fun d_23 => ?_) (fun d_23 => ?_)
                             · first
                               | exact absurd d_23 (by omega)
                               | (refine b_X4_add_41 (by first | omega | assumption) ?_
                                  refine s_X4_many hM ?_
                                  refine b_X4_add_46 (by first | omega | assumption) (fun d_46 => ?_) (fun d_46 => ?_)
                                  · first
                                    | exact absurd d_46 (by omega)
                                    | (refine b_X4_add_54 (by first | omega | assumption) ?_
                                       refine False.elim (by omega)
                                       refine b_X4_add_58 (by first | omega | assumption) ?_
                                       refine s_X4_less hM (by omega) ?_
                                       refine b_X4_add_66 (by first | omega | assumption) ?_
                                       exfalso
                                       omega
                                       refine b_X4_add_72  ?_
                                       exfalso; omega)
                                  · first
                                    | exact absurd d_46 (by omega)
                                    | (refine b_X4_add_51  ?_
                                       exact JE (by first | rfl | omega) hI))
                             · first
                               | exact absurd d_23 (by omega)
                               | (refine b_X4_add_38  ?_
                                  exact JE (by first | rfl | omega) hI))
                        · first
                          | exact absurd d_17 (by omega)
                          | (refine b_X4_add_20  ?_
                             exact JE (by first | rfl | omega) hI))))
         · first
           | exact absurd c_15 (by omega)
           | (refine b_X3_add_18  ?_
              refine JQ.mk (by omega) ?_
              refine b_X4_add_0  ?_
              refine s_X4_in (by omega) (by omega) (by omega) (fun r hr => ?_)
              refine b_X4_add_6 (by first | omega | assumption) (fun d_6 => ?_) (fun d_6 => ?_)
              · first
                | exact absurd d_6 (by omega)
                | (refine b_X4_add_20  ?_
                   exact JE (by first | rfl | omega) hI)
              · first
                | exact absurd d_6 (by omega)
                | (refine b_X4_add_9  ?_
                   refine s_X4_in (by omega) (by omega) (by omega) (fun r hr => ?_)
                   refine b_X4_add_17 (by first | omega | assumption) (fun d_17 => ?_) (fun d_17 => ?_)
                   · first
                     | exact absurd d_17 (by omega)
                     | (refine b_X4_add_23 (by first | omega | assumption) (by first | omega | assumption) (by first | omega | assumption) (by first | omega | assumption) (by first | omega | assumption) (fun d_23 => ?_) (fun d_23 => ?_)
                        · first
                          | exact absurd d_23 (by omega)
                          | (refine b_X4_add_41 (by first | omega | assumption) ?_
                             refine s_X4_many hM ?_
                             refine b_X4_add_46 (by first | omega | assumption) (fun d_46 => ?_) (fun d_46 => ?_)
                             · first
                               | exact absurd d_46 (by omega)
                               | (refine b_X4_add_54 (by first | omega | assumption) ?_
                                  refine False.elim (by omega)
                                  refine b_X4_add_58 (by first | omega | assumption) ?_
                                  refine s_X4_less hM (by omega) ?_
                                  refine b_X4_add_66 (by first | omega | assumption) ?_
                                  exfalso
                                  omega
                                  refine b_X4_add_72  ?_
                                  exfalso; omega)
                             · first
                               | exact absurd d_46 (by omega)
                               | (refine b_X4_add_51  ?_
                                  exact JE (by first | rfl | omega) hI))
                        · first
                          | exact absurd d_23 (by omega)
                          | (refine b_X4_add_38  ?_
                             exact JE (by first | rfl | omega) hI))
                   · first
                     | exact absurd d_17 (by omega)
                     | (refine b_X4_add_20  ?_
                        exact JE (by first | rfl | omega) hI))))

theorem j_drop {w : rW} {q x : Int} (hI : Inv w) (hqr : R32 q) (hxr : R32 x) : WP M_X3_drop 0 [vr 0, vi q, vi x, vu] [] w (JQ M_X4_drop [vr 9, vi q, vi x, vu, vu]) := by
  have ho0 : oc 0 = 3 := rfl
  have ho9 : oc 9 = 4 := rfl
  by_cases hq : q = 0 ∨ q = 1
  · skip
    obtain ⟨a, n, b, hra, hR, hM, hV, hE⟩ := hI.row hq
    obtain ⟨h, hb0, hb1, hb2⟩ := id hR
    obtain ⟨ha13, ho, ha1, h0, h1, hn0, hn4, hv⟩ := id h
    have hn : 0 ≤ n ∧ n ≤ 40 := ⟨hn0, hn4⟩
    have hb : 1 ≤ b ∧ b ≤ 4096 := ⟨by omega, hb2⟩
    have hwb := wd_bd hn.1 hb.2
    have hpw := p2_w hn.1 hb.2
    have hub := ub_bd hn hb
    have hzb := zf_bd hn.1 hb.1 hb.2
    have hsz := szf_bd hn hb
    have hun := unl_bd (f := w (a + 1)) hn0
    have hu9 : w 9 9 = 15 := hI.1.2.2.2.2.2.2.2.2.2.1
    have hu11 : w 9 11 = 16 := hI.1.2.2.2.2.2.2.2.2.2.2.1
    have ha0 : al (w 9 0) = 84 := by rw [hM.2.1]; rfl
    have hbm : w (w 9 0) (42 * q + 1) = b := by rw [hM.2.1]; exact hM.2.2.2.1
    obtain ⟨a0, a1, o, s, t, RS, HS, TS, hC, hMV, hVS⟩ := hI.to
    have hC4 := hC.2.1
    have hC5 := hC.2.2.1
    have hs4 : 0 ≤ s ∧ s ≤ 4 := ⟨hMV.2.2.1.2.1, hMV.2.2.1.2.2.1⟩
    have hqa : (q = 0 ∧ a = a0) ∨ (q = 1 ∧ a = a1) := by omega
    have hRn : RS q 0 = n := ((hMV.2.1 q hq).k0).symm.trans hM.2.2.1
    have hRb : RS q 1 = b := (hMV.2.1 q hq).2.1.symm.trans hM.2.2.2.1
    have hVq := hVS.1 q hq
    refine b_X3_drop_0  ?_
    refine s_X3_isRow (by omega) (fun r hr => ?_)
    refine b_X3_drop_4 (by first | omega | assumption) (fun c_4 => ?_) (fun c_4 => ?_)
    · first
      | exact absurd c_4 (by omega)
      | (refine b_X3_drop_11  ?_
         refine JQ.mk (by omega) ?_
         refine b_X4_drop_0  ?_
         refine s_X4_in (by omega) (by omega) (by omega) (fun r hr => ?_)
         refine b_X4_drop_6 (by first | omega | assumption) (fun d_6 => ?_) (fun d_6 => ?_)
         · first
           | exact absurd d_6 (by omega)
           | (refine b_X4_drop_13  ?_
              exact JE (by first | rfl | omega) hI)
         · first
           | exact absurd d_6 (by omega)
           | (refine b_X4_drop_9 (by first | omega | assumption) (fun d_9 => ?_) (fun d_9 => ?_)
              · first
                | exact absurd d_9 (by omega)
                | (refine b_X4_drop_16 (by first | omega | assumption) ?_
                   refine s_X4_many hM ?_
                   refine b_X4_drop_22 (by first | omega | assumption) (by first | omega | assumption) (fun d_22 => ?_) (fun d_22 => ?_)
                   · first
                     | exact absurd d_22 (by omega)
                     | (refine b_X4_drop_28 (by first | omega | assumption) ?_
                        refine False.elim (by omega)
                        refine b_X4_drop_32 (by first | omega | assumption) ?_
                        exfalso
                        omega
                        refine b_X4_drop_38 (by first | omega | assumption) (by first | omega | assumption) (by first | omega | assumption) ?_
                        exfalso; omega)
                   · first
                     | exact absurd d_22 (by omega)
                     | (refine b_X4_drop_25  ?_
                        exact JE (by first | rfl | omega) hI))
              · first
                | exact absurd d_9 (by omega)
                | (refine b_X4_drop_13  ?_
                   exact JE (by first | rfl | omega) hI)))
    · first
      | exact absurd c_4 (by omega)
      | (refine b_X3_drop_7 (by first | omega | assumption) (fun c_7 => ?_) (fun c_7 => ?_)
         · first
           | exact absurd c_7 (by omega)
           | (refine b_X3_drop_14 (by first | omega | assumption) ?_
              refine s_X3_rowAt hra ?_
              refine b_X3_drop_19 (by first | omega | assumption) (by first | omega | assumption) (by first | omega | assumption) (fun c_19 => ?_) (fun c_19 => ?_)
              · first
                | exact absurd c_19 (by omega)
                | (refine b_X3_drop_31 (by first | omega | assumption) ?_
                   refine s_X3_remember hC hVS (fun w1 o1 hF1 hC1 => ?_)
                   have hCq := hC1.crw hqa
                   have e11 : w1 a 1 = n := hCq.1.1.2.2.2.2.1.trans hRn
                   refine b_X3_drop_35 (by first | omega | assumption) ?_
                   refine s_X1_remove (hRn ▸ hCq.1.1 : R0 w1 a n) (by omega) (fun w2 hg1 hg2 hg3 hg4 hg5 => ?_)
                   refine b_X3_drop_40  ?_
                   have hFC : FC w w2 := hF1.tr (fun r k z => hg1 r k (by omega) (by omega))
                   have hM1 := hM.fc hFC
                   have hMV1 := hMV.mv hFC
                   have hVi : VK (delH (RS q) x) := delH_v hVq (by omega)
                   have hC2 := hC1.row (w1 := w2) (H := delH (RS q) x) hqa hg1 (CRw.of (by
                     obtain ⟨y1, y2, y3, y4⟩ := hCq.1.1.ra
                     exact ⟨y1, y2, y3, by rw [hg2 0 (by decide)]; exact y4⟩) hVi (by rw [delH_0, hg3, hRn]) (by rw [hg2 2 (by decide), delH_lo (by decide) (by omega)]; exact hCq.1.2.1) (fun i z1 z2 => by
                     rw [delH_0, hRn] at z2
                     by_cases z : i < x
                     · rw [hg4 i z1 z, delH_lo (by omega) (by omega)]; exact hCq.2 i z1 (by omega)
                     · rw [hg5 i (by omega) z2, delH_hi (by omega) (by omega), show 2 + i + 1 = 2 + (i + 1) by omega]; exact hCq.2 (i + 1) (by omega) (by omega)))
                   have hrx : w1 (a + 1) x = RS q (2 + x) := hCq.2 x (by omega) (by omega)
                   have hmx : mf w q x = RS q (2 + x) := by
                     have y := (hMV.2.1 q hq).2.2 x (by omega) (by omega)
                     dsimp only at y
                     rw [← Int.add_assoc] at y
                     exact y
                   have hvx := hV.1 x (by omega) (by omega)
                   rw [hrx, ← hmx]
                   refine JQ.mk (by omega) ?_
                   refine b_X4_drop_0  ?_
                   refine s_X4_in (by omega) (by omega) (by omega) (fun r hr => ?_)
                   refine b_X4_drop_6 (by first | omega | assumption) (fun d_6 => ?_) (fun d_6 => ?_)
                   · first
                     | exact absurd d_6 (by omega)
                     | (refine b_X4_drop_13  ?_
                        exfalso
                        omega)
                   · first
                     | exact absurd d_6 (by omega)
                     | (refine b_X4_drop_9 (by first | omega | assumption) (fun d_9 => ?_) (fun d_9 => ?_)
                        · first
                          | exact absurd d_9 (by omega)
                          | (refine b_X4_drop_16 (by first | omega | assumption) ?_
                             refine s_X4_many hM1 ?_
                             refine b_X4_drop_22 (by first | omega | assumption) (by first | omega | assumption) (fun d_22 => ?_) (fun d_22 => ?_)
                             · first
                               | exact absurd d_22 (by omega)
                               | (refine b_X4_drop_28 (by first | omega | assumption) ?_
                                  refine s_X4_keeps hMV1.1 (fun wk hk1 hk2 => ?_)
                                  have hMk := hM1.as (hk1 9 0 (by decide)) (funext fun k => hk1 10 k (by decide))
                                  have hk9 : wk 9 0 = 10 := hMk.2.1
                                  have ak : al (wk 9 0) = 84 := by rw [hk9]; rfl
                                  refine b_X4_drop_32 (by first | omega | assumption) ?_
                                  refine s_X4_number hMk (by omega) (by omega) ?_
                                  rw [show mf wk q = mf w q from funext fun i => (hk1 10 _ (by decide)).trans (hFC 10 _ (by decide))]
                                  refine b_X4_drop_38 (by first | omega | assumption) (by first | omega | assumption) (by first | omega | assumption) ?_
                                  rw [hk9, hMk.2.2.1]
                                  refine l_X4_drop (n := n - 1) (wk := wset wk 10 (42 * q) (n - 1)) hq ((ws_nr (by decide)).trans hk9) (by omega) (ws_eq _ _ _ _) (by omega) (fun wb hb1 hb2 hb3 hb4 jj => ?_) _ _ x (Nat.lt_succ_self _) (Int.le_refl _) (by omega) (fun _ _ _ => rfl) (fun _ _ => rfl) (fun _ _ _ => rfl) (fun i z1 z2 => by omega) (fun _ _ _ => rfl)
                                  refine b_X4_drop_94 ho9 ?_
                                  refine s_X4_act (RS1 := upR RS q (delH (RS q) x)) hMV1 hVS (by omega) (by omega) hk1 hk2 (fun r k z1 z2 z3 => by rw [hb1 r k z1, ws_nr z1]) (rowsUp hq hMV1.2.1 (fun p hp => (hVS.1 p hp).2.1) (fun k z => ?_) ?_) (fun w3 hFM hM2 => ?_)
                                  · rw [hb2 k (by omega), ws_nk (by omega)]; exact hk1 10 k (by decide)
                                  · refine ⟨?_, ?_, fun i z1 z2 => ?_⟩
                                    · dsimp only
                                      rw [Int.add_zero, hb2 _ (by omega), ws_eq, delH_0, hRn]
                                    · dsimp only
                                      rw [hb2 _ (by omega), ws_nk (by omega), hk1 10 _ (by decide), delH_lo (by decide) (by omega)]
                                      exact (hMV1.2.1 q hq).2.1
                                    · rw [delH_0, hRn] at z2
                                      have hold := fun p y1 y2 => (hMV1.2.1 q hq).2.2 p y1 (by rw [hRn]; exact y2)
                                      dsimp only at hold ⊢
                                      by_cases z : i < x
                                      · rw [← Int.add_assoc, hb3 i z1 z, ws_nk (by omega), hk1 10 _ (by decide), delH_lo (by omega) (by omega), Int.add_assoc]; exact hold i z1 (by omega)
                                      · rw [← Int.add_assoc, hb4 i (by omega) z2, ws_nk (by omega), hk1 10 _ (by decide), delH_hi (by omega) (by omega), Int.add_assoc, show 2 + i + 1 = 2 + (i + 1) by omega]; exact hold (i + 1) (by omega) (by omega)
                                  · refine b_X4_drop_99 ?_
                                    exact JE rfl (Inv.mk (hC2.mv hFM) hM2 (hVS.push (hVS.up hVi) hs4)))
                             · first
                               | exact absurd d_22 (by omega)
                               | (refine b_X4_drop_25  ?_
                                  exfalso
                                  omega))
                        · first
                          | exact absurd d_9 (by omega)
                          | (refine b_X4_drop_13  ?_
                             exfalso
                             omega)))
              · first
                | exact absurd c_19 (by omega)
                | (refine b_X3_drop_28  ?_
                   refine JQ.mk (by omega) ?_
                   refine b_X4_drop_0  ?_
                   refine s_X4_in (by omega) (by omega) (by omega) (fun r hr => ?_)
                   refine b_X4_drop_6 (by first | omega | assumption) (fun d_6 => ?_) (fun d_6 => ?_)
                   · first
                     | exact absurd d_6 (by omega)
                     | (refine b_X4_drop_13  ?_
                        exact JE (by first | rfl | omega) hI)
                   · first
                     | exact absurd d_6 (by omega)
                     | (refine b_X4_drop_9 (by first | omega | assumption) (fun d_9 => ?_) (fun d_9 => ?_)
                        · first
                          | exact absurd d_9 (by omega)
                          | (refine b_X4_drop_16 (by first | omega | assumption) ?_
                             refine s_X4_many hM ?_
                             refine b_X4_drop_22 (by first | omega | assumption) (by first | omega | assumption) (fun d_22 => ?_) (fun d_22 => ?_)
                             · first
                               | exact absurd d_22 (by omega)
                               | (refine b_X4_drop_28 (by first | omega | assumption) ?_
                                  refine False.elim (by omega)
                                  refine b_X4_drop_32 (by first | omega | assumption) ?_
                                  exfalso
                                  omega
                                  refine b_X4_drop_38 (by first | omega | assumption) (by first | omega | assumption) (by first | omega | assumption) ?_
                                  exfalso; omega)
                             · first
                               | exact absurd d_22 (by omega)
                               | (refine b_X4_drop_25  ?_
                                  exact JE (by first | rfl | omega) hI))
                        · first
                          | exact absurd d_9 (by omega)
                          | (refine b_X4_drop_13  ?_
                             exact JE (by first | rfl | omega) hI))))
         · first
           | exact absurd c_7 (by omega)
           | (refine b_X3_drop_11  ?_
              refine JQ.mk (by omega) ?_
              refine b_X4_drop_0  ?_
              refine s_X4_in (by omega) (by omega) (by omega) (fun r hr => ?_)
              refine b_X4_drop_6 (by first | omega | assumption) (fun d_6 => ?_) (fun d_6 => ?_)
              · first
                | exact absurd d_6 (by omega)
                | (refine b_X4_drop_13  ?_
                   exact JE (by first | rfl | omega) hI)
              · first
                | exact absurd d_6 (by omega)
                | (refine b_X4_drop_9 (by first | omega | assumption) (fun d_9 => ?_) (fun d_9 => ?_)
                   · first
                     | exact absurd d_9 (by omega)
                     | (refine b_X4_drop_16 (by first | omega | assumption) ?_
                        refine s_X4_many hM ?_
                        refine b_X4_drop_22 (by first | omega | assumption) (by first | omega | assumption) (fun d_22 => ?_) (fun d_22 => ?_)
                        · first
                          | exact absurd d_22 (by omega)
                          | (refine b_X4_drop_28 (by first | omega | assumption) ?_
                             refine False.elim (by omega)
                             refine b_X4_drop_32 (by first | omega | assumption) ?_
                             exfalso
                             omega
                             refine b_X4_drop_38 (by first | omega | assumption) (by first | omega | assumption) (by first | omega | assumption) ?_
                             exfalso; omega)
                        · first
                          | exact absurd d_22 (by omega)
                          | (refine b_X4_drop_25  ?_
                             exact JE (by first | rfl | omega) hI))
                   · first
                     | exact absurd d_9 (by omega)
                     | (refine b_X4_drop_13  ?_
                        exact JE (by first | rfl | omega) hI))))
  · have hq2 : q < 0 ∨ 1 < q := by omega
    refine b_X3_drop_0  ?_
    refine s_X3_isRow (by omega) (fun r hr => ?_)
    refine b_X3_drop_4 (by first | omega | assumption) (fun c_4 => ?_) (fun c_4 => ?_)
    · first
      | exact absurd c_4 (by omega)
      | (refine b_X3_drop_11  ?_
         refine JQ.mk (by omega) ?_
         refine b_X4_drop_0  ?_
         refine s_X4_in (by omega) (by omega) (by omega) (fun r hr => ?_)
         refine b_X4_drop_6 (by first | omega | assumption) (fun d_6 => ?_) (fun d_6 => ?_)
         · first
           | exact absurd d_6 (by omega)
           | (refine b_X4_drop_13  ?_
              exact JE (by first | rfl | omega) hI)
         · first
           | exact absurd d_6 (by omega)
           | (refine b_X4_drop_9 (by first | omega | assumption) (fun d_9 => ?_) (fun d_9 => ?_)
              · first
                | exact absurd d_9 (by omega)
                | (refine b_X4_drop_16 (by first | omega | assumption) ?_
                   refine s_X4_many hM ?_
                   refine b_X4_drop_22 (by first | omega | assumption) (by first | omega | assumption) (fun d_22 => ?_) (fun d_22 => ?_)
                   · first
                     | exact absurd d_22 (by omega)
                     | (refine b_X4_drop_28 (by first | omega | assumption) ?_
                        refine False.elim (by omega)
                        refine b_X4_drop_32 (by first | omega | assumption) ?_
                        exfalso
                        omega
                        refine b_X4_drop_38 (by first | omega | assumption) (by first | omega | assumption) (by first | omega | assumption) ?_
                        exfalso; omega)
                   · first
                     | exact absurd d_22 (by omega)
                     | (refine b_X4_drop_25  ?_
                        exact JE (by first | rfl | omega) hI))
              · first
                | exact absurd d_9 (by omega)
                | (refine b_X4_drop_13  ?_
                   exact JE (by first | rfl | omega) hI)))
    · first
      | exact absurd c_4 (by omega)
      | (refine b_X3_drop_7 (by first | omega | assumption) (fun c_7 => ?_) (fun c_7 => ?_)
         · first
           | exact absurd c_7 (by omega)
           | (refine b_X3_drop_14 (by first | omega | assumption) ?_
              refine s_X3_rowAt hra ?_
              refine b_X3_drop_19 (by first | omega | assumption) (by first | omega | assumption) (by first | omega | assumption) (fun c_19 => ?_) (fun c_19 => ?_)
              · first
                | exact absurd c_19 (by omega)
                | (refine b_X3_drop_31 (by first | omega | assumption) ?_
                   refine s_X3_remember hC hVS (fun w1 o1 hF1 hC1 => ?_)
                   have hCq := hC1.crw hqa
                   have e11 : w1 a 1 = n := hCq.1.1.2.2.2.2.1.trans hRn
                   refine b_X3_drop_35 (by first | omega | assumption) ?_
                   refine s_X1_remove (hRn ▸ hCq.1.1 : R0 w1 a n) (by omega) (fun w2 hg1 hg2 hg3 hg4 hg5 => ?_)
                   refine b_X3_drop_40  ?_
                   exfalso
                   omega)
              · first
                | exact absurd c_19 (by omega)
                | (refine b_X3_drop_28  ?_
                   refine JQ.mk (by omega) ?_
                   refine b_X4_drop_0  ?_
                   refine s_X4_in (by omega) (by omega) (by omega) (fun r hr => ?_)
                   refine b_X4_drop_6 (by first | omega | assumption) (fun d_6 => ?_) (fun d_6 => ?_)
                   · first
                     | exact absurd d_6 (by omega)
                     | (refine b_X4_drop_13  ?_
                        exact JE (by first | rfl | omega) hI)
                   · first
                     | exact absurd d_6 (by omega)
                     | (refine b_X4_drop_9 (by first | omega | assumption) (fun d_9 => ?_) (fun d_9 => ?_)
                        · first
                          | exact absurd d_9 (by omega)
                          | (refine b_X4_drop_16 (by first | omega | assumption) ?_
                             refine s_X4_many hM ?_
                             refine b_X4_drop_22 (by first | omega | assumption) (by first | omega | assumption) (fun d_22 => ?_) (fun d_22 => ?_)
                             · first
                               | exact absurd d_22 (by omega)
                               | (refine b_X4_drop_28 (by first | omega | assumption) ?_
                                  refine False.elim (by omega)
                                  refine b_X4_drop_32 (by first | omega | assumption) ?_
                                  exfalso
                                  omega
                                  refine b_X4_drop_38 (by first | omega | assumption) (by first | omega | assumption) (by first | omega | assumption) ?_
                                  exfalso; omega)
                             · first
                               | exact absurd d_22 (by omega)
                               | (refine b_X4_drop_25  ?_
                                  exact JE (by first | rfl | omega) hI))
                        · first
                          | exact absurd d_9 (by omega)
                          | (refine b_X4_drop_13  ?_
                             exact JE (by first | rfl | omega) hI))))
         · first
           | exact absurd c_7 (by omega)
           | (refine b_X3_drop_11  ?_
              refine JQ.mk (by omega) ?_
              refine b_X4_drop_0  ?_
              refine s_X4_in (by omega) (by omega) (by omega) (fun r hr => ?_)
              refine b_X4_drop_6 (by first | omega | assumption) (fun d_6 => ?_) (fun d_6 => ?_)
              · first
                | exact absurd d_6 (by omega)
                | (refine b_X4_drop_13  ?_
                   exact JE (by first | rfl | omega) hI)
              · first
                | exact absurd d_6 (by omega)
                | (refine b_X4_drop_9 (by first | omega | assumption) (fun d_9 => ?_) (fun d_9 => ?_)
                   · first
                     | exact absurd d_9 (by omega)
                     | (refine b_X4_drop_16 (by first | omega | assumption) ?_
                        refine s_X4_many hM ?_
                        refine b_X4_drop_22 (by first | omega | assumption) (by first | omega | assumption) (fun d_22 => ?_) (fun d_22 => ?_)
                        · first
                          | exact absurd d_22 (by omega)
                          | (refine b_X4_drop_28 (by first | omega | assumption) ?_
                             refine False.elim (by omega)
                             refine b_X4_drop_32 (by first | omega | assumption) ?_
                             exfalso
                             omega
                             refine b_X4_drop_38 (by first | omega | assumption) (by first | omega | assumption) (by first | omega | assumption) ?_
                             exfalso; omega)
                        · first
                          | exact absurd d_22 (by omega)
                          | (refine b_X4_drop_25  ?_
                             exact JE (by first | rfl | omega) hI))
                   · first
                     | exact absurd d_9 (by omega)
                     | (refine b_X4_drop_13  ?_
                        exact JE (by first | rfl | omega) hI))))

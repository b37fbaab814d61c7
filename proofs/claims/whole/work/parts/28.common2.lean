/-- the least difference of the pairs gone through -/
def dst (f g : Int → Int) (m a c r : Int) : Prop := (r = -1000004 ∧ ∀ i k, ¬ prd m a c i k) ∨ (0 ≤ r ∧ r ≤ 4095 ∧ lows f g m a c r ∧ att f g m a c r)
theorem dst_bd {f g : Int → Int} {m a c r : Int} (h : dst f g m a c r) : r = -1000004 ∨ (0 ≤ r ∧ r ≤ 4095) := by
  rcases h with ⟨e, -⟩ | ⟨h1, h2, -⟩
  · exact Or.inl e
  · exact Or.inr ⟨h1, h2⟩
theorem dst_0 {f g : Int → Int} {m : Int} : dst f g m 0 0 (-1000004) := Or.inl ⟨rfl, fun i k z => by obtain ⟨z1, z2, z3, z4⟩ := z; omega⟩
theorem dst_r {f g : Int → Int} {m a c r : Int} (h : dst f g m a c r) (hc : m ≤ c) : dst f g m (a + 1) 0 r := by
  rcases h with ⟨e, h⟩ | ⟨h1, h2, h3, h4⟩
  · exact Or.inl ⟨e, fun i k z => by obtain ⟨z1, z2, z3, z4⟩ := z; exact h i k ⟨z1, z2, z3, by omega⟩⟩
  · exact Or.inr ⟨h1, h2, lows_r h3 hc, att_r h4⟩
theorem dst_n {f g : Int → Int} {m a c r d : Int} (h : dst f g m a c r) (ha : 0 ≤ a) (h0 : 0 ≤ c) (hc : c < m) (e : dd f g a c = d) (hd : 0 ≤ d ∧ d ≤ 4095) (hr : r < 0 ∨ d ≤ r) : dst f g m a (c + 1) d := by
  refine Or.inr ⟨hd.1, hd.2, ?_, att_n ha h0 hc e⟩
  rcases h with ⟨-, h⟩ | ⟨h1, h2, h3, h4⟩
  · rintro i k ⟨k1, k2, k3, k4⟩
    by_cases z : i = a ∧ k = c
    · rw [z.1, z.2]; omega
    · exact absurd ⟨k1, k2, k3, by omega⟩ (h i k)
  · exact lows_s h3 (by omega) (by omega)
theorem dst_o {f g : Int → Int} {m a c r d : Int} (h : dst f g m a c r) (e : dd f g a c = d) (hr : 0 ≤ r ∧ r ≤ d) : dst f g m a (c + 1) r := by
  rcases h with ⟨h, -⟩ | ⟨h1, h2, h3, h4⟩
  · omega
  · exact Or.inr ⟨h1, h2, lows_s h3 (by omega) (by omega), att_s h4⟩
theorem dst_e {f g : Int → Int} {n m r : Int} (h : dst f g m n 0 r) : ldf f g n m r := by
  rcases h with ⟨e, h⟩ | ⟨h1, h2, h3, i, k, ⟨k1, k2, k3, k4⟩, k5⟩
  · refine Or.inl ⟨e, ?_⟩
    by_cases z : n < 1 ∨ m < 1
    · exact z
    · exact absurd ⟨Int.le_refl 0, Int.le_refl 0, by omega, by omega⟩ (h 0 0)
  · exact Or.inr ⟨by omega, by omega, h3, i, k, ⟨k1, k2, k3, k4⟩, k5⟩

theorem li_X4_difference {Q : List rV → rW → Prop} {w : rW} {n m b0 b1 : Int} (h0 : MR w 0 n b0) (h1 : MR w 1 m b1) {i : Int} (hi : 0 ≤ i ∧ i < n) (hQ : ∀ r kk, m ≤ kk → dst (mf w 0) (mf w 1) m i kk r → WP M_X4_difference 78 [vr 9, vi r, vi i, vi kk, vu] [] w Q) : ∀ (k : Nat) (j r : Int), (m - j).toNat < k → 0 ≤ j → j ≤ m → dst (mf w 0) (mf w 1) m i j r → WP M_X4_difference 16 [vr 9, vi r, vi i, vi j, vu] [] w Q := by
  intro k
  induction k with
  | zero => intro j r hk; omega
  | succ k ih =>
    intro j r hk hj0 hjm hd
    have hn0 := h0.2.2.2.2.1
    have hn4 := h0.2.2.2.2.2.1
    have hm0 := h1.2.2.2.2.1
    have hm4 := h1.2.2.2.2.2.1
    have hva := h0.2.2.2.2.2.2.2.2
    have hvc := h1.2.2.2.2.2.2.2.2
    have ho : oc 9 = 4 := rfl
    have hvi := hva i hi.1 hi.2
    have hvj := fun z => hvc j hj0 z
    have hb := dst_bd hd
    have hdp : 0 ≤ mf w 0 i - mf w 1 j → dd (mf w 0) (mf w 1) i j = mf w 0 i - mf w 1 j := fun z => if_pos z
    have hdn : ¬ 0 ≤ mf w 0 i - mf w 1 j → dd (mf w 0) (mf w 1) i j = -(mf w 0 i - mf w 1 j) := fun z => if_neg z
    refine b_X4_difference_16 (by first | omega | assumption) ?_
    refine s_X4_many h1 ?_
    refine b_X4_difference_22 (by first | omega | assumption) (by first | omega | assumption) (fun c_22 => ?_) (fun c_22 => ?_)
    · exact hQ r j (by omega) hd
    · have hvj := hvj (by omega)
      refine b_X4_difference_25 (by first | omega | assumption) ?_
      refine s_X4_number h0 (by omega) (by omega) ?_
      refine b_X4_difference_31 (by first | omega | assumption) ?_
      refine s_X4_number h1 (by omega) (by omega) ?_
      refine b_X4_difference_37 (by first | omega | assumption) (fun c_37 => ?_) (fun c_37 => ?_)
      · refine b_X4_difference_51  ?_
        refine b_X4_difference_53 (by first | omega | assumption) (fun c_53 => ?_) (fun c_53 => ?_)
        · refine b_X4_difference_65  ?_
          refine b_X4_difference_71  ?_
          refine ih _ _ (by omega) (by omega) (by omega) ?_
          first
          | exact dst_n hd hi.1 hj0 (by omega) (by omega) (by omega) (by omega)
          | exact dst_o hd rfl (by omega)
        · refine b_X4_difference_59 (by first | omega | assumption) (by first | omega | assumption) (fun c_59 => ?_) (fun c_59 => ?_)
          · refine b_X4_difference_70  ?_
            refine b_X4_difference_71  ?_
            refine ih _ _ (by omega) (by omega) (by omega) ?_
            first
            | exact dst_n hd hi.1 hj0 (by omega) (by omega) (by omega) (by omega)
            | exact dst_o hd rfl (by omega)
          · refine b_X4_difference_65  ?_
            refine b_X4_difference_71  ?_
            refine ih _ _ (by omega) (by omega) (by omega) ?_
            first
            | exact dst_n hd hi.1 hj0 (by omega) (by omega) (by omega) (by omega)
            | exact dst_o hd rfl (by omega)
      · refine b_X4_difference_45  ?_
        refine b_X4_difference_53 (by first | omega | assumption) (fun c_53 => ?_) (fun c_53 => ?_)
        · refine b_X4_difference_65  ?_
          refine b_X4_difference_71  ?_
          refine ih _ _ (by omega) (by omega) (by omega) ?_
          first
          | exact dst_n hd hi.1 hj0 (by omega) (by omega) (by omega) (by omega)
          | exact dst_o hd rfl (by omega)
        · refine b_X4_difference_59 (by first | omega | assumption) (by first | omega | assumption) (fun c_59 => ?_) (fun c_59 => ?_)
          · refine b_X4_difference_70  ?_
            refine b_X4_difference_71  ?_
            refine ih _ _ (by omega) (by omega) (by omega) ?_
            first
            | exact dst_n hd hi.1 hj0 (by omega) (by omega) (by omega) (by omega)
            | exact dst_o hd rfl (by omega)
          · refine b_X4_difference_65  ?_
            refine b_X4_difference_71  ?_
            refine ih _ _ (by omega) (by omega) (by omega) ?_
            first
            | exact dst_n hd hi.1 hj0 (by omega) (by omega) (by omega) (by omega)
            | exact dst_o hd rfl (by omega)

theorem lo_X4_difference {Q : List rV → rW → Prop} {w : rW} {n m b0 b1 : Int} (h0 : MR w 0 n b0) (h1 : MR w 1 m b1) (hQ : ∀ r, ldf (mf w 0) (mf w 1) n m r → Q [vi r] w) : ∀ (k : Nat) (i r : Int), (n - i).toNat < k → 0 ≤ i → i ≤ n → dst (mf w 0) (mf w 1) m i 0 r → WP M_X4_difference 5 [vr 9, vi r, vi i, vu, vu] [] w Q := by
  intro k
  induction k with
  | zero => intro i r hk; omega
  | succ k ih =>
    intro i r hk hi0 hin hd
    have hn0 := h0.2.2.2.2.1
    have hn4 := h0.2.2.2.2.2.1
    have hm0 := h1.2.2.2.2.1
    have hm4 := h1.2.2.2.2.2.1
    have hva := h0.2.2.2.2.2.2.2.2
    have hvc := h1.2.2.2.2.2.2.2.2
    have ho : oc 9 = 4 := rfl
    refine b_X4_difference_5 ho ?_
    refine s_X4_many h0 ?_
    refine b_X4_difference_11 (by omega) (by omega) (fun g => ?_) (fun g => ?_)
    · have ei : i = n := by omega
      rw [ei] at hd
      exact b_X4_difference_84 (hQ r (dst_e hd))
    · refine b_X4_difference_14 ?_
      refine li_X4_difference h0 h1 ⟨hi0, g⟩ (fun r2 kk z1 z2 => ?_) _ 0 r (Nat.lt_succ_self _) (Int.le_refl _) hm0 hd
      refine b_X4_difference_78 ?_
      exact ih _ _ (by omega) (by omega) (by omega) (dst_r z2 z1)
theorem s_X4_difference {Q : List rV → rW → Prop} {w : rW} {n m b0 b1 : Int} (h0 : MR w 0 n b0) (h1 : MR w 1 m b1) (hQ : ∀ r, ldf (mf w 0) (mf w 1) n m r → Q [vi r] w) : WP M_X4_difference 0 [vr 9, vu, vu, vu, vu] [] w Q := by
  refine b_X4_difference_0 ?_
  exact lo_X4_difference h0 h1 hQ _ 0 _ (Nat.lt_succ_self _) (Int.le_refl _) h0.2.2.2.2.1 dst_0
theorem lcm2_y {f g : Int → Int} {n m k : Int} (h0 : k < n) (h : 0 < tm g m (f k)) : lcm2 f g n m k (f k) := Or.inr ⟨k, ⟨Int.le_refl _, h0⟩, h, fun j z1 z2 => by omega, rfl⟩
theorem lcm2_n {f g : Int → Int} {n m k r : Int} (h : lcm2 f g n m (k + 1) r) (hn : ¬ 0 < tm g m (f k)) : lcm2 f g n m k r := by
  rcases h with ⟨e, h⟩ | ⟨i, hi, h2, h3, e⟩
  · refine Or.inl ⟨e, fun j z1 z2 => ?_⟩
    by_cases z : j = k
    · rw [z]; exact hn
    · exact h j (by omega) z2
  · refine Or.inr ⟨i, ⟨by have := hi.1; omega, hi.2⟩, h2, fun j z1 z2 => ?_, e⟩
    by_cases z : j = k
    · rw [z]; exact hn
    · exact h3 j (by omega) z2
def cmn (f g : Int → Int) (n m q r : Int) : Prop := (q = 0 → r = cu f g n m) ∧ (q = 1 → r = cr f g n m) ∧ (q = 2 → r = ca f g n m) ∧ (q = 3 → lcm2 f g n m 0 r) ∧ (q = 4 → ldf f g n m r) ∧ (q < 0 ∨ 4 < q → r = -1000001)
theorem ca_congr {f g f2 g2 : Int → Int} {n m : Int} (hm : 0 ≤ m) (h : Eqv n f f2) (h2 : Eqv m g g2) : ca f g n m = ca f2 g2 n m := by
  unfold ca
  refine ct_congr (fun i h0 h1 => ?_)
  have e1 := h i h0 (by omega)
  rw [tm_congr hm h2, e1]
  by_cases z : i = 0
  · simp [z]
  · rw [h (i - 1) (by omega) (by omega)]
theorem cmn_one {f g f2 g2 : Int → Int} {n m q r s : Int} (hn : 0 ≤ n) (hm : 0 ≤ m) (h : Eqv n f f2) (h2 : Eqv m g g2) (k : cmn f g n m q r) (l : cmn f2 g2 n m q s) : s = r := by
  obtain ⟨k0, k1, k2, k3, k4, k5⟩ := k
  obtain ⟨l0, l1, l2, l3, l4, l5⟩ := l
  by_cases z0 : q = 0
  · rw [k0 z0, l0 z0, cu_congr hm h h2]
  by_cases z1 : q = 1
  · rw [k1 z1, l1 z1, cr_congr hn hm h h2]
  by_cases z2 : q = 2
  · rw [k2 z2, l2 z2, ca_congr hm h h2]
  by_cases z3 : q = 3
  · exact lcm2_one (l3 z3) (lcm2_congr hm h h2 (k3 z3))
  by_cases z4 : q = 4
  · exact ldf_one (l4 z4) (ldf_congr h h2 (k4 z4))
  · rw [k5 (by omega), l5 (by omega)]
theorem sm_bd {p : Int → Int} : ∀ {k : Nat}, (∀ i : Int, 0 ≤ i → i < k → 0 ≤ p i ∧ p i ≤ 40) → 0 ≤ sm p k ∧ sm p k ≤ 40 * k
  | 0, _ => ⟨Int.le_refl _, Int.le_refl _⟩
  | k + 1, h => by
    have h1 := sm_bd (p := p) (k := k) (fun i z1 z2 => h i z1 (by omega))
    have h2 := h k (by omega) (by omega)
    unfold sm
    omega
theorem cr_bd {f g : Int → Int} {n m : Int} (hn : 0 ≤ n ∧ n ≤ 40) (hm : 0 ≤ m ∧ m ≤ 40) : 0 ≤ cr f g n m ∧ cr f g n m ≤ 1600 := by
  have h := sm_bd (p := crV f g n m) (k := n.toNat) (fun i z1 z2 => by
    have t1 := tm_nn (g := f) (x := f i) hn.1
    have t2 := tm_nn (g := g) (x := f i) hm.1
    unfold crV
    split <;> omega)
  unfold cr
  omega
theorem cu_bd {f g : Int → Int} {n m : Int} (hn : 0 ≤ n ∧ n ≤ 40) : 0 ≤ cu f g n m ∧ cu f g n m ≤ 40 := by
  have h := ct_bd (fun i => (i = 0 ∨ ¬ f i = f (i - 1)) ∧ 0 < tm g m (f i)) n.toNat
  unfold cu
  omega

theorem l_X4_common {Q : List rV → rW → Prop} {w : rW} {n m b0 b1 : Int} (h0 : MR w 0 n b0) (h1 : MR w 1 m b1) {q : Int} (hQ : ∀ r3 u, lcm2 (mf w 0) (mf w 1) n m 0 r3 → WP M_X4_common 185 [vr 9, vi q, vi (cu (mf w 0) (mf w 1) n m), vi (cr (mf w 0) (mf w 1) n m), vi (ca (mf w 0) (mf w 1) n m), vi r3, vi u, vu, vu, vu] [] w Q) : ∀ (k : Nat) (j x2 x3 x4 x5 : Int), (j + 1).toNat < k → -1 ≤ j → j < n → x2 = cu (mf w 0) (mf w 1) n m - cu (mf w 0) (mf w 1) (j + 1) m → x3 = cr (mf w 0) (mf w 1) n m - sm (crV (mf w 0) (mf w 1) n m) (j + 1).toNat → x4 = ca (mf w 0) (mf w 1) n m - ca (mf w 0) (mf w 1) (j + 1) m → lcm2 (mf w 0) (mf w 1) n m (j + 1) x5 → WP M_X4_common 32 [vr 9, vi q, vi x2, vi x3, vi x4, vi x5, vi j, vu, vu, vu] [] w Q := by
  intro k
  induction k with
  | zero => intro j x2 x3 x4 x5 hk; omega
  | succ k ih =>
    intro j x2 x3 x4 x5 hk hj0 hjn e2 e3 e4 e5
    have hn0 := h0.2.2.2.2.1
    have hn4 := h0.2.2.2.2.2.1
    have hm0 := h1.2.2.2.2.1
    have hm4 := h1.2.2.2.2.2.1
    have hva := h0.2.2.2.2.2.2.2.2
    have hvc := h1.2.2.2.2.2.2.2.2
    have ho : oc 9 = 4 := rfl
    have hvi := fun z => hva j z hjn
    have hvi2 := fun z => hva (j - 1) z (by omega)
    have s2 : 0 ≤ j → cu (mf w 0) (mf w 1) (j + 1) m = cu (mf w 0) (mf w 1) j m + if (j = 0 ∨ ¬ mf w 0 j = mf w 0 (j - 1)) ∧ 0 < tm (mf w 1) m (mf w 0 j) then 1 else 0 := fun z => by
      unfold cu
      exact ct_s z
    have s4 : 0 ≤ j → ca (mf w 0) (mf w 1) (j + 1) m = ca (mf w 0) (mf w 1) j m + if (j = 0 ∨ ¬ mf w 0 j = mf w 0 (j - 1)) ∧ ¬ 0 < tm (mf w 1) m (mf w 0 j) then 1 else 0 := fun z => by
      unfold ca
      exact ct_s z
    have s3 : 0 ≤ j → sm (crV (mf w 0) (mf w 1) n m) (j + 1).toNat = sm (crV (mf w 0) (mf w 1) n m) j.toNat + if j = 0 ∨ ¬ mf w 0 j = mf w 0 (j - 1) then min (tm (mf w 0) n (mf w 0 j)) (tm (mf w 1) m (mf w 0 j)) else 0 := fun z => sm_s z
    have t1 := tm_nn (g := mf w 0) (x := mf w 0 j) hn0
    have t2 := tm_nn (g := mf w 1) (x := mf w 0 j) hm0
    have d1 : tm (mf w 0) n (mf w 0 j) = cl (mf w 0) n (mf w 0 j + 1) - cl (mf w 0) n (mf w 0 j) := rfl
    have d2 : tm (mf w 1) m (mf w 0 j) = cl (mf w 1) m (mf w 0 j + 1) - cl (mf w 1) m (mf w 0 j) := rfl
    have dh := Hs_tm (g := mf w 1) (x := mf w 0 j) hm0
    unfold Hs at dh
    refine b_X4_common_32 (by first | omega | assumption) (fun d_32 => ?_) (fun d_32 => ?_)
    · first
      | exact absurd d_32 (by omega)
      | (have ej : j + 1 = 0 := by omega
         rw [ej] at e2 e3 e4 e5
         rw [e2, e3, e4]
         have y2 : cu (mf w 0) (mf w 1) 0 m = 0 := rfl
         have y3 : sm (crV (mf w 0) (mf w 1) n m) (0 : Int).toNat = 0 := rfl
         have y4 : ca (mf w 0) (mf w 1) 0 m = 0 := rfl
         rw [y2, y3, y4, Int.sub_zero, Int.sub_zero, Int.sub_zero]
         exact hQ _ _ e5)
    · first
      | exact absurd d_32 (by omega)
      | (have hvi := hvi (by omega)
         have s2 := s2 (by omega)
         have s3 := s3 (by omega)
         have s4 := s4 (by omega)
         refine b_X4_common_37 (by first | omega | assumption) ?_
         refine s_X4_number h0 (by omega) (by omega) ?_
         refine b_X4_common_44 (by first | omega | assumption) (fun d_44 => ?_) (fun d_44 => ?_)
         · first
           | exact absurd d_44 (by omega)
           | (refine b_X4_common_65  ?_
              refine b_X4_common_70 (by first | omega | assumption) ?_
              refine s_X4_has h1 (by omega) (fun r hr => ?_)
              have hr2 : (r = 1 ∧ 0 < tm (mf w 1) m (mf w 0 j)) ∨ (r = 0 ∧ ¬ 0 < tm (mf w 1) m (mf w 0 j)) := by rw [dh]; exact hr
              clear hr dh
              refine b_X4_common_79 (by first | omega | assumption) (fun d_79 => ?_) (fun d_79 => ?_)
              · first
                | exact absurd d_79 (by omega)
                | (refine b_X4_common_96  ?_
                   refine b_X4_common_97 (by first | omega | assumption) (fun d_97 => ?_) (fun d_97 => ?_)
                   · first
                     | exact absurd d_97 (by omega)
                     | (refine b_X4_common_115  ?_
                        refine b_X4_common_116 (by first | omega | assumption) (fun d_116 => ?_) (fun d_116 => ?_)
                        · first
                          | exact absurd d_116 (by omega)
                          | (refine b_X4_common_129 (by first | omega | assumption) ?_
                             refine s_X4_times h0 (by omega) ?_
                             refine b_X4_common_136 (by first | omega | assumption) ?_
                             refine s_X4_times h1 (by omega) ?_
                             refine b_X4_common_143 (by first | omega | assumption) (by first | omega | assumption) (fun d_143 => ?_) (fun d_143 => ?_)
                             · first
                               | exact absurd d_143 (by omega)
                               | (refine b_X4_common_156 (by first | omega | assumption) ?_
                                  refine s_X4_times h1 (by omega) ?_
                                  refine b_X4_common_163 (by first | omega | assumption) (fun d_163 => ?_) (fun d_163 => ?_)
                                  · first
                                    | exact absurd d_163 (by omega)
                                    | (refine b_X4_common_175  ?_
                                       refine b_X4_common_177  ?_
                                       have ejm : j + -1 + 1 = j := by omega
                                       refine ih _ _ _ _ _ (by omega) (by omega) (by omega) ?_ ?_ ?_ ?_
                                       · rw [ejm]
                                         first | (rw [if_pos (by omega)] at s2; omega) | (rw [if_neg (by omega)] at s2; omega)
                                       · rw [ejm]
                                         first | (rw [if_pos (by omega)] at s3; omega) | (rw [if_neg (by omega)] at s3; omega)
                                       · rw [ejm]
                                         first | (rw [if_pos (by omega)] at s4; omega) | (rw [if_neg (by omega)] at s4; omega)
                                       · rw [ejm]
                                         first | exact lcm2_y (by omega) (by omega) | exact lcm2_n e5 (by omega))
                                  · first
                                    | exact absurd d_163 (by omega)
                                    | (refine b_X4_common_170  ?_
                                       refine b_X4_common_177  ?_
                                       have ejm : j + -1 + 1 = j := by omega
                                       refine ih _ _ _ _ _ (by omega) (by omega) (by omega) ?_ ?_ ?_ ?_
                                       · rw [ejm]
                                         first | (rw [if_pos (by omega)] at s2; omega) | (rw [if_neg (by omega)] at s2; omega)
                                       · rw [ejm]
                                         first | (rw [if_pos (by omega)] at s3; omega) | (rw [if_neg (by omega)] at s3; omega)
                                       · rw [ejm]
                                         first | (rw [if_pos (by omega)] at s4; omega) | (rw [if_neg (by omega)] at s4; omega)
                                       · rw [ejm]
                                         first | exact lcm2_y (by omega) (by omega) | exact lcm2_n e5 (by omega)))
                             · first
                               | exact absurd d_143 (by omega)
                               | (refine b_X4_common_146 (by first | omega | assumption) ?_
                                  refine s_X4_times h0 (by omega) ?_
                                  refine b_X4_common_153  ?_
                                  refine b_X4_common_163 (by first | omega | assumption) (fun d_163 => ?_) (fun d_163 => ?_)
                                  · first
                                    | exact absurd d_163 (by omega)
                                    | (refine b_X4_common_175  ?_
                                       refine b_X4_common_177  ?_
                                       have ejm : j + -1 + 1 = j := by omega
                                       refine ih _ _ _ _ _ (by omega) (by omega) (by omega) ?_ ?_ ?_ ?_
                                       · rw [ejm]
                                         first | (rw [if_pos (by omega)] at s2; omega) | (rw [if_neg (by omega)] at s2; omega)
                                       · rw [ejm]
                                         first | (rw [if_pos (by omega)] at s3; omega) | (rw [if_neg (by omega)] at s3; omega)
                                       · rw [ejm]
                                         first | (rw [if_pos (by omega)] at s4; omega) | (rw [if_neg (by omega)] at s4; omega)
                                       · rw [ejm]
                                         first | exact lcm2_y (by omega) (by omega) | exact lcm2_n e5 (by omega))
                                  · first
                                    | exact absurd d_163 (by omega)
                                    | (refine b_X4_common_170  ?_
                                       refine b_X4_common_177  ?_
                                       have ejm : j + -1 + 1 = j := by omega
                                       refine ih _ _ _ _ _ (by omega) (by omega) (by omega) ?_ ?_ ?_ ?_
                                       · rw [ejm]
                                         first | (rw [if_pos (by omega)] at s2; omega) | (rw [if_neg (by omega)] at s2; omega)
                                       · rw [ejm]
                                         first | (rw [if_pos (by omega)] at s3; omega) | (rw [if_neg (by omega)] at s3; omega)
                                       · rw [ejm]
                                         first | (rw [if_pos (by omega)] at s4; omega) | (rw [if_neg (by omega)] at s4; omega)
                                       · rw [ejm]
                                         first | exact lcm2_y (by omega) (by omega) | exact lcm2_n e5 (by omega))))
                        · first
                          | exact absurd d_116 (by omega)
                          | (refine b_X4_common_125  ?_
                             refine b_X4_common_163 (by first | omega | assumption) (fun d_163 => ?_) (fun d_163 => ?_)
                             · first
                               | exact absurd d_163 (by omega)
                               | (refine b_X4_common_175  ?_
                                  refine b_X4_common_177  ?_
                                  have ejm : j + -1 + 1 = j := by omega
                                  refine ih _ _ _ _ _ (by omega) (by omega) (by omega) ?_ ?_ ?_ ?_
                                  · rw [ejm]
                                    first | (rw [if_pos (by omega)] at s2; omega) | (rw [if_neg (by omega)] at s2; omega)
                                  · rw [ejm]
                                    first | (rw [if_pos (by omega)] at s3; omega) | (rw [if_neg (by omega)] at s3; omega)
                                  · rw [ejm]
                                    first | (rw [if_pos (by omega)] at s4; omega) | (rw [if_neg (by omega)] at s4; omega)
                                  · rw [ejm]
                                    first | exact lcm2_y (by omega) (by omega) | exact lcm2_n e5 (by omega))
                             · first
                               | exact absurd d_163 (by omega)
                               | (refine b_X4_common_170  ?_
                                  refine b_X4_common_177  ?_
                                  have ejm : j + -1 + 1 = j := by omega
                                  refine ih _ _ _ _ _ (by omega) (by omega) (by omega) ?_ ?_ ?_ ?_
                                  · rw [ejm]
                                    first | (rw [if_pos (by omega)] at s2; omega) | (rw [if_neg (by omega)] at s2; omega)
                                  · rw [ejm]
                                    first | (rw [if_pos (by omega)] at s3; omega) | (rw [if_neg (by omega)] at s3; omega)
                                  · rw [ejm]
                                    first | (rw [if_pos (by omega)] at s4; omega) | (rw [if_neg (by omega)] at s4; omega)
                                  · rw [ejm]
                                    first | exact lcm2_y (by omega) (by omega) | exact lcm2_n e5 (by omega))))
                   · first
                     | exact absurd d_97 (by omega)
                     | (refine b_X4_common_106 (by first | omega | assumption) (fun d_106 => ?_) (fun d_106 => ?_)
                        · first
                          | exact absurd d_106 (by omega)
                          | (refine b_X4_common_115  ?_
                             refine b_X4_common_116 (by first | omega | assumption) (fun d_116 => ?_) (fun d_116 => ?_)
                             · first
                               | exact absurd d_116 (by omega)
                               | (refine b_X4_common_129 (by first | omega | assumption) ?_
                                  refine s_X4_times h0 (by omega) ?_
                                  refine b_X4_common_136 (by first | omega | assumption) ?_
                                  refine s_X4_times h1 (by omega) ?_
                                  refine b_X4_common_143 (by first | omega | assumption) (by first | omega | assumption) (fun d_143 => ?_) (fun d_143 => ?_)
                                  · first
                                    | exact absurd d_143 (by omega)
                                    | (refine b_X4_common_156 (by first | omega | assumption) ?_
                                       refine s_X4_times h1 (by omega) ?_
                                       refine b_X4_common_163 (by first | omega | assumption) (fun d_163 => ?_) (fun d_163 => ?_)
                                       · first
                                         | exact absurd d_163 (by omega)
                                         | (refine b_X4_common_175  ?_
                                            refine b_X4_common_177  ?_
                                            have ejm : j + -1 + 1 = j := by omega
                                            refine ih _ _ _ _ _ (by omega) (by omega) (by omega) ?_ ?_ ?_ ?_
                                            · rw [ejm]
                                              first | (rw [if_pos (by omega)] at s2; omega) | (rw [if_neg (by omega)] at s2; omega)
                                            · rw [ejm]
                                              first | (rw [if_pos (by omega)] at s3; omega) | (rw [if_neg (by omega)] at s3; omega)
                                            · rw [ejm]
                                              first | (rw [if_pos (by omega)] at s4; omega) | (rw [if_neg (by omega)] at s4; omega)
                                            · rw [ejm]
                                              first | exact lcm2_y (by omega) (by omega) | exact lcm2_n e5 (by omega))
                                       · first
                                         | exact absurd d_163 (by omega)
                                         | (refine b_X4_common_170  ?_
                                            refine b_X4_common_177  ?_
                                            have ejm : j + -1 + 1 = j := by omega
                                            refine ih _ _ _ _ _ (by omega) (by omega) (by omega) ?_ ?_ ?_ ?_
                                            · rw [ejm]
                                              first | (rw [if_pos (by omega)] at s2; omega) | (rw [if_neg (by omega)] at s2; omega)
                                            · rw [ejm]
                                              first | (rw [if_pos (by omega)] at s3; omega) | (rw [if_neg (by omega)] at s3; omega)
                                            · rw [ejm]
                                              first | (rw [if_pos (by omega)] at s4; omega) | (rw [if_neg (by omega)] at s4; omega)
                                            · rw [ejm]
                                              first | exact lcm2_y (by omega) (by omega) | exact lcm2_n e5 (by omega)))
                                  · first
                                    | exact absurd d_143 (by omega)
                                    | (refine b_X4_common_146 (by first | omega | assumption) ?_
                                       refine s_X4_times h0 (by omega) ?_
                                       refine b_X4_common_153  ?_
                                       refine b_X4_common_163 (by first | omega | assumption) (fun d_163 => ?_) (fun d_163 => ?_)
                                       · first
                                         | exact absurd d_163 (by omega)
                                         | (refine b_X4_common_175  ?_
                                            refine b_X4_common_177  ?_
                                            have ejm : j + -1 + 1 = j := by omega
                                            refine ih _ _ _ _ _ (by omega) (by omega) (by omega) ?_ ?_ ?_ ?_
                                            · rw [ejm]
                                              first | (rw [if_pos (by omega)] at s2; omega) | (rw [if_neg (by omega)] at s2; omega)
                                            · rw [ejm]
                                              first | (rw [if_pos (by omega)] at s3; omega) | (rw [if_neg (by omega)] at s3; omega)
                                            · rw [ejm]
                                              first | (rw [if_pos (by omega)] at s4; omega) | (rw [if_neg (by omega)] at s4; omega)
                                            · rw [ejm]
                                              first | exact lcm2_y (by omega) (by omega) | exact lcm2_n e5 (by omega))
                                       · first
                                         | exact absurd d_163 (by omega)
                                         | (refine b_X4_common_170  ?_
                                            refine b_X4_common_177  ?_
                                            have ejm : j + -1 + 1 = j := by omega
                                            refine ih _ _ _ _ _ (by omega) (by omega) (by omega) ?_ ?_ ?_ ?_
                                            · rw [ejm]
                                              first | (rw [if_pos (by omega)] at s2; omega) | (rw [if_neg (by omega)] at s2; omega)
                                            · rw [ejm]
                                              first | (rw [if_pos (by omega)] at s3; omega) | (rw [if_neg (by omega)] at s3; omega)
                                            · rw [ejm]
                                              first | (rw [if_pos (by omega)] at s4; omega) | (rw [if_neg (by omega)] at s4; omega)
                                            · rw [ejm]
                                              first | exact lcm2_y (by omega) (by omega) | exact lcm2_n e5 (by omega))))
                             · first
                               | exact absurd d_116 (by omega)
                               | (refine b_X4_common_125  ?_
                                  refine b_X4_common_163 (by first | omega | assumption) (fun d_163 => ?_) (fun d_163 => ?_)
                                  · first
                                    | exact absurd d_163 (by omega)
                                    | (refine b_X4_common_175  ?_
                                       refine b_X4_common_177  ?_
                                       have ejm : j + -1 + 1 = j := by omega
                                       refine ih _ _ _ _ _ (by omega) (by omega) (by omega) ?_ ?_ ?_ ?_
                                       · rw [ejm]
                                         first | (rw [if_pos (by omega)] at s2; omega) | (rw [if_neg (by omega)] at s2; omega)
                                       · rw [ejm]
                                         first | (rw [if_pos (by omega)] at s3; omega) | (rw [if_neg (by omega)] at s3; omega)
                                       · rw [ejm]
                                         first | (rw [if_pos (by omega)] at s4; omega) | (rw [if_neg (by omega)] at s4; omega)
                                       · rw [ejm]
                                         first | exact lcm2_y (by omega) (by omega) | exact lcm2_n e5 (by omega))
                                  · first
                                    | exact absurd d_163 (by omega)
                                    | (refine b_X4_common_170  ?_
                                       refine b_X4_common_177  ?_
                                       have ejm : j + -1 + 1 = j := by omega
                                       refine ih _ _ _ _ _ (by omega) (by omega) (by omega) ?_ ?_ ?_ ?_
                                       · rw [ejm]
                                         first | (rw [if_pos (by omega)] at s2; omega) | (rw [if_neg (by omega)] at s2; omega)
                                       · rw [ejm]
                                         first | (rw [if_pos (by omega)] at s3; omega) | (rw [if_neg (by omega)] at s3; omega)
                                       · rw [ejm]
                                         first | (rw [if_pos (by omega)] at s4; omega) | (rw [if_neg (by omega)] at s4; omega)
                                       · rw [ejm]
                                         first | exact lcm2_y (by omega) (by omega) | exact lcm2_n e5 (by omega))))
                        · first
                          | exact absurd d_106 (by omega)
                          | (refine b_X4_common_111  ?_
                             refine b_X4_common_116 (by first | omega | assumption) (fun d_116 => ?_) (fun d_116 => ?_)
                             · first
                               | exact absurd d_116 (by omega)
                               | (refine b_X4_common_129 (by first | omega | assumption) ?_
                                  refine s_X4_times h0 (by omega) ?_
                                  refine b_X4_common_136 (by first | omega | assumption) ?_
                                  refine s_X4_times h1 (by omega) ?_
                                  refine b_X4_common_143 (by first | omega | assumption) (by first | omega | assumption) (fun d_143 => ?_) (fun d_143 => ?_)
                                  · first
                                    | exact absurd d_143 (by omega)
                                    | (refine b_X4_common_156 (by first | omega | assumption) ?_
                                       refine s_X4_times h1 (by omega) ?_
                                       refine b_X4_common_163 (by first | omega | assumption) (fun d_163 => ?_) (fun d_163 => ?_)
                                       · first
                                         | exact absurd d_163 (by omega)
                                         | (refine b_X4_common_175  ?_
                                            refine b_X4_common_177  ?_
                                            have ejm : j + -1 + 1 = j := by omega
                                            refine ih _ _ _ _ _ (by omega) (by omega) (by omega) ?_ ?_ ?_ ?_
                                            · rw [ejm]
                                              first | (rw [if_pos (by omega)] at s2; omega) | (rw [if_neg (by omega)] at s2; omega)
                                            · rw [ejm]
                                              first | (rw [if_pos (by omega)] at s3; omega) | (rw [if_neg (by omega)] at s3; omega)
                                            · rw [ejm]
                                              first | (rw [if_pos (by omega)] at s4; omega) | (rw [if_neg (by omega)] at s4; omega)
                                            · rw [ejm]
                                              first | exact lcm2_y (by omega) (by omega) | exact lcm2_n e5 (by omega))
                                       · first
                                         | exact absurd d_163 (by omega)
                                         | (refine b_X4_common_170  ?_
                                            refine b_X4_common_177  ?_
                                            have ejm : j + -1 + 1 = j := by omega
                                            refine ih _ _ _ _ _ (by omega) (by omega) (by omega) ?_ ?_ ?_ ?_
                                            · rw [ejm]
                                              first | (rw [if_pos (by omega)] at s2; omega) | (rw [if_neg (by omega)] at s2; omega)
                                            · rw [ejm]
                                              first | (rw [if_pos (by omega)] at s3; omega) | (rw [if_neg (by omega)] at s3; omega)
                                            · rw [ejm]
                                              first | (rw [if_pos (by omega)] at s4; omega) | (rw [if_neg (by omega)] at s4; omega)
                                            · rw [ejm]
                                              first | exact lcm2_y (by omega) (by omega) | exact lcm2_n e5 (by omega)))
                                  · first
                                    | exact absurd d_143 (by omega)
                                    | (refine b_X4_common_146 (by first | omega | assumption) ?_
                                       refine s_X4_times h0 (by omega) ?_
                                       refine b_X4_common_153  ?_
                                       refine b_X4_common_163 (by first | omega | assumption) (fun d_163 => ?_) (fun d_163 => ?_)
                                       · first
                                         | exact absurd d_163 (by omega)
                                         | (refine b_X4_common_175  ?_
                                            refine b_X4_common_177  ?_
                                            have ejm : j + -1 + 1 = j := by omega
                                            refine ih _ _ _ _ _ (by omega) (by omega) (by omega) ?_ ?_ ?_ ?_
                                            · rw [ejm]
                                              first | (rw [if_pos (by omega)] at s2; omega) | (rw [if_neg (by omega)] at s2; omega)
                                            · rw [ejm]
                                              first | (rw [if_pos (by omega)] at s3; omega) | (rw [if_neg (by omega)] at s3; omega)
                                            · rw [ejm]
                                              first | (rw [if_pos (by omega)] at s4; omega) | (rw [if_neg (by omega)] at s4; omega)
                                            · rw [ejm]
                                              first | exact lcm2_y (by omega) (by omega) | exact lcm2_n e5 (by omega))
                                       · first
                                         | exact absurd d_163 (by omega)
                                         | (refine b_X4_common_170  ?_
                                            refine b_X4_common_177  ?_
                                            have ejm : j + -1 + 1 = j := by omega
                                            refine ih _ _ _ _ _ (by omega) (by omega) (by omega) ?_ ?_ ?_ ?_
                                            · rw [ejm]
                                              first | (rw [if_pos (by omega)] at s2; omega) | (rw [if_neg (by omega)] at s2; omega)
                                            · rw [ejm]
                                              first | (rw [if_pos (by omega)] at s3; omega) | (rw [if_neg (by omega)] at s3; omega)
                                            · rw [ejm]
                                              first | (rw [if_pos (by omega)] at s4; omega) | (rw [if_neg (by omega)] at s4; omega)
                                            · rw [ejm]
                                              first | exact lcm2_y (by omega) (by omega) | exact lcm2_n e5 (by omega))))
                             · first
                               | exact absurd d_116 (by omega)
                               | (refine b_X4_common_125  ?_
                                  refine b_X4_common_163 (by first | omega | assumption) (fun d_163 => ?_) (fun d_163 => ?_)
                                  · first
                                    | exact absurd d_163 (by omega)
                                    | (refine b_X4_common_175  ?_
                                       refine b_X4_common_177  ?_
                                       have ejm : j + -1 + 1 = j := by omega
                                       refine ih _ _ _ _ _ (by omega) (by omega) (by omega) ?_ ?_ ?_ ?_
                                       · rw [ejm]
                                         first | (rw [if_pos (by omega)] at s2; omega) | (rw [if_neg (by omega)] at s2; omega)
                                       · rw [ejm]
                                         first | (rw [if_pos (by omega)] at s3; omega) | (rw [if_neg (by omega)] at s3; omega)
                                       · rw [ejm]
                                         first | (rw [if_pos (by omega)] at s4; omega) | (rw [if_neg (by omega)] at s4; omega)
                                       · rw [ejm]
                                         first | exact lcm2_y (by omega) (by omega) | exact lcm2_n e5 (by omega))
                                  · first
                                    | exact absurd d_163 (by omega)
                                    | (refine b_X4_common_170  ?_
                                       refine b_X4_common_177  ?_
                                       have ejm : j + -1 + 1 = j := by omega
                                       refine ih _ _ _ _ _ (by omega) (by omega) (by omega) ?_ ?_ ?_ ?_
                                       · rw [ejm]
                                         first | (rw [if_pos (by omega)] at s2; omega) | (rw [if_neg (by omega)] at s2; omega)
                                       · rw [ejm]
                                         first | (rw [if_pos (by omega)] at s3; omega) | (rw [if_neg (by omega)] at s3; omega)
                                       · rw [ejm]
                                         first | (rw [if_pos (by omega)] at s4; omega) | (rw [if_neg (by omega)] at s4; omega)
                                       · rw [ejm]
                                         first | exact lcm2_y (by omega) (by omega) | exact lcm2_n e5 (by omega))))))
              · first
                | exact absurd d_79 (by omega)
                | (refine b_X4_common_87 (by first | omega | assumption) (fun d_87 => ?_) (fun d_87 => ?_)
                   · first
                     | exact absurd d_87 (by omega)
                     | (refine b_X4_common_96  ?_
                        refine b_X4_common_97 (by first | omega | assumption) (fun d_97 => ?_) (fun d_97 => ?_)
                        · first
                          | exact absurd d_97 (by omega)
                          | (refine b_X4_common_115  ?_
                             refine b_X4_common_116 (by first | omega | assumption) (fun d_116 => ?_) (fun d_116 => ?_)
                             · first
                               | exact absurd d_116 (by omega)
                               | (refine b_X4_common_129 (by first | omega | assumption) ?_
                                  refine s_X4_times h0 (by omega) ?_
                                  refine b_X4_common_136 (by first | omega | assumption) ?_
                                  refine s_X4_times h1 (by omega) ?_
                                  refine b_X4_common_143 (by first | omega | assumption) (by first | omega | assumption) (fun d_143 => ?_) (fun d_143 => ?_)
                                  · first
                                    | exact absurd d_143 (by omega)
                                    | (refine b_X4_common_156 (by first | omega | assumption) ?_
                                       refine s_X4_times h1 (by omega) ?_
                                       refine b_X4_common_163 (by first | omega | assumption) (fun d_163 => ?_) (fun d_163 => ?_)
                                       · first
                                         | exact absurd d_163 (by omega)
                                         | (refine b_X4_common_175  ?_
                                            refine b_X4_common_177  ?_
                                            have ejm : j + -1 + 1 = j := by omega
                                            refine ih _ _ _ _ _ (by omega) (by omega) (by omega) ?_ ?_ ?_ ?_
                                            · rw [ejm]
                                              first | (rw [if_pos (by omega)] at s2; omega) | (rw [if_neg (by omega)] at s2; omega)
                                            · rw [ejm]
                                              first | (rw [if_pos (by omega)] at s3; omega) | (rw [if_neg (by omega)] at s3; omega)
                                            · rw [ejm]
                                              first | (rw [if_pos (by omega)] at s4; omega) | (rw [if_neg (by omega)] at s4; omega)
                                            · rw [ejm]
                                              first | exact lcm2_y (by omega) (by omega) | exact lcm2_n e5 (by omega))
                                       · first
                                         | exact absurd d_163 (by omega)
                                         | (refine b_X4_common_170  ?_
                                            refine b_X4_common_177  ?_
                                            have ejm : j + -1 + 1 = j := by omega
                                            refine ih _ _ _ _ _ (by omega) (by omega) (by omega) ?_ ?_ ?_ ?_
                                            · rw [ejm]
                                              first | (rw [if_pos (by omega)] at s2; omega) | (rw [if_neg (by omega)] at s2; omega)
                                            · rw [ejm]
                                              first | (rw [if_pos (by omega)] at s3; omega) | (rw [if_neg (by omega)] at s3; omega)
                                            · rw [ejm]
                                              first | (rw [if_pos (by omega)] at s4; omega) | (rw [if_neg (by omega)] at s4; omega)
                                            · rw [ejm]
                                              first | exact lcm2_y (by omega) (by omega) | exact lcm2_n e5 (by omega)))
                                  · first
                                    | exact absurd d_143 (by omega)
                                    | (refine b_X4_common_146 (by first | omega | assumption) ?_
                                       refine s_X4_times h0 (by omega) ?_
                                       refine b_X4_common_153  ?_
                                       refine b_X4_common_163 (by first | omega | assumption) (fun d_163 => ?_) (fun d_163 => ?_)
                                       · first
                                         | exact absurd d_163 (by omega)
                                         | (refine b_X4_common_175  ?_
                                            refine b_X4_common_177  ?_
                                            have ejm : j + -1 + 1 = j := by omega
                                            refine ih _ _ _ _ _ (by omega) (by omega) (by omega) ?_ ?_ ?_ ?_
                                            · rw [ejm]
                                              first | (rw [if_pos (by omega)] at s2; omega) | (rw [if_neg (by omega)] at s2; omega)
                                            · rw [ejm]
                                              first | (rw [if_pos (by omega)] at s3; omega) | (rw [if_neg (by omega)] at s3; omega)
                                            · rw [ejm]
                                              first | (rw [if_pos (by omega)] at s4; omega) | (rw [if_neg (by omega)] at s4; omega)
                                            · rw [ejm]
                                              first | exact lcm2_y (by omega) (by omega) | exact lcm2_n e5 (by omega))
                                       · first
                                         | exact absurd d_163 (by omega)
                                         | (refine b_X4_common_170  ?_
                                            refine b_X4_common_177  ?_
                                            have ejm : j + -1 + 1 = j := by omega
                                            refine ih _ _ _ _ _ (by omega) (by omega) (by omega) ?_ ?_ ?_ ?_
                                            · rw [ejm]
                                              first | (rw [if_pos (by omega)] at s2; omega) | (rw [if_neg (by omega)] at s2; omega)
                                            · rw [ejm]
                                              first | (rw [if_pos (by omega)] at s3; omega) | (rw [if_neg (by omega)] at s3; omega)
                                            · rw [ejm]
                                              first | (rw [if_pos (by omega)] at s4; omega) | (rw [if_neg (by omega)] at s4; omega)
                                            · rw [ejm]
                                              first | exact lcm2_y (by omega) (by omega) | exact lcm2_n e5 (by omega))))
                             · first
                               | exact absurd d_116 (by omega)
                               | (refine b_X4_common_125  ?_
                                  refine b_X4_common_163 (by first | omega | assumption) (fun d_163 => ?_) (fun d_163 => ?_)
                                  · first
                                    | exact absurd d_163 (by omega)
                                    | (refine b_X4_common_175  ?_
                                       refine b_X4_common_177  ?_
                                       have ejm : j + -1 + 1 = j := by omega
                                       refine ih _ _ _ _ _ (by omega) (by omega) (by omega) ?_ ?_ ?_ ?_
                                       · rw [ejm]
                                         first | (rw [if_pos (by omega)] at s2; omega) | (rw [if_neg (by omega)] at s2; omega)
                                       · rw [ejm]
                                         first | (rw [if_pos (by omega)] at s3; omega) | (rw [if_neg (by omega)] at s3; omega)
                                       · rw [ejm]
                                         first | (rw [if_pos (by omega)] at s4; omega) | (rw [if_neg (by omega)] at s4; omega)
                                       · rw [ejm]
                                         first | exact lcm2_y (by omega) (by omega) | exact lcm2_n e5 (by omega))
                                  · first
                                    | exact absurd d_163 (by omega)
                                    | (refine b_X4_common_170  ?_
                                       refine b_X4_common_177  ?_
                                       have ejm : j + -1 + 1 = j := by omega
                                       refine ih _ _ _ _ _ (by omega) (by omega) (by omega) ?_ ?_ ?_ ?_
                                       · rw [ejm]
                                         first | (rw [if_pos (by omega)] at s2; omega) | (rw [if_neg (by omega)] at s2; omega)
                                       · rw [ejm]
                                         first | (rw [if_pos (by omega)] at s3; omega) | (rw [if_neg (by omega)] at s3; omega)
                                       · rw [ejm]
                                         first | (rw [if_pos (by omega)] at s4; omega) | (rw [if_neg (by omega)] at s4; omega)
                                       · rw [ejm]
                                         first | exact lcm2_y (by omega) (by omega) | exact lcm2_n e5 (by omega))))
                        · first
                          | exact absurd d_97 (by omega)
                          | (refine b_X4_common_106 (by first | omega | assumption) (fun d_106 => ?_) (fun d_106 => ?_)
                             · first
                               | exact absurd d_106 (by omega)
                               | (refine b_X4_common_115  ?_
                                  refine b_X4_common_116 (by first | omega | assumption) (fun d_116 => ?_) (fun d_116 => ?_)
                                  · first
                                    | exact absurd d_116 (by omega)
                                    | (refine b_X4_common_129 (by first | omega | assumption) ?_
                                       refine s_X4_times h0 (by omega) ?_
                                       refine b_X4_common_136 (by first | omega | assumption) ?_
                                       refine s_X4_times h1 (by omega) ?_
                                       refine b_X4_common_143 (by first | omega | assumption) (by first | omega | assumption) (fun d_143 => ?_) (fun d_143 => ?_)
                                       · first
                                         | exact absurd d_143 (by omega)
                                         | (refine b_X4_common_156 (by first | omega | assumption) ?_
                                            refine s_X4_times h1 (by omega) ?_
                                            refine b_X4_common_163 (by first | omega | assumption) (fun d_163 => ?_) (fun d_163 => ?_)
                                            · first
                                              | exact absurd d_163 (by omega)
                                              | (refine b_X4_common_175  ?_
                                                 refine b_X4_common_177  ?_
                                                 have ejm : j + -1 + 1 = j := by omega
                                                 refine ih _ _ _ _ _ (by omega) (by omega) (by omega) ?_ ?_ ?_ ?_
                                                 · rw [ejm]
                                                   first | (rw [if_pos (by omega)] at s2; omega) | (rw [if_neg (by omega)] at s2; omega)
                                                 · rw [ejm]
                                                   first | (rw [if_pos (by omega)] at s3; omega) | (rw [if_neg (by omega)] at s3; omega)
                                                 · rw [ejm]
                                                   first | (rw [if_pos (by omega)] at s4; omega) | (rw [if_neg (by omega)] at s4; omega)
                                                 · rw [ejm]
                                                   first | exact lcm2_y (by omega) (by omega) | exact lcm2_n e5 (by omega))
                                            · first
                                              | exact absurd d_163 (by omega)
                                              | (refine b_X4_common_170  ?_
                                                 refine b_X4_common_177  ?_
                                                 have ejm : j + -1 + 1 = j := by omega
                                                 refine ih _ _ _ _ _ (by omega) (by omega) (by omega) ?_ ?_ ?_ ?_
                                                 · rw [ejm]
                                                   first | (rw [if_pos (by omega)] at s2; omega) | (rw [if_neg (by omega)] at s2; omega)
                                                 · rw [ejm]
                                                   first | (rw [if_pos (by omega)] at s3; omega) | (rw [if_neg (by omega)] at s3; omega)
                                                 · rw [ejm]
                                                   first | (rw [if_pos (by omega)] at s4; omega) | (rw [if_neg (by omega)] at s4; omega)
                                                 · rw [ejm]
                                                   first | exact lcm2_y (by omega) (by omega) | exact lcm2_n e5 (by omega)))
                                       · first
                                         | exact absurd d_143 (by omega)
                                         | (refine b_X4_common_146 (by first | omega | assumption) ?_
                                            refine s_X4_times h0 (by omega) ?_
                                            refine b_X4_common_153  ?_
                                            refine b_X4_common_163 (by first | omega | assumption) (fun d_163 => ?_) (fun d_163 => ?_)
                                            · first
                                              | exact absurd d_163 (by omega)
                                              | (refine b_X4_common_175  ?_
                                                 refine b_X4_common_177  ?_
                                                 have ejm : j + -1 + 1 = j := by omega
                                                 refine ih _ _ _ _ _ (by omega) (by omega) (by omega) ?_ ?_ ?_ ?_
                                                 · rw [ejm]
                                                   first | (rw [if_pos (by omega)] at s2; omega) | (rw [if_neg (by omega)] at s2; omega)
                                                 · rw [ejm]
                                                   first | (rw [if_pos (by omega)] at s3; omega) | (rw [if_neg (by omega)] at s3; omega)
                                                 · rw [ejm]
                                                   first | (rw [if_pos (by omega)] at s4; omega) | (rw [if_neg (by omega)] at s4; omega)
                                                 · rw [ejm]
                                                   first | exact lcm2_y (by omega) (by omega) | exact lcm2_n e5 (by omega))
                                            · first
                                              | exact absurd d_163 (by omega)
                                              | (refine b_X4_common_170  ?_
                                                 refine b_X4_common_177  ?_
                                                 have ejm : j + -1 + 1 = j := by omega
                                                 refine ih _ _ _ _ _ (by omega) (by omega) (by omega) ?_ ?_ ?_ ?_
                                                 · rw [ejm]
                                                   first | (rw [if_pos (by omega)] at s2; omega) | (rw [if_neg (by omega)] at s2; omega)
                                                 · rw [ejm]
                                                   first | (rw [if_pos (by omega)] at s3; omega) | (rw [if_neg (by omega)] at s3; omega)
                                                 · rw [ejm]
                                                   first | (rw [if_pos (by omega)] at s4; omega) | (rw [if_neg (by omega)] at s4; omega)
                                                 · rw [ejm]
                                                   first | exact lcm2_y (by omega) (by omega) | exact lcm2_n e5 (by omega))))
                                  · first
                                    | exact absurd d_116 (by omega)
                                    | (refine b_X4_common_125  ?_
                                       refine b_X4_common_163 (by first | omega | assumption) (fun d_163 => ?_) (fun d_163 => ?_)
                                       · first
                                         | exact absurd d_163 (by omega)
                                         | (refine b_X4_common_175  ?_
                                            refine b_X4_common_177  ?_
                                            have ejm : j + -1 + 1 = j := by omega
                                            refine ih _ _ _ _ _ (by omega) (by omega) (by omega) ?_ ?_ ?_ ?_
                                            · rw [ejm]
                                              first | (rw [if_pos (by omega)] at s2; omega) | (rw [if_neg (by omega)] at s2; omega)
                                            · rw [ejm]
                                              first | (rw [if_pos (by omega)] at s3; omega) | (rw [if_neg (by omega)] at s3; omega)
                                            · rw [ejm]
                                              first | (rw [if_pos (by omega)] at s4; omega) | (rw [if_neg (by omega)] at s4; omega)
                                            · rw [ejm]
                                              first | exact lcm2_y (by omega) (by omega) | exact lcm2_n e5 (by omega))
                                       · first
                                         | exact absurd d_163 (by omega)
                                         | (refine b_X4_common_170  ?_
                                            refine b_X4_common_177  ?_
                                            have ejm : j + -1 + 1 = j := by omega
                                            refine ih _ _ _ _ _ (by omega) (by omega) (by omega) ?_ ?_ ?_ ?_
                                            · rw [ejm]
                                              first | (rw [if_pos (by omega)] at s2; omega) | (rw [if_neg (by omega)] at s2; omega)
                                            · rw [ejm]
                                              first | (rw [if_pos (by omega)] at s3; omega) | (rw [if_neg (by omega)] at s3; omega)
                                            · rw [ejm]
                                              first | (rw [if_pos (by omega)] at s4; omega) | (rw [if_neg (by omega)] at s4; omega)
                                            · rw [ejm]
                                              first | exact lcm2_y (by omega) (by omega) | exact lcm2_n e5 (by omega))))
                             · first
                               | exact absurd d_106 (by omega)
                               | (refine b_X4_common_111  ?_
                                  refine b_X4_common_116 (by first | omega | assumption) (fun d_116 => ?_) (fun d_116 => ?_)
                                  · first
                                    | exact absurd d_116 (by omega)
                                    | (refine b_X4_common_129 (by first | omega | assumption) ?_
                                       refine s_X4_times h0 (by omega) ?_
                                       refine b_X4_common_136 (by first | omega | assumption) ?_
                                       refine s_X4_times h1 (by omega) ?_
                                       refine b_X4_common_143 (by first | omega | assumption) (by first | omega | assumption) (fun d_143 => ?_) (fun d_143 => ?_)
                                       · first
                                         | exact absurd d_143 (by omega)
                                         | (refine b_X4_common_156 (by first | omega | assumption) ?_
                                            refine s_X4_times h1 (by omega) ?_
                                            refine b_X4_common_163 (by first | omega | assumption) (fun d_163 => ?_) (fun d_163 => ?_)
                                            · first
                                              | exact absurd d_163 (by omega)
                                              | (refine b_X4_common_175  ?_
                                                 refine b_X4_common_177  ?_
                                                 have ejm : j + -1 + 1 = j := by omega
                                                 refine ih _ _ _ _ _ (by omega) (by omega) (by omega) ?_ ?_ ?_ ?_
                                                 · rw [ejm]
                                                   first | (rw [if_pos (by omega)] at s2; omega) | (rw [if_neg (by omega)] at s2; omega)
                                                 · rw [ejm]
                                                   first | (rw [if_pos (by omega)] at s3; omega) | (rw [if_neg (by omega)] at s3; omega)
                                                 · rw [ejm]
                                                   first | (rw [if_pos (by omega)] at s4; omega) | (rw [if_neg (by omega)] at s4; omega)
                                                 · rw [ejm]
                                                   first | exact lcm2_y (by omega) (by omega) | exact lcm2_n e5 (by omega))
                                            · first
                                              | exact absurd d_163 (by omega)
                                              | (refine b_X4_common_170  ?_
                                                 refine b_X4_common_177  ?_
                                                 have ejm : j + -1 + 1 = j := by omega
                                                 refine ih _ _ _ _ _ (by omega) (by omega) (by omega) ?_ ?_ ?_ ?_
                                                 · rw [ejm]
                                                   first | (rw [if_pos (by omega)] at s2; omega) | (rw [if_neg (by omega)] at s2; omega)
                                                 · rw [ejm]
                                                   first | (rw [if_pos (by omega)] at s3; omega) | (rw [if_neg (by omega)] at s3; omega)
                                                 · rw [ejm]
                                                   first | (rw [if_pos (by omega)] at s4; omega) | (rw [if_neg (by omega)] at s4; omega)
                                                 · rw [ejm]
                                                   first | exact lcm2_y (by omega) (by omega) | exact lcm2_n e5 (by omega)))
                                       · first
                                         | exact absurd d_143 (by omega)
                                         | (refine b_X4_common_146 (by first | omega | assumption) ?_
                                            refine s_X4_times h0 (by omega) ?_
                                            refine b_X4_common_153  ?_
                                            refine b_X4_common_163 (by first | omega | assumption) (fun d_163 => ?_) (fun d_163 => ?_)
                                            · first
                                              | exact absurd d_163 (by omega)
                                              | (refine b_X4_common_175  ?_
                                                 refine b_X4_common_177  ?_
                                                 have ejm : j + -1 + 1 = j := by omega
                                                 refine ih _ _ _ _ _ (by omega) (by omega) (by omega) ?_ ?_ ?_ ?_
                                                 · rw [ejm]
                                                   first | (rw [if_pos (by omega)] at s2; omega) | (rw [if_neg (by omega)] at s2; omega)
                                                 · rw [ejm]
                                                   first | (rw [if_pos (by omega)] at s3; omega) | (rw [if_neg (by omega)] at s3; omega)
                                                 · rw [ejm]
                                                   first | (rw [if_pos (by omega)] at s4; omega) | (rw [if_neg (by omega)] at s4; omega)
                                                 · rw [ejm]
                                                   first | exact lcm2_y (by omega) (by omega) | exact lcm2_n e5 (by omega))
                                            · first
                                              | exact absurd d_163 (by omega)
                                              | (refine b_X4_common_170  ?_
                                                 refine b_X4_common_177  ?_
                                                 have ejm : j + -1 + 1 = j := by omega
                                                 refine ih _ _ _ _ _ (by omega) (by omega) (by omega) ?_ ?_ ?_ ?_
                                                 · rw [ejm]
                                                   first | (rw [if_pos (by omega)] at s2; omega) | (rw [if_neg (by omega)] at s2; omega)
                                                 · rw [ejm]
                                                   first | (rw [if_pos (by omega)] at s3; omega) | (rw [if_neg (by omega)] at s3; omega)
                                                 · rw [ejm]
                                                   first | (rw [if_pos (by omega)] at s4; omega) | (rw [if_neg (by omega)] at s4; omega)
                                                 · rw [ejm]
                                                   first | exact lcm2_y (by omega) (by omega) | exact lcm2_n e5 (by omega))))
                                  · first
                                    | exact absurd d_116 (by omega)
                                    | (refine b_X4_common_125  ?_
                                       refine b_X4_common_163 (by first | omega | assumption) (fun d_163 => ?_) (fun d_163 => ?_)
                                       · first
                                         | exact absurd d_163 (by omega)
                                         | (refine b_X4_common_175  ?_
                                            refine b_X4_common_177  ?_
                                            have ejm : j + -1 + 1 = j := by omega
                                            refine ih _ _ _ _ _ (by omega) (by omega) (by omega) ?_ ?_ ?_ ?_
                                            · rw [ejm]
                                              first | (rw [if_pos (by omega)] at s2; omega) | (rw [if_neg (by omega)] at s2; omega)
                                            · rw [ejm]
                                              first | (rw [if_pos (by omega)] at s3; omega) | (rw [if_neg (by omega)] at s3; omega)
                                            · rw [ejm]
                                              first | (rw [if_pos (by omega)] at s4; omega) | (rw [if_neg (by omega)] at s4; omega)
                                            · rw [ejm]
                                              first | exact lcm2_y (by omega) (by omega) | exact lcm2_n e5 (by omega))
                                       · first
                                         | exact absurd d_163 (by omega)
                                         | (refine b_X4_common_170  ?_
                                            refine b_X4_common_177  ?_
                                            have ejm : j + -1 + 1 = j := by omega
                                            refine ih _ _ _ _ _ (by omega) (by omega) (by omega) ?_ ?_ ?_ ?_
                                            · rw [ejm]
                                              first | (rw [if_pos (by omega)] at s2; omega) | (rw [if_neg (by omega)] at s2; omega)
                                            · rw [ejm]
                                              first | (rw [if_pos (by omega)] at s3; omega) | (rw [if_neg (by omega)] at s3; omega)
                                            · rw [ejm]
                                              first | (rw [if_pos (by omega)] at s4; omega) | (rw [if_neg (by omega)] at s4; omega)
                                            · rw [ejm]
                                              first | exact lcm2_y (by omega) (by omega) | exact lcm2_n e5 (by omega))))))
                   · first
                     | exact absurd d_87 (by omega)
                     | (refine b_X4_common_92  ?_
                        refine b_X4_common_97 (by first | omega | assumption) (fun d_97 => ?_) (fun d_97 => ?_)
                        · first
                          | exact absurd d_97 (by omega)
                          | (refine b_X4_common_115  ?_
                             refine b_X4_common_116 (by first | omega | assumption) (fun d_116 => ?_) (fun d_116 => ?_)
                             · first
                               | exact absurd d_116 (by omega)
                               | (refine b_X4_common_129 (by first | omega | assumption) ?_
                                  refine s_X4_times h0 (by omega) ?_
                                  refine b_X4_common_136 (by first | omega | assumption) ?_
                                  refine s_X4_times h1 (by omega) ?_
                                  refine b_X4_common_143 (by first | omega | assumption) (by first | omega | assumption) (fun d_143 => ?_) (fun d_143 => ?_)
                                  · first
                                    | exact absurd d_143 (by omega)
                                    | (refine b_X4_common_156 (by first | omega | assumption) ?_
                                       refine s_X4_times h1 (by omega) ?_
                                       refine b_X4_common_163 (by first | omega | assumption) (fun d_163 => ?_) (fun d_163 => ?_)
                                       · first
                                         | exact absurd d_163 (by omega)
                                         | (refine b_X4_common_175  ?_
                                            refine b_X4_common_177  ?_
                                            have ejm : j + -1 + 1 = j := by omega
                                            refine ih _ _ _ _ _ (by omega) (by omega) (by omega) ?_ ?_ ?_ ?_
                                            · rw [ejm]
                                              first | (rw [if_pos (by omega)] at s2; omega) | (rw [if_neg (by omega)] at s2; omega)
                                            · rw [ejm]
                                              first | (rw [if_pos (by omega)] at s3; omega) | (rw [if_neg (by omega)] at s3; omega)
                                            · rw [ejm]
                                              first | (rw [if_pos (by omega)] at s4; omega) | (rw [if_neg (by omega)] at s4; omega)
                                            · rw [ejm]
                                              first | exact lcm2_y (by omega) (by omega) | exact lcm2_n e5 (by omega))
                                       · first
                                         | exact absurd d_163 (by omega)
                                         | (refine b_X4_common_170  ?_
                                            refine b_X4_common_177  ?_
                                            have ejm : j + -1 + 1 = j := by omega
                                            refine ih _ _ _ _ _ (by omega) (by omega) (by omega) ?_ ?_ ?_ ?_
                                            · rw [ejm]
                                              first | (rw [if_pos (by omega)] at s2; omega) | (rw [if_neg (by omega)] at s2; omega)
                                            · rw [ejm]
                                              first | (rw [if_pos (by omega)] at s3; omega) | (rw [if_neg (by omega)] at s3; omega)
                                            · rw [ejm]
                                              first | (rw [if_pos (by omega)] at s4; omega) | (rw [if_neg (by omega)] at s4; omega)
                                            · rw [ejm]
                                              first | exact lcm2_y (by omega) (by omega) | exact lcm2_n e5 (by omega)))
                                  · first
                                    | exact absurd d_143 (by omega)
                                    | (refine b_X4_common_146 (by first | omega | assumption) ?_
                                       refine s_X4_times h0 (by omega) ?_
                                       refine b_X4_common_153  ?_
                                       refine b_X4_common_163 (by first | omega | assumption) (fun d_163 => ?_) (fun d_163 => ?_)
                                       · first
                                         | exact absurd d_163 (by omega)
                                         | (refine b_X4_common_175  ?_
                                            refine b_X4_common_177  ?_
                                            have ejm : j + -1 + 1 = j := by omega
                                            refine ih _ _ _ _ _ (by omega) (by omega) (by omega) ?_ ?_ ?_ ?_
                                            · rw [ejm]
                                              first | (rw [if_pos (by omega)] at s2; omega) | (rw [if_neg (by omega)] at s2; omega)
                                            · rw [ejm]
                                              first | (rw [if_pos (by omega)] at s3; omega) | (rw [if_neg (by omega)] at s3; omega)
                                            · rw [ejm]
                                              first | (rw [if_pos (by omega)] at s4; omega) | (rw [if_neg (by omega)] at s4; omega)
                                            · rw [ejm]
                                              first | exact lcm2_y (by omega) (by omega) | exact lcm2_n e5 (by omega))
                                       · first
                                         | exact absurd d_163 (by omega)
                                         | (refine b_X4_common_170  ?_
                                            refine b_X4_common_177  ?_
                                            have ejm : j + -1 + 1 = j := by omega
                                            refine ih _ _ _ _ _ (by omega) (by omega) (by omega) ?_ ?_ ?_ ?_
                                            · rw [ejm]
                                              first | (rw [if_pos (by omega)] at s2; omega) | (rw [if_neg (by omega)] at s2; omega)
                                            · rw [ejm]
                                              first | (rw [if_pos (by omega)] at s3; omega) | (rw [if_neg (by omega)] at s3; omega)
                                            · rw [ejm]
                                              first | (rw [if_pos (by omega)] at s4; omega) | (rw [if_neg (by omega)] at s4; omega)
                                            · rw [ejm]
                                              first | exact lcm2_y (by omega) (by omega) | exact lcm2_n e5 (by omega))))
                             · first
                               | exact absurd d_116 (by omega)
                               | (refine b_X4_common_125  ?_
                                  refine b_X4_common_163 (by first | omega | assumption) (fun d_163 => ?_) (fun d_163 => ?_)
                                  · first
                                    | exact absurd d_163 (by omega)
                                    | (refine b_X4_common_175  ?_
                                       refine b_X4_common_177  ?_
                                       have ejm : j + -1 + 1 = j := by omega
                                       refine ih _ _ _ _ _ (by omega) (by omega) (by omega) ?_ ?_ ?_ ?_
                                       · rw [ejm]
                                         first | (rw [if_pos (by omega)] at s2; omega) | (rw [if_neg (by omega)] at s2; omega)
                                       · rw [ejm]
                                         first | (rw [if_pos (by omega)] at s3; omega) | (rw [if_neg (by omega)] at s3; omega)
                                       · rw [ejm]
                                         first | (rw [if_pos (by omega)] at s4; omega) | (rw [if_neg (by omega)] at s4; omega)
                                       · rw [ejm]
                                         first | exact lcm2_y (by omega) (by omega) | exact lcm2_n e5 (by omega))
                                  · first
                                    | exact absurd d_163 (by omega)
                                    | (refine b_X4_common_170  ?_
                                       refine b_X4_common_177  ?_
                                       have ejm : j + -1 + 1 = j := by omega
                                       refine ih _ _ _ _ _ (by omega) (by omega) (by omega) ?_ ?_ ?_ ?_
                                       · rw [ejm]
                                         first | (rw [if_pos (by omega)] at s2; omega) | (rw [if_neg (by omega)] at s2; omega)
                                       · rw [ejm]
                                         first | (rw [if_pos (by omega)] at s3; omega) | (rw [if_neg (by omega)] at s3; omega)
                                       · rw [ejm]
                                         first | (rw [if_pos (by omega)] at s4; omega) | (rw [if_neg (by omega)] at s4; omega)
                                       · rw [ejm]
                                         first | exact lcm2_y (by omega) (by omega) | exact lcm2_n e5 (by omega))))
                        · first
                          | exact absurd d_97 (by omega)
                          | (refine b_X4_common_106 (by first | omega | assumption) (fun d_106 => ?_) (fun d_106 => ?_)
                             · first
                               | exact absurd d_106 (by omega)
                               | (refine b_X4_common_115  ?_
                                  refine b_X4_common_116 (by first | omega | assumption) (fun d_116 => ?_) (fun d_116 => ?_)
                                  · first
                                    | exact absurd d_116 (by omega)
                                    | (refine b_X4_common_129 (by first | omega | assumption) ?_
                                       refine s_X4_times h0 (by omega) ?_
                                       refine b_X4_common_136 (by first | omega | assumption) ?_
                                       refine s_X4_times h1 (by omega) ?_
                                       refine b_X4_common_143 (by first | omega | assumption) (by first | omega | assumption) (fun d_143 => ?_) (fun d_143 => ?_)
                                       · first
                                         | exact absurd d_143 (by omega)
                                         | (refine b_X4_common_156 (by first | omega | assumption) ?_
                                            refine s_X4_times h1 (by omega) ?_
                                            refine b_X4_common_163 (by first | omega | assumption) (fun d_163 => ?_) (fun d_163 => ?_)
                                            · first
                                              | exact absurd d_163 (by omega)
                                              | (refine b_X4_common_175  ?_
                                                 refine b_X4_common_177  ?_
                                                 have ejm : j + -1 + 1 = j := by omega
                                                 refine ih _ _ _ _ _ (by omega) (by omega) (by omega) ?_ ?_ ?_ ?_
                                                 · rw [ejm]
                                                   first | (rw [if_pos (by omega)] at s2; omega) | (rw [if_neg (by omega)] at s2; omega)
                                                 · rw [ejm]
                                                   first | (rw [if_pos (by omega)] at s3; omega) | (rw [if_neg (by omega)] at s3; omega)
                                                 · rw [ejm]
                                                   first | (rw [if_pos (by omega)] at s4; omega) | (rw [if_neg (by omega)] at s4; omega)
                                                 · rw [ejm]
                                                   first | exact lcm2_y (by omega) (by omega) | exact lcm2_n e5 (by omega))
                                            · first
                                              | exact absurd d_163 (by omega)
                                              | (refine b_X4_common_170  ?_
                                                 refine b_X4_common_177  ?_
                                                 have ejm : j + -1 + 1 = j := by omega
                                                 refine ih _ _ _ _ _ (by omega) (by omega) (by omega) ?_ ?_ ?_ ?_
                                                 · rw [ejm]
                                                   first | (rw [if_pos (by omega)] at s2; omega) | (rw [if_neg (by omega)] at s2; omega)
                                                 · rw [ejm]
                                                   first | (rw [if_pos (by omega)] at s3; omega) | (rw [if_neg (by omega)] at s3; omega)
                                                 · rw [ejm]
                                                   first | (rw [if_pos (by omega)] at s4; omega) | (rw [if_neg (by omega)] at s4; omega)
                                                 · rw [ejm]
                                                   first | exact lcm2_y (by omega) (by omega) | exact lcm2_n e5 (by omega)))
                                       · first
                                         | exact absurd d_143 (by omega)
                                         | (refine b_X4_common_146 (by first | omega | assumption) ?_
                                            refine s_X4_times h0 (by omega) ?_
                                            refine b_X4_common_153  ?_
                                            refine b_X4_common_163 (by first | omega | assumption) (fun d_163 => ?_) (fun d_163 => ?_)
                                            · first
                                              | exact absurd d_163 (by omega)
                                              | (refine b_X4_common_175  ?_
                                                 refine b_X4_common_177  ?_
                                                 have ejm : j + -1 + 1 = j := by omega
                                                 refine ih _ _ _ _ _ (by omega) (by omega) (by omega) ?_ ?_ ?_ ?_
                                                 · rw [ejm]
                                                   first | (rw [if_pos (by omega)] at s2; omega) | (rw [if_neg (by omega)] at s2; omega)
                                                 · rw [ejm]
                                                   first | (rw [if_pos (by omega)] at s3; omega) | (rw [if_neg (by omega)] at s3; omega)
                                                 · rw [ejm]
                                                   first | (rw [if_pos (by omega)] at s4; omega) | (rw [if_neg (by omega)] at s4; omega)
                                                 · rw [ejm]
                                                   first | exact lcm2_y (by omega) (by omega) | exact lcm2_n e5 (by omega))
                                            · first
                                              | exact absurd d_163 (by omega)
                                              | (refine b_X4_common_170  ?_
                                                 refine b_X4_common_177  ?_
                                                 have ejm : j + -1 + 1 = j := by omega
                                                 refine ih _ _ _ _ _ (by omega) (by omega) (by omega) ?_ ?_ ?_ ?_
                                                 · rw [ejm]
                                                   first | (rw [if_pos (by omega)] at s2; omega) | (rw [if_neg (by omega)] at s2; omega)
                                                 · rw [ejm]
                                                   first | (rw [if_pos (by omega)] at s3; omega) | (rw [if_neg (by omega)] at s3; omega)
                                                 · rw [ejm]
                                                   first | (rw [if_pos (by omega)] at s4; omega) | (rw [if_neg (by omega)] at s4; omega)
                                                 · rw [ejm]
                                                   first | exact lcm2_y (by omega) (by omega) | exact lcm2_n e5 (by omega))))
                                  · first
                                    | exact absurd d_116 (by omega)
                                    | (refine b_X4_common_125  ?_
                                       refine b_X4_common_163 (by first | omega | assumption) (fun d_163 => ?_) (fun d_163 => ?_)
                                       · first
                                         | exact absurd d_163 (by omega)
                                         | (refine b_X4_common_175  ?_
                                            refine b_X4_common_177  ?_
                                            have ejm : j + -1 + 1 = j := by omega
                                            refine ih _ _ _ _ _ (by omega) (by omega) (by omega) ?_ ?_ ?_ ?_
                                            · rw [ejm]
                                              first | (rw [if_pos (by omega)] at s2; omega) | (rw [if_neg (by omega)] at s2; omega)
                                            · rw [ejm]
                                              first | (rw [if_pos (by omega)] at s3; omega) | (rw [if_neg (by omega)] at s3; omega)
                                            · rw [ejm]
                                              first | (rw [if_pos (by omega)] at s4; omega) | (rw [if_neg (by omega)] at s4; omega)
                                            · rw [ejm]
                                              first | exact lcm2_y (by omega) (by omega) | exact lcm2_n e5 (by omega))
                                       · first
                                         | exact absurd d_163 (by omega)
                                         | (refine b_X4_common_170  ?_
                                            refine b_X4_common_177  ?_
                                            have ejm : j + -1 + 1 = j := by omega
                                            refine ih _ _ _ _ _ (by omega) (by omega) (by omega) ?_ ?_ ?_ ?_
                                            · rw [ejm]
                                              first | (rw [if_pos (by omega)] at s2; omega) | (rw [if_neg (by omega)] at s2; omega)
                                            · rw [ejm]
                                              first | (rw [if_pos (by omega)] at s3; omega) | (rw [if_neg (by omega)] at s3; omega)
                                            · rw [ejm]
                                              first | (rw [if_pos (by omega)] at s4; omega) | (rw [if_neg (by omega)] at s4; omega)
                                            · rw [ejm]
                                              first | exact lcm2_y (by omega) (by omega) | exact lcm2_n e5 (by omega))))
                             · first
                               | exact absurd d_106 (by omega)
                               | (refine b_X4_common_111  ?_
                                  refine b_X4_common_116 (by first | omega | assumption) (fun d_116 => ?_) (fun d_116 => ?_)
                                  · first
                                    | exact absurd d_116 (by omega)
                                    | (refine b_X4_common_129 (by first | omega | assumption) ?_
                                       refine s_X4_times h0 (by omega) ?_
                                       refine b_X4_common_136 (by first | omega | assumption) ?_
                                       refine s_X4_times h1 (by omega) ?_
                                       refine b_X4_common_143 (by first | omega | assumption) (by first | omega | assumption) (fun d_143 => ?_) (fun d_143 => ?_)
                                       · first
                                         | exact absurd d_143 (by omega)
                                         | (refine b_X4_common_156 (by first | omega | assumption) ?_
                                            refine s_X4_times h1 (by omega) ?_
                                            refine b_X4_common_163 (by first | omega | assumption) (fun d_163 => ?_) (fun d_163 => ?_)
                                            · first
                                              | exact absurd d_163 (by omega)
                                              | (refine b_X4_common_175  ?_
                                                 refine b_X4_common_177  ?_
                                                 have ejm : j + -1 + 1 = j := by omega
                                                 refine ih _ _ _ _ _ (by omega) (by omega) (by omega) ?_ ?_ ?_ ?_
                                                 · rw [ejm]
                                                   first | (rw [if_pos (by omega)] at s2; omega) | (rw [if_neg (by omega)] at s2; omega)
                                                 · rw [ejm]
                                                   first | (rw [if_pos (by omega)] at s3; omega) | (rw [if_neg (by omega)] at s3; omega)
                                                 · rw [ejm]
                                                   first | (rw [if_pos (by omega)] at s4; omega) | (rw [if_neg (by omega)] at s4; omega)
                                                 · rw [ejm]
                                                   first | exact lcm2_y (by omega) (by omega) | exact lcm2_n e5 (by omega))
                                            · first
                                              | exact absurd d_163 (by omega)
                                              | (refine b_X4_common_170  ?_
                                                 refine b_X4_common_177  ?_
                                                 have ejm : j + -1 + 1 = j := by omega
                                                 refine ih _ _ _ _ _ (by omega) (by omega) (by omega) ?_ ?_ ?_ ?_
                                                 · rw [ejm]
                                                   first | (rw [if_pos (by omega)] at s2; omega) | (rw [if_neg (by omega)] at s2; omega)
                                                 · rw [ejm]
                                                   first | (rw [if_pos (by omega)] at s3; omega) | (rw [if_neg (by omega)] at s3; omega)
                                                 · rw [ejm]
                                                   first | (rw [if_pos (by omega)] at s4; omega) | (rw [if_neg (by omega)] at s4; omega)
                                                 · rw [ejm]
                                                   first | exact lcm2_y (by omega) (by omega) | exact lcm2_n e5 (by omega)))
                                       · first
                                         | exact absurd d_143 (by omega)
                                         | (refine b_X4_common_146 (by first | omega | assumption) ?_
                                            refine s_X4_times h0 (by omega) ?_
                                            refine b_X4_common_153  ?_
                                            refine b_X4_common_163 (by first | omega | assumption) (fun d_163 => ?_) (fun d_163 => ?_)
                                            · first
                                              | exact absurd d_163 (by omega)
                                              | (refine b_X4_common_175  ?_
                                                 refine b_X4_common_177  ?_
                                                 have ejm : j + -1 + 1 = j := by omega
                                                 refine ih _ _ _ _ _ (by omega) (by omega) (by omega) ?_ ?_ ?_ ?_
                                                 · rw [ejm]
                                                   first | (rw [if_pos (by omega)] at s2; omega) | (rw [if_neg (by omega)] at s2; omega)
                                                 · rw [ejm]
                                                   first | (rw [if_pos (by omega)] at s3; omega) | (rw [if_neg (by omega)] at s3; omega)
                                                 · rw [ejm]
                                                   first | (rw [if_pos (by omega)] at s4; omega) | (rw [if_neg (by omega)] at s4; omega)
                                                 · rw [ejm]
                                                   first | exact lcm2_y (by omega) (by omega) | exact lcm2_n e5 (by omega))
                                            · first
                                              | exact absurd d_163 (by omega)
                                              | (refine b_X4_common_170  ?_
                                                 refine b_X4_common_177  ?_
                                                 have ejm : j + -1 + 1 = j := by omega
                                                 refine ih _ _ _ _ _ (by omega) (by omega) (by omega) ?_ ?_ ?_ ?_
                                                 · rw [ejm]
                                                   first | (rw [if_pos (by omega)] at s2; omega) | (rw [if_neg (by omega)] at s2; omega)
                                                 · rw [ejm]
                                                   first | (rw [if_pos (by omega)] at s3; omega) | (rw [if_neg (by omega)] at s3; omega)
                                                 · rw [ejm]
                                                   first | (rw [if_pos (by omega)] at s4; omega) | (rw [if_neg (by omega)] at s4; omega)
                                                 · rw [ejm]
                                                   first | exact lcm2_y (by omega) (by omega) | exact lcm2_n e5 (by omega))))
                                  · first
                                    | exact absurd d_116 (by omega)
                                    | (refine b_X4_common_125  ?_
                                       refine b_X4_common_163 (by first | omega | assumption) (fun d_163 => ?_) (fun d_163 => ?_)
                                       · first
                                         | exact absurd d_163 (by omega)
                                         | (refine b_X4_common_175  ?_
                                            refine b_X4_common_177  ?_
                                            have ejm : j + -1 + 1 = j := by omega
                                            refine ih _ _ _ _ _ (by omega) (by omega) (by omega) ?_ ?_ ?_ ?_
                                            · rw [ejm]
                                              first | (rw [if_pos (by omega)] at s2; omega) | (rw [if_neg (by omega)] at s2; omega)
                                            · rw [ejm]
                                              first | (rw [if_pos (by omega)] at s3; omega) | (rw [if_neg (by omega)] at s3; omega)
                                            · rw [ejm]
                                              first | (rw [if_pos (by omega)] at s4; omega) | (rw [if_neg (by omega)] at s4; omega)
                                            · rw [ejm]
                                              first | exact lcm2_y (by omega) (by omega) | exact lcm2_n e5 (by omega))
                                       · first
                                         | exact absurd d_163 (by omega)
                                         | (refine b_X4_common_170  ?_
                                            refine b_X4_common_177  ?_
                                            have ejm : j + -1 + 1 = j := by omega
                                            refine ih _ _ _ _ _ (by omega) (by omega) (by omega) ?_ ?_ ?_ ?_
                                            · rw [ejm]
                                              first | (rw [if_pos (by omega)] at s2; omega) | (rw [if_neg (by omega)] at s2; omega)
                                            · rw [ejm]
                                              first | (rw [if_pos (by omega)] at s3; omega) | (rw [if_neg (by omega)] at s3; omega)
                                            · rw [ejm]
                                              first | (rw [if_pos (by omega)] at s4; omega) | (rw [if_neg (by omega)] at s4; omega)
                                            · rw [ejm]
                                              first | exact lcm2_y (by omega) (by omega) | exact lcm2_n e5 (by omega))))))))
         · first
           | exact absurd d_44 (by omega)
           | (have hvi2 := hvi2 (by omega)
              refine b_X4_common_51 (by first | omega | assumption) ?_
              refine s_X4_number h0 (by omega) (by omega) ?_
              refine b_X4_common_60 (by first | omega | assumption) (by first | omega | assumption) (fun d_60 => ?_) (fun d_60 => ?_)
              · first
                | exact absurd d_60 (by omega)
                | (refine b_X4_common_69  ?_
                   refine b_X4_common_70 (by first | omega | assumption) ?_
                   refine s_X4_has h1 (by omega) (fun r hr => ?_)
                   have hr2 : (r = 1 ∧ 0 < tm (mf w 1) m (mf w 0 j)) ∨ (r = 0 ∧ ¬ 0 < tm (mf w 1) m (mf w 0 j)) := by rw [dh]; exact hr
                   clear hr dh
                   refine b_X4_common_79 (by first | omega | assumption) (fun d_79 => ?_) (fun d_79 => ?_)
                   · first
                     | exact absurd d_79 (by omega)
                     | (refine b_X4_common_96  ?_
                        refine b_X4_common_97 (by first | omega | assumption) (fun d_97 => ?_) (fun d_97 => ?_)
                        · first
                          | exact absurd d_97 (by omega)
                          | (refine b_X4_common_115  ?_
                             refine b_X4_common_116 (by first | omega | assumption) (fun d_116 => ?_) (fun d_116 => ?_)
                             · first
                               | exact absurd d_116 (by omega)
                               | (refine b_X4_common_129 (by first | omega | assumption) ?_
                                  refine s_X4_times h0 (by omega) ?_
                                  refine b_X4_common_136 (by first | omega | assumption) ?_
                                  refine s_X4_times h1 (by omega) ?_
                                  refine b_X4_common_143 (by first | omega | assumption) (by first | omega | assumption) (fun d_143 => ?_) (fun d_143 => ?_)
                                  · first
                                    | exact absurd d_143 (by omega)
                                    | (refine b_X4_common_156 (by first | omega | assumption) ?_
                                       refine s_X4_times h1 (by omega) ?_
                                       refine b_X4_common_163 (by first | omega | assumption) (fun d_163 => ?_) (fun d_163 => ?_)
                                       · first
                                         | exact absurd d_163 (by omega)
                                         | (refine b_X4_common_175  ?_
                                            refine b_X4_common_177  ?_
                                            have ejm : j + -1 + 1 = j := by omega
                                            refine ih _ _ _ _ _ (by omega) (by omega) (by omega) ?_ ?_ ?_ ?_
                                            · rw [ejm]
                                              first | (rw [if_pos (by omega)] at s2; omega) | (rw [if_neg (by omega)] at s2; omega)
                                            · rw [ejm]
                                              first | (rw [if_pos (by omega)] at s3; omega) | (rw [if_neg (by omega)] at s3; omega)
                                            · rw [ejm]
                                              first | (rw [if_pos (by omega)] at s4; omega) | (rw [if_neg (by omega)] at s4; omega)
                                            · rw [ejm]
                                              first | exact lcm2_y (by omega) (by omega) | exact lcm2_n e5 (by omega))
                                       · first
                                         | exact absurd d_163 (by omega)
                                         | (refine b_X4_common_170  ?_
                                            refine b_X4_common_177  ?_
                                            have ejm : j + -1 + 1 = j := by omega
                                            refine ih _ _ _ _ _ (by omega) (by omega) (by omega) ?_ ?_ ?_ ?_
                                            · rw [ejm]
                                              first | (rw [if_pos (by omega)] at s2; omega) | (rw [if_neg (by omega)] at s2; omega)
                                            · rw [ejm]
                                              first | (rw [if_pos (by omega)] at s3; omega) | (rw [if_neg (by omega)] at s3; omega)
                                            · rw [ejm]
                                              first | (rw [if_pos (by omega)] at s4; omega) | (rw [if_neg (by omega)] at s4; omega)
                                            · rw [ejm]
                                              first | exact lcm2_y (by omega) (by omega) | exact lcm2_n e5 (by omega)))
                                  · first
                                    | exact absurd d_143 (by omega)
                                    | (refine b_X4_common_146 (by first | omega | assumption) ?_
                                       refine s_X4_times h0 (by omega) ?_
                                       refine b_X4_common_153  ?_
                                       refine b_X4_common_163 (by first | omega | assumption) (fun d_163 => ?_) (fun d_163 => ?_)
                                       · first
                                         | exact absurd d_163 (by omega)
                                         | (refine b_X4_common_175  ?_
                                            refine b_X4_common_177  ?_
                                            have ejm : j + -1 + 1 = j := by omega
                                            refine ih _ _ _ _ _ (by omega) (by omega) (by omega) ?_ ?_ ?_ ?_
                                            · rw [ejm]
                                              first | (rw [if_pos (by omega)] at s2; omega) | (rw [if_neg (by omega)] at s2; omega)
                                            · rw [ejm]
                                              first | (rw [if_pos (by omega)] at s3; omega) | (rw [if_neg (by omega)] at s3; omega)
                                            · rw [ejm]
                                              first | (rw [if_pos (by omega)] at s4; omega) | (rw [if_neg (by omega)] at s4; omega)
                                            · rw [ejm]
                                              first | exact lcm2_y (by omega) (by omega) | exact lcm2_n e5 (by omega))
                                       · first
                                         | exact absurd d_163 (by omega)
                                         | (refine b_X4_common_170  ?_
                                            refine b_X4_common_177  ?_
                                            have ejm : j + -1 + 1 = j := by omega
                                            refine ih _ _ _ _ _ (by omega) (by omega) (by omega) ?_ ?_ ?_ ?_
                                            · rw [ejm]
                                              first | (rw [if_pos (by omega)] at s2; omega) | (rw [if_neg (by omega)] at s2; omega)
                                            · rw [ejm]
                                              first | (rw [if_pos (by omega)] at s3; omega) | (rw [if_neg (by omega)] at s3; omega)
                                            · rw [ejm]
                                              first | (rw [if_pos (by omega)] at s4; omega) | (rw [if_neg (by omega)] at s4; omega)
                                            · rw [ejm]
                                              first | exact lcm2_y (by omega) (by omega) | exact lcm2_n e5 (by omega))))
                             · first
                               | exact absurd d_116 (by omega)
                               | (refine b_X4_common_125  ?_
                                  refine b_X4_common_163 (by first | omega | assumption) (fun d_163 => ?_) (fun d_163 => ?_)
                                  · first
                                    | exact absurd d_163 (by omega)
                                    | (refine b_X4_common_175  ?_
                                       refine b_X4_common_177  ?_
                                       have ejm : j + -1 + 1 = j := by omega
                                       refine ih _ _ _ _ _ (by omega) (by omega) (by omega) ?_ ?_ ?_ ?_
                                       · rw [ejm]
                                         first | (rw [if_pos (by omega)] at s2; omega) | (rw [if_neg (by omega)] at s2; omega)
                                       · rw [ejm]
                                         first | (rw [if_pos (by omega)] at s3; omega) | (rw [if_neg (by omega)] at s3; omega)
                                       · rw [ejm]
                                         first | (rw [if_pos (by omega)] at s4; omega) | (rw [if_neg (by omega)] at s4; omega)
                                       · rw [ejm]
                                         first | exact lcm2_y (by omega) (by omega) | exact lcm2_n e5 (by omega))
                                  · first
                                    | exact absurd d_163 (by omega)
                                    | (refine b_X4_common_170  ?_
                                       refine b_X4_common_177  ?_
                                       have ejm : j + -1 + 1 = j := by omega
                                       refine ih _ _ _ _ _ (by omega) (by omega) (by omega) ?_ ?_ ?_ ?_
                                       · rw [ejm]
                                         first | (rw [if_pos (by omega)] at s2; omega) | (rw [if_neg (by omega)] at s2; omega)
                                       · rw [ejm]
                                         first | (rw [if_pos (by omega)] at s3; omega) | (rw [if_neg (by omega)] at s3; omega)
                                       · rw [ejm]
                                         first | (rw [if_pos (by omega)] at s4; omega) | (rw [if_neg (by omega)] at s4; omega)
                                       · rw [ejm]
                                         first | exact lcm2_y (by omega) (by omega) | exact lcm2_n e5 (by omega))))
                        · first
                          | exact absurd d_97 (by omega)
                          | (refine b_X4_common_106 (by first | omega | assumption) (fun d_106 => ?_) (fun d_106 => ?_)
                             · first
                               | exact absurd d_106 (by omega)
                               | (refine b_X4_common_115  ?_
                                  refine b_X4_common_116 (by first | omega | assumption) (fun d_116 => ?_) (fun d_116 => ?_)
                                  · first
                                    | exact absurd d_116 (by omega)
                                    | (refine b_X4_common_129 (by first | omega | assumption) ?_
                                       refine s_X4_times h0 (by omega) ?_
                                       refine b_X4_common_136 (by first | omega | assumption) ?_
                                       refine s_X4_times h1 (by omega) ?_
                                       refine b_X4_common_143 (by first | omega | assumption) (by first | omega | assumption) (fun d_143 => ?_) (fun d_143 => ?_)
                                       · first
                                         | exact absurd d_143 (by omega)
                                         | (refine b_X4_common_156 (by first | omega | assumption) ?_
                                            refine s_X4_times h1 (by omega) ?_
                                            refine b_X4_common_163 (by first | omega | assumption) (fun d_163 => ?_) (fun d_163 => ?_)
                                            · first
                                              | exact absurd d_163 (by omega)
                                              | (refine b_X4_common_175  ?_
                                                 refine b_X4_common_177  ?_
                                                 have ejm : j + -1 + 1 = j := by omega
                                                 refine ih _ _ _ _ _ (by omega) (by omega) (by omega) ?_ ?_ ?_ ?_
                                                 · rw [ejm]
                                                   first | (rw [if_pos (by omega)] at s2; omega) | (rw [if_neg (by omega)] at s2; omega)
                                                 · rw [ejm]
                                                   first | (rw [if_pos (by omega)] at s3; omega) | (rw [if_neg (by omega)] at s3; omega)
                                                 · rw [ejm]
                                                   first | (rw [if_pos (by omega)] at s4; omega) | (rw [if_neg (by omega)] at s4; omega)
                                                 · rw [ejm]
                                                   first | exact lcm2_y (by omega) (by omega) | exact lcm2_n e5 (by omega))
                                            · first
                                              | exact absurd d_163 (by omega)
                                              | (refine b_X4_common_170  ?_
                                                 refine b_X4_common_177  ?_
                                                 have ejm : j + -1 + 1 = j := by omega
                                                 refine ih _ _ _ _ _ (by omega) (by omega) (by omega) ?_ ?_ ?_ ?_
                                                 · rw [ejm]
                                                   first | (rw [if_pos (by omega)] at s2; omega) | (rw [if_neg (by omega)] at s2; omega)
                                                 · rw [ejm]
                                                   first | (rw [if_pos (by omega)] at s3; omega) | (rw [if_neg (by omega)] at s3; omega)
                                                 · rw [ejm]
                                                   first | (rw [if_pos (by omega)] at s4; omega) | (rw [if_neg (by omega)] at s4; omega)
                                                 · rw [ejm]
                                                   first | exact lcm2_y (by omega) (by omega) | exact lcm2_n e5 (by omega)))
                                       · first
                                         | exact absurd d_143 (by omega)
                                         | (refine b_X4_common_146 (by first | omega | assumption) ?_
                                            refine s_X4_times h0 (by omega) ?_
                                            refine b_X4_common_153  ?_
                                            refine b_X4_common_163 (by first | omega | assumption) (fun d_163 => ?_) (fun d_163 => ?_)
                                            · first
                                              | exact absurd d_163 (by omega)
                                              | (refine b_X4_common_175  ?_
                                                 refine b_X4_common_177  ?_
                                                 have ejm : j + -1 + 1 = j := by omega
                                                 refine ih _ _ _ _ _ (by omega) (by omega) (by omega) ?_ ?_ ?_ ?_
                                                 · rw [ejm]
                                                   first | (rw [if_pos (by omega)] at s2; omega) | (rw [if_neg (by omega)] at s2; omega)
                                                 · rw [ejm]
                                                   first | (rw [if_pos (by omega)] at s3; omega) | (rw [if_neg (by omega)] at s3; omega)
                                                 · rw [ejm]
                                                   first | (rw [if_pos (by omega)] at s4; omega) | (rw [if_neg (by omega)] at s4; omega)
                                                 · rw [ejm]
                                                   first | exact lcm2_y (by omega) (by omega) | exact lcm2_n e5 (by omega))
                                            · first
                                              | exact absurd d_163 (by omega)
                                              | (refine b_X4_common_170  ?_
                                                 refine b_X4_common_177  ?_
                                                 have ejm : j + -1 + 1 = j := by omega
                                                 refine ih _ _ _ _ _ (by omega) (by omega) (by omega) ?_ ?_ ?_ ?_
                                                 · rw [ejm]
                                                   first | (rw [if_pos (by omega)] at s2; omega) | (rw [if_neg (by omega)] at s2; omega)
                                                 · rw [ejm]
                                                   first | (rw [if_pos (by omega)] at s3; omega) | (rw [if_neg (by omega)] at s3; omega)
                                                 · rw [ejm]
                                                   first | (rw [if_pos (by omega)] at s4; omega) | (rw [if_neg (by omega)] at s4; omega)
                                                 · rw [ejm]
                                                   first | exact lcm2_y (by omega) (by omega) | exact lcm2_n e5 (by omega))))
                                  · first
                                    | exact absurd d_116 (by omega)
                                    | (refine b_X4_common_125  ?_
                                       refine b_X4_common_163 (by first | omega | assumption) (fun d_163 => ?_) (fun d_163 => ?_)
                                       · first
                                         | exact absurd d_163 (by omega)
                                         | (refine b_X4_common_175  ?_
                                            refine b_X4_common_177  ?_
                                            have ejm : j + -1 + 1 = j := by omega
                                            refine ih _ _ _ _ _ (by omega) (by omega) (by omega) ?_ ?_ ?_ ?_
                                            · rw [ejm]
                                              first | (rw [if_pos (by omega)] at s2; omega) | (rw [if_neg (by omega)] at s2; omega)
                                            · rw [ejm]
                                              first | (rw [if_pos (by omega)] at s3; omega) | (rw [if_neg (by omega)] at s3; omega)
                                            · rw [ejm]
                                              first | (rw [if_pos (by omega)] at s4; omega) | (rw [if_neg (by omega)] at s4; omega)
                                            · rw [ejm]
                                              first | exact lcm2_y (by omega) (by omega) | exact lcm2_n e5 (by omega))
                                       · first
                                         | exact absurd d_163 (by omega)
                                         | (refine b_X4_common_170  ?_
                                            refine b_X4_common_177  ?_
                                            have ejm : j + -1 + 1 = j := by omega
                                            refine ih _ _ _ _ _ (by omega) (by omega) (by omega) ?_ ?_ ?_ ?_
                                            · rw [ejm]
                                              first | (rw [if_pos (by omega)] at s2; omega) | (rw [if_neg (by omega)] at s2; omega)
                                            · rw [ejm]
                                              first | (rw [if_pos (by omega)] at s3; omega) | (rw [if_neg (by omega)] at s3; omega)
                                            · rw [ejm]
                                              first | (rw [if_pos (by omega)] at s4; omega) | (rw [if_neg (by omega)] at s4; omega)
                                            · rw [ejm]
                                              first | exact lcm2_y (by omega) (by omega) | exact lcm2_n e5 (by omega))))
                             · first
                               | exact absurd d_106 (by omega)
                               | (refine b_X4_common_111  ?_
                                  refine b_X4_common_116 (by first | omega | assumption) (fun d_116 => ?_) (fun d_116 => ?_)
                                  · first
                                    | exact absurd d_116 (by omega)
                                    | (refine b_X4_common_129 (by first | omega | assumption) ?_
                                       refine s_X4_times h0 (by omega) ?_
                                       refine b_X4_common_136 (by first | omega | assumption) ?_
                                       refine s_X4_times h1 (by omega) ?_
                                       refine b_X4_common_143 (by first | omega | assumption) (by first | omega | assumption) (fun d_143 => ?_) (fun d_143 => ?_)
                                       · first
                                         | exact absurd d_143 (by omega)
                                         | (refine b_X4_common_156 (by first | omega | assumption) ?_
                                            refine s_X4_times h1 (by omega) ?_
                                            refine b_X4_common_163 (by first | omega | assumption) (fun d_163 => ?_) (fun d_163 => ?_)
                                            · first
                                              | exact absurd d_163 (by omega)
                                              | (refine b_X4_common_175  ?_
                                                 refine b_X4_common_177  ?_
                                                 have ejm : j + -1 + 1 = j := by omega
                                                 refine ih _ _ _ _ _ (by omega) (by omega) (by omega) ?_ ?_ ?_ ?_
                                                 · rw [ejm]
                                                   first | (rw [if_pos (by omega)] at s2; omega) | (rw [if_neg (by omega)] at s2; omega)
                                                 · rw [ejm]
                                                   first | (rw [if_pos (by omega)] at s3; omega) | (rw [if_neg (by omega)] at s3; omega)
                                                 · rw [ejm]
                                                   first | (rw [if_pos (by omega)] at s4; omega) | (rw [if_neg (by omega)] at s4; omega)
                                                 · rw [ejm]
                                                   first | exact lcm2_y (by omega) (by omega) | exact lcm2_n e5 (by omega))
                                            · first
                                              | exact absurd d_163 (by omega)
                                              | (refine b_X4_common_170  ?_
                                                 refine b_X4_common_177  ?_
                                                 have ejm : j + -1 + 1 = j := by omega
                                                 refine ih _ _ _ _ _ (by omega) (by omega) (by omega) ?_ ?_ ?_ ?_
                                                 · rw [ejm]
                                                   first | (rw [if_pos (by omega)] at s2; omega) | (rw [if_neg (by omega)] at s2; omega)
                                                 · rw [ejm]
                                                   first | (rw [if_pos (by omega)] at s3; omega) | (rw [if_neg (by omega)] at s3; omega)
                                                 · rw [ejm]
                                                   first | (rw [if_pos (by omega)] at s4; omega) | (rw [if_neg (by omega)] at s4; omega)
                                                 · rw [ejm]
                                                   first | exact lcm2_y (by omega) (by omega) | exact lcm2_n e5 (by omega)))
                                       · first
                                         | exact absurd d_143 (by omega)
                                         | (refine b_X4_common_146 (by first | omega | assumption) ?_
                                            refine s_X4_times h0 (by omega) ?_
                                            refine b_X4_common_153  ?_
                                            refine b_X4_common_163 (by first | omega | assumption) (fun d_163 => ?_) (fun d_163 => ?_)
                                            · first
                                              | exact absurd d_163 (by omega)
                                              | (refine b_X4_common_175  ?_
                                                 refine b_X4_common_177  ?_
                                                 have ejm : j + -1 + 1 = j := by omega
                                                 refine ih _ _ _ _ _ (by omega) (by omega) (by omega) ?_ ?_ ?_ ?_
                                                 · rw [ejm]
                                                   first | (rw [if_pos (by omega)] at s2; omega) | (rw [if_neg (by omega)] at s2; omega)
                                                 · rw [ejm]
                                                   first | (rw [if_pos (by omega)] at s3; omega) | (rw [if_neg (by omega)] at s3; omega)
                                                 · rw [ejm]
                                                   first | (rw [if_pos (by omega)] at s4; omega) | (rw [if_neg (by omega)] at s4; omega)
                                                 · rw [ejm]
                                                   first | exact lcm2_y (by omega) (by omega) | exact lcm2_n e5 (by omega))
                                            · first
                                              | exact absurd d_163 (by omega)
                                              | (refine b_X4_common_170  ?_
                                                 refine b_X4_common_177  ?_
                                                 have ejm : j + -1 + 1 = j := by omega
                                                 refine ih _ _ _ _ _ (by omega) (by omega) (by omega) ?_ ?_ ?_ ?_
                                                 · rw [ejm]
                                                   first | (rw [if_pos (by omega)] at s2; omega) | (rw [if_neg (by omega)] at s2; omega)
                                                 · rw [ejm]
                                                   first | (rw [if_pos (by omega)] at s3; omega) | (rw [if_neg (by omega)] at s3; omega)
                                                 · rw [ejm]
                                                   first | (rw [if_pos (by omega)] at s4; omega) | (rw [if_neg (by omega)] at s4; omega)
                                                 · rw [ejm]
                                                   first | exact lcm2_y (by omega) (by omega) | exact lcm2_n e5 (by omega))))
                                  · first
                                    | exact absurd d_116 (by omega)
                                    | (refine b_X4_common_125  ?_
                                       refine b_X4_common_163 (by first | omega | assumption) (fun d_163 => ?_) (fun d_163 => ?_)
                                       · first
                                         | exact absurd d_163 (by omega)
                                         | (refine b_X4_common_175  ?_
                                            refine b_X4_common_177  ?_
                                            have ejm : j + -1 + 1 = j := by omega
                                            refine ih _ _ _ _ _ (by omega) (by omega) (by omega) ?_ ?_ ?_ ?_
                                            · rw [ejm]
                                              first | (rw [if_pos (by omega)] at s2; omega) | (rw [if_neg (by omega)] at s2; omega)
                                            · rw [ejm]
                                              first | (rw [if_pos (by omega)] at s3; omega) | (rw [if_neg (by omega)] at s3; omega)
                                            · rw [ejm]
                                              first | (rw [if_pos (by omega)] at s4; omega) | (rw [if_neg (by omega)] at s4; omega)
                                            · rw [ejm]
                                              first | exact lcm2_y (by omega) (by omega) | exact lcm2_n e5 (by omega))
                                       · first
                                         | exact absurd d_163 (by omega)
                                         | (refine b_X4_common_170  ?_
                                            refine b_X4_common_177  ?_
                                            have ejm : j + -1 + 1 = j := by omega
                                            refine ih _ _ _ _ _ (by omega) (by omega) (by omega) ?_ ?_ ?_ ?_
                                            · rw [ejm]
                                              first | (rw [if_pos (by omega)] at s2; omega) | (rw [if_neg (by omega)] at s2; omega)
                                            · rw [ejm]
                                              first | (rw [if_pos (by omega)] at s3; omega) | (rw [if_neg (by omega)] at s3; omega)
                                            · rw [ejm]
                                              first | (rw [if_pos (by omega)] at s4; omega) | (rw [if_neg (by omega)] at s4; omega)
                                            · rw [ejm]
                                              first | exact lcm2_y (by omega) (by omega) | exact lcm2_n e5 (by omega))))))
                   · first
                     | exact absurd d_79 (by omega)
                     | (refine b_X4_common_87 (by first | omega | assumption) (fun d_87 => ?_) (fun d_87 => ?_)
                        · first
                          | exact absurd d_87 (by omega)
                          | (refine b_X4_common_96  ?_
                             refine b_X4_common_97 (by first | omega | assumption) (fun d_97 => ?_) (fun d_97 => ?_)
                             · first
                               | exact absurd d_97 (by omega)
                               | (refine b_X4_common_115  ?_
                                  refine b_X4_common_116 (by first | omega | assumption) (fun d_116 => ?_) (fun d_116 => ?_)
                                  · first
                                    | exact absurd d_116 (by omega)
                                    | (refine b_X4_common_129 (by first | omega | assumption) ?_
                                       refine s_X4_times h0 (by omega) ?_
                                       refine b_X4_common_136 (by first | omega | assumption) ?_
                                       refine s_X4_times h1 (by omega) ?_
                                       refine b_X4_common_143 (by first | omega | assumption) (by first | omega | assumption) (fun d_143 => ?_) (fun d_143 => ?_)
                                       · first
                                         | exact absurd d_143 (by omega)
                                         | (refine b_X4_common_156 (by first | omega | assumption) ?_
                                            refine s_X4_times h1 (by omega) ?_
                                            refine b_X4_common_163 (by first | omega | assumption) (fun d_163 => ?_) (fun d_163 => ?_)
                                            · first
                                              | exact absurd d_163 (by omega)
                                              | (refine b_X4_common_175  ?_
                                                 refine b_X4_common_177  ?_
                                                 have ejm : j + -1 + 1 = j := by omega
                                                 refine ih _ _ _ _ _ (by omega) (by omega) (by omega) ?_ ?_ ?_ ?_
                                                 · rw [ejm]
                                                   first | (rw [if_pos (by omega)] at s2; omega) | (rw [if_neg (by omega)] at s2; omega)
                                                 · rw [ejm]
                                                   first | (rw [if_pos (by omega)] at s3; omega) | (rw [if_neg (by omega)] at s3; omega)
                                                 · rw [ejm]
                                                   first | (rw [if_pos (by omega)] at s4; omega) | (rw [if_neg (by omega)] at s4; omega)
                                                 · rw [ejm]
                                                   first | exact lcm2_y (by omega) (by omega) | exact lcm2_n e5 (by omega))
                                            · first
                                              | exact absurd d_163 (by omega)
                                              | (refine b_X4_common_170  ?_
                                                 refine b_X4_common_177  ?_
                                                 have ejm : j + -1 + 1 = j := by omega
                                                 refine ih _ _ _ _ _ (by omega) (by omega) (by omega) ?_ ?_ ?_ ?_
                                                 · rw [ejm]
                                                   first | (rw [if_pos (by omega)] at s2; omega) | (rw [if_neg (by omega)] at s2; omega)
                                                 · rw [ejm]
                                                   first | (rw [if_pos (by omega)] at s3; omega) | (rw [if_neg (by omega)] at s3; omega)
                                                 · rw [ejm]
                                                   first | (rw [if_pos (by omega)] at s4; omega) | (rw [if_neg (by omega)] at s4; omega)
                                                 · rw [ejm]
                                                   first | exact lcm2_y (by omega) (by omega) | exact lcm2_n e5 (by omega)))
                                       · first
                                         | exact absurd d_143 (by omega)
                                         | (refine b_X4_common_146 (by first | omega | assumption) ?_
                                            refine s_X4_times h0 (by omega) ?_
                                            refine b_X4_common_153  ?_
                                            refine b_X4_common_163 (by first | omega | assumption) (fun d_163 => ?_) (fun d_163 => ?_)
                                            · first
                                              | exact absurd d_163 (by omega)
                                              | (refine b_X4_common_175  ?_
                                                 refine b_X4_common_177  ?_
                                                 have ejm : j + -1 + 1 = j := by omega
                                                 refine ih _ _ _ _ _ (by omega) (by omega) (by omega) ?_ ?_ ?_ ?_
                                                 · rw [ejm]
                                                   first | (rw [if_pos (by omega)] at s2; omega) | (rw [if_neg (by omega)] at s2; omega)
                                                 · rw [ejm]
                                                   first | (rw [if_pos (by omega)] at s3; omega) | (rw [if_neg (by omega)] at s3; omega)
                                                 · rw [ejm]
                                                   first | (rw [if_pos (by omega)] at s4; omega) | (rw [if_neg (by omega)] at s4; omega)
                                                 · rw [ejm]
                                                   first | exact lcm2_y (by omega) (by omega) | exact lcm2_n e5 (by omega))
                                            · first
                                              | exact absurd d_163 (by omega)
                                              | (refine b_X4_common_170  ?_
                                                 refine b_X4_common_177  ?_
                                                 have ejm : j + -1 + 1 = j := by omega
                                                 refine ih _ _ _ _ _ (by omega) (by omega) (by omega) ?_ ?_ ?_ ?_
                                                 · rw [ejm]
                                                   first | (rw [if_pos (by omega)] at s2; omega) | (rw [if_neg (by omega)] at s2; omega)
                                                 · rw [ejm]
                                                   first | (rw [if_pos (by omega)] at s3; omega) | (rw [if_neg (by omega)] at s3; omega)
                                                 · rw [ejm]
                                                   first | (rw [if_pos (by omega)] at s4; omega) | (rw [if_neg (by omega)] at s4; omega)
                                                 · rw [ejm]
                                                   first | exact lcm2_y (by omega) (by omega) | exact lcm2_n e5 (by omega))))
                                  · first
                                    | exact absurd d_116 (by omega)
                                    | (refine b_X4_common_125  ?_
                                       refine b_X4_common_163 (by first | omega | assumption) (fun d_163 => ?_) (fun d_163 => ?_)
                                       · first
                                         | exact absurd d_163 (by omega)
                                         | (refine b_X4_common_175  ?_
                                            refine b_X4_common_177  ?_
                                            have ejm : j + -1 + 1 = j := by omega
                                            refine ih _ _ _ _ _ (by omega) (by omega) (by omega) ?_ ?_ ?_ ?_
                                            · rw [ejm]
                                              first | (rw [if_pos (by omega)] at s2; omega) | (rw [if_neg (by omega)] at s2; omega)
                                            · rw [ejm]
                                              first | (rw [if_pos (by omega)] at s3; omega) | (rw [if_neg (by omega)] at s3; omega)
                                            · rw [ejm]
                                              first | (rw [if_pos (by omega)] at s4; omega) | (rw [if_neg (by omega)] at s4; omega)
                                            · rw [ejm]
                                              first | exact lcm2_y (by omega) (by omega) | exact lcm2_n e5 (by omega))
                                       · first
                                         | exact absurd d_163 (by omega)
                                         | (refine b_X4_common_170  ?_
                                            refine b_X4_common_177  ?_
                                            have ejm : j + -1 + 1 = j := by omega
                                            refine ih _ _ _ _ _ (by omega) (by omega) (by omega) ?_ ?_ ?_ ?_
                                            · rw [ejm]
                                              first | (rw [if_pos (by omega)] at s2; omega) | (rw [if_neg (by omega)] at s2; omega)
                                            · rw [ejm]
                                              first | (rw [if_pos (by omega)] at s3; omega) | (rw [if_neg (by omega)] at s3; omega)
                                            · rw [ejm]
                                              first | (rw [if_pos (by omega)] at s4; omega) | (rw [if_neg (by omega)] at s4; omega)
                                            · rw [ejm]
                                              first | exact lcm2_y (by omega) (by omega) | exact lcm2_n e5 (by omega))))
                             · first
                               | exact absurd d_97 (by omega)
                               | (refine b_X4_common_106 (by first | omega | assumption) (fun d_106 => ?_) (fun d_106 => ?_)
                                  · first
                                    | exact absurd d_106 (by omega)
                                    | (refine b_X4_common_115  ?_
                                       refine b_X4_common_116 (by first | omega | assumption) (fun d_116 => ?_) (fun d_116 => ?_)
                                       · first
                                         | exact absurd d_116 (by omega)
                                         | (refine b_X4_common_129 (by first | omega | assumption) ?_
                                            refine s_X4_times h0 (by omega) ?_
                                            refine b_X4_common_136 (by first | omega | assumption) ?_
                                            refine s_X4_times h1 (by omega) ?_
                                            refine b_X4_common_143 (by first | omega | assumption) (by first | omega | assumption) (fun d_143 => ?_) (fun d_143 => ?_)
                                            · first
                                              | exact absurd d_143 (by omega)
                                              | (refine b_X4_common_156 (by first | omega | assumption) ?_
                                                 refine s_X4_times h1 (by omega) ?_
                                                 refine b_X4_common_163 (by first | omega | assumption) (fun d_163 => ?_) (fun d_163 => ?_)
                                                 · first
                                                   | exact absurd d_163 (by omega)
                                                   | (refine b_X4_common_175  ?_
                                                      refine b_X4_common_177  ?_
                                                      have ejm : j + -1 + 1 = j := by omega
                                                      refine ih _ _ _ _ _ (by omega) (by omega) (by omega) ?_ ?_ ?_ ?_
                                                      · rw [ejm]
                                                        first | (rw [if_pos (by omega)] at s2; omega) | (rw [if_neg (by omega)] at s2; omega)
                                                      · rw [ejm]
                                                        first | (rw [if_pos (by omega)] at s3; omega) | (rw [if_neg (by omega)] at s3; omega)
                                                      · rw [ejm]
                                                        first | (rw [if_pos (by omega)] at s4; omega) | (rw [if_neg (by omega)] at s4; omega)
                                                      · rw [ejm]
                                                        first | exact lcm2_y (by omega) (by omega) | exact lcm2_n e5 (by omega))
                                                 · first
                                                   | exact absurd d_163 (by omega)
                                                   | (refine b_X4_common_170  ?_
                                                      refine b_X4_common_177  ?_
                                                      have ejm : j + -1 + 1 = j := by omega
                                                      refine ih _ _ _ _ _ (by omega) (by omega) (by omega) ?_ ?_ ?_ ?_
                                                      · rw [ejm]
                                                        first | (rw [if_pos (by omega)] at s2; omega) | (rw [if_neg (by omega)] at s2; omega)
                                                      · rw [ejm]
                                                        first | (rw [if_pos (by omega)] at s3; omega) | (rw [if_neg (by omega)] at s3; omega)
                                                      · rw [ejm]
                                                        first | (rw [if_pos (by omega)] at s4; omega) | (rw [if_neg (by omega)] at s4; omega)
                                                      · rw [ejm]
                                                        first | exact lcm2_y (by omega) (by omega) | exact lcm2_n e5 (by omega)))
                                            · first
                                              | exact absurd d_143 (by omega)
                                              | (refine b_X4_common_146 (by first | omega | assumption) ?_
                                                 refine s_X4_times h0 (by omega) ?_
                                                 refine b_X4_common_153  ?_
                                                 refine b_X4_common_163 (by first | omega | assumption) (fun d_163 => ?_) (fun d_163 => ?_)
                                                 · first
                                                   | exact absurd d_163 (by omega)
                                                   | (refine b_X4_common_175  ?_
                                                      refine b_X4_common_177  ?_
                                                      have ejm : j + -1 + 1 = j := by omega
                                                      refine ih _ _ _ _ _ (by omega) (by omega) (by omega) ?_ ?_ ?_ ?_
                                                      · rw [ejm]
                                                        first | (rw [if_pos (by omega)] at s2; omega) | (rw [if_neg (by omega)] at s2; omega)
                                                      · rw [ejm]
                                                        first | (rw [if_pos (by omega)] at s3; omega) | (rw [if_neg (by omega)] at s3; omega)
                                                      · rw [ejm]
                                                        first | (rw [if_pos (by omega)] at s4; omega) | (rw [if_neg (by omega)] at s4; omega)
                                                      · rw [ejm]
                                                        first | exact lcm2_y (by omega) (by omega) | exact lcm2_n e5 (by omega))
                                                 · first
                                                   | exact absurd d_163 (by omega)
                                                   | (refine b_X4_common_170  ?_
                                                      refine b_X4_common_177  ?_
                                                      have ejm : j + -1 + 1 = j := by omega
                                                      refine ih _ _ _ _ _ (by omega) (by omega) (by omega) ?_ ?_ ?_ ?_
                                                      · rw [ejm]
                                                        first | (rw [if_pos (by omega)] at s2; omega) | (rw [if_neg (by omega)] at s2; omega)
                                                      · rw [ejm]
                                                        first | (rw [if_pos (by omega)] at s3; omega) | (rw [if_neg (by omega)] at s3; omega)
                                                      · rw [ejm]
                                                        first | (rw [if_pos (by omega)] at s4; omega) | (rw [if_neg (by omega)] at s4; omega)
                                                      · rw [ejm]
                                                        first | exact lcm2_y (by omega) (by omega) | exact lcm2_n e5 (by omega))))
                                       · first
                                         | exact absurd d_116 (by omega)
                                         | (refine b_X4_common_125  ?_
                                            refine b_X4_common_163 (by first | omega | assumption) (fun d_163 => ?_) (fun d_163 => ?_)
                                            · first
                                              | exact absurd d_163 (by omega)
                                              | (refine b_X4_common_175  ?_
                                                 refine b_X4_common_177  ?_
                                                 have ejm : j + -1 + 1 = j := by omega
                                                 refine ih _ _ _ _ _ (by omega) (by omega) (by omega) ?_ ?_ ?_ ?_
                                                 · rw [ejm]
                                                   first | (rw [if_pos (by omega)] at s2; omega) | (rw [if_neg (by omega)] at s2; omega)
                                                 · rw [ejm]
                                                   first | (rw [if_pos (by omega)] at s3; omega) | (rw [if_neg (by omega)] at s3; omega)
                                                 · rw [ejm]
                                                   first | (rw [if_pos (by omega)] at s4; omega) | (rw [if_neg (by omega)] at s4; omega)
                                                 · rw [ejm]
                                                   first | exact lcm2_y (by omega) (by omega) | exact lcm2_n e5 (by omega))
                                            · first
                                              | exact absurd d_163 (by omega)
                                              | (refine b_X4_common_170  ?_
                                                 refine b_X4_common_177  ?_
                                                 have ejm : j + -1 + 1 = j := by omega
                                                 refine ih _ _ _ _ _ (by omega) (by omega) (by omega) ?_ ?_ ?_ ?_
                                                 · rw [ejm]
                                                   first | (rw [if_pos (by omega)] at s2; omega) | (rw [if_neg (by omega)] at s2; omega)
                                                 · rw [ejm]
                                                   first | (rw [if_pos (by omega)] at s3; omega) | (rw [if_neg (by omega)] at s3; omega)
                                                 · rw [ejm]
                                                   first | (rw [if_pos (by omega)] at s4; omega) | (rw [if_neg (by omega)] at s4; omega)
                                                 · rw [ejm]
                                                   first | exact lcm2_y (by omega) (by omega) | exact lcm2_n e5 (by omega))))
                                  · first
                                    | exact absurd d_106 (by omega)
                                    | (refine b_X4_common_111  ?_
                                       refine b_X4_common_116 (by first | omega | assumption) (fun d_116 => ?_) (fun d_116 => ?_)
                                       · first
                                         | exact absurd d_116 (by omega)
                                         | (refine b_X4_common_129 (by first | omega | assumption) ?_
                                            refine s_X4_times h0 (by omega) ?_
                                            refine b_X4_common_136 (by first | omega | assumption) ?_
                                            refine s_X4_times h1 (by omega) ?_
                                            refine b_X4_common_143 (by first | omega | assumption) (by first | omega | assumption) (fun d_143 => ?_) (fun d_143 => ?_)
                                            · first
                                              | exact absurd d_143 (by omega)
                                              | (refine b_X4_common_156 (by first | omega | assumption) ?_
                                                 refine s_X4_times h1 (by omega) ?_
                                                 refine b_X4_common_163 (by first | omega | assumption) (fun d_163 => ?_) (fun d_163 => ?_)
                                                 · first
                                                   | exact absurd d_163 (by omega)
                                                   | (refine b_X4_common_175  ?_
                                                      refine b_X4_common_177  ?_
                                                      have ejm : j + -1 + 1 = j := by omega
                                                      refine ih _ _ _ _ _ (by omega) (by omega) (by omega) ?_ ?_ ?_ ?_
                                                      · rw [ejm]
                                                        first | (rw [if_pos (by omega)] at s2; omega) | (rw [if_neg (by omega)] at s2; omega)
                                                      · rw [ejm]
                                                        first | (rw [if_pos (by omega)] at s3; omega) | (rw [if_neg (by omega)] at s3; omega)
                                                      · rw [ejm]
                                                        first | (rw [if_pos (by omega)] at s4; omega) | (rw [if_neg (by omega)] at s4; omega)
                                                      · rw [ejm]
                                                        first | exact lcm2_y (by omega) (by omega) | exact lcm2_n e5 (by omega))
                                                 · first
                                                   | exact absurd d_163 (by omega)
                                                   | (refine b_X4_common_170  ?_
                                                      refine b_X4_common_177  ?_
                                                      have ejm : j + -1 + 1 = j := by omega
                                                      refine ih _ _ _ _ _ (by omega) (by omega) (by omega) ?_ ?_ ?_ ?_
                                                      · rw [ejm]
                                                        first | (rw [if_pos (by omega)] at s2; omega) | (rw [if_neg (by omega)] at s2; omega)
                                                      · rw [ejm]
                                                        first | (rw [if_pos (by omega)] at s3; omega) | (rw [if_neg (by omega)] at s3; omega)
                                                      · rw [ejm]
                                                        first | (rw [if_pos (by omega)] at s4; omega) | (rw [if_neg (by omega)] at s4; omega)
                                                      · rw [ejm]
                                                        first | exact lcm2_y (by omega) (by omega) | exact lcm2_n e5 (by omega)))
                                            · first
                                              | exact absurd d_143 (by omega)
                                              | (refine b_X4_common_146 (by first | omega | assumption) ?_
                                                 refine s_X4_times h0 (by omega) ?_
                                                 refine b_X4_common_153  ?_
                                                 refine b_X4_common_163 (by first | omega | assumption) (fun d_163 => ?_) (fun d_163 => ?_)
                                                 · first
                                                   | exact absurd d_163 (by omega)
                                                   | (refine b_X4_common_175  ?_
                                                      refine b_X4_common_177  ?_
                                                      have ejm : j + -1 + 1 = j := by omega
                                                      refine ih _ _ _ _ _ (by omega) (by omega) (by omega) ?_ ?_ ?_ ?_
                                                      · rw [ejm]
                                                        first | (rw [if_pos (by omega)] at s2; omega) | (rw [if_neg (by omega)] at s2; omega)
                                                      · rw [ejm]
                                                        first | (rw [if_pos (by omega)] at s3; omega) | (rw [if_neg (by omega)] at s3; omega)
                                                      · rw [ejm]
                                                        first | (rw [if_pos (by omega)] at s4; omega) | (rw [if_neg (by omega)] at s4; omega)
                                                      · rw [ejm]
                                                        first | exact lcm2_y (by omega) (by omega) | exact lcm2_n e5 (by omega))
                                                 · first
                                                   | exact absurd d_163 (by omega)
                                                   | (refine b_X4_common_170  ?_
                                                      refine b_X4_common_177  ?_
                                                      have ejm : j + -1 + 1 = j := by omega
                                                      refine ih _ _ _ _ _ (by omega) (by omega) (by omega) ?_ ?_ ?_ ?_
                                                      · rw [ejm]
                                                        first | (rw [if_pos (by omega)] at s2; omega) | (rw [if_neg (by omega)] at s2; omega)
                                                      · rw [ejm]
                                                        first | (rw [if_pos (by omega)] at s3; omega) | (rw [if_neg (by omega)] at s3; omega)
                                                      · rw [ejm]
                                                        first | (rw [if_pos (by omega)] at s4; omega) | (rw [if_neg (by omega)] at s4; omega)
                                                      · rw [ejm]
                                                        first | exact lcm2_y (by omega) (by omega) | exact lcm2_n e5 (by omega))))
                                       · first
                                         | exact absurd d_116 (by omega)
                                         | (refine b_X4_common_125  ?_
                                            refine b_X4_common_163 (by first | omega | assumption) (fun d_163 => ?_) (fun d_163 => ?_)
                                            · first
                                              | exact absurd d_163 (by omega)
                                              | (refine b_X4_common_175  ?_
                                                 refine b_X4_common_177  ?_
                                                 have ejm : j + -1 + 1 = j := by omega
                                                 refine ih _ _ _ _ _ (by omega) (by omega) (by omega) ?_ ?_ ?_ ?_
                                                 · rw [ejm]
                                                   first | (rw [if_pos (by omega)] at s2; omega) | (rw [if_neg (by omega)] at s2; omega)
                                                 · rw [ejm]
                                                   first | (rw [if_pos (by omega)] at s3; omega) | (rw [if_neg (by omega)] at s3; omega)
                                                 · rw [ejm]
                                                   first | (rw [if_pos (by omega)] at s4; omega) | (rw [if_neg (by omega)] at s4; omega)
                                                 · rw [ejm]
                                                   first | exact lcm2_y (by omega) (by omega) | exact lcm2_n e5 (by omega))
                                            · first
                                              | exact absurd d_163 (by omega)
                                              | (refine b_X4_common_170  ?_
                                                 refine b_X4_common_177  ?_
                                                 have ejm : j + -1 + 1 = j := by omega
                                                 refine ih _ _ _ _ _ (by omega) (by omega) (by omega) ?_ ?_ ?_ ?_
                                                 · rw [ejm]
                                                   first | (rw [if_pos (by omega)] at s2; omega) | (rw [if_neg (by omega)] at s2; omega)
                                                 · rw [ejm]
                                                   first | (rw [if_pos (by omega)] at s3; omega) | (rw [if_neg (by omega)] at s3; omega)
                                                 · rw [ejm]
                                                   first | (rw [if_pos (by omega)] at s4; omega) | (rw [if_neg (by omega)] at s4; omega)
                                                 · rw [ejm]
                                                   first | exact lcm2_y (by omega) (by omega) | exact lcm2_n e5 (by omega))))))
                        · first
                          | exact absurd d_87 (by omega)
                          | (refine b_X4_common_92  ?_
                             refine b_X4_common_97 (by first | omega | assumption) (fun d_97 => ?_) (fun d_97 => ?_)
                             · first
                               | exact absurd d_97 (by omega)
                               | (refine b_X4_common_115  ?_
                                  refine b_X4_common_116 (by first | omega | assumption) (fun d_116 => ?_) (fun d_116 => ?_)
                                  · first
                                    | exact absurd d_116 (by omega)
                                    | (refine b_X4_common_129 (by first | omega | assumption) ?_
                                       refine s_X4_times h0 (by omega) ?_
                                       refine b_X4_common_136 (by first | omega | assumption) ?_
                                       refine s_X4_times h1 (by omega) ?_
                                       refine b_X4_common_143 (by first | omega | assumption) (by first | omega | assumption) (fun d_143 => ?_) (fun d_143 => ?_)
                                       · first
                                         | exact absurd d_143 (by omega)
                                         | (refine b_X4_common_156 (by first | omega | assumption) ?_
                                            refine s_X4_times h1 (by omega) ?_
                                            refine b_X4_common_163 (by first | omega | assumption) (fun d_163 => ?_) (fun d_163 => ?_)
                                            · first
                                              | exact absurd d_163 (by omega)
                                              | (refine b_X4_common_175  ?_
                                                 refine b_X4_common_177  ?_
                                                 have ejm : j + -1 + 1 = j := by omega
                                                 refine ih _ _ _ _ _ (by omega) (by omega) (by omega) ?_ ?_ ?_ ?_
                                                 · rw [ejm]
                                                   first | (rw [if_pos (by omega)] at s2; omega) | (rw [if_neg (by omega)] at s2; omega)
                                                 · rw [ejm]
                                                   first | (rw [if_pos (by omega)] at s3; omega) | (rw [if_neg (by omega)] at s3; omega)
                                                 · rw [ejm]
                                                   first | (rw [if_pos (by omega)] at s4; omega) | (rw [if_neg (by omega)] at s4; omega)
                                                 · rw [ejm]
                                                   first | exact lcm2_y (by omega) (by omega) | exact lcm2_n e5 (by omega))
                                            · first
                                              | exact absurd d_163 (by omega)
                                              | (refine b_X4_common_170  ?_
                                                 refine b_X4_common_177  ?_
                                                 have ejm : j + -1 + 1 = j := by omega
                                                 refine ih _ _ _ _ _ (by omega) (by omega) (by omega) ?_ ?_ ?_ ?_
                                                 · rw [ejm]
                                                   first | (rw [if_pos (by omega)] at s2; omega) | (rw [if_neg (by omega)] at s2; omega)
                                                 · rw [ejm]
                                                   first | (rw [if_pos (by omega)] at s3; omega) | (rw [if_neg (by omega)] at s3; omega)
                                                 · rw [ejm]
                                                   first | (rw [if_pos (by omega)] at s4; omega) | (rw [if_neg (by omega)] at s4; omega)
                                                 · rw [ejm]
                                                   first | exact lcm2_y (by omega) (by omega) | exact lcm2_n e5 (by omega)))
                                       · first
                                         | exact absurd d_143 (by omega)
                                         | (refine b_X4_common_146 (by first | omega | assumption) ?_
                                            refine s_X4_times h0 (by omega) ?_
                                            refine b_X4_common_153  ?_
                                            refine b_X4_common_163 (by first | omega | assumption) (fun d_163 => ?_) (fun d_163 => ?_)
                                            · first
                                              | exact absurd d_163 (by omega)
                                              | (refine b_X4_common_175  ?_
                                                 refine b_X4_common_177  ?_
                                                 have ejm : j + -1 + 1 = j := by omega
                                                 refine ih _ _ _ _ _ (by omega) (by omega) (by omega) ?_ ?_ ?_ ?_
                                                 · rw [ejm]
                                                   first | (rw [if_pos (by omega)] at s2; omega) | (rw [if_neg (by omega)] at s2; omega)
                                                 · rw [ejm]
                                                   first | (rw [if_pos (by omega)] at s3; omega) | (rw [if_neg (by omega)] at s3; omega)
                                                 · rw [ejm]
                                                   first | (rw [if_pos (by omega)] at s4; omega) | (rw [if_neg (by omega)] at s4; omega)
                                                 · rw [ejm]
                                                   first | exact lcm2_y (by omega) (by omega) | exact lcm2_n e5 (by omega))
                                            · first
                                              | exact absurd d_163 (by omega)
                                              | (refine b_X4_common_170  ?_
                                                 refine b_X4_common_177  ?_
                                                 have ejm : j + -1 + 1 = j := by omega
                                                 refine ih _ _ _ _ _ (by omega) (by omega) (by omega) ?_ ?_ ?_ ?_
                                                 · rw [ejm]
                                                   first | (rw [if_pos (by omega)] at s2; omega) | (rw [if_neg (by omega)] at s2; omega)
                                                 · rw [ejm]
                                                   first | (rw [if_pos (by omega)] at s3; omega) | (rw [if_neg (by omega)] at s3; omega)
                                                 · rw [ejm]
                                                   first | (rw [if_pos (by omega)] at s4; omega) | (rw [if_neg (by omega)] at s4; omega)
                                                 · rw [ejm]
                                                   first | exact lcm2_y (by omega) (by omega) | exact lcm2_n e5 (by omega))))
                                  · first
                                    | exact absurd d_116 (by omega)
                                    | (refine b_X4_common_125  ?_
                                       refine b_X4_common_163 (by first | omega | assumption) (fun d_163 => ?_) (fun d_163 => ?_)
                                       · first
                                         | exact absurd d_163 (by omega)
                                         | (refine b_X4_common_175  ?_
                                            refine b_X4_common_177  ?_
                                            have ejm : j + -1 + 1 = j := by omega
                                            refine ih _ _ _ _ _ (by omega) (by omega) (by omega) ?_ ?_ ?_ ?_
                                            · rw [ejm]
                                              first | (rw [if_pos (by omega)] at s2; omega) | (rw [if_neg (by omega)] at s2; omega)
                                            · rw [ejm]
                                              first | (rw [if_pos (by omega)] at s3; omega) | (rw [if_neg (by omega)] at s3; omega)
                                            · rw [ejm]
                                              first | (rw [if_pos (by omega)] at s4; omega) | (rw [if_neg (by omega)] at s4; omega)
                                            · rw [ejm]
                                              first | exact lcm2_y (by omega) (by omega) | exact lcm2_n e5 (by omega))
                                       · first
                                         | exact absurd d_163 (by omega)
                                         | (refine b_X4_common_170  ?_
                                            refine b_X4_common_177  ?_
                                            have ejm : j + -1 + 1 = j := by omega
                                            refine ih _ _ _ _ _ (by omega) (by omega) (by omega) ?_ ?_ ?_ ?_
                                            · rw [ejm]
                                              first | (rw [if_pos (by omega)] at s2; omega) | (rw [if_neg (by omega)] at s2; omega)
                                            · rw [ejm]
                                              first | (rw [if_pos (by omega)] at s3; omega) | (rw [if_neg (by omega)] at s3; omega)
                                            · rw [ejm]
                                              first | (rw [if_pos (by omega)] at s4; omega) | (rw [if_neg (by omega)] at s4; omega)
                                            · rw [ejm]
                                              first | exact lcm2_y (by omega) (by omega) | exact lcm2_n e5 (by omega))))
                             · first
                               | exact absurd d_97 (by omega)
                               | (refine b_X4_common_106 (by first | omega | assumption) (fun d_106 => ?_) (fun d_106 => ?_)
                                  · first
                                    | exact absurd d_106 (by omega)
                                    | (refine b_X4_common_115  ?_
                                       refine b_X4_common_116 (by first | omega | assumption) (fun d_116 => ?_) (fun d_116 => ?_)
                                       · first
                                         | exact absurd d_116 (by omega)
                                         | (refine b_X4_common_129 (by first | omega | assumption) ?_
                                            refine s_X4_times h0 (by omega) ?_
                                            refine b_X4_common_136 (by first | omega | assumption) ?_
                                            refine s_X4_times h1 (by omega) ?_
                                            refine b_X4_common_143 (by first | omega | assumption) (by first | omega | assumption) (fun d_143 => ?_) (fun d_143 => ?_)
                                            · first
                                              | exact absurd d_143 (by omega)
                                              | (refine b_X4_common_156 (by first | omega | assumption) ?_
                                                 refine s_X4_times h1 (by omega) ?_
                                                 refine b_X4_common_163 (by first | omega | assumption) (fun d_163 => ?_) (fun d_163 => ?_)
                                                 · first
                                                   | exact absurd d_163 (by omega)
                                                   | (refine b_X4_common_175  ?_
                                                      refine b_X4_common_177  ?_
                                                      have ejm : j + -1 + 1 = j := by omega
                                                      refine ih _ _ _ _ _ (by omega) (by omega) (by omega) ?_ ?_ ?_ ?_
                                                      · rw [ejm]
                                                        first | (rw [if_pos (by omega)] at s2; omega) | (rw [if_neg (by omega)] at s2; omega)
                                                      · rw [ejm]
                                                        first | (rw [if_pos (by omega)] at s3; omega) | (rw [if_neg (by omega)] at s3; omega)
                                                      · rw [ejm]
                                                        first | (rw [if_pos (by omega)] at s4; omega) | (rw [if_neg (by omega)] at s4; omega)
                                                      · rw [ejm]
                                                        first | exact lcm2_y (by omega) (by omega) | exact lcm2_n e5 (by omega))
                                                 · first
                                                   | exact absurd d_163 (by omega)
                                                   | (refine b_X4_common_170  ?_
                                                      refine b_X4_common_177  ?_
                                                      have ejm : j + -1 + 1 = j := by omega
                                                      refine ih _ _ _ _ _ (by omega) (by omega) (by omega) ?_ ?_ ?_ ?_
                                                      · rw [ejm]
                                                        first | (rw [if_pos (by omega)] at s2; omega) | (rw [if_neg (by omega)] at s2; omega)
                                                      · rw [ejm]
                                                        first | (rw [if_pos (by omega)] at s3; omega) | (rw [if_neg (by omega)] at s3; omega)
                                                      · rw [ejm]
                                                        first | (rw [if_pos (by omega)] at s4; omega) | (rw [if_neg (by omega)] at s4; omega)
                                                      · rw [ejm]
                                                        first | exact lcm2_y (by omega) (by omega) | exact lcm2_n e5 (by omega)))
                                            · first
                                              | exact absurd d_143 (by omega)
                                              | (refine b_X4_common_146 (by first | omega | assumption) ?_
                                                 refine s_X4_times h0 (by omega) ?_
                                                 refine b_X4_common_153  ?_
                                                 refine b_X4_common_163 (by first | omega | assumption) (fun d_163 => ?_) (fun d_163 => ?_)
                                                 · first
                                                   | exact absurd d_163 (by omega)
                                                   | (refine b_X4_common_175  ?_
                                                      refine b_X4_common_177  ?_
                                                      have ejm : j + -1 + 1 = j := by omega
                                                      refine ih _ _ _ _ _ (by omega) (by omega) (by omega) ?_ ?_ ?_ ?_
                                                      · rw [ejm]
                                                        first | (rw [if_pos (by omega)] at s2; omega) | (rw [if_neg (by omega)] at s2; omega)
                                                      · rw [ejm]
                                                        first | (rw [if_pos (by omega)] at s3; omega) | (rw [if_neg (by omega)] at s3; omega)
                                                      · rw [ejm]
                                                        first | (rw [if_pos (by omega)] at s4; omega) | (rw [if_neg (by omega)] at s4; omega)
                                                      · rw [ejm]
                                                        first | exact lcm2_y (by omega) (by omega) | exact lcm2_n e5 (by omega))
                                                 · first
                                                   | exact absurd d_163 (by omega)
                                                   | (refine b_X4_common_170  ?_
                                                      refine b_X4_common_177  ?_
                                                      have ejm : j + -1 + 1 = j := by omega
                                                      refine ih _ _ _ _ _ (by omega) (by omega) (by omega) ?_ ?_ ?_ ?_
                                                      · rw [ejm]
                                                        first | (rw [if_pos (by omega)] at s2; omega) | (rw [if_neg (by omega)] at s2; omega)
                                                      · rw [ejm]
                                                        first | (rw [if_pos (by omega)] at s3; omega) | (rw [if_neg (by omega)] at s3; omega)
                                                      · rw [ejm]
                                                        first | (rw [if_pos (by omega)] at s4; omega) | (rw [if_neg (by omega)] at s4; omega)
                                                      · rw [ejm]
                                                        first | exact lcm2_y (by omega) (by omega) | exact lcm2_n e5 (by omega))))
                                       · first
                                         | exact absurd d_116 (by omega)
                                         | (refine b_X4_common_125  ?_
                                            refine b_X4_common_163 (by first | omega | assumption) (fun d_163 => ?_) (fun d_163 => ?_)
                                            · first
                                              | exact absurd d_163 (by omega)
                                              | (refine b_X4_common_175  ?_
                                                 refine b_X4_common_177  ?_
                                                 have ejm : j + -1 + 1 = j := by omega
                                                 refine ih _ _ _ _ _ (by omega) (by omega) (by omega) ?_ ?_ ?_ ?_
                                                 · rw [ejm]
                                                   first | (rw [if_pos (by omega)] at s2; omega) | (rw [if_neg (by omega)] at s2; omega)
                                                 · rw [ejm]
                                                   first | (rw [if_pos (by omega)] at s3; omega) | (rw [if_neg (by omega)] at s3; omega)
                                                 · rw [ejm]
                                                   first | (rw [if_pos (by omega)] at s4; omega) | (rw [if_neg (by omega)] at s4; omega)
                                                 · rw [ejm]
                                                   first | exact lcm2_y (by omega) (by omega) | exact lcm2_n e5 (by omega))
                                            · first
                                              | exact absurd d_163 (by omega)
                                              | (refine b_X4_common_170  ?_
                                                 refine b_X4_common_177  ?_
                                                 have ejm : j + -1 + 1 = j := by omega
                                                 refine ih _ _ _ _ _ (by omega) (by omega) (by omega) ?_ ?_ ?_ ?_
                                                 · rw [ejm]
                                                   first | (rw [if_pos (by omega)] at s2; omega) | (rw [if_neg (by omega)] at s2; omega)
                                                 · rw [ejm]
                                                   first | (rw [if_pos (by omega)] at s3; omega) | (rw [if_neg (by omega)] at s3; omega)
                                                 · rw [ejm]
                                                   first | (rw [if_pos (by omega)] at s4; omega) | (rw [if_neg (by omega)] at s4; omega)
                                                 · rw [ejm]
                                                   first | exact lcm2_y (by omega) (by omega) | exact lcm2_n e5 (by omega))))
                                  · first
                                    | exact absurd d_106 (by omega)
                                    | (refine b_X4_common_111  ?_
                                       refine b_X4_common_116 (by first | omega | assumption) (fun d_116 => ?_) (fun d_116 => ?_)
                                       · first
                                         | exact absurd d_116 (by omega)
                                         | (refine b_X4_common_129 (by first | omega | assumption) ?_
                                            refine s_X4_times h0 (by omega) ?_
                                            refine b_X4_common_136 (by first | omega | assumption) ?_
                                            refine s_X4_times h1 (by omega) ?_
                                            refine b_X4_common_143 (by first | omega | assumption) (by first | omega | assumption) (fun d_143 => ?_) (fun d_143 => ?_)
                                            · first
                                              | exact absurd d_143 (by omega)
                                              | (refine b_X4_common_156 (by first | omega | assumption) ?_
                                                 refine s_X4_times h1 (by omega) ?_
                                                 refine b_X4_common_163 (by first | omega | assumption) (fun d_163 => ?_) (fun d_163 => ?_)
                                                 · first
                                                   | exact absurd d_163 (by omega)
                                                   | (refine b_X4_common_175  ?_
                                                      refine b_X4_common_177  ?_
                                                      have ejm : j + -1 + 1 = j := by omega
                                                      refine ih _ _ _ _ _ (by omega) (by omega) (by omega) ?_ ?_ ?_ ?_
                                                      · rw [ejm]
                                                        first | (rw [if_pos (by omega)] at s2; omega) | (rw [if_neg (by omega)] at s2; omega)
                                                      · rw [ejm]
                                                        first | (rw [if_pos (by omega)] at s3; omega) | (rw [if_neg (by omega)] at s3; omega)
                                                      · rw [ejm]
                                                        first | (rw [if_pos (by omega)] at s4; omega) | (rw [if_neg (by omega)] at s4; omega)
                                                      · rw [ejm]
                                                        first | exact lcm2_y (by omega) (by omega) | exact lcm2_n e5 (by omega))
                                                 · first
                                                   | exact absurd d_163 (by omega)
                                                   | (refine b_X4_common_170  ?_
                                                      refine b_X4_common_177  ?_
                                                      have ejm : j + -1 + 1 = j := by omega
                                                      refine ih _ _ _ _ _ (by omega) (by omega) (by omega) ?_ ?_ ?_ ?_
                                                      · rw [ejm]
                                                        first | (rw [if_pos (by omega)] at s2; omega) | (rw [if_neg (by omega)] at s2; omega)
                                                      · rw [ejm]
                                                        first | (rw [if_pos (by omega)] at s3; omega) | (rw [if_neg (by omega)] at s3; omega)
                                                      · rw [ejm]
                                                        first | (rw [if_pos (by omega)] at s4; omega) | (rw [if_neg (by omega)] at s4; omega)
                                                      · rw [ejm]
                                                        first | exact lcm2_y (by omega) (by omega) | exact lcm2_n e5 (by omega)))
                                            · first
                                              | exact absurd d_143 (by omega)
                                              | (refine b_X4_common_146 (by first | omega | assumption) ?_
                                                 refine s_X4_times h0 (by omega) ?_
                                                 refine b_X4_common_153  ?_
                                                 refine b_X4_common_163 (by first | omega | assumption) (fun d_163 => ?_) (fun d_163 => ?_)
                                                 · first
                                                   | exact absurd d_163 (by omega)
                                                   | (refine b_X4_common_175  ?_
                                                      refine b_X4_common_177  ?_
                                                      have ejm : j + -1 + 1 = j := by omega
                                                      refine ih _ _ _ _ _ (by omega) (by omega) (by omega) ?_ ?_ ?_ ?_
                                                      · rw [ejm]
                                                        first | (rw [if_pos (by omega)] at s2; omega) | (rw [if_neg (by omega)] at s2; omega)
                                                      · rw [ejm]
                                                        first | (rw [if_pos (by omega)] at s3; omega) | (rw [if_neg (by omega)] at s3; omega)
                                                      · rw [ejm]
                                                        first | (rw [if_pos (by omega)] at s4; omega) | (rw [if_neg (by omega)] at s4; omega)
                                                      · rw [ejm]
                                                        first | exact lcm2_y (by omega) (by omega) | exact lcm2_n e5 (by omega))
                                                 · first
                                                   | exact absurd d_163 (by omega)
                                                   | (refine b_X4_common_170  ?_
                                                      refine b_X4_common_177  ?_
                                                      have ejm : j + -1 + 1 = j := by omega
                                                      refine ih _ _ _ _ _ (by omega) (by omega) (by omega) ?_ ?_ ?_ ?_
                                                      · rw [ejm]
                                                        first | (rw [if_pos (by omega)] at s2; omega) | (rw [if_neg (by omega)] at s2; omega)
                                                      · rw [ejm]
                                                        first | (rw [if_pos (by omega)] at s3; omega) | (rw [if_neg (by omega)] at s3; omega)
                                                      · rw [ejm]
                                                        first | (rw [if_pos (by omega)] at s4; omega) | (rw [if_neg (by omega)] at s4; omega)
                                                      · rw [ejm]
                                                        first | exact lcm2_y (by omega) (by omega) | exact lcm2_n e5 (by omega))))
                                       · first
                                         | exact absurd d_116 (by omega)
                                         | (refine b_X4_common_125  ?_
                                            refine b_X4_common_163 (by first | omega | assumption) (fun d_163 => ?_) (fun d_163 => ?_)
                                            · first
                                              | exact absurd d_163 (by omega)
                                              | (refine b_X4_common_175  ?_
                                                 refine b_X4_common_177  ?_
                                                 have ejm : j + -1 + 1 = j := by omega
                                                 refine ih _ _ _ _ _ (by omega) (by omega) (by omega) ?_ ?_ ?_ ?_
                                                 · rw [ejm]
                                                   first | (rw [if_pos (by omega)] at s2; omega) | (rw [if_neg (by omega)] at s2; omega)
                                                 · rw [ejm]
                                                   first | (rw [if_pos (by omega)] at s3; omega) | (rw [if_neg (by omega)] at s3; omega)
                                                 · rw [ejm]
                                                   first | (rw [if_pos (by omega)] at s4; omega) | (rw [if_neg (by omega)] at s4; omega)
                                                 · rw [ejm]
                                                   first | exact lcm2_y (by omega) (by omega) | exact lcm2_n e5 (by omega))
                                            · first
                                              | exact absurd d_163 (by omega)
                                              | (refine b_X4_common_170  ?_
                                                 refine b_X4_common_177  ?_
                                                 have ejm : j + -1 + 1 = j := by omega
                                                 refine ih _ _ _ _ _ (by omega) (by omega) (by omega) ?_ ?_ ?_ ?_
                                                 · rw [ejm]
                                                   first | (rw [if_pos (by omega)] at s2; omega) | (rw [if_neg (by omega)] at s2; omega)
                                                 · rw [ejm]
                                                   first | (rw [if_pos (by omega)] at s3; omega) | (rw [if_neg (by omega)] at s3; omega)
                                                 · rw [ejm]
                                                   first | (rw [if_pos (by omega)] at s4; omega) | (rw [if_neg (by omega)] at s4; omega)
                                                 · rw [ejm]
                                                   first | exact lcm2_y (by omega) (by omega) | exact lcm2_n e5 (by omega))))))))
              · first
                | exact absurd d_60 (by omega)
                | (refine b_X4_common_65  ?_
                   refine b_X4_common_70 (by first | omega | assumption) ?_
                   refine s_X4_has h1 (by omega) (fun r hr => ?_)
                   have hr2 : (r = 1 ∧ 0 < tm (mf w 1) m (mf w 0 j)) ∨ (r = 0 ∧ ¬ 0 < tm (mf w 1) m (mf w 0 j)) := by rw [dh]; exact hr
                   clear hr dh
                   refine b_X4_common_79 (by first | omega | assumption) (fun d_79 => ?_) (fun d_79 => ?_)
                   · first
                     | exact absurd d_79 (by omega)
                     | (refine b_X4_common_96  ?_
                        refine b_X4_common_97 (by first | omega | assumption) (fun d_97 => ?_) (fun d_97 => ?_)
                        · first
                          | exact absurd d_97 (by omega)
                          | (refine b_X4_common_115  ?_
                             refine b_X4_common_116 (by first | omega | assumption) (fun d_116 => ?_) (fun d_116 => ?_)
                             · first
                               | exact absurd d_116 (by omega)
                               | (refine b_X4_common_129 (by first | omega | assumption) ?_
                                  refine s_X4_times h0 (by omega) ?_
                                  refine b_X4_common_136 (by first | omega | assumption) ?_
                                  refine s_X4_times h1 (by omega) ?_
                                  refine b_X4_common_143 (by first | omega | assumption) (by first | omega | assumption) (fun d_143 => ?_) (fun d_143 => ?_)
                                  · first
                                    | exact absurd d_143 (by omega)
                                    | (refine b_X4_common_156 (by first | omega | assumption) ?_
                                       refine s_X4_times h1 (by omega) ?_
                                       refine b_X4_common_163 (by first | omega | assumption) (fun d_163 => ?_) (fun d_163 => ?_)
                                       · first
                                         | exact absurd d_163 (by omega)
                                         | (refine b_X4_common_175  ?_
                                            refine b_X4_common_177  ?_
                                            have ejm : j + -1 + 1 = j := by omega
                                            refine ih _ _ _ _ _ (by omega) (by omega) (by omega) ?_ ?_ ?_ ?_
                                            · rw [ejm]
                                              first | (rw [if_pos (by omega)] at s2; omega) | (rw [if_neg (by omega)] at s2; omega)
                                            · rw [ejm]
                                              first | (rw [if_pos (by omega)] at s3; omega) | (rw [if_neg (by omega)] at s3; omega)
                                            · rw [ejm]
                                              first | (rw [if_pos (by omega)] at s4; omega) | (rw [if_neg (by omega)] at s4; omega)
                                            · rw [ejm]
                                              first | exact lcm2_y (by omega) (by omega) | exact lcm2_n e5 (by omega))
                                       · first
                                         | exact absurd d_163 (by omega)
                                         | (refine b_X4_common_170  ?_
                                            refine b_X4_common_177  ?_
                                            have ejm : j + -1 + 1 = j := by omega
                                            refine ih _ _ _ _ _ (by omega) (by omega) (by omega) ?_ ?_ ?_ ?_
                                            · rw [ejm]
                                              first | (rw [if_pos (by omega)] at s2; omega) | (rw [if_neg (by omega)] at s2; omega)
                                            · rw [ejm]
                                              first | (rw [if_pos (by omega)] at s3; omega) | (rw [if_neg (by omega)] at s3; omega)
                                            · rw [ejm]
                                              first | (rw [if_pos (by omega)] at s4; omega) | (rw [if_neg (by omega)] at s4; omega)
                                            · rw [ejm]
                                              first | exact lcm2_y (by omega) (by omega) | exact lcm2_n e5 (by omega)))
                                  · first
                                    | exact absurd d_143 (by omega)
                                    | (refine b_X4_common_146 (by first | omega | assumption) ?_
                                       refine s_X4_times h0 (by omega) ?_
                                       refine b_X4_common_153  ?_
                                       refine b_X4_common_163 (by first | omega | assumption) (fun d_163 => ?_) (fun d_163 => ?_)
                                       · first
                                         | exact absurd d_163 (by omega)
                                         | (refine b_X4_common_175  ?_
                                            refine b_X4_common_177  ?_
                                            have ejm : j + -1 + 1 = j := by omega
                                            refine ih _ _ _ _ _ (by omega) (by omega) (by omega) ?_ ?_ ?_ ?_
                                            · rw [ejm]
                                              first | (rw [if_pos (by omega)] at s2; omega) | (rw [if_neg (by omega)] at s2; omega)
                                            · rw [ejm]
                                              first | (rw [if_pos (by omega)] at s3; omega) | (rw [if_neg (by omega)] at s3; omega)
                                            · rw [ejm]
                                              first | (rw [if_pos (by omega)] at s4; omega) | (rw [if_neg (by omega)] at s4; omega)
                                            · rw [ejm]
                                              first | exact lcm2_y (by omega) (by omega) | exact lcm2_n e5 (by omega))
                                       · first
                                         | exact absurd d_163 (by omega)
                                         | (refine b_X4_common_170  ?_
                                            refine b_X4_common_177  ?_
                                            have ejm : j + -1 + 1 = j := by omega
                                            refine ih _ _ _ _ _ (by omega) (by omega) (by omega) ?_ ?_ ?_ ?_
                                            · rw [ejm]
                                              first | (rw [if_pos (by omega)] at s2; omega) | (rw [if_neg (by omega)] at s2; omega)
                                            · rw [ejm]
                                              first | (rw [if_pos (by omega)] at s3; omega) | (rw [if_neg (by omega)] at s3; omega)
                                            · rw [ejm]
                                              first | (rw [if_pos (by omega)] at s4; omega) | (rw [if_neg (by omega)] at s4; omega)
                                            · rw [ejm]
                                              first | exact lcm2_y (by omega) (by omega) | exact lcm2_n e5 (by omega))))
                             · first
                               | exact absurd d_116 (by omega)
                               | (refine b_X4_common_125  ?_
                                  refine b_X4_common_163 (by first | omega | assumption) (fun d_163 => ?_) (fun d_163 => ?_)
                                  · first
                                    | exact absurd d_163 (by omega)
                                    | (refine b_X4_common_175  ?_
                                       refine b_X4_common_177  ?_
                                       have ejm : j + -1 + 1 = j := by omega
                                       refine ih _ _ _ _ _ (by omega) (by omega) (by omega) ?_ ?_ ?_ ?_
                                       · rw [ejm]
                                         first | (rw [if_pos (by omega)] at s2; omega) | (rw [if_neg (by omega)] at s2; omega)
                                       · rw [ejm]
                                         first | (rw [if_pos (by omega)] at s3; omega) | (rw [if_neg (by omega)] at s3; omega)
                                       · rw [ejm]
                                         first | (rw [if_pos (by omega)] at s4; omega) | (rw [if_neg (by omega)] at s4; omega)
                                       · rw [ejm]
                                         first | exact lcm2_y (by omega) (by omega) | exact lcm2_n e5 (by omega))
                                  · first
                                    | exact absurd d_163 (by omega)
                                    | (refine b_X4_common_170  ?_
                                       refine b_X4_common_177  ?_
                                       have ejm : j + -1 + 1 = j := by omega
                                       refine ih _ _ _ _ _ (by omega) (by omega) (by omega) ?_ ?_ ?_ ?_
                                       · rw [ejm]
                                         first | (rw [if_pos (by omega)] at s2; omega) | (rw [if_neg (by omega)] at s2; omega)
                                       · rw [ejm]
                                         first | (rw [if_pos (by omega)] at s3; omega) | (rw [if_neg (by omega)] at s3; omega)
                                       · rw [ejm]
                                         first | (rw [if_pos (by omega)] at s4; omega) | (rw [if_neg (by omega)] at s4; omega)
                                       · rw [ejm]
                                         first | exact lcm2_y (by omega) (by omega) | exact lcm2_n e5 (by omega))))
                        · first
                          | exact absurd d_97 (by omega)
                          | (refine b_X4_common_106 (by first | omega | assumption) (fun d_106 => ?_) (fun d_106 => ?_)
                             · first
                               | exact absurd d_106 (by omega)
                               | (refine b_X4_common_115  ?_
                                  refine b_X4_common_116 (by first | omega | assumption) (fun d_116 => ?_) (fun d_116 => ?_)
                                  · first
                                    | exact absurd d_116 (by omega)
                                    | (refine b_X4_common_129 (by first | omega | assumption) ?_
                                       refine s_X4_times h0 (by omega) ?_
                                       refine b_X4_common_136 (by first | omega | assumption) ?_
                                       refine s_X4_times h1 (by omega) ?_
                                       refine b_X4_common_143 (by first | omega | assumption) (by first | omega | assumption) (fun d_143 => ?_) (fun d_143 => ?_)
                                       · first
                                         | exact absurd d_143 (by omega)
                                         | (refine b_X4_common_156 (by first | omega | assumption) ?_
                                            refine s_X4_times h1 (by omega) ?_
                                            refine b_X4_common_163 (by first | omega | assumption) (fun d_163 => ?_) (fun d_163 => ?_)
                                            · first
                                              | exact absurd d_163 (by omega)
                                              | (refine b_X4_common_175  ?_
                                                 refine b_X4_common_177  ?_
                                                 have ejm : j + -1 + 1 = j := by omega
                                                 refine ih _ _ _ _ _ (by omega) (by omega) (by omega) ?_ ?_ ?_ ?_
                                                 · rw [ejm]
                                                   first | (rw [if_pos (by omega)] at s2; omega) | (rw [if_neg (by omega)] at s2; omega)
                                                 · rw [ejm]
                                                   first | (rw [if_pos (by omega)] at s3; omega) | (rw [if_neg (by omega)] at s3; omega)
                                                 · rw [ejm]
                                                   first | (rw [if_pos (by omega)] at s4; omega) | (rw [if_neg (by omega)] at s4; omega)
                                                 · rw [ejm]
                                                   first | exact lcm2_y (by omega) (by omega) | exact lcm2_n e5 (by omega))
                                            · first
                                              | exact absurd d_163 (by omega)
                                              | (refine b_X4_common_170  ?_
                                                 refine b_X4_common_177  ?_
                                                 have ejm : j + -1 + 1 = j := by omega
                                                 refine ih _ _ _ _ _ (by omega) (by omega) (by omega) ?_ ?_ ?_ ?_
                                                 · rw [ejm]
                                                   first | (rw [if_pos (by omega)] at s2; omega) | (rw [if_neg (by omega)] at s2; omega)
                                                 · rw [ejm]
                                                   first | (rw [if_pos (by omega)] at s3; omega) | (rw [if_neg (by omega)] at s3; omega)
                                                 · rw [ejm]
                                                   first | (rw [if_pos (by omega)] at s4; omega) | (rw [if_neg (by omega)] at s4; omega)
                                                 · rw [ejm]
                                                   first | exact lcm2_y (by omega) (by omega) | exact lcm2_n e5 (by omega)))
                                       · first
                                         | exact absurd d_143 (by omega)
                                         | (refine b_X4_common_146 (by first | omega | assumption) ?_
                                            refine s_X4_times h0 (by omega) ?_
                                            refine b_X4_common_153  ?_
                                            refine b_X4_common_163 (by first | omega | assumption) (fun d_163 => ?_) (fun d_163 => ?_)
                                            · first
                                              | exact absurd d_163 (by omega)
                                              | (refine b_X4_common_175  ?_
                                                 refine b_X4_common_177  ?_
                                                 have ejm : j + -1 + 1 = j := by omega
                                                 refine ih _ _ _ _ _ (by omega) (by omega) (by omega) ?_ ?_ ?_ ?_
                                                 · rw [ejm]
                                                   first | (rw [if_pos (by omega)] at s2; omega) | (rw [if_neg (by omega)] at s2; omega)
                                                 · rw [ejm]
                                                   first | (rw [if_pos (by omega)] at s3; omega) | (rw [if_neg (by omega)] at s3; omega)
                                                 · rw [ejm]
                                                   first | (rw [if_pos (by omega)] at s4; omega) | (rw [if_neg (by omega)] at s4; omega)
                                                 · rw [ejm]
                                                   first | exact lcm2_y (by omega) (by omega) | exact lcm2_n e5 (by omega))
                                            · first
                                              | exact absurd d_163 (by omega)
                                              | (refine b_X4_common_170  ?_
                                                 refine b_X4_common_177  ?_
                                                 have ejm : j + -1 + 1 = j := by omega
                                                 refine ih _ _ _ _ _ (by omega) (by omega) (by omega) ?_ ?_ ?_ ?_
                                                 · rw [ejm]
                                                   first | (rw [if_pos (by omega)] at s2; omega) | (rw [if_neg (by omega)] at s2; omega)
                                                 · rw [ejm]
                                                   first | (rw [if_pos (by omega)] at s3; omega) | (rw [if_neg (by omega)] at s3; omega)
                                                 · rw [ejm]
                                                   first | (rw [if_pos (by omega)] at s4; omega) | (rw [if_neg (by omega)] at s4; omega)
                                                 · rw [ejm]
                                                   first | exact lcm2_y (by omega) (by omega) | exact lcm2_n e5 (by omega))))
                                  · first
                                    | exact absurd d_116 (by omega)
                                    | (refine b_X4_common_125  ?_
                                       refine b_X4_common_163 (by first | omega | assumption) (fun d_163 => ?_) (fun d_163 => ?_)
                                       · first
                                         | exact absurd d_163 (by omega)
                                         | (refine b_X4_common_175  ?_
                                            refine b_X4_common_177  ?_
                                            have ejm : j + -1 + 1 = j := by omega
                                            refine ih _ _ _ _ _ (by omega) (by omega) (by omega) ?_ ?_ ?_ ?_
                                            · rw [ejm]
                                              first | (rw [if_pos (by omega)] at s2; omega) | (rw [if_neg (by omega)] at s2; omega)
                                            · rw [ejm]
                                              first | (rw [if_pos (by omega)] at s3; omega) | (rw [if_neg (by omega)] at s3; omega)
                                            · rw [ejm]
                                              first | (rw [if_pos (by omega)] at s4; omega) | (rw [if_neg (by omega)] at s4; omega)
                                            · rw [ejm]
                                              first | exact lcm2_y (by omega) (by omega) | exact lcm2_n e5 (by omega))
                                       · first
                                         | exact absurd d_163 (by omega)
                                         | (refine b_X4_common_170  ?_
                                            refine b_X4_common_177  ?_
                                            have ejm : j + -1 + 1 = j := by omega
                                            refine ih _ _ _ _ _ (by omega) (by omega) (by omega) ?_ ?_ ?_ ?_
                                            · rw [ejm]
                                              first | (rw [if_pos (by omega)] at s2; omega) | (rw [if_neg (by omega)] at s2; omega)
                                            · rw [ejm]
                                              first | (rw [if_pos (by omega)] at s3; omega) | (rw [if_neg (by omega)] at s3; omega)
                                            · rw [ejm]
                                              first | (rw [if_pos (by omega)] at s4; omega) | (rw [if_neg (by omega)] at s4; omega)
                                            · rw [ejm]
                                              first | exact lcm2_y (by omega) (by omega) | exact lcm2_n e5 (by omega))))
                             · first
                               | exact absurd d_106 (by omega)
                               | (refine b_X4_common_111  ?_
                                  refine b_X4_common_116 (by first | omega | assumption) (fun d_116 => ?_) (fun d_116 => ?_)
                                  · first
                                    | exact absurd d_116 (by omega)
                                    | (refine b_X4_common_129 (by first | omega | assumption) ?_
                                       refine s_X4_times h0 (by omega) ?_
                                       refine b_X4_common_136 (by first | omega | assumption) ?_
                                       refine s_X4_times h1 (by omega) ?_
                                       refine b_X4_common_143 (by first | omega | assumption) (by first | omega | assumption) (fun d_143 => ?_) (fun d_143 => ?_)
                                       · first
                                         | exact absurd d_143 (by omega)
                                         | (refine b_X4_common_156 (by first | omega | assumption) ?_
                                            refine s_X4_times h1 (by omega) ?_
                                            refine b_X4_common_163 (by first | omega | assumption) (fun d_163 => ?_) (fun d_163 => ?_)
                                            · first
                                              | exact absurd d_163 (by omega)
                                              | (refine b_X4_common_175  ?_
                                                 refine b_X4_common_177  ?_
                                                 have ejm : j + -1 + 1 = j := by omega
                                                 refine ih _ _ _ _ _ (by omega) (by omega) (by omega) ?_ ?_ ?_ ?_
                                                 · rw [ejm]
                                                   first | (rw [if_pos (by omega)] at s2; omega) | (rw [if_neg (by omega)] at s2; omega)
                                                 · rw [ejm]
                                                   first | (rw [if_pos (by omega)] at s3; omega) | (rw [if_neg (by omega)] at s3; omega)
                                                 · rw [ejm]
                                                   first | (rw [if_pos (by omega)] at s4; omega) | (rw [if_neg (by omega)] at s4; omega)
                                                 · rw [ejm]
                                                   first | exact lcm2_y (by omega) (by omega) | exact lcm2_n e5 (by omega))
                                            · first
                                              | exact absurd d_163 (by omega)
                                              | (refine b_X4_common_170  ?_
                                                 refine b_X4_common_177  ?_
                                                 have ejm : j + -1 + 1 = j := by omega
                                                 refine ih _ _ _ _ _ (by omega) (by omega) (by omega) ?_ ?_ ?_ ?_
                                                 · rw [ejm]
                                                   first | (rw [if_pos (by omega)] at s2; omega) | (rw [if_neg (by omega)] at s2; omega)
                                                 · rw [ejm]
                                                   first | (rw [if_pos (by omega)] at s3; omega) | (rw [if_neg (by omega)] at s3; omega)
                                                 · rw [ejm]
                                                   first | (rw [if_pos (by omega)] at s4; omega) | (rw [if_neg (by omega)] at s4; omega)
                                                 · rw [ejm]
                                                   first | exact lcm2_y (by omega) (by omega) | exact lcm2_n e5 (by omega)))
                                       · first
                                         | exact absurd d_143 (by omega)
                                         | (refine b_X4_common_146 (by first | omega | assumption) ?_
                                            refine s_X4_times h0 (by omega) ?_
                                            refine b_X4_common_153  ?_
                                            refine b_X4_common_163 (by first | omega | assumption) (fun d_163 => ?_) (fun d_163 => ?_)
                                            · first
                                              | exact absurd d_163 (by omega)
                                              | (refine b_X4_common_175  ?_
                                                 refine b_X4_common_177  ?_
                                                 have ejm : j + -1 + 1 = j := by omega
                                                 refine ih _ _ _ _ _ (by omega) (by omega) (by omega) ?_ ?_ ?_ ?_
                                                 · rw [ejm]
                                                   first | (rw [if_pos (by omega)] at s2; omega) | (rw [if_neg (by omega)] at s2; omega)
                                                 · rw [ejm]
                                                   first | (rw [if_pos (by omega)] at s3; omega) | (rw [if_neg (by omega)] at s3; omega)
                                                 · rw [ejm]
                                                   first | (rw [if_pos (by omega)] at s4; omega) | (rw [if_neg (by omega)] at s4; omega)
                                                 · rw [ejm]
                                                   first | exact lcm2_y (by omega) (by omega) | exact lcm2_n e5 (by omega))
                                            · first
                                              | exact absurd d_163 (by omega)
                                              | (refine b_X4_common_170  ?_
                                                 refine b_X4_common_177  ?_
                                                 have ejm : j + -1 + 1 = j := by omega
                                                 refine ih _ _ _ _ _ (by omega) (by omega) (by omega) ?_ ?_ ?_ ?_
                                                 · rw [ejm]
                                                   first | (rw [if_pos (by omega)] at s2; omega) | (rw [if_neg (by omega)] at s2; omega)
                                                 · rw [ejm]
                                                   first | (rw [if_pos (by omega)] at s3; omega) | (rw [if_neg (by omega)] at s3; omega)
                                                 · rw [ejm]
                                                   first | (rw [if_pos (by omega)] at s4; omega) | (rw [if_neg (by omega)] at s4; omega)
                                                 · rw [ejm]
                                                   first | exact lcm2_y (by omega) (by omega) | exact lcm2_n e5 (by omega))))
                                  · first
                                    | exact absurd d_116 (by omega)
                                    | (refine b_X4_common_125  ?_
                                       refine b_X4_common_163 (by first | omega | assumption) (fun d_163 => ?_) (fun d_163 => ?_)
                                       · first
                                         | exact absurd d_163 (by omega)
                                         | (refine b_X4_common_175  ?_
                                            refine b_X4_common_177  ?_
                                            have ejm : j + -1 + 1 = j := by omega
                                            refine ih _ _ _ _ _ (by omega) (by omega) (by omega) ?_ ?_ ?_ ?_
                                            · rw [ejm]
                                              first | (rw [if_pos (by omega)] at s2; omega) | (rw [if_neg (by omega)] at s2; omega)
                                            · rw [ejm]
                                              first | (rw [if_pos (by omega)] at s3; omega) | (rw [if_neg (by omega)] at s3; omega)
                                            · rw [ejm]
                                              first | (rw [if_pos (by omega)] at s4; omega) | (rw [if_neg (by omega)] at s4; omega)
                                            · rw [ejm]
                                              first | exact lcm2_y (by omega) (by omega) | exact lcm2_n e5 (by omega))
                                       · first
                                         | exact absurd d_163 (by omega)
                                         | (refine b_X4_common_170  ?_
                                            refine b_X4_common_177  ?_
                                            have ejm : j + -1 + 1 = j := by omega
                                            refine ih _ _ _ _ _ (by omega) (by omega) (by omega) ?_ ?_ ?_ ?_
                                            · rw [ejm]
                                              first | (rw [if_pos (by omega)] at s2; omega) | (rw [if_neg (by omega)] at s2; omega)
                                            · rw [ejm]
                                              first | (rw [if_pos (by omega)] at s3; omega) | (rw [if_neg (by omega)] at s3; omega)
                                            · rw [ejm]
                                              first | (rw [if_pos (by omega)] at s4; omega) | (rw [if_neg (by omega)] at s4; omega)
                                            · rw [ejm]
                                              first | exact lcm2_y (by omega) (by omega) | exact lcm2_n e5 (by omega))))))
                   · first
                     | exact absurd d_79 (by omega)
                     | (refine b_X4_common_87 (by first | omega | assumption) (fun d_87 => ?_) (fun d_87 => ?_)
                        · first
                          | exact absurd d_87 (by omega)
                          | (refine b_X4_common_96  ?_
                             refine b_X4_common_97 (by first | omega | assumption) (fun d_97 => ?_) (fun d_97 => ?_)
                             · first
                               | exact absurd d_97 (by omega)
                               | (refine b_X4_common_115  ?_
                                  refine b_X4_common_116 (by first | omega | assumption) (fun d_116 => ?_) (fun d_116 => ?_)
                                  · first
                                    | exact absurd d_116 (by omega)
                                    | (refine b_X4_common_129 (by first | omega | assumption) ?_
                                       refine s_X4_times h0 (by omega) ?_
                                       refine b_X4_common_136 (by first | omega | assumption) ?_
                                       refine s_X4_times h1 (by omega) ?_
                                       refine b_X4_common_143 (by first | omega | assumption) (by first | omega | assumption) (fun d_143 => ?_) (fun d_143 => ?_)
                                       · first
                                         | exact absurd d_143 (by omega)
                                         | (refine b_X4_common_156 (by first | omega | assumption) ?_
                                            refine s_X4_times h1 (by omega) ?_
                                            refine b_X4_common_163 (by first | omega | assumption) (fun d_163 => ?_) (fun d_163 => ?_)
                                            · first
                                              | exact absurd d_163 (by omega)
                                              | (refine b_X4_common_175  ?_
                                                 refine b_X4_common_177  ?_
                                                 have ejm : j + -1 + 1 = j := by omega
                                                 refine ih _ _ _ _ _ (by omega) (by omega) (by omega) ?_ ?_ ?_ ?_
                                                 · rw [ejm]
                                                   first | (rw [if_pos (by omega)] at s2; omega) | (rw [if_neg (by omega)] at s2; omega)
                                                 · rw [ejm]
                                                   first | (rw [if_pos (by omega)] at s3; omega) | (rw [if_neg (by omega)] at s3; omega)
                                                 · rw [ejm]
                                                   first | (rw [if_pos (by omega)] at s4; omega) | (rw [if_neg (by omega)] at s4; omega)
                                                 · rw [ejm]
                                                   first | exact lcm2_y (by omega) (by omega) | exact lcm2_n e5 (by omega))
                                            · first
                                              | exact absurd d_163 (by omega)
                                              | (refine b_X4_common_170  ?_
                                                 refine b_X4_common_177  ?_
                                                 have ejm : j + -1 + 1 = j := by omega
                                                 refine ih _ _ _ _ _ (by omega) (by omega) (by omega) ?_ ?_ ?_ ?_
                                                 · rw [ejm]
                                                   first | (rw [if_pos (by omega)] at s2; omega) | (rw [if_neg (by omega)] at s2; omega)
                                                 · rw [ejm]
                                                   first | (rw [if_pos (by omega)] at s3; omega) | (rw [if_neg (by omega)] at s3; omega)
                                                 · rw [ejm]
                                                   first | (rw [if_pos (by omega)] at s4; omega) | (rw [if_neg (by omega)] at s4; omega)
                                                 · rw [ejm]
                                                   first | exact lcm2_y (by omega) (by omega) | exact lcm2_n e5 (by omega)))
                                       · first
                                         | exact absurd d_143 (by omega)
                                         | (refine b_X4_common_146 (by first | omega | assumption) ?_
                                            refine s_X4_times h0 (by omega) ?_
                                            refine b_X4_common_153  ?_
                                            refine b_X4_common_163 (by first | omega | assumption) (fun d_163 => ?_) (fun d_163 => ?_)
                                            · first
                                              | exact absurd d_163 (by omega)
                                              | (refine b_X4_common_175  ?_
                                                 refine b_X4_common_177  ?_
                                                 have ejm : j + -1 + 1 = j := by omega
                                                 refine ih _ _ _ _ _ (by omega) (by omega) (by omega) ?_ ?_ ?_ ?_
                                                 · rw [ejm]
                                                   first | (rw [if_pos (by omega)] at s2; omega) | (rw [if_neg (by omega)] at s2; omega)
                                                 · rw [ejm]
                                                   first | (rw [if_pos (by omega)] at s3; omega) | (rw [if_neg (by omega)] at s3; omega)
                                                 · rw [ejm]
                                                   first | (rw [if_pos (by omega)] at s4; omega) | (rw [if_neg (by omega)] at s4; omega)
                                                 · rw [ejm]
                                                   first | exact lcm2_y (by omega) (by omega) | exact lcm2_n e5 (by omega))
                                            · first
                                              | exact absurd d_163 (by omega)
                                              | (refine b_X4_common_170  ?_
                                                 refine b_X4_common_177  ?_
                                                 have ejm : j + -1 + 1 = j := by omega
                                                 refine ih _ _ _ _ _ (by omega) (by omega) (by omega) ?_ ?_ ?_ ?_
                                                 · rw [ejm]
                                                   first | (rw [if_pos (by omega)] at s2; omega) | (rw [if_neg (by omega)] at s2; omega)
                                                 · rw [ejm]
                                                   first | (rw [if_pos (by omega)] at s3; omega) | (rw [if_neg (by omega)] at s3; omega)
                                                 · rw [ejm]
                                                   first | (rw [if_pos (by omega)] at s4; omega) | (rw [if_neg (by omega)] at s4; omega)
                                                 · rw [ejm]
                                                   first | exact lcm2_y (by omega) (by omega) | exact lcm2_n e5 (by omega))))
                                  · first
                                    | exact absurd d_116 (by omega)
                                    | (refine b_X4_common_125  ?_
                                       refine b_X4_common_163 (by first | omega | assumption) (fun d_163 => ?_) (fun d_163 => ?_)
                                       · first
                                         | exact absurd d_163 (by omega)
                                         | (refine b_X4_common_175  ?_
                                            refine b_X4_common_177  ?_
                                            have ejm : j + -1 + 1 = j := by omega
                                            refine ih _ _ _ _ _ (by omega) (by omega) (by omega) ?_ ?_ ?_ ?_
                                            · rw [ejm]
                                              first | (rw [if_pos (by omega)] at s2; omega) | (rw [if_neg (by omega)] at s2; omega)
                                            · rw [ejm]
                                              first | (rw [if_pos (by omega)] at s3; omega) | (rw [if_neg (by omega)] at s3; omega)
                                            · rw [ejm]
                                              first | (rw [if_pos (by omega)] at s4; omega) | (rw [if_neg (by omega)] at s4; omega)
                                            · rw [ejm]
                                              first | exact lcm2_y (by omega) (by omega) | exact lcm2_n e5 (by omega))
                                       · first
                                         | exact absurd d_163 (by omega)
                                         | (refine b_X4_common_170  ?_
                                            refine b_X4_common_177  ?_
                                            have ejm : j + -1 + 1 = j := by omega
                                            refine ih _ _ _ _ _ (by omega) (by omega) (by omega) ?_ ?_ ?_ ?_
                                            · rw [ejm]
                                              first | (rw [if_pos (by omega)] at s2; omega) | (rw [if_neg (by omega)] at s2; omega)
                                            · rw [ejm]
                                              first | (rw [if_pos (by omega)] at s3; omega) | (rw [if_neg (by omega)] at s3; omega)
                                            · rw [ejm]
                                              first | (rw [if_pos (by omega)] at s4; omega) | (rw [if_neg (by omega)] at s4; omega)
                                            · rw [ejm]
                                              first | exact lcm2_y (by omega) (by omega) | exact lcm2_n e5 (by omega))))
                             · first
                               | exact absurd d_97 (by omega)
                               | (refine b_X4_common_106 (by first | omega | assumption) (fun d_106 => ?_) (fun d_106 => ?_)
                                  · first
                                    | exact absurd d_106 (by omega)
                                    | (refine b_X4_common_115  ?_
                                       refine b_X4_common_116 (by first | omega | assumption) (fun d_116 => ?_) (fun d_116 => ?_)
                                       · first
                                         | exact absurd d_116 (by omega)
                                         | (refine b_X4_common_129 (by first | omega | assumption) ?_
                                            refine s_X4_times h0 (by omega) ?_
                                            refine b_X4_common_136 (by first | omega | assumption) ?_
                                            refine s_X4_times h1 (by omega) ?_
                                            refine b_X4_common_143 (by first | omega | assumption) (by first | omega | assumption) (fun d_143 => ?_) (fun d_143 => ?_)
                                            · first
                                              | exact absurd d_143 (by omega)
                                              | (refine b_X4_common_156 (by first | omega | assumption) ?_
                                                 refine s_X4_times h1 (by omega) ?_
                                                 refine b_X4_common_163 (by first | omega | assumption) (fun d_163 => ?_) (fun d_163 => ?_)
                                                 · first
                                                   | exact absurd d_163 (by omega)
                                                   | (refine b_X4_common_175  ?_
                                                      refine b_X4_common_177  ?_
                                                      have ejm : j + -1 + 1 = j := by omega
                                                      refine ih _ _ _ _ _ (by omega) (by omega) (by omega) ?_ ?_ ?_ ?_
                                                      · rw [ejm]
                                                        first | (rw [if_pos (by omega)] at s2; omega) | (rw [if_neg (by omega)] at s2; omega)
                                                      · rw [ejm]
                                                        first | (rw [if_pos (by omega)] at s3; omega) | (rw [if_neg (by omega)] at s3; omega)
                                                      · rw [ejm]
                                                        first | (rw [if_pos (by omega)] at s4; omega) | (rw [if_neg (by omega)] at s4; omega)
                                                      · rw [ejm]
                                                        first | exact lcm2_y (by omega) (by omega) | exact lcm2_n e5 (by omega))
                                                 · first
                                                   | exact absurd d_163 (by omega)
                                                   | (refine b_X4_common_170  ?_
                                                      refine b_X4_common_177  ?_
                                                      have ejm : j + -1 + 1 = j := by omega
                                                      refine ih _ _ _ _ _ (by omega) (by omega) (by omega) ?_ ?_ ?_ ?_
                                                      · rw [ejm]
                                                        first | (rw [if_pos (by omega)] at s2; omega) | (rw [if_neg (by omega)] at s2; omega)
                                                      · rw [ejm]
                                                        first | (rw [if_pos (by omega)] at s3; omega) | (rw [if_neg (by omega)] at s3; omega)
                                                      · rw [ejm]
                                                        first | (rw [if_pos (by omega)] at s4; omega) | (rw [if_neg (by omega)] at s4; omega)
                                                      · rw [ejm]
                                                        first | exact lcm2_y (by omega) (by omega) | exact lcm2_n e5 (by omega)))
                                            · first
                                              | exact absurd d_143 (by omega)
                                              | (refine b_X4_common_146 (by first | omega | assumption) ?_
                                                 refine s_X4_times h0 (by omega) ?_
                                                 refine b_X4_common_153  ?_
                                                 refine b_X4_common_163 (by first | omega | assumption) (fun d_163 => ?_) (fun d_163 => ?_)
                                                 · first
                                                   | exact absurd d_163 (by omega)
                                                   | (refine b_X4_common_175  ?_
                                                      refine b_X4_common_177  ?_
                                                      have ejm : j + -1 + 1 = j := by omega
                                                      refine ih _ _ _ _ _ (by omega) (by omega) (by omega) ?_ ?_ ?_ ?_
                                                      · rw [ejm]
                                                        first | (rw [if_pos (by omega)] at s2; omega) | (rw [if_neg (by omega)] at s2; omega)
                                                      · rw [ejm]
                                                        first | (rw [if_pos (by omega)] at s3; omega) | (rw [if_neg (by omega)] at s3; omega)
                                                      · rw [ejm]
                                                        first | (rw [if_pos (by omega)] at s4; omega) | (rw [if_neg (by omega)] at s4; omega)
                                                      · rw [ejm]
                                                        first | exact lcm2_y (by omega) (by omega) | exact lcm2_n e5 (by omega))
                                                 · first
                                                   | exact absurd d_163 (by omega)
                                                   | (refine b_X4_common_170  ?_
                                                      refine b_X4_common_177  ?_
                                                      have ejm : j + -1 + 1 = j := by omega
                                                      refine ih _ _ _ _ _ (by omega) (by omega) (by omega) ?_ ?_ ?_ ?_
                                                      · rw [ejm]
                                                        first | (rw [if_pos (by omega)] at s2; omega) | (rw [if_neg (by omega)] at s2; omega)
                                                      · rw [ejm]
                                                        first | (rw [if_pos (by omega)] at s3; omega) | (rw [if_neg (by omega)] at s3; omega)
                                                      · rw [ejm]
                                                        first | (rw [if_pos (by omega)] at s4; omega) | (rw [if_neg (by omega)] at s4; omega)
                                                      · rw [ejm]
                                                        first | exact lcm2_y (by omega) (by omega) | exact lcm2_n e5 (by omega))))
                                       · first
                                         | exact absurd d_116 (by omega)
                                         | (refine b_X4_common_125  ?_
                                            refine b_X4_common_163 (by first | omega | assumption) (fun d_163 => ?_) (fun d_163 => ?_)
                                            · first
                                              | exact absurd d_163 (by omega)
                                              | (refine b_X4_common_175  ?_
                                                 refine b_X4_common_177  ?_
                                                 have ejm : j + -1 + 1 = j := by omega
                                                 refine ih _ _ _ _ _ (by omega) (by omega) (by omega) ?_ ?_ ?_ ?_
                                                 · rw [ejm]
                                                   first | (rw [if_pos (by omega)] at s2; omega) | (rw [if_neg (by omega)] at s2; omega)
                                                 · rw [ejm]
                                                   first | (rw [if_pos (by omega)] at s3; omega) | (rw [if_neg (by omega)] at s3; omega)
                                                 · rw [ejm]
                                                   first | (rw [if_pos (by omega)] at s4; omega) | (rw [if_neg (by omega)] at s4; omega)
                                                 · rw [ejm]
                                                   first | exact lcm2_y (by omega) (by omega) | exact lcm2_n e5 (by omega))
                                            · first
                                              | exact absurd d_163 (by omega)
                                              | (refine b_X4_common_170  ?_
                                                 refine b_X4_common_177  ?_
                                                 have ejm : j + -1 + 1 = j := by omega
                                                 refine ih _ _ _ _ _ (by omega) (by omega) (by omega) ?_ ?_ ?_ ?_
                                                 · rw [ejm]
                                                   first | (rw [if_pos (by omega)] at s2; omega) | (rw [if_neg (by omega)] at s2; omega)
                                                 · rw [ejm]
                                                   first | (rw [if_pos (by omega)] at s3; omega) | (rw [if_neg (by omega)] at s3; omega)
                                                 · rw [ejm]
                                                   first | (rw [if_pos (by omega)] at s4; omega) | (rw [if_neg (by omega)] at s4; omega)
                                                 · rw [ejm]
                                                   first | exact lcm2_y (by omega) (by omega) | exact lcm2_n e5 (by omega))))
                                  · first
                                    | exact absurd d_106 (by omega)
                                    | (refine b_X4_common_111  ?_
                                       refine b_X4_common_116 (by first | omega | assumption) (fun d_116 => ?_) (fun d_116 => ?_)
                                       · first
                                         | exact absurd d_116 (by omega)
                                         | (refine b_X4_common_129 (by first | omega | assumption) ?_
                                            refine s_X4_times h0 (by omega) ?_
                                            refine b_X4_common_136 (by first | omega | assumption) ?_
                                            refine s_X4_times h1 (by omega) ?_
                                            refine b_X4_common_143 (by first | omega | assumption) (by first | omega | assumption) (fun d_143 => ?_) (fun d_143 => ?_)
                                            · first
                                              | exact absurd d_143 (by omega)
                                              | (refine b_X4_common_156 (by first | omega | assumption) ?_
                                                 refine s_X4_times h1 (by omega) ?_
                                                 refine b_X4_common_163 (by first | omega | assumption) (fun d_163 => ?_) (fun d_163 => ?_)
                                                 · first
                                                   | exact absurd d_163 (by omega)
                                                   | (refine b_X4_common_175  ?_
                                                      refine b_X4_common_177  ?_
                                                      have ejm : j + -1 + 1 = j := by omega
                                                      refine ih _ _ _ _ _ (by omega) (by omega) (by omega) ?_ ?_ ?_ ?_
                                                      · rw [ejm]
                                                        first | (rw [if_pos (by omega)] at s2; omega) | (rw [if_neg (by omega)] at s2; omega)
                                                      · rw [ejm]
                                                        first | (rw [if_pos (by omega)] at s3; omega) | (rw [if_neg (by omega)] at s3; omega)
                                                      · rw [ejm]
                                                        first | (rw [if_pos (by omega)] at s4; omega) | (rw [if_neg (by omega)] at s4; omega)
                                                      · rw [ejm]
                                                        first | exact lcm2_y (by omega) (by omega) | exact lcm2_n e5 (by omega))
                                                 · first
                                                   | exact absurd d_163 (by omega)
                                                   | (refine b_X4_common_170  ?_
                                                      refine b_X4_common_177  ?_
                                                      have ejm : j + -1 + 1 = j := by omega
                                                      refine ih _ _ _ _ _ (by omega) (by omega) (by omega) ?_ ?_ ?_ ?_
                                                      · rw [ejm]
                                                        first | (rw [if_pos (by omega)] at s2; omega) | (rw [if_neg (by omega)] at s2; omega)
                                                      · rw [ejm]
                                                        first | (rw [if_pos (by omega)] at s3; omega) | (rw [if_neg (by omega)] at s3; omega)
                                                      · rw [ejm]
                                                        first | (rw [if_pos (by omega)] at s4; omega) | (rw [if_neg (by omega)] at s4; omega)
                                                      · rw [ejm]
                                                        first | exact lcm2_y (by omega) (by omega) | exact lcm2_n e5 (by omega)))
                                            · first
                                              | exact absurd d_143 (by omega)
                                              | (refine b_X4_common_146 (by first | omega | assumption) ?_
                                                 refine s_X4_times h0 (by omega) ?_
                                                 refine b_X4_common_153  ?_
                                                 refine b_X4_common_163 (by first | omega | assumption) (fun d_163 => ?_) (fun d_163 => ?_)
                                                 · first
                                                   | exact absurd d_163 (by omega)
                                                   | (refine b_X4_common_175  ?_
                                                      refine b_X4_common_177  ?_
                                                      have ejm : j + -1 + 1 = j := by omega
                                                      refine ih _ _ _ _ _ (by omega) (by omega) (by omega) ?_ ?_ ?_ ?_
                                                      · rw [ejm]
                                                        first | (rw [if_pos (by omega)] at s2; omega) | (rw [if_neg (by omega)] at s2; omega)
                                                      · rw [ejm]
                                                        first | (rw [if_pos (by omega)] at s3; omega) | (rw [if_neg (by omega)] at s3; omega)
                                                      · rw [ejm]
                                                        first | (rw [if_pos (by omega)] at s4; omega) | (rw [if_neg (by omega)] at s4; omega)
                                                      · rw [ejm]
                                                        first | exact lcm2_y (by omega) (by omega) | exact lcm2_n e5 (by omega))
                                                 · first
                                                   | exact absurd d_163 (by omega)
                                                   | (refine b_X4_common_170  ?_
                                                      refine b_X4_common_177  ?_
                                                      have ejm : j + -1 + 1 = j := by omega
                                                      refine ih _ _ _ _ _ (by omega) (by omega) (by omega) ?_ ?_ ?_ ?_
                                                      · rw [ejm]
                                                        first | (rw [if_pos (by omega)] at s2; omega) | (rw [if_neg (by omega)] at s2; omega)
                                                      · rw [ejm]
                                                        first | (rw [if_pos (by omega)] at s3; omega) | (rw [if_neg (by omega)] at s3; omega)
                                                      · rw [ejm]
                                                        first | (rw [if_pos (by omega)] at s4; omega) | (rw [if_neg (by omega)] at s4; omega)
                                                      · rw [ejm]
                                                        first | exact lcm2_y (by omega) (by omega) | exact lcm2_n e5 (by omega))))
                                       · first
                                         | exact absurd d_116 (by omega)
                                         | (refine b_X4_common_125  ?_
                                            refine b_X4_common_163 (by first | omega | assumption) (fun d_163 => ?_) (fun d_163 => ?_)
                                            · first
                                              | exact absurd d_163 (by omega)
                                              | (refine b_X4_common_175  ?_
                                                 refine b_X4_common_177  ?_
                                                 have ejm : j + -1 + 1 = j := by omega
                                                 refine ih _ _ _ _ _ (by omega) (by omega) (by omega) ?_ ?_ ?_ ?_
                                                 · rw [ejm]
                                                   first | (rw [if_pos (by omega)] at s2; omega) | (rw [if_neg (by omega)] at s2; omega)
                                                 · rw [ejm]
                                                   first | (rw [if_pos (by omega)] at s3; omega) | (rw [if_neg (by omega)] at s3; omega)
                                                 · rw [ejm]
                                                   first | (rw [if_pos (by omega)] at s4; omega) | (rw [if_neg (by omega)] at s4; omega)
                                                 · rw [ejm]
                                                   first | exact lcm2_y (by omega) (by omega) | exact lcm2_n e5 (by omega))
                                            · first
                                              | exact absurd d_163 (by omega)
                                              | (refine b_X4_common_170  ?_
                                                 refine b_X4_common_177  ?_
                                                 have ejm : j + -1 + 1 = j := by omega
                                                 refine ih _ _ _ _ _ (by omega) (by omega) (by omega) ?_ ?_ ?_ ?_
                                                 · rw [ejm]
                                                   first | (rw [if_pos (by omega)] at s2; omega) | (rw [if_neg (by omega)] at s2; omega)
                                                 · rw [ejm]
                                                   first | (rw [if_pos (by omega)] at s3; omega) | (rw [if_neg (by omega)] at s3; omega)
                                                 · rw [ejm]
                                                   first | (rw [if_pos (by omega)] at s4; omega) | (rw [if_neg (by omega)] at s4; omega)
                                                 · rw [ejm]
                                                   first | exact lcm2_y (by omega) (by omega) | exact lcm2_n e5 (by omega))))))
                        · first
                          | exact absurd d_87 (by omega)
                          | (refine b_X4_common_92  ?_
                             refine b_X4_common_97 (by first | omega | assumption) (fun d_97 => ?_) (fun d_97 => ?_)
                             · first
                               | exact absurd d_97 (by omega)
                               | (refine b_X4_common_115  ?_
                                  refine b_X4_common_116 (by first | omega | assumption) (fun d_116 => ?_) (fun d_116 => ?_)
                                  · first
                                    | exact absurd d_116 (by omega)
                                    | (refine b_X4_common_129 (by first | omega | assumption) ?_
                                       refine s_X4_times h0 (by omega) ?_
                                       refine b_X4_common_136 (by first | omega | assumption) ?_
                                       refine s_X4_times h1 (by omega) ?_
                                       refine b_X4_common_143 (by first | omega | assumption) (by first | omega | assumption) (fun d_143 => ?_) (fun d_143 => ?_)
                                       · first
                                         | exact absurd d_143 (by omega)
                                         | (refine b_X4_common_156 (by first | omega | assumption) ?_
                                            refine s_X4_times h1 (by omega) ?_
                                            refine b_X4_common_163 (by first | omega | assumption) (fun d_163 => ?_) (fun d_163 => ?_)
                                            · first
                                              | exact absurd d_163 (by omega)
                                              | (refine b_X4_common_175  ?_
                                                 refine b_X4_common_177  ?_
                                                 have ejm : j + -1 + 1 = j := by omega
                                                 refine ih _ _ _ _ _ (by omega) (by omega) (by omega) ?_ ?_ ?_ ?_
                                                 · rw [ejm]
                                                   first | (rw [if_pos (by omega)] at s2; omega) | (rw [if_neg (by omega)] at s2; omega)
                                                 · rw [ejm]
                                                   first | (rw [if_pos (by omega)] at s3; omega) | (rw [if_neg (by omega)] at s3; omega)
                                                 · rw [ejm]
                                                   first | (rw [if_pos (by omega)] at s4; omega) | (rw [if_neg (by omega)] at s4; omega)
                                                 · rw [ejm]
                                                   first | exact lcm2_y (by omega) (by omega) | exact lcm2_n e5 (by omega))
                                            · first
                                              | exact absurd d_163 (by omega)
                                              | (refine b_X4_common_170  ?_
                                                 refine b_X4_common_177  ?_
                                                 have ejm : j + -1 + 1 = j := by omega
                                                 refine ih _ _ _ _ _ (by omega) (by omega) (by omega) ?_ ?_ ?_ ?_
                                                 · rw [ejm]
                                                   first | (rw [if_pos (by omega)] at s2; omega) | (rw [if_neg (by omega)] at s2; omega)
                                                 · rw [ejm]
                                                   first | (rw [if_pos (by omega)] at s3; omega) | (rw [if_neg (by omega)] at s3; omega)
                                                 · rw [ejm]
                                                   first | (rw [if_pos (by omega)] at s4; omega) | (rw [if_neg (by omega)] at s4; omega)
                                                 · rw [ejm]
                                                   first | exact lcm2_y (by omega) (by omega) | exact lcm2_n e5 (by omega)))
                                       · first
                                         | exact absurd d_143 (by omega)
                                         | (refine b_X4_common_146 (by first | omega | assumption) ?_
                                            refine s_X4_times h0 (by omega) ?_
                                            refine b_X4_common_153  ?_
                                            refine b_X4_common_163 (by first | omega | assumption) (fun d_163 => ?_) (fun d_163 => ?_)
                                            · first
                                              | exact absurd d_163 (by omega)
                                              | (refine b_X4_common_175  ?_
                                                 refine b_X4_common_177  ?_
                                                 have ejm : j + -1 + 1 = j := by omega
                                                 refine ih _ _ _ _ _ (by omega) (by omega) (by omega) ?_ ?_ ?_ ?_
                                                 · rw [ejm]
                                                   first | (rw [if_pos (by omega)] at s2; omega) | (rw [if_neg (by omega)] at s2; omega)
                                                 · rw [ejm]
                                                   first | (rw [if_pos (by omega)] at s3; omega) | (rw [if_neg (by omega)] at s3; omega)
                                                 · rw [ejm]
                                                   first | (rw [if_pos (by omega)] at s4; omega) | (rw [if_neg (by omega)] at s4; omega)
                                                 · rw [ejm]
                                                   first | exact lcm2_y (by omega) (by omega) | exact lcm2_n e5 (by omega))
                                            · first
                                              | exact absurd d_163 (by omega)
                                              | (refine b_X4_common_170  ?_
                                                 refine b_X4_common_177  ?_
                                                 have ejm : j + -1 + 1 = j := by omega
                                                 refine ih _ _ _ _ _ (by omega) (by omega) (by omega) ?_ ?_ ?_ ?_
                                                 · rw [ejm]
                                                   first | (rw [if_pos (by omega)] at s2; omega) | (rw [if_neg (by omega)] at s2; omega)
                                                 · rw [ejm]
                                                   first | (rw [if_pos (by omega)] at s3; omega) | (rw [if_neg (by omega)] at s3; omega)
                                                 · rw [ejm]
                                                   first | (rw [if_pos (by omega)] at s4; omega) | (rw [if_neg (by omega)] at s4; omega)
                                                 · rw [ejm]
                                                   first | exact lcm2_y (by omega) (by omega) | exact lcm2_n e5 (by omega))))
                                  · first
                                    | exact absurd d_116 (by omega)
                                    | (refine b_X4_common_125  ?_
                                       refine b_X4_common_163 (by first | omega | assumption) (fun d_163 => ?_) (fun d_163 => ?_)
                                       · first
                                         | exact absurd d_163 (by omega)
                                         | (refine b_X4_common_175  ?_
                                            refine b_X4_common_177  ?_
                                            have ejm : j + -1 + 1 = j := by omega
                                            refine ih _ _ _ _ _ (by omega) (by omega) (by omega) ?_ ?_ ?_ ?_
                                            · rw [ejm]
                                              first | (rw [if_pos (by omega)] at s2; omega) | (rw [if_neg (by omega)] at s2; omega)
                                            · rw [ejm]
                                              first | (rw [if_pos (by omega)] at s3; omega) | (rw [if_neg (by omega)] at s3; omega)
                                            · rw [ejm]
                                              first | (rw [if_pos (by omega)] at s4; omega) | (rw [if_neg (by omega)] at s4; omega)
                                            · rw [ejm]
                                              first | exact lcm2_y (by omega) (by omega) | exact lcm2_n e5 (by omega))
                                       · first
                                         | exact absurd d_163 (by omega)
                                         | (refine b_X4_common_170  ?_
                                            refine b_X4_common_177  ?_
                                            have ejm : j + -1 + 1 = j := by omega
                                            refine ih _ _ _ _ _ (by omega) (by omega) (by omega) ?_ ?_ ?_ ?_
                                            · rw [ejm]
                                              first | (rw [if_pos (by omega)] at s2; omega) | (rw [if_neg (by omega)] at s2; omega)
                                            · rw [ejm]
                                              first | (rw [if_pos (by omega)] at s3; omega) | (rw [if_neg (by omega)] at s3; omega)
                                            · rw [ejm]
                                              first | (rw [if_pos (by omega)] at s4; omega) | (rw [if_neg (by omega)] at s4; omega)
                                            · rw [ejm]
                                              first | exact lcm2_y (by omega) (by omega) | exact lcm2_n e5 (by omega))))
                             · first
                               | exact absurd d_97 (by omega)
                               | (refine b_X4_common_106 (by first | omega | assumption) (fun d_106 => ?_) (fun d_106 => ?_)
                                  · first
                                    | exact absurd d_106 (by omega)
                                    | (refine b_X4_common_115  ?_
                                       refine b_X4_common_116 (by first | omega | assumption) (fun d_116 => ?_) (fun d_116 => ?_)
                                       · first
                                         | exact absurd d_116 (by omega)
                                         | (refine b_X4_common_129 (by first | omega | assumption) ?_
                                            refine s_X4_times h0 (by omega) ?_
                                            refine b_X4_common_136 (by first | omega | assumption) ?_
                                            refine s_X4_times h1 (by omega) ?_
                                            refine b_X4_common_143 (by first | omega | assumption) (by first | omega | assumption) (fun d_143 => ?_) (fun d_143 => ?_)
                                            · first
                                              | exact absurd d_143 (by omega)
                                              | (refine b_X4_common_156 (by first | omega | assumption) ?_
                                                 refine s_X4_times h1 (by omega) ?_
                                                 refine b_X4_common_163 (by first | omega | assumption) (fun d_163 => ?_) (fun d_163 => ?_)
                                                 · first
                                                   | exact absurd d_163 (by omega)
                                                   | (refine b_X4_common_175  ?_
                                                      refine b_X4_common_177  ?_
                                                      have ejm : j + -1 + 1 = j := by omega
                                                      refine ih _ _ _ _ _ (by omega) (by omega) (by omega) ?_ ?_ ?_ ?_
                                                      · rw [ejm]
                                                        first | (rw [if_pos (by omega)] at s2; omega) | (rw [if_neg (by omega)] at s2; omega)
                                                      · rw [ejm]
                                                        first | (rw [if_pos (by omega)] at s3; omega) | (rw [if_neg (by omega)] at s3; omega)
                                                      · rw [ejm]
                                                        first | (rw [if_pos (by omega)] at s4; omega) | (rw [if_neg (by omega)] at s4; omega)
                                                      · rw [ejm]
                                                        first | exact lcm2_y (by omega) (by omega) | exact lcm2_n e5 (by omega))
                                                 · first
                                                   | exact absurd d_163 (by omega)
                                                   | (refine b_X4_common_170  ?_
                                                      refine b_X4_common_177  ?_
                                                      have ejm : j + -1 + 1 = j := by omega
                                                      refine ih _ _ _ _ _ (by omega) (by omega) (by omega) ?_ ?_ ?_ ?_
                                                      · rw [ejm]
                                                        first | (rw [if_pos (by omega)] at s2; omega) | (rw [if_neg (by omega)] at s2; omega)
                                                      · rw [ejm]
                                                        first | (rw [if_pos (by omega)] at s3; omega) | (rw [if_neg (by omega)] at s3; omega)
                                                      · rw [ejm]
                                                        first | (rw [if_pos (by omega)] at s4; omega) | (rw [if_neg (by omega)] at s4; omega)
                                                      · rw [ejm]
                                                        first | exact lcm2_y (by omega) (by omega) | exact lcm2_n e5 (by omega)))
                                            · first
                                              | exact absurd d_143 (by omega)
                                              | (refine b_X4_common_146 (by first | omega | assumption) ?_
                                                 refine s_X4_times h0 (by omega) ?_
                                                 refine b_X4_common_153  ?_
                                                 refine b_X4_common_163 (by first | omega | assumption) (fun d_163 => ?_) (fun d_163 => ?_)
                                                 · first
                                                   | exact absurd d_163 (by omega)
                                                   | (refine b_X4_common_175  ?_
                                                      refine b_X4_common_177  ?_
                                                      have ejm : j + -1 + 1 = j := by omega
                                                      refine ih _ _ _ _ _ (by omega) (by omega) (by omega) ?_ ?_ ?_ ?_
                                                      · rw [ejm]
                                                        first | (rw [if_pos (by omega)] at s2; omega) | (rw [if_neg (by omega)] at s2; omega)
                                                      · rw [ejm]
                                                        first | (rw [if_pos (by omega)] at s3; omega) | (rw [if_neg (by omega)] at s3; omega)
                                                      · rw [ejm]
                                                        first | (rw [if_pos (by omega)] at s4; omega) | (rw [if_neg (by omega)] at s4; omega)
                                                      · rw [ejm]
                                                        first | exact lcm2_y (by omega) (by omega) | exact lcm2_n e5 (by omega))
                                                 · first
                                                   | exact absurd d_163 (by omega)
                                                   | (refine b_X4_common_170  ?_
                                                      refine b_X4_common_177  ?_
                                                      have ejm : j + -1 + 1 = j := by omega
                                                      refine ih _ _ _ _ _ (by omega) (by omega) (by omega) ?_ ?_ ?_ ?_
                                                      · rw [ejm]
                                                        first | (rw [if_pos (by omega)] at s2; omega) | (rw [if_neg (by omega)] at s2; omega)
                                                      · rw [ejm]
                                                        first | (rw [if_pos (by omega)] at s3; omega) | (rw [if_neg (by omega)] at s3; omega)
                                                      · rw [ejm]
                                                        first | (rw [if_pos (by omega)] at s4; omega) | (rw [if_neg (by omega)] at s4; omega)
                                                      · rw [ejm]
                                                        first | exact lcm2_y (by omega) (by omega) | exact lcm2_n e5 (by omega))))
                                       · first
                                         | exact absurd d_116 (by omega)
                                         | (refine b_X4_common_125  ?_
                                            refine b_X4_common_163 (by first | omega | assumption) (fun d_163 => ?_) (fun d_163 => ?_)
                                            · first
                                              | exact absurd d_163 (by omega)
                                              | (refine b_X4_common_175  ?_
                                                 refine b_X4_common_177  ?_
                                                 have ejm : j + -1 + 1 = j := by omega
                                                 refine ih _ _ _ _ _ (by omega) (by omega) (by omega) ?_ ?_ ?_ ?_
                                                 · rw [ejm]
                                                   first | (rw [if_pos (by omega)] at s2; omega) | (rw [if_neg (by omega)] at s2; omega)
                                                 · rw [ejm]
                                                   first | (rw [if_pos (by omega)] at s3; omega) | (rw [if_neg (by omega)] at s3; omega)
                                                 · rw [ejm]
                                                   first | (rw [if_pos (by omega)] at s4; omega) | (rw [if_neg (by omega)] at s4; omega)
                                                 · rw [ejm]
                                                   first | exact lcm2_y (by omega) (by omega) | exact lcm2_n e5 (by omega))
                                            · first
                                              | exact absurd d_163 (by omega)
                                              | (refine b_X4_common_170  ?_
                                                 refine b_X4_common_177  ?_
                                                 have ejm : j + -1 + 1 = j := by omega
                                                 refine ih _ _ _ _ _ (by omega) (by omega) (by omega) ?_ ?_ ?_ ?_
                                                 · rw [ejm]
                                                   first | (rw [if_pos (by omega)] at s2; omega) | (rw [if_neg (by omega)] at s2; omega)
                                                 · rw [ejm]
                                                   first | (rw [if_pos (by omega)] at s3; omega) | (rw [if_neg (by omega)] at s3; omega)
                                                 · rw [ejm]
                                                   first | (rw [if_pos (by omega)] at s4; omega) | (rw [if_neg (by omega)] at s4; omega)
                                                 · rw [ejm]
                                                   first | exact lcm2_y (by omega) (by omega) | exact lcm2_n e5 (by omega))))
                                  · first
                                    | exact absurd d_106 (by omega)
                                    | (refine b_X4_common_111  ?_
                                       refine b_X4_common_116 (by first | omega | assumption) (fun d_116 => ?_) (fun d_116 => ?_)
                                       · first
                                         | exact absurd d_116 (by omega)
                                         | (refine b_X4_common_129 (by first | omega | assumption) ?_
                                            refine s_X4_times h0 (by omega) ?_
                                            refine b_X4_common_136 (by first | omega | assumption) ?_
                                            refine s_X4_times h1 (by omega) ?_
                                            refine b_X4_common_143 (by first | omega | assumption) (by first | omega | assumption) (fun d_143 => ?_) (fun d_143 => ?_)
                                            · first
                                              | exact absurd d_143 (by omega)
                                              | (refine b_X4_common_156 (by first | omega | assumption) ?_
                                                 refine s_X4_times h1 (by omega) ?_
                                                 refine b_X4_common_163 (by first | omega | assumption) (fun d_163 => ?_) (fun d_163 => ?_)
                                                 · first
                                                   | exact absurd d_163 (by omega)
                                                   | (refine b_X4_common_175  ?_
                                                      refine b_X4_common_177  ?_
                                                      have ejm : j + -1 + 1 = j := by omega
                                                      refine ih _ _ _ _ _ (by omega) (by omega) (by omega) ?_ ?_ ?_ ?_
                                                      · rw [ejm]
                                                        first | (rw [if_pos (by omega)] at s2; omega) | (rw [if_neg (by omega)] at s2; omega)
                                                      · rw [ejm]
                                                        first | (rw [if_pos (by omega)] at s3; omega) | (rw [if_neg (by omega)] at s3; omega)
                                                      · rw [ejm]
                                                        first | (rw [if_pos (by omega)] at s4; omega) | (rw [if_neg (by omega)] at s4; omega)
                                                      · rw [ejm]
                                                        first | exact lcm2_y (by omega) (by omega) | exact lcm2_n e5 (by omega))
                                                 · first
                                                   | exact absurd d_163 (by omega)
                                                   | (refine b_X4_common_170  ?_
                                                      refine b_X4_common_177  ?_
                                                      have ejm : j + -1 + 1 = j := by omega
                                                      refine ih _ _ _ _ _ (by omega) (by omega) (by omega) ?_ ?_ ?_ ?_
                                                      · rw [ejm]
                                                        first | (rw [if_pos (by omega)] at s2; omega) | (rw [if_neg (by omega)] at s2; omega)
                                                      · rw [ejm]
                                                        first | (rw [if_pos (by omega)] at s3; omega) | (rw [if_neg (by omega)] at s3; omega)
                                                      · rw [ejm]
                                                        first | (rw [if_pos (by omega)] at s4; omega) | (rw [if_neg (by omega)] at s4; omega)
                                                      · rw [ejm]
                                                        first | exact lcm2_y (by omega) (by omega) | exact lcm2_n e5 (by omega)))
                                            · first
                                              | exact absurd d_143 (by omega)
                                              | (refine b_X4_common_146 (by first | omega | assumption) ?_
                                                 refine s_X4_times h0 (by omega) ?_
                                                 refine b_X4_common_153  ?_
                                                 refine b_X4_common_163 (by first | omega | assumption) (fun d_163 => ?_) (fun d_163 => ?_)
                                                 · first
                                                   | exact absurd d_163 (by omega)
                                                   | (refine b_X4_common_175  ?_
                                                      refine b_X4_common_177  ?_
                                                      have ejm : j + -1 + 1 = j := by omega
                                                      refine ih _ _ _ _ _ (by omega) (by omega) (by omega) ?_ ?_ ?_ ?_
                                                      · rw [ejm]
                                                        first | (rw [if_pos (by omega)] at s2; omega) | (rw [if_neg (by omega)] at s2; omega)
                                                      · rw [ejm]
                                                        first | (rw [if_pos (by omega)] at s3; omega) | (rw [if_neg (by omega)] at s3; omega)
                                                      · rw [ejm]
                                                        first | (rw [if_pos (by omega)] at s4; omega) | (rw [if_neg (by omega)] at s4; omega)
                                                      · rw [ejm]
                                                        first | exact lcm2_y (by omega) (by omega) | exact lcm2_n e5 (by omega))
                                                 · first
                                                   | exact absurd d_163 (by omega)
                                                   | (refine b_X4_common_170  ?_
                                                      refine b_X4_common_177  ?_
                                                      have ejm : j + -1 + 1 = j := by omega
                                                      refine ih _ _ _ _ _ (by omega) (by omega) (by omega) ?_ ?_ ?_ ?_
                                                      · rw [ejm]
                                                        first | (rw [if_pos (by omega)] at s2; omega) | (rw [if_neg (by omega)] at s2; omega)
                                                      · rw [ejm]
                                                        first | (rw [if_pos (by omega)] at s3; omega) | (rw [if_neg (by omega)] at s3; omega)
                                                      · rw [ejm]
                                                        first | (rw [if_pos (by omega)] at s4; omega) | (rw [if_neg (by omega)] at s4; omega)
                                                      · rw [ejm]
                                                        first | exact lcm2_y (by omega) (by omega) | exact lcm2_n e5 (by omega))))
                                       · first
                                         | exact absurd d_116 (by omega)
                                         | (refine b_X4_common_125  ?_
                                            refine b_X4_common_163 (by first | omega | assumption) (fun d_163 => ?_) (fun d_163 => ?_)
                                            · first
                                              | exact absurd d_163 (by omega)
                                              | (refine b_X4_common_175  ?_
                                                 refine b_X4_common_177  ?_
                                                 have ejm : j + -1 + 1 = j := by omega
                                                 refine ih _ _ _ _ _ (by omega) (by omega) (by omega) ?_ ?_ ?_ ?_
                                                 · rw [ejm]
                                                   first | (rw [if_pos (by omega)] at s2; omega) | (rw [if_neg (by omega)] at s2; omega)
                                                 · rw [ejm]
                                                   first | (rw [if_pos (by omega)] at s3; omega) | (rw [if_neg (by omega)] at s3; omega)
                                                 · rw [ejm]
                                                   first | (rw [if_pos (by omega)] at s4; omega) | (rw [if_neg (by omega)] at s4; omega)
                                                 · rw [ejm]
                                                   first | exact lcm2_y (by omega) (by omega) | exact lcm2_n e5 (by omega))
                                            · first
                                              | exact absurd d_163 (by omega)
                                              | (refine b_X4_common_170  ?_
                                                 refine b_X4_common_177  ?_
                                                 have ejm : j + -1 + 1 = j := by omega
                                                 refine ih _ _ _ _ _ (by omega) (by omega) (by omega) ?_ ?_ ?_ ?_
                                                 · rw [ejm]
                                                   first | (rw [if_pos (by omega)] at s2; omega) | (rw [if_neg (by omega)] at s2; omega)
                                                 · rw [ejm]
                                                   first | (rw [if_pos (by omega)] at s3; omega) | (rw [if_neg (by omega)] at s3; omega)
                                                 · rw [ejm]
                                                   first | (rw [if_pos (by omega)] at s4; omega) | (rw [if_neg (by omega)] at s4; omega)
                                                 · rw [ejm]
                                                   first | exact lcm2_y (by omega) (by omega) | exact lcm2_n e5 (by omega))))))))))

theorem s_X4_common {Q : List rV → rW → Prop} {w : rW} {n m b0 b1 : Int} (h0 : MR w 0 n b0) (h1 : MR w 1 m b1) {q : Int} (hq : R32 q) (hQ : ∀ r, cmn (mf w 0) (mf w 1) n m q r → Q [vi r] w) : WP M_X4_common 0 [vr 9, vi q, vu, vu, vu, vu, vu, vu, vu, vu] [] w Q := by
  have ho : oc 9 = 4 := rfl
  refine b_X4_common_0 ?_
  refine s_X4_in (by omega) (by omega) (by omega) (fun r0 hr0 => ?_)
  refine b_X4_common_6 (by omega) (fun g => ?_) (fun g => ?_)
  · refine b_X4_common_12 ho ?_
    refine s_X4_many h0 ?_
    refine b_X4_common_28 ?_
    refine l_X4_common h0 h1 (q := q) (fun r3 u hl => ?_) _ (n - 1) 0 0 0 _ (Nat.lt_succ_self _) (by have := h0.2.2.2.2.1; omega) (by omega) ?_ ?_ ?_ ?_
    · refine b_X4_common_185 hq (fun g1 => ?_) (fun g1 => ?_) (fun g1 => ?_) (fun g1 => ?_) (fun g1 => ?_)
      · exact b_X4_common_216 (hQ _ ⟨fun _ => rfl, fun _ => by omega, fun _ => by omega, fun _ => by omega, fun _ => by omega, fun _ => by omega⟩)
      · exact b_X4_common_218 (hQ _ ⟨fun _ => by omega, fun _ => rfl, fun _ => by omega, fun _ => by omega, fun _ => by omega, fun _ => by omega⟩)
      · exact b_X4_common_220 (hQ _ ⟨fun _ => by omega, fun _ => by omega, fun _ => rfl, fun _ => by omega, fun _ => by omega, fun _ => by omega⟩)
      · exact b_X4_common_223 (hQ _ ⟨fun _ => by omega, fun _ => by omega, fun _ => by omega, fun _ => hl, fun _ => by omega, fun _ => by omega⟩)
      · refine b_X4_common_226 ho ?_
        refine s_X4_difference h0 h1 (fun r hr => ?_)
        exact b_X4_common_230 (hQ _ ⟨fun _ => by omega, fun _ => by omega, fun _ => by omega, fun _ => by omega, fun _ => hr, fun _ => by omega⟩)
    · rw [show n - 1 + 1 = n by omega]; omega
    · rw [show n - 1 + 1 = n by omega]; unfold cr; omega
    · rw [show n - 1 + 1 = n by omega]; omega
    · rw [show n - 1 + 1 = n by omega]
      exact Or.inl ⟨rfl, fun i z1 z2 => by omega⟩
  · exact b_X4_common_9 (hQ _ ⟨fun _ => by omega, fun _ => by omega, fun _ => by omega, fun _ => by omega, fun _ => by omega, fun _ => rfl⟩)
theorem s_X3_common {Q : List rV → rW → Prop} {w : rW} {a c n m q : Int} (e0 : w 0 0 = a) (e1 : w 0 1 = c) (h : R0 w a n) (hc : R0 w c m) (hq : R32 q) (hQ : ∀ r, R32 r → cmn (w (a + 1)) (w (c + 1)) n m q r → Q [vi r] w) : WP M_X3_common 0 [vr 0, vi q] [] w Q := by
  have ho : oc 0 = 3 := rfl
  have oa : oc (w 0 0) = 1 := by rw [e0]; exact h.2.1
  have hn0 := h.2.2.2.2.2.1
  have hn4 := h.2.2.2.2.2.2.1
  have hm0 := hc.2.2.2.2.2.1
  have hm4 := hc.2.2.2.2.2.2.1
  have hva := h.2.2.2.2.2.2.2
  have b0 := cu_bd (f := w (a + 1)) (g := w (c + 1)) (m := m) ⟨hn0, hn4⟩
  have b1 := cr_bd (f := w (a + 1)) (g := w (c + 1)) ⟨hn0, hn4⟩ ⟨hm0, hm4⟩
  have b2 := cu_ca (f := w (a + 1)) (g := w (c + 1)) (m := m) n.toNat
  have b3 : cu (w (a + 1)) (w (c + 1)) n m + ca (w (a + 1)) (w (c + 1)) n m = unl (w (a + 1)) n := b2
  have b4 := unl_bd (f := w (a + 1)) hn0
  refine b_X3_common_0 hq (fun g1 => ?_) (fun g1 => ?_) (fun g1 => ?_) (fun g1 => ?_) (fun g1 => ?_) (fun g1 => ?_)
  · refine b_X3_common_36 ho ?_
    refine s_X3_commonUnlike e0 e1 h hc ?_
    exact b_X3_common_40 (hQ _ (by omega) ⟨fun _ => rfl, fun _ => by omega, fun _ => by omega, fun _ => by omega, fun _ => by omega, fun _ => by omega⟩)
  · refine b_X3_common_41 ho ?_
    refine s_X3_commonRepeated e0 e1 h hc ?_
    exact b_X3_common_45 (hQ _ (by omega) ⟨fun _ => by omega, fun _ => rfl, fun _ => by omega, fun _ => by omega, fun _ => by omega, fun _ => by omega⟩)
  · refine b_X3_common_46 ho oa ?_
    rw [e0]
    refine s_X1_unlike h ?_
    refine b_X3_common_53 ho ?_
    refine s_X3_commonUnlike e0 e1 h hc ?_
    exact b_X3_common_57 (hQ _ (by omega) ⟨fun _ => by omega, fun _ => by omega, fun _ => by omega, fun _ => by omega, fun _ => by omega, fun _ => by omega⟩)
  · refine b_X3_common_59 ho ?_
    refine s_X3_leastCommon e0 e1 h hc (fun r hr => ?_)
    refine b_X3_common_63 (hQ _ ?_ ⟨fun _ => by omega, fun _ => by omega, fun _ => by omega, fun _ => hr, fun _ => by omega, fun _ => by omega⟩)
    rcases hr with ⟨e, -⟩ | ⟨i, hi, -, -, e⟩
    · omega
    · have := hva i hi.1 hi.2
      omega
  · refine b_X3_common_64 ho ?_
    refine s_X3_leastDifference e0 e1 h hc (fun r hr1 hr => ?_)
    exact b_X3_common_68 (hQ _ hr1 ⟨fun _ => by omega, fun _ => by omega, fun _ => by omega, fun _ => by omega, fun _ => hr, fun _ => by omega⟩)
  · exact b_X3_common_69 (hQ _ (by omega) ⟨fun _ => by omega, fun _ => by omega, fun _ => by omega, fun _ => by omega, fun _ => by omega, fun _ => rfl⟩)
theorem j_common {w : rW} {q : Int} (hI : Inv w) (hqr : R32 q) : WP M_X3_common 0 [vr 0, vi q] [] w (JQ M_X4_common [vr 9, vi q, vu, vu, vu, vu, vu, vu, vu, vu]) := by
  obtain ⟨-, ⟨a0, a1, n0, b0, n1, b1, g1, g2, g3, ⟨k1, k2, k3, k4⟩, ⟨l1, l2, l3, l4⟩⟩, -, -⟩ := id hI
  refine s_X3_common g1 g2 k1.1 l1.1 hqr (fun r hr1 hr => ?_)
  refine JQ.mk hr1 ?_
  refine s_X4_common k2 l2 hqr (fun r2 hr2 => ?_)
  exact JE (cmn_one k2.2.2.2.2.1 l2.2.2.2.2.1 k4 l4 hr hr2) hI

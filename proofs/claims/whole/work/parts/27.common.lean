/-! common -/
def Hs (g : Int → Int) (n x : Int) : Prop := cl g n x < n ∧ g (cl g n x) = x
def tm (g : Int → Int) (n x : Int) : Int := cl g n (x + 1) - cl g n x
theorem tm_nn {g : Int → Int} {n x : Int} (h : 0 ≤ n) : 0 ≤ tm g n x ∧ tm g n x ≤ n := by
  obtain ⟨a1, a2, a3, a4⟩ := cl_spec (f := g) (n := n) (x := x) h
  obtain ⟨b1, b2, b3, b4⟩ := cl_spec (f := g) (n := n) (x := x + 1) h
  unfold tm
  rcases Int.lt_or_le (cl g n (x + 1)) (cl g n x) with z | z
  · have y1 := a3 _ b1 z
    have y2 := b4 (by omega)
    omega
  · omega
theorem Hs_tm {g : Int → Int} {n x : Int} (h : 0 ≤ n) : 0 < tm g n x ↔ Hs g n x := by
  obtain ⟨a1, a2, a3, a4⟩ := cl_spec (f := g) (n := n) (x := x) h
  obtain ⟨b1, b2, b3, b4⟩ := cl_spec (f := g) (n := n) (x := x + 1) h
  unfold tm Hs
  constructor
  · intro z
    have y1 := b3 (cl g n x) a1 (by omega)
    have y2 := a4 (by omega)
    exact ⟨by omega, by omega⟩
  · rintro ⟨z1, z2⟩
    rcases Int.lt_or_le (cl g n x) (cl g n (x + 1)) with y | y
    · omega
    · rcases Int.lt_or_le (cl g n (x + 1)) (cl g n x) with k | k
      · have y1 := a3 _ b1 k
        have y2 := b4 (by omega)
        omega
      · have e : cl g n (x + 1) = cl g n x := by omega
        have y2 := b4 (by omega)
        rw [e, z2] at y2
        omega
theorem tm_congr {f g : Int → Int} {n x : Int} (hn : 0 ≤ n) (h : Eqv n f g) : tm f n x = tm g n x := by
  unfold tm
  rw [cl_congr hn h, cl_congr hn h]
theorem Hs_congr {f g : Int → Int} {n x : Int} (hn : 0 ≤ n) (h : Eqv n f g) : Hs f n x ↔ Hs g n x := by
  rw [← Hs_tm hn, ← Hs_tm hn, tm_congr hn h]
/-- sums -/
def sm (p : Int → Int) : Nat → Int
  | 0 => 0
  | k + 1 => sm p k + p k
theorem sm_s {p : Int → Int} {i : Int} (hi : 0 ≤ i) : sm p (i + 1).toNat = sm p i.toNat + p i := by
  have h : (i + 1).toNat = i.toNat + 1 := by omega
  rw [h]
  show sm p i.toNat + _ = _
  rw [Int.toNat_of_nonneg hi]
theorem sm_congr {p q : Int → Int} : ∀ {k : Nat}, (∀ i : Int, 0 ≤ i → i < k → p i = q i) → sm p k = sm q k
  | 0, _ => rfl
  | k + 1, h => by
    unfold sm
    rw [sm_congr (fun i h1 h2 => h i h1 (by omega)), h k (by omega) (by omega)]
/-- a number of the row, that no number ahead of it is like, is in the other row / isn't -/
def cuP (f g : Int → Int) (m i : Int) : Prop := (i = 0 ∨ ¬ f i = f (i - 1)) ∧ 0 < tm g m (f i)
def cu (f g : Int → Int) (n m : Int) : Int := ct (fun i => (i = 0 ∨ ¬ f i = f (i - 1)) ∧ 0 < tm g m (f i)) n.toNat
def ca (f g : Int → Int) (n m : Int) : Int := ct (fun i => (i = 0 ∨ ¬ f i = f (i - 1)) ∧ ¬ 0 < tm g m (f i)) n.toNat
def crV (f g : Int → Int) (n m i : Int) : Int := if i = 0 ∨ ¬ f i = f (i - 1) then min (tm f n (f i)) (tm g m (f i)) else 0
def cr (f g : Int → Int) (n m : Int) : Int := sm (crV f g n m) n.toNat
theorem cu_ca {f g : Int → Int} {m : Int} : ∀ k : Nat, ct (fun i => (i = 0 ∨ ¬ f i = f (i - 1)) ∧ 0 < tm g m (f i)) k + ct (fun i => (i = 0 ∨ ¬ f i = f (i - 1)) ∧ ¬ 0 < tm g m (f i)) k = ct (fun i => i = 0 ∨ ¬ f i = f (i - 1)) k
  | 0 => rfl
  | k + 1 => by
    have h := cu_ca (f := f) (g := g) (m := m) k
    unfold ct
    by_cases z1 : ((k : Int) = 0 ∨ ¬ f k = f (k - 1))
    · by_cases z2 : 0 < tm g m (f k)
      · rw [if_pos ⟨z1, z2⟩, if_neg (fun y => y.2 z2), if_pos z1]; omega
      · rw [if_neg (fun y => z2 y.2), if_pos ⟨z1, z2⟩, if_pos z1]; omega
    · rw [if_neg (fun y => z1 y.1), if_neg (fun y => z1 y.1), if_neg z1]; omega
theorem cu_congr {f g f2 g2 : Int → Int} {n m : Int} (hm : 0 ≤ m) (h : Eqv n f f2) (h2 : Eqv m g g2) : cu f g n m = cu f2 g2 n m := by
  unfold cu
  refine ct_congr (fun i h0 h1 => ?_)
  have e1 := h i h0 (by omega)
  rw [tm_congr hm h2, e1]
  by_cases z : i = 0
  · simp [z]
  · rw [h (i - 1) (by omega) (by omega)]
theorem cr_congr {f g f2 g2 : Int → Int} {n m : Int} (hn : 0 ≤ n) (hm : 0 ≤ m) (h : Eqv n f f2) (h2 : Eqv m g g2) : cr f g n m = cr f2 g2 n m := by
  unfold cr
  refine sm_congr (fun i h0 h1 => ?_)
  have e1 := h i h0 (by omega)
  unfold crV
  rw [tm_congr hm h2, tm_congr hn h, e1]
  by_cases z : i = 0
  · simp [z]
  · rw [h (i - 1) (by omega) (by omega)]
def inR (lo hi i : Int) : Prop := lo ≤ i ∧ i < hi
/-- the least number that is in both, of those from lo on -/
def lcm2 (f g : Int → Int) (n m lo r : Int) : Prop := (r = -1000004 ∧ ∀ i, lo ≤ i → i < n → ¬ 0 < tm g m (f i)) ∨ (∃ i, inR lo n i ∧ 0 < tm g m (f i) ∧ (∀ j, lo ≤ j → j < i → ¬ 0 < tm g m (f j)) ∧ r = f i)
theorem lcm2_one {f g : Int → Int} {n m r s : Int} (h : lcm2 f g n m 0 r) (k : lcm2 f g n m 0 s) : r = s := by
  rcases h with ⟨e, h⟩ | ⟨i, hi, h1, h2, e⟩ <;> rcases k with ⟨e2, k⟩ | ⟨j, hj, k1, k2, e2⟩
  · omega
  · exact absurd k1 (h j hj.1 hj.2)
  · exact absurd h1 (k i hi.1 hi.2)
  · have : i = j := by
      rcases Int.lt_trichotomy i j with z | z | z
      · exact absurd h1 (k2 i hi.1 z)
      · exact z
      · exact absurd k1 (h2 j hj.1 z)
    rw [e, e2, this]
theorem lcm2_congr {f g f2 g2 : Int → Int} {n m r : Int} (hm : 0 ≤ m) (h : Eqv n f f2) (h2 : Eqv m g g2) (k : lcm2 f g n m 0 r) : lcm2 f2 g2 n m 0 r := by
  rcases k with ⟨e, k⟩ | ⟨i, hi, k1, k2, e⟩
  · refine Or.inl ⟨e, fun i z1 z2 => ?_⟩
    rw [← h i z1 z2, ← tm_congr hm h2]
    exact k i z1 z2
  · refine Or.inr ⟨i, hi, ?_, fun j z1 z2 => ?_, ?_⟩
    · rw [← h i hi.1 hi.2, ← tm_congr hm h2]; exact k1
    · rw [← h j z1 (by have := hi.2; omega), ← tm_congr hm h2]; exact k2 j z1 z2
    · rw [← h i hi.1 hi.2]; exact e
def dd (f g : Int → Int) (i k : Int) : Int := if 0 ≤ f i - g k then f i - g k else -(f i - g k)
def prd (m a c i k : Int) : Prop := 0 ≤ i ∧ 0 ≤ k ∧ k < m ∧ (i < a ∨ (i = a ∧ k < c))
def att (f g : Int → Int) (m a c r : Int) : Prop := ∃ i k, prd m a c i k ∧ dd f g i k = r
def lows (f g : Int → Int) (m a c r : Int) : Prop := ∀ i k, prd m a c i k → r ≤ dd f g i k
theorem lows_s {f g : Int → Int} {m a c r s : Int} (h : lows f g m a c r) (hs : s ≤ r) (hd : s ≤ dd f g a c) : lows f g m a (c + 1) s := by
  rintro i k ⟨k1, k2, k3, k4⟩
  by_cases z : i = a ∧ k = c
  · rw [z.1, z.2]; exact hd
  · exact Int.le_trans hs (h i k ⟨k1, k2, k3, by omega⟩)
theorem att_s {f g : Int → Int} {m a c r : Int} (h : att f g m a c r) : att f g m a (c + 1) r := by
  obtain ⟨i, k, ⟨k1, k2, k3, k4⟩, e⟩ := h
  exact ⟨i, k, ⟨k1, k2, k3, by omega⟩, e⟩
theorem att_n {f g : Int → Int} {m a c r : Int} (h0 : 0 ≤ a) (h1 : 0 ≤ c) (h2 : c < m) (e : dd f g a c = r) : att f g m a (c + 1) r := ⟨a, c, ⟨h0, h1, h2, by omega⟩, e⟩
theorem lows_r {f g : Int → Int} {m a c r : Int} (h : lows f g m a c r) (hc : m ≤ c) : lows f g m (a + 1) 0 r := fun i k ⟨k1, k2, k3, k4⟩ => h i k ⟨k1, k2, k3, by omega⟩
theorem att_r {f g : Int → Int} {m a c r : Int} (h : att f g m a c r) : att f g m (a + 1) 0 r := by
  obtain ⟨i, k, ⟨k1, k2, k3, k4⟩, e⟩ := h
  exact ⟨i, k, ⟨k1, k2, k3, by omega⟩, e⟩
/-- the least difference -/
def ldf (f g : Int → Int) (n m r : Int) : Prop := (r = -1000004 ∧ (n < 1 ∨ m < 1)) ∨ (1 ≤ n ∧ 1 ≤ m ∧ lows f g m n 0 r ∧ att f g m n 0 r)
theorem ldf_one {f g : Int → Int} {n m r s : Int} (h : ldf f g n m r) (k : ldf f g n m s) : r = s := by
  rcases h with ⟨e, h⟩ | ⟨h1, h2, h3, i, j, h4, h5⟩ <;> rcases k with ⟨e2, k⟩ | ⟨k1, k2, k3, i2, j2, k4, k5⟩
  · omega
  · omega
  · omega
  · have a1 := h3 i2 j2 k4
    have a2 := k3 i j h4
    omega
theorem dd_congr {f g f2 g2 : Int → Int} {n m i k : Int} (h : Eqv n f f2) (h2 : Eqv m g g2) (hp : prd m n 0 i k) : dd f g i k = dd f2 g2 i k := by
  obtain ⟨k1, k2, k3, k4⟩ := hp
  unfold dd
  rw [h i k1 (by omega), h2 k k2 k3]
theorem ldf_congr {f g f2 g2 : Int → Int} {n m r : Int} (h : Eqv n f f2) (h2 : Eqv m g g2) (k : ldf f g n m r) : ldf f2 g2 n m r := by
  rcases k with k | ⟨k1, k2, k3, i, j, k4, k5⟩
  · exact Or.inl k
  · exact Or.inr ⟨k1, k2, fun i2 j2 z => by rw [← dd_congr h h2 z]; exact k3 i2 j2 z, i, j, k4, by rw [← dd_congr h h2 k4]; exact k5⟩

theorem l_X3_commonUnlike {Q : List rV → rW → Prop} {w : rW} {a c n m : Int} (e0 : w 0 0 = a) (e1 : w 0 1 = c) (h : R0 w a n) (hc : R0 w c m) (hQ : Q [vi (cu (w (a + 1)) (w (c + 1)) n m)] w) : ∀ (k : Nat) (i x : Int), (n - i).toNat < k → 0 ≤ i → i ≤ n → x = cu (w (a + 1)) (w (c + 1)) i m → WP M_X3_commonUnlike 4 [vr 0, vi x, vi i] [] w Q := by
  intro k
  induction k with
  | zero => intro i x hk; omega
  | succ k ih =>
    intro i x hk hi0 hin ex
    have ho : oc 0 = 3 := rfl
    have oa : oc (w 0 0) = 1 := by rw [e0]; exact h.2.1
    have ob : oc (w 0 1) = 1 := by rw [e1]; exact hc.2.1
    have hn0 := h.2.2.2.2.2.1
    have hn4 := h.2.2.2.2.2.2.1
    have hm0 := hc.2.2.2.2.2.1
    have hm4 := hc.2.2.2.2.2.2.1
    have hn1 : w (w 0 0) 1 = n := by rw [e0]; exact h.2.2.2.2.1
    have hm1 : w (w 0 1) 1 = m := by rw [e1]; exact hc.2.2.2.2.1
    have hva := h.2.2.2.2.2.2.2
    have hvc := hc.2.2.2.2.2.2.2
    have hs : cu (w (a + 1)) (w (c + 1)) (i + 1) m = x + if (i = 0 ∨ ¬ w (a + 1) i = w (a + 1) (i - 1)) ∧ 0 < tm (w (c + 1)) m (w (a + 1) i) then 1 else 0 := by
      unfold cu at ex ⊢
      rw [ct_s hi0, ← ex]
    have htm : tm (w (c + 1)) m (w (a + 1) i) = cl (w (c + 1)) m (w (a + 1) i + 1) - cl (w (c + 1)) m (w (a + 1) i) := rfl
    have hvi := fun z => hva i hi0 z
    refine b_X3_commonUnlike_4 (by first | omega | (rw [e1]; exact hc.2.1) | assumption) (by first | omega | (rw [e1]; exact hc.2.1) | assumption) (by first | omega | (rw [e1]; exact hc.2.1) | assumption) (by first | omega | (rw [e1]; exact hc.2.1) | assumption) (fun c_4 => ?_) (fun c_4 => ?_)
    · refine b_X3_commonUnlike_53  ?_
      exact qe hQ (by rw [ex, (by omega : i = n)])
    · refine b_X3_commonUnlike_15 (by first | omega | (rw [e1]; exact hc.2.1) | assumption) (by first | omega | (rw [e1]; exact hc.2.1) | assumption) ?_
      rw [e0]
      refine s_X1_isNew h (by omega) (by omega) (fun r hr => ?_)
      refine b_X3_commonUnlike_23 (by first | omega | (rw [e1]; exact hc.2.1) | assumption) (fun c_23 => ?_) (fun c_23 => ?_)
      · refine b_X3_commonUnlike_47  ?_
        refine ih _ _ (by omega) (by omega) (by omega) ?_
        rw [hs]
        first | (rw [if_pos (by omega)]; done) | (rw [if_neg (by omega)]; omega)
      · have hvi := hvi (by omega)
        refine b_X3_commonUnlike_26 (by first | omega | (rw [e1]; exact hc.2.1) | assumption) (by first | omega | (rw [e1]; exact hc.2.1) | assumption) ?_
        rw [e0]
        refine s_X1_numberIn h (by omega) (by omega) ?_
        refine b_X3_commonUnlike_38 (by first | omega | (rw [e1]; exact hc.2.1) | assumption) ?_
        rw [e1]
        refine s_X1_holds hc (by omega) (fun r2 hr2 => ?_)
        refine b_X3_commonUnlike_41 (by first | omega | (rw [e1]; exact hc.2.1) | assumption) (fun c_41 => ?_) (fun c_41 => ?_)
        · refine b_X3_commonUnlike_47  ?_
          refine ih _ _ (by omega) (by omega) (by omega) ?_
          rw [hs]
          first | (rw [if_pos (by omega)]; done) | (rw [if_neg (by omega)]; omega)
        · refine b_X3_commonUnlike_44  ?_
          refine b_X3_commonUnlike_47  ?_
          refine ih _ _ (by omega) (by omega) (by omega) ?_
          rw [hs]
          first | (rw [if_pos (by omega)]; done) | (rw [if_neg (by omega)]; omega)

theorem s_X3_commonUnlike {Q : List rV → rW → Prop} {w : rW} {a c n m : Int} (e0 : w 0 0 = a) (e1 : w 0 1 = c) (h : R0 w a n) (hc : R0 w c m) (hQ : Q [vi (cu (w (a + 1)) (w (c + 1)) n m)] w) : WP M_X3_commonUnlike 0 [vr 0, vu, vu] [] w Q := by
  have hn0 := h.2.2.2.2.2.1
  refine b_X3_commonUnlike_0 ?_
  exact l_X3_commonUnlike e0 e1 h hc hQ _ 0 0 (Nat.lt_succ_self _) (Int.le_refl _) hn0 rfl

theorem l_X3_commonRepeated {Q : List rV → rW → Prop} {w : rW} {a c n m : Int} (e0 : w 0 0 = a) (e1 : w 0 1 = c) (h : R0 w a n) (hc : R0 w c m) (hQ : Q [vi (cr (w (a + 1)) (w (c + 1)) n m)] w) : ∀ (k : Nat) (i x : Int), (n - i).toNat < k → 0 ≤ i → i ≤ n → x = sm (crV (w (a + 1)) (w (c + 1)) n m) i.toNat → WP M_X3_commonRepeated 4 [vr 0, vi x, vi i, vu] [] w Q := by
  intro k
  induction k with
  | zero => intro i x hk; omega
  | succ k ih =>
    intro i x hk hi0 hin ex
    have ho : oc 0 = 3 := rfl
    have oa : oc (w 0 0) = 1 := by rw [e0]; exact h.2.1
    have ob : oc (w 0 1) = 1 := by rw [e1]; exact hc.2.1
    have hn0 := h.2.2.2.2.2.1
    have hn4 := h.2.2.2.2.2.2.1
    have hm0 := hc.2.2.2.2.2.1
    have hm4 := hc.2.2.2.2.2.2.1
    have hn1 : w (w 0 0) 1 = n := by rw [e0]; exact h.2.2.2.2.1
    have hm1 : w (w 0 1) 1 = m := by rw [e1]; exact hc.2.2.2.2.1
    have hva := h.2.2.2.2.2.2.2
    have hvc := hc.2.2.2.2.2.2.2
    have hs : sm (crV (w (a + 1)) (w (c + 1)) n m) (i + 1).toNat = x + crV (w (a + 1)) (w (c + 1)) n m i := by rw [sm_s hi0, ← ex]
    have hvi := fun z => hva i hi0 z
    have t1 := tm_nn (g := w (a + 1)) (x := w (a + 1) i) hn0
    have t2 := tm_nn (g := w (c + 1)) (x := w (a + 1) i) hm0
    unfold tm at t1 t2
    refine b_X3_commonRepeated_4 (by first | omega | (rw [e1]; exact hc.2.1) | assumption) (by first | omega | (rw [e1]; exact hc.2.1) | assumption) (by first | omega | (rw [e1]; exact hc.2.1) | assumption) (by first | omega | (rw [e1]; exact hc.2.1) | assumption) (fun c_4 => ?_) (fun c_4 => ?_)
    · refine b_X3_commonRepeated_63  ?_
      exact qe hQ (by rw [ex, (by omega : i = n)]; rfl)
    · have hvi := hvi (by omega)
      refine b_X3_commonRepeated_15 (by first | omega | (rw [e1]; exact hc.2.1) | assumption) (by first | omega | (rw [e1]; exact hc.2.1) | assumption) ?_
      rw [e0]
      refine s_X1_numberIn h (by omega) (by omega) ?_
      refine b_X3_commonRepeated_23 (by first | omega | (rw [e1]; exact hc.2.1) | assumption) (by first | omega | (rw [e1]; exact hc.2.1) | assumption) ?_
      rw [e0]
      refine s_X1_isNew h (by omega) (by omega) (fun r hr => ?_)
      refine b_X3_commonRepeated_32 (by first | omega | (rw [e1]; exact hc.2.1) | assumption) (fun c_32 => ?_) (fun c_32 => ?_)
      · refine b_X3_commonRepeated_57  ?_
        refine ih _ _ (by omega) (by omega) (by omega) ?_
        rw [hs]
        unfold crV tm
        first | (rw [if_pos (by omega)]; done) | (rw [if_neg (by omega)]; omega)
      · refine b_X3_commonRepeated_35 (by first | omega | (rw [e1]; exact hc.2.1) | assumption) (by first | omega | (rw [e1]; exact hc.2.1) | assumption) ?_
        rw [e0]
        refine s_X1_timesOf h (by omega) ?_
        refine b_X3_commonRepeated_44 (by first | omega | (rw [e1]; exact hc.2.1) | assumption) (by first | omega | (rw [e1]; exact hc.2.1) | assumption) ?_
        rw [e1]
        refine s_X1_timesOf hc (by omega) ?_
        refine b_X3_commonRepeated_52 (by first | omega | (rw [e1]; exact hc.2.1) | assumption) (by first | omega | (rw [e1]; exact hc.2.1) | assumption) ?_
        refine b_X3_commonRepeated_57  ?_
        refine ih _ _ (by omega) (by omega) (by omega) ?_
        rw [hs]
        unfold crV tm
        first | (rw [if_pos (by omega)]; done) | (rw [if_neg (by omega)]; omega)

theorem s_X3_commonRepeated {Q : List rV → rW → Prop} {w : rW} {a c n m : Int} (e0 : w 0 0 = a) (e1 : w 0 1 = c) (h : R0 w a n) (hc : R0 w c m) (hQ : Q [vi (cr (w (a + 1)) (w (c + 1)) n m)] w) : WP M_X3_commonRepeated 0 [vr 0, vu, vu, vu] [] w Q := by
  have hn0 := h.2.2.2.2.2.1
  refine b_X3_commonRepeated_0 ?_
  exact l_X3_commonRepeated e0 e1 h hc hQ _ 0 0 (Nat.lt_succ_self _) (Int.le_refl _) hn0 rfl

theorem l_X3_leastCommon {Q : List rV → rW → Prop} {w : rW} {a c n m : Int} (e0 : w 0 0 = a) (e1 : w 0 1 = c) (h : R0 w a n) (hc : R0 w c m) (hQ : ∀ r, lcm2 (w (a + 1)) (w (c + 1)) n m 0 r → Q [vi r] w) : ∀ (k : Nat) (i : Int), (n - i).toNat < k → 0 ≤ i → i ≤ n → (∀ j, 0 ≤ j → j < i → ¬ 0 < tm (w (c + 1)) m (w (a + 1) j)) → WP M_X3_leastCommon 2 [vr 0, vi i, vu] [] w Q := by
  intro k
  induction k with
  | zero => intro i hk; omega
  | succ k ih =>
    intro i hk hi0 hin hlt
    have ho : oc 0 = 3 := rfl
    have oa : oc (w 0 0) = 1 := by rw [e0]; exact h.2.1
    have ob : oc (w 0 1) = 1 := by rw [e1]; exact hc.2.1
    have hn0 := h.2.2.2.2.2.1
    have hn4 := h.2.2.2.2.2.2.1
    have hm0 := hc.2.2.2.2.2.1
    have hm4 := hc.2.2.2.2.2.2.1
    have hn1 : w (w 0 0) 1 = n := by rw [e0]; exact h.2.2.2.2.1
    have hm1 : w (w 0 1) 1 = m := by rw [e1]; exact hc.2.2.2.2.1
    have hva := h.2.2.2.2.2.2.2
    have hvc := hc.2.2.2.2.2.2.2
    have htm : tm (w (c + 1)) m (w (a + 1) i) = cl (w (c + 1)) m (w (a + 1) i + 1) - cl (w (c + 1)) m (w (a + 1) i) := rfl
    have hvi := fun z => hva i hi0 z
    refine b_X3_leastCommon_2 (by first | omega | (rw [e1]; exact hc.2.1) | assumption) (by first | omega | (rw [e1]; exact hc.2.1) | assumption) (by first | omega | (rw [e1]; exact hc.2.1) | assumption) (by first | omega | (rw [e1]; exact hc.2.1) | assumption) (fun c_2 => ?_) (fun c_2 => ?_)
    · refine b_X3_leastCommon_41  ?_
      exact hQ _ (Or.inl ⟨rfl, fun j z1 z2 => hlt j z1 (by omega)⟩)
    · have hvi := hvi (by omega)
      refine b_X3_leastCommon_13 (by first | omega | (rw [e1]; exact hc.2.1) | assumption) (by first | omega | (rw [e1]; exact hc.2.1) | assumption) ?_
      rw [e0]
      refine s_X1_numberIn h (by omega) (by omega) ?_
      refine b_X3_leastCommon_21 (by first | omega | (rw [e1]; exact hc.2.1) | assumption) (by first | omega | (rw [e1]; exact hc.2.1) | assumption) ?_
      rw [e1]
      refine s_X1_holds hc (by omega) (fun r2 hr2 => ?_)
      refine b_X3_leastCommon_30 (by first | omega | (rw [e1]; exact hc.2.1) | assumption) (fun c_30 => ?_) (fun c_30 => ?_)
      · refine b_X3_leastCommon_35  ?_
        refine ih _ (by omega) (by omega) (by omega) (fun j z1 z2 => ?_)
        by_cases z : j = i
        · rw [z]; omega
        · exact hlt j z1 (by omega)
      · refine b_X3_leastCommon_33  ?_
        exact hQ _ (Or.inr ⟨i, ⟨hi0, by omega⟩, by omega, hlt, rfl⟩)

theorem s_X3_leastCommon {Q : List rV → rW → Prop} {w : rW} {a c n m : Int} (e0 : w 0 0 = a) (e1 : w 0 1 = c) (h : R0 w a n) (hc : R0 w c m) (hQ : ∀ r, lcm2 (w (a + 1)) (w (c + 1)) n m 0 r → Q [vi r] w) : WP M_X3_leastCommon 0 [vr 0, vu, vu] [] w Q := by
  have hn0 := h.2.2.2.2.2.1
  refine b_X3_leastCommon_0 ?_
  exact l_X3_leastCommon e0 e1 h hc hQ _ 0 (Nat.lt_succ_self _) (Int.le_refl _) hn0 (fun j z1 z2 => by omega)

theorem dd_bd {w : rW} {a c n m i k : Int} (h : R0 w a n) (hc : R0 w c m) (h0 : 0 ≤ i) (h1 : i < n) (h2 : 0 ≤ k) (h3 : k < m) : 0 ≤ dd (w (a + 1)) (w (c + 1)) i k ∧ dd (w (a + 1)) (w (c + 1)) i k ≤ 4095 := by
  have k1 := h.2.2.2.2.2.2.2 i h0 h1
  have k2 := hc.2.2.2.2.2.2.2 k h2 h3
  unfold dd
  split <;> omega
theorem li_X3_leastDifference {Q : List rV → rW → Prop} {w : rW} {a c n m : Int} (e0 : w 0 0 = a) (e1 : w 0 1 = c) (h : R0 w a n) (hc : R0 w c m) {i : Int} (hi : 0 ≤ i ∧ i < n) (hQ : ∀ r kk, 0 ≤ r → r ≤ 4095 → m ≤ kk → lows (w (a + 1)) (w (c + 1)) m i kk r → (r = 4095 ∨ att (w (a + 1)) (w (c + 1)) m i kk r) → WP M_X3_leastDifference 86 [vr 0, vi r, vi i, vi kk] [] w Q) : ∀ (k : Nat) (j r : Int), (m - j).toNat < k → 0 ≤ j → j ≤ m → 0 ≤ r → r ≤ 4095 → lows (w (a + 1)) (w (c + 1)) m i j r → (r = 4095 ∨ att (w (a + 1)) (w (c + 1)) m i j r) → WP M_X3_leastDifference 44 [vr 0, vi r, vi i, vi j] [] w Q := by
  intro k
  induction k with
  | zero => intro j r hk; omega
  | succ k ih =>
    intro j r hk hj0 hjm hr0 hr1 hl ha
    have ho : oc 0 = 3 := rfl
    have oa : oc (w 0 0) = 1 := by rw [e0]; exact h.2.1
    have ob : oc (w 0 1) = 1 := by rw [e1]; exact hc.2.1
    have hn0 := h.2.2.2.2.2.1
    have hn4 := h.2.2.2.2.2.2.1
    have hm0 := hc.2.2.2.2.2.1
    have hm4 := hc.2.2.2.2.2.2.1
    have hn1 : w (w 0 0) 1 = n := by rw [e0]; exact h.2.2.2.2.1
    have hm1 : w (w 0 1) 1 = m := by rw [e1]; exact hc.2.2.2.2.1
    have hva := h.2.2.2.2.2.2.2
    have hvc := hc.2.2.2.2.2.2.2
    have hvi := hva i hi.1 hi.2
    have hvj := fun z => hvc j hj0 z
    have hdd := fun z => dd_bd h hc hi.1 hi.2 hj0 z
    have hde : dd (w (a + 1)) (w (c + 1)) i j = if 0 ≤ w (a + 1) i - w (c + 1) j then w (a + 1) i - w (c + 1) j else -(w (a + 1) i - w (c + 1) j) := rfl
    refine b_X3_leastDifference_44 ho ob (by omega) (by omega) (fun g => ?_) (fun g => ?_)
    · exact hQ r j hr0 hr1 (by omega) hl ha
    · have hvj := hvj (by omega)
      have hdd := hdd (by omega)
      refine b_X3_leastDifference_55 ho oa ?_
      rw [e0]
      refine s_X1_numberIn h hi.1 hi.2 ?_
      refine b_X3_leastDifference_64 ho ob ?_
      rw [e1]
      refine s_X1_numberIn hc hj0 (by omega) ?_
      rw [hde] at hdd
      refine b_X3_leastDifference_72 (by omega) (by omega) (by omega) ?_
      rw [← hde] at hdd ⊢
      refine ih _ _ (by omega) (by omega) (by omega) (by omega) (by omega) (lows_s hl (by omega) (by omega)) ?_
      by_cases z : r ≤ dd (w (a + 1)) (w (c + 1)) i j
      · rw [Int.min_eq_left z]
        rcases ha with y | y
        · exact Or.inl y
        · exact Or.inr (att_s y)
      · rw [Int.min_eq_right (by omega)]
        exact Or.inr (att_n hi.1 hj0 (by omega) rfl)
theorem lo_X3_leastDifference {Q : List rV → rW → Prop} {w : rW} {a c n m : Int} (e0 : w 0 0 = a) (e1 : w 0 1 = c) (h : R0 w a n) (hc : R0 w c m) (hn : 1 ≤ n) (hm : 1 ≤ m) (hQ : ∀ r, 0 ≤ r → r ≤ 4095 → ldf (w (a + 1)) (w (c + 1)) n m r → Q [vi r] w) : ∀ (k : Nat) (i r : Int), (n - i).toNat < k → 0 ≤ i → i ≤ n → 0 ≤ r → r ≤ 4095 → lows (w (a + 1)) (w (c + 1)) m i 0 r → (r = 4095 ∨ att (w (a + 1)) (w (c + 1)) m i 0 r) → WP M_X3_leastDifference 31 [vr 0, vi r, vi i, vu] [] w Q := by
  intro k
  induction k with
  | zero => intro i r hk; omega
  | succ k ih =>
    intro i r hk hi0 hin hr0 hr1 hl ha
    have ho : oc 0 = 3 := rfl
    have oa : oc (w 0 0) = 1 := by rw [e0]; exact h.2.1
    have ob : oc (w 0 1) = 1 := by rw [e1]; exact hc.2.1
    have hn0 := h.2.2.2.2.2.1
    have hn4 := h.2.2.2.2.2.2.1
    have hm0 := hc.2.2.2.2.2.1
    have hm4 := hc.2.2.2.2.2.2.1
    have hn1 : w (w 0 0) 1 = n := by rw [e0]; exact h.2.2.2.2.1
    have hm1 : w (w 0 1) 1 = m := by rw [e1]; exact hc.2.2.2.2.1
    have hva := h.2.2.2.2.2.2.2
    have hvc := hc.2.2.2.2.2.2.2
    refine b_X3_leastDifference_31 ho oa (by omega) (by omega) (fun g => ?_) (fun g => ?_)
    · have ei : i = n := by omega
      rw [ei] at hl ha
      refine b_X3_leastDifference_92 (hQ r hr0 hr1 (Or.inr ⟨hn, hm, hl, ?_⟩))
      rcases ha with y | y
      · have y1 := dd_bd h hc (Int.le_refl 0) hn (Int.le_refl 0) hm
        have y2 := hl 0 0 ⟨Int.le_refl 0, Int.le_refl 0, by omega, by omega⟩
        exact ⟨0, 0, ⟨Int.le_refl 0, Int.le_refl 0, by omega, by omega⟩, by omega⟩
      · exact y
    · refine b_X3_leastDifference_42 ?_
      refine li_X3_leastDifference e0 e1 h hc ⟨hi0, by omega⟩ (fun r2 kk z1 z2 z3 z4 z5 => ?_) _ 0 r (Nat.lt_succ_self _) (Int.le_refl _) hm0 hr0 hr1 hl ha
      refine b_X3_leastDifference_86 ?_
      refine ih _ _ (by omega) (by omega) (by omega) z1 z2 (lows_r z4 z3) ?_
      rcases z5 with y | y
      · exact Or.inl y
      · exact Or.inr (att_r y)
theorem s_X3_leastDifference {Q : List rV → rW → Prop} {w : rW} {a c n m : Int} (e0 : w 0 0 = a) (e1 : w 0 1 = c) (h : R0 w a n) (hc : R0 w c m) (hQ : ∀ r, R32 r → ldf (w (a + 1)) (w (c + 1)) n m r → Q [vi r] w) : WP M_X3_leastDifference 0 [vr 0, vu, vu, vu] [] w Q := by
  skip
  have ho : oc 0 = 3 := rfl
  have oa : oc (w 0 0) = 1 := by rw [e0]; exact h.2.1
  have ob : oc (w 0 1) = 1 := by rw [e1]; exact hc.2.1
  have hn0 := h.2.2.2.2.2.1
  have hn4 := h.2.2.2.2.2.2.1
  have hm0 := hc.2.2.2.2.2.1
  have hm4 := hc.2.2.2.2.2.2.1
  have hn1 : w (w 0 0) 1 = n := by rw [e0]; exact h.2.2.2.2.1
  have hm1 : w (w 0 1) 1 = m := by rw [e1]; exact hc.2.2.2.2.1
  have hva := h.2.2.2.2.2.2.2
  have hvc := hc.2.2.2.2.2.2.2
  refine b_X3_leastDifference_0 ho oa (by omega) (fun g => ?_) (fun g => ?_)
  · exact b_X3_leastDifference_22 (hQ _ (by omega) (Or.inl ⟨rfl, by omega⟩))
  · refine b_X3_leastDifference_11 ho ob (by omega) (fun g2 => ?_) (fun g2 => ?_)
    · refine b_X3_leastDifference_25 ?_
      exact lo_X3_leastDifference e0 e1 h hc (by omega) (by omega) (fun r z1 z2 z3 => hQ r (by omega) z3) _ 0 4095 (Nat.lt_succ_self _) (Int.le_refl _) hn0 (by decide) (by decide) (fun i k z => by obtain ⟨z1, z2, z3, z4⟩ := z; omega) (Or.inl rfl)
    · exact b_X3_leastDifference_22 (hQ _ (by omega) (Or.inl ⟨rfl, by omega⟩))

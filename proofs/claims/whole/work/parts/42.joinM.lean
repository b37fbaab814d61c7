theorem l_X4_join {Q : List rV → rW → Prop} {w0 : rW} {n b0 m b1 o : Int} {F G : Int → Int} (hM0 : MR w0 0 n b0) (hM1 : MR w0 1 m b1) (h15 : w0 9 15 = 17) (eF : ∀ i, 0 ≤ i → i < n → mf w0 0 i = F i) (eG : ∀ i, 0 ≤ i → i < m → mf w0 1 i = G i) (ho : o = 0 ∨ o = 1) (sF : Srt F n) (sG : Srt G m) (bF : inB F n) (bG : inB G m)
    (hQ : ∀ (w1 : rW) (t : Int), (∀ r q, r ≠ 17 → w1 r q = w0 r q) → 0 ≤ t → t ≤ 80 → JN o F n G m (w1 17) t → WP M_X4_join 166 [vr 9, vi o, vi t, vi n, vi m, vu, vu] [] w1 Q) : ∀ (d : Nat) (w : rW) (t k j : Int), ((n - k) + (m - j)).toNat < d → 0 ≤ k → k ≤ n → 0 ≤ j → j ≤ m → 0 ≤ t → t ≤ k + j → (∀ r q, r ≠ 17 → w r q = w0 r q) → JN o F k G j (w 17) t → (∀ i, 0 ≤ i → i < t → k < n → w 17 i ≤ F k) → (∀ i, 0 ≤ i → i < t → j < m → w 17 i ≤ G j) → WP M_X4_join 19 [vr 9, vi o, vi t, vi k, vi j, vu, vu] [] w Q := by
  have h4 : oc 9 = 4 := rfl
  have n40 : n ≤ 40 := hM0.2.2.2.2.2.1
  have m40 : m ≤ 40 := hM1.2.2.2.2.2.1
  intro d
  induction d with
  | zero => intro w t k j hd; omega
  | succ d ih =>
    intro w t k j hd hk0 hkn hj0 hjm ht0 htk hF hJ hlF hlG
    have e9 : w 9 0 = w0 9 0 := hF 9 0 (by decide)
    have e10 : w 10 = w0 10 := funext fun q => hF 10 q (by decide)
    have hN0 : MR w 0 n b0 := hM0.as e9 e10
    have hN1 : MR w 1 m b1 := hM1.as e9 e10
    have f0 : ∀ i, mf w 0 i = mf w0 0 i := fun i => congrFun e10 _
    have f1 : ∀ i, mf w 1 i = mf w0 1 i := fun i => congrFun e10 _
    have h15w : w 9 15 = 17 := (hF 9 15 (by decide)).trans h15
    have a17 : al (w 9 15) = 80 := by rw [h15w]; rfl
    have tl : ∀ (v a3 j0 dj a5 : Int), 0 ≤ v → v < 4096 → k ≤ a3 → j ≤ j0 + dj → a3 ≤ n → j0 + dj ≤ m → k + j < a3 + (j0 + dj) → (∀ i, 0 ≤ i → i < t → w 17 i ≤ v) → (∀ h2, IF (w 17) h2 t v → (o = 0 ∨ ¬ has (w 17) t v) → JN o F a3 G (j0 + dj) h2 (t + 1)) → (¬ o = 0 → has (w 17) t v → JN o F a3 G (j0 + dj) (w 17) t) → (a3 < n → v ≤ F a3) → (j0 + dj < m → v ≤ G (j0 + dj)) → WP M_X4_join 128 [vr 9, vi o, vi t, vi a3, vi j0, vi a5, vi v] [vi dj, vi j0] w Q := fun v a3 j0 dj a5 v0 v1 x1 x2 x3 x4 x5 hall happ hsk hvF hvG => by
      have put : (o = 0 ∨ ¬ has (w 17) t v) → WP M_X4_join 152 [vr 9, vi o, vi t, vi a3, vi (j0 + dj), vi a5, vi v] [] w Q := fun hne => by
        refine b_X4_join_152 h4 ht0 (by omega) ?_
        rw [h15w]
        refine b_X4_join_163 ?_
        have hA : IF (w 17) (wset w 17 t v 17) t v := IF.app ht0 hall (fun i z1 z2 => ws_nk (by omega)) (ws_eq _ _ _ _)
        have hle : ∀ i, 0 ≤ i → i < t + 1 → wset w 17 t v 17 i ≤ v := fun i z1 z2 => by
          by_cases z : i = t
          · rw [z, ws_eq]; exact Int.le_refl _
          · rw [ws_nk z]; exact hall i z1 (by omega)
        exact ih _ _ _ _ (by omega) (by omega) x3 (by omega) x4 (by omega) (by omega) (fun r q z => by rw [ws_nr z]; exact hF r q z) (happ _ hA hne) (fun i z1 z2 z => Int.le_trans (hle i z1 z2) (hvF z)) (fun i z1 z2 z => Int.le_trans (hle i z1 z2) (hvG z))
      refine b_X4_join_128 (by omega) (fun g => put (Or.inl g)) (fun g => ?_)
      refine b_X4_join_135 (by omega) (fun g1 => put (Or.inr (fun ⟨i, i0, i1, _⟩ => by omega))) (fun g1 => ?_)
      have hlast := hall (t - 1) (by omega) (by omega)
      have hmem := (JN.bnd hk0 hj0 ht0 (sF.sub hkn) (sG.sub hjm) (fun p p0 p1 => bF p p0 (by omega)) (fun p p0 p1 => bG p p0 (by omega)) hJ) (t - 1) (by omega) (by omega)
      refine b_X4_join_139 h4 (by omega) (by omega) (by rw [h15w]; omega) (by omega) (fun g2 => ?_) (fun g2 => put (Or.inr (fun ⟨i, i0, i1, e⟩ => ?_)))
      · rw [h15w] at g2
        refine b_X4_join_163 ?_
        exact ih _ _ _ _ (by omega) (by omega) x3 (by omega) x4 ht0 (by omega) hF (hsk g ⟨t - 1, by omega, by omega, g2⟩) (fun i z1 z2 z => Int.le_trans (hall i z1 z2) (hvF z)) (fun i z1 z2 z => Int.le_trans (hall i z1 z2) (hvG z))
      · rw [h15w] at g2
        have y := hJ.srt i (t - 1) i0 (by omega) (by omega)
        omega
    have own : k < n → (j < m → F k ≤ G j) → WP M_X4_join 73 [vr 9, vi o, vi t, vi k, vi j, vu, vu] [] w Q := fun z1 z2 => by
      have hv := bF k hk0 z1
      have hIF : IF F F k (F k) := IF.self hk0 (sF.sub (by omega))
      refine b_X4_join_73 ?_
      refine b_X4_join_78 (by decide) (fun g => absurd g (by decide)) (fun _ => ?_)
      refine b_X4_join_85 h4 ?_
      refine s_X4_number hN0 hk0 (by omega) ?_
      rw [f0, eF k hk0 z1]
      refine b_X4_join_91 ?_
      refine b_X4_join_101 (by decide) (fun g => absurd g (by decide)) (fun _ => ?_)
      refine b_X4_join_109 ?_
      refine b_X4_join_114 (by decide) (fun g => absurd g (by decide)) (fun _ => ?_)
      refine b_X4_join_123 ?_
      exact tl (F k) (k + 1) j 0 1 hv.1 hv.2 (by omega) (by omega) (by omega) (by omega) (by omega) (fun i i0 i1 => hlF i i0 i1 z1) (fun h2 hh hne => by rw [Int.add_zero]; exact hJ.insF hh hIF hne) (fun g1 g2 => by rw [Int.add_zero]; exact hJ.skF hIF g1 g2) (fun z => sF k (k + 1) hk0 (by omega) z) (fun z => by rw [Int.add_zero] at z ⊢; exact z2 z)
    have oth : j < m → (k < n → G j ≤ F k) → WP M_X4_join 77 [vr 9, vi o, vi t, vi k, vi j, vu, vu] [] w Q := fun z1 z2 => by
      have hv := bG j hj0 z1
      have hIF : IF G G j (G j) := IF.self hj0 (sG.sub (by omega))
      refine b_X4_join_77 ?_
      refine b_X4_join_78 (by decide) (fun _ => ?_) (fun g => absurd rfl g)
      refine b_X4_join_94 h4 ?_
      refine s_X4_number hN1 hj0 (by omega) ?_
      rw [f1, eG j hj0 z1]
      refine b_X4_join_101 (by decide) (fun _ => ?_) (fun g => absurd rfl g)
      refine b_X4_join_113 ?_
      refine b_X4_join_114 (by decide) (fun _ => ?_) (fun g => absurd rfl g)
      refine b_X4_join_127 ?_
      rw [Int.add_zero]
      exact tl (G j) k j 1 0 hv.1 hv.2 (by omega) (by omega) (by omega) (by omega) (by omega) (fun i i0 i1 => hlG i i0 i1 z1) (fun h2 hh hne => hJ.insG hh hIF hne) (fun g1 g2 => hJ.skG hIF g1 g2) (fun z => z2 z) (fun z => sG j (j + 1) hj0 (by omega) z)
    have c38 : k < n ∨ j < m → WP M_X4_join 38 [vr 9, vi o, vi t, vi k, vi j, vu, vu] [] w Q := fun z => by
      refine b_X4_join_38 h4 ?_
      refine s_X4_many hN1 ?_
      refine b_X4_join_45 (by omega) (by omega) (fun g => own (by omega) (fun y => by omega)) (fun g => ?_)
      refine b_X4_join_48 h4 ?_
      refine s_X4_many hN0 ?_
      refine b_X4_join_54 (by omega) (by omega) (fun g1 => oth (by omega) (fun y => by omega)) (fun g1 => ?_)
      refine b_X4_join_57 h4 ?_
      refine s_X4_number hN0 hk0 (by omega) ?_
      refine b_X4_join_63 h4 ?_
      refine s_X4_number hN1 hj0 (by omega) ?_
      rw [f0, eF k hk0 g1, f1, eG j hj0 (by omega)]
      have y1 := bF k hk0 g1
      have y2 := bG j hj0 (by omega)
      exact b_X4_join_70 (by omega) (by omega) (fun g2 => oth (by omega) (fun _ => by omega)) (fun g2 => own g1 (fun _ => g2))
    refine b_X4_join_19 h4 ?_
    refine s_X4_many hN0 ?_
    refine b_X4_join_25 (by omega) (by omega) (fun g => c38 (Or.inl g)) (fun g => ?_)
    refine b_X4_join_28 h4 ?_
    refine s_X4_many hN1 ?_
    refine b_X4_join_35 (by omega) (by omega) (fun g1 => ?_) (fun g1 => c38 (Or.inr g1))
    obtain rfl : k = n := by omega
    obtain rfl : j = m := by omega
    exact hQ w t hF ht0 (by omega) hJ
theorem s_X4_merge {Q : List rV → rW → Prop} {w0 : rW} {n b0 m b1 o : Int} {F G : Int → Int} (hM0 : MR w0 0 n b0) (hM1 : MR w0 1 m b1) (h15 : w0 9 15 = 17) (eF : ∀ i, 0 ≤ i → i < n → mf w0 0 i = F i) (eG : ∀ i, 0 ≤ i → i < m → mf w0 1 i = G i) (ho : o = 0 ∨ o = 1) (sF : Srt F n) (sG : Srt G m) (bF : inB F n) (bG : inB G m)
    (hQ : ∀ (w1 : rW) (t : Int), (∀ r q, r ≠ 17 → w1 r q = w0 r q) → 0 ≤ t → t ≤ 80 → JN o F n G m (w1 17) t → WP M_X4_join 166 [vr 9, vi o, vi t, vi n, vi m, vu, vu] [] w1 Q) : WP M_X4_join 0 [vr 9, vi o, vu, vu, vu, vu, vu] [] w0 Q := by
  have n0 : 0 ≤ n := hM0.2.2.2.2.1
  have m0 : 0 ≤ m := hM1.2.2.2.2.1
  refine b_X4_join_0 ?_
  refine s_X4_in (by omega) (by omega) (by omega) (fun r hr => ?_)
  refine b_X4_join_6 (by omega) (fun _ => ?_) (fun g => absurd g (by omega))
  refine b_X4_join_12 ?_
  exact l_X4_join hM0 hM1 h15 eF eG ho sF sG bF bG hQ _ w0 0 0 0 (Nat.lt_succ_self _) (Int.le_refl _) n0 (Int.le_refl _) m0 (Int.le_refl _) (by decide) (fun _ _ _ => rfl) JN.nil (fun i i0 i1 => by omega) (fun i i0 i1 => by omega)
theorem lc_X4_join {Q : List rV → rW → Prop} {w0 : rW} {o t k j : Int} (h9 : w0 9 0 = 10) (h15 : w0 9 15 = 17) (ht : 0 ≤ t ∧ t ≤ 40) (hQ : ∀ (w1 : rW) (jj : Int), (∀ r q, r ≠ 10 → w1 r q = w0 r q) → (∀ q, ¬ (2 ≤ q ∧ q < 42) → w1 10 q = w0 10 q) → (∀ i, 0 ≤ i → i < t → w1 10 (2 + i) = w0 17 i) → WP M_X4_join 217 [vr 9, vi o, vi t, vi k, vi j, vi jj, vu] [] w1 Q) : ∀ (d : Nat) (w : rW) (p : Int), (t - p).toNat < d → 0 ≤ p → p ≤ t → (∀ r q, r ≠ 10 → w r q = w0 r q) → (∀ q, ¬ (2 ≤ q ∧ q < 42) → w 10 q = w0 10 q) → (∀ i, 0 ≤ i → i < p → w 10 (2 + i) = w0 17 i) → WP M_X4_join 189 [vr 9, vi o, vi t, vi k, vi j, vi p, vu] [] w Q := by
  have h4 : oc 9 = 4 := rfl
  intro d
  induction d with
  | zero => intro w p hd; omega
  | succ d ih =>
    intro w p hd hp0 hpt hF hO hA
    have e0 : w 9 0 = 10 := (hF 9 0 (by decide)).trans h9
    have e15 : w 9 15 = 17 := (hF 9 15 (by decide)).trans h15
    have a0 : al (w 9 0) = 84 := by rw [e0]; rfl
    have a15 : al (w 9 15) = 80 := by rw [e15]; rfl
    refine b_X4_join_189 (by omega) (by omega) (fun g => ?_) (fun g => ?_)
    · exact hQ w p hF hO (fun i z1 z2 => hA i z1 (by omega))
    · refine b_X4_join_195 h4 hp0 (by omega) (by omega) (by omega) ?_
      rw [e0, e15]
      refine ih _ _ (by omega) (by omega) (by omega) (fun r q z => ?_) (fun q z => ?_) (fun i z1 z2 => ?_)
      · rw [ws_nr z]; exact hF r q z
      · rw [ws_nk (by omega)]; exact hO q z
      · by_cases y : i = p
        · rw [y, ws_eq]; exact hF 17 p (by decide)
        · rw [ws_nk (by omega)]; exact hA i z1 (by omega)
theorem MV.j17 {w w1 : rW} {s t : Int} {RS : Int → Int → Int} {HS : Int → Int → Int → Int} {TS : Int → Int} (h : MV w RS HS s t TS) (hF : ∀ r q, r ≠ 17 → w1 r q = w r q) : MV w1 RS HS s t TS := by
  obtain ⟨⟨m1, m2, m3, m4, m5, m6, m7, m8⟩, k1, ⟨h1, h2, h3, h4⟩, k3, k4⟩ := h
  have e9 : w1 9 = w 9 := funext fun k => hF 9 k (by decide)
  have e10 : w1 10 = w 10 := funext fun k => hF 10 k (by decide)
  have e11 : w1 11 = w 11 := funext fun k => hF 11 k (by decide)
  have e13 : w1 13 = w 13 := funext fun k => hF 13 k (by decide)
  unfold MV Mr MHs
  rw [e9, e10, e11, e13]
  exact ⟨⟨m1, m2, m3, m4, m5, m6, m7, m8⟩, k1, ⟨h1, h2, h3, h4⟩, k3, k4⟩
theorem Sd.j17 {w w1 : rW} (hF : ∀ r q, r ≠ 17 → w1 r q = w r q) : Sd w w1 := ⟨fun r k _ _ _ _ _ h6 => hF r k h6, fun k _ _ _ _ _ _ => hF 9 k (by decide)⟩
/-- a joined row -/
def jnH (f : Int → Int) (k b : Int) : Int → Int := fun i => if i = 0 then k else if i = 1 then b else f (i - 2)
theorem jnH_0 {f : Int → Int} {k b : Int} : jnH f k b 0 = k := rfl
theorem jnH_1 {f : Int → Int} {k b : Int} : jnH f k b 1 = b := rfl
theorem jnH_i {f : Int → Int} {k b i : Int} (h : 0 ≤ i) : jnH f k b (2 + i) = f i := by
  unfold jnH
  rw [if_neg (by omega), if_neg (by omega), show 2 + i - 2 = i by omega]
theorem jnH_v {f : Int → Int} {k b : Int} (hk : 0 ≤ k ∧ k ≤ 40) (hb : 2 ≤ b ∧ b ≤ 4096) (hs : Srt f k) (hv : ∀ i, 0 ≤ i → i < k → 0 ≤ f i ∧ f i < b) : VK (jnH f k b) := by
  unfold VK
  rw [jnH_0, jnH_1]
  refine ⟨hk.1, hk.2, hb.1, hb.2, fun i g1 g2 => ?_, fun i j g1 g2 g3 => ?_⟩
  · dsimp only
    rw [jnH_i g1]
    exact hv i g1 g2
  · dsimp only
    rw [jnH_i g1, jnH_i (by omega)]
    exact hs i j g1 g2 g3
theorem jz_bd {o n m : Int} {f g : Int → Int} (hn : 0 ≤ n ∧ n ≤ 40) (hm : 0 ≤ m ∧ m ≤ 40) : -1000 ≤ jz o f n g m ∧ jz o f n g m ≤ 1000 := by
  have h1 := unl_bd (f := f) hn.1
  have h2 := unl_bd (f := g) hm.1
  have h3 := ct_bd (fun i => (i = 0 ∨ ¬ f i = f (i - 1)) ∧ 0 < tm g m (f i)) n.toNat
  unfold jz cu
  split <;> omega
theorem jz_congr {o n m : Int} {f g f2 g2 : Int → Int} (hm : 0 ≤ m) (h : Eqv n f f2) (h2 : Eqv m g g2) : jz o f n g m = jz o f2 n g2 m := by
  unfold jz
  rw [unl_congr h, unl_congr h2, cu_congr hm h h2]
theorem Lk.mr {w : rW} {q : Int} (hq : q = 0 ∨ q = 1) {H : Int → Int} (h9 : w 9 0 = 10) (hK : KR (fun k => w 10 (42 * q + k)) H) (hV : VK H) : MR w q (H 0) (H 1) ∧ ∀ i, 0 ≤ i → i < H 0 → mf w q i = H (2 + i) := by
  have e : ∀ i, 0 ≤ i → i < H 0 → mf w q i = H (2 + i) := fun i g1 g2 => by
    have h8 := hK.2.2 i g1 g2
    dsimp only at h8
    rw [← Int.add_assoc] at h8
    exact h8
  obtain ⟨v0, v1, v2, v3, v4⟩ := hV
  refine ⟨⟨hq, h9, hK.k0, hK.2.1, v0, v1, v2, v3, fun i g1 g2 => ?_⟩, e⟩
  have h7 := v4.1 i g1 g2
  dsimp only at h7
  rw [e i g1 g2]
  omega


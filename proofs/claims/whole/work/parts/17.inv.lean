/-! THE TWO SIDES: the class's cells and the reference's hold the same -/
def Eqv (n : Int) (f g : Int → Int) : Prop := ∀ i, 0 ≤ i → i < n → f i = g i
/-- row q: at the object a, and in the reference -/
def Lk (w : rW) (q a n b : Int) : Prop := R1 w a n b ∧ MR w q n b ∧ VR (mf w q) n b ∧ Eqv n (w (a + 1)) (mf w q)
/-- the cells that never move -/
def Rf (w : rW) : Prop := w 0 2 = 5 ∧ w 0 3 = 7 ∧ w 5 0 = 6 ∧ w 7 0 = 8 ∧ w 9 0 = 10 ∧ w 9 1 = 11 ∧ w 9 2 = 12 ∧ w 9 4 = 13 ∧ w 9 7 = 14 ∧ w 9 9 = 15 ∧ w 9 11 = 16 ∧ w 9 15 = 17
/-- a row as it is kept, on both sides -/
def SR (F G : Int → Int) : Prop := ∃ n b : Int, F 0 = n ∧ F 1 = b ∧ G 0 = n ∧ G 1 = b ∧ 0 ≤ n ∧ n ≤ 40 ∧ 2 ≤ b ∧ b ≤ 4096 ∧ VR (fun i => G (2 + i)) n b ∧ ∀ i, 0 ≤ i → i < n → F (2 + i) = G (2 + i)
/-- the history -/
def IH (w : rW) (o s : Int) : Prop := w 5 1 = o ∧ w 5 2 = s ∧ w 9 3 = s ∧ 0 ≤ o ∧ o < 4 ∧ 0 ≤ s ∧ s ≤ 4 ∧ ∀ j q, 0 ≤ j → j < s → (q = 0 ∨ q = 1) → SR (fun k => w 6 ((o + j) % 4 * 84 + 42 * q + k)) (fun k => w 11 (84 * j + 42 * q + k))
/-- the text -/
def IT (w : rW) (t : Int) : Prop := w 7 1 = t ∧ w 9 5 = t ∧ 0 ≤ t ∧ t ≤ 60 ∧ ∀ i, 0 ≤ i → i < t → w 8 i = w 13 i ∧ 32 ≤ w 13 i ∧ w 13 i ≤ 126
def Inv (w : rW) : Prop := Rf w ∧ (∃ a0 a1 n0 b0 n1 b1 : Int, w 0 0 = a0 ∧ w 0 1 = a1 ∧ (a0 = 1 ∧ a1 = 3 ∨ a0 = 3 ∧ a1 = 1) ∧ Lk w 0 a0 n0 b0 ∧ Lk w 1 a1 n1 b1) ∧ (∃ o s, IH w o s) ∧ ∃ t, IT w t
/-- only what the reference writes down for itself has changed -/
def Sd (w w1 : rW) : Prop := (∀ r k, r ≠ 9 → r ≠ 12 → r ≠ 14 → r ≠ 15 → r ≠ 16 → r ≠ 17 → w1 r k = w r k) ∧ (∀ k, k ≠ 6 → k ≠ 8 → k ≠ 10 → k ≠ 12 → k ≠ 13 → k ≠ 14 → w1 9 k = w 9 k)
theorem Sc.sd {w w1 : rW} (h : Sc w w1) : Sd w w1 := ⟨fun r k h1 h2 h3 h4 h5 h6 => h.1 r k h1 h4 h5, fun k h1 h2 h3 h4 h5 h6 => h.2 k h3 h4 h5 h6⟩
theorem Sd.tr {w w1 w2 : rW} (h : Sd w w1) (g : Sd w1 w2) : Sd w w2 :=
  ⟨fun r k h1 h2 h3 h4 h5 h6 => (g.1 r k h1 h2 h3 h4 h5 h6).trans (h.1 r k h1 h2 h3 h4 h5 h6), fun k h1 h2 h3 h4 h5 h6 => (g.2 k h1 h2 h3 h4 h5 h6).trans (h.2 k h1 h2 h3 h4 h5 h6)⟩
theorem Sd.rf {w : rW} : Sd w w := ⟨fun _ _ _ _ _ _ _ _ => rfl, fun _ _ _ _ _ _ _ => rfl⟩
theorem Sd.s9 {w w1 : rW} {i v : Int} (h : Sd w w1) (hi : i = 6 ∨ i = 8 ∨ i = 10 ∨ i = 12 ∨ i = 13 ∨ i = 14) : Sd w (wset w1 9 i v) := by
  refine ⟨fun r k h1 h2 h3 h4 h5 h6 => ?_, fun k h1 h2 h3 h4 h5 h6 => ?_⟩
  · rw [ws_nr h1]; exact h.1 r k h1 h2 h3 h4 h5 h6
  · rw [ws_nk (by omega)]; exact h.2 k h1 h2 h3 h4 h5 h6
theorem Sd.sA {w w1 : rW} {r0 i v : Int} (h : Sd w w1) (hr : r0 = 12 ∨ r0 = 14 ∨ r0 = 15 ∨ r0 = 16 ∨ r0 = 17) : Sd w (wset w1 r0 i v) := by
  refine ⟨fun r k h1 h2 h3 h4 h5 h6 => ?_, fun k h1 h2 h3 h4 h5 h6 => ?_⟩
  · rw [ws_nr (by omega)]; exact h.1 r k h1 h2 h3 h4 h5 h6
  · rw [ws_nr (by omega)]; exact h.2 k h1 h2 h3 h4 h5 h6
theorem Sd.at {w w1 : rW} (h : Sd w w1) {r : Int} (hr : r ≠ 9 ∧ r ≠ 12 ∧ r ≠ 14 ∧ r ≠ 15 ∧ r ≠ 16 ∧ r ≠ 17) : w1 r = w r := funext fun k => h.1 r k hr.1 hr.2.1 hr.2.2.1 hr.2.2.2.1 hr.2.2.2.2.1 hr.2.2.2.2.2
theorem Sd.mf {w w1 : rW} (h : Sd w w1) (q : Int) : mf w1 q = mf w q := by
  funext i
  exact congrFun (h.at (r := 10) (by decide)) _
theorem Sd.R0 {w w1 : rW} {a n : Int} (h : Sd w w1) (hR : R0 w a n) : R0 w1 a n := by
  obtain ⟨g1, g2, g3, g4, g5, g6, g7, g8⟩ := hR
  have ea : w1 a = w a := h.at (by omega)
  have eb : w1 (a + 1) = w (a + 1) := h.at (by omega)
  exact ⟨g1, g2, g3, by rw [ea]; exact g4, by rw [ea]; exact g5, g6, g7, by rw [eb]; exact g8⟩
theorem Sd.R1 {w w1 : rW} {a n b : Int} (h : Sd w w1) (hR : R1 w a n b) : R1 w1 a n b := by
  have ea : w1 a = w a := h.at (by have := hR.1.1; omega)
  exact ⟨h.R0 hR.1, by rw [ea]; exact hR.2.1, hR.2.2⟩
theorem Sd.MR {w w1 : rW} {q n b : Int} (h : Sd w w1) (hM : MR w q n b) : MR w1 q n b := by
  obtain ⟨g1, g2, g3, g4, g5, g6, g7, g8, g9⟩ := hM
  have e10 : w1 10 = w 10 := h.at (by decide)
  refine ⟨g1, (h.2 0 (by decide) (by decide) (by decide) (by decide) (by decide) (by decide)).trans g2, by rw [e10]; exact g3, by rw [e10]; exact g4, g5, g6, g7, g8, ?_⟩
  rw [h.mf q]
  exact g9
theorem Sd.Lk {w w1 : rW} {q a n b : Int} (h : Sd w w1) (hL : Lk w q a n b) : Lk w1 q a n b := by
  obtain ⟨g1, g2, g3, g4⟩ := hL
  have eb : w1 (a + 1) = w (a + 1) := h.at (by have := g1.1.1; omega)
  refine ⟨h.R1 g1, h.MR g2, ?_, ?_⟩
  · rw [h.mf q]; exact g3
  · rw [h.mf q, eb]; exact g4
theorem Sd.Inv {w w1 : rW} (h : Sd w w1) (hI : Inv w) : Inv w1 := by
  obtain ⟨⟨r1, r2, r3, r4, r5, r6, r7, r8, r9, r10, r11, r12⟩, ⟨a0, a1, n0, b0, n1, b1, g1, g2, g3, g4, g5⟩, ⟨o, s, k1, k2, k3, k4, k5, k6, k7, k8⟩, ⟨t, t1, t2, t3, t4, t5⟩⟩ := hI
  have e0 : w1 0 = w 0 := h.at (by decide)
  have e5 : w1 5 = w 5 := h.at (by decide)
  have e6 : w1 6 = w 6 := h.at (by decide)
  have e7 : w1 7 = w 7 := h.at (by decide)
  have e8 : w1 8 = w 8 := h.at (by decide)
  have e11 : w1 11 = w 11 := h.at (by decide)
  have e13 : w1 13 = w 13 := h.at (by decide)
  have e9 : ∀ k : Int, k ≠ 6 ∧ k ≠ 8 ∧ k ≠ 10 ∧ k ≠ 12 ∧ k ≠ 13 ∧ k ≠ 14 → w1 9 k = w 9 k := fun k z => h.2 k z.1 z.2.1 z.2.2.1 z.2.2.2.1 z.2.2.2.2.1 z.2.2.2.2.2
  refine ⟨⟨by rw [e0]; exact r1, by rw [e0]; exact r2, by rw [e5]; exact r3, by rw [e7]; exact r4, by rw [e9 0 (by decide)]; exact r5, by rw [e9 1 (by decide)]; exact r6, by rw [e9 2 (by decide)]; exact r7, by rw [e9 4 (by decide)]; exact r8, by rw [e9 7 (by decide)]; exact r9, by rw [e9 9 (by decide)]; exact r10, by rw [e9 11 (by decide)]; exact r11, by rw [e9 15 (by decide)]; exact r12⟩,
    ⟨a0, a1, n0, b0, n1, b1, by rw [e0]; exact g1, by rw [e0]; exact g2, g3, h.Lk g4, h.Lk g5⟩, ⟨o, s, ?_⟩, ⟨t, ?_⟩⟩
  · refine ⟨by rw [e5]; exact k1, by rw [e5]; exact k2, by rw [e9 3 (by decide)]; exact k3, k4, k5, k6, k7, ?_⟩
    rw [e6, e11]
    exact k8
  · refine ⟨by rw [e7]; exact t1, by rw [e9 5 (by decide)]; exact t2, t3, t4, ?_⟩
    rw [e8, e13]
    exact t5
/-- the row that a call names -/
theorem Inv.row {w : rW} (hI : Inv w) {q : Int} (hq : q = 0 ∨ q = 1) : ∃ a n b : Int, ((q = 0 ∧ w 0 0 = a) ∨ (q = 1 ∧ w 0 1 = a)) ∧ Lk w q a n b := by
  obtain ⟨-, ⟨a0, a1, n0, b0, n1, b1, g1, g2, g3, g4, g5⟩, -⟩ := hI
  rcases hq with rfl | rfl
  · exact ⟨a0, n0, b0, Or.inl ⟨rfl, g1⟩, g4⟩
  · exact ⟨a1, n1, b1, Or.inr ⟨rfl, g2⟩, g5⟩
theorem s_X3_rowAt {Q : List rV → rW → Prop} {w : rW} {q a : Int} (h : (q = 0 ∧ w 0 0 = a) ∨ (q = 1 ∧ w 0 1 = a)) (hQ : Q [vr a] w) : WP M_X3_rowAt 0 [vr 0, vi q] [] w Q := by
  have ho : oc 0 = 3 := rfl
  rcases h with ⟨rfl, h⟩ | ⟨rfl, h⟩
  · refine b_X3_rowAt_0 ⟨by decide, by decide⟩ (fun z => absurd rfl z) (fun _ => ?_)
    refine b_X3_rowAt_4 (by assumption) ?_
    rw [h]
    exact b_X3_rowAt_15 hQ
  · refine b_X3_rowAt_0 ⟨by decide, by decide⟩ (fun _ => ?_) (fun z => absurd z (by decide))
    refine b_X3_rowAt_11 (by assumption) ?_
    rw [h]
    exact b_X3_rowAt_15 hQ
/-- what both sides answer -/
def JQ (μ : MI) (L : List rV) : List rV → rW → Prop := fun v w1 => ∃ r : Int, v = [vi r] ∧ R32 r ∧ WP μ 0 L [] w1 (fun v2 w2 => v2 = [vi r] ∧ Inv w2)
theorem JQ.mk {μ : MI} {L : List rV} {w1 : rW} {r : Int} (h : R32 r) (k : WP μ 0 L [] w1 (fun v2 w2 => v2 = [vi r] ∧ Inv w2)) : JQ μ L [vi r] w1 := ⟨r, rfl, h, k⟩
theorem JE {r x : Int} {w2 : rW} (e : x = r) (hI : Inv w2) : [vi x] = [vi r] ∧ Inv w2 := ⟨congrArg (fun z => [vi z]) e, hI⟩
/-! the same numbers, the same answers -/
theorem sb_congr {f g : Int → Int} {n i : Int} (h : Eqv n f g) (h0 : 0 ≤ i) : sb f n i = sb g n i := by
  unfold sb
  split
  · rw [h i h0 (by omega), h (i + 1) (by omega) (by omega)]
  · rfl
theorem unl_congr {f g : Int → Int} {n : Int} (h : Eqv n f g) : unl f n = unl g n := by
  unfold unl
  refine ct_congr (fun i h0 h1 => ?_)
  have e1 := h i h0 (by omega)
  by_cases z : i = 0
  · simp [z]
  · rw [e1, h (i - 1) (by omega) (by omega)]
theorem gst_congr {f g : Int → Int} {n r : Int} (h : Eqv n f g) (hg : gst f n r) : gst g n r := by
  obtain ⟨h1, h2, h3, h4⟩ := hg
  refine ⟨h1, h2, fun i q1 q2 => by rw [← sb_congr h q1]; exact h3 i q1 q2, ?_⟩
  rcases h4 with q | ⟨i, q1, q2, q3⟩
  · exact Or.inl q
  · exact Or.inr ⟨i, q1, q2, by rw [← sb_congr h q1]; exact q3⟩
theorem pl_congr {f g : Int → Int} {n b i : Int} (h : Eqv n f g) (h0 : 0 ≤ i) (h1 : i < n) : pl f n b i = pl g n b i := by
  unfold pl; rw [h i h0 h1]
theorem pz_congr {f g : Int → Int} {n b z : Int} (hn : 0 ≤ n) (h : Eqv n f g) : pz f n b z = pz g n b z := by
  unfold pz; rw [cl_congr hn h]
theorem wtn_congr {f g : Int → Int} {n b x : Int} (hn : 0 ≤ n) (h : Eqv n f g) : wtn f n b x = wtn g n b x := by
  unfold wtn
  rw [cl_congr hn h, pz_congr hn h, pz_congr hn h]
  have hc := cl_spec (f := g) (n := n) (x := x) hn
  by_cases z : n ≤ cl g n x
  · rw [if_pos z, if_pos z]
  · rw [if_neg z, if_neg z, pl_congr h hc.1 (by omega)]
theorem unl_bd {f : Int → Int} {n : Int} (h0 : 0 ≤ n) : 0 ≤ unl f n ∧ unl f n ≤ n := by
  have := ct_bd (fun i => i = 0 ∨ ¬ f i = f (i - 1)) n.toNat
  unfold unl
  omega
theorem szf_bd {n b : Int} (hn : 0 ≤ n ∧ n ≤ 40) (hb : 1 ≤ b ∧ b ≤ 4096) : 0 ≤ szf n b ∧ szf n b ≤ 5000 := by
  have h1 := zf_bd hn.1 hb.1 hb.2
  have h2 := wd_bd hn.1 hb.2
  have h3 : 0 ≤ n * wd n b := Int.mul_nonneg hn.1 h2.1
  have h4 : n * wd n b ≤ 40 * 12 := Int.mul_le_mul hn.2 h2.2.1 h2.1 (by decide)
  unfold szf
  omega
theorem pz_bd {f : Int → Int} {n b z : Int} (hn : 0 ≤ n ∧ n ≤ 40) (hz : 0 ≤ z ∧ z < 5000) : 0 ≤ pz f n b z ∧ pz f n b z ≤ 5040 := by
  have := cl_spec (f := f) (n := n) (x := (z + 1) * 2 ^ wdn n b) hn.1
  unfold pz
  omega
theorem wtn_bd {f : Int → Int} {n b x : Int} (hn : 0 ≤ n ∧ n ≤ 40) (hb : 1 ≤ b ∧ b ≤ 4096) (hx : 0 ≤ x ∧ x ≤ 4095) (hf : ∀ i, 0 ≤ i → i < n → 0 ≤ f i ∧ f i ≤ 4095) : -100000 ≤ wtn f n b x ∧ wtn f n b x ≤ 100000 := by
  have h1 := ub_bd hn hb
  have h2 := dvp (k := wdn n b) hx.1
  have hc := cl_spec (f := f) (n := n) (x := x) hn.1
  have h5 : (if n ≤ cl f n x then ub n b else pl f n b (cl f n x) + 1) ≤ 5000 ∧ 0 ≤ (if n ≤ cl f n x then ub n b else pl f n b (cl f n x) + 1) := by
    split
    · omega
    · have h6 := hf _ hc.1 (by omega)
      have h7 := dvp (k := wdn n b) h6.1
      unfold pl
      omega
  unfold wtn
  by_cases z : x / 2 ^ wdn n b ≤ 0
  · rw [if_pos z, if_pos z]; omega
  · rw [if_neg z, if_neg z]
    have h3 := pz_bd (f := f) (b := b) hn (show 0 ≤ x / 2 ^ wdn n b - 1 ∧ x / 2 ^ wdn n b - 1 < 5000 by omega)
    have h4 := pz_bd (f := f) (b := b) hn (show 0 ≤ (x / 2 ^ wdn n b - 1) - (x / 2 ^ wdn n b - 1) % 4 ∧ (x / 2 ^ wdn n b - 1) - (x / 2 ^ wdn n b - 1) % 4 < 5000 by omega)
    omega

/-! each side's view of the state: rows RS, kept rows HS, s of them, a text TS of t characters -/
def CV (w : rW) (a0 a1 : Int) (RS : Int → Int → Int) (HS : Int → Int → Int → Int) (o s t : Int) (TS : Int → Int) : Prop := (w 0 2 = 5 ∧ w 0 3 = 7 ∧ w 7 0 = 8) ∧ w 0 0 = a0 ∧ w 0 1 = a1 ∧ (a0 = 1 ∧ a1 = 3 ∨ a0 = 3 ∧ a1 = 1) ∧ CRw w a0 (RS 0) ∧ CRw w a1 (RS 1) ∧ CHs w o s HS ∧ w 7 1 = t ∧ ∀ i, 0 ≤ i → i < t → w 8 i = TS i
def MV (w : rW) (RS : Int → Int → Int) (HS : Int → Int → Int → Int) (s t : Int) (TS : Int → Int) : Prop := Mr w ∧ (∀ q, (q = 0 ∨ q = 1) → KR (fun k => w 10 (42 * q + k)) (RS q)) ∧ MHs w s HS ∧ w 9 5 = t ∧ ∀ i, 0 ≤ i → i < t → w 13 i = TS i
def VS (RS : Int → Int → Int) (HS : Int → Int → Int → Int) (s t : Int) (TS : Int → Int) : Prop := (∀ q, (q = 0 ∨ q = 1) → VK (RS q)) ∧ (∀ j q, 0 ≤ j → j < s → (q = 0 ∨ q = 1) → VK (HS j q)) ∧ (0 ≤ t ∧ t ≤ 60) ∧ ∀ i, 0 ≤ i → i < t → 32 ≤ TS i ∧ TS i ≤ 126
def FC (w w1 : rW) : Prop := ∀ r k, 9 ≤ r → w1 r k = w r k
def FM (w w1 : rW) : Prop := ∀ r k, r ≤ 8 → w1 r k = w r k
theorem VR.to {f g : Int → Int} {n b : Int} (h : VR f n b) (e : ∀ i, 0 ≤ i → i < n → g i = f i) : VR g n b :=
  ⟨fun i h0 h1 => by rw [e i h0 h1]; exact h.1 i h0 h1, fun i j h0 h1 h2 => by rw [e i h0 (by omega), e j (by omega) h2]; exact h.2 i j h0 h1 h2⟩
theorem KR.k0 {w : rW} {r p : Int} {H : Int → Int} (h : KR (fun k => w r (p + k)) H) : w r p = H 0 := by
  have h9 := h.1
  dsimp only at h9
  rwa [Int.add_zero] at h9
theorem CRw.lk {w : rW} {q a : Int} {H : Int → Int} (hq : q = 0 ∨ q = 1) (h9 : w 9 0 = 10) (hC : CRw w a H) (hK : KR (fun k => w 10 (42 * q + k)) H) (hV : VK H) : Lk w q a (H 0) (H 1) := by
  have e : ∀ i, 0 ≤ i → i < H 0 → mf w q i = H (2 + i) := fun i g1 g2 => by
    have h8 := hK.2.2 i g1 g2
    dsimp only at h8
    rw [← Int.add_assoc] at h8
    exact h8
  obtain ⟨v0, v1, v2, v3, v4⟩ := hV
  refine ⟨hC.1, ⟨hq, h9, hK.k0, hK.2.1, v0, v1, v2, v3, fun i g1 g2 => ?_⟩, v4.to e, fun i g1 g2 => ?_⟩
  · have h7 := v4.1 i g1 g2
    dsimp only at h7
    rw [e i g1 g2]
    omega
  · rw [hC.2 i g1 g2, e i g1 g2]
theorem Inv.mk {w : rW} {a0 a1 o s t : Int} {RS : Int → Int → Int} {HS : Int → Int → Int → Int} {TS : Int → Int} (hC : CV w a0 a1 RS HS o s t TS) (hM : MV w RS HS s t TS) (hV : VS RS HS s t TS) : Inv w := by
  obtain ⟨⟨c1, c2, c3⟩, c4, c5, c6, c7, c8, ⟨d0, d1, d2, d3, d4, d5, d6, d7⟩, c10, c11⟩ := hC
  obtain ⟨⟨m1, m2, m3, m4, m5, m6, m7, m8⟩, k1, ⟨h1, h2, h3, h4⟩, k3, k4⟩ := hM
  refine ⟨⟨c1, c2, d0, c3, m1, m2, m3, m4, m5, m6, m7, m8⟩, ⟨a0, a1, _, _, _, _, c4, c5, c6, CRw.lk (Or.inl rfl) m1 c7 (k1 0 (Or.inl rfl)) (hV.1 0 (Or.inl rfl)), CRw.lk (Or.inr rfl) m1 c8 (k1 1 (Or.inr rfl)) (hV.1 1 (Or.inr rfl))⟩, ⟨o, s, d1, d2, h1, d3, d4, d5, d6, fun j q g1 g2 g3 => ?_⟩, ⟨t, c10, k3, hV.2.2.1.1, hV.2.2.1.2, fun i g1 g2 => ?_⟩⟩
  · have f1 := d7 j q g1 g2 g3
    have f2 := h4 j q g1 g2 g3
    have v := hV.2.1 j q g1 g2 g3
    refine ⟨_, _, f1.1, f1.2.1, f2.1, f2.2.1, v.1, v.2.1, v.2.2.1, v.2.2.2.1, v.2.2.2.2.to (fun i x0 x1 => f2.2.2 i x0 x1), fun i x0 x1 => (f1.2.2 i x0 x1).trans (f2.2.2 i x0 x1).symm⟩
  · have f := hV.2.2.2 i g1 g2
    rw [k4 i g1 g2]
    exact ⟨c11 i g1 g2, f⟩
theorem Inv.to {w : rW} (h : Inv w) : ∃ (a0 a1 o s t : Int) (RS : Int → Int → Int) (HS : Int → Int → Int → Int) (TS : Int → Int), CV w a0 a1 RS HS o s t TS ∧ MV w RS HS s t TS ∧ VS RS HS s t TS := by
  obtain ⟨⟨r1, r2, r3, r4, r5, r6, r7, r8, r9, r10, r11, r12⟩, ⟨a0, a1, n0, b0, n1, b1, g1, g2, g3, g4, g5⟩, ⟨o, s, k1, k2, k3, k4, k5, k6, k7, k8⟩, ⟨t, t1, t2, t3, t4, t5⟩⟩ := h
  have row : ∀ q a n b, (q = 0 ∨ q = 1) → Lk w q a n b → CRw w a (fun k => w 10 (42 * q + k)) ∧ VK (fun k => w 10 (42 * q + k)) := by
    intro q a n b hq hL
    obtain ⟨l1, l2, l3, l4⟩ := hL
    obtain ⟨-, -, p1, p2, p3, p4, p5, p6, p7⟩ := l2
    have e0 : (fun k => w 10 (42 * q + k)) 0 = n := by dsimp only; rw [Int.add_zero]; exact p1
    have e1 : (fun k => w 10 (42 * q + k)) 1 = b := p2
    refine ⟨⟨by rw [e0, e1]; exact l1, fun i x0 x1 => ?_⟩, ?_⟩
    · rw [e0] at x1
      dsimp only
      rw [l4 i x0 x1, ← Int.add_assoc]
      rfl
    · unfold VK
      rw [e0, e1]
      refine ⟨p3, p4, p5, p6, l3.to (fun i x0 x1 => ?_)⟩
      dsimp only
      rw [← Int.add_assoc]
      rfl
  refine ⟨a0, a1, o, s, t, fun q k => w 10 (42 * q + k), fun j q k => w 11 (84 * j + 42 * q + k), w 13, ⟨⟨r1, r2, r4⟩, g1, g2, g3, (row 0 a0 n0 b0 (Or.inl rfl) g4).1, (row 1 a1 n1 b1 (Or.inr rfl) g5).1, ⟨r3, k1, k2, k4, k5, k6, k7, fun j q x0 x1 x2 => ?_⟩, t1, fun i x0 x1 => (t5 i x0 x1).1⟩, ⟨⟨r5, r6, r7, r8, r9, r10, r11, r12⟩, fun q _ => KR.rf, ⟨k3, k6, k7, fun j q _ _ _ => KR.rf⟩, t2, fun _ _ _ => rfl⟩, ⟨fun q hq => ?_, fun j q x0 x1 x2 => ?_, ⟨t3, t4⟩, fun i x0 x1 => (t5 i x0 x1).2⟩⟩
  · obtain ⟨n, b, f0, f1, f2, f3, f4, f5, f6, f7, f8, f9⟩ := k8 j q x0 x1 x2
    exact ⟨f0.trans f2.symm, f1.trans f3.symm, fun i y0 y1 => f9 i y0 (by rw [← f2]; exact y1)⟩
  · rcases hq with rfl | rfl
    · exact (row 0 a0 n0 b0 (Or.inl rfl) g4).2
    · exact (row 1 a1 n1 b1 (Or.inr rfl) g5).2
  · obtain ⟨n, b, f0, f1, f2, f3, f4, f5, f6, f7, f8, f9⟩ := k8 j q x0 x1 x2
    show VK (fun k => w 11 (84 * j + 42 * q + k))
    unfold VK
    rw [f2, f3]
    exact ⟨f4, f5, f6, f7, f8⟩
theorem MV.mv {w w1 : rW} {s t : Int} {RS : Int → Int → Int} {HS : Int → Int → Int → Int} {TS : Int → Int} (h : MV w RS HS s t TS) (hF : FC w w1) : MV w1 RS HS s t TS := by
  obtain ⟨⟨m1, m2, m3, m4, m5, m6, m7, m8⟩, k1, ⟨h1, h2, h3, h4⟩, k3, k4⟩ := h
  have e9 : w1 9 = w 9 := funext fun k => hF 9 k (by decide)
  have e10 : w1 10 = w 10 := funext fun k => hF 10 k (by decide)
  have e11 : w1 11 = w 11 := funext fun k => hF 11 k (by decide)
  have e13 : w1 13 = w 13 := funext fun k => hF 13 k (by decide)
  unfold MV Mr MHs
  rw [e9, e10, e11, e13]
  exact ⟨⟨m1, m2, m3, m4, m5, m6, m7, m8⟩, k1, ⟨h1, h2, h3, h4⟩, k3, k4⟩
theorem CHs.mv {w w1 : rW} {o s : Int} {HS : Int → Int → Int → Int} (h : CHs w o s HS) (e5 : w1 5 = w 5) (e6 : w1 6 = w 6) : CHs w1 o s HS := by
  unfold CHs
  rw [e5, e6]
  exact h
theorem CV.mv {w w1 : rW} {a0 a1 o s t : Int} {RS : Int → Int → Int} {HS : Int → Int → Int → Int} {TS : Int → Int} (h : CV w a0 a1 RS HS o s t TS) (hF : FM w w1) : CV w1 a0 a1 RS HS o s t TS := by
  obtain ⟨⟨c1, c2, c3⟩, c4, c5, c6, c7, c8, c9, c10, c11⟩ := h
  have e : ∀ r, r ≤ 8 → w1 r = w r := fun r z => funext fun k => hF r k z
  have ea := c7.1.1.1
  have eb := c8.1.1.1
  refine ⟨⟨by rw [e 0 (by decide)]; exact c1, by rw [e 0 (by decide)]; exact c2, by rw [e 7 (by decide)]; exact c3⟩, by rw [e 0 (by decide)]; exact c4, by rw [e 0 (by decide)]; exact c5, c6, c7.mv (e _ (by omega)) (e _ (by omega)), c8.mv (e _ (by omega)) (e _ (by omega)), c9.mv (e _ (by decide)) (e _ (by decide)), by rw [e 7 (by decide)]; exact c10, by rw [e 8 (by decide)]; exact c11⟩
theorem FC.tr {w w1 w2 : rW} (h : FC w w1) (g : FC w1 w2) : FC w w2 := fun r k z => (g r k z).trans (h r k z)
theorem FM.tr {w w1 w2 : rW} (h : FM w w1) (g : FM w1 w2) : FM w w2 := fun r k z => (g r k z).trans (h r k z)
def upR (RS : Int → Int → Int) (q : Int) (H : Int → Int) : Int → Int → Int := fun p => if p = q then H else RS p
theorem upR_s {RS : Int → Int → Int} {q : Int} {H : Int → Int} : upR RS q H q = H := by unfold upR; rw [if_pos rfl]
theorem upR_n {RS : Int → Int → Int} {q p : Int} {H : Int → Int} (h : p ≠ q) : upR RS q H p = RS p := by unfold upR; rw [if_neg h]
theorem VS.push {RS RS1 : Int → Int → Int} {HS : Int → Int → Int → Int} {s t : Int} {TS : Int → Int} (h : VS RS HS s t TS) (h1 : ∀ q, (q = 0 ∨ q = 1) → VK (RS1 q)) (hs : 0 ≤ s ∧ s ≤ 4) : VS RS1 (pushH HS s RS) (pushN s) t TS := by
  refine ⟨h1, fun j q g1 g2 g3 => ?_, h.2.2⟩
  unfold pushH
  unfold pushN at g2
  by_cases z : s < 4
  · rw [if_pos z] at g2 ⊢
    by_cases y : j = s
    · rw [if_pos y]; exact h.1 q g3
    · rw [if_neg y]; exact h.2.1 j q g1 (by omega) g3
  · rw [if_neg z] at g2 ⊢
    by_cases y : j = 3
    · rw [if_pos y]; exact h.1 q g3
    · rw [if_neg y]; exact h.2.1 (j + 1) q (by omega) (by omega) g3
theorem VS.up {RS : Int → Int → Int} {HS : Int → Int → Int → Int} {s t q : Int} {TS : Int → Int} {H : Int → Int} (h : VS RS HS s t TS) (hH : VK H) : ∀ p, (p = 0 ∨ p = 1) → VK (upR RS q H p) := fun p hp => by
  by_cases z : p = q
  · rw [z, upR_s]; exact hH
  · rw [upR_n z]; exact h.1 p hp
/-- the class's row q, put anew -/
theorem CV.row {w w1 : rW} {a0 a1 o s t q a : Int} {RS : Int → Int → Int} {HS : Int → Int → Int → Int} {TS : Int → Int} {H : Int → Int} (h : CV w a0 a1 RS HS o s t TS) (hq : (q = 0 ∧ a = a0) ∨ (q = 1 ∧ a = a1)) (hF : ∀ r k, r ≠ a → r ≠ a + 1 → w1 r k = w r k) (hC : CRw w1 a H) : CV w1 a0 a1 (upR RS q H) HS o s t TS := by
  obtain ⟨⟨c1, c2, c3⟩, c4, c5, c6, c7, c8, c9, c10, c11⟩ := h
  have e : ∀ r, r ≠ a → r ≠ a + 1 → w1 r = w r := fun r y z => funext fun k => hF r k y z
  have ha : a = 1 ∨ a = 3 := hC.1.1.1
  have e0 := e 0 (by omega) (by omega)
  have e7 := e 7 (by omega) (by omega)
  have e8 := e 8 (by omega) (by omega)
  refine ⟨⟨by rw [e0]; exact c1, by rw [e0]; exact c2, by rw [e7]; exact c3⟩, by rw [e0]; exact c4, by rw [e0]; exact c5, c6, ?_, ?_, c9.mv (e 5 (by omega) (by omega)) (e 6 (by omega) (by omega)), by rw [e7]; exact c10, by rw [e8]; exact c11⟩
  · rcases hq with ⟨rfl, rfl⟩ | ⟨rfl, rfl⟩
    · rw [upR_s]; exact hC
    · rw [upR_n (by decide)]; exact c7.mv (e _ (by omega) (by omega)) (e _ (by omega) (by omega))
  · rcases hq with ⟨rfl, rfl⟩ | ⟨rfl, rfl⟩
    · rw [upR_n (by decide)]; exact c8.mv (e _ (by omega) (by omega)) (e _ (by omega) (by omega))
    · rw [upR_s]; exact hC
theorem s_X3_remember {Q : List rV → rW → Prop} {w : rW} {a0 a1 o s t : Int} {RS : Int → Int → Int} {HS : Int → Int → Int → Int} {TS : Int → Int} (hC : CV w a0 a1 RS HS o s t TS) (hV : VS RS HS s t TS) (hQ : ∀ w1 o1, FC w w1 → CV w1 a0 a1 RS (pushH HS s RS) o1 (pushN s) t TS → Q [] w1) : WP M_X3_remember 0 [vr 0] [] w Q := by
  obtain ⟨⟨c1, c2, c3⟩, c4, c5, c6, c7, c8, c9, c10, c11⟩ := id hC
  have ho : oc 0 = 3 := rfl
  refine b_X3_remember_0 ho (by rw [c1]; rfl) ?_
  rw [c1, c4, c5]
  refine s_X0_keep c9 c7 c8 (fun j q g1 g2 g3 => (hV.2.1 j q g1 g2 g3).2.1) (fun w1 o1 hF hH => ?_)
  have e : ∀ r, r ≠ 5 → r ≠ 6 → w1 r = w r := fun r y z => funext fun k => hF r k y z
  have ea := c7.1.1.1
  have eb := c8.1.1.1
  refine b_X3_remember_15 (hQ w1 o1 (fun r k z => hF r k (by omega) (by omega)) ⟨⟨by rw [e 0 (by decide) (by decide)]; exact c1, by rw [e 0 (by decide) (by decide)]; exact c2, by rw [e 7 (by decide) (by decide)]; exact c3⟩, by rw [e 0 (by decide) (by decide)]; exact c4, by rw [e 0 (by decide) (by decide)]; exact c5, c6, c7.mv (e _ (by omega) (by omega)) (e _ (by omega) (by omega)), c8.mv (e _ (by omega) (by omega)) (e _ (by omega) (by omega)), hH, by rw [e 7 (by decide) (by decide)]; exact c10, by rw [e 8 (by decide) (by decide)]; exact c11⟩)
/-- the reference's change: what was begun with is kept, behind the change -/
theorem s_X4_act {Q : List rV → rW → Prop} {w0 wk wb : rW} {x s t : Int} {RS RS1 : Int → Int → Int} {HS : Int → Int → Int → Int} {TS : Int → Int} (hM : MV w0 RS HS s t TS) (hV : VS RS HS s t TS) (hx : R32 x) (hx1 : -1000001 < x) (hk1 : ∀ r k, r ≠ 12 → wk r k = w0 r k) (hk2 : ∀ k, 0 ≤ k → k < 84 → wk 12 k = w0 10 k) (hb : ∀ r k, r ≠ 10 → r ≠ 14 → r ≠ 17 → wb r k = wk r k) (hrow : ∀ q, (q = 0 ∨ q = 1) → KR (fun k => wb 10 (42 * q + k)) (RS1 q))
    (hQ : ∀ w1, FM w0 w1 → MV w1 RS1 (pushH HS s RS) (pushN s) t TS → Q [vi x] w1) : WP M_X4_acted 0 [vr 9, vi x, vu] [] wb Q := by
  obtain ⟨hr, k1, ⟨h1, h2, h3, h4⟩, k3, k4⟩ := hM
  have e : ∀ r k, r ≠ 10 → r ≠ 12 → r ≠ 14 → r ≠ 17 → wb r k = w0 r k := fun r k z y x1 x2 => (hb r k z x1 x2).trans (hk1 r k y)
  have hr2 : Mr wb := by
    obtain ⟨r1, r2, r3, r4, r5, r6, r7, r8⟩ := hr
    refine ⟨?_, ?_, ?_, ?_, ?_, ?_, ?_, ?_⟩ <;> rw [e 9 _ (by decide) (by decide) (by decide) (by decide)] <;> assumption
  have e11 : wb 11 = w0 11 := funext fun k => e 11 k (by decide) (by decide) (by decide) (by decide)
  refine s_X4_acted (s := s) (RS := RS) (HS := HS) hr2 hx hx1 ⟨by rw [e 9 3 (by decide) (by decide) (by decide) (by decide)]; exact h1, h2, h3, by rw [e11]; exact h4⟩ (fun q hq => (k1 q hq).mv (hV.1 q hq).2.1 (fun k g1 g2 => ?_)) (fun q hq => (hV.1 q hq).2.1) (fun j q g1 g2 g3 => (hV.2.1 j q g1 g2 g3).2.1) (fun w1 hF hH => ?_)
  · rw [hb 12 _ (by decide) (by decide) (by decide)]
    exact hk2 _ (by omega) (by omega)
  · have f9 : ∀ k, k ≠ 3 → w1 9 k = w0 9 k := fun k z => (hF 9 k (by decide) (fun y => z y.2)).trans (e 9 k (by decide) (by decide) (by decide) (by decide))
    have f10 : w1 10 = wb 10 := funext fun k => hF 10 k (by decide) (fun y => absurd y.1 (by decide))
    have f13 : w1 13 = w0 13 := funext fun k => (hF 13 k (by decide) (fun y => absurd y.1 (by decide))).trans (e 13 k (by decide) (by decide) (by decide) (by decide))
    refine hQ w1 (fun r k z => (hF r k (by omega) (fun y => by omega)).trans (e r k (by omega) (by omega) (by omega) (by omega))) ⟨?_, by rw [f10]; exact hrow, hH, by rw [f9 5 (by decide)]; exact k3, by rw [f13]; exact k4⟩
    obtain ⟨r1, r2, r3, r4, r5, r6, r7, r8⟩ := hr
    refine ⟨?_, ?_, ?_, ?_, ?_, ?_, ?_, ?_⟩ <;> rw [f9 _ (by decide)] <;> assumption

/-- only what is laid down anew at each question has changed -/
def Sc (w w1 : rW) : Prop := (∀ r k, r ≠ 9 → r ≠ 15 → r ≠ 16 → w1 r k = w r k) ∧ (∀ k, k ≠ 10 → k ≠ 12 → k ≠ 13 → k ≠ 14 → w1 9 k = w 9 k)
theorem Sc.rf {w : rW} : Sc w w := ⟨fun _ _ _ _ _ => rfl, fun _ _ _ _ _ => rfl⟩
theorem Sc.s9 {w w1 : rW} {i v : Int} (h : Sc w w1) (hi : i = 10 ∨ i = 12 ∨ i = 13 ∨ i = 14) : Sc w (wset w1 9 i v) := by
  refine ⟨fun r k h1 h2 h3 => ?_, fun k h1 h2 h3 h4 => ?_⟩
  · rw [ws_nr h1]; exact h.1 r k h1 h2 h3
  · rw [ws_nk (by omega)]; exact h.2 k h1 h2 h3 h4
theorem Sc.sA {w w1 : rW} {r0 i v : Int} (h : Sc w w1) (hr : r0 = 15 ∨ r0 = 16) : Sc w (wset w1 r0 i v) := by
  refine ⟨fun r k h1 h2 h3 => ?_, fun k h1 h2 h3 h4 => ?_⟩
  · rw [ws_nr (by omega)]; exact h.1 r k h1 h2 h3
  · rw [ws_nr (by omega)]; exact h.2 k h1 h2 h3 h4
theorem Sc.mf {w w1 : rW} (h : Sc w w1) (q : Int) : mf w1 q = mf w q := by
  funext i
  exact h.1 10 _ (by decide) (by decide) (by decide)
theorem Sc.MR {w w1 : rW} {q n b : Int} (h : Sc w w1) (hM : MR w q n b) : MR w1 q n b := by
  obtain ⟨g1, g2, g3, g4, g5, g6, g7, g8, g9⟩ := hM
  refine ⟨g1, (h.2 0 (by decide) (by decide) (by decide) (by decide)).trans g2, (h.1 10 _ (by decide) (by decide) (by decide)).trans g3, (h.1 10 _ (by decide) (by decide) (by decide)).trans g4, g5, g6, g7, g8, ?_⟩
  rw [h.mf q]
  exact g9
theorem Sc.tr {w w1 w2 : rW} (h : Sc w w1) (g : Sc w1 w2) : Sc w w2 :=
  ⟨fun r k h1 h2 h3 => (g.1 r k h1 h2 h3).trans (h.1 r k h1 h2 h3), fun k h1 h2 h3 h4 => (g.2 k h1 h2 h3 h4).trans (h.2 k h1 h2 h3 h4)⟩
/-- the row's numbers, as the upper row needs them -/
def VR (f : Int → Int) (n b : Int) : Prop := (∀ i, 0 ≤ i → i < n → 0 ≤ f i ∧ f i < b) ∧ Srt f n
/-- zeros ahead of a place -/
def zc (u : Int → Int) (p : Int) : Int := ct (fun i => u i = 0) p.toNat
/-- the upper row -/
def UP (u f : Int → Int) (n b : Int) : Prop := ∀ p, 0 ≤ p → p < ub n b → (u p = 1 ∧ ∃ i, 0 ≤ i ∧ i < n ∧ pl f n b i = p) ∨ (u p = 0 ∧ ∀ i, 0 ≤ i → i < n → ¬ pl f n b i = p)
theorem pl_up {f : Int → Int} {n b i j : Int} (h : VR f n b) (h0 : 0 ≤ i) (h1 : i < j) (h2 : j < n) : pl f n b i < pl f n b j := by
  have := Int.ediv_le_ediv (p2_pos (wdn n b)) (h.2 i j h0 (by omega) h2)
  unfold pl
  omega
theorem pl_ub {f : Int → Int} {n b i : Int} (h : VR f n b) (h0 : 0 ≤ i) (h1 : i < n) : 0 ≤ pl f n b i ∧ pl f n b i < ub n b := by
  have g := h.1 i h0 h1
  have e1 := (dvp (k := wdn n b) g.1).1
  have e2 : f i / 2 ^ wdn n b ≤ (b - 1) / 2 ^ wdn n b := Int.ediv_le_ediv (p2_pos _) (by omega)
  unfold pl ub zf
  rw [if_neg (by omega)]
  omega
theorem ub_bd {n b : Int} (hn : 0 ≤ n ∧ n ≤ 40) (hb : 1 ≤ b ∧ b ≤ 4096) : 0 ≤ ub n b ∧ ub n b ≤ 4136 := by
  have := zf_bd hn.1 hb.1 hb.2
  unfold ub
  omega
/-- the ones ahead of a place and the zeros are all the bits -/
theorem zc_cl {u f : Int → Int} {n b : Int} (hn : 0 ≤ n) (h : VR f n b) (hU : UP u f n b) : ∀ (k : Nat), (k : Int) ≤ ub n b → zc u k + cl (pl f n b) n k = k
  | 0, _ => by
    have e : cl (pl f n b) n ((0 : Nat) : Int) = 0 := cl_is (Int.le_refl _) hn (fun j g1 g2 => by omega) (fun g => (pl_ub h (Int.le_refl _) g).1)
    rw [e]; rfl
  | k + 1, hk => by
    have ih := zc_cl hn h hU k (by omega)
    obtain ⟨c1, c2, c3, c4⟩ := cl_spec (f := pl f n b) (n := n) (x := (k : Int)) hn
    have hz : zc u ((k + 1 : Nat) : Int) = zc u k + if u k = 0 then 1 else 0 := by
      unfold zc
      have := ct_s (p := fun i => u i = 0) (i := (k : Int)) (by omega)
      push_cast
      rw [this]
    rcases hU k (by omega) (by omega) with ⟨e1, i, g1, g2, g3⟩ | ⟨e1, g⟩
    · have hi : cl (pl f n b) n k = i := cl_is g1 (by omega) (fun j q1 q2 => by have := pl_up h q1 q2 g2; omega) (fun _ => by omega)
      have hi2 : cl (pl f n b) n ((k + 1 : Nat) : Int) = i + 1 := cl_is (by omega) (by omega) (fun j q1 q2 => by
        by_cases e : j = i
        · rw [e, g3]; omega
        · have := pl_up h q1 (show j < i by omega) g2; omega) (fun q => by have := pl_up h g1 (show i < i + 1 by omega) q; omega)
      rw [hz, if_neg (by omega), hi2]
      omega
    · have hi2 : cl (pl f n b) n ((k + 1 : Nat) : Int) = cl (pl f n b) n k := cl_is c1 c2 (fun j q1 q2 => by have := c3 j q1 q2; omega) (fun q => by
        have q3 := c4 q
        have q4 := g _ c1 q
        omega)
      rw [hz, if_pos e1, hi2]
      omega
theorem cl_pl_all {f : Int → Int} {n b : Int} (hn : 0 ≤ n) (h : VR f n b) : cl (pl f n b) n (ub n b) = n :=
  cl_is hn (Int.le_refl _) (fun j g1 g2 => (pl_ub h g1 g2).2) (fun g => by omega)
theorem zc_all {u f : Int → Int} {n b : Int} (hn : 0 ≤ n) (h0 : 0 ≤ ub n b) (h : VR f n b) (hU : UP u f n b) : zc u (ub n b) = zf n b := by
  have := zc_cl hn h hU (ub n b).toNat (by omega)
  rw [Int.toNat_of_nonneg h0, cl_pl_all hn h] at this
  unfold ub at this ⊢
  omega
/-- a zero's place -/
theorem pz_at {u f : Int → Int} {n b z : Int} (hn : 0 ≤ n ∧ n ≤ 40) (hb : 1 ≤ b ∧ b ≤ 4096) (h : VR f n b) (hU : UP u f n b) (hz0 : 0 ≤ z) (hz : z < zf n b) : 0 ≤ pz f n b z ∧ pz f n b z < ub n b ∧ u (pz f n b z) = 0 ∧ zc u (pz f n b z) = z ∧ cl (pl f n b) n (pz f n b z) = cl f n ((z + 1) * 2 ^ wdn n b) := by
  obtain ⟨c1, c2, c3, c4⟩ := cl_spec (f := f) (n := n) (x := (z + 1) * 2 ^ wdn n b) hn.1
  have hp := p2_pos (wdn n b)
  have lo : ∀ i, 0 ≤ i → i < cl f n ((z + 1) * 2 ^ wdn n b) → pl f n b i < pz f n b z := fun i q1 q2 => by
    have q3 := c3 i q1 q2
    have q4 : f i / 2 ^ wdn n b < z + 1 := Int.ediv_lt_of_lt_mul hp q3
    unfold pl pz
    omega
  have hi : ∀ i, cl f n ((z + 1) * 2 ^ wdn n b) ≤ i → i < n → pz f n b z < pl f n b i := fun i q1 q2 => by
    have q3 := c4 (by omega)
    have q4 := h.2 _ i c1 q1 q2
    have q5 : z + 1 ≤ f i / 2 ^ wdn n b := Int.le_ediv_of_mul_le hp (by omega)
    unfold pl pz
    omega
  have p0 : 0 ≤ pz f n b z := by unfold pz; omega
  have p1 : pz f n b z < ub n b := by unfold pz ub; omega
  have hc : cl (pl f n b) n (pz f n b z) = cl f n ((z + 1) * 2 ^ wdn n b) := cl_is c1 c2 lo (fun q => Int.le_of_lt (hi _ (Int.le_refl _) q))
  refine ⟨p0, p1, ?_, ?_, hc⟩
  · rcases hU _ p0 p1 with ⟨-, i, g1, g2, g3⟩ | ⟨e, -⟩
    · by_cases q : i < cl f n ((z + 1) * 2 ^ wdn n b)
      · have := lo i g1 q; omega
      · have := hi i (by omega) g2; omega
    · exact e
  · have := zc_cl hn.1 h hU (pz f n b z).toNat (by omega)
    rw [Int.toNat_of_nonneg p0, hc] at this
    unfold pz at this ⊢
    omega

theorem zc_lt {u : Int → Int} {i p : Int} (h0 : 0 ≤ i) (h1 : i < p) (h2 : u i = 0) : zc u i < zc u p := by
  have key : ∀ (k : Nat) (m : Int), (m - (i + 1)).toNat = k → i + 1 ≤ m → zc u i < zc u m := by
    intro k
    induction k with
    | zero =>
      intro m hm hm2
      have e : m = i + 1 := by omega
      subst e
      have := ct_s (p := fun j => u j = 0) h0
      unfold zc
      rw [this, if_pos h2]
      omega
    | succ k ih =>
      intro m hm hm2
      have h3 := ih (m - 1) (by omega) (by omega)
      have := ct_s (p := fun j => u j = 0) (i := m - 1) (by omega)
      have e : m - 1 + 1 = m := by omega
      rw [e] at this
      unfold zc at h3 ⊢
      rw [this]
      split <;> omega
  exact key _ p rfl (by omega)

/-- the last of the three loops -/

theorem l3_X4_lays {Q : List rV → rW → Prop} {w0 : rW} {q n b : Int} (hM0 : MR w0 q n b) (hV : VR (mf w0 q) n b) (hu9 : w0 9 9 = 15) (hu11 : w0 9 11 = 16) (hQ : ∀ w1, Sc w0 w1 → w1 9 10 = ub n b → w1 9 12 = zf n b → UP (w1 15) (mf w0 q) n b → (∀ z, 0 ≤ z → z < zf n b → w1 16 z = pz (mf w0 q) n b z) → Q [] w1) : ∀ (k : Nat) (w : rW) (p : Int), Sc w0 w → (ub n b - p).toNat < k → 0 ≤ p → p ≤ ub n b → w 9 10 = ub n b → UP (w 15) (mf w0 q) n b → w 9 12 = zc (w 15) p → (∀ i, 0 ≤ i → i < p → w 15 i = 0 → w 16 (zc (w 15) i) = i) → WP M_X4_lays 82 [vr 9, vi q, vi p] [] w Q := by
  intro k
  induction k with
  | zero => intro w p hS hk; omega
  | succ k ih =>
    intro w p hS hk hp0 hp1 hbits hUP hzn hzs
    have hM := hS.MR hM0
    have hmf := hS.mf q
    obtain ⟨hq01, hm0, hmn, hmb, hn0, hn4, hb1, hb2, hv⟩ := id hM
    have ho : oc 9 = 4 := rfl
    have ha : al (w 9 0) = 84 := by rw [hm0]; rfl
    have hn : 0 ≤ n ∧ n ≤ 40 := ⟨hn0, hn4⟩
    have hb : 1 ≤ b ∧ b ≤ 4096 := ⟨by omega, hb2⟩
    have hub := ub_bd hn hb
    have h99 : w 9 9 = 15 := (hS.2 9 (by decide) (by decide) (by decide) (by decide)).trans hu9
    have h911 : w 9 11 = 16 := (hS.2 11 (by decide) (by decide) (by decide) (by decide)).trans hu11
    have ha9 : al (w 9 9) = 4200 := by rw [h99]; rfl
    have ha11 : al (w 9 11) = 4200 := by rw [h911]; rfl
    have hzb := ct_bd (fun i => w 15 i = 0) p.toNat
    have hzz : zc (w 15) p = ct (fun i => w 15 i = 0) p.toNat := rfl
    have hzs1 : zc (w 15) (p + 1) = zc (w 15) p + if w 15 p = 0 then 1 else 0 := ct_s hp0
    refine b_X4_lays_82 (by first | omega | (rw [h99]; omega) | assumption) (by first | omega | (rw [h99]; omega) | assumption) (by first | omega | (rw [h99]; omega) | assumption) (fun c_82 => ?_) (fun c_82 => ?_)
    · refine b_X4_lays_125  ?_
      have hpe : p = ub n b := by omega
      rw [hpe] at hzn
      refine hQ w hS hbits (hzn.trans (zc_all hn0 hub.1 hV hUP)) hUP (fun z g1 g2 => ?_)
      obtain ⟨e1, e2, e3, e4, -⟩ := pz_at hn hb hV hUP g1 g2
      have e5 := hzs _ e1 (by omega) e3
      rw [e4] at e5
      exact e5
    · have hup := hUP p hp0 (by omega)
      have hup2 : w 15 p = 0 ∨ w 15 p = 1 := by
        rcases hup with ⟨g, -⟩ | ⟨g, -⟩
        · exact Or.inr g
        · exact Or.inl g
      clear hup
      refine b_X4_lays_90 (by first | omega | (rw [h99]; omega) | assumption) (by first | omega | (rw [h99]; omega) | assumption) (by first | omega | (rw [h99]; omega) | assumption) (by first | omega | (rw [h99]; omega) | assumption) (fun c_90 => ?_) (fun c_90 => ?_)
      · refine b_X4_lays_119  ?_
        first
        | (have h15 : w (w 9 9) p = 0 := (by assumption)
           rw [h99] at h15
           rw [if_pos h15] at hzs1
           rw [ws_nr (by rw [h911]; decide : (9 : Int) ≠ w 9 11), h911]
           have e15 : ∀ i, wset (wset w 16 (w 9 12) p) 9 12 (w 9 12 + 1) 15 i = w 15 i := fun i => by rw [ws_nr (by decide), ws_nr (by decide)]
           have f15 : wset (wset w 16 (w 9 12) p) 9 12 (w 9 12 + 1) 15 = w 15 := funext e15
           refine ih _ _ ((hS.sA (Or.inr rfl)).s9 (Or.inr (Or.inl rfl))) (by omega) (by omega) (by omega) ?_ ?_ ?_ ?_
           · rw [ws_nk (by decide), ws_nr (by decide)]; exact hbits
           · rw [f15]; exact hUP
           · rw [f15, ws_eq, hzs1, hzn]
           · rw [f15]
             intro i g1 g2 g3
             rw [ws_nr (by decide)]
             by_cases e : i = p
             · rw [e, ← hzn, ws_eq]
             · have hlt : zc (w 15) i ≠ w 9 12 := by
                 intro hc
                 have h5 := zc_lt (u := w 15) g1 (show i < p by omega) g3
                 omega
               rw [ws_nk hlt]
               exact hzs i g1 (by omega) g3)
        | (have h15 : ¬ w (w 9 9) p = 0 := (by assumption)
           rw [h99] at h15
           rw [if_neg h15] at hzs1
           refine ih _ _ hS (by omega) (by omega) (by omega) hbits hUP (by omega) (fun i g1 g2 g3 => ?_)
           by_cases e : i = p
           · rw [e] at g3; exact absurd g3 h15
           · exact hzs i g1 (by omega) g3)
      · refine b_X4_lays_99 (by first | omega | (rw [h99]; omega) | assumption) (by first | omega | (rw [h99]; omega) | assumption) (by first | omega | (rw [h99]; omega) | assumption) ?_
        refine b_X4_lays_119  ?_
        first
        | (have h15 : w (w 9 9) p = 0 := (by assumption)
           rw [h99] at h15
           rw [if_pos h15] at hzs1
           rw [ws_nr (by rw [h911]; decide : (9 : Int) ≠ w 9 11), h911]
           have e15 : ∀ i, wset (wset w 16 (w 9 12) p) 9 12 (w 9 12 + 1) 15 i = w 15 i := fun i => by rw [ws_nr (by decide), ws_nr (by decide)]
           have f15 : wset (wset w 16 (w 9 12) p) 9 12 (w 9 12 + 1) 15 = w 15 := funext e15
           refine ih _ _ ((hS.sA (Or.inr rfl)).s9 (Or.inr (Or.inl rfl))) (by omega) (by omega) (by omega) ?_ ?_ ?_ ?_
           · rw [ws_nk (by decide), ws_nr (by decide)]; exact hbits
           · rw [f15]; exact hUP
           · rw [f15, ws_eq, hzs1, hzn]
           · rw [f15]
             intro i g1 g2 g3
             rw [ws_nr (by decide)]
             by_cases e : i = p
             · rw [e, ← hzn, ws_eq]
             · have hlt : zc (w 15) i ≠ w 9 12 := by
                 intro hc
                 have h5 := zc_lt (u := w 15) g1 (show i < p by omega) g3
                 omega
               rw [ws_nk hlt]
               exact hzs i g1 (by omega) g3)
        | (have h15 : ¬ w (w 9 9) p = 0 := (by assumption)
           rw [h99] at h15
           rw [if_neg h15] at hzs1
           refine ih _ _ hS (by omega) (by omega) (by omega) hbits hUP (by omega) (fun i g1 g2 g3 => ?_)
           by_cases e : i = p
           · rw [e] at g3; exact absurd g3 h15
           · exact hzs i g1 (by omega) g3)

theorem l2_X4_lays {Q : List rV → rW → Prop} {w0 : rW} {q n b : Int} (hM0 : MR w0 q n b) (hV : VR (mf w0 q) n b) (hu9 : w0 9 9 = 15) (hu11 : w0 9 11 = 16) (hQ : ∀ w1, Sc w0 w1 → w1 9 10 = ub n b → w1 9 12 = zf n b → UP (w1 15) (mf w0 q) n b → (∀ z, 0 ≤ z → z < zf n b → w1 16 z = pz (mf w0 q) n b z) → Q [] w1) : ∀ (k : Nat) (w : rW) (j : Int), Sc w0 w → (n - j).toNat < k → 0 ≤ j → j ≤ n → w 9 10 = ub n b → (∀ p, 0 ≤ p → p < ub n b → (w 15 p = 1 ∧ ∃ i, 0 ≤ i ∧ i < j ∧ pl (mf w0 q) n b i = p) ∨ (w 15 p = 0 ∧ ∀ i, 0 ≤ i → i < j → ¬ pl (mf w0 q) n b i = p)) → WP M_X4_lays 48 [vr 9, vi q, vi j] [] w Q := by
  intro k
  induction k with
  | zero => intro w j hS hk; omega
  | succ k ih =>
    intro w j hS hk hj0 hj1 hbits hU
    have hM := hS.MR hM0
    have hmf := hS.mf q
    obtain ⟨hq01, hm0, hmn, hmb, hn0, hn4, hb1, hb2, hv⟩ := id hM
    have ho : oc 9 = 4 := rfl
    have ha : al (w 9 0) = 84 := by rw [hm0]; rfl
    have hn : 0 ≤ n ∧ n ≤ 40 := ⟨hn0, hn4⟩
    have hb : 1 ≤ b ∧ b ≤ 4096 := ⟨by omega, hb2⟩
    have hub := ub_bd hn hb
    have h99 : w 9 9 = 15 := (hS.2 9 (by decide) (by decide) (by decide) (by decide)).trans hu9
    have h911 : w 9 11 = 16 := (hS.2 11 (by decide) (by decide) (by decide) (by decide)).trans hu11
    have ha9 : al (w 9 9) = 4200 := by rw [h99]; rfl
    have ha11 : al (w 9 11) = 4200 := by rw [h911]; rfl
    have hpb := fun g => pl_ub hV hj0 g
    refine b_X4_lays_48 (by first | omega | assumption) ?_
    refine s_X4_many hM ?_
    refine b_X4_lays_54 (by first | omega | assumption) (by first | omega | assumption) (fun c_54 => ?_) (fun c_54 => ?_)
    · refine b_X4_lays_75 (by first | omega | assumption) ?_
      have hje : j = n := by omega
      subst hje
      have e15 : wset w 9 12 0 15 = w 15 := funext fun i => ws_nr (by decide)
      refine l3_X4_lays hM0 hV hu9 hu11 hQ _ _ 0 (hS.s9 (Or.inr (Or.inl rfl))) (Nat.lt_succ_self _) (Int.le_refl _) hub.1 ?_ ?_ ?_ (fun i g1 g2 => by omega)
      · rw [ws_nk (by decide)]; exact hbits
      · rw [e15]; exact hU
      · rw [ws_eq]; rfl
    · refine b_X4_lays_57 (by first | omega | assumption) ?_
      refine s_X4_placeOf hM (by omega) (by omega) ?_
      have hpb := hpb (by omega)
      rw [hmf]
      refine b_X4_lays_67 (by first | omega | assumption) (by first | omega | assumption) ?_
      rw [h99]
      have e15 : ∀ i, i ≠ pl (mf w0 q) n b j → wset w 15 (pl (mf w0 q) n b j) 1 15 i = w 15 i := fun i g => ws_nk g
      refine ih _ _ (hS.sA (Or.inl rfl)) (by omega) (by omega) (by omega) ?_ (fun p g1 g2 => ?_)
      · rw [ws_nr (by decide)]; exact hbits
      · by_cases e : p = pl (mf w0 q) n b j
        · rw [e, ws_eq]
          exact Or.inl ⟨rfl, j, hj0, by omega, rfl⟩
        · rw [e15 p e]
          rcases hU p g1 g2 with ⟨e1, i, g3, g4, g5⟩ | ⟨e1, g3⟩
          · exact Or.inl ⟨e1, i, g3, by omega, g5⟩
          · refine Or.inr ⟨e1, fun i g4 g5 g6 => ?_⟩
            by_cases e2 : i = j
            · rw [e2] at g6; exact e g6.symm
            · exact g3 i g4 (by omega) g6

theorem l1_X4_lays {Q : List rV → rW → Prop} {w0 : rW} {q n b : Int} (hM0 : MR w0 q n b) (hV : VR (mf w0 q) n b) (hu9 : w0 9 9 = 15) (hu11 : w0 9 11 = 16) (hQ : ∀ w1, Sc w0 w1 → w1 9 10 = ub n b → w1 9 12 = zf n b → UP (w1 15) (mf w0 q) n b → (∀ z, 0 ≤ z → z < zf n b → w1 16 z = pz (mf w0 q) n b z) → Q [] w1) : ∀ (k : Nat) (w : rW) (p : Int), Sc w0 w → (ub n b - p).toNat < k → 0 ≤ p → p ≤ ub n b → w 9 10 = ub n b → (∀ i, 0 ≤ i → i < p → w 15 i = 0) → WP M_X4_lays 25 [vr 9, vi q, vi p] [] w Q := by
  intro k
  induction k with
  | zero => intro w p hS hk; omega
  | succ k ih =>
    intro w p hS hk hp0 hp1 hbits hU
    have hM := hS.MR hM0
    have hmf := hS.mf q
    obtain ⟨hq01, hm0, hmn, hmb, hn0, hn4, hb1, hb2, hv⟩ := id hM
    have ho : oc 9 = 4 := rfl
    have ha : al (w 9 0) = 84 := by rw [hm0]; rfl
    have hn : 0 ≤ n ∧ n ≤ 40 := ⟨hn0, hn4⟩
    have hb : 1 ≤ b ∧ b ≤ 4096 := ⟨by omega, hb2⟩
    have hub := ub_bd hn hb
    have h99 : w 9 9 = 15 := (hS.2 9 (by decide) (by decide) (by decide) (by decide)).trans hu9
    have h911 : w 9 11 = 16 := (hS.2 11 (by decide) (by decide) (by decide) (by decide)).trans hu11
    have ha9 : al (w 9 9) = 4200 := by rw [h99]; rfl
    have ha11 : al (w 9 11) = 4200 := by rw [h911]; rfl
    refine b_X4_lays_25 (by first | omega | assumption) (by first | omega | assumption) (by first | omega | assumption) (fun c_25 => ?_) (fun c_25 => ?_)
    · refine b_X4_lays_46  ?_
      exact l2_X4_lays hM0 hV hu9 hu11 hQ _ w 0 hS (Nat.lt_succ_self _) (Int.le_refl _) hn0 hbits (fun i g1 g2 => Or.inr ⟨hU i g1 (by omega), fun i g3 g4 => by omega⟩)
    · refine b_X4_lays_33 (by first | omega | assumption) (by first | omega | assumption) (by first | omega | assumption) ?_
      rw [h99]
      refine ih _ _ (hS.sA (Or.inl rfl)) (by omega) (by omega) (by omega) ?_ (fun i g1 g2 => ?_)
      · rw [ws_nr (by decide)]; exact hbits
      · by_cases e : i = p
        · rw [e, ws_eq]
        · rw [ws_nk e]; exact hU i g1 (by omega)

theorem s_X4_lays {Q : List rV → rW → Prop} {w0 : rW} {q n b : Int} (hM0 : MR w0 q n b) (hV : VR (mf w0 q) n b) (hu9 : w0 9 9 = 15) (hu11 : w0 9 11 = 16) (hQ : ∀ w1, Sc w0 w1 → w1 9 10 = ub n b → w1 9 12 = zf n b → UP (w1 15) (mf w0 q) n b → (∀ z, 0 ≤ z → z < zf n b → w1 16 z = pz (mf w0 q) n b z) → Q [] w1) : WP M_X4_lays 0 [vr 9, vi q, vu] [] w0 Q := by
  have hS : Sc w0 w0 := Sc.rf
  have hM := hS.MR hM0
  have hmf := hS.mf q
  obtain ⟨hq01, hm0, hmn, hmb, hn0, hn4, hb1, hb2, hv⟩ := id hM
  have ho : oc 9 = 4 := rfl
  have ha : al (w0 9 0) = 84 := by rw [hm0]; rfl
  have hn : 0 ≤ n ∧ n ≤ 40 := ⟨hn0, hn4⟩
  have hb : 1 ≤ b ∧ b ≤ 4096 := ⟨by omega, hb2⟩
  have hub := ub_bd hn hb
  have h99 : w0 9 9 = 15 := (hS.2 9 (by decide) (by decide) (by decide) (by decide)).trans hu9
  have h911 : w0 9 11 = 16 := (hS.2 11 (by decide) (by decide) (by decide) (by decide)).trans hu11
  have ha9 : al (w0 9 9) = 4200 := by rw [h99]; rfl
  have ha11 : al (w0 9 11) = 4200 := by rw [h911]; rfl
  refine b_X4_lays_0 (by first | omega | assumption) ?_
  refine s_X4_many hM ?_
  refine b_X4_lays_6 (by first | omega | assumption) (by first | omega | assumption) (by first | omega | assumption) ?_
  rw [hm0, hmb]
  refine s_X4_upperBits hn hb ?_
  refine b_X4_lays_20 (by first | omega | assumption) ?_
  exact l1_X4_lays hM0 hV hu9 hu11 hQ _ _ 0 (hS.s9 (Or.inl rfl)) (Nat.lt_succ_self _) (Int.le_refl _) hub.1 (ws_eq _ _ _ _) (fun i g1 g2 => by omega)

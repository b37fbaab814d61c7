theorem pF_bad {g : Int → Int} {t lim be st v p : Int} {f : Nat} (h : ((48 ≤ chr0 g t p ∧ chr0 g t p ≤ 57) ∧ (p - st = 4 ∨ (p - st = 1 ∧ v = 0))) ∨ (¬ (48 ≤ chr0 g t p ∧ chr0 g t p ≤ 57) ∧ (p = st ∨ ¬ (t ≤ p ∨ chr0 g t p = 44)))) : pF g t lim (f + 1) be st v p = 4 * p + 1 := by
  unfold pF
  rcases h with ⟨h1, h2⟩ | ⟨h1, h2⟩
  · rw [if_pos h1, if_pos h2]
  · rw [if_neg h1, if_pos h2]
theorem pF_dig {g : Int → Int} {t lim be st v p : Int} {f : Nat} (h1 : 48 ≤ chr0 g t p ∧ chr0 g t p ≤ 57) (h2 : ¬ (p - st = 4 ∨ (p - st = 1 ∧ v = 0))) : pF g t lim (f + 1) be st v p = pF g t lim f be st (10 * v + chr0 g t p - 48) (p + 1) := by
  rw [pF, if_pos h1, if_neg h2]
theorem pF_end {g : Int → Int} {t lim be st v p : Int} {f : Nat} (h1 : ¬ (48 ≤ chr0 g t p ∧ chr0 g t p ≤ 57)) (h2 : ¬ (p = st ∨ ¬ (t ≤ p ∨ chr0 g t p = 44))) : pF g t lim (f + 1) be st v p = if v < be then 4 * st + 2 else if lim ≤ v then 4 * st + 3 else if t ≤ p then -1 else pF g t lim f v (p + 1) 0 (p + 1) := by
  rw [pF, if_neg h1, if_neg h2]
theorem nb_dig {g : Int → Int} {t v p : Int} {f : Nat} (h : ¬ (t ≤ p ∨ chr0 g t p = 44)) : nb g t (f + 1) v p = nb g t f (10 * v + chr0 g t p - 48) (p + 1) := by
  rw [nb, if_neg h]
theorem nb_end {g : Int → Int} {t v p : Int} {f : Nat} (h : t ≤ p ∨ chr0 g t p = 44) : nb g t (f + 1) v p = v :: nb g t f 0 (p + 1) := by
  rw [nb, if_pos h]
theorem dgs_s {st p v c : Int} (h : dgs st p v) (hc : 48 ≤ c ∧ c ≤ 57) (hf : ¬ (p - st = 4 ∨ (p - st = 1 ∧ v = 0))) : dgs st (p + 1) (10 * v + c - 48) := by
  unfold dgs at h ⊢
  omega
theorem dgs_b {st p v : Int} (h : dgs st p v) : st ≤ p ∧ p ≤ st + 4 ∧ 0 ≤ v ∧ v ≤ 9999 := by
  unfold dgs at h
  omega
theorem dgs_0 {st p v : Int} (h : dgs st p v) (h0 : v ≤ 0) (h1 : ¬ p = st) : p - st = 1 ∧ v = 0 := by
  unfold dgs at h
  omega
/-- the last number that was listed -/
def Bez (W : rW) (m be : Int) : Prop := (m = 0 ∧ be = 0) ∨ (0 < m ∧ W 14 (m - 1) = be)
theorem l_X4_faulty {Q : List rV → rW → Prop} {w0 : rW} {t lim : Int} (hT : TY w0 t) (hl : 2 ≤ lim ∧ lim ≤ 4096) : ∀ (f : Nat) (be st v p m : Int) (W : rW), (t + 1 - p).toNat = f → 0 ≤ st → st ≤ p → p ≤ t → dgs st p v → 0 ≤ be → be ≤ 9999 → 0 ≤ m → 2 * m ≤ st → SF w0 W → W 9 6 = 1 → W 9 8 = m → Bez W m be → (∀ W' r, r = pF (w0 13) t lim f be st v p → ¬ r = -1 → SF w0 W' → W' 9 6 = r % 4 → Q [vi (r / 4)] W') → (pF (w0 13) t lim f be st v p = -1 → ∀ W', SF w0 W' → W' 9 8 = m + (nb (w0 13) t f v p).length → (∀ i, 0 ≤ i → i < m → W' 14 i = W 14 i) → (∀ i : Nat, i < (nb (w0 13) t f v p).length → W' 14 (m + i) = (nb (w0 13) t f v p).getD i 0) → Q [vi (-1000004)] W') → WP M_X4_faulty 17 [vr 9, vi lim, vi p, vi st, vi v, vu, vu] [] W Q := by
  have ho : oc 9 = 4 := rfl
  intro f
  induction f with
  | zero => intro be st v p m W hf; omega
  | succ f ih =>
    intro be st v p m W hf hs hsp hp hd hb0 hb1 hm0 hm1 hSF h6 h8 hbe hF hS
    have hTW := hSF.ty hT
    have h5 := hTW.1
    have h97 := hTW.2.2.1
    have t0 := hTW.2.2.2.1
    have t1 := hTW.2.2.2.2.1
    have hc := chr1_r hT (show 0 ≤ p by omega)
    have hc0 : p < t → chr0 (w0 13) t p = chr1 (w0 13) t p := fun z => by unfold chr0 chr1; rw [if_pos z, if_pos z]
    have hc1 : t ≤ p → chr0 (w0 13) t p = 0 ∧ chr1 (w0 13) t p = -1 := fun z => by unfold chr0 chr1; rw [if_neg (by omega), if_neg (by omega)]; exact ⟨rfl, rfl⟩
    have e13 : W 13 = w0 13 := funext fun k => hSF.1 13 k (by decide) (by decide)
    have ha : al (W 9 7) = 41 := by rw [h97]; rfl
    have hdb := dgs_b hd
    have sg : ∀ {R : List rV → rW → Prop}, R [vi (chr1 (w0 13) t p)] W → WP M_X4_sign 0 [vr 9, vi p] [] W R := fun z => s_X4_sign hTW (by omega) (by rw [e13]; exact z)
    have bad : pF (w0 13) t lim (f + 1) be st v p = 4 * p + 1 → Q [vi p] W := fun z => by
      have y := hF W (4 * p + 1) z.symm (by omega) hSF (by omega)
      rw [show (4 * p + 1) / 4 = p by omega] at y
      exact y
    have c108 : ∀ a5 : Int, ((a5 = 1 ∧ t ≤ p) ∨ (a5 = 0 ∧ p < t ∧ chr0 (w0 13) t p = 44)) → ¬ p = st → ¬ (48 ≤ chr0 (w0 13) t p ∧ chr0 (w0 13) t p ≤ 57) → WP M_X4_faulty 108 [vr 9, vi lim, vi p, vi st, vi v, vi a5, vu] [] W Q := fun a5 z1 z2 z3 => by
      have P := pF_end (g := w0 13) (t := t) (lim := lim) (f := f) (be := be) (st := st) (v := v) (p := p) z3 (by omega)
      have N := nb_end (g := w0 13) (t := t) (f := f) (v := v) (p := p) (by omega)
      refine b_X4_faulty_108 ho ?_
      refine s_X4_wrong h97 h8 (by omega) hbe (by omega) ⟨hb0, hb1⟩ ⟨by omega, by omega⟩ ?_
      by_cases y1 : v < be
      · rw [if_pos y1] at P ⊢
        refine b_X4_faulty_115 (by decide) (fun g => absurd g (by decide)) (fun _ => ?_)
        refine b_X4_faulty_122 ho ?_
        have y := hF (wset W 9 6 2) _ P.symm (by omega) (hSF.set (Or.inr ⟨rfl, Or.inl rfl⟩)) (by rw [ws_eq]; omega)
        rw [show (4 * st + 2) / 4 = st by omega] at y
        exact y
      · rw [if_neg y1] at P ⊢
        by_cases y2 : lim ≤ v
        · rw [if_pos y2] at P ⊢
          refine b_X4_faulty_115 (by decide) (fun g => absurd g (by decide)) (fun _ => ?_)
          refine b_X4_faulty_122 ho ?_
          have y := hF (wset W 9 6 3) _ P.symm (by omega) (hSF.set (Or.inr ⟨rfl, Or.inl rfl⟩)) (by rw [ws_eq]; omega)
          rw [show (4 * st + 3) / 4 = st by omega] at y
          exact y
        · rw [if_neg y2] at P ⊢
          have k9 : wset W 14 m v 9 8 = m := (ws_nr (by decide)).trans h8
          refine b_X4_faulty_115 (by decide) (fun _ => ?_) (fun g => absurd g (by decide))
          refine b_X4_faulty_130 ho (by omega) (by omega) (by omega) (fun g => ?_) (fun g => ?_)
          · rw [if_neg (by omega)] at P
            refine b_X4_faulty_159 (b_X4_faulty_12 ?_)
            rw [h97, h8, k9]
            refine ih v (p + 1) 0 (p + 1) (m + 1) _ (by omega) (by omega) (Int.le_refl _) (by omega) (Or.inl ⟨rfl, rfl⟩) (by omega) (by omega) (by omega) (by omega) ((hSF.set (Or.inl rfl)).set (Or.inr ⟨rfl, Or.inr rfl⟩)) (by rw [ws_nk (by decide), ws_nr (by decide)]; exact h6) (ws_eq _ _ _ _) (Or.inr ⟨by omega, by rw [ws_nr (by decide), show m + 1 - 1 = m by omega, ws_eq]⟩) (fun W' r z => hF W' r (z.trans P.symm)) (fun z W' k1 k2 k3 k4 => ?_)
            refine hS (P.trans z) W' k1 (by rw [k2, N, List.length_cons]; omega) (fun i i0 i1 => (k3 i i0 (by omega)).trans (by rw [ws_nr (by decide), ws_nk (by omega)])) (fun i hi => ?_)
            rw [N]
            rw [N, List.length_cons] at hi
            cases i with
            | zero =>
              have x := k3 m hm0 (by omega)
              rw [ws_nr (by decide), ws_eq] at x
              show W' 14 (m + ((0 : Nat) : Int)) = v
              rw [show m + ((0 : Nat) : Int) = m by omega]
              exact x
            | succ i =>
              have x := k4 i (by omega)
              show W' 14 (m + ((i + 1 : Nat) : Int)) = (nb (w0 13) t f 0 (p + 1)).getD i 0
              rw [show m + ((i + 1 : Nat) : Int) = m + 1 + (i : Int) by omega]
              exact x
          · rw [if_pos (by omega)] at P
            obtain rfl : f = 0 := by omega
            rw [show nb (w0 13) t 0 0 (p + 1) = [] from rfl] at N
            rw [h97, h8, k9]
            refine b_X4_faulty_156 (hS P _ ((hSF.set (Or.inl rfl)).set (Or.inr ⟨rfl, Or.inr rfl⟩)) (by rw [ws_eq, N]; rfl) (fun i i0 i1 => by rw [ws_nr (by decide), ws_nk (by omega)]) (fun i hi => ?_))
            rw [N] at hi ⊢
            rw [List.length_singleton] at hi
            obtain rfl : i = 0 := by omega
            rw [ws_nr (by decide), show m + ((0 : Nat) : Int) = m by omega, ws_eq]
            rfl
    have c71 : ¬ (48 ≤ chr0 (w0 13) t p ∧ chr0 (w0 13) t p ≤ 57) → WP M_X4_faulty 71 [vr 9, vi lim, vi p, vi st, vi v, vu, vu] [] W Q := fun z3 => by
      refine b_X4_faulty_71 ho (by omega) (by omega) (fun g => ?_) (fun g => ?_)
      · refine b_X4_faulty_83 (b_X4_faulty_84 (by omega) (by omega) (fun g1 => ?_) (fun g1 => ?_))
        · exact b_X4_faulty_106 (bad (pF_bad (Or.inr ⟨z3, Or.inl g1⟩)))
        · refine b_X4_faulty_91 (by decide) (fun g2 => absurd rfl g2) (fun g2 => ?_)
          refine b_X4_faulty_96 ho ?_
          refine sg ?_
          have e := hc0 (by omega)
          refine b_X4_faulty_101 (by omega) (fun g3 => ?_) (fun g3 => ?_)
          · exact c108 0 (Or.inr ⟨rfl, by omega, by omega⟩) g1 z3
          · exact b_X4_faulty_106 (bad (pF_bad (Or.inr ⟨z3, Or.inr (by omega)⟩)))
      · refine b_X4_faulty_79 (b_X4_faulty_84 (by omega) (by omega) (fun g1 => ?_) (fun g1 => ?_))
        · exact b_X4_faulty_106 (bad (pF_bad (Or.inr ⟨z3, Or.inl g1⟩)))
        · refine b_X4_faulty_91 (by decide) (fun _ => ?_) (fun g2 => absurd g2 (by decide))
          exact c108 1 (Or.inl ⟨rfl, by omega⟩) g1 z3
    have brk : 48 ≤ chr0 (w0 13) t p ∧ chr0 (w0 13) t p ≤ 57 → (p - st = 4 ∨ (p - st = 1 ∧ v = 0)) → WP M_X4_faulty 71 [vr 9, vi lim, vi p, vi st, vi v, vu, vu] [] W Q := fun z2 z3 => by
      refine b_X4_faulty_71 ho (by omega) (by omega) (fun g => ?_) (fun g => absurd g (by omega))
      refine b_X4_faulty_83 (b_X4_faulty_84 (by omega) (by omega) (fun g1 => absurd g1 (by omega)) (fun g1 => ?_))
      refine b_X4_faulty_91 (by decide) (fun g2 => absurd rfl g2) (fun g2 => ?_)
      refine b_X4_faulty_96 ho ?_
      refine sg ?_
      have e := hc0 (by omega)
      refine b_X4_faulty_101 (by omega) (fun g3 => absurd g3 (by omega)) (fun g3 => ?_)
      exact b_X4_faulty_106 (bad (pF_bad (Or.inl ⟨z2, z3⟩)))
    refine b_X4_faulty_17 ho ?_
    refine sg ?_
    refine b_X4_faulty_22 ?_
    refine s_X4_in (by omega) (by omega) (by omega) (fun r hr => ?_)
    have cd : ¬ (48 ≤ chr0 (w0 13) t p ∧ chr0 (w0 13) t p ≤ 57) ∧ r = 0 ∨ (48 ≤ chr0 (w0 13) t p ∧ chr0 (w0 13) t p ≤ 57) ∧ r = 1 ∧ p < t ∧ chr0 (w0 13) t p = chr1 (w0 13) t p := by
      by_cases z : p < t
      · have e := hc0 z; omega
      · have e := hc1 (by omega); omega
    clear hc0 hc1
    refine b_X4_faulty_29 (by omega) (fun g => c71 (by omega)) (fun g => ?_)
    have cd1 : 48 ≤ chr0 (w0 13) t p ∧ chr0 (w0 13) t p ≤ 57 := by omega
    have hpt : p < t := by omega
    have hce : chr0 (w0 13) t p = chr1 (w0 13) t p := by omega
    have c49 : ¬ (p - st = 4 ∨ (p - st = 1 ∧ v = 0)) → WP M_X4_faulty 49 [vr 9, vi lim, vi p, vi st, vi v, vu, vu] [] W Q := fun z => by
      have P := pF_dig (lim := lim) (be := be) (f := f) cd1 z
      have N := nb_dig (g := w0 13) (t := t) (f := f) (v := v) (p := p) (by omega)
      rw [P] at hF hS
      rw [N] at hS
      rw [hce] at hF hS
      refine b_X4_faulty_49 ho ?_
      refine sg ?_
      refine b_X4_faulty_59 ?_
      exact ih be st _ (p + 1) m W (by omega) hs (by omega) (by omega) (hce ▸ dgs_s hd cd1 z) hb0 hb1 hm0 hm1 hSF h6 h8 hbe hF hS
    refine b_X4_faulty_32 (by omega) (by omega) (fun g1 => brk cd1 (by omega)) (fun g1 => ?_)
    refine b_X4_faulty_39 (by omega) (by omega) (fun g2 => c49 (by omega)) (fun g2 => ?_)
    refine b_X4_faulty_44 (by omega) (fun g3 => brk cd1 (Or.inr (dgs_0 hd g3 g2))) (fun g3 => c49 (by omega))
/-- what faulty leaves behind where it finds no fault -/
def Lst (r : Int) (W : rW) (l : List Int) : Prop := r = -1 → W 9 8 = l.length ∧ ∀ i : Nat, i < l.length → W 14 i = l.getD i 0
theorem s_X4_faulty {Q : List rV → rW → Prop} {w0 : rW} {t lim L : Int} (hT : TY w0 t) (hl : 2 ≤ lim ∧ lim ≤ 4096) (hL : L = lim) (hQ : ∀ W r v, SF w0 W → r = pF (w0 13) t lim (t + 1).toNat 0 0 0 0 → (r = -1 ∧ v = -1000004) ∨ (¬ r = -1 ∧ v = r / 4 ∧ W 9 6 = r % 4) → Lst r W (nb (w0 13) t (t + 1).toNat 0 0) → Q [vi v] W) : WP M_X4_faulty 0 [vr 9, vi L, vu, vu, vu, vu, vu] [] w0 Q := by
  subst hL
  have t0 := hT.2.2.2.1
  have hS0 : SF w0 (wset (wset w0 9 8 0) 9 6 1) := SF.set (SF.set ⟨fun _ _ _ _ => rfl, fun _ _ _ => rfl⟩ (Or.inr ⟨rfl, Or.inr rfl⟩)) (Or.inr ⟨rfl, Or.inl rfl⟩)
  refine b_X4_faulty_0 rfl (b_X4_faulty_12 ?_)
  refine l_X4_faulty hT hl _ 0 0 0 0 0 _ (by rw [Int.sub_zero]) (by decide) (by decide) t0 (Or.inl ⟨rfl, rfl⟩) (by decide) (by decide) (by decide) (by decide) hS0 (ws_eq _ _ _ _) (by rw [ws_nk (by decide), ws_eq]) (Or.inl ⟨rfl, rfl⟩) (fun W r z1 z2 z3 z4 => hQ W r _ z3 z1 (Or.inr ⟨z2, rfl, z4⟩) (fun z => absurd z z2)) (fun z W k1 k2 k3 k4 => hQ W _ _ k1 rfl (Or.inl ⟨z, rfl⟩) (fun _ => ⟨by rw [k2]; omega, fun i hi => ?_⟩))
  have x := k4 i hi
  rw [Int.zero_add] at x
  exact x
theorem pF_bd {g : Int → Int} {t lim : Int} : ∀ (f : Nat) (be st v p : Int), 0 ≤ st → st ≤ p → p + f ≤ t + 1 → -1 ≤ pF g t lim f be st v p ∧ pF g t lim f be st v p ≤ 4 * t + 3
  | 0, be, st, v, p, h0, h1, h2 => by unfold pF; omega
  | f + 1, be, st, v, p, h0, h1, h2 => by
    have i1 := pF_bd (g := g) (t := t) (lim := lim) f be st (10 * v + chr0 g t p - 48) (p + 1) h0 (by omega) (by omega)
    have i2 := pF_bd (g := g) (t := t) (lim := lim) f v (p + 1) 0 (p + 1) (by omega) (by omega) (by omega)
    unfold pF
    repeat' split
    all_goals first | exact i1 | exact i2 | omega
theorem pF_congr {g h : Int → Int} {t lim : Int} (e : ∀ i, 0 ≤ i → i < t → g i = h i) : ∀ (f : Nat) (be st v p : Int), 0 ≤ p → pF g t lim f be st v p = pF h t lim f be st v p
  | 0, be, st, v, p, h0 => rfl
  | f + 1, be, st, v, p, h0 => by
    have ec : chr0 g t p = chr0 h t p := by
      unfold chr0
      split
      · exact e p h0 (by assumption)
      · rfl
    unfold pF
    rw [ec, pF_congr e f be st _ (p + 1) (by omega), pF_congr e f v (p + 1) 0 (p + 1) (by omega)]
theorem nb_congr {g h : Int → Int} {t : Int} (e : ∀ i, 0 ≤ i → i < t → g i = h i) : ∀ (f : Nat) (v p : Int), 0 ≤ p → nb g t f v p = nb h t f v p
  | 0, v, p, h0 => rfl
  | f + 1, v, p, h0 => by
    have ec : chr0 g t p = chr0 h t p := by
      unfold chr0
      split
      · exact e p h0 (by assumption)
      · rfl
    unfold nb
    rw [ec, nb_congr e f 0 (p + 1) (by omega), nb_congr e f (10 * v + chr0 h t p - 48) (p + 1) (by omega)]

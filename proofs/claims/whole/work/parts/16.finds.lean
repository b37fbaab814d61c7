theorem l_found {Q : List rV → rW → Prop} {w : rW} {q x a3 a4 p i fl n b r : Int} (hbits : w 9 10 = ub n b) (hub : 0 ≤ ub n b ∧ ub n b ≤ 4136) (hr : w 9 13 = r) (hr0 : 0 ≤ r ∧ r < 100) (hp : 0 ≤ p ∧ p < 10000) (hQ : Q [] w) : WP M_X4_finds 89 [vr 9, vi q, vi x, vi a3, vi a4, vi p, vi i, vi fl] [] w Q := by
  have ho : oc 9 = 4 := rfl
  refine b_X4_finds_89 (by assumption) (by omega) (by omega) (fun g => ?_) (fun g => ?_)
  · exact b_X4_finds_172 hQ
  · refine b_X4_finds_98 (by assumption) (by omega) (fun g2 => ?_) (fun g2 => ?_)
    · exact b_X4_finds_172 hQ
    · exact absurd g2 (by omega)
theorem up_one {u f : Int → Int} {n b p i : Int} (hV : VR f n b) (hU : UP u f n b) (hp0 : 0 ≤ p) (hp : p < ub n b) (hi0 : 0 ≤ i) (h1 : ∀ j, 0 ≤ j → j < i → pl f n b j < p) (h2 : i < n → p ≤ pl f n b i) (hu : ¬ u p = 0) : i < n ∧ pl f n b i = p := by
  rcases hU p hp0 hp with ⟨-, j, g1, g2, g3⟩ | ⟨g, -⟩
  · have hji : ¬ j < i := fun z => by have := h1 j g1 z; omega
    have hin : i < n := by omega
    by_cases e : j = i
    · rw [e] at g3; exact ⟨hin, g3⟩
    · have h5 := pl_up hV hi0 (show i < j by omega) g2
      have h6 := h2 hin
      omega
  · exact absurd g hu
theorem up_zero {u f : Int → Int} {n b p i : Int} (hU : UP u f n b) (hp0 : 0 ≤ p) (hp : p < ub n b) (hi0 : 0 ≤ i) (h2 : i < n → p ≤ pl f n b i) (hu : u p = 0) : i < n → p + 1 ≤ pl f n b i := fun hin => by
  rcases hU p hp0 hp with ⟨g, -⟩ | ⟨-, g⟩
  · omega
  · have h3 := h2 hin
    have h4 := g i hi0 hin
    omega
theorem same_q {a c : Int} {k : Nat} (h : a / 2 ^ k = c / 2 ^ k) : (c % 2 ^ k ≤ a % 2 ^ k → c ≤ a) ∧ (a % 2 ^ k < c % 2 ^ k → a < c) := by
  have e1 := Int.mul_ediv_add_emod a (2 ^ k)
  have e2 := Int.mul_ediv_add_emod c (2 ^ k)
  rw [h] at e1
  constructor <;> intro g <;> omega

theorem l_X4_finds {Q : List rV → rW → Prop} {w0 : rW} {q n b x p0 W0 : Int} (hM0 : MR w0 q n b) (hV : VR (mf w0 q) n b) (hu9 : w0 9 9 = 15) (hu11 : w0 9 11 = 16) (hx : 0 ≤ x ∧ x < b) (hQ : ∀ w1, Sc w0 w1 → w1 9 14 = wtn (mf w0 q) n b x → (w1 9 13 = cl (mf w0 q) n x ∧ cl (mf w0 q) n x < n ∨ w1 9 13 = -1 ∧ cl (mf w0 q) n x = n) → Q [] w1) (hwt : wtn (mf w0 q) n b x = W0 + (if n ≤ cl (mf w0 q) n x then ub n b else pl (mf w0 q) n b (cl (mf w0 q) n x) + 1) - p0) : ∀ (k : Nat) (w : rW) (p i fl : Int), Sc w0 w → (ub n b - p).toNat < k → w 9 10 = ub n b → UP (w 15) (mf w0 q) n b → w 9 14 = W0 + (p - p0) → w 9 13 = -1 → 0 ≤ p → p ≤ ub n b → 0 ≤ i → i ≤ n → (∀ j, 0 ≤ j → j < i → pl (mf w0 q) n b j < p) → (i < n → p ≤ pl (mf w0 q) n b i) → (∀ j, 0 ≤ j → j < i → mf w0 q j < x) → ((fl = 0 ∧ p = x / 2 ^ wdn n b + i) ∨ (fl = 1 ∧ (i < n → x / 2 ^ wdn n b < mf w0 q i / 2 ^ wdn n b))) → WP M_X4_finds 89 [vr 9, vi q, vi x, vi (wd n b), vi (x / 2 ^ wdn n b), vi p, vi i, vi fl] [] w Q := by
  intro k
  induction k with
  | zero => intro w p i fl hS hk; omega
  | succ k ih =>
    intro w p i fl hS hk hbits hUP hwk hfd hp0 hp1 hi0 hin hA1 hA2 hA3 hfl
    have hM := hS.MR hM0
    have hmf := hS.mf q
    obtain ⟨hq01, hm0, hmn, hmb, hn0, hn4, hb1, hb2, hv⟩ := id hM
    have ho : oc 9 = 4 := rfl
    have ha : al (w 9 0) = 84 := by rw [hm0]; rfl
    have hn : 0 ≤ n ∧ n ≤ 40 := ⟨hn0, hn4⟩
    have hb : 1 ≤ b ∧ b ≤ 4096 := ⟨by omega, hb2⟩
    have hub := ub_bd hn hb
    have hwb := wd_bd hn.1 hb.2
    have hpw := p2_w hn.1 hb.2
    have h99 : w 9 9 = 15 := (hS.2 9 (by decide) (by decide) (by decide) (by decide)).trans hu9
    have r1 : wset w 9 14 (w 9 14 + 1) 9 9 = 15 := by rw [ws_nk (by decide)]; exact h99
    have r2 : ∀ z, wset w 9 14 (w 9 14 + 1) 15 z = w 15 z := fun z => ws_nr (by decide)
    have r3 : wset w 9 14 (w 9 14 + 1) 15 = w 15 := funext r2
    have r4 : al 15 = 4200 := rfl
    have hS2 : Sc w0 (wset w 9 14 (w 9 14 + 1)) := hS.s9 (Or.inr (Or.inr (Or.inr rfl)))
    have hM2 := hS2.MR hM0
    have hmf2 := hS2.mf q
    have hfl01 : fl = 0 ∨ fl = 1 := by
      rcases hfl with ⟨g, -⟩ | ⟨g, -⟩
      · exact Or.inl g
      · exact Or.inr g
    have hux := dvp (k := wdn n b) hx.1
    have hup2 : p < ub n b → w 15 p = 0 ∨ w 15 p = 1 := fun z => by
      rcases hUP p hp0 z with ⟨g, -⟩ | ⟨g, -⟩
      · exact Or.inr g
      · exact Or.inl g
    refine b_X4_finds_89 (by assumption) (by clear hfl; omega) (by clear hfl; omega) (fun g => ?_) (fun g => ?_)
    · refine b_X4_finds_172 ?_
      have hpe : p = ub n b := by clear hfl; omega
      have hie : i = n := by
        rcases Int.lt_or_le i n with z | z
        · have h5 := hA2 z
          have h6 := (pl_ub hV hi0 z).2
          clear hfl
          omega
        · clear hfl; omega
      have hcl : cl (mf w0 q) n x = n := cl_is hn0 (Int.le_refl _) (fun j z1 z2 => hA3 j z1 (by rw [hie]; exact z2)) (fun z => by omega)
      refine hQ w hS ?_ (Or.inr ⟨hfd, hcl⟩)
      rw [hwt, if_pos (by omega), hwk, hpe]
      clear hfl
      omega
    · rw [hbits] at g
      have hup2 := hup2 g
      refine b_X4_finds_98 (by assumption) (by clear hfl; omega) (fun g2 => ?_) (fun g2 => ?_)
      · exact absurd g2 (by clear hfl; omega)
      · refine b_X4_finds_105 (by assumption) hp0 (by rw [r1, r4]; clear hfl; omega) (by rw [r1, r2]; clear hfl; omega) (fun g3 => ?_) (fun g3 => ?_)
        · rw [r1, r2] at g3
          obtain ⟨hi1, hpl⟩ := up_one hV hUP hp0 g hi0 hA1 hA2 g3
          have hgi := hV.1 i hi0 hi1
          have hQd : x / 2 ^ wdn n b ≤ mf w0 q i / 2 ^ wdn n b := by
            rcases hfl with ⟨-, z⟩ | ⟨-, z⟩
            · unfold pl at hpl; omega
            · have := z hi1; omega
          have found : x ≤ mf w0 q i → WP M_X4_finds 166 [vr 9, vi q, vi x, vi (wd n b), vi (x / 2 ^ wdn n b), vi p, vi (i + 1), vi fl] [] (wset (wset w 9 14 (w 9 14 + 1)) 9 13 i) Q := fun hge => by
            have hcl : cl (mf w0 q) n x = i := cl_is hi0 (by omega) hA3 (fun _ => hge)
            refine b_X4_finds_166 ?_
            refine l_found (n := n) (b := b) (r := i) ?_ hub (ws_eq _ _ _ _) (by clear hfl; omega) (by clear hfl; omega) ?_
            · rw [ws_nk (by decide), ws_nk (by decide)]; exact hbits
            · refine hQ _ (hS2.s9 (Or.inr (Or.inr (Or.inl rfl)))) ?_ (Or.inl ⟨(ws_eq _ _ _ _).trans hcl.symm, by omega⟩)
              rw [ws_nk (by decide), ws_eq, hwt, if_neg (by omega), hcl, hpl, hwk]
              clear hfl
              omega
          refine b_X4_finds_131 (by clear hfl; omega) (fun g4 => ?_) (fun g4 => ?_)
          · refine b_X4_finds_154 ?_
            refine b_X4_finds_160 (by assumption) ?_
            refine found ?_
            rcases hfl with ⟨z, -⟩ | ⟨-, z⟩
            · omega
            · have h5 := z hi1
              rcases Int.lt_or_le (mf w0 q i) x with h6 | h6
              · have h7 : mf w0 q i / 2 ^ wdn n b ≤ x / 2 ^ wdn n b := Int.ediv_le_ediv (p2_pos _) (Int.le_of_lt h6)
                omega
              · exact h6
          · have hpe : p = x / 2 ^ wdn n b + i := by
              rcases hfl with ⟨-, z⟩ | ⟨z, -⟩
              · exact z
              · omega
            have hq2 : mf w0 q i / 2 ^ wdn n b = x / 2 ^ wdn n b := by unfold pl at hpl; omega
            have hsq := same_q hq2
            have hem := Int.emod_lt_of_pos (mf w0 q i) hpw.1
            have hem2 := Int.emod_lt_of_pos x hpw.1
            have hem3 := Int.emod_nonneg (mf w0 q i) (Int.ne_of_gt hpw.1)
            have hem4 := Int.emod_nonneg x (Int.ne_of_gt hpw.1)
            refine b_X4_finds_137 (by assumption) ?_
            refine s_X4_lower hM2 hi0 hi1 ?_
            rw [hmf2]
            have hlow : iA x (1 * 2 ^ (wd n b).toNat - 1) = x % 2 ^ wdn n b := by rw [hwb.2.2]; exact iA_low hx.1
            refine b_X4_finds_144 hwb.1 (by clear hfl; omega) (by rw [hwb.2.2]; clear hfl; omega) hx.1 (by rw [hwb.2.2]; clear hfl; omega) (by clear hfl; omega) (by rw [hlow]; clear hfl; omega) (fun g5 => ?_) (fun g5 => ?_)
            · rw [hlow] at g5
              have hlt := hsq.2 g5
              refine b_X4_finds_159 ?_
              refine b_X4_finds_160 (by assumption) ?_
              refine b_X4_finds_166 ?_
              refine ih _ (p + 1) (i + 1) fl (hS2.s9 (Or.inr (Or.inr (Or.inl rfl)))) (by clear hfl; omega) ?_ ?_ ?_ (ws_eq _ _ _ _) (by clear hfl; omega) (by clear hfl; omega) (by clear hfl; omega) (by clear hfl; omega) (fun j z1 z2 => ?_) (fun z => ?_) (fun j z1 z2 => ?_) (Or.inl ⟨g4, by clear hfl; omega⟩)
              · rw [ws_nk (by decide), ws_nk (by decide)]; exact hbits
              · rw [show wset (wset w 9 14 (w 9 14 + 1)) 9 13 (-1) 15 = w 15 from funext fun z => by rw [ws_nr (by decide), ws_nr (by decide)]]; exact hUP
              · rw [ws_nk (by decide), ws_eq, hwk]; clear hfl; omega
              · by_cases z3 : j = i
                · rw [z3, hpl]; clear hfl; omega
                · have h5 := hA1 j z1 (by omega)
                  clear hfl
                  omega
              · have h5 := pl_up hV hi0 (show i < i + 1 by omega) z
                clear hfl
                omega
              · by_cases z3 : j = i
                · rw [z3]; exact hlt
                · exact hA3 j z1 (by omega)
            · rw [hlow] at g5
              refine b_X4_finds_154 ?_
              refine b_X4_finds_160 (by assumption) ?_
              exact found (hsq.1 g5)
        · rw [r1, r2] at g3
          have hz := up_zero hUP hp0 g hi0 hA2 g3
          refine b_X4_finds_125 ?_
          refine b_X4_finds_166 ?_
          refine ih _ (p + 1) i 1 hS2 (by clear hfl; omega) ?_ ?_ ?_ ?_ (by clear hfl; omega) (by clear hfl; omega) hi0 hin (fun j z1 z2 => ?_) hz hA3 (Or.inr ⟨rfl, fun z => ?_⟩)
          · rw [ws_nk (by decide)]; exact hbits
          · rw [r3]; exact hUP
          · rw [ws_eq, hwk]; clear hfl; omega
          · rw [ws_nk (by decide)]; exact hfd
          · have h5 := hA1 j z1 z2
            clear hfl
            omega
          · rcases hfl with ⟨-, h5⟩ | ⟨-, h5⟩
            · have h6 := hz z
              unfold pl at h6
              omega
            · exact h5 z

theorem s_X4_finds {Q : List rV → rW → Prop} {w0 : rW} {q n b x : Int} (hM0 : MR w0 q n b) (hV : VR (mf w0 q) n b) (hu9 : w0 9 9 = 15) (hu11 : w0 9 11 = 16) (hx : 0 ≤ x ∧ x < b) (hQ : ∀ w1, Sc w0 w1 → w1 9 14 = wtn (mf w0 q) n b x → (w1 9 13 = cl (mf w0 q) n x ∧ cl (mf w0 q) n x < n ∨ w1 9 13 = -1 ∧ cl (mf w0 q) n x = n) → Q [] w1) : WP M_X4_finds 0 [vr 9, vi q, vi x, vu, vu, vu, vu, vu] [] w0 Q := by
  have ho : oc 9 = 4 := rfl
  refine b_X4_finds_0 (by assumption) ?_
  refine s_X4_lays hM0 hV hu9 hu11 (fun w hS hbits hzf hUP hzs => ?_)
  · skip
    have hM := hS.MR hM0
    have hmf := hS.mf q
    obtain ⟨hq01, hm0, hmn, hmb, hn0, hn4, hb1, hb2, hv⟩ := id hM
    have ho : oc 9 = 4 := rfl
    have ha : al (w 9 0) = 84 := by rw [hm0]; rfl
    have hn : 0 ≤ n ∧ n ≤ 40 := ⟨hn0, hn4⟩
    have hb : 1 ≤ b ∧ b ≤ 4096 := ⟨by omega, hb2⟩
    have hub := ub_bd hn hb
    have hwb := wd_bd hn.1 hb.2
    have hpw := p2_w hn.1 hb.2
    have h99 : w 9 9 = 15 := (hS.2 9 (by decide) (by decide) (by decide) (by decide)).trans hu9
    have h911 : w 9 11 = 16 := (hS.2 11 (by decide) (by decide) (by decide) (by decide)).trans hu11
    have r5 : al 16 = 4200 := rfl
    have hux := dvp (k := wdn n b) hx.1
    have huz : 0 < x / 2 ^ wdn n b → x / 2 ^ wdn n b - 1 < zf n b := fun z => by
      have h5 : x / 2 ^ wdn n b ≤ (b - 1) / 2 ^ wdn n b := Int.ediv_le_ediv (p2_pos _) (by omega)
      unfold zf
      split <;> omega
    have hzb := zf_bd hn0 hb.1 hb.2
    refine b_X4_finds_5 (by assumption) ?_
    refine s_X4_width hM ?_
    refine b_X4_finds_10 hx.1 (by omega) hwb.1 (by omega) (by rw [hwb.2.2]; omega) (fun g => ?_) (fun g => ?_)
    · rw [hwb.2.2] at g ⊢
      have hu0 : 0 < x / 2 ^ wdn n b := by omega
      have hz1 := huz hu0
      refine b_X4_finds_25 (by assumption) (by omega) (by rw [h911, r5]; omega) ?_
      refine b_X4_finds_36 (by omega) (fun g2 => ?_) (fun g2 => absurd g2 g)
      refine b_X4_finds_48 (by assumption) (by omega) (by rw [h911, r5]; omega) (by omega) (by omega) (by rw [h911, r5]; omega) ?_
      refine b_X4_finds_71 (by assumption) (by assumption) ?_
      rw [h911]
      have e1 := hzs (x / 2 ^ wdn n b - 1) (by omega) hz1
      have e2 := hzs ((x / 2 ^ wdn n b - 1) / 4 * 4) (by omega) (by omega)
      obtain ⟨f1, f2, f3, f4, f5⟩ := pz_at hn hb hV hUP (show 0 ≤ x / 2 ^ wdn n b - 1 by omega) hz1
      rw [e1, e2]
      have e3 : (x / 2 ^ wdn n b - 1) / 4 * 4 = (x / 2 ^ wdn n b - 1) - (x / 2 ^ wdn n b - 1) % 4 := by omega
      have e4 : x / 2 ^ wdn n b - 1 + 1 = x / 2 ^ wdn n b := by omega
      rw [e3]
      rw [e4] at f5
      obtain ⟨c1, c2, c3, c4⟩ := cl_spec (f := mf w0 q) (n := n) (x := x / 2 ^ wdn n b * 2 ^ wdn n b) hn0
      obtain ⟨d1, d2, d3, d4⟩ := cl_spec (f := pl (mf w0 q) n b) (n := n) (x := pz (mf w0 q) n b (x / 2 ^ wdn n b - 1)) hn0
      rw [f5] at d3 d4
      have hp0 : pz (mf w0 q) n b (x / 2 ^ wdn n b - 1) = x / 2 ^ wdn n b - 1 + cl (mf w0 q) n (x / 2 ^ wdn n b * 2 ^ wdn n b) := by unfold pz; rw [e4]
      have hxm : x / 2 ^ wdn n b * 2 ^ wdn n b ≤ x := Int.ediv_mul_le x (Int.ne_of_gt hpw.1)
      have hS3 := (hS.s9 (i := 14) (v := pz (mf w0 q) n b (x / 2 ^ wdn n b - 1) - pz (mf w0 q) n b ((x / 2 ^ wdn n b - 1) - (x / 2 ^ wdn n b - 1) % 4)) (Or.inr (Or.inr (Or.inr rfl)))).s9 (i := 13) (v := -1) (Or.inr (Or.inr (Or.inl rfl)))
      have hidx : pz (mf w0 q) n b (x / 2 ^ wdn n b - 1) + 1 - x / 2 ^ wdn n b = cl (mf w0 q) n (x / 2 ^ wdn n b * 2 ^ wdn n b) := by omega
      rw [hidx]
      refine l_X4_finds (p0 := pz (mf w0 q) n b (x / 2 ^ wdn n b - 1) + 1) (W0 := pz (mf w0 q) n b (x / 2 ^ wdn n b - 1) - pz (mf w0 q) n b ((x / 2 ^ wdn n b - 1) - (x / 2 ^ wdn n b - 1) % 4)) hM0 hV hu9 hu11 hx hQ ?_ _ _ _ _ _ hS3 (Nat.lt_succ_self _) ?_ ?_ ?_ (ws_eq _ _ _ _) (by omega) (by omega) c1 c2 (fun j z1 z2 => ?_) (fun z => ?_) (fun j z1 z2 => ?_) (Or.inl ⟨rfl, by omega⟩)
      · unfold wtn
        have hA : ¬ x / 2 ^ wdn n b ≤ 0 := by omega
        rw [if_neg hA, if_neg hA]
      · rw [ws_nk (by decide), ws_nk (by decide)]; exact hbits
      · rw [show wset (wset w 9 14 (pz (mf w0 q) n b (x / 2 ^ wdn n b - 1) - pz (mf w0 q) n b ((x / 2 ^ wdn n b - 1) - (x / 2 ^ wdn n b - 1) % 4))) 9 13 (-1) 15 = w 15 from funext fun z => by rw [ws_nr (by decide), ws_nr (by decide)]]; exact hUP
      · rw [ws_nk (by decide), ws_eq]; omega
      · have h5 := d3 j z1 z2; omega
      · have h5 := d4 z
        rcases hUP _ f1 f2 with ⟨h6, -⟩ | ⟨-, h6⟩
        · omega
        · have h7 := h6 _ c1 z
          omega
      · have h5 := c3 j z1 z2; omega
    · rw [hwb.2.2] at g ⊢
      refine b_X4_finds_21 ?_
      refine b_X4_finds_36 (by omega) (fun g2 => absurd g g2) (fun g2 => ?_)
      refine b_X4_finds_44 ?_
      refine b_X4_finds_71 (by assumption) (by assumption) ?_
      have hS3 := (hS.s9 (i := 14) (v := 0) (Or.inr (Or.inr (Or.inr rfl)))).s9 (i := 13) (v := -1) (Or.inr (Or.inr (Or.inl rfl)))
      have hidx : 0 - x / 2 ^ wdn n b = 0 := by omega
      rw [hidx]
      refine l_X4_finds (p0 := 0) (W0 := 0) hM0 hV hu9 hu11 hx hQ ?_ _ _ 0 0 0 hS3 (Nat.lt_succ_self _) ?_ ?_ ?_ (ws_eq _ _ _ _) (Int.le_refl _) hub.1 (Int.le_refl _) hn0 (fun j z1 z2 => by omega) (fun z => (pl_ub hV (Int.le_refl _) z).1) (fun j z1 z2 => by omega) (Or.inl ⟨rfl, by omega⟩)
      · unfold wtn
        have hA : x / 2 ^ wdn n b ≤ 0 := by omega
        rw [if_pos hA, if_pos hA]
      · rw [ws_nk (by decide), ws_nk (by decide)]; exact hbits
      · rw [show wset (wset w 9 14 0) 9 13 (-1) 15 = w 15 from funext fun z => by rw [ws_nr (by decide), ws_nr (by decide)]]; exact hUP
      · rw [ws_nk (by decide), ws_eq]; omega

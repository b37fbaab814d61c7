theorem l_X3_bitsOfFloat {Q : List rV → rW → Prop} {w : rW} {a0 res : Int} (hQ : Q [vi res] w) : ∀ (f : Nat) (a k : Int), 0 ≤ k → k + f ≤ 127 → okF f (fF a) k res = true → WP M_X3_bitsOfFloat 4 [vf a0, vf a, vi k] [] w Q := by
  intro f
  induction f with
  | zero =>
    intro a k h1 h2 h
    unfold okF at h
    exact absurd h (by decide)
  | succ f ih =>
    intro a k h1 h2 h
    unfold okF at h
    refine b_X3_bitsOfFloat_4 (by omega) (fun g => absurd g (by omega)) (fun g => ?_)
    refine b_X3_bitsOfFloat_10 (x12 := (Op.cmpValue (FP.fcmp (fF a) (fF 1073741824)) .l).toInt) (Int32.ofInt_toInt _).symm ⟨Int32.le_toInt _, Int32.toInt_lt _⟩ (fun g1 => ?_) (fun g1 => ?_)
    · rw [if_pos g1, Bool.and_eq_true, Bool.and_eq_true] at h
      obtain ⟨k1, k2, k3⟩ := h
      refine b_X3_bitsOfFloat_26 (x39 := (FP.f2i (FP.fmul (FP.fsub (fF a) (fF 1065353216)) (fF 1258291200))).toInt) (nnan_h k1) (by rw [fF_n]; exact nnan_h k2) (by rw [fF_n, fF_n]; exact (Int32.ofInt_toInt _).symm) ?_
      rw [of_decide_eq_true k3]
      exact hQ
    · rw [if_neg (by omega), Bool.and_eq_true] at h
      refine b_X3_bitsOfFloat_16 (nnan_h h.1) ?_
      exact ih _ _ (by omega) (by omega) (by rw [fF_n]; exact h.2)
theorem s_X3_bitsOfFloat {Q : List rV → rW → Prop} {w : rW} {a res : Int} (h : okF 20 (fF a) 0 res = true) (hQ : Q [vi res] w) : WP M_X3_bitsOfFloat 0 [vf a, vu, vu] [] w Q := by
  refine b_X3_bitsOfFloat_0 ?_
  exact l_X3_bitsOfFloat hQ 20 a 0 (by decide) (by decide) h
theorem lcm_c (a b : Int) : (lcm a b = -1 ∧ a < b) ∨ (lcm a b = 0 ∧ a = b) ∨ (lcm a b = 1 ∧ b < a) := by
  unfold lcm
  by_cases z : a < b
  · rw [if_pos z]; omega
  · rw [if_neg z]
    by_cases y : a = b
    · rw [if_pos y]; omega
    · rw [if_neg y]; omega

theorem l_X4_quotient {Q : List rV → rW → Prop} {w : rW} {s n res : Int} (hn : 1 ≤ n ∧ n ≤ 40) (hQ : Q [vi res] w) (hres : 0 ≤ res) : ∀ (f : Nat) (x e : Int), 0 ≤ x → x < 16777216 * n → 126 + f ≤ e → e ≤ 150 → qn n f x e = res → WP M_X4_quotient 12 [vi s, vi n, vl x, vu, vl n, vu, vi e, vu, vu, vu, vu] [] w Q := by
  intro f
  induction f with
  | zero =>
    intro x e h1 h2 h3 h4 h
    unfold qn at h
    omega
  | succ f ih =>
    intro x e h1 h2 h3 h4 h
    unfold qn at h
    have c1 := lcm_c x (8388608 * n)
    have c2 := lcm_c x (16777216 * n)
    refine b_X4_quotient_12 (by omega) (by omega) (by omega) (fun g => ?_) (fun g => ?_)
    · rw [if_pos (by omega)] at h
      refine b_X4_quotient_35 (by omega) (by omega) (by omega) (fun g1 => ?_) (fun g1 => absurd g1 (by omega))
      have r0 := Int.emod_nonneg x (show n ≠ 0 by omega)
      have r1 := Int.emod_lt_of_pos x (show 0 < n by omega)
      have q0 : 8388608 ≤ x / n := Int.le_ediv_of_mul_le (by omega) (by omega)
      have q1 : x / n < 16777216 := Int.ediv_lt_of_lt_mul (by omega) (by omega)
      have hp : (2 : Int) ^ (23 : Int).toNat = 8388608 := rfl
      have c3 := lcm_c (2 * (x % n)) n
      have c4 := lcm_c (x / n % 2) 1
      have c5 := lcm_c (x / n + 1) 16777216
      have c6 := lcm_c (x / n + 0) 16777216
      unfold qr at h
      refine b_X4_quotient_60 (by omega) (by omega) (by omega) (by omega) (by omega) (by omega) (by omega) (fun g2 => ?_) (fun g2 => ?_)
      · refine b_X4_quotient_105 ?_
        have hc : n < 2 * (x % n) ∨ (2 * (x % n) = n ∧ x / n % 2 = 1) := by omega
        rw [if_pos hc] at h
        refine b_X4_quotient_110 (by omega) (by omega) (fun g4 => ?_) (fun g4 => ?_)
        · rw [if_neg (by omega)] at h
          refine b_X4_quotient_132 (by omega) (by rw [hp]; omega) ?_
          refine b_X4_quotient_145 ?_
          exact qe hQ (by rw [hp]; omega)
        · rw [if_pos (by omega)] at h
          refine b_X4_quotient_122 (by omega) (by rw [hp]; omega) ?_
          refine b_X4_quotient_145 ?_
          exact qe hQ (by rw [hp]; omega)
      · refine b_X4_quotient_86 (by omega) (by omega) (by omega) (fun g3 => ?_) (fun g3 => ?_)
        · refine b_X4_quotient_109 ?_
          have hc : ¬ (n < 2 * (x % n) ∨ (2 * (x % n) = n ∧ x / n % 2 = 1)) := by omega
          rw [if_neg hc] at h
          refine b_X4_quotient_110 (by omega) (by omega) (fun g4 => ?_) (fun g4 => ?_)
          · rw [if_neg (by omega)] at h
            refine b_X4_quotient_132 (by omega) (by rw [hp]; omega) ?_
            refine b_X4_quotient_145 ?_
            exact qe hQ (by rw [hp]; omega)
          · rw [if_pos (by omega)] at h
            refine b_X4_quotient_122 (by omega) (by rw [hp]; omega) ?_
            refine b_X4_quotient_145 ?_
            exact qe hQ (by rw [hp]; omega)
        · refine b_X4_quotient_94 (by omega) (by omega) (by omega) (by omega) (fun g5 => ?_) (fun g5 => ?_)
          · refine b_X4_quotient_109 ?_
            have hc : ¬ (n < 2 * (x % n) ∨ (2 * (x % n) = n ∧ x / n % 2 = 1)) := by omega
            rw [if_neg hc] at h
            refine b_X4_quotient_110 (by omega) (by omega) (fun g4 => ?_) (fun g4 => ?_)
            · rw [if_neg (by omega)] at h
              refine b_X4_quotient_132 (by omega) (by rw [hp]; omega) ?_
              refine b_X4_quotient_145 ?_
              exact qe hQ (by rw [hp]; omega)
            · rw [if_pos (by omega)] at h
              refine b_X4_quotient_122 (by omega) (by rw [hp]; omega) ?_
              refine b_X4_quotient_145 ?_
              exact qe hQ (by rw [hp]; omega)
          · refine b_X4_quotient_105 ?_
            have hc : n < 2 * (x % n) ∨ (2 * (x % n) = n ∧ x / n % 2 = 1) := by omega
            rw [if_pos hc] at h
            refine b_X4_quotient_110 (by omega) (by omega) (fun g4 => ?_) (fun g4 => ?_)
            · rw [if_neg (by omega)] at h
              refine b_X4_quotient_132 (by omega) (by rw [hp]; omega) ?_
              refine b_X4_quotient_145 ?_
              exact qe hQ (by rw [hp]; omega)
            · rw [if_pos (by omega)] at h
              refine b_X4_quotient_122 (by omega) (by rw [hp]; omega) ?_
              refine b_X4_quotient_145 ?_
              exact qe hQ (by rw [hp]; omega)
    · rw [if_neg (by omega)] at h
      refine b_X4_quotient_23 ?_
      exact ih _ _ (by omega) (by omega) (by omega) (by omega) h
theorem s_X4_quotient {Q : List rV → rW → Prop} {w : rW} {s n : Int} (hn : 1 ≤ n ∧ n ≤ 40) (hs : 0 ≤ s ∧ s ≤ 5000) (hr : 0 ≤ qn n 24 s 150) (hQ : Q [vi (qn n 24 s 150)] w) : WP M_X4_quotient 0 [vi s, vi n, vu, vu, vu, vu, vu, vu, vu, vu, vu] [] w Q := by
  refine b_X4_quotient_0 (by omega) (by omega) ?_
  exact l_X4_quotient hn hQ hr 24 s 150 (by omega) (by omega) (by decide) (by decide) rfl
theorem log2_up {a b : Nat} (h : a ≤ b) : a.log2 ≤ b.log2 := by
  rcases Nat.lt_or_ge b.log2 a.log2 with z | z
  · by_cases y : a = 0
    · rw [y]; exact Nat.le_trans (by decide) (Nat.zero_le _)
    · have h1 := Nat.log2_self_le y
      have h2 := Nat.lt_log2_self (n := b)
      have h3 : 2 ^ (b.log2 + 1) ≤ 2 ^ a.log2 := Nat.pow_le_pow_right (by decide) z
      omega
  · exact z
theorem szf_q {n b : Int} (hn : 1 ≤ n) (hb1 : 1 ≤ b) (hb : b ≤ 4096) : n ≤ szf n b ∧ szf n b ≤ ((3 + (4096 / n.toNat).log2 : Nat) : Int) * n := by
  have hp := p2_pos (wdn n b)
  have h1 := wdn_hi (n := n) hn (show 0 ≤ b by omega)
  have e1 := Int.mul_ediv_add_emod b n
  have m2 := Int.emod_lt_of_pos b (show 0 < n by omega)
  have hw0 : 0 ≤ n * wd n b := Int.mul_nonneg (by omega) (by unfold wd; omega)
  have z0 : 0 ≤ (b - 1) / 2 ^ wdn n b := Int.ediv_nonneg (by omega) (by omega)
  have hz : (b - 1) / 2 ^ wdn n b < 2 * n := by
    refine Int.ediv_lt_of_lt_mul hp ?_
    have k1 : n * (b / n) ≤ n * (2 ^ (wdn n b + 1) - 1) := Int.mul_le_mul_of_nonneg_left (by omega) (by omega)
    rw [Int.mul_sub, Int.pow_succ, Int.mul_comm (2 ^ wdn n b) 2, ← Int.mul_assoc, Int.mul_comm n 2] at k1
    omega
  have hl : wdn n b ≤ (4096 / n.toNat).log2 := by
    unfold wdn
    rw [if_neg (by omega)]
    refine log2_up ?_
    have k1 : b / n ≤ 4096 / n := Int.ediv_le_ediv (by omega) hb
    have k0 : 0 ≤ b / n := Int.ediv_nonneg (by omega) (by omega)
    have k2 : (4096 : Int) / n = ((4096 / n.toNat : Nat) : Int) := by
      rw [Int.natCast_ediv, Int.toNat_of_nonneg (by omega)]
      rfl
    omega
  have hm : n * wd n b ≤ n * ((4096 / n.toNat).log2 : Nat) := Int.mul_le_mul_of_nonneg_left (by unfold wd; omega) (by omega)
  have e2 : ((3 + (4096 / n.toNat).log2 : Nat) : Int) * n = 3 * n + n * ((4096 / n.toNat).log2 : Nat) := by
    rw [Int.natCast_add, Int.add_mul, Int.mul_comm (((4096 / n.toNat).log2 : Nat) : Int) n]
    rfl
  rw [e2]
  unfold szf zf
  rw [if_neg (by omega)]
  omega

theorem j_perNumber {w : rW} {q : Int} (hI : Inv w) (hqr : R32 q) : WP M_X3_perNumber 0 [vr 0, vi q, vu] [] w (JQ M_X4_perNumber [vr 9, vi q]) := by
  have ho0 : oc 0 = 3 := rfl
  have ho9 : oc 9 = 4 := rfl
  by_cases hq : q = 0 ∨ q = 1
  · clear ho0
    have ho0 : oc 0 = 3 := rfl
    obtain ⟨a, n, b, hra, hR, hM, hV, hE⟩ := hI.row hq
    obtain ⟨h, hb0, hb1, hb2⟩ := id hR
    obtain ⟨ha13, ho, ha1, h0, h1, hn0, hn4, hv⟩ := id h
    have hn : 0 ≤ n ∧ n ≤ 40 := ⟨hn0, hn4⟩
    have hb : 1 ≤ b ∧ b ≤ 4096 := ⟨by omega, hb2⟩
    have hwb := wd_bd hn.1 hb.2
    have hpw := p2_w hn.1 hb.2
    have hub := ub_bd hn hb
    have hzb := zf_bd hn.1 hb.1 hb.2
    have hsz := szf_bd hn hb
    have hun := unl_bd (f := w (a + 1)) hn0
    have hu9 : w 9 9 = 15 := hI.1.2.2.2.2.2.2.2.2.2.1
    have hu11 : w 9 11 = 16 := hI.1.2.2.2.2.2.2.2.2.2.2.1
    have ha0 : al (w 9 0) = 84 := by rw [hM.2.1]; rfl
    have hbm : w (w 9 0) (42 * q + 1) = b := by rw [hM.2.1]; exact hM.2.2.2.1
    refine b_X3_perNumber_0  ?_
    refine s_X3_isRow (by omega) (fun r hr => ?_)
    refine b_X3_perNumber_4 (by first | omega | assumption | (rw [fF_n, fF_n, h1]; exact nnan_h k1)) (fun c_4 => ?_) (fun c_4 => ?_)
    · first
      | exact absurd c_4 (by omega)
      | (refine b_X3_perNumber_10 (by first | omega | assumption | (rw [fF_n, fF_n, h1]; exact nnan_h k1)) ?_
         refine s_X3_rowAt hra ?_
         refine b_X3_perNumber_15 (by first | omega | assumption | (rw [fF_n, fF_n, h1]; exact nnan_h k1)) (by first | omega | assumption | (rw [fF_n, fF_n, h1]; exact nnan_h k1)) (fun c_15 => ?_) (fun c_15 => ?_)
         · first
           | exact absurd c_15 (by omega)
           | (obtain ⟨sl, sh⟩ := szf_q (n := n) (b := b) (by omega) (by omega) (by omega)
              have hkP := okP_all (s := szf n b) (n := n) (by omega) (by omega) sl sh
              unfold okP at hkP
              rw [Bool.and_eq_true, Bool.and_eq_true] at hkP
              obtain ⟨k1, k2, k3⟩ := hkP
              have k2 := of_decide_eq_true k2
              refine b_X3_perNumber_27 (by first | omega | assumption | (rw [fF_n, fF_n, h1]; exact nnan_h k1)) ?_
              refine s_X1_bits hR ?_
              refine b_X3_perNumber_31 (by first | omega | assumption | (rw [fF_n, fF_n, h1]; exact nnan_h k1)) (by first | omega | assumption | (rw [fF_n, fF_n, h1]; exact nnan_h k1)) ?_
              rw [fF_n, fF_n, h1]
              refine s_X3_bitsOfFloat (by rw [fF_n]; exact k3) ?_
              refine b_X3_perNumber_41  ?_
              refine JQ.mk (by omega) ?_
              refine b_X4_perNumber_0  ?_
              refine s_X4_in (by omega) (by omega) (by omega) (fun r hr => ?_)
              refine b_X4_perNumber_6 (by first | omega | assumption | (rw [fF_n, fF_n, h1]; exact nnan_h k1)) (fun d_6 => ?_) (fun d_6 => ?_)
              · first
                | exact absurd d_6 (by omega)
                | (refine b_X4_perNumber_12 (by first | omega | assumption | (rw [fF_n, fF_n, h1]; exact nnan_h k1)) ?_
                   refine s_X4_many hM ?_
                   refine b_X4_perNumber_17 (by first | omega | assumption | (rw [fF_n, fF_n, h1]; exact nnan_h k1)) (fun d_17 => ?_) (fun d_17 => ?_)
                   · first
                     | exact absurd d_17 (by omega)
                     | (refine b_X4_perNumber_25 (by first | omega | assumption | (rw [fF_n, fF_n, h1]; exact nnan_h k1)) ?_
                        refine s_X4_size hM ?_
                        refine b_X4_perNumber_30 (by first | omega | assumption | (rw [fF_n, fF_n, h1]; exact nnan_h k1)) ?_
                        refine s_X4_many hM ?_
                        refine b_X4_perNumber_35  ?_
                        refine s_X4_quotient (by omega) (by omega) (by omega) ?_
                        refine b_X4_perNumber_38  ?_
                        exact JE (by first | rfl | omega) hI)
                   · first
                     | exact absurd d_17 (by omega)
                     | (refine b_X4_perNumber_20  ?_
                        refine b_X4_perNumber_38  ?_
                        exact JE (by first | rfl | omega) hI))
              · first
                | exact absurd d_6 (by omega)
                | (refine b_X4_perNumber_9  ?_
                   exact JE (by first | rfl | omega) hI))
         · first
           | exact absurd c_15 (by omega)
           | (refine b_X3_perNumber_24  ?_
              refine JQ.mk (by omega) ?_
              refine b_X4_perNumber_0  ?_
              refine s_X4_in (by omega) (by omega) (by omega) (fun r hr => ?_)
              refine b_X4_perNumber_6 (by first | omega | assumption | (rw [fF_n, fF_n, h1]; exact nnan_h k1)) (fun d_6 => ?_) (fun d_6 => ?_)
              · first
                | exact absurd d_6 (by omega)
                | (refine b_X4_perNumber_12 (by first | omega | assumption | (rw [fF_n, fF_n, h1]; exact nnan_h k1)) ?_
                   refine s_X4_many hM ?_
                   refine b_X4_perNumber_17 (by first | omega | assumption | (rw [fF_n, fF_n, h1]; exact nnan_h k1)) (fun d_17 => ?_) (fun d_17 => ?_)
                   · first
                     | exact absurd d_17 (by omega)
                     | (refine b_X4_perNumber_25 (by first | omega | assumption | (rw [fF_n, fF_n, h1]; exact nnan_h k1)) ?_
                        refine s_X4_size hM ?_
                        refine b_X4_perNumber_30 (by first | omega | assumption | (rw [fF_n, fF_n, h1]; exact nnan_h k1)) ?_
                        refine s_X4_many hM ?_
                        refine b_X4_perNumber_35  ?_
                        refine s_X4_quotient (by omega) (by omega) (by omega) ?_
                        refine b_X4_perNumber_38  ?_
                        exact JE (by first | rfl | omega) hI)
                   · first
                     | exact absurd d_17 (by omega)
                     | (refine b_X4_perNumber_20  ?_
                        refine b_X4_perNumber_38  ?_
                        exact JE (by first | rfl | omega) hI))
              · first
                | exact absurd d_6 (by omega)
                | (refine b_X4_perNumber_9  ?_
                   exact JE (by first | rfl | omega) hI)))
    · first
      | exact absurd c_4 (by omega)
      | (refine b_X3_perNumber_7  ?_
         refine JQ.mk (by omega) ?_
         refine b_X4_perNumber_0  ?_
         refine s_X4_in (by omega) (by omega) (by omega) (fun r hr => ?_)
         refine b_X4_perNumber_6 (by first | omega | assumption | (rw [fF_n, fF_n, h1]; exact nnan_h k1)) (fun d_6 => ?_) (fun d_6 => ?_)
         · first
           | exact absurd d_6 (by omega)
           | (refine b_X4_perNumber_12 (by first | omega | assumption | (rw [fF_n, fF_n, h1]; exact nnan_h k1)) ?_
              refine s_X4_many hM ?_
              refine b_X4_perNumber_17 (by first | omega | assumption | (rw [fF_n, fF_n, h1]; exact nnan_h k1)) (fun d_17 => ?_) (fun d_17 => ?_)
              · first
                | exact absurd d_17 (by omega)
                | (refine b_X4_perNumber_25 (by first | omega | assumption | (rw [fF_n, fF_n, h1]; exact nnan_h k1)) ?_
                   refine s_X4_size hM ?_
                   refine b_X4_perNumber_30 (by first | omega | assumption | (rw [fF_n, fF_n, h1]; exact nnan_h k1)) ?_
                   refine s_X4_many hM ?_
                   refine b_X4_perNumber_35  ?_
                   refine s_X4_quotient (by omega) (by omega) (by omega) ?_
                   refine b_X4_perNumber_38  ?_
                   exact JE (by first | rfl | omega) hI)
              · first
                | exact absurd d_17 (by omega)
                | (refine b_X4_perNumber_20  ?_
                   refine b_X4_perNumber_38  ?_
                   exact JE (by first | rfl | omega) hI))
         · first
           | exact absurd d_6 (by omega)
           | (refine b_X4_perNumber_9  ?_
              exact JE (by first | rfl | omega) hI))
  · have hq2 : q < 0 ∨ 1 < q := by omega
    refine b_X3_perNumber_0  ?_
    refine s_X3_isRow (by omega) (fun r hr => ?_)
    refine b_X3_perNumber_4 (by first | omega | assumption | (rw [fF_n, fF_n, h1]; exact nnan_h k1)) (fun c_4 => ?_) (fun c_4 => ?_)
    · first
      | exact absurd c_4 (by omega)
      | (refine b_X3_perNumber_10 (by first | omega | assumption | (rw [fF_n, fF_n, h1]; exact nnan_h k1)) ?_
         refine s_X3_rowAt hra ?_
         refine b_X3_perNumber_15 (by first | omega | assumption | (rw [fF_n, fF_n, h1]; exact nnan_h k1)) (by first | omega | assumption | (rw [fF_n, fF_n, h1]; exact nnan_h k1)) (fun c_15 => ?_) (fun c_15 => ?_)
         · first
           | exact absurd c_15 (by omega)
           | (obtain ⟨sl, sh⟩ := szf_q (n := n) (b := b) (by omega) (by omega) (by omega)
              have hkP := okP_all (s := szf n b) (n := n) (by omega) (by omega) sl sh
              unfold okP at hkP
              rw [Bool.and_eq_true, Bool.and_eq_true] at hkP
              obtain ⟨k1, k2, k3⟩ := hkP
              have k2 := of_decide_eq_true k2
              refine b_X3_perNumber_27 (by first | omega | assumption | (rw [fF_n, fF_n, h1]; exact nnan_h k1)) ?_
              refine s_X1_bits hR ?_
              refine b_X3_perNumber_31 (by first | omega | assumption | (rw [fF_n, fF_n, h1]; exact nnan_h k1)) (by first | omega | assumption | (rw [fF_n, fF_n, h1]; exact nnan_h k1)) ?_
              rw [fF_n, fF_n, h1]
              refine s_X3_bitsOfFloat (by rw [fF_n]; exact k3) ?_
              refine b_X3_perNumber_41  ?_
              refine JQ.mk (by omega) ?_
              refine b_X4_perNumber_0  ?_
              refine s_X4_in (by omega) (by omega) (by omega) (fun r hr => ?_)
              refine b_X4_perNumber_6 (by first | omega | assumption | (rw [fF_n, fF_n, h1]; exact nnan_h k1)) (fun d_6 => ?_) (fun d_6 => ?_)
              · first
                | exact absurd d_6 (by omega)
                | (refine b_X4_perNumber_12 (by first | omega | assumption | (rw [fF_n, fF_n, h1]; exact nnan_h k1)) ?_
                   refine s_X4_many hM ?_
                   refine b_X4_perNumber_17 (by first | omega | assumption | (rw [fF_n, fF_n, h1]; exact nnan_h k1)) (fun d_17 => ?_) (fun d_17 => ?_)
                   · first
                     | exact absurd d_17 (by omega)
                     | (refine b_X4_perNumber_25 (by first | omega | assumption | (rw [fF_n, fF_n, h1]; exact nnan_h k1)) ?_
                        refine s_X4_size hM ?_
                        refine b_X4_perNumber_30 (by first | omega | assumption | (rw [fF_n, fF_n, h1]; exact nnan_h k1)) ?_
                        refine s_X4_many hM ?_
                        refine b_X4_perNumber_35  ?_
                        refine s_X4_quotient (by omega) (by omega) (by omega) ?_
                        refine b_X4_perNumber_38  ?_
                        exact JE (by first | rfl | omega) hI)
                   · first
                     | exact absurd d_17 (by omega)
                     | (refine b_X4_perNumber_20  ?_
                        refine b_X4_perNumber_38  ?_
                        exact JE (by first | rfl | omega) hI))
              · first
                | exact absurd d_6 (by omega)
                | (refine b_X4_perNumber_9  ?_
                   exact JE (by first | rfl | omega) hI))
         · first
           | exact absurd c_15 (by omega)
           | (refine b_X3_perNumber_24  ?_
              refine JQ.mk (by omega) ?_
              refine b_X4_perNumber_0  ?_
              refine s_X4_in (by omega) (by omega) (by omega) (fun r hr => ?_)
              refine b_X4_perNumber_6 (by first | omega | assumption | (rw [fF_n, fF_n, h1]; exact nnan_h k1)) (fun d_6 => ?_) (fun d_6 => ?_)
              · first
                | exact absurd d_6 (by omega)
                | (refine b_X4_perNumber_12 (by first | omega | assumption | (rw [fF_n, fF_n, h1]; exact nnan_h k1)) ?_
                   refine s_X4_many hM ?_
                   refine b_X4_perNumber_17 (by first | omega | assumption | (rw [fF_n, fF_n, h1]; exact nnan_h k1)) (fun d_17 => ?_) (fun d_17 => ?_)
                   · first
                     | exact absurd d_17 (by omega)
                     | (refine b_X4_perNumber_25 (by first | omega | assumption | (rw [fF_n, fF_n, h1]; exact nnan_h k1)) ?_
                        refine s_X4_size hM ?_
                        refine b_X4_perNumber_30 (by first | omega | assumption | (rw [fF_n, fF_n, h1]; exact nnan_h k1)) ?_
                        refine s_X4_many hM ?_
                        refine b_X4_perNumber_35  ?_
                        refine s_X4_quotient (by omega) (by omega) (by omega) ?_
                        refine b_X4_perNumber_38  ?_
                        exact JE (by first | rfl | omega) hI)
                   · first
                     | exact absurd d_17 (by omega)
                     | (refine b_X4_perNumber_20  ?_
                        refine b_X4_perNumber_38  ?_
                        exact JE (by first | rfl | omega) hI))
              · first
                | exact absurd d_6 (by omega)
                | (refine b_X4_perNumber_9  ?_
                   exact JE (by first | rfl | omega) hI)))
    · first
      | exact absurd c_4 (by omega)
      | (refine b_X3_perNumber_7  ?_
         refine JQ.mk (by omega) ?_
         refine b_X4_perNumber_0  ?_
         refine s_X4_in (by omega) (by omega) (by omega) (fun r hr => ?_)
         refine b_X4_perNumber_6 (by first | omega | assumption | (rw [fF_n, fF_n, h1]; exact nnan_h k1)) (fun d_6 => ?_) (fun d_6 => ?_)
         · first
           | exact absurd d_6 (by omega)
           | (refine b_X4_perNumber_12 (by first | omega | assumption | (rw [fF_n, fF_n, h1]; exact nnan_h k1)) ?_
              refine s_X4_many hM ?_
              refine b_X4_perNumber_17 (by first | omega | assumption | (rw [fF_n, fF_n, h1]; exact nnan_h k1)) (fun d_17 => ?_) (fun d_17 => ?_)
              · first
                | exact absurd d_17 (by omega)
                | (refine b_X4_perNumber_25 (by first | omega | assumption | (rw [fF_n, fF_n, h1]; exact nnan_h k1)) ?_
                   refine s_X4_size hM ?_
                   refine b_X4_perNumber_30 (by first | omega | assumption | (rw [fF_n, fF_n, h1]; exact nnan_h k1)) ?_
                   refine s_X4_many hM ?_
                   refine b_X4_perNumber_35  ?_
                   refine s_X4_quotient (by omega) (by omega) (by omega) ?_
                   refine b_X4_perNumber_38  ?_
                   exact JE (by first | rfl | omega) hI)
              · first
                | exact absurd d_17 (by omega)
                | (refine b_X4_perNumber_20  ?_
                   refine b_X4_perNumber_38  ?_
                   exact JE (by first | rfl | omega) hI))
         · first
           | exact absurd d_6 (by omega)
           | (refine b_X4_perNumber_9  ?_
              exact JE (by first | rfl | omega) hI))

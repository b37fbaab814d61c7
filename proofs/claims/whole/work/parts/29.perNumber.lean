/-- bits per number: both sides reckoned for every size that a row can have -/
theorem fF_n (x : UInt32) : fF (x.toNat : Int) = x := by
  unfold fF
  rw [Int.toNat_natCast]
  exact UInt32.ofNat_toNat
def nnan (x : UInt32) : Bool := decide (x &&& 0x7fffffff ≤ 0x7f800000)
theorem nnan_h {x : UInt32} (h : nnan x = true) : vf_n32 x := by
  unfold vf_n32
  exact of_decide_eq_true h
def okF : Nat → UInt32 → Int → Int → Bool
  | 0, _, _, _ => false
  | f + 1, x, k, res =>
    if (Op.cmpValue (FP.fcmp x (fF 1073741824)) .l).toInt < 0 then
      nnan (FP.fsub x (fF 1065353216)) && (nnan (FP.fmul (FP.fsub x (fF 1065353216)) (fF 1258291200)) && decide ((127 + k) * 8388608 + (FP.f2i (FP.fmul (FP.fsub x (fF 1065353216)) (fF 1258291200))).toInt = res))
    else nnan (FP.fdiv x (fF 1073741824)) && okF f (FP.fdiv x (fF 1073741824)) (k + 1) res
def qr (n x e : Int) : Int :=
  if x / n + (if n < 2 * (x % n) ∨ (2 * (x % n) = n ∧ x / n % 2 = 1) then 1 else 0) = 16777216 then (e + 1) * 8388608
  else e * 8388608 + (x / n + (if n < 2 * (x % n) ∨ (2 * (x % n) = n ∧ x / n % 2 = 1) then 1 else 0) - 8388608)
def qn (n : Int) : Nat → Int → Int → Int
  | 0, _, _ => -1
  | f + 1, x, e => if 8388608 * n ≤ x then qr n x e else qn n f (x * 2) (e + -1)
def okP (s n : Int) : Bool := nnan (FP.fdiv (FP.i2f (fI s)) (FP.i2f (fI n))) && (decide (0 ≤ qn n 24 s 150 ∧ qn n 24 s 150 < 2147483648) && okF 20 (FP.fdiv (FP.i2f (fI s)) (FP.i2f (fI n))) 0 (qn n 24 s 150))
def allP (n m : Nat) : Bool := (List.range m).all fun s => decide (s < n) || okP s n


theorem allP_1 : allP 1 ((3 + (4096 / 1).log2) * 1 + 1) = true := by decide +kernel

theorem allP_2 : allP 2 ((3 + (4096 / 2).log2) * 2 + 1) = true := by decide +kernel

theorem allP_3 : allP 3 ((3 + (4096 / 3).log2) * 3 + 1) = true := by decide +kernel

theorem allP_4 : allP 4 ((3 + (4096 / 4).log2) * 4 + 1) = true := by decide +kernel

theorem allP_5 : allP 5 ((3 + (4096 / 5).log2) * 5 + 1) = true := by decide +kernel

theorem allP_6 : allP 6 ((3 + (4096 / 6).log2) * 6 + 1) = true := by decide +kernel

theorem allP_7 : allP 7 ((3 + (4096 / 7).log2) * 7 + 1) = true := by decide +kernel

theorem allP_8 : allP 8 ((3 + (4096 / 8).log2) * 8 + 1) = true := by decide +kernel

theorem allP_9 : allP 9 ((3 + (4096 / 9).log2) * 9 + 1) = true := by decide +kernel

theorem allP_10 : allP 10 ((3 + (4096 / 10).log2) * 10 + 1) = true := by decide +kernel

theorem allP_11 : allP 11 ((3 + (4096 / 11).log2) * 11 + 1) = true := by decide +kernel

theorem allP_12 : allP 12 ((3 + (4096 / 12).log2) * 12 + 1) = true := by decide +kernel

theorem allP_13 : allP 13 ((3 + (4096 / 13).log2) * 13 + 1) = true := by decide +kernel

theorem allP_14 : allP 14 ((3 + (4096 / 14).log2) * 14 + 1) = true := by decide +kernel

theorem allP_15 : allP 15 ((3 + (4096 / 15).log2) * 15 + 1) = true := by decide +kernel

theorem allP_16 : allP 16 ((3 + (4096 / 16).log2) * 16 + 1) = true := by decide +kernel

theorem allP_17 : allP 17 ((3 + (4096 / 17).log2) * 17 + 1) = true := by decide +kernel

theorem allP_18 : allP 18 ((3 + (4096 / 18).log2) * 18 + 1) = true := by decide +kernel

theorem allP_19 : allP 19 ((3 + (4096 / 19).log2) * 19 + 1) = true := by decide +kernel

theorem allP_20 : allP 20 ((3 + (4096 / 20).log2) * 20 + 1) = true := by decide +kernel

theorem allP_21 : allP 21 ((3 + (4096 / 21).log2) * 21 + 1) = true := by decide +kernel

theorem allP_22 : allP 22 ((3 + (4096 / 22).log2) * 22 + 1) = true := by decide +kernel

theorem allP_23 : allP 23 ((3 + (4096 / 23).log2) * 23 + 1) = true := by decide +kernel

theorem allP_24 : allP 24 ((3 + (4096 / 24).log2) * 24 + 1) = true := by decide +kernel

theorem allP_25 : allP 25 ((3 + (4096 / 25).log2) * 25 + 1) = true := by decide +kernel

theorem allP_26 : allP 26 ((3 + (4096 / 26).log2) * 26 + 1) = true := by decide +kernel

theorem allP_27 : allP 27 ((3 + (4096 / 27).log2) * 27 + 1) = true := by decide +kernel

theorem allP_28 : allP 28 ((3 + (4096 / 28).log2) * 28 + 1) = true := by decide +kernel

theorem allP_29 : allP 29 ((3 + (4096 / 29).log2) * 29 + 1) = true := by decide +kernel

theorem allP_30 : allP 30 ((3 + (4096 / 30).log2) * 30 + 1) = true := by decide +kernel

theorem allP_31 : allP 31 ((3 + (4096 / 31).log2) * 31 + 1) = true := by decide +kernel

theorem allP_32 : allP 32 ((3 + (4096 / 32).log2) * 32 + 1) = true := by decide +kernel

theorem allP_33 : allP 33 ((3 + (4096 / 33).log2) * 33 + 1) = true := by decide +kernel

theorem allP_34 : allP 34 ((3 + (4096 / 34).log2) * 34 + 1) = true := by decide +kernel

theorem allP_35 : allP 35 ((3 + (4096 / 35).log2) * 35 + 1) = true := by decide +kernel

theorem allP_36 : allP 36 ((3 + (4096 / 36).log2) * 36 + 1) = true := by decide +kernel

theorem allP_37 : allP 37 ((3 + (4096 / 37).log2) * 37 + 1) = true := by decide +kernel

theorem allP_38 : allP 38 ((3 + (4096 / 38).log2) * 38 + 1) = true := by decide +kernel

theorem allP_39 : allP 39 ((3 + (4096 / 39).log2) * 39 + 1) = true := by decide +kernel

theorem allP_40 : allP 40 ((3 + (4096 / 40).log2) * 40 + 1) = true := by decide +kernel

theorem okP_h : ∀ n : Nat, 1 ≤ n → n ≤ 40 → allP n ((3 + (4096 / n).log2) * n + 1) = true
  | 1, _, _ => allP_1
  | 2, _, _ => allP_2
  | 3, _, _ => allP_3
  | 4, _, _ => allP_4
  | 5, _, _ => allP_5
  | 6, _, _ => allP_6
  | 7, _, _ => allP_7
  | 8, _, _ => allP_8
  | 9, _, _ => allP_9
  | 10, _, _ => allP_10
  | 11, _, _ => allP_11
  | 12, _, _ => allP_12
  | 13, _, _ => allP_13
  | 14, _, _ => allP_14
  | 15, _, _ => allP_15
  | 16, _, _ => allP_16
  | 17, _, _ => allP_17
  | 18, _, _ => allP_18
  | 19, _, _ => allP_19
  | 20, _, _ => allP_20
  | 21, _, _ => allP_21
  | 22, _, _ => allP_22
  | 23, _, _ => allP_23
  | 24, _, _ => allP_24
  | 25, _, _ => allP_25
  | 26, _, _ => allP_26
  | 27, _, _ => allP_27
  | 28, _, _ => allP_28
  | 29, _, _ => allP_29
  | 30, _, _ => allP_30
  | 31, _, _ => allP_31
  | 32, _, _ => allP_32
  | 33, _, _ => allP_33
  | 34, _, _ => allP_34
  | 35, _, _ => allP_35
  | 36, _, _ => allP_36
  | 37, _, _ => allP_37
  | 38, _, _ => allP_38
  | 39, _, _ => allP_39
  | 40, _, _ => allP_40
  | 0, h, _ => absurd h (by decide)
  | n + 41, _, h => absurd h (by omega)
theorem okP_all {s n : Int} (h1 : 1 ≤ n) (h2 : n ≤ 40) (h3 : n ≤ s) (h4 : s ≤ ((3 + (4096 / n.toNat).log2 : Nat) : Int) * n) : okP s n = true := by
  have h := okP_h n.toNat (by omega) (by omega)
  have e : (((3 + (4096 / n.toNat).log2) * n.toNat : Nat) : Int) = ((3 + (4096 / n.toNat).log2 : Nat) : Int) * n := by
    rw [Int.natCast_mul, Int.toNat_of_nonneg (by omega)]
  rw [← e] at h4
  unfold allP at h
  have k := List.all_eq_true.mp h s.toNat (List.mem_range.mpr (by omega))
  rw [Bool.or_eq_true] at k
  rcases k with k | k
  · have := of_decide_eq_true k
    omega
  · rwa [Int.toNat_of_nonneg (by omega), Int.toNat_of_nonneg (by omega)] at k

/-! WHAT A STATE IS, AND THE NUMBERS THAT THE METHODS TELL -/
theorem ws_eq (w : rW) (r k v : Int) : wset w r k v r k = v := by simp [wset]
theorem ws_nr {w : rW} {r k v r' k' : Int} (h : r' ≠ r) : wset w r k v r' k' = w r' k' := by unfold wset; rw [if_neg (fun q => h q.1)]
theorem ws_nk {w : rW} {r k v r' k' : Int} (h : k' ≠ k) : wset w r k v r' k' = w r' k' := by unfold wset; rw [if_neg (fun q => h q.2)]
/-- the first numbers that are less, one behind the other -/
def clf (f : Int → Int) (x : Int) : Nat → Int → Int
  | 0, i => i
  | k + 1, i => if f i < x then clf f x k (i + 1) else i
def cl (f : Int → Int) (n x : Int) : Int := clf f x n.toNat 0
theorem clf_spec (f : Int → Int) (x : Int) : ∀ (k : Nat) (i : Int), i ≤ clf f x k i ∧ clf f x k i ≤ i + k ∧ (∀ j, i ≤ j → j < clf f x k i → f j < x) ∧ (clf f x k i < i + k → x ≤ f (clf f x k i))
  | 0, i => ⟨Int.le_refl _, by simp [clf], fun j h1 h2 => by simp [clf] at h2; omega, fun h => by simp [clf] at h⟩
  | k + 1, i => by
    unfold clf
    by_cases h : f i < x
    · rw [if_pos h]
      obtain ⟨h1, h2, h3, h4⟩ := clf_spec f x k (i + 1)
      refine ⟨by omega, by omega, fun j g1 g2 => ?_, fun g => h4 (by omega)⟩
      by_cases e : j = i
      · rw [e]; exact h
      · exact h3 j (by omega) g2
    · rw [if_neg h]
      exact ⟨Int.le_refl _, by omega, fun j g1 g2 => by omega, fun _ => by omega⟩
theorem cl_spec {f : Int → Int} {n x : Int} (hn : 0 ≤ n) : 0 ≤ cl f n x ∧ cl f n x ≤ n ∧ (∀ j, 0 ≤ j → j < cl f n x → f j < x) ∧ (cl f n x < n → x ≤ f (cl f n x)) := by
  obtain ⟨h1, h2, h3, h4⟩ := clf_spec f x n.toNat 0
  exact ⟨h1, by unfold cl; omega, h3, fun g => h4 (by unfold cl at g; omega)⟩
theorem cl_is {f : Int → Int} {n x i : Int} (hi : 0 ≤ i) (hn : i ≤ n) (h1 : ∀ j, 0 ≤ j → j < i → f j < x) (h2 : i < n → x ≤ f i) : cl f n x = i := by
  obtain ⟨g1, g2, g3, g4⟩ := cl_spec (f := f) (n := n) (x := x) (by omega)
  rcases Int.lt_trichotomy (cl f n x) i with q | q | q
  · have := h1 _ g1 q; have := g4 (by omega); omega
  · exact q
  · have := g3 _ hi q; have := h2 (by omega); omega
theorem cl_congr {f g : Int → Int} {n x : Int} (hn : 0 ≤ n) (h : ∀ i, 0 ≤ i → i < n → f i = g i) : cl f n x = cl g n x := by
  obtain ⟨g1, g2, g3, g4⟩ := cl_spec (f := g) (n := n) (x := x) hn
  refine cl_is g1 g2 (fun j h1 h2 => ?_) (fun q => ?_)
  · rw [h j h1 (by omega)]; exact g3 j h1 h2
  · rw [h _ g1 q]; exact g4 q
/-- how many of the first -/
def ct (p : Int → Prop) [DecidablePred p] : Nat → Int
  | 0 => 0
  | k + 1 => ct p k + if p k then 1 else 0
theorem ct_bd (p : Int → Prop) [DecidablePred p] : ∀ k : Nat, 0 ≤ ct p k ∧ ct p k ≤ k
  | 0 => ⟨Int.le_refl _, Int.le_refl _⟩
  | k + 1 => by
    have h := ct_bd p k
    unfold ct
    split <;> omega
theorem ct_s {p : Int → Prop} [DecidablePred p] {i : Int} (hi : 0 ≤ i) : ct p (i + 1).toNat = ct p i.toNat + if p i then 1 else 0 := by
  have h : (i + 1).toNat = i.toNat + 1 := by omega
  rw [h]
  show ct p i.toNat + _ = _
  rw [Int.toNat_of_nonneg hi]
theorem ct_congr {p q : Int → Prop} [DecidablePred p] [DecidablePred q] : ∀ {k : Nat}, (∀ i : Int, 0 ≤ i → i < k → (p i ↔ q i)) → ct p k = ct q k
  | 0, _ => rfl
  | k + 1, h => by
    unfold ct
    rw [ct_congr (fun i h1 h2 => h i h1 (by omega))]
    have e := h k (by omega) (by omega)
    by_cases g : p k
    · rw [if_pos g, if_pos (e.mp g)]
    · rw [if_neg g, if_neg (fun z => g (e.mpr z))]
/-- how many unlike numbers -/
def unl (f : Int → Int) (n : Int) : Int := ct (fun i => i = 0 ∨ ¬ f i = f (i - 1)) n.toNat
/-- the width -/
def wdn (n b : Int) : Nat := if n < 1 then 0 else (b / n).toNat.log2
def wd (n b : Int) : Int := (wdn n b : Int)
def zf (n b : Int) : Int := if n < 1 then (b - 1) / 2 ^ wdn n b else (b - 1) / 2 ^ wdn n b + 1
def szf (n b : Int) : Int := n + zf n b + n * wd n b
theorem p2_pos (k : Nat) : (0 : Int) < 2 ^ k := Int.pow_pos (by decide)
theorem p2_le {a b : Nat} (h : a ≤ b) : (2 : Int) ^ a ≤ 2 ^ b := by
  obtain ⟨c, rfl⟩ := Nat.exists_eq_add_of_le h
  rw [Int.pow_add]
  have h1 := p2_pos a
  have h2 := p2_pos c
  have := Int.mul_le_mul_of_nonneg_left (show (1 : Int) ≤ 2 ^ c by omega) (Int.le_of_lt h1)
  omega
theorem wdn_b {n b : Int} (h0 : 0 ≤ n) (h : b ≤ 4096) : wdn n b ≤ 12 := by
  unfold wdn
  split
  · omega
  · have h1 : (b / n).toNat ≤ 4096 := by
      have : b / n ≤ 4096 := by
        rcases Int.lt_or_le b 0 with q | q
        · have := Int.ediv_neg_of_neg_of_pos q (show 0 < n by omega); omega
        · have := Int.ediv_le_self n q; omega
      omega
    have h2 : (b / n).toNat.log2 < 13 := by
      by_cases z : (b / n).toNat = 0
      · rw [z]; decide
      · exact (Nat.log2_lt z).mpr (by omega)
    omega
theorem wd_is {n b : Int} {k : Nat} (hn : 1 ≤ n) (h1 : k = 0 ∨ (2 : Int) ^ k ≤ b / n) (h2 : b / n < 2 ^ (k + 1)) : wdn n b = k := by
  unfold wdn
  rw [if_neg (by omega)]
  rcases Int.lt_or_le (b / n) 1 with q | q
  · have hz : (b / n).toNat = 0 := by omega
    rcases h1 with h1 | h1
    · rw [hz, h1]; decide
    · have := p2_pos k; omega
  · have hz : (b / n).toNat ≠ 0 := by omega
    have e : ((b / n).toNat : Int) = b / n := Int.toNat_of_nonneg (by omega)
    have h3 : (b / n).toNat < 2 ^ (k + 1) := by
      have : ((b / n).toNat : Int) < ((2 ^ (k + 1) : Nat) : Int) := by rw [e]; push_cast; exact h2
      exact Int.ofNat_lt.mp this
    have h4 : 2 ^ k ≤ (b / n).toNat := by
      have : ((2 ^ k : Nat) : Int) ≤ ((b / n).toNat : Int) := by
        rw [e]; push_cast
        rcases h1 with h1 | h1
        · subst h1; simpa using q
        · exact h1
      exact Int.ofNat_le.mp this
    exact (Nat.log2_eq_iff hz).mpr ⟨h4, h3⟩

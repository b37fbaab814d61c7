/-- what faulty may change -/
def SF (w W : rW) : Prop := (∀ r k, r ≠ 9 → r ≠ 14 → W r k = w r k) ∧ ∀ k, k ≠ 6 → k ≠ 8 → W 9 k = w 9 k
theorem SF.set {w W : rW} {r k v : Int} (h : SF w W) (hr : r = 14 ∨ (r = 9 ∧ (k = 6 ∨ k = 8))) : SF w (wset W r k v) := by
  refine ⟨fun r1 k1 z1 z2 => ?_, fun k1 z1 z2 => ?_⟩
  · show (if r1 = r ∧ k1 = k then v else W r1 k1) = _
    rw [if_neg (by omega)]
    exact h.1 r1 k1 z1 z2
  · show (if 9 = r ∧ k1 = k then v else W 9 k1) = _
    rw [if_neg (by omega)]
    exact h.2 k1 z1 z2
theorem SF.ty {w W : rW} {t : Int} (h : SF w W) (k : TY w t) : TY W t := by
  obtain ⟨k1, k2, k3, k4, k5, k6⟩ := k
  refine ⟨(h.2 5 (by decide) (by decide)).trans k1, (h.2 4 (by decide) (by decide)).trans k2, (h.2 7 (by decide) (by decide)).trans k3, k4, k5, fun i z1 z2 => ?_⟩
  rw [h.1 13 i (by decide) (by decide)]
  exact k6 i z1 z2
/-- the numbers of the text from a place on -/
def nb (g : Int → Int) (t : Int) : Nat → Int → Int → List Int
  | 0, _, _ => []
  | f + 1, v, p => if t ≤ p ∨ chr0 g t p = 44 then v :: nb g t f 0 (p + 1) else nb g t f (10 * v + chr0 g t p - 48) (p + 1)

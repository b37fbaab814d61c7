/-! the first world -/
def wB : rW := fun r k => if r = 0 then (if k = 0 then 1 else if k = 1 then 3 else if k = 2 then 5 else if k = 3 then 7 else 0) else if r = 1 then (if k = 0 then 2 else if k = 2 then 1024 else 0) else if r = 3 then (if k = 0 then 4 else if k = 2 then 1024 else 0) else if r = 5 then (if k = 0 then 6 else 0) else if r = 7 then (if k = 0 then 8 else 0) else if r = 9 then (if k = 0 then 10 else if k = 1 then 11 else if k = 2 then 12 else if k = 4 then 13 else if k = 7 then 14 else if k = 9 then 15 else if k = 11 then 16 else if k = 15 then 17 else 0) else 0
def wA : rW := wset (wset wB 10 1 1024) 10 43 1024
theorem VR_0 {f : Int → Int} {b : Int} : VR f 0 b := ⟨fun i g0 g1 => by omega, fun i j g0 g1 g2 => by omega⟩
theorem inv_A : Inv wA := by
  refine ⟨⟨rfl, rfl, rfl, rfl, rfl, rfl, rfl, rfl, rfl, rfl, rfl, rfl⟩, ⟨1, 3, 0, 1024, 0, 1024, rfl, rfl, Or.inl ⟨rfl, rfl⟩, ?_, ?_⟩, ⟨0, 0, rfl, rfl, rfl, by decide, by decide, by decide, by decide, fun j q g0 g1 => by omega⟩, ⟨0, rfl, rfl, by decide, by decide, fun i g0 g1 => by omega⟩⟩
  · exact ⟨⟨⟨Or.inl rfl, rfl, rfl, rfl, rfl, by decide, by decide, fun i g0 g1 => by omega⟩, rfl, by decide, by decide⟩, ⟨Or.inl rfl, rfl, rfl, rfl, by decide, by decide, by decide, by decide, fun i g0 g1 => by omega⟩, VR_0, fun i g0 g1 => by omega⟩
  · exact ⟨⟨⟨Or.inr rfl, rfl, rfl, rfl, rfl, by decide, by decide, fun i g0 g1 => by omega⟩, rfl, by decide, by decide⟩, ⟨Or.inr rfl, rfl, rfl, rfl, by decide, by decide, by decide, by decide, fun i g0 g1 => by omega⟩, VR_0, fun i g0 g1 => by omega⟩
/-- where the cells lie -/
def adA (h0 h9 b : Nat) (u v : Nat → Nat) : Int → Nat := fun r => if r = 0 then h0 else if r = 9 then h9 else if r = 99 then b else if r ≤ 8 then u r.toNat else v r.toNat
theorem w_84 {cI : ClassId} : (Sum.inl (cI, 84, Sum.inl f84) : va_E) = ar cI 84 wA 10 := by
  have e1 : (Sum.inl (cI, 84, Sum.inl (upd (fun j : Nat => fI (wB 10 j)) (1 : Int).toNat (fI 1024))) : va_E) = ar cI 84 (wset wB 10 1 1024) 10 := ar_self (by decide)
  have e2 : (Sum.inl (cI, 84, Sum.inl (upd (fun j : Nat => fI (wset wB 10 1 1024 10 j)) (43 : Int).toNat (fI 1024))) : va_E) = ar cI 84 wA 10 := ar_self (by decide)
  rw [← e2]
  have e3 : (fun j : Nat => fI (wset wB 10 1 1024 10 j)) = upd (fun _ => 0) (1 : Int32).toNatClampNeg 1024 := by
    funext j
    unfold upd
    by_cases z : j = 1
    · subst z
      rfl
    · rw [show wset wB 10 1 1024 10 (j : Int) = wB 10 j from ws_nk (by omega), show (1 : Int32).toNatClampNeg = 1 from rfl, if_neg z]
      rfl
  rw [e3]
  rfl
theorem w_A {h0 h9 b : Nat} {u v : Nat → Nat} {cI cC : ClassId} : w3 h0 (u, cI) ++ w4 h9 (v, (cI, cC)) = wl (adA h0 h9 b u v) cI cC wA := by
  unfold wl
  rw [← w_84]
  rfl

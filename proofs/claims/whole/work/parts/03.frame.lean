/-- the links to nest mates' members, as a state holds them -/
def nOk (U : State) : Prop := (∀ q ∈ gNF, va_Nw (.fieldLinkNest q.1 q.2.1 q.2.2.1 q.2.2.2.1 q.2.2.2.2.1 q.2.2.2.2.2) U) ∧ (∀ q ∈ gNM, va_Nw (.methodLinkNest q.1 q.2.1 q.2.2.1 q.2.2.2) U)
theorem nOk.warm {s U : State} (hW : s.WarmedH U.vm) (h : nOk s) : nOk U := ⟨fun q hq => va_Nw.warmF hW (h.1 q hq), fun q hq => va_Nw.warmM hW (h.2 q hq)⟩
theorem nOk.same {u U : State} (h : u.vm = U.vm) (hn : nOk u) : nOk U := ⟨fun q hq => va_Nw.same rfl h (hn.1 q hq), fun q hq => va_Nw.same rfl h (hn.2 q hq)⟩
theorem nOk.of {args : Array Value} {s : State} (hts : ∀ w ∈ lw_tbl, w.before args s = true) : nOk s := ⟨fun q hq => va_Nw.of rfl (hts _ (gNF_tbl q hq)), fun q hq => va_Nw.of rfl (hts _ (gNM_tbl q hq))⟩
/-- the words that a call may hand on -/
def gT : List Cond := lw_tbl.filter goodWord
theorem gT_in {w : Cond} (h : w ∈ lw_tbl) (hg : goodWord w = true) : w ∈ gT := List.mem_filter.mpr ⟨h, hg⟩
theorem gT_good : GoodIn gT gT := fun w hw => ⟨hw, good_of_word (List.mem_filter.mp hw).2⟩
theorem gT_u {ws : List Cond} (h : ∀ w ∈ ws, w ∈ lw_tbl) (hg : ws.all goodWord = true) : ∀ w ∈ ws, w ∈ gT := fun w hw => gT_in (h w hw) (List.all_eq_true.mp hg w hw)
theorem gX0 : ∀ w ∈ wsX00, w ∈ gT := gT_u inX0 (by decide +kernel)
theorem gX1 : ∀ w ∈ wsX10, w ∈ gT := gT_u inX1 (by decide +kernel)
theorem gX2 : ∀ w ∈ wsX20, w ∈ gT := gT_u inX2 (by decide +kernel)
theorem gX3 : ∀ w ∈ wsX30, w ∈ gT := gT_u inX3 (by decide +kernel)
theorem gX4 : ∀ w ∈ wsX40, w ∈ gT := gT_u inX4 (by decide +kernel)
/-! THE FRAME: the worlds of this claim as functions of numbers, and one judgement WP over them -/
abbrev rV : Type := Nat × Int
abbrev rW : Type := Int → Int → Int
def vi (a : Int) : rV := (0, a)
def vr (a : Int) : rV := (1, a)
def vl (a : Int) : rV := (2, a)
def vf (a : Int) : rV := (3, a)
def vu : rV := (9, 0)
def fI (a : Int) : Int32 := Int32.ofInt a
def fL (a : Int) : Int64 := Int64.ofInt a
def fF (a : Int) : UInt32 := UInt32.ofNat a.toNat
def cv (ad : Int → Nat) (v : rV) : Value := match v.1 with
  | 0 => .int (fI v.2)
  | 1 => .ref (ad v.2)
  | 2 => .long (fL v.2)
  | _ => .float (fF v.2)
def wset (w : rW) (r k v : Int) : rW := fun r' k' => if r' = r ∧ k' = k then v else w r' k'
def fl (ad : Int → Nat) (w : rW) (r : Int) : Nat → List Value
  | 0 => [.ref (ad (w r 0)), .int (fI (w r 1)), .int (fI (w r 2))]
  | 1 => [.ref (ad (w r 0)), .int (fI (w r 1)), .int (fI (w r 2))]
  | 2 => [.ref (ad (w r 0)), .int (fI (w r 1))]
  | 3 => [.ref (ad (w r 0)), .ref (ad (w r 1)), .ref (ad (w r 2)), .ref (ad (w r 3))]
  | _ => [.ref (ad (w r 0)), .ref (ad (w r 1)), .ref (ad (w r 2)), .int (fI (w r 3)), .ref (ad (w r 4)), .int (fI (w r 5)), .int (fI (w r 6)), .ref (ad (w r 7)), .int (fI (w r 8)), .ref (ad (w r 9)), .int (fI (w r 10)), .ref (ad (w r 11)), .int (fI (w r 12)), .int (fI (w r 13)), .int (fI (w r 14)), .ref (ad (w r 15))]
def ar (c : ClassId) (n : Nat) (w : rW) (r : Int) : va_E := .inl (c, n, .inl (fun j : Nat => fI (w r j)))
def ob (ad : Int → Nat) (w : rW) (r : Int) (ci : Nat) : va_E := .inr (ci, fl ad w r ci)
def wl (ad : Int → Nat) (cI cC : ClassId) (w : rW) : va_W :=
  [(ad 0, ob ad w 0 3), (ad 1, ob ad w 1 1), (ad 2, ar cI 40 w 2), (ad 3, ob ad w 3 1), (ad 4, ar cI 40 w 4), (ad 5, ob ad w 5 0), (ad 6, ar cI 336 w 6), (ad 7, ob ad w 7 2), (ad 8, ar cI 60 w 8),
   (ad 9, ob ad w 9 4), (ad 10, ar cI 84 w 10), (ad 11, ar cI 336 w 11), (ad 12, ar cI 84 w 12), (ad 13, ar cC 60 w 13), (ad 14, ar cI 41 w 14), (ad 15, ar cI 4200 w 15), (ad 16, ar cI 4200 w 16), (ad 17, ar cI 80 w 17)]
/-- the class of an object, by its number -/
def oc (r : Int) : Nat := if r = 0 then 3 else if r = 1 then 1 else if r = 3 then 1 else if r = 5 then 0 else if r = 7 then 2 else if r = 9 then 4 else 99
/-- the length of an array of ints, by its number; 0: none -/
def al (r : Int) : Int := if r = 2 then 40 else if r = 4 then 40 else if r = 6 then 336 else if r = 8 then 60 else if r = 10 then 84 else if r = 11 then 336 else if r = 12 then 84 else if r = 14 then 41 else if r = 15 then 4200 else if r = 16 then 4200 else if r = 17 then 80 else 0
theorem oc_at {ad : Int → Nat} {cI cC : ClassId} {w : rW} {r : Int} {ci : Nat} (h : oc r = ci) (hc : ci ≤ 4) : ∃ q0 : Nat, (wl ad cI cC w)[q0]? = some (ad r, .inr (ci, fl ad w r ci)) := by
  subst h
  unfold oc at hc ⊢
  repeat' split
  all_goals first | (exfalso; simp_all; done) | subst_vars
  · exact ⟨0, rfl⟩
  · exact ⟨1, rfl⟩
  · exact ⟨3, rfl⟩
  · exact ⟨5, rfl⟩
  · exact ⟨7, rfl⟩
  · exact ⟨9, rfl⟩
theorem al_at {ad : Int → Nat} {cI cC : ClassId} {w : rW} {r i : Int} (h0 : 0 ≤ i) (h : i < al r) : ∃ q0 n : Nat, (n : Int) = al r ∧ n < 5000 ∧ (wl ad cI cC w)[q0]? = some (ad r, .inl (cI, n, .inl (fun j : Nat => fI (w r j)))) := by
  unfold al at h ⊢
  repeat' split
  all_goals first | (exfalso; simp_all; omega) | subst_vars
  · exact ⟨2, 40, rfl, by decide, rfl⟩
  · exact ⟨4, 40, rfl, by decide, rfl⟩
  · exact ⟨6, 336, rfl, by decide, rfl⟩
  · exact ⟨8, 60, rfl, by decide, rfl⟩
  · exact ⟨10, 84, rfl, by decide, rfl⟩
  · exact ⟨11, 336, rfl, by decide, rfl⟩
  · exact ⟨12, 84, rfl, by decide, rfl⟩
  · exact ⟨14, 41, rfl, by decide, rfl⟩
  · exact ⟨15, 4200, rfl, by decide, rfl⟩
  · exact ⟨16, 4200, rfl, by decide, rfl⟩
  · exact ⟨17, 80, rfl, by decide, rfl⟩
theorem fl_other {ad : Int → Nat} {w : rW} {r r' k v : Int} {ci : Nat} (h : r' ≠ r) : fl ad (wset w r k v) r' ci = fl ad w r' ci := by
  have e : ∀ j, wset w r k v r' j = w r' j := fun j => by unfold wset; rw [if_neg (fun q => h q.1)]
  unfold fl; split <;> simp only [e]
theorem ar_other {c : ClassId} {n : Nat} {w : rW} {r r' k v : Int} (h : r' ≠ r) : ar c n (wset w r k v) r' = ar c n w r' := by
  have e : ∀ j, wset w r k v r' j = w r' j := fun j => by unfold wset; rw [if_neg (fun q => h q.1)]
  unfold ar; simp only [e]
theorem ob_other {ad : Int → Nat} {w : rW} {r r' k v : Int} {ci : Nat} (h : r' ≠ r) : ob ad (wset w r k v) r' ci = ob ad w r' ci := by
  unfold ob; rw [fl_other h]
theorem ar_self {c : ClassId} {n : Nat} {w : rW} {r k v : Int} (h : 0 ≤ k) : (Sum.inl (c, n, Sum.inl (upd (fun j : Nat => fI (w r j)) k.toNat (fI v))) : va_E) = ar c n (wset w r k v) r := by
  unfold ar
  congr 4
  funext j
  unfold upd wset
  by_cases hj : j = k.toNat
  · have : (j : Int) = k := by omega
    rw [if_pos hj, if_pos ⟨rfl, this⟩]
  · have : ¬ (j : Int) = k := by omega
    rw [if_neg hj, if_neg (fun q => this q.2)]
theorem al_put {ad : Int → Nat} {cI cC : ClassId} {w : rW} {r i : Int} (h0 : 0 ≤ i) (h : i < al r) : ∃ q0 n : Nat, (n : Int) = al r ∧ n < 5000 ∧ (wl ad cI cC w)[q0]? = some (ad r, .inl (cI, n, .inl (fun j : Nat => fI (w r j)))) ∧ ∀ v : Int, (wl ad cI cC w).set q0 (ad r, .inl (cI, n, .inl (upd (fun j : Nat => fI (w r j)) i.toNat (fI v)))) = wl ad cI cC (wset w r i v) := by
  unfold al at h ⊢
  repeat' split
  all_goals first | (exfalso; simp_all; omega) | subst_vars
  · refine ⟨2, 40, rfl, by decide, rfl, fun v => ?_⟩
    rw [ar_self h0]
    simp [wl, ob_other, ar_other]
  · refine ⟨4, 40, rfl, by decide, rfl, fun v => ?_⟩
    rw [ar_self h0]
    simp [wl, ob_other, ar_other]
  · refine ⟨6, 336, rfl, by decide, rfl, fun v => ?_⟩
    rw [ar_self h0]
    simp [wl, ob_other, ar_other]
  · refine ⟨8, 60, rfl, by decide, rfl, fun v => ?_⟩
    rw [ar_self h0]
    simp [wl, ob_other, ar_other]
  · refine ⟨10, 84, rfl, by decide, rfl, fun v => ?_⟩
    rw [ar_self h0]
    simp [wl, ob_other, ar_other]
  · refine ⟨11, 336, rfl, by decide, rfl, fun v => ?_⟩
    rw [ar_self h0]
    simp [wl, ob_other, ar_other]
  · refine ⟨12, 84, rfl, by decide, rfl, fun v => ?_⟩
    rw [ar_self h0]
    simp [wl, ob_other, ar_other]
  · refine ⟨14, 41, rfl, by decide, rfl, fun v => ?_⟩
    rw [ar_self h0]
    simp [wl, ob_other, ar_other]
  · refine ⟨15, 4200, rfl, by decide, rfl, fun v => ?_⟩
    rw [ar_self h0]
    simp [wl, ob_other, ar_other]
  · refine ⟨16, 4200, rfl, by decide, rfl, fun v => ?_⟩
    rw [ar_self h0]
    simp [wl, ob_other, ar_other]
  · refine ⟨17, 80, rfl, by decide, rfl, fun v => ?_⟩
    rw [ar_self h0]
    simp [wl, ob_other, ar_other]
theorem ch_put {ad : Int → Nat} {cI cC : ClassId} {w : rW} {i v : Int} (h0 : 0 ≤ i) : (wl ad cI cC w).set 13 (ad 13, .inl (cC, 60, .inl (upd (fun j : Nat => fI (w 13 j)) i.toNat (fI v)))) = wl ad cI cC (wset w 13 i v) := by
  rw [ar_self h0]
  simp [wl, ob_other, ar_other]
theorem pt_1_1 {ad : Int → Nat} {cI cC : ClassId} {w : rW} {r : Int} (h : oc r = 1) : ∃ q0 : Nat, (wl ad cI cC w)[q0]? = some (ad r, .inr (1, fl ad w r 1)) ∧ ∀ v : Int, (wl ad cI cC w).set q0 (ad r, .inr (1, (fl ad w r 1).set 1 (cv ad (vi v)))) = wl ad cI cC (wset w r 1 v) := by
  unfold oc at h
  repeat' split at h
  all_goals first | (exfalso; simp_all; done) | subst_vars
  · refine ⟨1, rfl, fun v => ?_⟩
    simp [wl, ob_other, ar_other, ob, fl, wset, cv, vi]
  · refine ⟨3, rfl, fun v => ?_⟩
    simp [wl, ob_other, ar_other, ob, fl, wset, cv, vi]
theorem pt_1_2 {ad : Int → Nat} {cI cC : ClassId} {w : rW} {r : Int} (h : oc r = 1) : ∃ q0 : Nat, (wl ad cI cC w)[q0]? = some (ad r, .inr (1, fl ad w r 1)) ∧ ∀ v : Int, (wl ad cI cC w).set q0 (ad r, .inr (1, (fl ad w r 1).set 2 (cv ad (vi v)))) = wl ad cI cC (wset w r 2 v) := by
  unfold oc at h
  repeat' split at h
  all_goals first | (exfalso; simp_all; done) | subst_vars
  · refine ⟨1, rfl, fun v => ?_⟩
    simp [wl, ob_other, ar_other, ob, fl, wset, cv, vi]
  · refine ⟨3, rfl, fun v => ?_⟩
    simp [wl, ob_other, ar_other, ob, fl, wset, cv, vi]
theorem pt_0_1 {ad : Int → Nat} {cI cC : ClassId} {w : rW} {r : Int} (h : oc r = 0) : ∃ q0 : Nat, (wl ad cI cC w)[q0]? = some (ad r, .inr (0, fl ad w r 0)) ∧ ∀ v : Int, (wl ad cI cC w).set q0 (ad r, .inr (0, (fl ad w r 0).set 1 (cv ad (vi v)))) = wl ad cI cC (wset w r 1 v) := by
  unfold oc at h
  repeat' split at h
  all_goals first | (exfalso; simp_all; done) | subst_vars
  · refine ⟨5, rfl, fun v => ?_⟩
    simp [wl, ob_other, ar_other, ob, fl, wset, cv, vi]
theorem pt_0_2 {ad : Int → Nat} {cI cC : ClassId} {w : rW} {r : Int} (h : oc r = 0) : ∃ q0 : Nat, (wl ad cI cC w)[q0]? = some (ad r, .inr (0, fl ad w r 0)) ∧ ∀ v : Int, (wl ad cI cC w).set q0 (ad r, .inr (0, (fl ad w r 0).set 2 (cv ad (vi v)))) = wl ad cI cC (wset w r 2 v) := by
  unfold oc at h
  repeat' split at h
  all_goals first | (exfalso; simp_all; done) | subst_vars
  · refine ⟨5, rfl, fun v => ?_⟩
    simp [wl, ob_other, ar_other, ob, fl, wset, cv, vi]
theorem pt_2_1 {ad : Int → Nat} {cI cC : ClassId} {w : rW} {r : Int} (h : oc r = 2) : ∃ q0 : Nat, (wl ad cI cC w)[q0]? = some (ad r, .inr (2, fl ad w r 2)) ∧ ∀ v : Int, (wl ad cI cC w).set q0 (ad r, .inr (2, (fl ad w r 2).set 1 (cv ad (vi v)))) = wl ad cI cC (wset w r 1 v) := by
  unfold oc at h
  repeat' split at h
  all_goals first | (exfalso; simp_all; done) | subst_vars
  · refine ⟨7, rfl, fun v => ?_⟩
    simp [wl, ob_other, ar_other, ob, fl, wset, cv, vi]
theorem pt_3_0 {ad : Int → Nat} {cI cC : ClassId} {w : rW} {r : Int} (h : oc r = 3) : ∃ q0 : Nat, (wl ad cI cC w)[q0]? = some (ad r, .inr (3, fl ad w r 3)) ∧ ∀ v : Int, (wl ad cI cC w).set q0 (ad r, .inr (3, (fl ad w r 3).set 0 (cv ad (vr v)))) = wl ad cI cC (wset w r 0 v) := by
  unfold oc at h
  repeat' split at h
  all_goals first | (exfalso; simp_all; done) | subst_vars
  · refine ⟨0, rfl, fun v => ?_⟩
    simp [wl, ob_other, ar_other, ob, fl, wset, cv, vr]
theorem pt_3_1 {ad : Int → Nat} {cI cC : ClassId} {w : rW} {r : Int} (h : oc r = 3) : ∃ q0 : Nat, (wl ad cI cC w)[q0]? = some (ad r, .inr (3, fl ad w r 3)) ∧ ∀ v : Int, (wl ad cI cC w).set q0 (ad r, .inr (3, (fl ad w r 3).set 1 (cv ad (vr v)))) = wl ad cI cC (wset w r 1 v) := by
  unfold oc at h
  repeat' split at h
  all_goals first | (exfalso; simp_all; done) | subst_vars
  · refine ⟨0, rfl, fun v => ?_⟩
    simp [wl, ob_other, ar_other, ob, fl, wset, cv, vr]
theorem pt_4_3 {ad : Int → Nat} {cI cC : ClassId} {w : rW} {r : Int} (h : oc r = 4) : ∃ q0 : Nat, (wl ad cI cC w)[q0]? = some (ad r, .inr (4, fl ad w r 4)) ∧ ∀ v : Int, (wl ad cI cC w).set q0 (ad r, .inr (4, (fl ad w r 4).set 3 (cv ad (vi v)))) = wl ad cI cC (wset w r 3 v) := by
  unfold oc at h
  repeat' split at h
  all_goals first | (exfalso; simp_all; done) | subst_vars
  · refine ⟨9, rfl, fun v => ?_⟩
    simp [wl, ob_other, ar_other, ob, fl, wset, cv, vi]
theorem pt_4_5 {ad : Int → Nat} {cI cC : ClassId} {w : rW} {r : Int} (h : oc r = 4) : ∃ q0 : Nat, (wl ad cI cC w)[q0]? = some (ad r, .inr (4, fl ad w r 4)) ∧ ∀ v : Int, (wl ad cI cC w).set q0 (ad r, .inr (4, (fl ad w r 4).set 5 (cv ad (vi v)))) = wl ad cI cC (wset w r 5 v) := by
  unfold oc at h
  repeat' split at h
  all_goals first | (exfalso; simp_all; done) | subst_vars
  · refine ⟨9, rfl, fun v => ?_⟩
    simp [wl, ob_other, ar_other, ob, fl, wset, cv, vi]
theorem pt_4_6 {ad : Int → Nat} {cI cC : ClassId} {w : rW} {r : Int} (h : oc r = 4) : ∃ q0 : Nat, (wl ad cI cC w)[q0]? = some (ad r, .inr (4, fl ad w r 4)) ∧ ∀ v : Int, (wl ad cI cC w).set q0 (ad r, .inr (4, (fl ad w r 4).set 6 (cv ad (vi v)))) = wl ad cI cC (wset w r 6 v) := by
  unfold oc at h
  repeat' split at h
  all_goals first | (exfalso; simp_all; done) | subst_vars
  · refine ⟨9, rfl, fun v => ?_⟩
    simp [wl, ob_other, ar_other, ob, fl, wset, cv, vi]
theorem pt_4_8 {ad : Int → Nat} {cI cC : ClassId} {w : rW} {r : Int} (h : oc r = 4) : ∃ q0 : Nat, (wl ad cI cC w)[q0]? = some (ad r, .inr (4, fl ad w r 4)) ∧ ∀ v : Int, (wl ad cI cC w).set q0 (ad r, .inr (4, (fl ad w r 4).set 8 (cv ad (vi v)))) = wl ad cI cC (wset w r 8 v) := by
  unfold oc at h
  repeat' split at h
  all_goals first | (exfalso; simp_all; done) | subst_vars
  · refine ⟨9, rfl, fun v => ?_⟩
    simp [wl, ob_other, ar_other, ob, fl, wset, cv, vi]
theorem pt_4_10 {ad : Int → Nat} {cI cC : ClassId} {w : rW} {r : Int} (h : oc r = 4) : ∃ q0 : Nat, (wl ad cI cC w)[q0]? = some (ad r, .inr (4, fl ad w r 4)) ∧ ∀ v : Int, (wl ad cI cC w).set q0 (ad r, .inr (4, (fl ad w r 4).set 10 (cv ad (vi v)))) = wl ad cI cC (wset w r 10 v) := by
  unfold oc at h
  repeat' split at h
  all_goals first | (exfalso; simp_all; done) | subst_vars
  · refine ⟨9, rfl, fun v => ?_⟩
    simp [wl, ob_other, ar_other, ob, fl, wset, cv, vi]
theorem pt_4_12 {ad : Int → Nat} {cI cC : ClassId} {w : rW} {r : Int} (h : oc r = 4) : ∃ q0 : Nat, (wl ad cI cC w)[q0]? = some (ad r, .inr (4, fl ad w r 4)) ∧ ∀ v : Int, (wl ad cI cC w).set q0 (ad r, .inr (4, (fl ad w r 4).set 12 (cv ad (vi v)))) = wl ad cI cC (wset w r 12 v) := by
  unfold oc at h
  repeat' split at h
  all_goals first | (exfalso; simp_all; done) | subst_vars
  · refine ⟨9, rfl, fun v => ?_⟩
    simp [wl, ob_other, ar_other, ob, fl, wset, cv, vi]
theorem pt_4_13 {ad : Int → Nat} {cI cC : ClassId} {w : rW} {r : Int} (h : oc r = 4) : ∃ q0 : Nat, (wl ad cI cC w)[q0]? = some (ad r, .inr (4, fl ad w r 4)) ∧ ∀ v : Int, (wl ad cI cC w).set q0 (ad r, .inr (4, (fl ad w r 4).set 13 (cv ad (vi v)))) = wl ad cI cC (wset w r 13 v) := by
  unfold oc at h
  repeat' split at h
  all_goals first | (exfalso; simp_all; done) | subst_vars
  · refine ⟨9, rfl, fun v => ?_⟩
    simp [wl, ob_other, ar_other, ob, fl, wset, cv, vi]
theorem pt_4_14 {ad : Int → Nat} {cI cC : ClassId} {w : rW} {r : Int} (h : oc r = 4) : ∃ q0 : Nat, (wl ad cI cC w)[q0]? = some (ad r, .inr (4, fl ad w r 4)) ∧ ∀ v : Int, (wl ad cI cC w).set q0 (ad r, .inr (4, (fl ad w r 4).set 14 (cv ad (vi v)))) = wl ad cI cC (wset w r 14 v) := by
  unfold oc at h
  repeat' split at h
  all_goals first | (exfalso; simp_all; done) | subst_vars
  · refine ⟨9, rfl, fun v => ?_⟩
    simp [wl, ob_other, ar_other, ob, fl, wset, cv, vi]
/-- the locals -/
def lR (ad : Int → Nat) (nL : Nat) (L : List rV) (ls : Array Slot) : Prop := ls.size = nL ∧ lv_wf ls ∧ ∀ (k : Nat) (v : rV), L[k]? = some v → v.1 < 9 → ls[k]? = some (.val (cv ad v))
def prs (ad : Int → Nat) (L : List rV) : List (Nat × Value) := (L.zipIdx.filter (fun q => decide (q.1.1 < 9))).map (fun q => (q.2, cv ad q.1))
theorem mem_prs {ad : Int → Nat} {L : List rV} {q : Nat × Value} : q ∈ prs ad L ↔ ∃ (k : Nat) (v : rV), L[k]? = some v ∧ v.1 < 9 ∧ q = (k, cv ad v) := by
  unfold prs
  constructor
  · intro h
    obtain ⟨⟨v, k⟩, h1, h2⟩ := List.mem_map.mp h
    obtain ⟨h3, h4⟩ := List.mem_filter.mp h1
    rw [List.mem_zipIdx_iff_getElem?] at h3
    exact ⟨k, v, h3, by simpa using h4, h2.symm⟩
  · rintro ⟨k, v, h1, h2, rfl⟩
    refine List.mem_map.mpr ⟨(v, k), List.mem_filter.mpr ⟨?_, by simpa using h2⟩, rfl⟩
    rw [List.mem_zipIdx_iff_getElem?]
    exact h1
theorem lR.has {ad : Int → Nat} {nL : Nat} {L : List rV} {ls : Array Slot} (h : lR ad nL L ls) : lv_has ls nL (prs ad L) := by
  refine ⟨h.1, h.2.1, fun q hq => ?_⟩
  obtain ⟨k, v, h1, h2, rfl⟩ := mem_prs.mp hq
  exact h.2.2 k v h1 h2
theorem cv_cat {ad : Int → Nat} {v : rV} (h : (cv ad v).category = 2) : v.1 = 2 := by
  obtain ⟨t, a⟩ := v
  unfold cv at h
  split at h <;> simp_all [Value.category]
/-- no long stands right ahead of the place k -/
def nlb (L : List rV) (k : Nat) : Bool := match k with
  | 0 => true
  | j + 1 => match L[j]? with
    | some v => v.1 != 2
    | none => true
theorem nlb_at {L : List rV} {k j : Nat} {v : rV} (h : nlb L k = true) (hj : j + 1 = k) (hv : L[j]? = some v) : v.1 ≠ 2 := by
  subst hj
  simp [nlb, hv] at h
  exact h
theorem lR.st1 {ad : Int → Nat} {nL i : Nat} {L : List rV} {x : rV} {ls' : Array Slot} (hk : nlb L i = true) (h : lv_has ls' nL ((i, cv ad x) :: (prs ad L).filter (fun q => !(q.1 == i) && !(q.1 + 1 == i && q.2.category == 2)))) : lR ad nL (L.set i x) ls' := by
  refine ⟨h.1, h.2.1, fun k v hv hv9 => ?_⟩
  by_cases e : k = i
  · subst e
    have hl : k < L.length := by
      have := (List.getElem?_eq_some_iff.mp hv).1
      simpa using this
    rw [List.getElem?_set_self hl] at hv
    cases hv
    exact h.2.2 _ List.mem_cons_self
  · rw [List.getElem?_set_ne (Ne.symm e)] at hv
    refine h.2.2 (k, cv ad v) (List.mem_cons_of_mem _ (List.mem_filter.mpr ⟨mem_prs.mpr ⟨k, v, hv, hv9, rfl⟩, ?_⟩))
    simp only [Bool.and_eq_true, Bool.not_eq_true', beq_eq_false_iff_ne, ne_eq, Bool.and_eq_false_iff]
    refine ⟨e, ?_⟩
    by_cases e2 : k + 1 = i
    · exact Or.inr (fun q => nlb_at hk e2 hv (cv_cat q))
    · exact Or.inl e2
theorem lR.st2 {ad : Int → Nat} {nL i : Nat} {L : List rV} {x : rV} {ls' : Array Slot} (hk : nlb L i = true) (h : lv_has ls' nL ((i, cv ad x) :: (prs ad L).filter (fun q => !(q.1 == i) && (!(q.1 == i + 1) && !(q.1 + 1 == i && q.2.category == 2))))) : lR ad nL ((L.set i x).set (i + 1) vu) ls' := by
  refine ⟨h.1, h.2.1, fun k v hv hv9 => ?_⟩
  by_cases e1 : k = i + 1
  · subst e1
    by_cases hl : i + 1 < (L.set i x).length
    · rw [List.getElem?_set_self hl] at hv
      cases hv
      exact absurd hv9 (by decide)
    · have := (List.getElem?_eq_some_iff.mp hv).1
      simp at this hl
      omega
  rw [List.getElem?_set_ne (Ne.symm e1)] at hv
  by_cases e : k = i
  · subst e
    have hl : k < L.length := by
      have := (List.getElem?_eq_some_iff.mp hv).1
      simpa using this
    rw [List.getElem?_set_self hl] at hv
    cases hv
    exact h.2.2 _ List.mem_cons_self
  · rw [List.getElem?_set_ne (Ne.symm e)] at hv
    refine h.2.2 (k, cv ad v) (List.mem_cons_of_mem _ (List.mem_filter.mpr ⟨mem_prs.mpr ⟨k, v, hv, hv9, rfl⟩, ?_⟩))
    simp only [Bool.and_eq_true, Bool.not_eq_true', beq_eq_false_iff_ne, ne_eq, Bool.and_eq_false_iff]
    refine ⟨e, e1, ?_⟩
    by_cases e2 : k + 1 = i
    · exact Or.inr (fun q => nlb_at hk e2 hv (cv_cat q))
    · exact Or.inl e2
theorem lR.forget {ad : Int → Nat} {nL : Nat} {L L' : List rV} {ls : Array Slot} (h : lR ad nL L ls) (hf : ∀ (k : Nat) (v : rV), L'[k]? = some v → v.1 < 9 → L[k]? = some v) : lR ad nL L' ls :=
  ⟨h.1, h.2.1, fun k v hv h9 => h.2.2 k v (hf k v hv h9) h9⟩
/-- a method: its name, bytes, locals, what it returns, its room's frames and locals -/
abbrev MI : Type := MethodName × ByteArray × Nat × Option FieldType × Nat × Nat
abbrev mN (μ : MI) : MethodName := μ.1
abbrev mB (μ : MI) : ByteArray := μ.2.1
abbrev mL (μ : MI) : Nat := μ.2.2.1
abbrev mR (μ : MI) : Option FieldType := μ.2.2.2.1
abbrev mF (μ : MI) : Nat := μ.2.2.2.2.1
abbrev mO (μ : MI) : Nat := μ.2.2.2.2.2
/-- what a method may answer, and the instruction that answers it -/
def rEnd (μ : MI) (pc : Nat) (v : List rV) : Prop :=
  (mR μ = none ∧ v = [] ∧ decode (mB μ) pc = .ok (.return_, 1)) ∨ (mR μ = some .int ∧ (∃ a, v = [vi a]) ∧ decode (mB μ) pc = .ok (.ireturn, 1)) ∨ (mR μ = some .boolean ∧ (v = [vi 0] ∨ v = [vi 1]) ∧ decode (mB μ) pc = .ok (.ireturn, 1)) ∨
  (mR μ = some .long ∧ (∃ a, v = [vl a]) ∧ decode (mB μ) pc = .ok (.lreturn, 1)) ∨ ((∃ C, mR μ = some (.object C)) ∧ (∃ a, v = [vr a]) ∧ decode (mB μ) pc = .ok (.areturn, 1))
abbrev Tys (cI cC : ClassId) : List (ClassId × FieldType) := [(cI, .int), (cC, .char)]
def Cx (μ : MI) (p : Program) (R : Room) (s : State) (m : MethodId) (args : Array Value) (c : Code) (D : va_G) (cI cC : ClassId) (A : Nat → Prop) (H0 : Heap) : Prop :=
  p.tables.exec = Jvm.exec ∧ c.code = mB μ ∧ c.maxLocals = mL μ ∧ s.vm.findClass (mN μ).cls = some m.cls ∧ (∀ w ∈ gT, w.before args s = true) ∧ mF μ ≤ R.frames ∧ mO μ ≤ R.locals ∧ va_K D vwCl (Tys cI cC) s ∧ (∀ q : Nat, H0.size ≤ q → A q) ∧ nOk s
def WP (μ : MI) (pc : Nat) (L st : List rV) (w : rW) (Q : List rV → rW → Prop) : Prop :=
  ∀ (p : Program) (l : Launch) (e : Env) (R : Room) (s : State) (m : MethodId) (args : Array Value) (below : List Frame) (meth : Method) (c : Code) (D : va_G) (cI cC : ClassId) (A : Nat → Prop) (H0 : Heap) (ad : Int → Nat) (ls : Array Slot) (H : Heap) (locs : List Loc) (cells slots : Nat) (QQ : State → Prop),
    Cx μ p R s m args c D cI cC A H0 → cells ≤ R.cells → slots ≤ R.slots → va_P D vwCl (wl ad cI cC w) H → va_D A (wl ad cI cC w) → va_S A H0 H locs → lR ad (mL μ) L ls →
    (∀ (v : List rV) (w' : rW) (pc' : Nat) (H' : Heap) (locs' : List Loc) (ls' : Array Slot), Q v w' → rEnd μ pc' v → va_P D vwCl (wl ad cI cC w') H' → va_D A (wl ad cI cC w') → va_S A H0 H' locs' → W p l e R s m args below meth c H' locs' cells slots QQ (F0 m pc' ls' (v.map (cv ad)))) →
    W p l e R s m args below meth c H locs cells slots QQ (F0 m pc ls (st.map (cv ad)))

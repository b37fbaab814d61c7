/-- a method's words: its own code, and all that the tables say -/
abbrev wsT (μ : MI) : List Cond := .code (mN μ) (mB μ) (mL μ) (mR μ) :: gT
theorem wsT_good {μ : MI} (h : Cond.code (mN μ) (mB μ) (mL μ) (mR μ) ∈ gT) : GoodIn gT (wsT μ) := fun w hw => by
  rcases List.mem_cons.mp hw with rfl | hw
  · exact gT_good _ h
  · exact gT_good _ hw
abbrev rmT (μ : MI) : Room := { frames := mF μ, cells := 0, slots := 0, locals := mO μ }
abbrev PcT (D : va_G) (cI cC : ClassId) (ad : Int → Nat) (w : rW) (av : List rV) (sz : Nat) : Array Value → State → Prop :=
  va_Pc (av.map (cv ad)) (fun U => U.heap.size = sz ∧ va_P D vwCl (wl ad cI cC w) U.heap ∧ va_K D vwCl (Tys cI cC) U ∧ va_D (fun _ => True) (wl ad cI cC w) ∧ nOk U)
def QcT (D : va_G) (cI cC : ClassId) (ad : Int → Nat) (Q : List rV → rW → Prop) (A : Nat → Prop) : Array Value → State → Outcome → State → Prop := fun _ st o t =>
  (∃ (v : List rV) (w' : rW), o = .returned (v.head?.map (cv ad)) ∧ v.length ≤ 1 ∧ Q v w' ∧ va_P D vwCl (wl ad cI cC w') t.heap ∧ va_D A (wl ad cI cC w')) ∧ va_F A st t
theorem lR.entry {ad : Int → Nat} {nL : Nat} {av : List rV} {L : List rV} (hlen : (lg_sl (av.map (cv ad))).length ≤ nL) (hL : ∀ (k : Nat) (v : rV), L[k]? = some v → v.1 < 9 → (k, cv ad v) ∈ lv_args 0 (av.map (cv ad))) :
    lR ad nL L ((lg_sl (av.map (cv ad)) ++ List.replicate (nL - (lg_sl (av.map (cv ad))).length) Slot.unset).toArray) := by
  have h := lv_entry (av.map (cv ad)) hlen
  exact ⟨h.1, h.2.1, fun k v hv h9 => h.2.2 _ (hL k v hv h9)⟩
theorem PcT.blind {D : va_G} {cI cC : ClassId} {ad : Int → Nat} {w : rW} {av : List rV} {sz : Nat} : FrameBlind (PcT D cI cC ad w av sz) := by
  intro a U g mk q
  obtain ⟨q0, q1, qP, qK, qD, qN⟩ := q
  exact ⟨q0, q1, qP, va_K.moved (u := U) (U := U.calling g mk a) (Vm.Alike.refl U.vm) qK, qD, qN.same rfl⟩
set_option maxHeartbeats 1000000 in
/-- a walk of a method's body is its contract -/
theorem met_of {μ : MI} {w : rW} {Q : List rV → rW → Prop} {av L : List rV} (hy : plainName (mN μ).cls = true) (hWP : WP μ 0 L [] w Q)
    (l : Launch) (D : va_G) (cI cC : ClassId) (ad : Int → Nat) (sz : Nat) (hlen : (lg_sl (av.map (cv ad))).length ≤ mL μ) (hL : ∀ (k : Nat) (v : rV), L[k]? = some v → v.1 < 9 → (k, cv ad v) ∈ lv_args 0 (av.map (cv ad))) :
    Met l (mN μ) (wsT μ) (rmT μ) (PcT D cI cC ad w av sz) (QcT D cI cC ad Q (va_A (wl ad cI cC w) sz)) 0 0 (va_A (wl ad cI cC w) sz) := by
  refine Met.ofW (cc := mB μ) (maxL := mL μ) (ret := mR μ) hy rfl ?_
  intro p e s m args below meth c s₁ B hml hv
  obtain ⟨rfl, hsz, hP, hK, hD0, hN⟩ := hv
  have hx := B.exec
  have hb := B.bytes
  have hr := B.returns
  have hts := atoms_spec (ws := wsT μ) B.pre
  have hown : s.vm.findClass (mN μ).cls = some m.cls := findClass_of_methodNamed B.named
  have hlocks := B.notSynchronized
  subst hsz
  have hD := hD0.self (sz := s.heap.size)
  have hA : ∀ q : Nat, s.heap.size ≤ q → (va_A (wl ad cI cC w) s.heap.size) q := fun q h => Or.inr h
  generalize hAe : va_A (wl ad cI cC w) s.heap.size = A at hD hA ⊢
  have hS : va_S A s.heap s.heap [] := va_S.rf
  rw [lg_entry_eq]
  refine hWP p l e _ s m _ below meth c D cI cC A s.heap ad _ s.heap [] 0 0 _ ⟨hx, hb, hml, hown, fun w hw => hts w (List.mem_cons_of_mem _ hw), Nat.le_refl _, Nat.le_refl _, hK, hA, hN⟩ (Nat.zero_le _) (Nat.zero_le _) hP hD hS (lR.entry hlen hL) ?_
  intro v w' pc' H' locs' ls' hq hend hP' hD' hS'
  rcases hend with ⟨h1, rfl, h3⟩ | ⟨h1, ⟨a, rfl⟩, h3⟩ | ⟨h1, h2, h3⟩ | ⟨h1, ⟨a, rfl⟩, h3⟩ | ⟨⟨C, h1⟩, ⟨a, rfl⟩, h3⟩
  · exact W.vret hx hb (hr.trans h1) (fun t ht hW => ⟨⟨_, w', rfl, by decide, hq, by rw [ht]; exact hP', hD'⟩, hS'.F ht⟩) hS'.2.2 h3
  · exact W.iret (v := fI a) hx hb (hr.trans h1) (fun t ht hW => ⟨⟨_, w', rfl, by simp, hq, by rw [ht]; exact hP', hD'⟩, hS'.F ht⟩) hS'.2.2 h3
  · rcases h2 with rfl | rfl
    · exact W.zret (v := fI 0) hx hb (hr.trans h1) (by decide) (fun t ht hW => ⟨⟨_, w', rfl, by simp, hq, by rw [ht]; exact hP', hD'⟩, hS'.F ht⟩) hS'.2.2 h3
    · exact W.zret (v := fI 1) hx hb (hr.trans h1) (by decide) (fun t ht hW => ⟨⟨_, w', rfl, by simp, hq, by rw [ht]; exact hP', hD'⟩, hS'.F ht⟩) hS'.2.2 h3
  · exact W.lret (v := fL a) hx hb (hr.trans h1) (fun t ht hW => ⟨⟨_, w', rfl, by simp, hq, by rw [ht]; exact hP', hD'⟩, hS'.F ht⟩) hS'.2.2 h3
  · exact W.aret (v := .ref (ad a)) hx hb (hr.trans h1) (Or.inl ⟨C, rfl⟩) (Or.inr ⟨_, rfl⟩) (fun t ht hW => ⟨⟨_, w', rfl, by simp, hq, by rw [ht]; exact hP', hD'⟩, hS'.F ht⟩) hS'.2.2 h3
section QCALL
variable {p : Program} {l : Launch} {e : Env} {R : Room} {s : State} {m : MethodId} {args : Array Value} {below : List Frame} {meth : Method} {c : Code} {H : Heap} {locs : List Loc} {cells slots : Nat} {QQ : State → Prop}
variable {D : va_G} {cI cC : ClassId} {A : Nat → Prop} {H0 : Heap} {ad : Int → Nat}
theorem call_W {w : rW} {Q : List rV → rW → Prop} {pc : Nat} {ls : Array Slot} {rest st0 : List Value} {a : Array Value} (hD : va_D A (wl ad cI cC w)) (hS : va_S A H0 H locs) (hA : ∀ q, H0.size ≤ q → A q)
    (hr : va_Run p l e R s m args below meth c H locs cells slots 0 0 (F0 m pc ls st0) rest (QcT D cI cC ad Q (va_A (wl ad cI cC w) H.size) a) (va_A (wl ad cI cC w) H.size))
    (kk : ∀ (v : List rV) (w' : rW) (H1 : Heap) (locs1 : List Loc), Q v w' → va_P D vwCl (wl ad cI cC w') H1 → va_D A (wl ad cI cC w') → va_S A H0 H1 locs1 → W p l e R s m args below meth c H1 locs1 cells slots QQ (F0 m (pc + 3) ls (v.map (cv ad) ++ rest))) :
    W p l e R s m args below meth c H locs cells slots QQ (F0 m pc ls st0) := by
  have hF : ∀ q, va_A (wl ad cI cC w) H.size q → A q := fun q h => by
    rcases h with ⟨k, e, h⟩ | h
    · exact hD.2 k _ h
    · exact hA q (Nat.le_trans hS.1 h)
  intro T hT X
  obtain ⟨v, st₀, t, T', L, h0, X', hL, e1, e2, ⟨⟨v', w', hv, hv1, hq, hP1, hD1⟩, hz, hk⟩, st⟩ := hr T hT X
  cases hv
  rw [h0] at hz hk
  have hst : (Option.map (cv ad) v'.head?).toList ++ rest = v'.map (cv ad) ++ rest := by
    match v', hv1 with
    | [], _ => rfl
    | [x], _ => rfl
  rw [hst] at st
  obtain ⟨t2, a1, b1⟩ := kk v' w' T'.heap (locs ++ L) hq (by rw [e1]; exact hP1) (hD1.weaken (fun _ _ _ h => hF _ h))
    ⟨Nat.le_trans hS.1 (by rw [e1]; exact hz), fun q h1 h2 => by rw [e1, hk q (Nat.lt_of_lt_of_le h1 hS.1) (fun z => h2 (hF q z))]; exact hS.2.1 q h1 h2, fun q hq => by
      rcases List.mem_append.mp hq with h | h
      · exact hS.2.2 q h
      · exact hF _ (hL q h)⟩ T' rfl X'
  exact ⟨t2, st t2 a1, b1⟩
end QCALL

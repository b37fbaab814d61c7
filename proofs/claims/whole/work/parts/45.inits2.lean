theorem n_2 : Cond.initialized RX1 ∈ gT := gT_in (List.mem_append_right _ (List.mem_of_getElem? (i := 2) (by decide +kernel))) rfl
theorem n_3 : Cond.initialized RX0 ∈ gT := gT_in (List.mem_append_right _ (List.mem_of_getElem? (i := 3) (by decide +kernel))) rfl
theorem n_4 : Cond.initialized RX2 ∈ gT := gT_in (List.mem_append_right _ (List.mem_of_getElem? (i := 4) (by decide +kernel))) rfl
theorem n_12 : Cond.methodLink RX3 3 objectInit ∈ gT := gT_in (List.mem_append_right _ (List.mem_of_getElem? (i := 12) (by decide +kernel))) rfl
theorem n_15 : Cond.classLink RX3 9 RX1 ∈ gT := gT_in (List.mem_append_right _ (List.mem_of_getElem? (i := 15) (by decide +kernel))) rfl
theorem n_16 : Cond.instantiable RX1 3 ∈ gT := gT_in (List.mem_append_right _ (List.mem_of_getElem? (i := 16) (by decide +kernel))) rfl
theorem n_18 : Cond.instanceMethod yX1_init ∈ gT := gT_in (List.mem_append_right _ (List.mem_of_getElem? (i := 18) (by decide +kernel))) rfl
theorem n_19 : Cond.code yX1_init cX1_init 1 none ∈ gT := gT_in (List.mem_append_right _ (List.mem_of_getElem? (i := 19) (by decide +kernel))) rfl
theorem n_35 : Cond.classLink RX3 19 RX0 ∈ gT := gT_in (List.mem_append_right _ (List.mem_of_getElem? (i := 35) (by decide +kernel))) rfl
theorem n_36 : Cond.instantiable RX0 3 ∈ gT := gT_in (List.mem_append_right _ (List.mem_of_getElem? (i := 36) (by decide +kernel))) rfl
theorem n_38 : Cond.instanceMethod yX0_init ∈ gT := gT_in (List.mem_append_right _ (List.mem_of_getElem? (i := 38) (by decide +kernel))) rfl
theorem n_39 : Cond.code yX0_init cX0_init 1 none ∈ gT := gT_in (List.mem_append_right _ (List.mem_of_getElem? (i := 39) (by decide +kernel))) rfl
theorem n_52 : Cond.classLink RX3 26 RX2 ∈ gT := gT_in (List.mem_append_right _ (List.mem_of_getElem? (i := 52) (by decide +kernel))) rfl
theorem n_53 : Cond.instantiable RX2 2 ∈ gT := gT_in (List.mem_append_right _ (List.mem_of_getElem? (i := 53) (by decide +kernel))) rfl
theorem n_55 : Cond.instanceMethod yX2_init ∈ gT := gT_in (List.mem_append_right _ (List.mem_of_getElem? (i := 55) (by decide +kernel))) rfl
theorem n_56 : Cond.code yX2_init cX2_init 1 none ∈ gT := gT_in (List.mem_append_right _ (List.mem_of_getElem? (i := 56) (by decide +kernel))) rfl
theorem n_66 : Cond.fieldLink RX3 12 "RisingParts" "first" "LRisingParts$Row;" ∈ gT := gT_in (List.mem_append_right _ (List.mem_of_getElem? (i := 66) (by decide +kernel))) rfl
theorem n_67 : Cond.fieldLink RX3 16 "RisingParts" "second" "LRisingParts$Row;" ∈ gT := gT_in (List.mem_append_right _ (List.mem_of_getElem? (i := 67) (by decide +kernel))) rfl
theorem n_68 : Cond.fieldLink RX3 22 "RisingParts" "history" "LRisingParts$History;" ∈ gT := gT_in (List.mem_append_right _ (List.mem_of_getElem? (i := 68) (by decide +kernel))) rfl
theorem n_69 : Cond.fieldLink RX3 29 "RisingParts" "text" "LRisingParts$Text;" ∈ gT := gT_in (List.mem_append_right _ (List.mem_of_getElem? (i := 69) (by decide +kernel))) rfl
theorem n_412 : Cond.methodLink RX4 1 objectInit ∈ gT := gT_in (List.mem_append_right _ (List.mem_of_getElem? (i := 412) (by decide +kernel))) rfl
theorem n_413 : Cond.fieldLink RX4 7 "RisingPartsModel" "s" "[I" ∈ gT := gT_in (List.mem_append_right _ (List.mem_of_getElem? (i := 413) (by decide +kernel))) rfl
theorem n_414 : Cond.fieldLink RX4 13 "RisingPartsModel" "was" "[I" ∈ gT := gT_in (List.mem_append_right _ (List.mem_of_getElem? (i := 414) (by decide +kernel))) rfl
theorem n_415 : Cond.fieldLink RX4 16 "RisingPartsModel" "begun" "[I" ∈ gT := gT_in (List.mem_append_right _ (List.mem_of_getElem? (i := 415) (by decide +kernel))) rfl
theorem n_417 : Cond.fieldLink RX4 19 "RisingPartsModel" "text" "[C" ∈ gT := gT_in (List.mem_append_right _ (List.mem_of_getElem? (i := 417) (by decide +kernel))) rfl
theorem n_420 : Cond.fieldLink RX4 23 "RisingPartsModel" "listed" "[I" ∈ gT := gT_in (List.mem_append_right _ (List.mem_of_getElem? (i := 420) (by decide +kernel))) rfl
theorem n_422 : Cond.fieldLink RX4 26 "RisingPartsModel" "upper" "[I" ∈ gT := gT_in (List.mem_append_right _ (List.mem_of_getElem? (i := 422) (by decide +kernel))) rfl
theorem n_424 : Cond.fieldLink RX4 29 "RisingPartsModel" "zero" "[I" ∈ gT := gT_in (List.mem_append_right _ (List.mem_of_getElem? (i := 424) (by decide +kernel))) rfl
theorem n_428 : Cond.fieldLink RX4 32 "RisingPartsModel" "joined" "[I" ∈ gT := gT_in (List.mem_append_right _ (List.mem_of_getElem? (i := 428) (by decide +kernel))) rfl
/-- the links to the nest mates' constructors -/
def nIn (U : State) : Prop := va_Nw (.methodLinkNest RX3 11 yX1_init "RisingParts") U ∧ va_Nw (.methodLinkNest RX3 21 yX0_init "RisingParts") U ∧ va_Nw (.methodLinkNest RX3 28 yX2_init "RisingParts") U
theorem nIn.warm {s U : State} (hW : s.WarmedH U.vm) (h : nIn s) : nIn U := ⟨va_Nw.warmM hW h.1, va_Nw.warmM hW h.2.1, va_Nw.warmM hW h.2.2⟩
theorem nIn.same {u U : State} (h : u.vm = U.vm) (hn : nIn u) : nIn U := ⟨va_Nw.same rfl h hn.1, va_Nw.same rfl h hn.2.1, va_Nw.same rfl h hn.2.2⟩
theorem nIn.of {args : Array Value} {s : State} (hts : ∀ w ∈ lw_tbl, w.before args s = true) : nIn s := ⟨va_Nw.of rfl (hts _ (List.mem_append_right _ (List.mem_of_getElem? (i := 17) (by decide +kernel)))), va_Nw.of rfl (hts _ (List.mem_append_right _ (List.mem_of_getElem? (i := 37) (by decide +kernel)))), va_Nw.of rfl (hts _ (List.mem_append_right _ (List.mem_of_getElem? (i := 54) (by decide +kernel))))⟩
/-- the class's objects, made -/
def w3 (h0 : Nat) (u : (Nat → Nat) × ClassId) : va_W := [(h0, .inr (3, [.ref (u.1 1), .ref (u.1 3), .ref (u.1 5), .ref (u.1 7)])), (u.1 1, .inr (1, [.ref (u.1 2), .int 0, .int 1024])), (u.1 2, .inl (u.2, 40, .inl (fun _ => 0))), (u.1 3, .inr (1, [.ref (u.1 4), .int 0, .int 1024])), (u.1 4, .inl (u.2, 40, .inl (fun _ => 0))), (u.1 5, .inr (0, [.ref (u.1 6), .int 0, .int 0])), (u.1 6, .inl (u.2, 336, .inl (fun _ => 0))), (u.1 7, .inr (2, [.ref (u.1 8), .int 0])), (u.1 8, .inl (u.2, 60, .inl (fun _ => 0)))]
/-- the reference's first row of numbers -/
def f84 : Nat → Int32 := upd (upd (fun _ => 0) (1 : Int32).toNatClampNeg 1024) (43 : Int32).toNatClampNeg 1024
/-- the reference, made -/
def w4 (h0 : Nat) (u : (Nat → Nat) × (ClassId × ClassId)) : va_W := [(h0, .inr (4, [.ref (u.1 10), .ref (u.1 11), .ref (u.1 12), .int 0, .ref (u.1 13), .int 0, .int 0, .ref (u.1 14), .int 0, .ref (u.1 15), .int 0, .ref (u.1 16), .int 0, .int 0, .int 0, .ref (u.1 17)])), (u.1 10, .inl (u.2.1, 84, .inl f84)), (u.1 11, .inl (u.2.1, 336, .inl (fun _ => 0))), (u.1 12, .inl (u.2.1, 84, .inl (fun _ => 0))), (u.1 13, .inl (u.2.2, 60, .inl (fun _ => 0))), (u.1 14, .inl (u.2.1, 41, .inl (fun _ => 0))), (u.1 15, .inl (u.2.1, 4200, .inl (fun _ => 0))), (u.1 16, .inl (u.2.1, 4200, .inl (fun _ => 0))), (u.1 17, .inl (u.2.1, 80, .inl (fun _ => 0)))]

set_option maxHeartbeats 4000000 in
set_option maxRecDepth 100000 in
theorem c_X3_init (l : Launch) (D : va_G) (h0 sz : Nat) : Met l yX3_init (wsC yX3_init cX3_init) ({ frames := 2, cells := 8, slots := 487, locals := 32 }) (va_Pc [.ref h0] (fun U => U.heap.size = sz ∧ va_P D vwCl [(h0, .inr (3, [.null, .null, .null, .null]))] U.heap ∧ va_K D vwCl [] U ∧ va_D (fun _ => True) [(h0, .inr (3, [.null, .null, .null, .null]))] ∧ nIn U)) (va_Qv (fun _ : (Nat → Nat) × ClassId => True) (fun (u : (Nat → Nat) × ClassId) t => va_P D vwCl (w3 h0 u) t.heap ∧ va_K D vwCl [(u.2, .int)] t ∧ va_D (va_A [(h0, .inr (3, [.null, .null, .null, .null]))] sz) (w3 h0 u)) (va_A [(h0, .inr (3, [.null, .null, .null, .null]))] sz)) 8 487 (va_A [(h0, .inr (3, [.null, .null, .null, .null]))] sz) := by
  refine Met.ofW (cc := cX3_init) (maxL := 1) (ret := none) (by decide) rfl ?_
  intro p e s m args below meth c s₁ B hml hv
  obtain ⟨rfl, hsz, hP, hK, hD0, hN⟩ := hv
  have hx := B.exec
  have hb := B.bytes
  have hr := B.returns
  have hts0 := atoms_spec (ws := wsC yX3_init cX3_init) B.pre
  have hts := fun w (hw : w ∈ gT) => hts0 w (List.mem_cons_of_mem _ hw)
  have hown : s.vm.findClass RX3 = some m.cls := findClass_of_methodNamed B.named
  have hlocks := B.notSynchronized
  have hin : meth.name = "<init>" := (name_of_methodNamed B.named B.method).1
  subst hsz
  have hD := hD0.self (sz := s.heap.size)
  generalize hAe : va_A [(h0, .inr (3, [.null, .null, .null, .null]))] s.heap.size = A at hD ⊢
  have hA : ∀ q : Nat, s.heap.size ≤ q → A q := fun q h => by rw [← hAe]; exact Or.inr h
  have hS : va_S A s.heap s.heap [] := va_S.rf
  have hP : va_P D vwCl [(h0, .inr (3, [.null, .null, .null, .null]))] s.heap := hP
  have hl := lv_entry ([.ref h0]) (n := 1) (Nat.le_of_ble_eq_true rfl)
  rw [lg_entry_eq]
  generalize (lg_sl ([.ref h0]) ++ List.replicate (1 - (lg_sl ([.ref h0])).length) Slot.unset).toArray = ls at hl ⊢
  have hl : lv_has ls 1 [(0, .ref h0)] := hl
  refine lv_aload_n hx hb dX3_init_0 rfl (lv_at hl 0 rfl) ?_
  refine W.objInit hx hb hown (hts _ n_12) (hts _ n_13) (hts _ n_14) rfl (by rw [hml]; exact hl.1) rfl dX3_init_1 (Nat.le_of_ble_eq_true rfl) (Nat.le_of_ble_eq_true rfl) ?_
  refine W.eq (g2 := F0 m 4 ls []) rfl ?_
  refine lv_aload_n hx hb dX3_init_4 rfl (lv_at hl 0 rfl) ?_
  refine va_new (ci := 1) (fs := [.null, .int 0, .int 0]) (C := RX1) (T := TX1) (N := 3) hx hb hts gX1 tyX1 tyX1_ok hown (hts _ n_15) (hts _ n_16) (hts _ n_2) hK hP hD hS hA rfl (fun j hj => by rcases (show j = 0 ∨ j = 1 ∨ j = 2 by omega) with rfl | rfl | rfl <;> rfl) (Nat.le_of_ble_eq_true rfl) (Nat.le_of_ble_eq_true rfl) dX3_init_5 (fun q1 H hP hD hS => ?_)
  have hP : va_P D vwCl [(h0, .inr (3, [.null, .null, .null, .null])), (q1, .inr (1, [.null, .int 0, .int 0]))] H := hP
  have hD : va_D A [(h0, .inr (3, [.null, .null, .null, .null])), (q1, .inr (1, [.null, .int 0, .int 0]))] := hD
  refine W.widen (k := 1) (n := 3) (by omega) (by omega) ?_
  refine lv_dup hx hb dX3_init_8 rfl ?_
  have hPc := hP.sub (ws' := [(q1, .inr (1, [.null, .int 0, .int 0]))]) [1] rfl
  have hDc := hD.sub (ws' := [(q1, .inr (1, [.null, .int 0, .int 0]))]) [1] (by decide) rfl
  have hKc := hK.sub (tys' := []) [] rfl
  have hFc := va_free (wc := [(q1, .inr (1, [.null, .int 0, .int 0]))]) hD hS hA [1] rfl
  refine va_callv (va_runIN (As := []) (rest := [.ref q1, .ref h0]) ⟨hx, hb, hml, hown, hts⟩ (c_X1_init l D q1 H.size) ⟨va_cnB 0 hts (wsC_good n_19) rfl rfl rfl hN.1 (hts _ n_2) (by decide +kernel) ⟨Nat.le_of_ble_eq_true rfl, Nat.le_of_ble_eq_true rfl⟩, rfl, hts _ n_18⟩ ⟨fun a U g mk q => by obtain ⟨y0, y1, yP, yK, yD⟩ := q; exact ⟨y0, y1, yP, va_K.moved (u := U) (U := U.calling g mk a) (Vm.Alike.refl U.vm) yK, yD⟩, fun U hU hW => ⟨rfl, by rw [hU], by rw [hU]; exact hPc, va_K.moved hW.alike hKc, hDc.weaken (fun _ _ _ _ => trivial)⟩⟩ rfl rfl hl.1 rfl (lv_room (Nat.le_of_ble_eq_true rfl)) dX3_init_9 ⟨Nat.le_of_ble_eq_true rfl, Nat.le_of_ble_eq_true rfl⟩) hS (fun q _ h => hFc q h) hFc (fun u t H1 locs ht hvm hw hB hz1 hk1 hS => ?_)
  obtain ⟨q2, cI⟩ := u
  obtain ⟨hP1, hK1, hD1⟩ := hB
  rw [ht] at hP1
  have hK1 := va_K.moved hvm.symm hK1
  obtain ⟨hP, hD⟩ := va_join (wr := [(h0, .inr (3, [.null, .null, .null, .null]))]) (w1 := [(q1, .inr (1, [.ref q2, .int 0, .int 1024])), (q2, .inl (cI, 40, .inl (fun _ => 0)))]) hP hD [1] [0] rfl rfl (by decide) (by decide) hk1 hFc hP1 hD1
  have hK : va_K D vwCl [(cI, .int)] s := (hK.sub (tys' := []) [] rfl).app hK1
  generalize H1 = H at hP hS ⊢
  have hP : va_P D vwCl [(h0, .inr (3, [.null, .null, .null, .null])), (q1, .inr (1, [.ref q2, .int 0, .int 1024])), (q2, .inl (cI, 40, .inl (fun _ => 0)))] H := hP
  have hD : va_D A [(h0, .inr (3, [.null, .null, .null, .null])), (q1, .inr (1, [.ref q2, .int 0, .int 1024])), (q2, .inl (cI, 40, .inl (fun _ => 0)))] := hD
  refine W.widen (k := 2) (n := 43) (by omega) (by omega) ?_
  refine va_put (D := D) (ci := 3) (v := .ref q1) (ty := .object "RisingParts$Row") (C := RX3) (T := TX3) (N := 4) hx hb hts gX3 tyX3 tyX3_ok nmX3 hown hK hP hD hS 0 rfl rfl 0 (by decide) (hts _ n_66) (fun _ h9 => h9) rfl (by decide +kernel) rfl rfl (Nat.le_of_ble_eq_true rfl) dX3_init_12 (fun H locs hP hD hS => ?_)
  have hP : va_P D vwCl [(h0, .inr (3, [.ref q1, .null, .null, .null])), (q1, .inr (1, [.ref q2, .int 0, .int 1024])), (q2, .inl (cI, 40, .inl (fun _ => 0)))] H := hP
  have hD : va_D A [(h0, .inr (3, [.ref q1, .null, .null, .null])), (q1, .inr (1, [.ref q2, .int 0, .int 1024])), (q2, .inl (cI, 40, .inl (fun _ => 0)))] := hD
  refine lv_aload_n hx hb dX3_init_15 rfl (lv_at hl 0 rfl) ?_
  refine va_new (ci := 1) (fs := [.null, .int 0, .int 0]) (C := RX1) (T := TX1) (N := 3) hx hb hts gX1 tyX1 tyX1_ok hown (hts _ n_15) (hts _ n_16) (hts _ n_2) hK hP hD hS hA rfl (fun j hj => by rcases (show j = 0 ∨ j = 1 ∨ j = 2 by omega) with rfl | rfl | rfl <;> rfl) (Nat.le_of_ble_eq_true rfl) (Nat.le_of_ble_eq_true rfl) dX3_init_16 (fun q3 H hP hD hS => ?_)
  have hP : va_P D vwCl [(h0, .inr (3, [.ref q1, .null, .null, .null])), (q1, .inr (1, [.ref q2, .int 0, .int 1024])), (q2, .inl (cI, 40, .inl (fun _ => 0))), (q3, .inr (1, [.null, .int 0, .int 0]))] H := hP
  have hD : va_D A [(h0, .inr (3, [.ref q1, .null, .null, .null])), (q1, .inr (1, [.ref q2, .int 0, .int 1024])), (q2, .inl (cI, 40, .inl (fun _ => 0))), (q3, .inr (1, [.null, .int 0, .int 0]))] := hD
  refine W.widen (k := 3) (n := 46) (by omega) (by omega) ?_
  refine lv_dup hx hb dX3_init_19 rfl ?_
  have hPc := hP.sub (ws' := [(q3, .inr (1, [.null, .int 0, .int 0]))]) [3] rfl
  have hDc := hD.sub (ws' := [(q3, .inr (1, [.null, .int 0, .int 0]))]) [3] (by decide) rfl
  have hKc := hK.sub (tys' := []) [] rfl
  have hFc := va_free (wc := [(q3, .inr (1, [.null, .int 0, .int 0]))]) hD hS hA [3] rfl
  refine va_callv (va_runIN (As := []) (rest := [.ref q3, .ref h0]) ⟨hx, hb, hml, hown, hts⟩ (c_X1_init l D q3 H.size) ⟨va_cnB 0 hts (wsC_good n_19) rfl rfl rfl hN.1 (hts _ n_2) (by decide +kernel) ⟨Nat.le_of_ble_eq_true rfl, Nat.le_of_ble_eq_true rfl⟩, rfl, hts _ n_18⟩ ⟨fun a U g mk q => by obtain ⟨y0, y1, yP, yK, yD⟩ := q; exact ⟨y0, y1, yP, va_K.moved (u := U) (U := U.calling g mk a) (Vm.Alike.refl U.vm) yK, yD⟩, fun U hU hW => ⟨rfl, by rw [hU], by rw [hU]; exact hPc, va_K.moved hW.alike hKc, hDc.weaken (fun _ _ _ _ => trivial)⟩⟩ rfl rfl hl.1 rfl (lv_room (Nat.le_of_ble_eq_true rfl)) dX3_init_20 ⟨Nat.le_of_ble_eq_true rfl, Nat.le_of_ble_eq_true rfl⟩) hS (fun q _ h => hFc q h) hFc (fun u t H1 locs ht hvm hw hB hz1 hk1 hS => ?_)
  obtain ⟨q4, cB⟩ := u
  obtain ⟨hP1, hK1, hD1⟩ := hB
  rw [ht] at hP1
  have hK1 := va_K.moved hvm.symm hK1
  obtain ⟨hP, hD⟩ := va_join (wr := [(h0, .inr (3, [.ref q1, .null, .null, .null])), (q1, .inr (1, [.ref q2, .int 0, .int 1024])), (q2, .inl (cI, 40, .inl (fun _ => 0)))]) (w1 := [(q3, .inr (1, [.ref q4, .int 0, .int 1024])), (q4, .inl (cB, 40, .inl (fun _ => 0)))]) hP hD [3] [0, 1, 2] rfl rfl (by decide) (by decide) hk1 hFc hP1 hD1
  have hK : va_K D vwCl [(cI, .int), (cB, .int)] s := hK.app hK1
  obtain rfl : cB = cI := K_one hK 1 0 rfl rfl
  have hK : va_K D vwCl [(cB, .int)] s := hK.sub (tys' := [(cB, .int)]) [0] rfl
  obtain ⟨cI, eI⟩ : ∃ z : ClassId, z = cB := ⟨_, rfl⟩
  subst eI
  generalize H1 = H at hP hS ⊢
  have hP : va_P D vwCl [(h0, .inr (3, [.ref q1, .null, .null, .null])), (q1, .inr (1, [.ref q2, .int 0, .int 1024])), (q2, .inl (cI, 40, .inl (fun _ => 0))), (q3, .inr (1, [.ref q4, .int 0, .int 1024])), (q4, .inl (cI, 40, .inl (fun _ => 0)))] H := hP
  have hD : va_D A [(h0, .inr (3, [.ref q1, .null, .null, .null])), (q1, .inr (1, [.ref q2, .int 0, .int 1024])), (q2, .inl (cI, 40, .inl (fun _ => 0))), (q3, .inr (1, [.ref q4, .int 0, .int 1024])), (q4, .inl (cI, 40, .inl (fun _ => 0)))] := hD
  refine W.widen (k := 4) (n := 86) (by omega) (by omega) ?_
  refine va_put (D := D) (ci := 3) (v := .ref q3) (ty := .object "RisingParts$Row") (C := RX3) (T := TX3) (N := 4) hx hb hts gX3 tyX3 tyX3_ok nmX3 hown hK hP hD hS 0 rfl rfl 1 (by decide) (hts _ n_67) (fun _ h9 => h9) rfl (by decide +kernel) rfl rfl (Nat.le_of_ble_eq_true rfl) dX3_init_23 (fun H locs hP hD hS => ?_)
  have hP : va_P D vwCl [(h0, .inr (3, [.ref q1, .ref q3, .null, .null])), (q1, .inr (1, [.ref q2, .int 0, .int 1024])), (q2, .inl (cI, 40, .inl (fun _ => 0))), (q3, .inr (1, [.ref q4, .int 0, .int 1024])), (q4, .inl (cI, 40, .inl (fun _ => 0)))] H := hP
  have hD : va_D A [(h0, .inr (3, [.ref q1, .ref q3, .null, .null])), (q1, .inr (1, [.ref q2, .int 0, .int 1024])), (q2, .inl (cI, 40, .inl (fun _ => 0))), (q3, .inr (1, [.ref q4, .int 0, .int 1024])), (q4, .inl (cI, 40, .inl (fun _ => 0)))] := hD
  refine lv_aload_n hx hb dX3_init_26 rfl (lv_at hl 0 rfl) ?_
  refine va_new (ci := 0) (fs := [.null, .int 0, .int 0]) (C := RX0) (T := TX0) (N := 3) hx hb hts gX0 tyX0 tyX0_ok hown (hts _ n_35) (hts _ n_36) (hts _ n_3) hK hP hD hS hA rfl (fun j hj => by rcases (show j = 0 ∨ j = 1 ∨ j = 2 by omega) with rfl | rfl | rfl <;> rfl) (Nat.le_of_ble_eq_true rfl) (Nat.le_of_ble_eq_true rfl) dX3_init_27 (fun q5 H hP hD hS => ?_)
  have hP : va_P D vwCl [(h0, .inr (3, [.ref q1, .ref q3, .null, .null])), (q1, .inr (1, [.ref q2, .int 0, .int 1024])), (q2, .inl (cI, 40, .inl (fun _ => 0))), (q3, .inr (1, [.ref q4, .int 0, .int 1024])), (q4, .inl (cI, 40, .inl (fun _ => 0))), (q5, .inr (0, [.null, .int 0, .int 0]))] H := hP
  have hD : va_D A [(h0, .inr (3, [.ref q1, .ref q3, .null, .null])), (q1, .inr (1, [.ref q2, .int 0, .int 1024])), (q2, .inl (cI, 40, .inl (fun _ => 0))), (q3, .inr (1, [.ref q4, .int 0, .int 1024])), (q4, .inl (cI, 40, .inl (fun _ => 0))), (q5, .inr (0, [.null, .int 0, .int 0]))] := hD
  refine W.widen (k := 5) (n := 89) (by omega) (by omega) ?_
  refine lv_dup hx hb dX3_init_30 rfl ?_
  have hPc := hP.sub (ws' := [(q5, .inr (0, [.null, .int 0, .int 0]))]) [5] rfl
  have hDc := hD.sub (ws' := [(q5, .inr (0, [.null, .int 0, .int 0]))]) [5] (by decide) rfl
  have hKc := hK.sub (tys' := []) [] rfl
  have hFc := va_free (wc := [(q5, .inr (0, [.null, .int 0, .int 0]))]) hD hS hA [5] rfl
  refine va_callv (va_runIN (As := []) (rest := [.ref q5, .ref h0]) ⟨hx, hb, hml, hown, hts⟩ (c_X0_init l D q5 H.size) ⟨va_cnB 0 hts (wsC_good n_39) rfl rfl rfl hN.2.1 (hts _ n_3) (by decide +kernel) ⟨Nat.le_of_ble_eq_true rfl, Nat.le_of_ble_eq_true rfl⟩, rfl, hts _ n_38⟩ ⟨fun a U g mk q => by obtain ⟨y0, y1, yP, yK, yD⟩ := q; exact ⟨y0, y1, yP, va_K.moved (u := U) (U := U.calling g mk a) (Vm.Alike.refl U.vm) yK, yD⟩, fun U hU hW => ⟨rfl, by rw [hU], by rw [hU]; exact hPc, va_K.moved hW.alike hKc, hDc.weaken (fun _ _ _ _ => trivial)⟩⟩ rfl rfl hl.1 rfl (lv_room (Nat.le_of_ble_eq_true rfl)) dX3_init_31 ⟨Nat.le_of_ble_eq_true rfl, Nat.le_of_ble_eq_true rfl⟩) hS (fun q _ h => hFc q h) hFc (fun u t H1 locs ht hvm hw hB hz1 hk1 hS => ?_)
  obtain ⟨q6, cB⟩ := u
  obtain ⟨hP1, hK1, hD1⟩ := hB
  rw [ht] at hP1
  have hK1 := va_K.moved hvm.symm hK1
  obtain ⟨hP, hD⟩ := va_join (wr := [(h0, .inr (3, [.ref q1, .ref q3, .null, .null])), (q1, .inr (1, [.ref q2, .int 0, .int 1024])), (q2, .inl (cI, 40, .inl (fun _ => 0))), (q3, .inr (1, [.ref q4, .int 0, .int 1024])), (q4, .inl (cI, 40, .inl (fun _ => 0)))]) (w1 := [(q5, .inr (0, [.ref q6, .int 0, .int 0])), (q6, .inl (cB, 336, .inl (fun _ => 0)))]) hP hD [5] [0, 1, 2, 3, 4] rfl rfl (by decide) (by decide) hk1 hFc hP1 hD1
  have hK : va_K D vwCl [(cI, .int), (cB, .int)] s := hK.app hK1
  obtain rfl : cB = cI := K_one hK 1 0 rfl rfl
  have hK : va_K D vwCl [(cB, .int)] s := hK.sub (tys' := [(cB, .int)]) [0] rfl
  obtain ⟨cI, eI⟩ : ∃ z : ClassId, z = cB := ⟨_, rfl⟩
  subst eI
  generalize H1 = H at hP hS ⊢
  have hP : va_P D vwCl [(h0, .inr (3, [.ref q1, .ref q3, .null, .null])), (q1, .inr (1, [.ref q2, .int 0, .int 1024])), (q2, .inl (cI, 40, .inl (fun _ => 0))), (q3, .inr (1, [.ref q4, .int 0, .int 1024])), (q4, .inl (cI, 40, .inl (fun _ => 0))), (q5, .inr (0, [.ref q6, .int 0, .int 0])), (q6, .inl (cI, 336, .inl (fun _ => 0)))] H := hP
  have hD : va_D A [(h0, .inr (3, [.ref q1, .ref q3, .null, .null])), (q1, .inr (1, [.ref q2, .int 0, .int 1024])), (q2, .inl (cI, 40, .inl (fun _ => 0))), (q3, .inr (1, [.ref q4, .int 0, .int 1024])), (q4, .inl (cI, 40, .inl (fun _ => 0))), (q5, .inr (0, [.ref q6, .int 0, .int 0])), (q6, .inl (cI, 336, .inl (fun _ => 0)))] := hD
  refine W.widen (k := 6) (n := 425) (by omega) (by omega) ?_
  refine va_putF (D := D) (ci := 3) (v := .ref q5) (ty := .object "RisingParts$History") (C := RX3) (T := TX3) (N := 4) hx hb hts gX3 tyX3 tyX3_ok nmX3 hown hK hP hD hS 0 rfl rfl 2 (by decide) (hts _ n_68) (fun _ h9 => h9) rfl hin rfl (by decide +kernel) rfl rfl (Nat.le_of_ble_eq_true rfl) dX3_init_34 (fun H locs hP hD hS => ?_)
  have hP : va_P D vwCl [(h0, .inr (3, [.ref q1, .ref q3, .ref q5, .null])), (q1, .inr (1, [.ref q2, .int 0, .int 1024])), (q2, .inl (cI, 40, .inl (fun _ => 0))), (q3, .inr (1, [.ref q4, .int 0, .int 1024])), (q4, .inl (cI, 40, .inl (fun _ => 0))), (q5, .inr (0, [.ref q6, .int 0, .int 0])), (q6, .inl (cI, 336, .inl (fun _ => 0)))] H := hP
  have hD : va_D A [(h0, .inr (3, [.ref q1, .ref q3, .ref q5, .null])), (q1, .inr (1, [.ref q2, .int 0, .int 1024])), (q2, .inl (cI, 40, .inl (fun _ => 0))), (q3, .inr (1, [.ref q4, .int 0, .int 1024])), (q4, .inl (cI, 40, .inl (fun _ => 0))), (q5, .inr (0, [.ref q6, .int 0, .int 0])), (q6, .inl (cI, 336, .inl (fun _ => 0)))] := hD
  refine lv_aload_n hx hb dX3_init_37 rfl (lv_at hl 0 rfl) ?_
  refine va_new (ci := 2) (fs := [.null, .int 0]) (C := RX2) (T := TX2) (N := 2) hx hb hts gX2 tyX2 tyX2_ok hown (hts _ n_52) (hts _ n_53) (hts _ n_4) hK hP hD hS hA rfl (fun j hj => by rcases (show j = 0 ∨ j = 1 by omega) with rfl | rfl <;> rfl) (Nat.le_of_ble_eq_true rfl) (Nat.le_of_ble_eq_true rfl) dX3_init_38 (fun q7 H hP hD hS => ?_)
  have hP : va_P D vwCl [(h0, .inr (3, [.ref q1, .ref q3, .ref q5, .null])), (q1, .inr (1, [.ref q2, .int 0, .int 1024])), (q2, .inl (cI, 40, .inl (fun _ => 0))), (q3, .inr (1, [.ref q4, .int 0, .int 1024])), (q4, .inl (cI, 40, .inl (fun _ => 0))), (q5, .inr (0, [.ref q6, .int 0, .int 0])), (q6, .inl (cI, 336, .inl (fun _ => 0))), (q7, .inr (2, [.null, .int 0]))] H := hP
  have hD : va_D A [(h0, .inr (3, [.ref q1, .ref q3, .ref q5, .null])), (q1, .inr (1, [.ref q2, .int 0, .int 1024])), (q2, .inl (cI, 40, .inl (fun _ => 0))), (q3, .inr (1, [.ref q4, .int 0, .int 1024])), (q4, .inl (cI, 40, .inl (fun _ => 0))), (q5, .inr (0, [.ref q6, .int 0, .int 0])), (q6, .inl (cI, 336, .inl (fun _ => 0))), (q7, .inr (2, [.null, .int 0]))] := hD
  refine W.widen (k := 7) (n := 427) (by omega) (by omega) ?_
  refine lv_dup hx hb dX3_init_41 rfl ?_
  have hPc := hP.sub (ws' := [(q7, .inr (2, [.null, .int 0]))]) [7] rfl
  have hDc := hD.sub (ws' := [(q7, .inr (2, [.null, .int 0]))]) [7] (by decide) rfl
  have hKc := hK.sub (tys' := []) [] rfl
  have hFc := va_free (wc := [(q7, .inr (2, [.null, .int 0]))]) hD hS hA [7] rfl
  refine va_callv (va_runIN (As := []) (rest := [.ref q7, .ref h0]) ⟨hx, hb, hml, hown, hts⟩ (c_X2_init l D q7 H.size) ⟨va_cnB 0 hts (wsC_good n_56) rfl rfl rfl hN.2.2 (hts _ n_4) (by decide +kernel) ⟨Nat.le_of_ble_eq_true rfl, Nat.le_of_ble_eq_true rfl⟩, rfl, hts _ n_55⟩ ⟨fun a U g mk q => by obtain ⟨y0, y1, yP, yK, yD⟩ := q; exact ⟨y0, y1, yP, va_K.moved (u := U) (U := U.calling g mk a) (Vm.Alike.refl U.vm) yK, yD⟩, fun U hU hW => ⟨rfl, by rw [hU], by rw [hU]; exact hPc, va_K.moved hW.alike hKc, hDc.weaken (fun _ _ _ _ => trivial)⟩⟩ rfl rfl hl.1 rfl (lv_room (Nat.le_of_ble_eq_true rfl)) dX3_init_42 ⟨Nat.le_of_ble_eq_true rfl, Nat.le_of_ble_eq_true rfl⟩) hS (fun q _ h => hFc q h) hFc (fun u t H1 locs ht hvm hw hB hz1 hk1 hS => ?_)
  obtain ⟨q8, cB⟩ := u
  obtain ⟨hP1, hK1, hD1⟩ := hB
  rw [ht] at hP1
  have hK1 := va_K.moved hvm.symm hK1
  obtain ⟨hP, hD⟩ := va_join (wr := [(h0, .inr (3, [.ref q1, .ref q3, .ref q5, .null])), (q1, .inr (1, [.ref q2, .int 0, .int 1024])), (q2, .inl (cI, 40, .inl (fun _ => 0))), (q3, .inr (1, [.ref q4, .int 0, .int 1024])), (q4, .inl (cI, 40, .inl (fun _ => 0))), (q5, .inr (0, [.ref q6, .int 0, .int 0])), (q6, .inl (cI, 336, .inl (fun _ => 0)))]) (w1 := [(q7, .inr (2, [.ref q8, .int 0])), (q8, .inl (cB, 60, .inl (fun _ => 0)))]) hP hD [7] [0, 1, 2, 3, 4, 5, 6] rfl rfl (by decide) (by decide) hk1 hFc hP1 hD1
  have hK : va_K D vwCl [(cI, .int), (cB, .int)] s := hK.app hK1
  obtain rfl : cB = cI := K_one hK 1 0 rfl rfl
  have hK : va_K D vwCl [(cB, .int)] s := hK.sub (tys' := [(cB, .int)]) [0] rfl
  obtain ⟨cI, eI⟩ : ∃ z : ClassId, z = cB := ⟨_, rfl⟩
  subst eI
  generalize H1 = H at hP hS ⊢
  have hP : va_P D vwCl [(h0, .inr (3, [.ref q1, .ref q3, .ref q5, .null])), (q1, .inr (1, [.ref q2, .int 0, .int 1024])), (q2, .inl (cI, 40, .inl (fun _ => 0))), (q3, .inr (1, [.ref q4, .int 0, .int 1024])), (q4, .inl (cI, 40, .inl (fun _ => 0))), (q5, .inr (0, [.ref q6, .int 0, .int 0])), (q6, .inl (cI, 336, .inl (fun _ => 0))), (q7, .inr (2, [.ref q8, .int 0])), (q8, .inl (cI, 60, .inl (fun _ => 0)))] H := hP
  have hD : va_D A [(h0, .inr (3, [.ref q1, .ref q3, .ref q5, .null])), (q1, .inr (1, [.ref q2, .int 0, .int 1024])), (q2, .inl (cI, 40, .inl (fun _ => 0))), (q3, .inr (1, [.ref q4, .int 0, .int 1024])), (q4, .inl (cI, 40, .inl (fun _ => 0))), (q5, .inr (0, [.ref q6, .int 0, .int 0])), (q6, .inl (cI, 336, .inl (fun _ => 0))), (q7, .inr (2, [.ref q8, .int 0])), (q8, .inl (cI, 60, .inl (fun _ => 0)))] := hD
  refine W.widen (k := 8) (n := 487) (by omega) (by omega) ?_
  refine va_putF (D := D) (ci := 3) (v := .ref q7) (ty := .object "RisingParts$Text") (C := RX3) (T := TX3) (N := 4) hx hb hts gX3 tyX3 tyX3_ok nmX3 hown hK hP hD hS 0 rfl rfl 3 (by decide) (hts _ n_69) (fun _ h9 => h9) rfl hin rfl (by decide +kernel) rfl rfl (Nat.le_of_ble_eq_true rfl) dX3_init_45 (fun H locs hP hD hS => ?_)
  have hP : va_P D vwCl [(h0, .inr (3, [.ref q1, .ref q3, .ref q5, .ref q7])), (q1, .inr (1, [.ref q2, .int 0, .int 1024])), (q2, .inl (cI, 40, .inl (fun _ => 0))), (q3, .inr (1, [.ref q4, .int 0, .int 1024])), (q4, .inl (cI, 40, .inl (fun _ => 0))), (q5, .inr (0, [.ref q6, .int 0, .int 0])), (q6, .inl (cI, 336, .inl (fun _ => 0))), (q7, .inr (2, [.ref q8, .int 0])), (q8, .inl (cI, 60, .inl (fun _ => 0)))] H := hP
  have hD : va_D A [(h0, .inr (3, [.ref q1, .ref q3, .ref q5, .ref q7])), (q1, .inr (1, [.ref q2, .int 0, .int 1024])), (q2, .inl (cI, 40, .inl (fun _ => 0))), (q3, .inr (1, [.ref q4, .int 0, .int 1024])), (q4, .inl (cI, 40, .inl (fun _ => 0))), (q5, .inr (0, [.ref q6, .int 0, .int 0])), (q6, .inl (cI, 336, .inl (fun _ => 0))), (q7, .inr (2, [.ref q8, .int 0])), (q8, .inl (cI, 60, .inl (fun _ => 0)))] := hD
  exact W.vret hx hb hr (fun t ht hW => ⟨⟨(fun k => if k = 1 then q1 else if k = 2 then q2 else if k = 3 then q3 else if k = 4 then q4 else if k = 5 then q5 else if k = 6 then q6 else if k = 7 then q7 else q8, cI), rfl, trivial, by rw [ht]; exact hP, va_K.moved hW.alike hK, hD⟩, hS.F ht⟩) hS.2.2 dX3_init_48

set_option maxHeartbeats 4000000 in
set_option maxRecDepth 100000 in
theorem c_X4_init (l : Launch) (D : va_G) (h0 sz : Nat) : Met l yX4_init (wsC yX4_init cX4_init) ({ frames := 1, cells := 8, slots := 9085, locals := 12 }) (va_Pc [.ref h0] (fun U => U.heap.size = sz ∧ va_P D vwCl [(h0, .inr (4, [.null, .null, .null, .int 0, .null, .int 0, .int 0, .null, .int 0, .null, .int 0, .null, .int 0, .int 0, .int 0, .null]))] U.heap ∧ va_K D vwCl [] U ∧ va_D (fun _ => True) [(h0, .inr (4, [.null, .null, .null, .int 0, .null, .int 0, .int 0, .null, .int 0, .null, .int 0, .null, .int 0, .int 0, .int 0, .null]))])) (va_Qv (fun _ : (Nat → Nat) × (ClassId × ClassId) => True) (fun (u : (Nat → Nat) × (ClassId × ClassId)) t => va_P D vwCl (w4 h0 u) t.heap ∧ va_K D vwCl [(u.2.1, .int), (u.2.2, .char)] t ∧ va_D (va_A [(h0, .inr (4, [.null, .null, .null, .int 0, .null, .int 0, .int 0, .null, .int 0, .null, .int 0, .null, .int 0, .int 0, .int 0, .null]))] sz) (w4 h0 u)) (va_A [(h0, .inr (4, [.null, .null, .null, .int 0, .null, .int 0, .int 0, .null, .int 0, .null, .int 0, .null, .int 0, .int 0, .int 0, .null]))] sz)) 8 9085 (va_A [(h0, .inr (4, [.null, .null, .null, .int 0, .null, .int 0, .int 0, .null, .int 0, .null, .int 0, .null, .int 0, .int 0, .int 0, .null]))] sz) := by
  refine Met.ofW (cc := cX4_init) (maxL := 1) (ret := none) (by decide) rfl ?_
  intro p e s m args below meth c s₁ B hml hv
  obtain ⟨rfl, hsz, hP, hK, hD0⟩ := hv
  have hx := B.exec
  have hb := B.bytes
  have hr := B.returns
  have hts0 := atoms_spec (ws := wsC yX4_init cX4_init) B.pre
  have hts := fun w (hw : w ∈ gT) => hts0 w (List.mem_cons_of_mem _ hw)
  have hown : s.vm.findClass RX4 = some m.cls := findClass_of_methodNamed B.named
  have hlocks := B.notSynchronized
  have hin : meth.name = "<init>" := (name_of_methodNamed B.named B.method).1
  subst hsz
  have hD := hD0.self (sz := s.heap.size)
  generalize hAe : va_A [(h0, .inr (4, [.null, .null, .null, .int 0, .null, .int 0, .int 0, .null, .int 0, .null, .int 0, .null, .int 0, .int 0, .int 0, .null]))] s.heap.size = A at hD ⊢
  have hA : ∀ q : Nat, s.heap.size ≤ q → A q := fun q h => by rw [← hAe]; exact Or.inr h
  have hS : va_S A s.heap s.heap [] := va_S.rf
  have hP : va_P D vwCl [(h0, .inr (4, [.null, .null, .null, .int 0, .null, .int 0, .int 0, .null, .int 0, .null, .int 0, .null, .int 0, .int 0, .int 0, .null]))] s.heap := hP
  have hl := lv_entry ([.ref h0]) (n := 1) (Nat.le_of_ble_eq_true rfl)
  rw [lg_entry_eq]
  generalize (lg_sl ([.ref h0]) ++ List.replicate (1 - (lg_sl ([.ref h0])).length) Slot.unset).toArray = ls at hl ⊢
  have hl : lv_has ls 1 [(0, .ref h0)] := hl
  refine lv_aload_n hx hb dX4_init_0 rfl (lv_at hl 0 rfl) ?_
  refine W.objInit hx hb hown (hts _ n_412) (hts _ n_13) (hts _ n_14) rfl (by rw [hml]; exact hl.1) rfl dX4_init_1 (Nat.le_of_ble_eq_true rfl) (Nat.le_of_ble_eq_true rfl) ?_
  refine W.eq (g2 := F0 m 4 ls []) rfl ?_
  refine lv_aload_n hx hb dX4_init_4 rfl (lv_at hl 0 rfl) ?_
  refine lv_bipush (v := 84) hx hb dX4_init_5 (by decide) ?_
  refine va_newa (atype := .int) (N' := 84) (a0 := (84, .inl (fun _ => 0))) hx hb (hts _ n_34) rfl hK hP hD hS hA (fun cA => rfl) (by decide) (by decide) (Nat.le_of_ble_eq_true rfl) (Nat.le_of_ble_eq_true rfl) (Nat.le_of_ble_eq_true rfl) dX4_init_7 (fun q10 cI H hK hP hD hS => ?_)
  have hK : va_K D vwCl [(cI, .int)] s := hK
  have hP : va_P D vwCl [(h0, .inr (4, [.null, .null, .null, .int 0, .null, .int 0, .int 0, .null, .int 0, .null, .int 0, .null, .int 0, .int 0, .int 0, .null])), (q10, .inl (cI, 84, .inl (fun _ => 0)))] H := hP
  have hD : va_D A [(h0, .inr (4, [.null, .null, .null, .int 0, .null, .int 0, .int 0, .null, .int 0, .null, .int 0, .null, .int 0, .int 0, .int 0, .null])), (q10, .inl (cI, 84, .inl (fun _ => 0)))] := hD
  refine W.widen (k := 1) (n := 84) (by omega) (by omega) ?_
  refine va_putF (D := D) (ci := 4) (v := .ref q10) (ty := .array .int) (C := RX4) (T := TX4) (N := 16) hx hb hts gX4 tyX4 tyX4_ok nmX4 hown hK hP hD hS 0 rfl rfl 0 (by decide) (hts _ n_413) (fun _ h9 => h9) rfl hin rfl (by decide +kernel) rfl rfl (Nat.le_of_ble_eq_true rfl) dX4_init_9 (fun H locs hP hD hS => ?_)
  have hP : va_P D vwCl [(h0, .inr (4, [.ref q10, .null, .null, .int 0, .null, .int 0, .int 0, .null, .int 0, .null, .int 0, .null, .int 0, .int 0, .int 0, .null])), (q10, .inl (cI, 84, .inl (fun _ => 0)))] H := hP
  have hD : va_D A [(h0, .inr (4, [.ref q10, .null, .null, .int 0, .null, .int 0, .int 0, .null, .int 0, .null, .int 0, .null, .int 0, .int 0, .int 0, .null])), (q10, .inl (cI, 84, .inl (fun _ => 0)))] := hD
  refine lv_aload_n hx hb dX4_init_12 rfl (lv_at hl 0 rfl) ?_
  refine lv_sipush (v := 336) hx hb dX4_init_13 (by decide) ?_
  refine va_newa (atype := .int) (N' := 336) (a0 := (336, .inl (fun _ => 0))) hx hb (hts _ n_34) rfl hK hP hD hS hA (fun cA => rfl) (by decide) (by decide) (Nat.le_of_ble_eq_true rfl) (Nat.le_of_ble_eq_true rfl) (Nat.le_of_ble_eq_true rfl) dX4_init_16 (fun q11 cB H hK hP hD hS => ?_)
  have hK : va_K D vwCl [(cI, .int), (cB, .int)] s := hK
  obtain rfl : cB = cI := K_one hK 1 0 rfl rfl
  have hK : va_K D vwCl [(cB, .int)] s := hK.sub (tys' := [(cB, .int)]) [0] rfl
  obtain ⟨cI, eI⟩ : ∃ z : ClassId, z = cB := ⟨_, rfl⟩
  subst eI
  have hP : va_P D vwCl [(h0, .inr (4, [.ref q10, .null, .null, .int 0, .null, .int 0, .int 0, .null, .int 0, .null, .int 0, .null, .int 0, .int 0, .int 0, .null])), (q10, .inl (cI, 84, .inl (fun _ => 0))), (q11, .inl (cI, 336, .inl (fun _ => 0)))] H := hP
  have hD : va_D A [(h0, .inr (4, [.ref q10, .null, .null, .int 0, .null, .int 0, .int 0, .null, .int 0, .null, .int 0, .null, .int 0, .int 0, .int 0, .null])), (q10, .inl (cI, 84, .inl (fun _ => 0))), (q11, .inl (cI, 336, .inl (fun _ => 0)))] := hD
  refine W.widen (k := 2) (n := 420) (by omega) (by omega) ?_
  refine va_putF (D := D) (ci := 4) (v := .ref q11) (ty := .array .int) (C := RX4) (T := TX4) (N := 16) hx hb hts gX4 tyX4 tyX4_ok nmX4 hown hK hP hD hS 0 rfl rfl 1 (by decide) (hts _ n_414) (fun _ h9 => h9) rfl hin rfl (by decide +kernel) rfl rfl (Nat.le_of_ble_eq_true rfl) dX4_init_18 (fun H locs hP hD hS => ?_)
  have hP : va_P D vwCl [(h0, .inr (4, [.ref q10, .ref q11, .null, .int 0, .null, .int 0, .int 0, .null, .int 0, .null, .int 0, .null, .int 0, .int 0, .int 0, .null])), (q10, .inl (cI, 84, .inl (fun _ => 0))), (q11, .inl (cI, 336, .inl (fun _ => 0)))] H := hP
  have hD : va_D A [(h0, .inr (4, [.ref q10, .ref q11, .null, .int 0, .null, .int 0, .int 0, .null, .int 0, .null, .int 0, .null, .int 0, .int 0, .int 0, .null])), (q10, .inl (cI, 84, .inl (fun _ => 0))), (q11, .inl (cI, 336, .inl (fun _ => 0)))] := hD
  refine lv_aload_n hx hb dX4_init_21 rfl (lv_at hl 0 rfl) ?_
  refine lv_bipush (v := 84) hx hb dX4_init_22 (by decide) ?_
  refine va_newa (atype := .int) (N' := 84) (a0 := (84, .inl (fun _ => 0))) hx hb (hts _ n_34) rfl hK hP hD hS hA (fun cA => rfl) (by decide) (by decide) (Nat.le_of_ble_eq_true rfl) (Nat.le_of_ble_eq_true rfl) (Nat.le_of_ble_eq_true rfl) dX4_init_24 (fun q12 cB H hK hP hD hS => ?_)
  have hK : va_K D vwCl [(cI, .int), (cB, .int)] s := hK
  obtain rfl : cB = cI := K_one hK 1 0 rfl rfl
  have hK : va_K D vwCl [(cB, .int)] s := hK.sub (tys' := [(cB, .int)]) [0] rfl
  obtain ⟨cI, eI⟩ : ∃ z : ClassId, z = cB := ⟨_, rfl⟩
  subst eI
  have hP : va_P D vwCl [(h0, .inr (4, [.ref q10, .ref q11, .null, .int 0, .null, .int 0, .int 0, .null, .int 0, .null, .int 0, .null, .int 0, .int 0, .int 0, .null])), (q10, .inl (cI, 84, .inl (fun _ => 0))), (q11, .inl (cI, 336, .inl (fun _ => 0))), (q12, .inl (cI, 84, .inl (fun _ => 0)))] H := hP
  have hD : va_D A [(h0, .inr (4, [.ref q10, .ref q11, .null, .int 0, .null, .int 0, .int 0, .null, .int 0, .null, .int 0, .null, .int 0, .int 0, .int 0, .null])), (q10, .inl (cI, 84, .inl (fun _ => 0))), (q11, .inl (cI, 336, .inl (fun _ => 0))), (q12, .inl (cI, 84, .inl (fun _ => 0)))] := hD
  refine W.widen (k := 3) (n := 504) (by omega) (by omega) ?_
  refine va_putF (D := D) (ci := 4) (v := .ref q12) (ty := .array .int) (C := RX4) (T := TX4) (N := 16) hx hb hts gX4 tyX4 tyX4_ok nmX4 hown hK hP hD hS 0 rfl rfl 2 (by decide) (hts _ n_415) (fun _ h9 => h9) rfl hin rfl (by decide +kernel) rfl rfl (Nat.le_of_ble_eq_true rfl) dX4_init_26 (fun H locs hP hD hS => ?_)
  have hP : va_P D vwCl [(h0, .inr (4, [.ref q10, .ref q11, .ref q12, .int 0, .null, .int 0, .int 0, .null, .int 0, .null, .int 0, .null, .int 0, .int 0, .int 0, .null])), (q10, .inl (cI, 84, .inl (fun _ => 0))), (q11, .inl (cI, 336, .inl (fun _ => 0))), (q12, .inl (cI, 84, .inl (fun _ => 0)))] H := hP
  have hD : va_D A [(h0, .inr (4, [.ref q10, .ref q11, .ref q12, .int 0, .null, .int 0, .int 0, .null, .int 0, .null, .int 0, .null, .int 0, .int 0, .int 0, .null])), (q10, .inl (cI, 84, .inl (fun _ => 0))), (q11, .inl (cI, 336, .inl (fun _ => 0))), (q12, .inl (cI, 84, .inl (fun _ => 0)))] := hD
  refine lv_aload_n hx hb dX4_init_29 rfl (lv_at hl 0 rfl) ?_
  refine lv_bipush (v := 60) hx hb dX4_init_30 (by decide) ?_
  refine va_newa (atype := .char) (N' := 60) (a0 := (60, .inl (fun _ => 0))) hx hb (hts _ n_462) rfl hK hP hD hS hA (fun cA => rfl) (by decide) (by decide) (Nat.le_of_ble_eq_true rfl) (Nat.le_of_ble_eq_true rfl) (Nat.le_of_ble_eq_true rfl) dX4_init_32 (fun q13 cC H hK hP hD hS => ?_)
  have hK : va_K D vwCl [(cI, .int), (cC, .char)] s := hK
  have hP : va_P D vwCl [(h0, .inr (4, [.ref q10, .ref q11, .ref q12, .int 0, .null, .int 0, .int 0, .null, .int 0, .null, .int 0, .null, .int 0, .int 0, .int 0, .null])), (q10, .inl (cI, 84, .inl (fun _ => 0))), (q11, .inl (cI, 336, .inl (fun _ => 0))), (q12, .inl (cI, 84, .inl (fun _ => 0))), (q13, .inl (cC, 60, .inl (fun _ => 0)))] H := hP
  have hD : va_D A [(h0, .inr (4, [.ref q10, .ref q11, .ref q12, .int 0, .null, .int 0, .int 0, .null, .int 0, .null, .int 0, .null, .int 0, .int 0, .int 0, .null])), (q10, .inl (cI, 84, .inl (fun _ => 0))), (q11, .inl (cI, 336, .inl (fun _ => 0))), (q12, .inl (cI, 84, .inl (fun _ => 0))), (q13, .inl (cC, 60, .inl (fun _ => 0)))] := hD
  refine W.widen (k := 4) (n := 564) (by omega) (by omega) ?_
  refine va_putF (D := D) (ci := 4) (v := .ref q13) (ty := .array .char) (C := RX4) (T := TX4) (N := 16) hx hb hts gX4 tyX4 tyX4_ok nmX4 hown hK hP hD hS 0 rfl rfl 4 (by decide) (hts _ n_417) (fun _ h9 => h9) rfl hin rfl (by decide +kernel) rfl rfl (Nat.le_of_ble_eq_true rfl) dX4_init_34 (fun H locs hP hD hS => ?_)
  have hP : va_P D vwCl [(h0, .inr (4, [.ref q10, .ref q11, .ref q12, .int 0, .ref q13, .int 0, .int 0, .null, .int 0, .null, .int 0, .null, .int 0, .int 0, .int 0, .null])), (q10, .inl (cI, 84, .inl (fun _ => 0))), (q11, .inl (cI, 336, .inl (fun _ => 0))), (q12, .inl (cI, 84, .inl (fun _ => 0))), (q13, .inl (cC, 60, .inl (fun _ => 0)))] H := hP
  have hD : va_D A [(h0, .inr (4, [.ref q10, .ref q11, .ref q12, .int 0, .ref q13, .int 0, .int 0, .null, .int 0, .null, .int 0, .null, .int 0, .int 0, .int 0, .null])), (q10, .inl (cI, 84, .inl (fun _ => 0))), (q11, .inl (cI, 336, .inl (fun _ => 0))), (q12, .inl (cI, 84, .inl (fun _ => 0))), (q13, .inl (cC, 60, .inl (fun _ => 0)))] := hD
  refine lv_aload_n hx hb dX4_init_37 rfl (lv_at hl 0 rfl) ?_
  refine lv_bipush (v := 41) hx hb dX4_init_38 (by decide) ?_
  refine va_newa (atype := .int) (N' := 41) (a0 := (41, .inl (fun _ => 0))) hx hb (hts _ n_34) rfl hK hP hD hS hA (fun cA => rfl) (by decide) (by decide) (Nat.le_of_ble_eq_true rfl) (Nat.le_of_ble_eq_true rfl) (Nat.le_of_ble_eq_true rfl) dX4_init_40 (fun q14 cB H hK hP hD hS => ?_)
  have hK : va_K D vwCl [(cI, .int), (cC, .char), (cB, .int)] s := hK
  obtain rfl : cB = cI := K_one hK 2 0 rfl rfl
  have hK : va_K D vwCl [(cB, .int), (cC, .char)] s := hK.sub (tys' := [(cB, .int), (cC, .char)]) [0, 1] rfl
  obtain ⟨cI, eI⟩ : ∃ z : ClassId, z = cB := ⟨_, rfl⟩
  subst eI
  have hP : va_P D vwCl [(h0, .inr (4, [.ref q10, .ref q11, .ref q12, .int 0, .ref q13, .int 0, .int 0, .null, .int 0, .null, .int 0, .null, .int 0, .int 0, .int 0, .null])), (q10, .inl (cI, 84, .inl (fun _ => 0))), (q11, .inl (cI, 336, .inl (fun _ => 0))), (q12, .inl (cI, 84, .inl (fun _ => 0))), (q13, .inl (cC, 60, .inl (fun _ => 0))), (q14, .inl (cI, 41, .inl (fun _ => 0)))] H := hP
  have hD : va_D A [(h0, .inr (4, [.ref q10, .ref q11, .ref q12, .int 0, .ref q13, .int 0, .int 0, .null, .int 0, .null, .int 0, .null, .int 0, .int 0, .int 0, .null])), (q10, .inl (cI, 84, .inl (fun _ => 0))), (q11, .inl (cI, 336, .inl (fun _ => 0))), (q12, .inl (cI, 84, .inl (fun _ => 0))), (q13, .inl (cC, 60, .inl (fun _ => 0))), (q14, .inl (cI, 41, .inl (fun _ => 0)))] := hD
  refine W.widen (k := 5) (n := 605) (by omega) (by omega) ?_
  refine va_putF (D := D) (ci := 4) (v := .ref q14) (ty := .array .int) (C := RX4) (T := TX4) (N := 16) hx hb hts gX4 tyX4 tyX4_ok nmX4 hown hK hP hD hS 0 rfl rfl 7 (by decide) (hts _ n_420) (fun _ h9 => h9) rfl hin rfl (by decide +kernel) rfl rfl (Nat.le_of_ble_eq_true rfl) dX4_init_42 (fun H locs hP hD hS => ?_)
  have hP : va_P D vwCl [(h0, .inr (4, [.ref q10, .ref q11, .ref q12, .int 0, .ref q13, .int 0, .int 0, .ref q14, .int 0, .null, .int 0, .null, .int 0, .int 0, .int 0, .null])), (q10, .inl (cI, 84, .inl (fun _ => 0))), (q11, .inl (cI, 336, .inl (fun _ => 0))), (q12, .inl (cI, 84, .inl (fun _ => 0))), (q13, .inl (cC, 60, .inl (fun _ => 0))), (q14, .inl (cI, 41, .inl (fun _ => 0)))] H := hP
  have hD : va_D A [(h0, .inr (4, [.ref q10, .ref q11, .ref q12, .int 0, .ref q13, .int 0, .int 0, .ref q14, .int 0, .null, .int 0, .null, .int 0, .int 0, .int 0, .null])), (q10, .inl (cI, 84, .inl (fun _ => 0))), (q11, .inl (cI, 336, .inl (fun _ => 0))), (q12, .inl (cI, 84, .inl (fun _ => 0))), (q13, .inl (cC, 60, .inl (fun _ => 0))), (q14, .inl (cI, 41, .inl (fun _ => 0)))] := hD
  refine lv_aload_n hx hb dX4_init_45 rfl (lv_at hl 0 rfl) ?_
  refine lv_sipush (v := 4200) hx hb dX4_init_46 (by decide) ?_
  refine va_newa (atype := .int) (N' := 4200) (a0 := (4200, .inl (fun _ => 0))) hx hb (hts _ n_34) rfl hK hP hD hS hA (fun cA => rfl) (by decide) (by decide) (Nat.le_of_ble_eq_true rfl) (Nat.le_of_ble_eq_true rfl) (Nat.le_of_ble_eq_true rfl) dX4_init_49 (fun q15 cB H hK hP hD hS => ?_)
  have hK : va_K D vwCl [(cI, .int), (cC, .char), (cB, .int)] s := hK
  obtain rfl : cB = cI := K_one hK 2 0 rfl rfl
  have hK : va_K D vwCl [(cB, .int), (cC, .char)] s := hK.sub (tys' := [(cB, .int), (cC, .char)]) [0, 1] rfl
  obtain ⟨cI, eI⟩ : ∃ z : ClassId, z = cB := ⟨_, rfl⟩
  subst eI
  have hP : va_P D vwCl [(h0, .inr (4, [.ref q10, .ref q11, .ref q12, .int 0, .ref q13, .int 0, .int 0, .ref q14, .int 0, .null, .int 0, .null, .int 0, .int 0, .int 0, .null])), (q10, .inl (cI, 84, .inl (fun _ => 0))), (q11, .inl (cI, 336, .inl (fun _ => 0))), (q12, .inl (cI, 84, .inl (fun _ => 0))), (q13, .inl (cC, 60, .inl (fun _ => 0))), (q14, .inl (cI, 41, .inl (fun _ => 0))), (q15, .inl (cI, 4200, .inl (fun _ => 0)))] H := hP
  have hD : va_D A [(h0, .inr (4, [.ref q10, .ref q11, .ref q12, .int 0, .ref q13, .int 0, .int 0, .ref q14, .int 0, .null, .int 0, .null, .int 0, .int 0, .int 0, .null])), (q10, .inl (cI, 84, .inl (fun _ => 0))), (q11, .inl (cI, 336, .inl (fun _ => 0))), (q12, .inl (cI, 84, .inl (fun _ => 0))), (q13, .inl (cC, 60, .inl (fun _ => 0))), (q14, .inl (cI, 41, .inl (fun _ => 0))), (q15, .inl (cI, 4200, .inl (fun _ => 0)))] := hD
  refine W.widen (k := 6) (n := 4805) (by omega) (by omega) ?_
  refine va_putF (D := D) (ci := 4) (v := .ref q15) (ty := .array .int) (C := RX4) (T := TX4) (N := 16) hx hb hts gX4 tyX4 tyX4_ok nmX4 hown hK hP hD hS 0 rfl rfl 9 (by decide) (hts _ n_422) (fun _ h9 => h9) rfl hin rfl (by decide +kernel) rfl rfl (Nat.le_of_ble_eq_true rfl) dX4_init_51 (fun H locs hP hD hS => ?_)
  have hP : va_P D vwCl [(h0, .inr (4, [.ref q10, .ref q11, .ref q12, .int 0, .ref q13, .int 0, .int 0, .ref q14, .int 0, .ref q15, .int 0, .null, .int 0, .int 0, .int 0, .null])), (q10, .inl (cI, 84, .inl (fun _ => 0))), (q11, .inl (cI, 336, .inl (fun _ => 0))), (q12, .inl (cI, 84, .inl (fun _ => 0))), (q13, .inl (cC, 60, .inl (fun _ => 0))), (q14, .inl (cI, 41, .inl (fun _ => 0))), (q15, .inl (cI, 4200, .inl (fun _ => 0)))] H := hP
  have hD : va_D A [(h0, .inr (4, [.ref q10, .ref q11, .ref q12, .int 0, .ref q13, .int 0, .int 0, .ref q14, .int 0, .ref q15, .int 0, .null, .int 0, .int 0, .int 0, .null])), (q10, .inl (cI, 84, .inl (fun _ => 0))), (q11, .inl (cI, 336, .inl (fun _ => 0))), (q12, .inl (cI, 84, .inl (fun _ => 0))), (q13, .inl (cC, 60, .inl (fun _ => 0))), (q14, .inl (cI, 41, .inl (fun _ => 0))), (q15, .inl (cI, 4200, .inl (fun _ => 0)))] := hD
  refine lv_aload_n hx hb dX4_init_54 rfl (lv_at hl 0 rfl) ?_
  refine lv_sipush (v := 4200) hx hb dX4_init_55 (by decide) ?_
  refine va_newa (atype := .int) (N' := 4200) (a0 := (4200, .inl (fun _ => 0))) hx hb (hts _ n_34) rfl hK hP hD hS hA (fun cA => rfl) (by decide) (by decide) (Nat.le_of_ble_eq_true rfl) (Nat.le_of_ble_eq_true rfl) (Nat.le_of_ble_eq_true rfl) dX4_init_58 (fun q16 cB H hK hP hD hS => ?_)
  have hK : va_K D vwCl [(cI, .int), (cC, .char), (cB, .int)] s := hK
  obtain rfl : cB = cI := K_one hK 2 0 rfl rfl
  have hK : va_K D vwCl [(cB, .int), (cC, .char)] s := hK.sub (tys' := [(cB, .int), (cC, .char)]) [0, 1] rfl
  obtain ⟨cI, eI⟩ : ∃ z : ClassId, z = cB := ⟨_, rfl⟩
  subst eI
  have hP : va_P D vwCl [(h0, .inr (4, [.ref q10, .ref q11, .ref q12, .int 0, .ref q13, .int 0, .int 0, .ref q14, .int 0, .ref q15, .int 0, .null, .int 0, .int 0, .int 0, .null])), (q10, .inl (cI, 84, .inl (fun _ => 0))), (q11, .inl (cI, 336, .inl (fun _ => 0))), (q12, .inl (cI, 84, .inl (fun _ => 0))), (q13, .inl (cC, 60, .inl (fun _ => 0))), (q14, .inl (cI, 41, .inl (fun _ => 0))), (q15, .inl (cI, 4200, .inl (fun _ => 0))), (q16, .inl (cI, 4200, .inl (fun _ => 0)))] H := hP
  have hD : va_D A [(h0, .inr (4, [.ref q10, .ref q11, .ref q12, .int 0, .ref q13, .int 0, .int 0, .ref q14, .int 0, .ref q15, .int 0, .null, .int 0, .int 0, .int 0, .null])), (q10, .inl (cI, 84, .inl (fun _ => 0))), (q11, .inl (cI, 336, .inl (fun _ => 0))), (q12, .inl (cI, 84, .inl (fun _ => 0))), (q13, .inl (cC, 60, .inl (fun _ => 0))), (q14, .inl (cI, 41, .inl (fun _ => 0))), (q15, .inl (cI, 4200, .inl (fun _ => 0))), (q16, .inl (cI, 4200, .inl (fun _ => 0)))] := hD
  refine W.widen (k := 7) (n := 9005) (by omega) (by omega) ?_
  refine va_putF (D := D) (ci := 4) (v := .ref q16) (ty := .array .int) (C := RX4) (T := TX4) (N := 16) hx hb hts gX4 tyX4 tyX4_ok nmX4 hown hK hP hD hS 0 rfl rfl 11 (by decide) (hts _ n_424) (fun _ h9 => h9) rfl hin rfl (by decide +kernel) rfl rfl (Nat.le_of_ble_eq_true rfl) dX4_init_60 (fun H locs hP hD hS => ?_)
  have hP : va_P D vwCl [(h0, .inr (4, [.ref q10, .ref q11, .ref q12, .int 0, .ref q13, .int 0, .int 0, .ref q14, .int 0, .ref q15, .int 0, .ref q16, .int 0, .int 0, .int 0, .null])), (q10, .inl (cI, 84, .inl (fun _ => 0))), (q11, .inl (cI, 336, .inl (fun _ => 0))), (q12, .inl (cI, 84, .inl (fun _ => 0))), (q13, .inl (cC, 60, .inl (fun _ => 0))), (q14, .inl (cI, 41, .inl (fun _ => 0))), (q15, .inl (cI, 4200, .inl (fun _ => 0))), (q16, .inl (cI, 4200, .inl (fun _ => 0)))] H := hP
  have hD : va_D A [(h0, .inr (4, [.ref q10, .ref q11, .ref q12, .int 0, .ref q13, .int 0, .int 0, .ref q14, .int 0, .ref q15, .int 0, .ref q16, .int 0, .int 0, .int 0, .null])), (q10, .inl (cI, 84, .inl (fun _ => 0))), (q11, .inl (cI, 336, .inl (fun _ => 0))), (q12, .inl (cI, 84, .inl (fun _ => 0))), (q13, .inl (cC, 60, .inl (fun _ => 0))), (q14, .inl (cI, 41, .inl (fun _ => 0))), (q15, .inl (cI, 4200, .inl (fun _ => 0))), (q16, .inl (cI, 4200, .inl (fun _ => 0)))] := hD
  refine lv_aload_n hx hb dX4_init_63 rfl (lv_at hl 0 rfl) ?_
  refine lv_bipush (v := 80) hx hb dX4_init_64 (by decide) ?_
  refine va_newa (atype := .int) (N' := 80) (a0 := (80, .inl (fun _ => 0))) hx hb (hts _ n_34) rfl hK hP hD hS hA (fun cA => rfl) (by decide) (by decide) (Nat.le_of_ble_eq_true rfl) (Nat.le_of_ble_eq_true rfl) (Nat.le_of_ble_eq_true rfl) dX4_init_66 (fun q17 cB H hK hP hD hS => ?_)
  have hK : va_K D vwCl [(cI, .int), (cC, .char), (cB, .int)] s := hK
  obtain rfl : cB = cI := K_one hK 2 0 rfl rfl
  have hK : va_K D vwCl [(cB, .int), (cC, .char)] s := hK.sub (tys' := [(cB, .int), (cC, .char)]) [0, 1] rfl
  obtain ⟨cI, eI⟩ : ∃ z : ClassId, z = cB := ⟨_, rfl⟩
  subst eI
  have hP : va_P D vwCl [(h0, .inr (4, [.ref q10, .ref q11, .ref q12, .int 0, .ref q13, .int 0, .int 0, .ref q14, .int 0, .ref q15, .int 0, .ref q16, .int 0, .int 0, .int 0, .null])), (q10, .inl (cI, 84, .inl (fun _ => 0))), (q11, .inl (cI, 336, .inl (fun _ => 0))), (q12, .inl (cI, 84, .inl (fun _ => 0))), (q13, .inl (cC, 60, .inl (fun _ => 0))), (q14, .inl (cI, 41, .inl (fun _ => 0))), (q15, .inl (cI, 4200, .inl (fun _ => 0))), (q16, .inl (cI, 4200, .inl (fun _ => 0))), (q17, .inl (cI, 80, .inl (fun _ => 0)))] H := hP
  have hD : va_D A [(h0, .inr (4, [.ref q10, .ref q11, .ref q12, .int 0, .ref q13, .int 0, .int 0, .ref q14, .int 0, .ref q15, .int 0, .ref q16, .int 0, .int 0, .int 0, .null])), (q10, .inl (cI, 84, .inl (fun _ => 0))), (q11, .inl (cI, 336, .inl (fun _ => 0))), (q12, .inl (cI, 84, .inl (fun _ => 0))), (q13, .inl (cC, 60, .inl (fun _ => 0))), (q14, .inl (cI, 41, .inl (fun _ => 0))), (q15, .inl (cI, 4200, .inl (fun _ => 0))), (q16, .inl (cI, 4200, .inl (fun _ => 0))), (q17, .inl (cI, 80, .inl (fun _ => 0)))] := hD
  refine W.widen (k := 8) (n := 9085) (by omega) (by omega) ?_
  refine va_putF (D := D) (ci := 4) (v := .ref q17) (ty := .array .int) (C := RX4) (T := TX4) (N := 16) hx hb hts gX4 tyX4 tyX4_ok nmX4 hown hK hP hD hS 0 rfl rfl 15 (by decide) (hts _ n_428) (fun _ h9 => h9) rfl hin rfl (by decide +kernel) rfl rfl (Nat.le_of_ble_eq_true rfl) dX4_init_68 (fun H locs hP hD hS => ?_)
  have hP : va_P D vwCl [(h0, .inr (4, [.ref q10, .ref q11, .ref q12, .int 0, .ref q13, .int 0, .int 0, .ref q14, .int 0, .ref q15, .int 0, .ref q16, .int 0, .int 0, .int 0, .ref q17])), (q10, .inl (cI, 84, .inl (fun _ => 0))), (q11, .inl (cI, 336, .inl (fun _ => 0))), (q12, .inl (cI, 84, .inl (fun _ => 0))), (q13, .inl (cC, 60, .inl (fun _ => 0))), (q14, .inl (cI, 41, .inl (fun _ => 0))), (q15, .inl (cI, 4200, .inl (fun _ => 0))), (q16, .inl (cI, 4200, .inl (fun _ => 0))), (q17, .inl (cI, 80, .inl (fun _ => 0)))] H := hP
  have hD : va_D A [(h0, .inr (4, [.ref q10, .ref q11, .ref q12, .int 0, .ref q13, .int 0, .int 0, .ref q14, .int 0, .ref q15, .int 0, .ref q16, .int 0, .int 0, .int 0, .ref q17])), (q10, .inl (cI, 84, .inl (fun _ => 0))), (q11, .inl (cI, 336, .inl (fun _ => 0))), (q12, .inl (cI, 84, .inl (fun _ => 0))), (q13, .inl (cC, 60, .inl (fun _ => 0))), (q14, .inl (cI, 41, .inl (fun _ => 0))), (q15, .inl (cI, 4200, .inl (fun _ => 0))), (q16, .inl (cI, 4200, .inl (fun _ => 0))), (q17, .inl (cI, 80, .inl (fun _ => 0)))] := hD
  refine lv_aload_n hx hb dX4_init_71 rfl (lv_at hl 0 rfl) ?_
  refine va_get (D := D) (ci := 4) (v := .ref q10) (C := RX4) (T := TX4) (N := 16) hx hb hts gX4 hown hK hP 0 rfl rfl 0 (by decide) (hts _ n_413) (fun _ h9 => h9) rfl dX4_init_72 ?_
  refine lv_iconst (v := 1) hx hb dX4_init_75 (by decide) ?_
  refine lv_sipush (v := 1024) hx hb dX4_init_76 (by decide) ?_
  refine va_iast (D := D) hx hb hK hP hD hS 1 0 rfl rfl (show vp_in (fI 1) 84 from fI_in (by decide) (by decide) (by decide)) dX4_init_79 (fun H locs hP hD hS => ?_)
  have hP : va_P D vwCl [(h0, .inr (4, [.ref q10, .ref q11, .ref q12, .int 0, .ref q13, .int 0, .int 0, .ref q14, .int 0, .ref q15, .int 0, .ref q16, .int 0, .int 0, .int 0, .ref q17])), (q10, .inl (cI, 84, .inl (upd (fun _ => 0) (1 : Int32).toNatClampNeg 1024))), (q11, .inl (cI, 336, .inl (fun _ => 0))), (q12, .inl (cI, 84, .inl (fun _ => 0))), (q13, .inl (cC, 60, .inl (fun _ => 0))), (q14, .inl (cI, 41, .inl (fun _ => 0))), (q15, .inl (cI, 4200, .inl (fun _ => 0))), (q16, .inl (cI, 4200, .inl (fun _ => 0))), (q17, .inl (cI, 80, .inl (fun _ => 0)))] H := hP
  have hD : va_D A [(h0, .inr (4, [.ref q10, .ref q11, .ref q12, .int 0, .ref q13, .int 0, .int 0, .ref q14, .int 0, .ref q15, .int 0, .ref q16, .int 0, .int 0, .int 0, .ref q17])), (q10, .inl (cI, 84, .inl (upd (fun _ => 0) (1 : Int32).toNatClampNeg 1024))), (q11, .inl (cI, 336, .inl (fun _ => 0))), (q12, .inl (cI, 84, .inl (fun _ => 0))), (q13, .inl (cC, 60, .inl (fun _ => 0))), (q14, .inl (cI, 41, .inl (fun _ => 0))), (q15, .inl (cI, 4200, .inl (fun _ => 0))), (q16, .inl (cI, 4200, .inl (fun _ => 0))), (q17, .inl (cI, 80, .inl (fun _ => 0)))] := hD
  refine lv_aload_n hx hb dX4_init_80 rfl (lv_at hl 0 rfl) ?_
  refine va_get (D := D) (ci := 4) (v := .ref q10) (C := RX4) (T := TX4) (N := 16) hx hb hts gX4 hown hK hP 0 rfl rfl 0 (by decide) (hts _ n_413) (fun _ h9 => h9) rfl dX4_init_81 ?_
  refine lv_bipush (v := 43) hx hb dX4_init_84 (by decide) ?_
  refine lv_sipush (v := 1024) hx hb dX4_init_86 (by decide) ?_
  refine va_iast (D := D) hx hb hK hP hD hS 1 0 rfl rfl (show vp_in (fI 43) 84 from fI_in (by decide) (by decide) (by decide)) dX4_init_89 (fun H locs hP hD hS => ?_)
  have hP : va_P D vwCl [(h0, .inr (4, [.ref q10, .ref q11, .ref q12, .int 0, .ref q13, .int 0, .int 0, .ref q14, .int 0, .ref q15, .int 0, .ref q16, .int 0, .int 0, .int 0, .ref q17])), (q10, .inl (cI, 84, .inl (upd (upd (fun _ => 0) (1 : Int32).toNatClampNeg 1024) (43 : Int32).toNatClampNeg 1024))), (q11, .inl (cI, 336, .inl (fun _ => 0))), (q12, .inl (cI, 84, .inl (fun _ => 0))), (q13, .inl (cC, 60, .inl (fun _ => 0))), (q14, .inl (cI, 41, .inl (fun _ => 0))), (q15, .inl (cI, 4200, .inl (fun _ => 0))), (q16, .inl (cI, 4200, .inl (fun _ => 0))), (q17, .inl (cI, 80, .inl (fun _ => 0)))] H := hP
  have hD : va_D A [(h0, .inr (4, [.ref q10, .ref q11, .ref q12, .int 0, .ref q13, .int 0, .int 0, .ref q14, .int 0, .ref q15, .int 0, .ref q16, .int 0, .int 0, .int 0, .ref q17])), (q10, .inl (cI, 84, .inl (upd (upd (fun _ => 0) (1 : Int32).toNatClampNeg 1024) (43 : Int32).toNatClampNeg 1024))), (q11, .inl (cI, 336, .inl (fun _ => 0))), (q12, .inl (cI, 84, .inl (fun _ => 0))), (q13, .inl (cC, 60, .inl (fun _ => 0))), (q14, .inl (cI, 41, .inl (fun _ => 0))), (q15, .inl (cI, 4200, .inl (fun _ => 0))), (q16, .inl (cI, 4200, .inl (fun _ => 0))), (q17, .inl (cI, 80, .inl (fun _ => 0)))] := hD
  exact W.vret hx hb hr (fun t ht hW => ⟨⟨(fun k => if k = 10 then q10 else if k = 11 then q11 else if k = 12 then q12 else if k = 13 then q13 else if k = 14 then q14 else if k = 15 then q15 else if k = 16 then q16 else q17, (cI, cC)), rfl, trivial, by rw [ht]; exact hP, va_K.moved hW.alike hK, hD⟩, hS.F ht⟩) hS.2.2 dX4_init_90

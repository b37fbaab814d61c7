/-! THE CLAIM OUT OF ONE WALK OF THE LAW'S BODY. Your part is whole_start (and what it stands on); all else here is the same for every law, but numbers. -/
def R_law : String := "RisingPartsLaw"
def lw_P (b : Addr) (xs : List Int32) (args : Array Value) (s : State) : Prop := args = #[.ref b] ∧ s.IntsAt b xs ∧ xs.length ≤ 2048 ∧ (Jvm.Cond.and given_1 narrow_1).before args s = true
/-- what a walk over the start with the record d0 says of its end, said of the start itself -/
theorem lw_closed {s t : State} {o : Outcome} {d0 : Drawn} {L : List Loc} {k n : Nat} (hd0 : s.drawn.sameBut d0 lw_cs) (hv : ∃ v, o = .returned v) (hW : (s.setDrawn d0).WarmedH t.vm) (hs : (s.setDrawn d0).sameButNew ({ t with vm := s.vm } : State) L k n) : State.butDraws s t lw_cs (fun t1 => Framed s o t1 L k n) := by
  have h2 : t.drawn = d0 := congrArg State.drawn hs.1
  refine ⟨⟨hv, hW, State.sameButNew.setDrawn hs s.drawn⟩, ?_, by decide⟩
  rw [h2]
  exact hd0
def lw_Q (_ : Array Value) (s : State) (o : Outcome) (t : State) : Prop := o = .returned (some (.int 1)) ∧ State.butDraws s t lw_cs (fun t1 => Framed s o t1 [] 18 9592)
def lw_Z (below : List Frame) (a : Array Value) (s : State) : State → Prop := fun t => ∃ o, t.status = .running ∧ Ended t below o ∧ lw_Q a s o t
/-- the law's own end, with 1 on the stack, nothing written that was there before, its room as the claim has it; d0: the record of draws at this point (at the entry s.drawn: begin with 'refine W.base ?_' and 'have hd0 := Drawn.sameBut.refl s.drawn lw_cs') -/
theorem lw_ret {p : Program} {l : Launch} {e : Env} {s : State} {m : MethodId} {below : List Frame} {meth : Method} {c : Code} {b : Nat} {d0 : Drawn} (hd0 : s.drawn.sameBut d0 lw_cs) (hx : p.tables.exec = Jvm.exec) (hb : c.code = code) (hr : meth.sig.returnType = ret) (hlocks : meth.locks = false) {pc : Nat} {H : Heap} {ls : Array Slot} (hdg : decode code pc = .ok (.ireturn, 1)) : W p l e room_1 (s.setDrawn d0) m #[Value.ref b] below meth c H [] 18 9592 (lw_Z below #[Value.ref b] s) (F0 m pc ls [.int 1]) := by
  intro T hT X
  obtain ⟨fs, hret, hrun, hended, hW, hframe⟩ := X.leave (v := some (.int 1)) (hlocks := hlocks) (fun h => by rw [hr] at h; cases h)
  have hmeth' : T.vm.method? m = some meth := X.method'
  refine ⟨T.setFrames fs, ?_, .returned (some (.int 1)), hrun, hended, rfl, lw_closed hd0 ⟨_, rfl⟩ hW hframe⟩
  jvm_step X.here [X.here.top, hx, hb, hdg, hmeth', hr, ret, narrow_b1]
  (try refine ⟨rfl, ?_⟩); (try refine ⟨rfl, ?_⟩)
  first | (intro acts; rw [hret _ acts rfl rfl rfl]) | rw [hret _ _ rfl rfl rfl]
  exact Steps.refl _
/-- what holds at the law's entry: the machine, the code, the tables' words (any of lw_tbl by 'hts w (by decide +kernel)'), the script of L ints xs at the cell b, what the Statement gives of the start (any of its parts by flat_of_before) -/
def lw_At (p : Program) (s : State) (m : MethodId) (meth : Method) (c : Code) (b L : Nat) (xs : Nat → Int32) : Prop :=
  p.tables.exec = Jvm.exec ∧ c.code = code ∧ meth.sig.returnType = ret ∧ c.maxLocals = 4 ∧ s.vm.findClass R_law = some m.cls ∧ (∀ w ∈ lw_tbl, w.before #[Value.ref b] s = true) ∧ va_X b L xs s s.heap ∧ b < s.heap.size ∧ meth.locks = false ∧ (Jvm.Cond.and given_1 narrow_1).before #[Value.ref b] s = true

/-! the law's body: all that stays the same while it runs -/
abbrev Gm : Type := Program × Launch × Env × State × MethodId × List Frame × Method × Code × Nat × va_G × ClassId × ClassId × (Int → Nat)
def LCx (g : Gm) (L : Nat) (xs : Nat → Int32) : Prop := match g with
  | (p, _, _, s, m, _, meth, c, b, D, cI, cC, ad) => lw_At p s m meth c b L xs ∧ L ≤ 2048 ∧ va_K D vwCl (Tys cI cC) s ∧ ad 99 = b
def WL (g : Gm) (pc : Nat) (Lv st : List rV) (w : rW) : Prop := match g with
  | (p, l, e, s, m, below, meth, c, b, D, cI, cC, ad) => ∀ (H : Heap) (locs : List Loc) (ls : Array Slot), va_P D vwCl (wl ad cI cC w) H → va_D (fun q : Nat => s.heap.size ≤ q) (wl ad cI cC w) → va_S (fun q : Nat => s.heap.size ≤ q) s.heap H locs → lR ad 4 Lv ls → W p l e room_1 s m #[Value.ref b] below meth c H locs 18 9592 (lw_Z below #[Value.ref b] s) (F0 m pc ls (st.map (cv ad)))
/-- the script's int at a place -/
def sc (xs : Nat → Int32) (i : Int) : Int := (xs i.toNat).toInt
theorem sc_r (xs : Nat → Int32) (i : Int) : R32 (sc xs i) := ⟨Int32.le_toInt _, Int32.toInt_lt _⟩
theorem sc_f (xs : Nat → Int32) (i : Int) : fI (sc xs i) = xs i.toNat := Int32.ofInt_toInt _

theorem g_iload {g : Gm} {L : Nat} {xs : Nat → Int32} (hC : LCx g L xs) {pc : Nat} {Lv st : List rV} {w : rW} {k : Fin 4} (i : Nat) {a : Int} (hd : decode code pc = .ok (.iload_n k, 1)) (hi : (k : Nat) = i) (hL1 : Lv[i]? = some (vi a)) (h : WL g (pc + 1) Lv (vi a :: st) w) : WL g pc Lv st w := by
  obtain ⟨p, l, e, s, m, below, meth, c, b, D, cI, cC, ad⟩ := g
  obtain ⟨⟨hx, hb, hr, hml, hown, hts, hX, hbl, hlocks, hgv⟩, hL, hK, h99⟩ := hC
  intro H locs ls hP hD hS hl
  exact lv_iload_n hx hb hd hi (hl.2.2 i _ hL1 (Nat.le_of_ble_eq_true rfl)) (h H locs ls hP hD hS hl)
theorem g_aload {g : Gm} {L : Nat} {xs : Nat → Int32} (hC : LCx g L xs) {pc : Nat} {Lv st : List rV} {w : rW} {k : Fin 4} (i : Nat) {a : Int} (hd : decode code pc = .ok (.aload_n k, 1)) (hi : (k : Nat) = i) (hL1 : Lv[i]? = some (vr a)) (h : WL g (pc + 1) Lv (vr a :: st) w) : WL g pc Lv st w := by
  obtain ⟨p, l, e, s, m, below, meth, c, b, D, cI, cC, ad⟩ := g
  obtain ⟨⟨hx, hb, hr, hml, hown, hts, hX, hbl, hlocks, hgv⟩, hL, hK, h99⟩ := hC
  intro H locs ls hP hD hS hl
  exact lv_aload_n hx hb hd hi (hl.2.2 i _ hL1 (Nat.le_of_ble_eq_true rfl)) (h H locs ls hP hD hS hl)
theorem g_iconst {g : Gm} {L : Nat} {xs : Nat → Int32} (hC : LCx g L xs) {pc : Nat} {Lv st : List rV} {w : rW} {n : Int} (hd : decode code pc = .ok (.iconst n, 1)) (h : WL g (pc + 1) Lv (vi n :: st) w) : WL g pc Lv st w := by
  obtain ⟨p, l, e, s, m, below, meth, c, b, D, cI, cC, ad⟩ := g
  obtain ⟨⟨hx, hb, hr, hml, hown, hts, hX, hbl, hlocks, hgv⟩, hL, hK, h99⟩ := hC
  intro H locs ls hP hD hS hl
  exact lv_iconst hx hb hd rfl (h H locs ls hP hD hS hl)
theorem g_bipush {g : Gm} {L : Nat} {xs : Nat → Int32} (hC : LCx g L xs) {pc : Nat} {Lv st : List rV} {w : rW} {n : Int} (hd : decode code pc = .ok (.bipush n, 2)) (hn : (Int8.ofInt n).toInt32 = fI n) (h : WL g (pc + 2) Lv (vi n :: st) w) : WL g pc Lv st w := by
  obtain ⟨p, l, e, s, m, below, meth, c, b, D, cI, cC, ad⟩ := g
  obtain ⟨⟨hx, hb, hr, hml, hown, hts, hX, hbl, hlocks, hgv⟩, hL, hK, h99⟩ := hC
  intro H locs ls hP hD hS hl
  exact lv_bipush hx hb hd hn (h H locs ls hP hD hS hl)
theorem g_iadd {g : Gm} {L : Nat} {xs : Nat → Int32} (hC : LCx g L xs) {pc : Nat} {Lv st : List rV} {w : rW} {a b : Int} (hd : decode code pc = .ok (.iadd, 1)) (h : WL g (pc + 1) Lv (vi (a + b) :: st) w) : WL g pc Lv (vi b :: vi a :: st) w := by
  obtain ⟨p, l, e, s, m, below, meth, c, b0, D, cI, cC, ad⟩ := g
  obtain ⟨⟨hx, hb, hr, hml, hown, hts, hX, hbl, hlocks, hgv⟩, hL, hK, h99⟩ := hC
  intro H locs ls hP hD hS hl
  have h := h H locs ls hP hD hS hl
  refine lv_iadd (x := fI a) (y := fI b) hx hb hd ?_
  rw [fI_add]
  exact h
theorem g_isub {g : Gm} {L : Nat} {xs : Nat → Int32} (hC : LCx g L xs) {pc : Nat} {Lv st : List rV} {w : rW} {a b : Int} (hd : decode code pc = .ok (.isub, 1)) (h : WL g (pc + 1) Lv (vi (a - b) :: st) w) : WL g pc Lv (vi b :: vi a :: st) w := by
  obtain ⟨p, l, e, s, m, below, meth, c, b0, D, cI, cC, ad⟩ := g
  obtain ⟨⟨hx, hb, hr, hml, hown, hts, hX, hbl, hlocks, hgv⟩, hL, hK, h99⟩ := hC
  intro H locs ls hP hD hS hl
  have h := h H locs ls hP hD hS hl
  refine lv_isub (x := fI a) (y := fI b) hx hb hd ?_
  rw [fI_sub]
  exact h
theorem and31 (x : Int32) : ∃ a : Int, 0 ≤ a ∧ a ≤ 31 ∧ x &&& fI 31 = fI a := by
  refine ⟨(x &&& fI 31).toInt, ?_, ?_, (Int32.ofInt_toInt _).symm⟩
  all_goals
    have h1 : (x &&& fI 31).toBitVec.toNat ≤ 31 := by
      show (x.toBitVec &&& (fI 31).toBitVec).toNat ≤ 31
      rw [BitVec.toNat_and]
      exact Nat.le_trans Nat.and_le_right (Nat.le_of_ble_eq_true rfl)
    have h2 : (x &&& fI 31).toInt = ((x &&& fI 31).toBitVec.toNat : Int) := BitVec.toInt_eq_toNat_of_lt (by omega)
    omega
theorem g_iand {g : Gm} {L : Nat} {xs : Nat → Int32} (hC : LCx g L xs) {pc : Nat} {Lv st : List rV} {w : rW} {a : Int} (hd : decode code pc = .ok (.iand, 1)) (h : ∀ m : Int, 0 ≤ m → m ≤ 31 → WL g (pc + 1) Lv (vi m :: st) w) : WL g pc Lv (vi 31 :: vi a :: st) w := by
  obtain ⟨p, l, e, s, m, below, meth, c, b, D, cI, cC, ad⟩ := g
  obtain ⟨⟨hx, hb, hr, hml, hown, hts, hX, hbl, hlocks, hgv⟩, hL, hK, h99⟩ := hC
  intro H locs ls hP hD hS hl
  obtain ⟨m1, m0, m31, e1⟩ := and31 (fI a)
  have h := h m1 m0 m31 H locs ls hP hD hS hl
  refine lv_iand (x := fI a) (y := fI 31) hx hb hd ?_
  rw [e1]
  exact h
theorem g_sld {g : Gm} {L : Nat} {xs : Nat → Int32} (hC : LCx g L xs) {pc : Nat} {Lv st : List rV} {w : rW} {i : Int} (hd : decode code pc = .ok (.iaload, 1)) (h0 : 0 ≤ i) (h1 : i < L) (h : WL g (pc + 1) Lv (vi (sc xs i) :: st) w) : WL g pc Lv (vi i :: vr 99 :: st) w := by
  obtain ⟨p, l, e, s, m, below, meth, c, b, D, cI, cC, ad⟩ := g
  obtain ⟨⟨hx, hb, hr, hml, hown, hts, hX, hbl, hlocks, hgv⟩, hL, hK, h99⟩ := hC
  intro H locs ls hP hD hS hl
  have h := h H locs ls hP hD hS hl
  have h2 : W p l e room_1 s m #[Value.ref b] below meth c H locs 18 9592 (lw_Z below #[Value.ref b] s) (F0 m pc ls (.int (fI i) :: .ref b :: st.map (cv ad))) := by
    refine va_sld hx hb hX hbl (Nat.not_le.mpr hbl) hS (fI_in h0 h1 (by omega)) hd ?_
    rw [fI_cl h0 (by omega), ← sc_f xs i]
    exact h
  show W p l e room_1 s m #[Value.ref b] below meth c H locs 18 9592 (lw_Z below #[Value.ref b] s) (F0 m pc ls (.int (fI i) :: .ref (ad 99) :: st.map (cv ad)))
  rw [h99]
  exact h2
theorem g_slen {g : Gm} {L : Nat} {xs : Nat → Int32} (hC : LCx g L xs) {pc : Nat} {Lv st : List rV} {w : rW} (hd : decode code pc = .ok (.arraylength, 1)) (h : WL g (pc + 1) Lv (vi L :: st) w) : WL g pc Lv (vr 99 :: st) w := by
  obtain ⟨p, l, e, s, m, below, meth, c, b, D, cI, cC, ad⟩ := g
  obtain ⟨⟨hx, hb, hr, hml, hown, hts, hX, hbl, hlocks, hgv⟩, hL, hK, h99⟩ := hC
  intro H locs ls hP hD hS hl
  have h := h H locs ls hP hD hS hl
  have h2 : W p l e room_1 s m #[Value.ref b] below meth c H locs 18 9592 (lw_Z below #[Value.ref b] s) (F0 m pc ls (.ref b :: st.map (cv ad))) := va_slen hx hb hX hbl (Nat.not_le.mpr hbl) hS hd h
  show W p l e room_1 s m #[Value.ref b] below meth c H locs 18 9592 (lw_Z below #[Value.ref b] s) (F0 m pc ls (.ref (ad 99) :: st.map (cv ad)))
  rw [h99]
  exact h2
theorem g_icmp_gt {g : Gm} {L : Nat} {xs : Nat → Int32} (hC : LCx g L xs) {pc : Nat} {Lv st : List rV} {w : rW} {a b : Int} {off : Int} (tgt : Nat) (hd : decode code pc = .ok (.if_icmp .gt off, 3)) (ht : (pc : Int) + off = (tgt : Int)) (h1 : R32 a) (h2 : R32 b) (hp : b < a → WL g tgt Lv st w) (hn : a ≤ b → WL g (pc + 3) Lv st w) : WL g pc Lv (vi b :: vi a :: st) w := by
  obtain ⟨p, l, e, s, m, below, meth, c, b0, D, cI, cC, ad⟩ := g
  obtain ⟨⟨hx, hb, hr, hml, hown, hts, hX, hbl, hlocks, hgv⟩, hL, hK, h99⟩ := hC
  intro H locs ls hP hD hS hl
  have ef : fI b < fI a ↔ b < a := fI_lt h2 h1
  exact lv_icmp_gt (x := fI a) (y := fI b) hx hb hd ht (fun q => hp (ef.mp q) H locs ls hP hD hS hl) (fun q => hn (Int.not_lt.mp (fun z => q (ef.mpr z))) H locs ls hP hD hS hl)
theorem g_icmp_eq {g : Gm} {L : Nat} {xs : Nat → Int32} (hC : LCx g L xs) {pc : Nat} {Lv st : List rV} {w : rW} {a b : Int} {off : Int} (tgt : Nat) (hd : decode code pc = .ok (.if_icmp .eq off, 3)) (ht : (pc : Int) + off = (tgt : Int)) (h1 : R32 a) (h2 : R32 b) (hp : a = b → WL g tgt Lv st w) (hn : ¬ a = b → WL g (pc + 3) Lv st w) : WL g pc Lv (vi b :: vi a :: st) w := by
  obtain ⟨p, l, e, s, m, below, meth, c, b0, D, cI, cC, ad⟩ := g
  obtain ⟨⟨hx, hb, hr, hml, hown, hts, hX, hbl, hlocks, hgv⟩, hL, hK, h99⟩ := hC
  intro H locs ls hP hD hS hl
  have ef : fI a = fI b ↔ a = b := fI_eq h1 h2
  exact lv_icmp_eq (x := fI a) (y := fI b) hx hb hd ht (fun q => hp (ef.mp q) H locs ls hP hD hS hl) (fun q => hn (fun z => q (ef.mpr z)) H locs ls hP hD hS hl)
theorem g_lcmp {g : Gm} {L : Nat} {xs : Nat → Int32} (hC : LCx g L xs) {pc : Nat} {Lv st : List rV} {w : rW} {a b : Int} (hd : decode code pc = .ok (.lcmp, 1)) (h1 : R64 a) (h2 : R64 b) (h : WL g (pc + 1) Lv (vi (lcm a b) :: st) w) : WL g pc Lv (vl b :: vl a :: st) w := by
  obtain ⟨p, l, e, s, m, below, meth, c, b0, D, cI, cC, ad⟩ := g
  obtain ⟨⟨hx, hb, hr, hml, hown, hts, hX, hbl, hlocks, hgv⟩, hL, hK, h99⟩ := hC
  intro H locs ls hP hD hS hl
  have h := h H locs ls hP hD hS hl
  refine W.lcmp (x := fL a) (y := fL b) hx hb hd ?_
  rw [show lg_cmp (fL a) (fL b) = fI (lcm a b) from by
    unfold lg_cmp lcm
    simp only [fL_lt h1 h2, fL_lt h2 h1, fL_eq h1 h2]
    repeat' split
    all_goals first | rfl | omega]
  exact h
theorem g_if_eq {g : Gm} {L : Nat} {xs : Nat → Int32} (hC : LCx g L xs) {pc : Nat} {Lv st : List rV} {w : rW} {a : Int} {off : Int} (tgt : Nat) (hd : decode code pc = .ok (.ifCond .eq off, 3)) (ht : (pc : Int) + off = (tgt : Int)) (h1 : R32 a) (hp : a = 0 → WL g tgt Lv st w) (hn : ¬ a = 0 → WL g (pc + 3) Lv st w) : WL g pc Lv (vi a :: st) w := by
  obtain ⟨p, l, e, s, m, below, meth, c, b, D, cI, cC, ad⟩ := g
  obtain ⟨⟨hx, hb, hr, hml, hown, hts, hX, hbl, hlocks, hgv⟩, hL, hK, h99⟩ := hC
  intro H locs ls hP hD hS hl
  have ef : fI a = 0 ↔ a = 0 := fI_eq (b := 0) h1 (⟨by decide, by decide⟩ : R32 0)
  exact lv_if_eq (x := fI a) hx hb hd ht (fun q => hp (ef.mp q) H locs ls hP hD hS hl) (fun q => hn (fun z => q (ef.mpr z)) H locs ls hP hD hS hl)
theorem g_tbl {g : Gm} {L : Nat} {xs : Nat → Int32} (hC : LCx g L xs) {pc : Nat} {Lv st : List rV} {w : rW} {dflt lo hi : Int} {offs : Array Int} {len : Nat} {a : Int} (d : Nat) (hd : decode code pc = .ok (.tableswitch dflt lo hi offs, len)) (ht : (pc : Int) + dflt = (d : Int)) (h1 : R32 a) (hin : lo ≤ a → a ≤ hi → ∃ (off : Int) (t : Nat), offs[(a - lo).toNat]? = some off ∧ (pc : Int) + off = (t : Int) ∧ WL g t Lv st w) (hout : a < lo ∨ hi < a → WL g d Lv st w) : WL g pc Lv (vi a :: st) w := by
  obtain ⟨p, l, e, s, m, below, meth, c, b, D, cI, cC, ad⟩ := g
  obtain ⟨⟨hx, hb, hr, hml, hown, hts, hX, hbl, hlocks, hgv⟩, hL, hK, h99⟩ := hC
  intro H locs ls hP hD hS hl
  have ef := fI_t h1
  by_cases hz : a < lo ∨ hi < a
  · exact lv_tableOut (x := fI a) hx hb hd (by rw [ef]; exact hz) ht (hout hz H locs ls hP hD hS hl)
  · obtain ⟨off, t, g1, g2, g3⟩ := hin (by omega) (by omega)
    exact lv_tableIn (x := fI a) hx hb hd (by rw [ef]; omega) (by rw [ef]; omega) (by rw [ef]; exact g1) g2 (g3 H locs ls hP hD hS hl)
theorem g_goto {g : Gm} {L : Nat} {xs : Nat → Int32} (hC : LCx g L xs) {pc : Nat} {Lv st : List rV} {w : rW} {off : Int} (tgt : Nat) (hd : decode code pc = .ok (.goto off, 3)) (ht : (pc : Int) + off = (tgt : Int)) (h : WL g tgt Lv st w) : WL g pc Lv st w := by
  obtain ⟨p, l, e, s, m, below, meth, c, b, D, cI, cC, ad⟩ := g
  obtain ⟨⟨hx, hb, hr, hml, hown, hts, hX, hbl, hlocks, hgv⟩, hL, hK, h99⟩ := hC
  intro H locs ls hP hD hS hl
  exact lv_goto hx hb hd ht (h H locs ls hP hD hS hl)
theorem g_iinc {g : Gm} {L : Nat} {xs : Nat → Int32} (hC : LCx g L xs) {pc : Nat} {Lv st : List rV} {w : rW} {i : Nat} {a n : Int} (hd : decode code pc = .ok (.iinc i n, 3)) (hL1 : Lv[i]? = some (vi a)) (hn : i < 4) (hk : nlb Lv i = true) (h : WL g (pc + 3) (Lv.set i (vi (a + n))) st w) : WL g pc Lv st w := by
  obtain ⟨p, l, e, s, m, below, meth, c, b, D, cI, cC, ad⟩ := g
  obtain ⟨⟨hx, hb, hr, hml, hown, hts, hX, hbl, hlocks, hgv⟩, hL, hK, h99⟩ := hC
  intro H locs ls hP hD hS hl
  obtain ⟨k, hk1⟩ := List.getElem?_of_mem (mem_prs.mpr ⟨i, vi a, hL1, Nat.le_of_ble_eq_true rfl, rfl⟩ : (i, cv ad (vi a)) ∈ prs ad Lv)
  exact lv_iinc (v := fI (a + n)) hx hb hd hl.has hk1 (fI_add a n) hn rfl (fun ls' hl' => h H locs ls' hP hD hS (lR.st1 (x := vi (a + n)) hk hl'))
theorem g_end {g : Gm} {L : Nat} {xs : Nat → Int32} (hC : LCx g L xs) {pc : Nat} {Lv : List rV} {w : rW} (hd : decode code pc = .ok (.ireturn, 1)) : WL g pc Lv [vi 1] w := by
  obtain ⟨p, l, e, s, m, below, meth, c, b, D, cI, cC, ad⟩ := g
  obtain ⟨⟨hx, hb, hr, hml, hown, hts, hX, hbl, hlocks, hgv⟩, hL, hK, h99⟩ := hC
  intro H locs ls hP hD hS hl
  refine va_forget (fun q hq => hS.2.2 q hq) ?_
  refine W.base ?_
  exact lw_ret (Drawn.sameBut.refl s.drawn lw_cs) hx hb hr hlocks hd
theorem g_callV {g : Gm} {L : Nat} {xs : Nat → Int32} (hC : LCx g L xs) {pc : Nat} {Lv st : List rV} {w : rW} {Q' : List rV → rW → Prop} {r : Int} {index : Nat} {μ' : MI} {n : Nat} (ci : Nat) {T1 : u_T} {N1 : Nat} (av : List rV) (hd : decode code pc = .ok (.invokevirtual index, 3)) (hm : mOk μ' n) (w1 : Cond.methodLink RL index (mN μ') ∈ gT) (w2 : Cond.instanceMethod (mN μ') ∈ gT) (w3 : Cond.selects (mN μ').cls (mN μ') (mN μ') ∈ gT) (hcl : vwCl[ci]? = some ((mN μ').cls, T1, N1)) (hc4 : ci ≤ 4) (ho : oc r = ci) (hroom : mF μ' + 1 ≤ 9 ∧ 8 + (mL μ' + 11) + mO μ' ≤ 304) (hst : st.length ≤ 4) (hav : ∀ x ∈ av, x.1 ≠ 2) (hlen : av.length = n) (hl1 : av.length + 1 ≤ mL μ')
    (hW : WP μ' 0 ((vr r :: av) ++ List.replicate (mL μ' - (av.length + 1)) vu) [] w Q') (h : ∀ v w', Q' v w' → WL g (pc + 3) Lv (v ++ st) w') : WL g pc Lv (av.reverse ++ vr r :: st) w := by
  obtain ⟨p, l, e, s, m, below, meth, c, b, D, cI, cC, ad⟩ := g
  obtain ⟨⟨hx, hb, hr, hml, hown, hts, hX, hbl, hlocks, hgv⟩, hL, hK, h99⟩ := hC
  intro H locs ls hP hD hS hl
  obtain ⟨m1, m2, m3, m4⟩ := hm
  have hcat := cat_le (ad := ad) (st := st)
  have hts1 : ∀ w ∈ gT, w.before #[Value.ref b] s = true := fun w hw => hts w (List.mem_filter.mp hw).1
  have hN : nOk s := nOk.of hts
  have ha2 : ∀ x ∈ (vr r :: av), x.1 ≠ 2 := fun x hx => by
    rcases List.mem_cons.mp hx with rfl | hx
    · show (1 : Nat) ≠ 2
      decide
    · exact hav x hx
  have hM := met_of (av := vr r :: av) m1 hW l D cI cC ad H.size (by rw [arg_len ha2]; exact hl1) (arg_L _ ha2)
  obtain ⟨q0, hq0⟩ := oc_at (ad := ad) (cI := cI) (cC := cC) (w := w) ho hc4
  have hR : mF μ' + 1 ≤ room_1.frames ∧ 8 + (mL μ' + 11) + mO μ' ≤ room_1.locals := hroom
  have hG : GoodIn gT (wsV RL index (mN μ').cls (mN μ') (wsT μ')) := fun x hx => by
    unfold wsV at hx
    rcases List.mem_append.mp hx with hx | hx
    · simp only [List.mem_cons, List.not_mem_nil, or_false] at hx
      rcases hx with rfl | rfl | rfl | rfl
      · exact gT_good _ w1
      · exact gT_good _ w2
      · exact gT_good _ w3
      · exact gT_good _ m3
    · exact wsT_good m2 x hx
  have hrun := va_runV (p := p) (l := l) (e := e) (R := room_1) (below := below) (meth := meth) (locs := locs) (cells := 18) (slots := 9592) (g := F0 m pc ls ((av.reverse ++ vr r :: st).map (cv ad))) (As := av.map (cv ad)) (rest := st.map (cv ad)) (nL := 4) (C := (mN μ').cls) (b := ad r) (index := index) (n := n) (mc := 0) (ms := 0) ⟨hx, hb, hml, hown, hts1⟩ hM (cwV n hts1 hG rfl rfl rfl ⟨rfl, m4⟩ hR)
    ⟨PcT.blind, va_recv hK hP (ci := ci) (q := ((mN μ').cls, T1, N1)) (q0 := q0) hcl hq0, fun U hU hW => ⟨by simp [cv, vr], by rw [hU], by rw [hU]; exact hP, va_K.moved hW.alike hK, hD.weaken (fun _ _ _ _ => trivial), hN.warm hW⟩⟩ rfl (by rw [List.length_map]; exact hlen) hl.1 (by simp [cv, vr]) (lv_room (by omega)) hd ⟨Nat.le_of_ble_eq_true rfl, Nat.le_of_ble_eq_true rfl⟩
  exact call_W hD hS (fun q hq => hq) hrun (fun v w' H1 locs1 hq1 hP1 hD1 hS1 => by
    have h2 := h v w' hq1 H1 locs1 ls hP1 hD1 hS1 hl
    rwa [List.map_append] at h2)

/-! numbers of the worlds: Int, and what the machine holds of them -/
abbrev R32 (a : Int) : Prop := -2147483648 ≤ a ∧ a < 2147483648
abbrev R64 (a : Int) : Prop := -9223372036854775808 ≤ a ∧ a < 9223372036854775808
theorem fI_add (a b : Int) : fI a + fI b = fI (a + b) := (Int32.ofInt_add a b).symm
theorem fI_sub (a b : Int) : fI a - fI b = fI (a - b) := (Int32.ofInt_sub a b).symm
theorem fI_mul (a b : Int) : fI a * fI b = fI (a * b) := (Int32.ofInt_mul a b).symm
theorem fI_neg (a : Int) : - fI a = fI (-a) := (Int32.ofInt_neg a).symm
theorem fL_add (a b : Int) : fL a + fL b = fL (a + b) := (Int64.ofInt_add a b).symm
theorem fL_sub (a b : Int) : fL a - fL b = fL (a - b) := (Int64.ofInt_sub a b).symm
theorem fL_mul (a b : Int) : fL a * fL b = fL (a * b) := (Int64.ofInt_mul a b).symm
theorem fI_t {a : Int} (h : R32 a) : (fI a).toInt = a := Int32.toInt_ofInt_of_le h.1 h.2
theorem fL_t {a : Int} (h : R64 a) : (fL a).toInt = a := Int64.toInt_ofInt_of_le h.1 h.2
theorem fI_lt {a b : Int} (ha : R32 a) (hb : R32 b) : fI a < fI b ↔ a < b := by rw [fa_lt, fI_t ha, fI_t hb]
theorem fI_le {a b : Int} (ha : R32 a) (hb : R32 b) : fI a ≤ fI b ↔ a ≤ b := by rw [fa_le, fI_t ha, fI_t hb]
theorem fI_eq {a b : Int} (ha : R32 a) (hb : R32 b) : fI a = fI b ↔ a = b := by rw [fa_eq, fI_t ha, fI_t hb]
theorem fI_nI {a : Int} (h : 0 ≤ a) : fI a = nI a.toNat := by
  obtain ⟨n, rfl⟩ := Int.eq_ofNat_of_zero_le h
  rfl
theorem nI_fI (n : Nat) : nI n = fI n := rfl
theorem fL_lN {a : Int} (h : 0 ≤ a) : fL a = lN a.toNat := by
  obtain ⟨n, rfl⟩ := Int.eq_ofNat_of_zero_le h
  rfl
theorem lN_fL (n : Nat) : lN n = fL n := rfl
theorem fI_0 : fI 0 = 0 := rfl
theorem fI_in {i : Int} {n : Nat} (h0 : 0 ≤ i) (h : i < n) (hn : n < 5000) : vp_in (fI i) n := by
  rw [vp_in_iff, fI_t ⟨by omega, by omega⟩]
  exact ⟨h0, h⟩
theorem fI_cl {i : Int} (h0 : 0 ≤ i) (h : i < 2147483648) : (fI i).toNatClampNeg = i.toNat := by
  rw [fI_nI h0, nI_clamp (by omega)]
theorem fI_div {a b : Int} (ha : 0 ≤ a) (ha2 : a < 2147483648) (hb : 0 < b) (hb2 : b < 2147483648) : fI a / fI b = fI (a / b) := by
  rw [fI_nI ha, fI_nI (by omega : 0 ≤ b), pk_div (by omega) (by omega) (by omega), nI_fI]
  congr 1
  rw [Int.natCast_ediv, Int.toNat_of_nonneg ha, Int.toNat_of_nonneg (by omega : 0 ≤ b)]
theorem fI_rem {a b : Int} (ha : 0 ≤ a) (ha2 : a < 2147483648) (hb : 0 < b) (hb2 : b < 2147483648) : fI a - fI a / fI b * fI b = fI (a % b) := by
  rw [fI_nI ha, fI_nI (by omega : 0 ≤ b), pk_rem (by omega) (by omega) (by omega), nI_fI]
  congr 1
  rw [Int.natCast_emod, Int.toNat_of_nonneg ha, Int.toNat_of_nonneg (by omega : 0 ≤ b)]
def iA (a b : Int) : Int := ((a.toNat &&& b.toNat : Nat) : Int)
def iO (a b : Int) : Int := ((a.toNat ||| b.toNat : Nat) : Int)
theorem fI_and {a b : Int} (ha : 0 ≤ a) (hb : 0 ≤ b) : fI a &&& fI b = fI (iA a b) := by
  rw [fI_nI ha, fI_nI hb, fa_and]; rfl
theorem sh_l {k : Int} (h0 : 0 ≤ k) (h : k < 32) : ((fI k &&& 31).toBitVec.smod 32).toNat = k.toNat := by
  rw [fI_nI h0]
  exact s_l _ (by omega)
theorem fI_shl {a k : Int} (ha : 0 ≤ a) (h0 : 0 ≤ k) (hk : k < 32) (h : a * 2 ^ k.toNat < 4294967296) : fI a <<< (fI k &&& 31) = fI (a * 2 ^ k.toNat) := by
  obtain ⟨n, rfl⟩ := Int.eq_ofNat_of_zero_le ha
  show nI n <<< _ = _
  have h2 : n * 2 ^ k.toNat < 2 ^ 32 := by
    have h3 : ((n * 2 ^ k.toNat : Nat) : Int) < 4294967296 := by push_cast; exact h
    omega
  rw [pk_shlN _ _ (sh_l h0 hk) h2, nI_fI]
  push_cast
  rfl
theorem fI_shr {a k : Int} (ha : 0 ≤ a) (ha2 : a < 2147483648) (h0 : 0 ≤ k) (hk : k < 32) : fI a >>> (fI k &&& 31) = fI (a / 2 ^ k.toNat) := by
  obtain ⟨n, rfl⟩ := Int.eq_ofNat_of_zero_le ha
  show nI n >>> _ = _
  rw [pk_shrN (by omega) _ _ (sh_l h0 hk), nI_fI]
  push_cast
  rfl
theorem fI_i2l {a : Int} (h : R32 a) : (fI a).toInt64 = fL a := by
  rw [fa_eq64, Int32.toInt_toInt64, fI_t h, fL_t ⟨by omega, by omega⟩]
theorem fL_l2i (a : Int) : (fL a).toInt32 = fI a := Int64.toInt32_ofInt
theorem fL_lt {a b : Int} (ha : R64 a) (hb : R64 b) : fL a < fL b ↔ a < b := by rw [fa_lt64, fL_t ha, fL_t hb]
theorem fL_eq {a b : Int} (ha : R64 a) (hb : R64 b) : fL a = fL b ↔ a = b := by rw [fa_eq64, fL_t ha, fL_t hb]
theorem fL_div {a b : Int} (ha : 0 ≤ a) (ha2 : a < 9223372036854775808) (hb : 0 < b) (hb2 : b < 9223372036854775808) : fL a / fL b = fL (a / b) := by
  rw [fL_lN ha, fL_lN (by omega : 0 ≤ b), pk_lDiv (by omega) (by omega) (by omega), lN_fL]
  congr 1
  rw [Int.natCast_ediv, Int.toNat_of_nonneg ha, Int.toNat_of_nonneg (by omega : 0 ≤ b)]
theorem fL_rem {a b : Int} (ha : 0 ≤ a) (ha2 : a < 9223372036854775808) (hb : 0 < b) (hb2 : b < 9223372036854775808) : fL a - fL a / fL b * fL b = fL (a % b) := by
  rw [fL_lN ha, fL_lN (by omega : 0 ≤ b), pk_lRem (by omega) (by omega) (by omega), lN_fL]
  congr 1
  rw [Int.natCast_emod, Int.toNat_of_nonneg ha, Int.toNat_of_nonneg (by omega : 0 ≤ b)]
theorem fL_and {a b : Int} (ha : R64 a) (hb : R64 b) (ha0 : 0 ≤ a) (hb0 : 0 ≤ b) : fL a &&& fL b = fL (iA a b) := by
  rw [fL_lN ha0, fL_lN hb0, wb_and (by omega) (by omega)]; rfl
theorem fL_or {a b : Int} (ha : R64 a) (hb : R64 b) (ha0 : 0 ≤ a) (hb0 : 0 ≤ b) : fL a ||| fL b = fL (iO a b) := by
  rw [fL_lN ha0, fL_lN hb0, wb_or (by omega) (by omega)]; rfl
theorem fL_shl {a k : Int} (ha : 0 ≤ a) (h0 : 0 ≤ k) (hk : k < 64) : fL a <<< ((fI k).toInt64 &&& 63) = fL (a * 2 ^ k.toNat) := by
  obtain ⟨n, rfl⟩ := Int.eq_ofNat_of_zero_le ha
  rw [fI_nI h0]
  show lN n <<< _ = _
  rw [wb_shl _ (by omega), lN_fL]
  push_cast
  rfl
theorem sh_sm : ∀ k, k < 64 → (((nI k).toInt64 &&& 63).toBitVec.smod 64).toNat = k := by decide +kernel
theorem fL_shr {a k : Int} (ha : 0 ≤ a) (ha2 : a < 4611686018427387904) (h0 : 0 ≤ k) (hk : k < 64) : fL a >>> ((fI k).toInt64 &&& 63) = fL (a / 2 ^ k.toNat) := by
  obtain ⟨n, rfl⟩ := Int.eq_ofNat_of_zero_le ha
  rw [fI_nI h0]
  show lN n >>> _ = _
  rw [pf_shr (sh_sm _ (by omega)) (by omega), lN_fL]
  push_cast
  rfl
theorem fI_char {a : Int} (h0 : 0 ≤ a) (h : a < 65536) : ((fI a).toUInt32 % 65536).toInt32 = fI a := by
  obtain ⟨n, rfl⟩ := Int.eq_ofNat_of_zero_le h0
  show ((nI n).toUInt32 % 65536).toInt32 = nI n
  rw [pk_char, pk_tn (by omega), Nat.mod_eq_of_lt (by omega)]
theorem fF_f (x : UInt32) : fF (x.toNat : Int) = x := by
  unfold fF
  simp
def lcm (a b : Int) : Int := if a < b then -1 else if a = b then 0 else 1
/-! the rules: an instruction each -/
theorem q_iconst {μ : MI} {pc : Nat} {L st : List rV} {w : rW} {Q : List rV → rW → Prop} {n : Int} (hd : decode (mB μ) pc = .ok (.iconst n, 1)) (h : WP μ (pc + 1) L (vi n :: st) w Q) : WP μ pc L (st) w Q := by
  intro p l e R s m args below meth c D cI cC A H0 ad ls H locs cells slots QQ C hc hs hP hD hS hl hq
  have h := h p l e R s m args below meth c D cI cC A H0 ad ls H locs cells slots QQ C hc hs hP hD hS hl hq
  exact lv_iconst C.1 C.2.1 hd rfl h
theorem q_bipush {μ : MI} {pc : Nat} {L st : List rV} {w : rW} {Q : List rV → rW → Prop} {n : Int} (hd : decode (mB μ) pc = .ok (.bipush n, 2)) (hn : (Int8.ofInt n).toInt32 = fI n) (h : WP μ (pc + 2) L (vi n :: st) w Q) : WP μ pc L (st) w Q := by
  intro p l e R s m args below meth c D cI cC A H0 ad ls H locs cells slots QQ C hc hs hP hD hS hl hq
  have h := h p l e R s m args below meth c D cI cC A H0 ad ls H locs cells slots QQ C hc hs hP hD hS hl hq
  exact lv_bipush C.1 C.2.1 hd hn h
theorem q_sipush {μ : MI} {pc : Nat} {L st : List rV} {w : rW} {Q : List rV → rW → Prop} {n : Int} (hd : decode (mB μ) pc = .ok (.sipush n, 3)) (hn : (Int16.ofInt n).toInt32 = fI n) (h : WP μ (pc + 3) L (vi n :: st) w Q) : WP μ pc L (st) w Q := by
  intro p l e R s m args below meth c D cI cC A H0 ad ls H locs cells slots QQ C hc hs hP hD hS hl hq
  have h := h p l e R s m args below meth c D cI cC A H0 ad ls H locs cells slots QQ C hc hs hP hD hS hl hq
  exact lv_sipush C.1 C.2.1 hd hn h
theorem q_lconst {μ : MI} {pc : Nat} {L st : List rV} {w : rW} {Q : List rV → rW → Prop} {n : Fin 2} (x : Int) (hd : decode (mB μ) pc = .ok (.lconst n, 1)) (hn : Int64.ofNat (n : Nat) = fL x) (h : WP μ (pc + 1) L (vl x :: st) w Q) : WP μ pc L (st) w Q := by
  intro p l e R s m args below meth c D cI cC A H0 ad ls H locs cells slots QQ C hc hs hP hD hS hl hq
  have h := h p l e R s m args below meth c D cI cC A H0 ad ls H locs cells slots QQ C hc hs hP hD hS hl hq
  exact lv_lconst C.1 C.2.1 hd hn h
theorem q_fconst1 {μ : MI} {pc : Nat} {L st : List rV} {w : rW} {Q : List rV → rW → Prop} (hd : decode (mB μ) pc = .ok (.fconst 1, 1)) (h : WP μ (pc + 1) L (vf 1065353216 :: st) w Q) : WP μ pc L (st) w Q := by
  intro p l e R s m args below meth c D cI cC A H0 ad ls H locs cells slots QQ C hc hs hP hD hS hl hq
  have h := h p l e R s m args below meth c D cI cC A H0 ad ls H locs cells slots QQ C hc hs hP hD hS hl hq
  exact lv_fconst1 C.1 C.2.1 hd h
theorem q_fconst2 {μ : MI} {pc : Nat} {L st : List rV} {w : rW} {Q : List rV → rW → Prop} (hd : decode (mB μ) pc = .ok (.fconst 2, 1)) (h : WP μ (pc + 1) L (vf 1073741824 :: st) w Q) : WP μ pc L (st) w Q := by
  intro p l e R s m args below meth c D cI cC A H0 ad ls H locs cells slots QQ C hc hs hP hD hS hl hq
  have h := h p l e R s m args below meth c D cI cC A H0 ad ls H locs cells slots QQ C hc hs hP hD hS hl hq
  exact lv_fconst2 C.1 C.2.1 hd h
theorem q_ldc {μ : MI} {pc : Nat} {L st : List rV} {w : rW} {Q : List rV → rW → Prop} {index : Nat} (x : Int) {v : Int32} (hd : decode (mB μ) pc = .ok (.ldc index, 2)) (hw : Cond.constant (mN μ).cls index v ∈ gT) (hv : fI x = v) (h : WP μ (pc + 2) L (vi x :: st) w Q) : WP μ pc L (st) w Q := by
  intro p l e R s m args below meth c D cI cC A H0 ad ls H locs cells slots QQ C hc hs hP hD hS hl hq
  have h := h p l e R s m args below meth c D cI cC A H0 ad ls H locs cells slots QQ C hc hs hP hD hS hl hq
  subst hv
  exact lv_ldc C.1 C.2.1 C.2.2.2.1 (C.2.2.2.2.1 _ hw) hd h
theorem q_ldcf {μ : MI} {pc : Nat} {L st : List rV} {w : rW} {Q : List rV → rW → Prop} {index : Nat} (x : Int) {v : UInt32} (hd : decode (mB μ) pc = .ok (.ldc index, 2)) (hw : Cond.constantFloat (mN μ).cls index v ∈ gT) (hv : fF x = v) (h : WP μ (pc + 2) L (vf x :: st) w Q) : WP μ pc L (st) w Q := by
  intro p l e R s m args below meth c D cI cC A H0 ad ls H locs cells slots QQ C hc hs hP hD hS hl hq
  have h := h p l e R s m args below meth c D cI cC A H0 ad ls H locs cells slots QQ C hc hs hP hD hS hl hq
  subst hv
  exact lv_ldcf C.1 C.2.1 C.2.2.2.1 (C.2.2.2.2.1 _ hw) hd h
theorem q_ldc2 {μ : MI} {pc : Nat} {L st : List rV} {w : rW} {Q : List rV → rW → Prop} {index : Nat} (x : Int) {v : Int64} (hd : decode (mB μ) pc = .ok (.ldc2_w index, 3)) (hw : Cond.constantLong (mN μ).cls index v ∈ gT) (hv : fL x = v) (h : WP μ (pc + 3) L (vl x :: st) w Q) : WP μ pc L (st) w Q := by
  intro p l e R s m args below meth c D cI cC A H0 ad ls H locs cells slots QQ C hc hs hP hD hS hl hq
  have h := h p l e R s m args below meth c D cI cC A H0 ad ls H locs cells slots QQ C hc hs hP hD hS hl hq
  subst hv
  exact lv_ldc2 C.1 C.2.1 C.2.2.2.1 (C.2.2.2.2.1 _ hw) hd h
theorem q_iload_n {μ : MI} {pc : Nat} {L st : List rV} {w : rW} {Q : List rV → rW → Prop} {k : Fin 4} (i : Nat) {a : Int} (hd : decode (mB μ) pc = .ok (.iload_n k, 1)) (hi : (k : Nat) = i) (hL : L[i]? = some (vi a)) (h : WP μ (pc + 1) L (vi a :: st) w Q) : WP μ pc L (st) w Q := by
  intro p l e R s m args below meth c D cI cC A H0 ad ls H locs cells slots QQ C hc hs hP hD hS hl hq
  have h := h p l e R s m args below meth c D cI cC A H0 ad ls H locs cells slots QQ C hc hs hP hD hS hl hq
  exact lv_iload_n C.1 C.2.1 hd hi (hl.2.2 i _ hL (Nat.le_of_ble_eq_true rfl)) h
theorem q_iload {μ : MI} {pc : Nat} {L st : List rV} {w : rW} {Q : List rV → rW → Prop} {i : Nat} {a : Int} (hd : decode (mB μ) pc = .ok (.iload i, 2)) (hL : L[i]? = some (vi a)) (h : WP μ (pc + 2) L (vi a :: st) w Q) : WP μ pc L (st) w Q := by
  intro p l e R s m args below meth c D cI cC A H0 ad ls H locs cells slots QQ C hc hs hP hD hS hl hq
  have h := h p l e R s m args below meth c D cI cC A H0 ad ls H locs cells slots QQ C hc hs hP hD hS hl hq
  exact lv_iload C.1 C.2.1 hd (hl.2.2 i _ hL (Nat.le_of_ble_eq_true rfl)) h
theorem q_aload_n {μ : MI} {pc : Nat} {L st : List rV} {w : rW} {Q : List rV → rW → Prop} {k : Fin 4} (i : Nat) {a : Int} (hd : decode (mB μ) pc = .ok (.aload_n k, 1)) (hi : (k : Nat) = i) (hL : L[i]? = some (vr a)) (h : WP μ (pc + 1) L (vr a :: st) w Q) : WP μ pc L (st) w Q := by
  intro p l e R s m args below meth c D cI cC A H0 ad ls H locs cells slots QQ C hc hs hP hD hS hl hq
  have h := h p l e R s m args below meth c D cI cC A H0 ad ls H locs cells slots QQ C hc hs hP hD hS hl hq
  exact lv_aload_n C.1 C.2.1 hd hi (hl.2.2 i _ hL (Nat.le_of_ble_eq_true rfl)) h
theorem q_aload {μ : MI} {pc : Nat} {L st : List rV} {w : rW} {Q : List rV → rW → Prop} {i : Nat} {a : Int} (hd : decode (mB μ) pc = .ok (.aload i, 2)) (hL : L[i]? = some (vr a)) (h : WP μ (pc + 2) L (vr a :: st) w Q) : WP μ pc L (st) w Q := by
  intro p l e R s m args below meth c D cI cC A H0 ad ls H locs cells slots QQ C hc hs hP hD hS hl hq
  have h := h p l e R s m args below meth c D cI cC A H0 ad ls H locs cells slots QQ C hc hs hP hD hS hl hq
  exact lv_aload C.1 C.2.1 hd (hl.2.2 i _ hL (Nat.le_of_ble_eq_true rfl)) h
theorem q_lload_n {μ : MI} {pc : Nat} {L st : List rV} {w : rW} {Q : List rV → rW → Prop} {k : Fin 4} (i : Nat) {a : Int} (hd : decode (mB μ) pc = .ok (.lload_n k, 1)) (hi : (k : Nat) = i) (hL : L[i]? = some (vl a)) (h : WP μ (pc + 1) L (vl a :: st) w Q) : WP μ pc L (st) w Q := by
  intro p l e R s m args below meth c D cI cC A H0 ad ls H locs cells slots QQ C hc hs hP hD hS hl hq
  have h := h p l e R s m args below meth c D cI cC A H0 ad ls H locs cells slots QQ C hc hs hP hD hS hl hq
  exact lv_lload_n C.1 C.2.1 hd hi (hl.2.2 i _ hL (Nat.le_of_ble_eq_true rfl)) h
theorem q_lload {μ : MI} {pc : Nat} {L st : List rV} {w : rW} {Q : List rV → rW → Prop} {i : Nat} {a : Int} (hd : decode (mB μ) pc = .ok (.lload i, 2)) (hL : L[i]? = some (vl a)) (h : WP μ (pc + 2) L (vl a :: st) w Q) : WP μ pc L (st) w Q := by
  intro p l e R s m args below meth c D cI cC A H0 ad ls H locs cells slots QQ C hc hs hP hD hS hl hq
  have h := h p l e R s m args below meth c D cI cC A H0 ad ls H locs cells slots QQ C hc hs hP hD hS hl hq
  exact lv_lload C.1 C.2.1 hd (hl.2.2 i _ hL (Nat.le_of_ble_eq_true rfl)) h
theorem q_fload_n {μ : MI} {pc : Nat} {L st : List rV} {w : rW} {Q : List rV → rW → Prop} {k : Fin 4} (i : Nat) {a : Int} (hd : decode (mB μ) pc = .ok (.fload_n k, 1)) (hi : (k : Nat) = i) (hL : L[i]? = some (vf a)) (h : WP μ (pc + 1) L (vf a :: st) w Q) : WP μ pc L (st) w Q := by
  intro p l e R s m args below meth c D cI cC A H0 ad ls H locs cells slots QQ C hc hs hP hD hS hl hq
  have h := h p l e R s m args below meth c D cI cC A H0 ad ls H locs cells slots QQ C hc hs hP hD hS hl hq
  exact lv_fload_n C.1 C.2.1 hd hi (hl.2.2 i _ hL (Nat.le_of_ble_eq_true rfl)) h
theorem q_fload {μ : MI} {pc : Nat} {L st : List rV} {w : rW} {Q : List rV → rW → Prop} {i : Nat} {a : Int} (hd : decode (mB μ) pc = .ok (.fload i, 2)) (hL : L[i]? = some (vf a)) (h : WP μ (pc + 2) L (vf a :: st) w Q) : WP μ pc L (st) w Q := by
  intro p l e R s m args below meth c D cI cC A H0 ad ls H locs cells slots QQ C hc hs hP hD hS hl hq
  have h := h p l e R s m args below meth c D cI cC A H0 ad ls H locs cells slots QQ C hc hs hP hD hS hl hq
  exact lv_fload C.1 C.2.1 hd (hl.2.2 i _ hL (Nat.le_of_ble_eq_true rfl)) h
theorem q_istore_n {μ : MI} {pc : Nat} {L st : List rV} {w : rW} {Q : List rV → rW → Prop} {k : Fin 4} (i : Nat) {a : Int} (hd : decode (mB μ) pc = .ok (.istore_n k, 1)) (hi : (k : Nat) = i) (hn : i < mL μ) (hk : nlb L i = true) (h : WP μ (pc + 1) (L.set i (vi a)) st w Q) : WP μ pc L (vi a :: st) w Q := by
  intro p l e R s m args below meth c D cI cC A H0 ad ls H locs cells slots QQ C hc hs hP hD hS hl hq
  exact lv_istore_n C.1 C.2.1 hd hi hl.has hn rfl (fun ls' hl' => h p l e R s m args below meth c D cI cC A H0 ad ls' H locs cells slots QQ C hc hs hP hD hS (lR.st1 (x := vi a) hk hl') hq)
theorem q_istore {μ : MI} {pc : Nat} {L st : List rV} {w : rW} {Q : List rV → rW → Prop} {i : Nat} {a : Int} (hd : decode (mB μ) pc = .ok (.istore i, 2)) (hn : i < mL μ) (hk : nlb L i = true) (h : WP μ (pc + 2) (L.set i (vi a)) st w Q) : WP μ pc L (vi a :: st) w Q := by
  intro p l e R s m args below meth c D cI cC A H0 ad ls H locs cells slots QQ C hc hs hP hD hS hl hq
  exact lv_istore C.1 C.2.1 hd hl.has hn rfl (fun ls' hl' => h p l e R s m args below meth c D cI cC A H0 ad ls' H locs cells slots QQ C hc hs hP hD hS (lR.st1 (x := vi a) hk hl') hq)
theorem q_astore_n {μ : MI} {pc : Nat} {L st : List rV} {w : rW} {Q : List rV → rW → Prop} {k : Fin 4} (i : Nat) {a : Int} (hd : decode (mB μ) pc = .ok (.astore_n k, 1)) (hi : (k : Nat) = i) (hn : i < mL μ) (hk : nlb L i = true) (h : WP μ (pc + 1) (L.set i (vr a)) st w Q) : WP μ pc L (vr a :: st) w Q := by
  intro p l e R s m args below meth c D cI cC A H0 ad ls H locs cells slots QQ C hc hs hP hD hS hl hq
  exact lv_astore_n C.1 C.2.1 hd hi hl.has hn rfl (fun ls' hl' => h p l e R s m args below meth c D cI cC A H0 ad ls' H locs cells slots QQ C hc hs hP hD hS (lR.st1 (x := vr a) hk hl') hq)
theorem q_astore {μ : MI} {pc : Nat} {L st : List rV} {w : rW} {Q : List rV → rW → Prop} {i : Nat} {a : Int} (hd : decode (mB μ) pc = .ok (.astore i, 2)) (hn : i < mL μ) (hk : nlb L i = true) (h : WP μ (pc + 2) (L.set i (vr a)) st w Q) : WP μ pc L (vr a :: st) w Q := by
  intro p l e R s m args below meth c D cI cC A H0 ad ls H locs cells slots QQ C hc hs hP hD hS hl hq
  exact lv_astore C.1 C.2.1 hd hl.has hn rfl (fun ls' hl' => h p l e R s m args below meth c D cI cC A H0 ad ls' H locs cells slots QQ C hc hs hP hD hS (lR.st1 (x := vr a) hk hl') hq)
theorem q_fstore_n {μ : MI} {pc : Nat} {L st : List rV} {w : rW} {Q : List rV → rW → Prop} {k : Fin 4} (i : Nat) {a : Int} (hd : decode (mB μ) pc = .ok (.fstore_n k, 1)) (hi : (k : Nat) = i) (hn : i < mL μ) (hk : nlb L i = true) (h : WP μ (pc + 1) (L.set i (vf a)) st w Q) : WP μ pc L (vf a :: st) w Q := by
  intro p l e R s m args below meth c D cI cC A H0 ad ls H locs cells slots QQ C hc hs hP hD hS hl hq
  exact lv_fstore_n C.1 C.2.1 hd hi hl.has hn rfl (fun ls' hl' => h p l e R s m args below meth c D cI cC A H0 ad ls' H locs cells slots QQ C hc hs hP hD hS (lR.st1 (x := vf a) hk hl') hq)
theorem q_fstore {μ : MI} {pc : Nat} {L st : List rV} {w : rW} {Q : List rV → rW → Prop} {i : Nat} {a : Int} (hd : decode (mB μ) pc = .ok (.fstore i, 2)) (hn : i < mL μ) (hk : nlb L i = true) (h : WP μ (pc + 2) (L.set i (vf a)) st w Q) : WP μ pc L (vf a :: st) w Q := by
  intro p l e R s m args below meth c D cI cC A H0 ad ls H locs cells slots QQ C hc hs hP hD hS hl hq
  exact lv_fstore C.1 C.2.1 hd hl.has hn rfl (fun ls' hl' => h p l e R s m args below meth c D cI cC A H0 ad ls' H locs cells slots QQ C hc hs hP hD hS (lR.st1 (x := vf a) hk hl') hq)
theorem q_lstore_n {μ : MI} {pc : Nat} {L st : List rV} {w : rW} {Q : List rV → rW → Prop} {k : Fin 4} (i : Nat) {a : Int} (hd : decode (mB μ) pc = .ok (.lstore_n k, 1)) (hi : (k : Nat) = i) (hn : i + 1 < mL μ) (hk : nlb L i = true) (h : WP μ (pc + 1) ((L.set i (vl a)).set (i + 1) vu) st w Q) : WP μ pc L (vl a :: st) w Q := by
  intro p l e R s m args below meth c D cI cC A H0 ad ls H locs cells slots QQ C hc hs hP hD hS hl hq
  exact lv_lstore_n C.1 C.2.1 hd hi hl.has hn rfl (fun ls' hl' => h p l e R s m args below meth c D cI cC A H0 ad ls' H locs cells slots QQ C hc hs hP hD hS (lR.st2 (x := vl a) hk hl') hq)
theorem q_lstore {μ : MI} {pc : Nat} {L st : List rV} {w : rW} {Q : List rV → rW → Prop} {i : Nat} {a : Int} (hd : decode (mB μ) pc = .ok (.lstore i, 2)) (hn : i + 1 < mL μ) (hk : nlb L i = true) (h : WP μ (pc + 2) ((L.set i (vl a)).set (i + 1) vu) st w Q) : WP μ pc L (vl a :: st) w Q := by
  intro p l e R s m args below meth c D cI cC A H0 ad ls H locs cells slots QQ C hc hs hP hD hS hl hq
  exact lv_lstore C.1 C.2.1 hd hl.has hn rfl (fun ls' hl' => h p l e R s m args below meth c D cI cC A H0 ad ls' H locs cells slots QQ C hc hs hP hD hS (lR.st2 (x := vl a) hk hl') hq)
theorem q_iinc {μ : MI} {pc : Nat} {L st : List rV} {w : rW} {Q : List rV → rW → Prop} {i : Nat} {a n : Int} (hd : decode (mB μ) pc = .ok (.iinc i n, 3)) (hL : L[i]? = some (vi a)) (hn : i < mL μ) (hk : nlb L i = true) (h : WP μ (pc + 3) (L.set i (vi (a + n))) st w Q) : WP μ pc L st w Q := by
  intro p l e R s m args below meth c D cI cC A H0 ad ls H locs cells slots QQ C hc hs hP hD hS hl hq
  obtain ⟨k, hk1⟩ := List.getElem?_of_mem (mem_prs.mpr ⟨i, vi a, hL, Nat.le_of_ble_eq_true rfl, rfl⟩ : (i, cv ad (vi a)) ∈ prs ad L)
  exact lv_iinc (v := fI (a + n)) C.1 C.2.1 hd hl.has hk1 (fI_add a n) hn rfl (fun ls' hl' => h p l e R s m args below meth c D cI cC A H0 ad ls' H locs cells slots QQ C hc hs hP hD hS (lR.st1 (x := vi (a + n)) hk hl') hq)
theorem q_iadd {μ : MI} {pc : Nat} {L st : List rV} {w : rW} {Q : List rV → rW → Prop} {a b : Int} (hd : decode (mB μ) pc = .ok (.iadd, 1)) (h : WP μ (pc + 1) L (vi (a + b) :: st) w Q) : WP μ pc L (vi b :: vi a :: st) w Q := by
  intro p l e R s m args below meth c D cI cC A H0 ad ls H locs cells slots QQ C hc hs hP hD hS hl hq
  have h := h p l e R s m args below meth c D cI cC A H0 ad ls H locs cells slots QQ C hc hs hP hD hS hl hq
  refine lv_iadd (x := fI a) (y := fI b) C.1 C.2.1 hd ?_
  rw [fI_add]
  exact h
theorem q_isub {μ : MI} {pc : Nat} {L st : List rV} {w : rW} {Q : List rV → rW → Prop} {a b : Int} (hd : decode (mB μ) pc = .ok (.isub, 1)) (h : WP μ (pc + 1) L (vi (a - b) :: st) w Q) : WP μ pc L (vi b :: vi a :: st) w Q := by
  intro p l e R s m args below meth c D cI cC A H0 ad ls H locs cells slots QQ C hc hs hP hD hS hl hq
  have h := h p l e R s m args below meth c D cI cC A H0 ad ls H locs cells slots QQ C hc hs hP hD hS hl hq
  refine lv_isub (x := fI a) (y := fI b) C.1 C.2.1 hd ?_
  rw [fI_sub]
  exact h
theorem q_imul {μ : MI} {pc : Nat} {L st : List rV} {w : rW} {Q : List rV → rW → Prop} {a b : Int} (hd : decode (mB μ) pc = .ok (.imul, 1)) (h : WP μ (pc + 1) L (vi (a * b) :: st) w Q) : WP μ pc L (vi b :: vi a :: st) w Q := by
  intro p l e R s m args below meth c D cI cC A H0 ad ls H locs cells slots QQ C hc hs hP hD hS hl hq
  have h := h p l e R s m args below meth c D cI cC A H0 ad ls H locs cells slots QQ C hc hs hP hD hS hl hq
  refine lv_imul (x := fI a) (y := fI b) C.1 C.2.1 hd ?_
  rw [fI_mul]
  exact h
theorem q_ineg {μ : MI} {pc : Nat} {L st : List rV} {w : rW} {Q : List rV → rW → Prop} {a : Int} (hd : decode (mB μ) pc = .ok (.ineg, 1)) (h : WP μ (pc + 1) L (vi (-a) :: st) w Q) : WP μ pc L (vi a :: st) w Q := by
  intro p l e R s m args below meth c D cI cC A H0 ad ls H locs cells slots QQ C hc hs hP hD hS hl hq
  have h := h p l e R s m args below meth c D cI cC A H0 ad ls H locs cells slots QQ C hc hs hP hD hS hl hq
  refine lv_ineg (x := fI a) C.1 C.2.1 hd ?_
  rw [fI_neg]
  exact h
theorem q_idiv {μ : MI} {pc : Nat} {L st : List rV} {w : rW} {Q : List rV → rW → Prop} {a b : Int} (hd : decode (mB μ) pc = .ok (.idiv, 1)) (h1 : 0 ≤ a) (h2 : a < 2147483648) (h3 : 0 < b) (h4 : b < 2147483648) (h : WP μ (pc + 1) L (vi (a / b) :: st) w Q) : WP μ pc L (vi b :: vi a :: st) w Q := by
  intro p l e R s m args below meth c D cI cC A H0 ad ls H locs cells slots QQ C hc hs hP hD hS hl hq
  have h := h p l e R s m args below meth c D cI cC A H0 ad ls H locs cells slots QQ C hc hs hP hD hS hl hq
  refine lv_idiv (x := fI a) (y := fI b) C.1 C.2.1 hd (by intro q; rw [← fI_0, fI_eq ⟨by omega, by omega⟩ ⟨by omega, by omega⟩] at q; omega) ?_
  rw [fI_div h1 h2 h3 h4]
  exact h
theorem q_irem {μ : MI} {pc : Nat} {L st : List rV} {w : rW} {Q : List rV → rW → Prop} {a b : Int} (hd : decode (mB μ) pc = .ok (.irem, 1)) (h1 : 0 ≤ a) (h2 : a < 2147483648) (h3 : 0 < b) (h4 : b < 2147483648) (h : WP μ (pc + 1) L (vi (a % b) :: st) w Q) : WP μ pc L (vi b :: vi a :: st) w Q := by
  intro p l e R s m args below meth c D cI cC A H0 ad ls H locs cells slots QQ C hc hs hP hD hS hl hq
  have h := h p l e R s m args below meth c D cI cC A H0 ad ls H locs cells slots QQ C hc hs hP hD hS hl hq
  refine lv_irem (x := fI a) (y := fI b) C.1 C.2.1 hd (by intro q; rw [← fI_0, fI_eq ⟨by omega, by omega⟩ ⟨by omega, by omega⟩] at q; omega) ?_
  first | (rw [fI_rem h1 h2 h3 h4]; exact h) | skip
theorem q_iand {μ : MI} {pc : Nat} {L st : List rV} {w : rW} {Q : List rV → rW → Prop} {a b : Int} (hd : decode (mB μ) pc = .ok (.iand, 1)) (h1 : 0 ≤ a) (h2 : 0 ≤ b) (h : WP μ (pc + 1) L (vi (iA a b) :: st) w Q) : WP μ pc L (vi b :: vi a :: st) w Q := by
  intro p l e R s m args below meth c D cI cC A H0 ad ls H locs cells slots QQ C hc hs hP hD hS hl hq
  have h := h p l e R s m args below meth c D cI cC A H0 ad ls H locs cells slots QQ C hc hs hP hD hS hl hq
  refine lv_iand (x := fI a) (y := fI b) C.1 C.2.1 hd ?_
  rw [fI_and h1 h2]
  exact h
theorem q_ishl {μ : MI} {pc : Nat} {L st : List rV} {w : rW} {Q : List rV → rW → Prop} {a b : Int} (hd : decode (mB μ) pc = .ok (.ishl, 1)) (h1 : 0 ≤ a) (h2 : 0 ≤ b) (h3 : b < 32) (h4 : a * 2 ^ b.toNat < 4294967296) (h : WP μ (pc + 1) L (vi (a * 2 ^ b.toNat) :: st) w Q) : WP μ pc L (vi b :: vi a :: st) w Q := by
  intro p l e R s m args below meth c D cI cC A H0 ad ls H locs cells slots QQ C hc hs hP hD hS hl hq
  have h := h p l e R s m args below meth c D cI cC A H0 ad ls H locs cells slots QQ C hc hs hP hD hS hl hq
  refine lv_ishl (x := fI a) (y := fI b) C.1 C.2.1 hd ?_
  rw [fI_shl h1 h2 h3 h4]
  exact h
theorem q_ishr {μ : MI} {pc : Nat} {L st : List rV} {w : rW} {Q : List rV → rW → Prop} {a b : Int} (hd : decode (mB μ) pc = .ok (.ishr, 1)) (h1 : 0 ≤ a) (h2 : a < 2147483648) (h3 : 0 ≤ b) (h4 : b < 32) (h : WP μ (pc + 1) L (vi (a / 2 ^ b.toNat) :: st) w Q) : WP μ pc L (vi b :: vi a :: st) w Q := by
  intro p l e R s m args below meth c D cI cC A H0 ad ls H locs cells slots QQ C hc hs hP hD hS hl hq
  have h := h p l e R s m args below meth c D cI cC A H0 ad ls H locs cells slots QQ C hc hs hP hD hS hl hq
  refine lv_ishr (x := fI a) (y := fI b) C.1 C.2.1 hd ?_
  rw [fI_shr h1 h2 h3 h4]
  exact h
theorem q_i2l {μ : MI} {pc : Nat} {L st : List rV} {w : rW} {Q : List rV → rW → Prop} {a : Int} (hd : decode (mB μ) pc = .ok (.i2l, 1)) (h1 : R32 a) (h : WP μ (pc + 1) L (vl a :: st) w Q) : WP μ pc L (vi a :: st) w Q := by
  intro p l e R s m args below meth c D cI cC A H0 ad ls H locs cells slots QQ C hc hs hP hD hS hl hq
  have h := h p l e R s m args below meth c D cI cC A H0 ad ls H locs cells slots QQ C hc hs hP hD hS hl hq
  exact lv_i2l (x := fI a) C.1 C.2.1 hd (fI_i2l h1) h
theorem q_l2i {μ : MI} {pc : Nat} {L st : List rV} {w : rW} {Q : List rV → rW → Prop} {a : Int} (hd : decode (mB μ) pc = .ok (.l2i, 1)) (h : WP μ (pc + 1) L (vi a :: st) w Q) : WP μ pc L (vl a :: st) w Q := by
  intro p l e R s m args below meth c D cI cC A H0 ad ls H locs cells slots QQ C hc hs hP hD hS hl hq
  have h := h p l e R s m args below meth c D cI cC A H0 ad ls H locs cells slots QQ C hc hs hP hD hS hl hq
  exact lv_l2i (x := fL a) C.1 C.2.1 hd (fL_l2i a) h
theorem q_i2c {μ : MI} {pc : Nat} {L st : List rV} {w : rW} {Q : List rV → rW → Prop} {a : Int} (hd : decode (mB μ) pc = .ok (.i2c, 1)) (h1 : 0 ≤ a) (h2 : a < 65536) (h : WP μ (pc + 1) L (vi a :: st) w Q) : WP μ pc L (vi a :: st) w Q := by
  intro p l e R s m args below meth c D cI cC A H0 ad ls H locs cells slots QQ C hc hs hP hD hS hl hq
  have h := h p l e R s m args below meth c D cI cC A H0 ad ls H locs cells slots QQ C hc hs hP hD hS hl hq
  exact lv_i2c (x := fI a) C.1 C.2.1 hd (fI_char h1 h2) h
theorem q_ladd {μ : MI} {pc : Nat} {L st : List rV} {w : rW} {Q : List rV → rW → Prop} {a b : Int} (hd : decode (mB μ) pc = .ok (.ladd, 1)) (h : WP μ (pc + 1) L (vl (a + b) :: st) w Q) : WP μ pc L (vl b :: vl a :: st) w Q := by
  intro p l e R s m args below meth c D cI cC A H0 ad ls H locs cells slots QQ C hc hs hP hD hS hl hq
  have h := h p l e R s m args below meth c D cI cC A H0 ad ls H locs cells slots QQ C hc hs hP hD hS hl hq
  refine lv_ladd (x := fL a) (y := fL b) C.1 C.2.1 hd ?_
  rw [fL_add]
  exact h
theorem q_lsub {μ : MI} {pc : Nat} {L st : List rV} {w : rW} {Q : List rV → rW → Prop} {a b : Int} (hd : decode (mB μ) pc = .ok (.lsub, 1)) (h : WP μ (pc + 1) L (vl (a - b) :: st) w Q) : WP μ pc L (vl b :: vl a :: st) w Q := by
  intro p l e R s m args below meth c D cI cC A H0 ad ls H locs cells slots QQ C hc hs hP hD hS hl hq
  have h := h p l e R s m args below meth c D cI cC A H0 ad ls H locs cells slots QQ C hc hs hP hD hS hl hq
  refine lv_lsub (x := fL a) (y := fL b) C.1 C.2.1 hd ?_
  rw [fL_sub]
  exact h
theorem q_lmul {μ : MI} {pc : Nat} {L st : List rV} {w : rW} {Q : List rV → rW → Prop} {a b : Int} (hd : decode (mB μ) pc = .ok (.lmul, 1)) (h : WP μ (pc + 1) L (vl (a * b) :: st) w Q) : WP μ pc L (vl b :: vl a :: st) w Q := by
  intro p l e R s m args below meth c D cI cC A H0 ad ls H locs cells slots QQ C hc hs hP hD hS hl hq
  have h := h p l e R s m args below meth c D cI cC A H0 ad ls H locs cells slots QQ C hc hs hP hD hS hl hq
  refine lv_lmul (x := fL a) (y := fL b) C.1 C.2.1 hd ?_
  rw [fL_mul]
  exact h
theorem q_ldiv {μ : MI} {pc : Nat} {L st : List rV} {w : rW} {Q : List rV → rW → Prop} {a b : Int} (hd : decode (mB μ) pc = .ok (.ldiv, 1)) (h1 : 0 ≤ a) (h2 : a < 9223372036854775808) (h3 : 0 < b) (h4 : b < 9223372036854775808) (h : WP μ (pc + 1) L (vl (a / b) :: st) w Q) : WP μ pc L (vl b :: vl a :: st) w Q := by
  intro p l e R s m args below meth c D cI cC A H0 ad ls H locs cells slots QQ C hc hs hP hD hS hl hq
  have h := h p l e R s m args below meth c D cI cC A H0 ad ls H locs cells slots QQ C hc hs hP hD hS hl hq
  refine lv_ldiv (x := fL a) (y := fL b) C.1 C.2.1 hd (by intro q; rw [show (0 : Int64) = fL 0 from rfl, fL_eq ⟨by omega, by omega⟩ ⟨by omega, by omega⟩] at q; omega) ?_
  rw [fL_div h1 h2 h3 h4]
  exact h
theorem q_lrem {μ : MI} {pc : Nat} {L st : List rV} {w : rW} {Q : List rV → rW → Prop} {a b : Int} (hd : decode (mB μ) pc = .ok (.lrem, 1)) (h1 : 0 ≤ a) (h2 : a < 9223372036854775808) (h3 : 0 < b) (h4 : b < 9223372036854775808) (h : WP μ (pc + 1) L (vl (a % b) :: st) w Q) : WP μ pc L (vl b :: vl a :: st) w Q := by
  intro p l e R s m args below meth c D cI cC A H0 ad ls H locs cells slots QQ C hc hs hP hD hS hl hq
  have h := h p l e R s m args below meth c D cI cC A H0 ad ls H locs cells slots QQ C hc hs hP hD hS hl hq
  refine lv_lrem (x := fL a) (y := fL b) C.1 C.2.1 hd (by intro q; rw [show (0 : Int64) = fL 0 from rfl, fL_eq ⟨by omega, by omega⟩ ⟨by omega, by omega⟩] at q; omega) ?_
  first | (rw [fL_rem h1 h2 h3 h4]; exact h) | skip
theorem q_land {μ : MI} {pc : Nat} {L st : List rV} {w : rW} {Q : List rV → rW → Prop} {a b : Int} (hd : decode (mB μ) pc = .ok (.land, 1)) (h1 : 0 ≤ a) (h2 : a < 9223372036854775808) (h3 : 0 ≤ b) (h4 : b < 9223372036854775808) (h : WP μ (pc + 1) L (vl (iA a b) :: st) w Q) : WP μ pc L (vl b :: vl a :: st) w Q := by
  intro p l e R s m args below meth c D cI cC A H0 ad ls H locs cells slots QQ C hc hs hP hD hS hl hq
  have h := h p l e R s m args below meth c D cI cC A H0 ad ls H locs cells slots QQ C hc hs hP hD hS hl hq
  refine lv_land (x := fL a) (y := fL b) C.1 C.2.1 hd ?_
  rw [fL_and ⟨by omega, h2⟩ ⟨by omega, h4⟩ h1 h3]
  exact h
theorem q_lor {μ : MI} {pc : Nat} {L st : List rV} {w : rW} {Q : List rV → rW → Prop} {a b : Int} (hd : decode (mB μ) pc = .ok (.lor, 1)) (h1 : 0 ≤ a) (h2 : a < 9223372036854775808) (h3 : 0 ≤ b) (h4 : b < 9223372036854775808) (h : WP μ (pc + 1) L (vl (iO a b) :: st) w Q) : WP μ pc L (vl b :: vl a :: st) w Q := by
  intro p l e R s m args below meth c D cI cC A H0 ad ls H locs cells slots QQ C hc hs hP hD hS hl hq
  have h := h p l e R s m args below meth c D cI cC A H0 ad ls H locs cells slots QQ C hc hs hP hD hS hl hq
  refine lv_lor (x := fL a) (y := fL b) C.1 C.2.1 hd ?_
  rw [fL_or ⟨by omega, h2⟩ ⟨by omega, h4⟩ h1 h3]
  exact h
theorem q_lshl {μ : MI} {pc : Nat} {L st : List rV} {w : rW} {Q : List rV → rW → Prop} {a b : Int} (hd : decode (mB μ) pc = .ok (.lshl, 1)) (h1 : 0 ≤ a) (h2 : 0 ≤ b) (h3 : b < 64) (h : WP μ (pc + 1) L (vl (a * 2 ^ b.toNat) :: st) w Q) : WP μ pc L (vi b :: vl a :: st) w Q := by
  intro p l e R s m args below meth c D cI cC A H0 ad ls H locs cells slots QQ C hc hs hP hD hS hl hq
  have h := h p l e R s m args below meth c D cI cC A H0 ad ls H locs cells slots QQ C hc hs hP hD hS hl hq
  exact lv_lshl (x := fL a) (y := fI b) C.1 C.2.1 hd (fL_shl h1 h2 h3) h
theorem q_lshr {μ : MI} {pc : Nat} {L st : List rV} {w : rW} {Q : List rV → rW → Prop} {a b : Int} (hd : decode (mB μ) pc = .ok (.lshr, 1)) (h1 : 0 ≤ a) (h2 : a < 4611686018427387904) (h3 : 0 ≤ b) (h4 : b < 64) (h : WP μ (pc + 1) L (vl (a / 2 ^ b.toNat) :: st) w Q) : WP μ pc L (vi b :: vl a :: st) w Q := by
  intro p l e R s m args below meth c D cI cC A H0 ad ls H locs cells slots QQ C hc hs hP hD hS hl hq
  have h := h p l e R s m args below meth c D cI cC A H0 ad ls H locs cells slots QQ C hc hs hP hD hS hl hq
  exact lv_lshr (x := fL a) (y := fI b) C.1 C.2.1 hd (fL_shr h1 h2 h3 h4) h
theorem q_lcmp {μ : MI} {pc : Nat} {L st : List rV} {w : rW} {Q : List rV → rW → Prop} {a b : Int} (hd : decode (mB μ) pc = .ok (.lcmp, 1)) (h1 : R64 a) (h2 : R64 b) (h : WP μ (pc + 1) L (vi (lcm a b) :: st) w Q) : WP μ pc L (vl b :: vl a :: st) w Q := by
  intro p l e R s m args below meth c D cI cC A H0 ad ls H locs cells slots QQ C hc hs hP hD hS hl hq
  have h := h p l e R s m args below meth c D cI cC A H0 ad ls H locs cells slots QQ C hc hs hP hD hS hl hq
  refine W.lcmp (x := fL a) (y := fL b) C.1 C.2.1 hd ?_
  rw [show lg_cmp (fL a) (fL b) = fI (lcm a b) from by
    unfold lg_cmp lcm
    simp only [fL_lt h1 h2, fL_lt h2 h1, fL_eq h1 h2]
    repeat' split
    all_goals first | rfl | omega]
  exact h
theorem q_i2f {μ : MI} {pc : Nat} {L st : List rV} {w : rW} {Q : List rV → rW → Prop} {a : Int} (hd : decode (mB μ) pc = .ok (.i2f, 1)) (h : WP μ (pc + 1) L (vf (FP.i2f (fI a)).toNat :: st) w Q) : WP μ pc L (vi a :: st) w Q := by
  intro p l e R s m args below meth c D cI cC A H0 ad ls H locs cells slots QQ C hc hs hP hD hS hl hq
  have h := h p l e R s m args below meth c D cI cC A H0 ad ls H locs cells slots QQ C hc hs hP hD hS hl hq
  refine lv_i2f (x := fI a) C.1 C.2.1 hd ?_
  have e := fF_f (FP.i2f (fI a))
  unfold vf at h
  simp only [List.map_cons, cv, e] at h
  exact h
theorem q_fdiv {μ : MI} {pc : Nat} {L st : List rV} {w : rW} {Q : List rV → rW → Prop} {a b : Int} (hd : decode (mB μ) pc = .ok (.fdiv, 1)) (hne : vf_n32 (FP.fdiv (fF a) (fF b))) (h : WP μ (pc + 1) L (vf (FP.fdiv (fF a) (fF b)).toNat :: st) w Q) : WP μ pc L (vf b :: vf a :: st) w Q := by
  intro p l e R s m args below meth c D cI cC A H0 ad ls H locs cells slots QQ C hc hs hP hD hS hl hq
  have h := h p l e R s m args below meth c D cI cC A H0 ad ls H locs cells slots QQ C hc hs hP hD hS hl hq
  refine lv_fdiv (x := fF a) (y := fF b) C.1 C.2.1 hd hne ?_
  have e := fF_f (FP.fdiv (fF a) (fF b))
  unfold vf at h
  simp only [List.map_cons, cv, e] at h
  exact h
theorem q_fsub {μ : MI} {pc : Nat} {L st : List rV} {w : rW} {Q : List rV → rW → Prop} {a b : Int} (hd : decode (mB μ) pc = .ok (.fsub, 1)) (hne : vf_n32 (FP.fsub (fF a) (fF b))) (h : WP μ (pc + 1) L (vf (FP.fsub (fF a) (fF b)).toNat :: st) w Q) : WP μ pc L (vf b :: vf a :: st) w Q := by
  intro p l e R s m args below meth c D cI cC A H0 ad ls H locs cells slots QQ C hc hs hP hD hS hl hq
  have h := h p l e R s m args below meth c D cI cC A H0 ad ls H locs cells slots QQ C hc hs hP hD hS hl hq
  refine lv_fsub (x := fF a) (y := fF b) C.1 C.2.1 hd hne ?_
  have e := fF_f (FP.fsub (fF a) (fF b))
  unfold vf at h
  simp only [List.map_cons, cv, e] at h
  exact h
theorem q_fmul {μ : MI} {pc : Nat} {L st : List rV} {w : rW} {Q : List rV → rW → Prop} {a b : Int} (hd : decode (mB μ) pc = .ok (.fmul, 1)) (hne : vf_n32 (FP.fmul (fF a) (fF b))) (h : WP μ (pc + 1) L (vf (FP.fmul (fF a) (fF b)).toNat :: st) w Q) : WP μ pc L (vf b :: vf a :: st) w Q := by
  intro p l e R s m args below meth c D cI cC A H0 ad ls H locs cells slots QQ C hc hs hP hD hS hl hq
  have h := h p l e R s m args below meth c D cI cC A H0 ad ls H locs cells slots QQ C hc hs hP hD hS hl hq
  refine lv_fmul (x := fF a) (y := fF b) C.1 C.2.1 hd hne ?_
  have e := fF_f (FP.fmul (fF a) (fF b))
  unfold vf at h
  simp only [List.map_cons, cv, e] at h
  exact h
theorem q_f2i {μ : MI} {pc : Nat} {L st : List rV} {w : rW} {Q : List rV → rW → Prop} {a : Int} (x : Int) (hd : decode (mB μ) pc = .ok (.f2i, 1)) (hx : FP.f2i (fF a) = fI x) (h : WP μ (pc + 1) L (vi x :: st) w Q) : WP μ pc L (vf a :: st) w Q := by
  intro p l e R s m args below meth c D cI cC A H0 ad ls H locs cells slots QQ C hc hs hP hD hS hl hq
  have h := h p l e R s m args below meth c D cI cC A H0 ad ls H locs cells slots QQ C hc hs hP hD hS hl hq
  refine lv_f2i (x := fF a) C.1 C.2.1 hd ?_
  rw [hx]
  exact h
theorem q_fcmp {μ : MI} {pc : Nat} {L st : List rV} {w : rW} {Q : List rV → rW → Prop} {a b : Int} (x : Int) {op : CmpOp} (hd : decode (mB μ) pc = .ok (.fcmp op, 1)) (hx : Op.cmpValue (FP.fcmp (fF a) (fF b)) op = fI x) (h : WP μ (pc + 1) L (vi x :: st) w Q) : WP μ pc L (vf b :: vf a :: st) w Q := by
  intro p l e R s m args below meth c D cI cC A H0 ad ls H locs cells slots QQ C hc hs hP hD hS hl hq
  have h := h p l e R s m args below meth c D cI cC A H0 ad ls H locs cells slots QQ C hc hs hP hD hS hl hq
  refine lv_fcmp (x := fF a) (y := fF b) C.1 C.2.1 hd ?_
  rw [hx]
  exact h
theorem cv_c1 {ad : Int → Nat} {v : rV} (h : v.1 ≠ 2) : (cv ad v).category = 1 := by
  rcases lv_cat (cv ad v) with q | q
  · exact q
  · exact absurd (cv_cat q) h
theorem q_dup {μ : MI} {pc : Nat} {L st : List rV} {w : rW} {Q : List rV → rW → Prop} {v : rV} (hd : decode (mB μ) pc = .ok (.dup, 1)) (hv : v.1 ≠ 2) (h : WP μ (pc + 1) L (v :: v :: st) w Q) : WP μ pc L (v :: st) w Q := by
  intro p l e R s m args below meth c D cI cC A H0 ad ls H locs cells slots QQ C hc hs hP hD hS hl hq
  have h := h p l e R s m args below meth c D cI cC A H0 ad ls H locs cells slots QQ C hc hs hP hD hS hl hq
  exact lv_dup C.1 C.2.1 hd (cv_c1 hv) h
theorem q_pop {μ : MI} {pc : Nat} {L st : List rV} {w : rW} {Q : List rV → rW → Prop} {v : rV} (hd : decode (mB μ) pc = .ok (.pop, 1)) (hv : v.1 ≠ 2) (h : WP μ (pc + 1) L (st) w Q) : WP μ pc L (v :: st) w Q := by
  intro p l e R s m args below meth c D cI cC A H0 ad ls H locs cells slots QQ C hc hs hP hD hS hl hq
  have h := h p l e R s m args below meth c D cI cC A H0 ad ls H locs cells slots QQ C hc hs hP hD hS hl hq
  exact lv_pop C.1 C.2.1 hd (cv_c1 hv) h
theorem q_dup2 {μ : MI} {pc : Nat} {L st : List rV} {w : rW} {Q : List rV → rW → Prop} {u v : rV} (hd : decode (mB μ) pc = .ok (.dup2, 1)) (hu : u.1 ≠ 2) (hv : v.1 ≠ 2) (h : WP μ (pc + 1) L (u :: v :: u :: v :: st) w Q) : WP μ pc L (u :: v :: st) w Q := by
  intro p l e R s m args below meth c D cI cC A H0 ad ls H locs cells slots QQ C hc hs hP hD hS hl hq
  have h := h p l e R s m args below meth c D cI cC A H0 ad ls H locs cells slots QQ C hc hs hP hD hS hl hq
  exact lv_dup2_11 C.1 C.2.1 hd (cv_c1 hu) (cv_c1 hv) h
theorem q_icmp_eq {μ : MI} {pc : Nat} {L st : List rV} {w : rW} {Q : List rV → rW → Prop} {a b : Int} {off : Int} (tgt : Nat) (hd : decode (mB μ) pc = .ok (.if_icmp .eq off, 3)) (ht : (pc : Int) + off = (tgt : Int)) (h1 : R32 a) (h2 : R32 b) (hp : a = b → WP μ tgt L st w Q) (hn : ¬ a = b → WP μ (pc + 3) L st w Q) : WP μ pc L (vi b :: vi a :: st) w Q := by
  intro p l e R s m args below meth c D cI cC A H0 ad ls H locs cells slots QQ C hc hs hP hD hS hl hq
  have ef : fI a = fI b ↔ a = b := fI_eq h1 h2
  exact lv_icmp_eq (x := fI a) (y := fI b) C.1 C.2.1 hd ht (fun q => hp (ef.mp q) p l e R s m args below meth c D cI cC A H0 ad ls H locs cells slots QQ C hc hs hP hD hS hl hq) (fun q => hn (fun z => q (ef.mpr z)) p l e R s m args below meth c D cI cC A H0 ad ls H locs cells slots QQ C hc hs hP hD hS hl hq)
theorem q_icmp_ne {μ : MI} {pc : Nat} {L st : List rV} {w : rW} {Q : List rV → rW → Prop} {a b : Int} {off : Int} (tgt : Nat) (hd : decode (mB μ) pc = .ok (.if_icmp .ne off, 3)) (ht : (pc : Int) + off = (tgt : Int)) (h1 : R32 a) (h2 : R32 b) (hp : ¬ a = b → WP μ tgt L st w Q) (hn : a = b → WP μ (pc + 3) L st w Q) : WP μ pc L (vi b :: vi a :: st) w Q := by
  intro p l e R s m args below meth c D cI cC A H0 ad ls H locs cells slots QQ C hc hs hP hD hS hl hq
  have ef : fI a = fI b ↔ a = b := fI_eq h1 h2
  exact lv_icmp_ne (x := fI a) (y := fI b) C.1 C.2.1 hd ht (fun q => hp (fun z => q (ef.mpr z)) p l e R s m args below meth c D cI cC A H0 ad ls H locs cells slots QQ C hc hs hP hD hS hl hq) (fun q => hn (ef.mp q) p l e R s m args below meth c D cI cC A H0 ad ls H locs cells slots QQ C hc hs hP hD hS hl hq)
theorem q_icmp_lt {μ : MI} {pc : Nat} {L st : List rV} {w : rW} {Q : List rV → rW → Prop} {a b : Int} {off : Int} (tgt : Nat) (hd : decode (mB μ) pc = .ok (.if_icmp .lt off, 3)) (ht : (pc : Int) + off = (tgt : Int)) (h1 : R32 a) (h2 : R32 b) (hp : a < b → WP μ tgt L st w Q) (hn : b ≤ a → WP μ (pc + 3) L st w Q) : WP μ pc L (vi b :: vi a :: st) w Q := by
  intro p l e R s m args below meth c D cI cC A H0 ad ls H locs cells slots QQ C hc hs hP hD hS hl hq
  have ef : fI a < fI b ↔ a < b := fI_lt h1 h2
  exact lv_icmp_lt (x := fI a) (y := fI b) C.1 C.2.1 hd ht (fun q => hp (ef.mp q) p l e R s m args below meth c D cI cC A H0 ad ls H locs cells slots QQ C hc hs hP hD hS hl hq) (fun q => hn (Int.not_lt.mp (fun z => q (ef.mpr z))) p l e R s m args below meth c D cI cC A H0 ad ls H locs cells slots QQ C hc hs hP hD hS hl hq)
theorem q_icmp_ge {μ : MI} {pc : Nat} {L st : List rV} {w : rW} {Q : List rV → rW → Prop} {a b : Int} {off : Int} (tgt : Nat) (hd : decode (mB μ) pc = .ok (.if_icmp .ge off, 3)) (ht : (pc : Int) + off = (tgt : Int)) (h1 : R32 a) (h2 : R32 b) (hp : b ≤ a → WP μ tgt L st w Q) (hn : a < b → WP μ (pc + 3) L st w Q) : WP μ pc L (vi b :: vi a :: st) w Q := by
  intro p l e R s m args below meth c D cI cC A H0 ad ls H locs cells slots QQ C hc hs hP hD hS hl hq
  have ef : fI b ≤ fI a ↔ b ≤ a := fI_le h2 h1
  exact lv_icmp_ge (x := fI a) (y := fI b) C.1 C.2.1 hd ht (fun q => hp (ef.mp q) p l e R s m args below meth c D cI cC A H0 ad ls H locs cells slots QQ C hc hs hP hD hS hl hq) (fun q => hn (Int.not_le.mp (fun z => q (ef.mpr z))) p l e R s m args below meth c D cI cC A H0 ad ls H locs cells slots QQ C hc hs hP hD hS hl hq)
theorem q_icmp_gt {μ : MI} {pc : Nat} {L st : List rV} {w : rW} {Q : List rV → rW → Prop} {a b : Int} {off : Int} (tgt : Nat) (hd : decode (mB μ) pc = .ok (.if_icmp .gt off, 3)) (ht : (pc : Int) + off = (tgt : Int)) (h1 : R32 a) (h2 : R32 b) (hp : b < a → WP μ tgt L st w Q) (hn : a ≤ b → WP μ (pc + 3) L st w Q) : WP μ pc L (vi b :: vi a :: st) w Q := by
  intro p l e R s m args below meth c D cI cC A H0 ad ls H locs cells slots QQ C hc hs hP hD hS hl hq
  have ef : fI b < fI a ↔ b < a := fI_lt h2 h1
  exact lv_icmp_gt (x := fI a) (y := fI b) C.1 C.2.1 hd ht (fun q => hp (ef.mp q) p l e R s m args below meth c D cI cC A H0 ad ls H locs cells slots QQ C hc hs hP hD hS hl hq) (fun q => hn (Int.not_lt.mp (fun z => q (ef.mpr z))) p l e R s m args below meth c D cI cC A H0 ad ls H locs cells slots QQ C hc hs hP hD hS hl hq)
theorem q_icmp_le {μ : MI} {pc : Nat} {L st : List rV} {w : rW} {Q : List rV → rW → Prop} {a b : Int} {off : Int} (tgt : Nat) (hd : decode (mB μ) pc = .ok (.if_icmp .le off, 3)) (ht : (pc : Int) + off = (tgt : Int)) (h1 : R32 a) (h2 : R32 b) (hp : a ≤ b → WP μ tgt L st w Q) (hn : b < a → WP μ (pc + 3) L st w Q) : WP μ pc L (vi b :: vi a :: st) w Q := by
  intro p l e R s m args below meth c D cI cC A H0 ad ls H locs cells slots QQ C hc hs hP hD hS hl hq
  have ef : fI a ≤ fI b ↔ a ≤ b := fI_le h1 h2
  exact lv_icmp_le (x := fI a) (y := fI b) C.1 C.2.1 hd ht (fun q => hp (ef.mp q) p l e R s m args below meth c D cI cC A H0 ad ls H locs cells slots QQ C hc hs hP hD hS hl hq) (fun q => hn (Int.not_le.mp (fun z => q (ef.mpr z))) p l e R s m args below meth c D cI cC A H0 ad ls H locs cells slots QQ C hc hs hP hD hS hl hq)
theorem q_if_eq {μ : MI} {pc : Nat} {L st : List rV} {w : rW} {Q : List rV → rW → Prop} {a : Int} {off : Int} (tgt : Nat) (hd : decode (mB μ) pc = .ok (.ifCond .eq off, 3)) (ht : (pc : Int) + off = (tgt : Int)) (h1 : R32 a) (hp : a = 0 → WP μ tgt L st w Q) (hn : ¬ a = 0 → WP μ (pc + 3) L st w Q) : WP μ pc L (vi a :: st) w Q := by
  intro p l e R s m args below meth c D cI cC A H0 ad ls H locs cells slots QQ C hc hs hP hD hS hl hq
  have ef : fI a = 0 ↔ a = 0 := fI_eq (b := 0) h1 (⟨by decide, by decide⟩ : R32 0)
  exact lv_if_eq (x := fI a) C.1 C.2.1 hd ht (fun q => hp (ef.mp q) p l e R s m args below meth c D cI cC A H0 ad ls H locs cells slots QQ C hc hs hP hD hS hl hq) (fun q => hn (fun z => q (ef.mpr z)) p l e R s m args below meth c D cI cC A H0 ad ls H locs cells slots QQ C hc hs hP hD hS hl hq)
theorem q_if_ne {μ : MI} {pc : Nat} {L st : List rV} {w : rW} {Q : List rV → rW → Prop} {a : Int} {off : Int} (tgt : Nat) (hd : decode (mB μ) pc = .ok (.ifCond .ne off, 3)) (ht : (pc : Int) + off = (tgt : Int)) (h1 : R32 a) (hp : ¬ a = 0 → WP μ tgt L st w Q) (hn : a = 0 → WP μ (pc + 3) L st w Q) : WP μ pc L (vi a :: st) w Q := by
  intro p l e R s m args below meth c D cI cC A H0 ad ls H locs cells slots QQ C hc hs hP hD hS hl hq
  have ef : fI a = 0 ↔ a = 0 := fI_eq (b := 0) h1 (⟨by decide, by decide⟩ : R32 0)
  exact lv_if_ne (x := fI a) C.1 C.2.1 hd ht (fun q => hp (fun z => q (ef.mpr z)) p l e R s m args below meth c D cI cC A H0 ad ls H locs cells slots QQ C hc hs hP hD hS hl hq) (fun q => hn (ef.mp q) p l e R s m args below meth c D cI cC A H0 ad ls H locs cells slots QQ C hc hs hP hD hS hl hq)
theorem q_if_lt {μ : MI} {pc : Nat} {L st : List rV} {w : rW} {Q : List rV → rW → Prop} {a : Int} {off : Int} (tgt : Nat) (hd : decode (mB μ) pc = .ok (.ifCond .lt off, 3)) (ht : (pc : Int) + off = (tgt : Int)) (h1 : R32 a) (hp : a < 0 → WP μ tgt L st w Q) (hn : 0 ≤ a → WP μ (pc + 3) L st w Q) : WP μ pc L (vi a :: st) w Q := by
  intro p l e R s m args below meth c D cI cC A H0 ad ls H locs cells slots QQ C hc hs hP hD hS hl hq
  have ef : fI a < 0 ↔ a < 0 := fI_lt (b := 0) h1 (⟨by decide, by decide⟩ : R32 0)
  exact lv_if_lt (x := fI a) C.1 C.2.1 hd ht (fun q => hp (ef.mp q) p l e R s m args below meth c D cI cC A H0 ad ls H locs cells slots QQ C hc hs hP hD hS hl hq) (fun q => hn (Int.not_lt.mp (fun z => q (ef.mpr z))) p l e R s m args below meth c D cI cC A H0 ad ls H locs cells slots QQ C hc hs hP hD hS hl hq)
theorem q_if_ge {μ : MI} {pc : Nat} {L st : List rV} {w : rW} {Q : List rV → rW → Prop} {a : Int} {off : Int} (tgt : Nat) (hd : decode (mB μ) pc = .ok (.ifCond .ge off, 3)) (ht : (pc : Int) + off = (tgt : Int)) (h1 : R32 a) (hp : 0 ≤ a → WP μ tgt L st w Q) (hn : a < 0 → WP μ (pc + 3) L st w Q) : WP μ pc L (vi a :: st) w Q := by
  intro p l e R s m args below meth c D cI cC A H0 ad ls H locs cells slots QQ C hc hs hP hD hS hl hq
  have ef : 0 ≤ fI a ↔ 0 ≤ a := fI_le (a := 0) (⟨by decide, by decide⟩ : R32 0) h1
  exact lv_if_ge (x := fI a) C.1 C.2.1 hd ht (fun q => hp (ef.mp q) p l e R s m args below meth c D cI cC A H0 ad ls H locs cells slots QQ C hc hs hP hD hS hl hq) (fun q => hn (Int.not_le.mp (fun z => q (ef.mpr z))) p l e R s m args below meth c D cI cC A H0 ad ls H locs cells slots QQ C hc hs hP hD hS hl hq)
theorem q_if_gt {μ : MI} {pc : Nat} {L st : List rV} {w : rW} {Q : List rV → rW → Prop} {a : Int} {off : Int} (tgt : Nat) (hd : decode (mB μ) pc = .ok (.ifCond .gt off, 3)) (ht : (pc : Int) + off = (tgt : Int)) (h1 : R32 a) (hp : 0 < a → WP μ tgt L st w Q) (hn : a ≤ 0 → WP μ (pc + 3) L st w Q) : WP μ pc L (vi a :: st) w Q := by
  intro p l e R s m args below meth c D cI cC A H0 ad ls H locs cells slots QQ C hc hs hP hD hS hl hq
  have ef : 0 < fI a ↔ 0 < a := fI_lt (a := 0) (⟨by decide, by decide⟩ : R32 0) h1
  exact lv_if_gt (x := fI a) C.1 C.2.1 hd ht (fun q => hp (ef.mp q) p l e R s m args below meth c D cI cC A H0 ad ls H locs cells slots QQ C hc hs hP hD hS hl hq) (fun q => hn (Int.not_lt.mp (fun z => q (ef.mpr z))) p l e R s m args below meth c D cI cC A H0 ad ls H locs cells slots QQ C hc hs hP hD hS hl hq)
theorem q_if_le {μ : MI} {pc : Nat} {L st : List rV} {w : rW} {Q : List rV → rW → Prop} {a : Int} {off : Int} (tgt : Nat) (hd : decode (mB μ) pc = .ok (.ifCond .le off, 3)) (ht : (pc : Int) + off = (tgt : Int)) (h1 : R32 a) (hp : a ≤ 0 → WP μ tgt L st w Q) (hn : 0 < a → WP μ (pc + 3) L st w Q) : WP μ pc L (vi a :: st) w Q := by
  intro p l e R s m args below meth c D cI cC A H0 ad ls H locs cells slots QQ C hc hs hP hD hS hl hq
  have ef : fI a ≤ 0 ↔ a ≤ 0 := fI_le (b := 0) h1 (⟨by decide, by decide⟩ : R32 0)
  exact lv_if_le (x := fI a) C.1 C.2.1 hd ht (fun q => hp (ef.mp q) p l e R s m args below meth c D cI cC A H0 ad ls H locs cells slots QQ C hc hs hP hD hS hl hq) (fun q => hn (Int.not_le.mp (fun z => q (ef.mpr z))) p l e R s m args below meth c D cI cC A H0 ad ls H locs cells slots QQ C hc hs hP hD hS hl hq)
theorem q_goto {μ : MI} {pc : Nat} {L st : List rV} {w : rW} {Q : List rV → rW → Prop} {off : Int} (tgt : Nat) (hd : decode (mB μ) pc = .ok (.goto off, 3)) (ht : (pc : Int) + off = (tgt : Int)) (h : WP μ tgt L st w Q) : WP μ pc L st w Q := by
  intro p l e R s m args below meth c D cI cC A H0 ad ls H locs cells slots QQ C hc hs hP hD hS hl hq
  have h := h p l e R s m args below meth c D cI cC A H0 ad ls H locs cells slots QQ C hc hs hP hD hS hl hq
  exact lv_goto C.1 C.2.1 hd ht h
theorem q_tbl {μ : MI} {pc : Nat} {L st : List rV} {w : rW} {Q : List rV → rW → Prop} {dflt lo hi : Int} {offs : Array Int} {len : Nat} {a : Int} (d : Nat) (hd : decode (mB μ) pc = .ok (.tableswitch dflt lo hi offs, len)) (ht : (pc : Int) + dflt = (d : Int)) (h1 : R32 a) (hin : lo ≤ a → a ≤ hi → ∃ (off : Int) (t : Nat), offs[(a - lo).toNat]? = some off ∧ (pc : Int) + off = (t : Int) ∧ WP μ t L st w Q) (hout : a < lo ∨ hi < a → WP μ d L st w Q) : WP μ pc L (vi a :: st) w Q := by
  intro p l e R s m args below meth c D cI cC A H0 ad ls H locs cells slots QQ C hc hs hP hD hS hl hq
  have ef := fI_t h1
  by_cases hr : a < lo ∨ hi < a
  · exact lv_tableOut (x := fI a) C.1 C.2.1 hd (by rw [ef]; exact hr) ht (hout hr p l e R s m args below meth c D cI cC A H0 ad ls H locs cells slots QQ C hc hs hP hD hS hl hq)
  · obtain ⟨off, t, g1, g2, g3⟩ := hin (by omega) (by omega)
    exact lv_tableIn (x := fI a) C.1 C.2.1 hd (by rw [ef]; omega) (by rw [ef]; omega) (by rw [ef]; exact g1) g2 (g3 p l e R s m args below meth c D cI cC A H0 ad ls H locs cells slots QQ C hc hs hP hD hS hl hq)
theorem q_forget {μ : MI} {pc : Nat} {L st : List rV} {w : rW} {Q : List rV → rW → Prop} (L' : List rV) (hf : ∀ (k : Nat) (v : rV), L'[k]? = some v → v.1 < 9 → L[k]? = some v) (h : WP μ pc L' st w Q) : WP μ pc L st w Q := by
  intro p l e R s m args below meth c D cI cC A H0 ad ls H locs cells slots QQ C hc hs hP hD hS hl hq
  exact h p l e R s m args below meth c D cI cC A H0 ad ls H locs cells slots QQ C hc hs hP hD hS (hl.forget hf) hq
/-- forgetting, as a program decides it -/
def fgt : List rV → List rV → Prop
  | [], _ => True
  | _ :: _, [] => False
  | v :: t, x :: y => (v = vu ∨ v = x) ∧ fgt t y
theorem fgt_at : ∀ {L' L : List rV}, fgt L' L → ∀ (k : Nat) (v : rV), L'[k]? = some v → v.1 < 9 → L[k]? = some v
  | [], _, _, k, v, h, _ => by simp at h
  | _ :: _, [], h, _, _, _, _ => h.elim
  | v0 :: t, x :: y, h, 0, v, hv, h9 => by
    simp only [List.getElem?_cons_zero] at hv ⊢
    cases hv
    rcases h.1 with q | q
    · rw [q] at h9; exact absurd h9 (by decide)
    · rw [q]
  | v0 :: t, x :: y, h, k + 1, v, hv, h9 => by
    simp only [List.getElem?_cons_succ] at hv ⊢
    exact fgt_at h.2 k v hv h9
theorem q_fgt {μ : MI} {pc : Nat} {L st : List rV} {w : rW} {Q : List rV → rW → Prop} (L' : List rV) (hf : fgt L' L) (h : WP μ pc L' st w Q) : WP μ pc L st w Q := q_forget L' (fgt_at hf) h
theorem q_get {μ : MI} {pc : Nat} {L st : List rV} {w : rW} {Q : List rV → rW → Prop} {r : Int} {index : Nat} (ci k : Nat) {C1 : String} {T1 : u_T} {N1 : Nat} {v : rV} (hd : decode (mB μ) pc = .ok (.getfield index, 3)) (ho : oc r = ci) (hc4 : ci ≤ 4) (hcl : vwCl[ci]? = some (C1, T1, N1)) (hin : ∀ w ∈ u_ws C1 T1 N1, w ∈ gT) (hk : k < N1) (href : (T1 k).1 = C1) (hlink : Cond.fieldLink (mN μ).cls index C1 (T1 k).2.1 (T1 k).2.2.1 ∈ gT) (hv : ∀ ad, (fl ad w r ci)[k]? = some (cv ad v)) (h : WP μ (pc + 3) L (v :: st) w Q) : WP μ pc L (vr r :: st) w Q := by
  intro p l e R s m args below meth c D cI cC A H0 ad ls H locs cells slots QQ C hc hs hP hD hS hl hq
  have h := h p l e R s m args below meth c D cI cC A H0 ad ls H locs cells slots QQ C hc hs hP hD hS hl hq
  obtain ⟨q0, hq0⟩ := oc_at (ad := ad) (cI := cI) (cC := cC) (w := w) ho hc4
  exact va_get C.1 C.2.1 C.2.2.2.2.1 hin C.2.2.2.1 C.2.2.2.2.2.2.2.1 hP q0 hq0 hcl k hk (C.2.2.2.2.1 _ hlink) (fun x hx => href ▸ hx) (hv ad) hd h
theorem q_getN {μ : MI} {pc : Nat} {L st : List rV} {w : rW} {Q : List rV → rW → Prop} {r : Int} {index : Nat} {host : String} (ci k : Nat) {C1 : String} {T1 : u_T} {N1 : Nat} {v : rV} (hd : decode (mB μ) pc = .ok (.getfield index, 3)) (ho : oc r = ci) (hc4 : ci ≤ 4) (hcl : vwCl[ci]? = some (C1, T1, N1)) (hin : ∀ w ∈ u_ws C1 T1 N1, w ∈ gT) (hk : k < N1) (href : (T1 k).1 = C1) (hlink : ((mN μ).cls, index, C1, (T1 k).2.1, (T1 k).2.2.1, host) ∈ gNF) (hv : ∀ ad, (fl ad w r ci)[k]? = some (cv ad v)) (h : WP μ (pc + 3) L (v :: st) w Q) : WP μ pc L (vr r :: st) w Q := by
  intro p l e R s m args below meth c D cI cC A H0 ad ls H locs cells slots QQ C hc hs hP hD hS hl hq
  have h := h p l e R s m args below meth c D cI cC A H0 ad ls H locs cells slots QQ C hc hs hP hD hS hl hq
  obtain ⟨q0, hq0⟩ := oc_at (ad := ad) (cI := cI) (cC := cC) (w := w) ho hc4
  exact va_getN C.1 C.2.1 C.2.2.2.2.1 hin C.2.2.2.1 C.2.2.2.2.2.2.2.1 hP q0 hq0 hcl k hk (va_Nw.use rfl (C.2.2.2.2.2.2.2.2.2.1 _ hlink)) (fun x hx => href ▸ hx) (hv ad) hd h
theorem q_put {μ : MI} {pc : Nat} {L st : List rV} {w : rW} {Q : List rV → rW → Prop} {r a : Int} {index : Nat} {host : String} (ci k : Nat) {C1 : String} {T1 : u_T} {N1 : Nat} {ty1 : Nat → FieldType} {v : rV} (hd : decode (mB μ) pc = .ok (.putfield index, 3)) (hpt : ∀ (ad : Int → Nat) (cI cC : ClassId), ∃ q0 : Nat, (wl ad cI cC w)[q0]? = some (ad r, .inr (ci, fl ad w r ci)) ∧ (wl ad cI cC w).set q0 (ad r, .inr (ci, (fl ad w r ci).set k (cv ad v))) = wl ad cI cC (wset w r k a)) (hcl : vwCl[ci]? = some (C1, T1, N1)) (hin : ∀ w ∈ u_ws C1 T1 N1, w ∈ gT) (hty : ∀ k, k < N1 → parseFieldDescriptor (T1 k).2.2.1 = some (ty1 k)) (hnm : ∀ a, a < N1 → ∀ b, b < N1 → a ≠ b → (T1 a).2.1 ≠ (T1 b).2.1) (hk : k < N1) (href : (T1 k).1 = C1) (hfin : (T1 k).2.2.2 = false) (hlink : Cond.fieldLink (mN μ).cls index C1 (T1 k).2.1 (T1 k).2.2.1 ∈ gT) (hnf : ∀ ad, narrow (ty1 k) (cv ad v) = cv ad v ∧ fits (ty1 k) (cv ad v) = true) (hkl : ∀ ad, k < (fl ad w r ci).length) (h : WP μ (pc + 3) L st (wset w r k a) Q) : WP μ pc L (v :: vr r :: st) w Q := by
  intro p l e R s m args below meth c D cI cC A H0 ad ls H locs cells slots QQ C hc hs hP hD hS hl hq
  obtain ⟨q0, hq0, hset⟩ := hpt ad cI cC
  refine va_put C.1 C.2.1 C.2.2.2.2.1 hin ty1 hty hnm C.2.2.2.1 C.2.2.2.2.2.2.2.1 hP hD hS q0 hq0 hcl k hk (C.2.2.2.2.1 _ hlink) (fun x hx => href ▸ hx) hfin (hty k hk) (hnf ad).1 (hnf ad).2 (hkl ad) hd (fun H1 locs1 hP1 hD1 hS1 => ?_)
  rw [hset] at hP1 hD1
  exact h p l e R s m args below meth c D cI cC A H0 ad ls H1 locs1 cells slots QQ C hc hs hP1 hD1 hS1 hl hq
theorem q_putN {μ : MI} {pc : Nat} {L st : List rV} {w : rW} {Q : List rV → rW → Prop} {r a : Int} {index : Nat} {host : String} (ci k : Nat) {C1 : String} {T1 : u_T} {N1 : Nat} {ty1 : Nat → FieldType} {v : rV} (hd : decode (mB μ) pc = .ok (.putfield index, 3)) (hpt : ∀ (ad : Int → Nat) (cI cC : ClassId), ∃ q0 : Nat, (wl ad cI cC w)[q0]? = some (ad r, .inr (ci, fl ad w r ci)) ∧ (wl ad cI cC w).set q0 (ad r, .inr (ci, (fl ad w r ci).set k (cv ad v))) = wl ad cI cC (wset w r k a)) (hcl : vwCl[ci]? = some (C1, T1, N1)) (hin : ∀ w ∈ u_ws C1 T1 N1, w ∈ gT) (hty : ∀ k, k < N1 → parseFieldDescriptor (T1 k).2.2.1 = some (ty1 k)) (hnm : ∀ a, a < N1 → ∀ b, b < N1 → a ≠ b → (T1 a).2.1 ≠ (T1 b).2.1) (hk : k < N1) (href : (T1 k).1 = C1) (hfin : (T1 k).2.2.2 = false) (hlink : ((mN μ).cls, index, C1, (T1 k).2.1, (T1 k).2.2.1, host) ∈ gNF) (hnf : ∀ ad, narrow (ty1 k) (cv ad v) = cv ad v ∧ fits (ty1 k) (cv ad v) = true) (hkl : ∀ ad, k < (fl ad w r ci).length) (h : WP μ (pc + 3) L st (wset w r k a) Q) : WP μ pc L (v :: vr r :: st) w Q := by
  intro p l e R s m args below meth c D cI cC A H0 ad ls H locs cells slots QQ C hc hs hP hD hS hl hq
  obtain ⟨q0, hq0, hset⟩ := hpt ad cI cC
  refine va_putN C.1 C.2.1 C.2.2.2.2.1 hin ty1 hty hnm C.2.2.2.1 C.2.2.2.2.2.2.2.1 hP hD hS q0 hq0 hcl k hk (va_Nw.use rfl (C.2.2.2.2.2.2.2.2.2.1 _ hlink)) (fun x hx => href ▸ hx) hfin (hty k hk) (hnf ad).1 (hnf ad).2 (hkl ad) hd (fun H1 locs1 hP1 hD1 hS1 => ?_)
  rw [hset] at hP1 hD1
  exact h p l e R s m args below meth c D cI cC A H0 ad ls H1 locs1 cells slots QQ C hc hs hP1 hD1 hS1 hl hq
theorem q_iald {μ : MI} {pc : Nat} {L st : List rV} {w : rW} {Q : List rV → rW → Prop} {r i : Int} (hd : decode (mB μ) pc = .ok (.iaload, 1)) (h0 : 0 ≤ i) (h1 : i < al r) (h : WP μ (pc + 1) L (vi (w r i) :: st) w Q) : WP μ pc L (vi i :: vr r :: st) w Q := by
  intro p l e R s m args below meth c D cI cC A H0 ad ls H locs cells slots QQ C hc hs hP hD hS hl hq
  have h := h p l e R s m args below meth c D cI cC A H0 ad ls H locs cells slots QQ C hc hs hP hD hS hl hq
  obtain ⟨q0, n, hn, h5, hq0⟩ := al_at (ad := ad) (cI := cI) (cC := cC) (w := w) h0 h1
  refine va_iald (i := fI i) C.1 C.2.1 C.2.2.2.2.2.2.2.1 hP q0 0 hq0 rfl (fI_in h0 (by omega) h5) hd ?_
  rw [fI_cl h0 (by omega)]
  have e : ((i.toNat : Nat) : Int) = i := Int.toNat_of_nonneg h0
  rw [e]
  exact h
theorem q_iast {μ : MI} {pc : Nat} {L st : List rV} {w : rW} {Q : List rV → rW → Prop} {r i a : Int} (hd : decode (mB μ) pc = .ok (.iastore, 1)) (h0 : 0 ≤ i) (h1 : i < al r) (h : WP μ (pc + 1) L st (wset w r i a) Q) : WP μ pc L (vi a :: vi i :: vr r :: st) w Q := by
  intro p l e R s m args below meth c D cI cC A H0 ad ls H locs cells slots QQ C hc hs hP hD hS hl hq
  obtain ⟨q0, n, hn, h5, hq0, hset⟩ := al_put (ad := ad) (cI := cI) (cC := cC) (w := w) h0 h1
  refine va_iast (i := fI i) (x := fI a) C.1 C.2.1 C.2.2.2.2.2.2.2.1 hP hD hS q0 0 hq0 rfl (fI_in h0 (by omega) h5) hd (fun H1 locs1 hP1 hD1 hS1 => ?_)
  rw [fI_cl h0 (by omega), hset] at hP1 hD1
  exact h p l e R s m args below meth c D cI cC A H0 ad ls H1 locs1 cells slots QQ C hc hs hP1 hD1 hS1 hl hq
theorem q_alen {μ : MI} {pc : Nat} {L st : List rV} {w : rW} {Q : List rV → rW → Prop} {r : Int} (hd : decode (mB μ) pc = .ok (.arraylength, 1)) (h0 : 0 < al r) (h : WP μ (pc + 1) L (vi (al r) :: st) w Q) : WP μ pc L (vr r :: st) w Q := by
  intro p l e R s m args below meth c D cI cC A H0 ad ls H locs cells slots QQ C hc hs hP hD hS hl hq
  have h := h p l e R s m args below meth c D cI cC A H0 ad ls H locs cells slots QQ C hc hs hP hD hS hl hq
  obtain ⟨q0, n, hn, h5, hq0⟩ := al_at (ad := ad) (cI := cI) (cC := cC) (w := w) (Int.le_refl 0) h0
  exact va_alen (v := fI (al r)) C.1 C.2.1 C.2.2.2.2.2.2.2.1 hP q0 0 hq0 (ty := .int) rfl (by rw [← hn]; rfl) hd h
theorem q_cald {μ : MI} {pc : Nat} {L st : List rV} {w : rW} {Q : List rV → rW → Prop} {i : Int} (hd : decode (mB μ) pc = .ok (.caload, 1)) (h0 : 0 ≤ i) (h1 : i < 60) (h : WP μ (pc + 1) L (vi (w 13 i) :: st) w Q) : WP μ pc L (vi i :: vr 13 :: st) w Q := by
  intro p l e R s m args below meth c D cI cC A H0 ad ls H locs cells slots QQ C hc hs hP hD hS hl hq
  have h := h p l e R s m args below meth c D cI cC A H0 ad ls H locs cells slots QQ C hc hs hP hD hS hl hq
  refine va_cald (i := fI i) (n := 60) (f := fun j : Nat => fI (w 13 j)) C.1 C.2.1 C.2.2.2.2.2.2.2.1 hP 13 1 rfl rfl (fI_in h0 (by omega) (by decide)) hd ?_
  rw [fI_cl h0 (by omega)]
  have e : ((i.toNat : Nat) : Int) = i := Int.toNat_of_nonneg h0
  rw [e]
  exact h
theorem q_cast {μ : MI} {pc : Nat} {L st : List rV} {w : rW} {Q : List rV → rW → Prop} {i a : Int} (hd : decode (mB μ) pc = .ok (.castore, 1)) (h0 : 0 ≤ i) (h1 : i < 60) (ha0 : 0 ≤ a) (ha1 : a < 65536) (h : WP μ (pc + 1) L st (wset w 13 i a) Q) : WP μ pc L (vi a :: vi i :: vr 13 :: st) w Q := by
  intro p l e R s m args below meth c D cI cC A H0 ad ls H locs cells slots QQ C hc hs hP hD hS hl hq
  refine va_cast (i := fI i) (x := fI a) (n := 60) (f := fun j : Nat => fI (w 13 j)) C.1 C.2.1 C.2.2.2.2.2.2.2.1 hP hD hS 13 1 rfl rfl (fI_in h0 (by omega) (by decide)) hd (fun H1 locs1 hP1 hD1 hS1 => ?_)
  have ev : vp_nar .char (fI a) = fI a := by
    rw [← fI_char ha0 ha1]
    exact pk_vc _
  rw [fI_cl h0 (by omega), ev, ch_put h0] at hP1 hD1
  exact h p l e R s m args below meth c D cI cC A H0 ad ls H1 locs1 cells slots QQ C hc hs hP1 hD1 hS1 hl hq
theorem cat_le {ad : Int → Nat} : ∀ {st : List rV}, ((st.map (cv ad)).map (fun v => v.category)).sum ≤ 2 * st.length
  | [] => Nat.le_refl _
  | v :: t => by
    have h := cat_le (ad := ad) (st := t)
    have h2 : (cv ad v).category ≤ 2 := by rcases lv_cat (cv ad v) with q | q <;> omega
    simp only [List.map_cons, List.sum_cons, List.length_cons]
    omega
theorem q_mmax {μ : MI} {pc : Nat} {L st : List rV} {w : rW} {Q : List rV → rW → Prop} {a b : Int} {index : Nat} (hd : decode (mB μ) pc = .ok (.invokestatic index, 3)) (w1 : Cond.methodLink (mN μ).cls index Lib.Math.max.name ∈ gT) (w2 : Cond.static Lib.Math.max.name ∈ gT) (w3 : Cond.initialized "java/lang/Math" ∈ gT) (w4 : Cond.code Lib.Math.max.name Lib.Math.max.code 2 (some .int) ∈ gT) (hf : 1 ≤ mF μ) (ho : 21 ≤ mO μ) (hst : st.length ≤ 4) (h1 : R32 a) (h2 : R32 b) (h : WP μ (pc + 3) L (vi (max a b) :: st) w Q) : WP μ pc L (vi b :: vi a :: st) w Q := by
  intro p l e R s m args below meth c D cI cC A H0 ad ls H locs cells slots QQ C hc hs hP hD hS hl hq
  have h := h p l e R s m args below meth c D cI cC A H0 ad ls H locs cells slots QQ C hc hs hP hD hS hl hq
  have hcat := cat_le (ad := ad) (st := st)
  refine va_mmax (x := fI a) (y := fI b) C.1 C.2.1 (C.2.2.1.trans hl.1.symm) C.2.2.2.1 (C.2.2.2.2.1 _ w1) (C.2.2.2.2.1 _ w2) (C.2.2.2.2.1 _ w3) (C.2.2.2.2.1 _ w4) (Nat.le_trans hf C.2.2.2.2.2.1) (by have := C.2.2.2.2.2.2.1; omega) hc hs hd ?_
  rw [show (if fI a < fI b then fI b else fI a) = fI (max a b) from by
    simp only [fI_lt h1 h2]
    split
    · rw [Int.max_eq_right (by omega)]
    · rw [Int.max_eq_left (by omega)]]
  exact h
theorem q_mmin {μ : MI} {pc : Nat} {L st : List rV} {w : rW} {Q : List rV → rW → Prop} {a b : Int} {index : Nat} (hd : decode (mB μ) pc = .ok (.invokestatic index, 3)) (w1 : Cond.methodLink (mN μ).cls index Lib.Math.min.name ∈ gT) (w2 : Cond.static Lib.Math.min.name ∈ gT) (w3 : Cond.initialized "java/lang/Math" ∈ gT) (w4 : Cond.code Lib.Math.min.name Lib.Math.min.code 2 (some .int) ∈ gT) (hf : 1 ≤ mF μ) (ho : 21 ≤ mO μ) (hst : st.length ≤ 4) (h1 : R32 a) (h2 : R32 b) (h : WP μ (pc + 3) L (vi (min a b) :: st) w Q) : WP μ pc L (vi b :: vi a :: st) w Q := by
  intro p l e R s m args below meth c D cI cC A H0 ad ls H locs cells slots QQ C hc hs hP hD hS hl hq
  have h := h p l e R s m args below meth c D cI cC A H0 ad ls H locs cells slots QQ C hc hs hP hD hS hl hq
  have hcat := cat_le (ad := ad) (st := st)
  refine va_mmin (x := fI a) (y := fI b) C.1 C.2.1 (C.2.2.1.trans hl.1.symm) C.2.2.2.1 (C.2.2.2.2.1 _ w1) (C.2.2.2.2.1 _ w2) (C.2.2.2.2.1 _ w3) (C.2.2.2.2.1 _ w4) (Nat.le_trans hf C.2.2.2.2.2.1) (by have := C.2.2.2.2.2.2.1; omega) hc hs hd ?_
  first
  | (rw [show (if fI b < fI a then fI b else fI a) = fI (min a b) from by
      simp only [fI_lt h2 h1]
      split
      · rw [Int.min_eq_right (by omega)]
      · rw [Int.min_eq_left (by omega)]]
     exact h)
  | (rw [show (if fI a < fI b then fI a else fI b) = fI (min a b) from by
      simp only [fI_lt h1 h2]
      split
      · rw [Int.min_eq_left (by omega)]
      · rw [Int.min_eq_right (by omega)]]
     exact h)
theorem q_mabs {μ : MI} {pc : Nat} {L st : List rV} {w : rW} {Q : List rV → rW → Prop} {a : Int} {index : Nat} (hd : decode (mB μ) pc = .ok (.invokestatic index, 3)) (w1 : Cond.methodLink (mN μ).cls index Lib.Math.abs.name ∈ gT) (w2 : Cond.static Lib.Math.abs.name ∈ gT) (w3 : Cond.initialized "java/lang/Math" ∈ gT) (w4 : Cond.code Lib.Math.abs.name Lib.Math.abs.code 1 (some .int) ∈ gT) (hf : 1 ≤ mF μ) (ho : 21 ≤ mO μ) (hst : st.length ≤ 4) (h1 : R32 a) (h : WP μ (pc + 3) L (vi (if 0 ≤ a then a else -a) :: st) w Q) : WP μ pc L (vi a :: st) w Q := by
  intro p l e R s m args below meth c D cI cC A H0 ad ls H locs cells slots QQ C hc hs hP hD hS hl hq
  have h := h p l e R s m args below meth c D cI cC A H0 ad ls H locs cells slots QQ C hc hs hP hD hS hl hq
  have hcat := cat_le (ad := ad) (st := st)
  refine va_mabs (x := fI a) C.1 C.2.1 (C.2.2.1.trans hl.1.symm) C.2.2.2.1 (C.2.2.2.2.1 _ w1) (C.2.2.2.2.1 _ w2) (C.2.2.2.2.1 _ w3) (C.2.2.2.2.1 _ w4) (Nat.le_trans hf C.2.2.2.2.2.1) (by have := C.2.2.2.2.2.2.1; omega) hc hs hd ?_
  rw [show (if 0 ≤ fI a then fI a else 0 - fI a) = fI (if 0 ≤ a then a else -a) from by
    have e := fI_le (⟨by decide, by decide⟩ : R32 0) h1
    rw [fI_0] at e
    simp only [e]
    split
    · rfl
    · rw [← fI_neg]; exact Int32.zero_sub _]
  exact h
theorem q_iret {μ : MI} {pc : Nat} {L : List rV} {w : rW} {Q : List rV → rW → Prop} {a : Int} (hd : decode (mB μ) pc = .ok (.ireturn, 1)) (hr : mR μ = some .int) (h : Q [vi a] w) : WP μ pc L [vi a] w Q := by
  intro p l e R s m args below meth c D cI cC A H0 ad ls H locs cells slots QQ C hc hs hP hD hS hl hq
  exact hq _ w pc H locs ls h (Or.inr (Or.inl ⟨hr, ⟨a, rfl⟩, hd⟩)) hP hD hS
theorem q_zret {μ : MI} {pc : Nat} {L : List rV} {w : rW} {Q : List rV → rW → Prop} {a : Int} (hd : decode (mB μ) pc = .ok (.ireturn, 1)) (hr : mR μ = some .boolean) (ha : a = 0 ∨ a = 1) (h : Q [vi a] w) : WP μ pc L [vi a] w Q := by
  intro p l e R s m args below meth c D cI cC A H0 ad ls H locs cells slots QQ C hc hs hP hD hS hl hq
  exact hq _ w pc H locs ls h (Or.inr (Or.inr (Or.inl ⟨hr, by rcases ha with rfl | rfl <;> simp, hd⟩))) hP hD hS
theorem q_lret {μ : MI} {pc : Nat} {L : List rV} {w : rW} {Q : List rV → rW → Prop} {a : Int} (hd : decode (mB μ) pc = .ok (.lreturn, 1)) (hr : mR μ = some .long) (h : Q [vl a] w) : WP μ pc L [vl a] w Q := by
  intro p l e R s m args below meth c D cI cC A H0 ad ls H locs cells slots QQ C hc hs hP hD hS hl hq
  exact hq _ w pc H locs ls h (Or.inr (Or.inr (Or.inr (Or.inl ⟨hr, ⟨a, rfl⟩, hd⟩)))) hP hD hS
theorem q_aret {μ : MI} {pc : Nat} {L : List rV} {w : rW} {Q : List rV → rW → Prop} {a : Int} {C1 : String} (hd : decode (mB μ) pc = .ok (.areturn, 1)) (hr : mR μ = some (.object C1)) (h : Q [vr a] w) : WP μ pc L [vr a] w Q := by
  intro p l e R s m args below meth c D cI cC A H0 ad ls H locs cells slots QQ C hc hs hP hD hS hl hq
  exact hq _ w pc H locs ls h (Or.inr (Or.inr (Or.inr (Or.inr ⟨⟨C1, hr⟩, ⟨a, rfl⟩, hd⟩)))) hP hD hS
theorem q_vret {μ : MI} {pc : Nat} {L : List rV} {w : rW} {Q : List rV → rW → Prop} (hd : decode (mB μ) pc = .ok (.return_, 1)) (hr : mR μ = none) (h : Q [] w) : WP μ pc L [] w Q := by
  intro p l e R s m args below meth c D cI cC A H0 ad ls H locs cells slots QQ C hc hs hP hD hS hl hq
  exact hq _ w pc H locs ls h (Or.inl ⟨hr, rfl, hd⟩) hP hD hS
theorem arg_at {ad : Int → Nat} : ∀ {av : List rV} (i k : Nat) {v : rV}, (∀ x ∈ av, x.1 ≠ 2) → av[k]? = some v → (i + k, cv ad v) ∈ lv_args i (av.map (cv ad))
  | [], _, _, _, _, h => by simp at h
  | x :: t, i, 0, v, _, h => by
    simp only [List.getElem?_cons_zero] at h
    cases h
    exact List.mem_cons_self
  | x :: t, i, k + 1, v, ha, h => by
    simp only [List.getElem?_cons_succ] at h
    have h2 := arg_at (ad := ad) (i + 1) k (fun y hy => ha y (List.mem_cons_of_mem _ hy)) h
    have hc : ¬ (cv ad x).category = 2 := fun q => ha x List.mem_cons_self (cv_cat q)
    simp only [List.map_cons, lv_args, if_neg hc]
    rw [show i + (k + 1) = i + 1 + k from by omega]
    exact List.mem_cons_of_mem _ h2
theorem arg_len {ad : Int → Nat} : ∀ {av : List rV}, (∀ x ∈ av, x.1 ≠ 2) → (lg_sl (av.map (cv ad))).length = av.length
  | [], _ => rfl
  | x :: t, ha => by
    have h2 := arg_len (ad := ad) (fun y hy => ha y (List.mem_cons_of_mem x hy))
    have hc : ¬ (cv ad x).category = 2 := fun q => ha x List.mem_cons_self (cv_cat q)
    unfold lg_sl at h2 ⊢
    simp only [List.map_cons, List.flatMap_cons, if_neg hc, List.length_append, List.length_cons, List.length_nil]
    omega
theorem arg_L {ad : Int → Nat} {av : List rV} (n : Nat) (ha : ∀ x ∈ av, x.1 ≠ 2) (k : Nat) (v : rV) (h : (av ++ List.replicate n vu)[k]? = some v) (h9 : v.1 < 9) : (k, cv ad v) ∈ lv_args 0 (av.map (cv ad)) := by
  by_cases hk : k < av.length
  · rw [List.getElem?_append_left hk] at h
    have h2 := arg_at (ad := ad) 0 k ha h
    rwa [Nat.zero_add] at h2
  · rw [List.getElem?_append_right (by omega), List.getElem?_replicate] at h
    split at h
    · cases h; exact absurd h9 (by decide)
    · cases h
/-- what a call of a method wants of the tables and of the room -/
def mOk (μ : MI) (n : Nat) : Prop := plainName (mN μ).cls = true ∧ Cond.code (mN μ) (mB μ) (mL μ) (mR μ) ∈ gT ∧ Cond.initialized (mN μ).cls ∈ gT ∧ ((mN μ).cls ≠ "java/lang/invoke/MethodHandle" ∧ (mN μ).cls ≠ "java/lang/invoke/VarHandle" ∧ (parseMethodDescriptor (mN μ).desc).map (fun d => d.parameters.length) = some n)
abbrev rOk (μ μ' : MI) : Prop := mF μ' + 1 ≤ mF μ ∧ 8 + (mL μ' + 11) + mO μ' ≤ mO μ
theorem q_callV {μ : MI} {pc : Nat} {L st : List rV} {w : rW} {Q : List rV → rW → Prop} {r : Int} {index : Nat} {μ' : MI} {n : Nat} (ci : Nat) {T1 : u_T} {N1 : Nat} (av : List rV) (hd : decode (mB μ) pc = .ok (.invokevirtual index, 3)) (hm : mOk μ' n) (w1 : Cond.methodLink (mN μ).cls index (mN μ') ∈ gT) (w2 : Cond.instanceMethod (mN μ') ∈ gT) (w3 : Cond.selects (mN μ').cls (mN μ') (mN μ') ∈ gT) (hcl : vwCl[ci]? = some ((mN μ').cls, T1, N1)) (hc4 : ci ≤ 4) (ho : oc r = ci) (hroom : rOk μ μ') (hst : st.length ≤ 4) (hav : ∀ x ∈ av, x.1 ≠ 2) (hlen : av.length = n) (hl1 : av.length + 1 ≤ mL μ')
    (h : WP μ' 0 ((vr r :: av) ++ List.replicate (mL μ' - (av.length + 1)) vu) [] w (fun v w' => WP μ (pc + 3) L (v ++ st) w' Q)) : WP μ pc L (av.reverse ++ vr r :: st) w Q := by
  intro p l e R s m args below meth c D cI cC A H0 ad ls H locs cells slots QQ C hc hs hP hD hS hl hq
  obtain ⟨m1, m2, m3, m4⟩ := hm
  have hcat := cat_le (ad := ad) (st := st)
  have hts := C.2.2.2.2.1
  have ha2 : ∀ x ∈ (vr r :: av), x.1 ≠ 2 := fun x hx => by
    rcases List.mem_cons.mp hx with rfl | hx
    · show (1 : Nat) ≠ 2
      decide
    · exact hav x hx
  have hM := met_of (av := vr r :: av) m1 h l D cI cC ad H.size (by rw [arg_len ha2]; exact hl1) (arg_L _ ha2)
  obtain ⟨q0, hq0⟩ := oc_at (ad := ad) (cI := cI) (cC := cC) (w := w) ho hc4
  have hR : mF μ' + 1 ≤ R.frames ∧ 8 + (mL μ' + 11) + mO μ' ≤ R.locals := ⟨Nat.le_trans hroom.1 C.2.2.2.2.2.1, Nat.le_trans hroom.2 C.2.2.2.2.2.2.1⟩
  have hG : GoodIn gT (wsV (mN μ).cls index (mN μ').cls (mN μ') (wsT μ')) := fun x hx => by
    unfold wsV at hx
    rcases List.mem_append.mp hx with hx | hx
    · simp only [List.mem_cons, List.not_mem_nil, or_false] at hx
      rcases hx with rfl | rfl | rfl | rfl
      · exact gT_good _ w1
      · exact gT_good _ w2
      · exact gT_good _ w3
      · exact gT_good _ m3
    · exact wsT_good m2 x hx
  have hK := C.2.2.2.2.2.2.2.1
  have hrun := va_runV (p := p) (l := l) (e := e) (R := R) (below := below) (meth := meth) (locs := locs) (cells := cells) (slots := slots) (g := F0 m pc ls ((av.reverse ++ vr r :: st).map (cv ad))) (As := av.map (cv ad)) (rest := st.map (cv ad)) (nL := mL μ) (C := (mN μ').cls) (b := ad r) (index := index) (n := n) (mc := 0) (ms := 0) ⟨C.1, C.2.1, C.2.2.1, C.2.2.2.1, hts⟩ hM (cwV n hts hG rfl rfl rfl ⟨rfl, m4⟩ hR)
    ⟨PcT.blind, va_recv hK hP (ci := ci) (q := ((mN μ').cls, T1, N1)) (q0 := q0) hcl hq0, fun U hU hW => ⟨by simp [cv, vr], by rw [hU], by rw [hU]; exact hP, va_K.moved hW.alike hK, hD.weaken (fun _ _ _ _ => trivial), C.2.2.2.2.2.2.2.2.2.warm hW⟩⟩ rfl (by rw [List.length_map]; exact hlen) hl.1 (by simp [cv, vr]) (lv_room (by omega)) (by rw [← C.2.1] at *; exact hd) ⟨hc, hs⟩
  exact call_W hD hS C.2.2.2.2.2.2.2.2.1 hrun (fun v w' H1 locs1 hq1 hP1 hD1 hS1 => by
    have h2 := hq1 p l e R s m args below meth c D cI cC A H0 ad ls H1 locs1 cells slots QQ C hc hs hP1 hD1 hS1 hl hq
    rwa [List.map_append] at h2)
theorem q_callS {μ : MI} {pc : Nat} {L st : List rV} {w : rW} {Q : List rV → rW → Prop} {index : Nat} {host : String} {μ' : MI} {n : Nat} (av : List rV) (hd : decode (mB μ) pc = .ok (.invokestatic index, 3)) (hm : mOk μ' n) (w1 : Cond.methodLink (mN μ).cls index (mN μ') ∈ gT) (w2 : Cond.static (mN μ') ∈ gT) (hown1 : (mN μ').cls = (mN μ).cls) (hroom : rOk μ μ') (hst : st.length ≤ 4) (hav : ∀ x ∈ av, x.1 ≠ 2) (hlen : av.length = n) (hl1 : av.length ≤ mL μ')
    (h : WP μ' 0 (av ++ List.replicate (mL μ' - av.length) vu) [] w (fun v w' => WP μ (pc + 3) L (v ++ st) w' Q)) : WP μ pc L (av.reverse ++ st) w Q := by
  intro p l e R s m args below meth c D cI cC A H0 ad ls H locs cells slots QQ C hc hs hP hD hS hl hq
  obtain ⟨m1, m2, m3, m4⟩ := hm
  have hcat := cat_le (ad := ad) (st := st)
  have hts := C.2.2.2.2.1
  have hM := met_of (av := av) m1 h l D cI cC ad H.size (by rw [arg_len hav]; exact hl1) (arg_L _ hav)
  have hR : mF μ' + 1 ≤ R.frames ∧ 8 + (mL μ' + 11) + mO μ' ≤ R.locals := ⟨Nat.le_trans hroom.1 C.2.2.2.2.2.1, Nat.le_trans hroom.2 C.2.2.2.2.2.2.1⟩
  have hG : GoodIn gT (wsS (mN μ).cls index (mN μ') (wsT μ')) := fun x hx => by
    unfold wsS at hx
    rcases List.mem_append.mp hx with hx | hx
    · simp only [List.mem_cons, List.not_mem_nil, or_false] at hx
      rcases hx with rfl | rfl | rfl
      · exact gT_good _ w1
      · exact gT_good _ w2
      · exact gT_good _ (hown1 ▸ m3)
    · exact wsT_good m2 x hx
  have hK := C.2.2.2.2.2.2.2.1
  have hrun := va_runS (p := p) (l := l) (e := e) (R := R) (below := below) (meth := meth) (locs := locs) (cells := cells) (slots := slots) (g := F0 m pc ls ((av.reverse ++ st).map (cv ad))) (As := av.map (cv ad)) (rest := st.map (cv ad)) (nL := mL μ) (index := index) (n := n) (mc := 0) (ms := 0) ⟨C.1, C.2.1, C.2.2.1, C.2.2.2.1, hts⟩ hM (cwS n hts hG rfl rfl rfl ⟨hown1, m4⟩ hR)
    ⟨PcT.blind, fun U hU hW => ⟨rfl, by rw [hU], by rw [hU]; exact hP, va_K.moved hW.alike hK, hD.weaken (fun _ _ _ _ => trivial), C.2.2.2.2.2.2.2.2.2.warm hW⟩⟩ rfl (by rw [List.length_map]; exact hlen) hl.1 (by simp) (lv_room (by omega)) (by rw [← C.2.1] at *; exact hd) ⟨hc, hs⟩
  exact call_W hD hS C.2.2.2.2.2.2.2.2.1 hrun (fun v w' H1 locs1 hq1 hP1 hD1 hS1 => by
    have h2 := hq1 p l e R s m args below meth c D cI cC A H0 ad ls H1 locs1 cells slots QQ C hc hs hP1 hD1 hS1 hl hq
    rwa [List.map_append] at h2)
theorem q_callSN {μ : MI} {pc : Nat} {L st : List rV} {w : rW} {Q : List rV → rW → Prop} {index : Nat} {host : String} {μ' : MI} {n : Nat} (av : List rV) (hd : decode (mB μ) pc = .ok (.invokestatic index, 3)) (hm : mOk μ' n) (w1 : ((mN μ).cls, index, mN μ', host) ∈ gNM) (w2 : Cond.static (mN μ') ∈ gT) (hroom : rOk μ μ') (hst : st.length ≤ 4) (hav : ∀ x ∈ av, x.1 ≠ 2) (hlen : av.length = n) (hl1 : av.length ≤ mL μ')
    (h : WP μ' 0 (av ++ List.replicate (mL μ' - av.length) vu) [] w (fun v w' => WP μ (pc + 3) L (v ++ st) w' Q)) : WP μ pc L (av.reverse ++ st) w Q := by
  intro p l e R s m args below meth c D cI cC A H0 ad ls H locs cells slots QQ C hc hs hP hD hS hl hq
  obtain ⟨m1, m2, m3, m4⟩ := hm
  have hcat := cat_le (ad := ad) (st := st)
  have hts := C.2.2.2.2.1
  have hM := met_of (av := av) m1 h l D cI cC ad H.size (by rw [arg_len hav]; exact hl1) (arg_L _ hav)
  have hR : mF μ' + 1 ≤ R.frames ∧ 8 + (mL μ' + 11) + mO μ' ≤ R.locals := ⟨Nat.le_trans hroom.1 C.2.2.2.2.2.1, Nat.le_trans hroom.2 C.2.2.2.2.2.2.1⟩
  have hK := C.2.2.2.2.2.2.2.1
  have hrun := va_runSN (p := p) (l := l) (e := e) (R := R) (below := below) (meth := meth) (locs := locs) (cells := cells) (slots := slots) (g := F0 m pc ls ((av.reverse ++ st).map (cv ad))) (As := av.map (cv ad)) (rest := st.map (cv ad)) (nL := mL μ) (index := index) (n := n) (mc := 0) (ms := 0) ⟨C.1, C.2.1, C.2.2.1, C.2.2.2.1, hts⟩ hM ⟨va_cnB n hts (wsT_good m2) rfl rfl rfl (C.2.2.2.2.2.2.2.2.2.2 _ w1) (hts _ m3) m4 hR, hts _ w2, trivial⟩
    ⟨PcT.blind, fun U hU hW => ⟨rfl, by rw [hU], by rw [hU]; exact hP, va_K.moved hW.alike hK, hD.weaken (fun _ _ _ _ => trivial), C.2.2.2.2.2.2.2.2.2.warm hW⟩⟩ rfl (by rw [List.length_map]; exact hlen) hl.1 (by simp) (lv_room (by omega)) (by rw [← C.2.1] at *; exact hd) ⟨hc, hs⟩
  exact call_W hD hS C.2.2.2.2.2.2.2.2.1 hrun (fun v w' H1 locs1 hq1 hP1 hD1 hS1 => by
    have h2 := hq1 p l e R s m args below meth c D cI cC A H0 ad ls H1 locs1 cells slots QQ C hc hs hP1 hD1 hS1 hl hq
    rwa [List.map_append] at h2)

/-! rising numbers, joined -/
def has (f : Int → Int) (n v : Int) : Prop := ∃ i, 0 ≤ i ∧ i < n ∧ f i = v
def SS (f : Int → Int) (n : Int) : Prop := ∀ i j, 0 ≤ i → i < j → j < n → f i < f j
theorem SS.srt {f : Int → Int} {n : Int} (h : SS f n) : Srt f n := fun i j h0 h1 h2 => by
  by_cases z : i = j
  · rw [z]; exact Int.le_refl _
  · exact Int.le_of_lt (h i j h0 (by omega) h2)
theorem Srt.to {f g : Int → Int} {n : Int} (h : Srt f n) (e : ∀ i, 0 ≤ i → i < n → g i = f i) : Srt g n := fun i j h0 h1 h2 => by
  rw [e i h0 (by omega), e j (by omega) h2]; exact h i j h0 h1 h2
theorem Srt.sub {f : Int → Int} {n k : Int} (h : Srt f n) (hk : k ≤ n) : Srt f k := fun i j h0 h1 h2 => h i j h0 h1 (by omega)
/-- a number put in -/
def Ins (h h2 : Int → Int) (k c v : Int) : Prop := (∀ i, 0 ≤ i → i < c → h2 i = h i) ∧ h2 c = v ∧ ∀ i, c < i → i ≤ k → h2 i = h (i - 1)
def IF (h h2 : Int → Int) (k v : Int) : Prop := (∀ x, cl h2 (k + 1) x = cl h k x + if v < x then 1 else 0) ∧ (Srt h k → Srt h2 (k + 1)) ∧ (SS h k → ¬ has h k v → SS h2 (k + 1)) ∧ ∀ u, has h2 (k + 1) u ↔ has h k u ∨ u = v
theorem Ins.fc {h h2 : Int → Int} {k c v : Int} (hk : 0 ≤ k) (hI : Ins h h2 k c v) (hc : c = cl h k (v + 1)) : IF h h2 k v := by
  obtain ⟨a1, a2, a3⟩ := hI
  obtain ⟨c0, c1, c2, c3⟩ := cl_spec (f := h) (n := k) (x := v + 1) hk
  rw [← hc] at c0 c1 c2 c3
  have key : ∀ i, 0 ≤ i → i ≤ k → (i < c ∧ h2 i = h i ∧ h i ≤ v) ∨ (i = c ∧ h2 i = v) ∨ (c < i ∧ h2 i = h (i - 1) ∧ v < h c) := fun i g0 g1 => by
    rcases Int.lt_trichotomy i c with y | y | y
    · have y1 := c2 i g0 y
      exact Or.inl ⟨y, a1 i g0 y, by omega⟩
    · exact Or.inr (Or.inl ⟨y, by rw [y]; exact a2⟩)
    · have y1 := c3 (by omega)
      exact Or.inr (Or.inr ⟨y, a3 i y g1, by omega⟩)
  refine ⟨fun x => ?_, fun hs i j g0 g1 g2 => ?_, fun hs hn i j g0 g1 g2 => ?_, fun u => ⟨fun z => ?_, fun z => ?_⟩⟩
  · obtain ⟨d0, d1, d2, d3⟩ := cl_spec (f := h) (n := k) (x := x) hk
    by_cases z : v < x
    · rw [if_pos z]
      have hcd : c ≤ cl h k x := by
        rcases Int.lt_or_le (cl h k x) c with y | y
        · have y1 := c2 _ d0 y
          have y2 := d3 (by omega)
          omega
        · exact y
      refine cl_is (by omega) (by omega) (fun j g0 g1 => ?_) (fun g => ?_)
      · rcases Int.lt_trichotomy j c with y | y | y
        · rw [a1 j g0 y]
          have y1 := c2 j g0 y
          omega
        · rw [y, a2]; exact z
        · rw [a3 j y (by omega)]; exact d2 _ (by omega) (by omega)
      · rw [a3 _ (by omega) (by omega), show cl h k x + 1 - 1 = cl h k x by omega]
        exact d3 (by omega)
    · rw [if_neg z, Int.add_zero]
      have hcd : cl h k x ≤ c := by
        rcases Int.lt_or_le c (cl h k x) with y | y
        · have y1 := d2 _ c0 y
          have y2 := c3 (by omega)
          omega
        · exact y
      refine cl_is d0 (by omega) (fun j g0 g1 => ?_) (fun g => ?_)
      · rw [a1 j g0 (by omega)]; exact d2 j g0 g1
      · rcases Int.lt_or_le (cl h k x) c with y | y
        · rw [a1 _ d0 y]; exact d3 (by omega)
        · rw [show cl h k x = c by omega, a2]; omega
  · rcases key i g0 (by omega) with ⟨y1, y2, y3⟩ | ⟨y1, y2⟩ | ⟨y1, y2, y3⟩ <;> rcases key j (by omega) (by omega) with ⟨z1, z2, z3⟩ | ⟨z1, z2⟩ | ⟨z1, z2, z3⟩
    · rw [y2, z2]; exact hs i j g0 g1 (by omega)
    · omega
    · have x := hs c (j - 1) c0 (by omega) (by omega)
      omega
    · omega
    · omega
    · have x := hs c (j - 1) c0 (by omega) (by omega)
      omega
    · omega
    · omega
    · rw [y2, z2]; exact hs (i - 1) (j - 1) (by omega) (by omega) (by omega)
  · have hl : ∀ i, 0 ≤ i → i < k → h i ≠ v := fun i x0 x1 e => hn ⟨i, x0, x1, e⟩
    have hr := hs.srt
    rcases key i g0 (by omega) with ⟨y1, y2, y3⟩ | ⟨y1, y2⟩ | ⟨y1, y2, y3⟩ <;> rcases key j (by omega) (by omega) with ⟨z1, z2, z3⟩ | ⟨z1, z2⟩ | ⟨z1, z2, z3⟩
    · rw [y2, z2]; exact hs i j g0 g1 (by omega)
    · have x := hl i g0 (by omega)
      omega
    · have x := hr c (j - 1) c0 (by omega) (by omega)
      omega
    · omega
    · omega
    · have x := hr c (j - 1) c0 (by omega) (by omega)
      omega
    · omega
    · omega
    · rw [y2, z2]; exact hs (i - 1) (j - 1) (by omega) (by omega) (by omega)
  · obtain ⟨i, g0, g1, e⟩ := z
    rcases Int.lt_trichotomy i c with y | y | y
    · exact Or.inl ⟨i, g0, by omega, by rw [← a1 i g0 y]; exact e⟩
    · rw [y, a2] at e
      exact Or.inr e.symm
    · exact Or.inl ⟨i - 1, by omega, by omega, by rw [← a3 i y (by omega)]; exact e⟩
  · rcases z with ⟨i, g0, g1, e⟩ | z
    · by_cases y : i < c
      · exact ⟨i, g0, by omega, by rw [a1 i g0 y]; exact e⟩
      · exact ⟨i + 1, by omega, by omega, by rw [a3 (i + 1) (by omega) (by omega), show i + 1 - 1 = i by omega]; exact e⟩
    · exact ⟨c, c0, by omega, by rw [a2]; exact z.symm⟩
/-- a number put behind all others, that are not greater -/
theorem IF.app {h h2 : Int → Int} {k v : Int} (hk : 0 ≤ k) (hl : ∀ i, 0 ≤ i → i < k → h i ≤ v) (e : ∀ i, 0 ≤ i → i < k → h2 i = h i) (ev : h2 k = v) : IF h h2 k v :=
  Ins.fc hk ⟨e, ev, fun i z1 z2 => by omega⟩ (cl_is hk (Int.le_refl _) (fun j g0 g1 => by have y := hl j g0 g1; omega) (fun z => absurd z (Int.lt_irrefl _))).symm
theorem IF.self {g : Int → Int} {k : Int} (hk : 0 ≤ k) (hs : Srt g (k + 1)) : IF g g k (g k) :=
  IF.app hk (fun i g0 g1 => hs i k g0 (by omega) (by omega)) (fun _ _ _ => rfl) rfl
theorem tm_has {h : Int → Int} {k u : Int} (hk : 0 ≤ k) (hs : Srt h k) : 0 < tm h k u ↔ has h k u := by
  refine ⟨fun z => ?_, fun z => ?_⟩
  · obtain ⟨y1, y2⟩ := (Hs_tm hk).mp z
    exact ⟨_, (cl_spec hk).1, y1, y2⟩
  · obtain ⟨i, g0, g1, e⟩ := z
    obtain ⟨a1, a2, a3, a4⟩ := cl_spec (f := h) (n := k) (x := u) hk
    obtain ⟨b1, b2, b3, b4⟩ := cl_spec (f := h) (n := k) (x := u + 1) hk
    have x1 : cl h k u ≤ i := by
      rcases Int.lt_or_le i (cl h k u) with y | y
      · have y1 := a3 i g0 y
        omega
      · exact y
    have x2 : i < cl h k (u + 1) := by
      rcases Int.lt_or_le i (cl h k (u + 1)) with y | y
      · exact y
      · have y1 := b4 (by omega)
        have y2 := hs _ i b1 y g1
        omega
    unfold tm
    omega
/-- the numbers of two rows, joined: each (o = 0), or each once -/
def JN (o : Int) (f : Int → Int) (n : Int) (g : Int → Int) (m : Int) (h : Int → Int) (k : Int) : Prop := (o = 0 ∧ Srt h k ∧ k = n + m ∧ ∀ x, cl h k x = cl f n x + cl g m x) ∨ (¬ o = 0 ∧ SS h k ∧ ∀ u, has h k u ↔ has f n u ∨ has g m u)
theorem JN.srt {o n m k : Int} {f g h : Int → Int} (hJ : JN o f n g m h k) : Srt h k := by
  rcases hJ with ⟨e, s, c, d⟩ | ⟨e, s, d⟩
  · exact s
  · exact s.srt
theorem JN.insG {o n i k : Int} {f g h h2 : Int → Int} (hJ : JN o f n g i h k) (hh : IF h h2 k (g i)) (hg : IF g g i (g i)) (hn : o = 0 ∨ ¬ has h k (g i)) : JN o f n g (i + 1) h2 (k + 1) := by
  rcases hJ with ⟨e, s, c, d⟩ | ⟨e, s, d⟩
  · exact Or.inl ⟨e, hh.2.1 s, by omega, fun x => by rw [hh.1, hg.1, d]; exact Int.add_assoc _ _ _⟩
  · refine Or.inr ⟨e, hh.2.2.1 s (hn.resolve_left e), fun u => ?_⟩
    rw [hh.2.2.2 u, hg.2.2.2 u, d u]
    exact or_assoc
theorem JN.insF {o n i k : Int} {f g h h2 : Int → Int} (hJ : JN o f n g i h k) (hh : IF h h2 k (f n)) (hg : IF f f n (f n)) (hn : o = 0 ∨ ¬ has h k (f n)) : JN o f (n + 1) g i h2 (k + 1) := by
  rcases hJ with ⟨e, s, c, d⟩ | ⟨e, s, d⟩
  · exact Or.inl ⟨e, hh.2.1 s, by omega, fun x => by rw [hh.1, hg.1, d]; exact Int.add_right_comm _ _ _⟩
  · refine Or.inr ⟨e, hh.2.2.1 s (hn.resolve_left e), fun u => ?_⟩
    rw [hh.2.2.2 u, hg.2.2.2 u, d u]
    constructor
    · rintro ((z | z) | z)
      · exact Or.inl (Or.inl z)
      · exact Or.inr z
      · exact Or.inl (Or.inr z)
    · rintro ((z | z) | z)
      · exact Or.inl (Or.inl z)
      · exact Or.inr z
      · exact Or.inl (Or.inr z)
theorem JN.skG {o n i k : Int} {f g h : Int → Int} (hJ : JN o f n g i h k) (hg : IF g g i (g i)) (ho : ¬ o = 0) (hn : has h k (g i)) : JN o f n g (i + 1) h k := by
  rcases hJ with ⟨e, s, c, d⟩ | ⟨e, s, d⟩
  · exact absurd e ho
  · refine Or.inr ⟨e, s, fun u => ?_⟩
    rw [hg.2.2.2 u]
    constructor
    · intro z
      rcases (d u).mp z with z | z
      · exact Or.inl z
      · exact Or.inr (Or.inl z)
    · rintro (z | z | z)
      · exact (d u).mpr (Or.inl z)
      · exact (d u).mpr (Or.inr z)
      · rw [z]; exact hn
theorem JN.skF {o n i k : Int} {f g h : Int → Int} (hJ : JN o f n g i h k) (hg : IF f f n (f n)) (ho : ¬ o = 0) (hn : has h k (f n)) : JN o f (n + 1) g i h k := by
  rcases hJ with ⟨e, s, c, d⟩ | ⟨e, s, d⟩
  · exact absurd e ho
  · refine Or.inr ⟨e, s, fun u => ?_⟩
    rw [hg.2.2.2 u]
    constructor
    · intro z
      rcases (d u).mp z with z | z
      · exact Or.inl (Or.inl z)
      · exact Or.inr z
    · rintro ((z | z) | z)
      · exact (d u).mpr (Or.inl z)
      · rw [z]; exact hn
      · exact (d u).mpr (Or.inr z)
theorem JN.of0 {o n : Int} {f g h : Int → Int} (ho : o = 0) (hn : 0 ≤ n) (hs : Srt f n) (e : ∀ i, 0 ≤ i → i < n → h i = f i) : JN o f n g 0 h n :=
  Or.inl ⟨ho, hs.to e, (Int.add_zero _).symm, fun x => by rw [cl_congr hn e]; exact (Int.add_zero _).symm⟩
theorem has_0 {f : Int → Int} {u : Int} : ¬ has f 0 u := fun ⟨i, g0, g1, _⟩ => by omega
theorem JN.of1 {o n k : Int} {f g h : Int → Int} (ho : ¬ o = 0) (hs : SS h k) (e : ∀ u, has h k u ↔ has f n u) : JN o f n g 0 h k :=
  Or.inr ⟨ho, hs, fun u => by rw [e u]; exact ⟨Or.inl, fun z => z.resolve_right has_0⟩⟩
theorem JN.nil {o : Int} {f g h : Int → Int} : JN o f 0 g 0 h 0 := by
  by_cases ho : o = 0
  · exact Or.inl ⟨ho, fun i j g0 g1 g2 => by omega, rfl, fun _ => rfl⟩
  · exact JN.of1 ho (fun i j g0 g1 g2 => by omega) (fun u => ⟨fun z => absurd z has_0, fun z => absurd z has_0⟩)
theorem JN.mem {o n m k u : Int} {f g h : Int → Int} (hn : 0 ≤ n) (hm : 0 ≤ m) (hk : 0 ≤ k) (hf : Srt f n) (hg : Srt g m) (hJ : JN o f n g m h k) : has h k u ↔ has f n u ∨ has g m u := by
  rcases hJ with ⟨e, s, c, d⟩ | ⟨e, s, d⟩
  · rw [← tm_has hk s, ← tm_has hn hf, ← tm_has hm hg]
    have x1 := tm_nn (g := f) (x := u) hn
    have x2 := tm_nn (g := g) (x := u) hm
    have x3 : tm h k u = tm f n u + tm g m u := by unfold tm; rw [d, d]; omega
    omega
  · exact d u
theorem ss_eq {h h2 : Int → Int} {k k2 : Int} (hs : SS h k) (hs2 : SS h2 k2) (e : ∀ u, has h k u ↔ has h2 k2 u) : ∀ (i : Nat) (j : Int), 0 ≤ j → j < i → j < k → j < k2 ∧ h j = h2 j
  | 0, j, g0, g1, g2 => by omega
  | i + 1, j, g0, g1, g2 => by
    by_cases z : j < i
    · exact ss_eq hs hs2 e i j g0 z g2
    · have ih : ∀ l, 0 ≤ l → l < j → l < k2 ∧ h l = h2 l := fun l x0 x1 => ss_eq hs hs2 e i l x0 (by omega) (by omega)
      obtain ⟨l, l0, l1, l2⟩ := (e (h j)).mp ⟨j, g0, g2, rfl⟩
      have x1 : j ≤ l := by
        rcases Int.lt_or_le l j with y | y
        · have y1 := (ih l l0 y).2
          have y2 := hs l j l0 y g2
          omega
        · exact y
      have x2 := hs2.srt j l g0 x1 l1
      obtain ⟨p, p0, p1, p2⟩ := (e (h2 j)).mpr ⟨j, g0, by omega, rfl⟩
      have x3 : j ≤ p := by
        rcases Int.lt_or_le p j with y | y
        · have y1 := (ih p p0 y).2
          have y2 := hs2 p j p0 y (by omega)
          omega
        · exact y
      have x4 := hs.srt j p g0 x3 p1
      exact ⟨by omega, by omega⟩
theorem ss_len {h h2 : Int → Int} {k k2 : Int} (hk2 : 0 ≤ k2) (hs : SS h k) (hs2 : SS h2 k2) (e : ∀ u, has h k u ↔ has h2 k2 u) : k ≤ k2 := by
  rcases Int.lt_or_le k2 k with y | y
  · have y1 := ss_eq hs hs2 e (k2.toNat + 1) k2 hk2 (by omega) y
    omega
  · exact y
theorem cl_lt {h : Int → Int} {k x i : Int} (hk : 0 ≤ k) (hs : Srt h k) (h0 : 0 ≤ i) (h1 : i < k) (h2 : h i < x) : i < cl h k x := by
  obtain ⟨a1, a2, a3, a4⟩ := cl_spec (f := h) (n := k) (x := x) hk
  rcases Int.lt_or_le i (cl h k x) with y | y
  · exact y
  · have y1 := a4 (by omega)
    have y2 := hs _ i a1 y h1
    omega
theorem JN.one {o n m k k2 : Int} {f g h h2 : Int → Int} (hk : 0 ≤ k) (hk2 : 0 ≤ k2) (a : JN o f n g m h k) (b : JN o f n g m h2 k2) : k = k2 ∧ ∀ i, 0 ≤ i → i < k → h i = h2 i := by
  rcases a with ⟨e, s, c, d⟩ | ⟨e, s, d⟩ <;> rcases b with ⟨e2, s2, c2, d2⟩ | ⟨e2, s2, d2⟩
  · refine ⟨by omega, fun i g0 g1 => ?_⟩
    have hd : ∀ x, cl h k x = cl h2 k2 x := fun x => (d x).trans (d2 x).symm
    rcases Int.lt_trichotomy (h i) (h2 i) with y | y | y
    · have y1 := cl_lt hk s g0 g1 y
      rw [hd] at y1
      have y2 := (cl_spec (f := h2) (n := k2) (x := h2 i) hk2).2.2.1 i g0 y1
      omega
    · exact y
    · have y1 := cl_lt hk2 s2 g0 (by omega) y
      rw [← hd] at y1
      have y2 := (cl_spec (f := h) (n := k) (x := h i) hk).2.2.1 i g0 y1
      omega
  · exact absurd e e2
  · exact absurd e2 e
  · have hd : ∀ u, has h k u ↔ has h2 k2 u := fun u => (d u).trans (d2 u).symm
    have y1 := ss_len hk2 s s2 hd
    have y2 := ss_len hk s2 s (fun u => (hd u).symm)
    exact ⟨by omega, fun i g0 g1 => (ss_eq s s2 hd (i.toNat + 1) i g0 (by omega) g1).2⟩
/-! how many -/
theorem ct_pt {p q : Int → Prop} [DecidablePred p] [DecidablePred q] {x : Int} (hx : 0 ≤ x) (hp : p x) (hq : ¬ q x) (h : ∀ v, v ≠ x → (p v ↔ q v)) : ∀ (N : Nat), x < N → ct p N = ct q N + 1
  | 0, hN => by omega
  | N + 1, hN => by
    show ct p N + (if p N then 1 else 0) = ct q N + (if q N then 1 else 0) + 1
    by_cases z : x = N
    · have e : ct p N = ct q N := ct_congr (fun i h0 h1 => h i (by omega))
      rw [e, if_pos (z ▸ hp), if_neg (z ▸ hq)]
      omega
    · have e := ct_pt hx hp hq h N (by omega)
      rw [e]
      have k := h N (by omega)
      by_cases y : p N
      · rw [if_pos y, if_pos (k.mp y)]
      · rw [if_neg y, if_neg (fun c => y (k.mpr c))]
        omega
theorem ct_mono {p q : Int → Prop} [DecidablePred p] [DecidablePred q] (h : ∀ v, p v → q v) : ∀ (N : Nat), ct p N ≤ ct q N
  | 0 => Int.le_refl _
  | N + 1 => by
    show ct p N + (if p N then 1 else 0) ≤ ct q N + (if q N then 1 else 0)
    have e := ct_mono h N
    by_cases y : p N
    · rw [if_pos y, if_pos (h _ y)]
      omega
    · rw [if_neg y]
      split <;> omega
theorem ct_or {p q : Int → Prop} [DecidablePred p] [DecidablePred q] : ∀ (N : Nat), ct p N + ct q N = ct (fun v => p v ∨ q v) N + ct (fun v => p v ∧ q v) N
  | 0 => rfl
  | N + 1 => by
    show ct p N + (if p N then 1 else 0) + (ct q N + (if q N then 1 else 0)) = ct (fun v => p v ∨ q v) N + (if p N ∨ q N then 1 else 0) + (ct (fun v => p v ∧ q v) N + (if p N ∧ q N then 1 else 0))
    have e := ct_or (p := p) (q := q) N
    by_cases y : p N <;> by_cases z : q N <;> simp only [y, z, if_true, if_false, and_true, and_false, true_or, or_true, or_false, false_or] <;> omega
theorem ct_none {p : Int → Prop} [DecidablePred p] (h : ∀ v, ¬ p v) : ∀ (N : Nat), ct p N = 0
  | 0 => rfl
  | N + 1 => by
    show ct p N + (if p N then 1 else 0) = 0
    rw [ct_none h N, if_neg (h _)]
    rfl
theorem ct_all {p : Int → Prop} [DecidablePred p] : ∀ (N : Nat), (∀ i : Int, 0 ≤ i → i < N → p i) → ct p N = N
  | 0, _ => rfl
  | N + 1, h => by
    show ct p N + (if p N then 1 else 0) = ((N + 1 : Nat) : Int)
    rw [ct_all N (fun i h0 h1 => h i h0 (by omega)), if_pos (h N (by omega) (by omega))]
    omega
theorem tm_app {f : Int → Int} {k v : Int} (hk : 0 ≤ k) (hs : Srt f (k + 1)) : tm f (k + 1) v = tm f k v + if f k = v then 1 else 0 := by
  have e := (IF.self hk hs).1
  unfold tm
  rw [e, e]
  by_cases z : f k = v
  · rw [if_pos (by omega), if_neg (by omega), if_pos z]
    omega
  · rw [if_neg z]
    by_cases y : f k < v
    · rw [if_pos y, if_pos (by omega)]
      omega
    · rw [if_neg y, if_neg (by omega)]
      omega
theorem ct_val {f : Int → Int} {r : Int → Prop} [DecidablePred r] : ∀ (k : Nat), Srt f k → (∀ i : Int, 0 ≤ i → i < k → 0 ≤ f i ∧ f i < 4096) → ct (fun i => (i = 0 ∨ ¬ f i = f (i - 1)) ∧ r (f i)) k = ct (fun v => 0 < tm f k v ∧ r v) 4096
  | 0, _, _ => (ct_none (fun v z => by have y : (0 : Int) < tm f 0 v := z.1; have y2 : tm f 0 v = 0 := rfl; omega) 4096).symm
  | k + 1, hs, hb => by
    have hs2 : Srt f ((k : Int) + 1) := hs
    have ih := ct_val (f := f) (r := r) k (hs2.sub (by omega)) (fun i h0 h1 => hb i h0 (by omega))
    have ta : ∀ v, tm f ((k + 1 : Nat) : Int) v = tm f k v + if f k = v then 1 else 0 := fun v => tm_app (by omega) hs2
    have hfk := hb k (by omega) (by omega)
    have nn := fun v => tm_nn (g := f) (n := k) (x := v) (by omega)
    show ct (fun i => (i = 0 ∨ ¬ f i = f (i - 1)) ∧ r (f i)) k + (if ((k : Int) = 0 ∨ ¬ f k = f (k - 1)) ∧ r (f k) then 1 else 0) = _
    rw [ih]
    have hne : ∀ v, v ≠ f k → ((0 < tm f ((k + 1 : Nat) : Int) v ∧ r v) ↔ (0 < tm f k v ∧ r v)) := fun v z => by
      rw [ta, if_neg (fun y => z y.symm), Int.add_zero]
    by_cases hr : r (f k)
    · by_cases hn : (k : Int) = 0 ∨ ¬ f k = f (k - 1)
      · rw [if_pos ⟨hn, hr⟩]
        have x1 : 0 < tm f ((k + 1 : Nat) : Int) (f k) ∧ r (f k) := ⟨by
          rw [ta, if_pos rfl]
          have y := nn (f k)
          omega, hr⟩
        have x2 : ¬ (0 < tm f k (f k) ∧ r (f k)) := fun z => by
          obtain ⟨i, g0, g1, e⟩ := (tm_has (by omega) (hs2.sub (by omega))).mp z.1
          have y1 := hs2 i (k - 1) g0 (by omega) (by omega)
          have y2 := hs2 (k - 1) k (by omega) (by omega) (by omega)
          omega
        exact (ct_pt (p := fun v => 0 < tm f ((k + 1 : Nat) : Int) v ∧ r v) (q := fun v => 0 < tm f k v ∧ r v) hfk.1 x1 x2 hne 4096 hfk.2).symm
      · rw [if_neg (fun z => hn z.1), Int.add_zero]
        refine ct_congr (fun v _ _ => ?_)
        by_cases z : v = f k
        · have y : has f k v := ⟨k - 1, by omega, by omega, by omega⟩
          have y1 := (tm_has (by omega) (hs2.sub (by omega))).mpr y
          rw [ta]
          constructor
          · intro c
            refine ⟨?_, c.2⟩
            split <;> omega
          · intro c
            exact ⟨y1, c.2⟩
        · exact (hne v z).symm
    · rw [if_neg (fun z => hr z.2), Int.add_zero]
      refine ct_congr (fun v _ _ => ?_)
      by_cases z : v = f k
      · rw [z]
        exact ⟨fun c => absurd c.2 hr, fun c => absurd c.2 hr⟩
      · exact (hne v z).symm
theorem unl_val {f : Int → Int} {n : Int} (hn : 0 ≤ n) (hs : Srt f n) (hb : ∀ i, 0 ≤ i → i < n → 0 ≤ f i ∧ f i < 4096) : unl f n = ct (fun v => 0 < tm f n v) 4096 := by
  have e : ((n.toNat : Nat) : Int) = n := Int.toNat_of_nonneg hn
  have h := ct_val (f := f) (r := fun _ => 0 = 0) n.toNat (by rw [e]; exact hs) (by rw [e]; exact hb)
  rw [e] at h
  refine Eq.trans (ct_congr (fun i _ _ => ?_)) (h.trans (ct_congr (fun i _ _ => ?_)))
  · exact ⟨fun z => ⟨z, rfl⟩, fun z => z.1⟩
  · exact ⟨fun z => z.1, fun z => ⟨z, rfl⟩⟩
theorem cu_val {f g : Int → Int} {n m : Int} (hn : 0 ≤ n) (hs : Srt f n) (hb : ∀ i, 0 ≤ i → i < n → 0 ≤ f i ∧ f i < 4096) : cu f g n m = ct (fun v => 0 < tm f n v ∧ 0 < tm g m v) 4096 := by
  have e : ((n.toNat : Nat) : Int) = n := Int.toNat_of_nonneg hn
  have h := ct_val (f := f) (r := fun v => 0 < tm g m v) n.toNat (by rw [e]; exact hs) (by rw [e]; exact hb)
  rw [e] at h
  exact h
theorem ss_unl {f : Int → Int} {n : Int} (hn : 0 ≤ n) (hs : SS f n) : unl f n = n := by
  have e : ((n.toNat : Nat) : Int) = n := Int.toNat_of_nonneg hn
  unfold unl
  rw [ct_all n.toNat (fun i h0 h1 => ?_), e]
  by_cases z : i = 0
  · exact Or.inl z
  · have y := hs (i - 1) i (by omega) (by omega) (by omega)
    exact Or.inr (by omega)
/-- how many the joined row has -/
def jz (o : Int) (f : Int → Int) (n : Int) (g : Int → Int) (m : Int) : Int := if o = 0 then n + m else unl f n + unl g m - cu f g n m
def inB (f : Int → Int) (n : Int) : Prop := ∀ i, 0 ≤ i → i < n → 0 ≤ f i ∧ f i < 4096
theorem JN.bnd {o n m k : Int} {f g h : Int → Int} (hn : 0 ≤ n) (hm : 0 ≤ m) (hk : 0 ≤ k) (hf : Srt f n) (hg : Srt g m) (bf : inB f n) (bg : inB g m) (hJ : JN o f n g m h k) : inB h k := fun i g0 g1 => by
  rcases (hJ.mem hn hm hk hf hg).mp ⟨i, g0, g1, rfl⟩ with ⟨p, p0, p1, e⟩ | ⟨p, p0, p1, e⟩
  · rw [← e]; exact bf p p0 p1
  · rw [← e]; exact bg p p0 p1
theorem jz_ct {o n m : Int} {f g : Int → Int} (ho : ¬ o = 0) (hn : 0 ≤ n) (hm : 0 ≤ m) (hf : Srt f n) (hg : Srt g m) (bf : inB f n) (bg : inB g m) : jz o f n g m = ct (fun v => 0 < tm f n v ∨ 0 < tm g m v) 4096 := by
  unfold jz
  rw [if_neg ho, unl_val hn hf bf, unl_val hm hg bg, cu_val hn hf bf]
  have e := ct_or (p := fun v => 0 < tm f n v) (q := fun v => 0 < tm g m v) 4096
  omega
theorem JN.size {o n m k : Int} {f g h : Int → Int} (hn : 0 ≤ n) (hm : 0 ≤ m) (hk : 0 ≤ k) (hf : Srt f n) (hg : Srt g m) (bf : inB f n) (bg : inB g m) (hJ : JN o f n g m h k) : k = jz o f n g m := by
  have hb := hJ.bnd hn hm hk hf hg bf bg
  rcases hJ with ⟨e, s, c, d⟩ | ⟨e, s, d⟩
  · unfold jz
    rw [if_pos e]
    exact c
  · refine (ss_unl hk s).symm.trans ((unl_val hk s.srt hb).trans ?_)
    rw [jz_ct e hn hm hf hg bf bg]
    refine ct_congr (fun v _ _ => ?_)
    rw [tm_has hk s.srt, tm_has hn hf, tm_has hm hg]
    exact d v
theorem JN.room {o n m i k : Int} {f g h : Int → Int} (hn : 0 ≤ n) (hm : 0 ≤ m) (hk : 0 ≤ k) (hf : Srt f n) (hg : Srt g m) (bf : inB f n) (bg : inB g m) (hi : 0 ≤ i ∧ i < m) (hJ : JN o f n g i h k) (hne : o = 0 ∨ ¬ has h k (g i)) : k + 1 ≤ jz o f n g m := by
  have hgi : Srt g i := hg.sub (by omega)
  have bgi : inB g i := fun p p0 p1 => bg p p0 (by omega)
  have hb := hJ.bnd hn hi.1 hk hf hgi bf bgi
  rcases hJ with ⟨e, s, c, d⟩ | ⟨e, s, d⟩
  · unfold jz
    rw [if_pos e]
    omega
  · have hn2 := hne.resolve_left e
    have hv := bg i hi.1 hi.2
    have e1 : k = ct (fun v => 0 < tm h k v) 4096 := by
      rw [← unl_val hk s.srt hb, ss_unl hk s]
    have e2 : ct (fun v => 0 < tm h k v ∨ v = g i) 4096 = ct (fun v => 0 < tm h k v) 4096 + 1 := ct_pt hv.1 (Or.inr rfl) (fun z => hn2 ((tm_has hk s.srt).mp z)) (fun v z => ⟨fun c => c.resolve_right z, Or.inl⟩) 4096 hv.2
    have e3 : ct (fun v => 0 < tm h k v ∨ v = g i) 4096 ≤ ct (fun v => 0 < tm f n v ∨ 0 < tm g m v) 4096 := ct_mono (fun v z => by
      rw [tm_has hn hf, tm_has hm hg]
      rcases z with z | z
      · rcases (d v).mp ((tm_has hk s.srt).mp z) with y | ⟨p, p0, p1, y⟩
        · exact Or.inl y
        · exact Or.inr ⟨p, p0, by omega, y⟩
      · exact Or.inr ⟨i, hi.1, hi.2, z.symm⟩) 4096
    rw [jz_ct e hn hm hf hg bf bg]
    omega

/-! Pure words: numbers, indices, loops that fill -/
theorem ix_nI {i : Nat} (h : i < 2 ^ 31) : ix (nI i) = i := nI_clamp h
theorem chk_nI {α : Type} {i n : Nat} {x : Option α} (h : i < n) (hn : n < 2 ^ 31) : chk (nI i) n x = x := by
  unfold chk
  rw [if_pos]
  exact nI_in h hn
theorem lit_nI (n : Nat) : (OfNat.ofNat n : Int32) = nI n := rfl
theorem ckB_0 {α : Type} {x : Option α} : ckB 0 x = x := rfl
theorem ckB_1 {α : Type} {x : Option α} : ckB 1 x = x := rfl
theorem bd_some {α β : Type} (a : α) (f : α → Option β) : bd (some a) f = f a := rfl
theorem bd2_some {α γ β : Type} (a : α) (b : γ) (f : α → γ → Option β) : bd2 (some (a, b)) f = f a b := rfl
theorem lt_eq {α β : Type} (a : α) (f : α → β) : lt a f = f a := rfl
theorem jn_eq {γ α : Type} (j : γ) (f : γ → α) : jn j f = f j := rfl
theorem bdr_l {ε ρ β : Type} (a : ε) (f : ε → Option β) (h : ρ → Option β) : bdr (some (.inl a)) f h = f a := rfl
theorem bdr_r {ε ρ β : Type} (a : ρ) (f : ε → Option β) (h : ρ → Option β) : bdr (some (.inr a)) f h = h a := rfl
theorem cu2_eq {A B γ : Type} (F : A → B → γ) (a : A) (b : B) : cu2 F (a, b) = F a b := rfl
theorem cu3_eq {A B C γ : Type} (F : A → B → C → γ) (a : A) (b : B) (c : C) : cu3 F (a, b, c) = F a b c := rfl
theorem cu4_eq {A B C D γ : Type} (F : A → B → C → D → γ) (a : A) (b : B) (c : C) (d : D) : cu4 F (a, b, c, d) = F a b c d := rfl
theorem cu5_eq {A B C D E γ : Type} (F : A → B → C → D → E → γ) (a : A) (b : B) (c : C) (d : D) (e : E) : cu5 F (a, b, c, d, e) = F a b c d e := rfl
theorem si_1 (μ : Mem) (a j : Nat) (x : Int32) (b i : Nat) : (setI μ a j x).1 b i = if b = a ∧ i = j then x else μ.1 b i := rfl
theorem si_2 (μ : Mem) (a j : Nat) (x : Int32) : (setI μ a j x).2 = μ.2 := rfl
theorem sl_1 (μ : Mem) (a j : Nat) (x : Int64) : (setL μ a j x).1 = μ.1 := rfl
theorem sl_2 (μ : Mem) (a j : Nat) (x : Int64) (b i : Nat) : (setL μ a j x).2 b i = if b = a ∧ i = j then x else μ.2 b i := rfl
theorem nI_z {i : Nat} (h : i < 2 ^ 31) : ¬ nI i < 0 := nI_pos h
theorem ni_lt {a b : Nat} (ha : a < 2 ^ 31) (hb : b < 2 ^ 31) : (nI a < nI b) = (a < b) := propext (nI_ltI ha hb)
theorem ni_eq {a b : Nat} (ha : a < 2 ^ 31) (hb : b < 2 ^ 31) : (nI a = nI b) = (a = b) := propext (nI_eq ha hb)
theorem ni_add (a b : Nat) : nI a + nI b = nI (a + b) := nI_add a b
theorem ni_mul (a b : Nat) : nI a * nI b = nI (a * b) := pk_mul a b
theorem ni_sub {a b : Nat} (h : b ≤ a) : nI a - nI b = nI (a - b) := pk_sub h
theorem ti_nI {n : Nat} (h : n < 2 ^ 31) : (nI n).toInt = (n : Int) := nI_toInt h
/-- a row filled with one number -/
def fill (p N : Nat) (c : Int32) (μ : Mem) : Mem := (fun q j => if q = p ∧ j < N then c else μ.1 q j, μ.2)
theorem fillL {p N N' : Nat} {c NI : Int32} {μ : Mem} (hN : NI = nI N) (h : N ≤ N') (hb : N' < 2 ^ 31) :
    lp (ε := Mem) (cu2 fun (x : Int32) (ν : Mem) => if x < NI then chk x N' (lt (setI ν p (ix x) c) fun ν5 => some (.inl ((x + 1), ν5))) else some (.inr ν)) (0, μ) = some (fill p N c μ) := by
  subst hN
  have h0 : ((0 : Int32), μ) = (fun i => (nI i, fill p i c μ)) 0 := by
    show (nI 0, μ) = (nI 0, fill p 0 c μ)
    refine congrArg (Prod.mk (nI 0)) ?_
    refine Prod.ext (funext fun q => funext fun j => ?_) rfl
    show μ.1 q j = if q = p ∧ j < 0 then c else μ.1 q j
    rw [if_neg (fun h => absurd h.2 (Nat.not_lt_zero j))]
  rw [h0]
  refine lp_for (fun i => (nI i, fill p i c μ)) N (fun i hi => ?_) ?_
  · show (if nI i < nI N then _ else _) = _
    rw [if_pos ((nI_ltI (by omega) (by omega)).mpr hi), chk_nI (by omega) hb, lt_eq, ix_nI (by omega)]
    refine congrArg some (congrArg Sum.inl ?_)
    show (nI i + 1, _) = (nI (i + 1), _)
    rw [← nI_succ]
    refine congrArg (Prod.mk (nI (i + 1))) ?_
    refine Prod.ext (funext fun q => funext fun j => ?_) rfl
    show (if q = p ∧ j = i then c else if q = p ∧ j < i then c else μ.1 q j) = if q = p ∧ j < i + 1 then c else μ.1 q j
    by_cases hq : q = p
    · by_cases h1 : j = i
      · rw [if_pos ⟨hq, h1⟩, if_pos ⟨hq, by omega⟩]
      · by_cases h2 : j < i
        · rw [if_neg (fun h => h1 h.2), if_pos ⟨hq, h2⟩, if_pos ⟨hq, by omega⟩]
        · rw [if_neg (fun h => h1 h.2), if_neg (fun h => h2 h.2), if_neg (fun h => by have := h.2; omega)]
    · rw [if_neg (fun h => hq h.1), if_neg (fun h => hq h.1), if_neg (fun h => hq h.1)]
  · show (if nI N < nI N then _ else _) = _
    rw [if_neg (fun q => Nat.lt_irrefl N ((nI_ltI (by omega) (by omega)).mp q))]
theorem fill_1 (p N : Nat) (c : Int32) (μ : Mem) (q j : Nat) : (fill p N c μ).1 q j = if q = p ∧ j < N then c else μ.1 q j := rfl
theorem fill_2 (p N : Nat) (c : Int32) (μ : Mem) : (fill p N c μ).2 = μ.2 := rfl
/-! the reference's range test, the refusals -/
theorem in_bad {a b c : Int64} (h : a < b ∨ c < a) : f_X11_in a b c = some 0 := by
  unfold f_X11_in
  simp only [jn_eq]
  rcases h with h | h
  · rw [if_pos h]; rfl
  · by_cases h2 : a < b
    · rw [if_pos h2]; rfl
    · rw [if_neg h2, if_pos h]; rfl
theorem in_ok {a b c : Int64} (h : ¬ (a < b ∨ c < a)) : f_X11_in a b c = some 1 := by
  unfold f_X11_in
  simp only [jn_eq]
  rw [if_neg (fun q => h (Or.inl q)), if_neg (fun q => h (Or.inr q))]
  rfl
theorem i64_lt {a b : Int32} : a.toInt64 < b.toInt64 ↔ a < b := by
  rw [Int64.lt_iff_toInt_lt, Int32.lt_iff_toInt_lt, Int32.toInt_toInt64, Int32.toInt_toInt64]
theorem litL (n : Nat) (h : n < 2 ^ 31) : (OfNat.ofNat n : Int64) = (nI n).toInt64 := (nI_l h).symm
/-- a number of 0 .. n - 1, or none -/
def isN (x : Int32) (n : Nat) : Prop := ∃ j, j < n ∧ x = nI j
theorem isN_or (x : Int32) {n : Nat} (hn : n < 2 ^ 31) : isN x n ∨ (x < 0 ∨ nI n ≤ x) := by
  rcases pk_ix x hn with h | h | h
  · exact Or.inr (Or.inl h)
  · exact Or.inr (Or.inr h)
  · exact Or.inl h
/-- in(x, lo, hi) for ints -/
theorem in32_bad {x : Int32} {lo hi : Nat} (hl : lo < 2 ^ 31) (hh : hi < 2 ^ 31) (h : x < nI lo ∨ nI hi < x) : f_X11_in x.toInt64 (nI lo).toInt64 (nI hi).toInt64 = some 0 := in_bad (by
  rcases h with h | h
  · exact Or.inl (i64_lt.mpr h)
  · exact Or.inr (i64_lt.mpr h))
theorem in32_ok {lo hi j : Nat} (hj : j < 2 ^ 31) (h1 : lo ≤ j) (h2 : j ≤ hi) (hh : hi < 2 ^ 31) : f_X11_in (nI j).toInt64 (nI lo).toInt64 (nI hi).toInt64 = some 1 := in_ok (by
  rw [i64_lt, i64_lt]
  intro h
  rcases h with h | h
  · have := (nI_ltI hj (by omega)).mp h; omega
  · have := (nI_ltI hh hj).mp h; omega)
def badX (μ : Mem) : Mem := setI μ 0 12 (μ.1 0 12 + 1)
def noX (μ : Mem) : Mem := setI μ 0 13 (μ.1 0 13 + 1)
def fullX (μ : Mem) : Mem := setI μ 0 14 (μ.1 0 14 + 1)
def refM (μ : Mem) (s : Nat) : Mem := setI μ 117 s (μ.1 117 s + 1)
theorem tally_bad (μ : Mem) : f_X10_tally (-2) μ = some (-2, badX μ) := by
  unfold f_X10_tally
  simp [jn_eq, lt_eq, badX]
theorem tally_no (μ : Mem) : f_X10_tally (-3) μ = some (-3, noX μ) := by
  unfold f_X10_tally
  simp [jn_eq, lt_eq, noX]
theorem tally_full (μ : Mem) : f_X10_tally (-4) μ = some (-4, fullX μ) := by
  unfold f_X10_tally
  simp [jn_eq, lt_eq, fullX]
theorem tally_ok {x : Int32} (h : ¬ x < 0) (μ : Mem) : f_X10_tally x μ = some (x, μ) := by
  unfold f_X10_tally
  simp only [jn_eq, lt_eq]
  rw [if_neg (fun q => h (by rw [q]; decide)), if_neg (fun q => h (by rw [q]; decide)), if_neg (fun q => h (by rw [q]; decide))]
theorem refB (x : Int32) (μ : Mem) : f_X10_refuseAsBad x μ = some (x, badX μ) := rfl
theorem ref_eq {s : Nat} (hs : s < 3) {v : Int32} {μ : Mem} (hq : μ.1 112 5 = 0) : f_X11_refuses (nI s) v μ = some (v, refM μ s) := by
  unfold f_X11_refuses
  simp only [jn_eq, lt_eq]
  rw [chk_nI hs (by decide), if_pos hq, chk_nI hs (by decide), ix_nI (by omega)]
  rfl
theorem badM {μ : Mem} (hq : μ.1 112 5 = 0) : f_X11_bad μ = some (-2, refM μ 0) := by
  unfold f_X11_bad
  rw [show (0 : Int32) = nI 0 from rfl, ref_eq (by decide) hq]
  rfl
theorem noM {μ : Mem} (hq : μ.1 112 5 = 0) : f_X11_no μ = some (-3, refM μ 1) := by
  unfold f_X11_no
  rw [show (1 : Int32) = nI 1 from rfl, ref_eq (by decide) hq]
  rfl
theorem fullM {μ : Mem} (hq : μ.1 112 5 = 0) : f_X11_full μ = some (-4, refM μ 2) := by
  unfold f_X11_full
  rw [show (2 : Int32) = nI 2 from rfl, ref_eq (by decide) hq]
  rfl

/-! Int32 by its bits (the first rows: the kit's BITS.to-paste) -/
def bt (x : Int32) (i : Nat) : Bool := x.toBitVec.getLsbD i
theorem b_ext {x y : Int32} (h : ∀ i, i < 32 → bt x i = bt y i) : x = y := Int32.toBitVec_inj.mp (BitVec.eq_of_getLsbD_eq (fun i hi => h i hi))
theorem b_or (x y : Int32) (i : Nat) : bt (x ||| y) i = (bt x i || bt y i) := by unfold bt; rw [Int32.toBitVec_or, BitVec.getLsbD_or]
theorem b_and (x y : Int32) (i : Nat) : bt (x &&& y) i = (bt x i && bt y i) := by unfold bt; rw [Int32.toBitVec_and, BitVec.getLsbD_and]
theorem b_xor (x y : Int32) (i : Nat) : bt (x ^^^ y) i = (bt x i ^^ bt y i) := by unfold bt; rw [Int32.toBitVec_xor, BitVec.getLsbD_xor]
theorem b_m1 : ∀ i, i < 32 → bt (-1) i = true := by decide +kernel
theorem b_0 (i : Nat) : bt 0 i = false := BitVec.getLsbD_zero
theorem s_l : ∀ n, n < 32 → ((nI n &&& 31).toBitVec.smod 32).toNat = n := by decide +kernel
theorem b_sshr (n : Nat) (hn : n < 32) (x : Int32) {i : Nat} (hi : i < 32) : bt (x >>> (nI n &&& 31)) i = if n + i < 32 then bt x (n + i) else bt x 31 := by
  unfold bt
  rw [Int32.toBitVec_shiftRight]
  show (x.toBitVec.sshiftRight ((nI n &&& 31).toBitVec.smod 32).toNat).getLsbD i = _
  rw [s_l n hn, BitVec.getLsbD_sshiftRight, BitVec.msb_eq_getLsbD_last]
  simp [hi]
/-! own rows -/
theorem b_1 : ∀ i, i < 32 → bt 1 i = decide (i = 0) := by decide +kernel
theorem bt_nI {c i : Nat} (hi : i < 32) : bt (nI c) i = c.testBit i := by
  show (BitVec.ofNat 32 c).getLsbD i = _
  rw [BitVec.getLsbD_ofNat]
  simp [hi]
theorem bit1 {x : Int32} {v : Nat} (hv : v < 32) : (x >>> (nI v &&& 31)) &&& 1 = if bt x v = true then 1 else 0 := by
  refine b_ext (fun i hi => ?_)
  rw [b_and, b_1 i hi, b_sshr v hv x hi]
  by_cases h : i = 0
  · subst h
    rw [Nat.add_zero, if_pos hv, decide_eq_true rfl, Bool.and_true]
    cases bt x v
    · rw [if_neg (by decide), b_0]
    · rw [if_pos rfl, b_1 0 (by decide)]; rfl
  · rw [decide_eq_false h, Bool.and_false]
    cases bt x v
    · rw [if_neg (by decide), b_0]
    · rw [if_pos rfl, b_1 i hi, decide_eq_false h]
theorem bit_0 {x : Int32} {v : Nat} (hv : v < 32) : ((x >>> (nI v &&& 31)) &&& 1 = 0) ↔ bt x v = false := by
  rw [bit1 hv]
  cases bt x v <;> decide
theorem bit_1 {x : Int32} {v : Nat} (hv : v < 32) : ((x >>> (nI v &&& 31)) &&& 1 = 1) ↔ bt x v = true := by
  rw [bit1 hv]
  cases bt x v <;> decide
theorem shl1 : ∀ n, n < 31 → (1 : Int32) <<< (nI n &&& 31) = nI (2 ^ n) := by decide +kernel
theorem pow5 {n : Nat} (h : n ≤ 5) : 1 ≤ 2 ^ n ∧ 2 ^ n ≤ 32 := ⟨Nat.one_le_two_pow, Nat.pow_le_pow_right (n := 2) (by decide) h⟩
theorem pow10 {n : Nat} (h : n ≤ 10) : 1 ≤ 2 ^ n ∧ 2 ^ n ≤ 1024 := ⟨Nat.one_le_two_pow, Nat.pow_le_pow_right (n := 2) (by decide) h⟩
theorem bt_pow {v i : Nat} (hi : i < 32) : bt (nI (2 ^ v)) i = decide (v = i) := by rw [bt_nI hi, Nat.testBit_two_pow]
theorem all_eq {n : Nat} {μ : Mem} (s0 : μ.1 113 0 = nI n) (hn : n ≤ 5) : f_X11_all μ = some (nI (2 ^ n - 1)) := by
  unfold f_X11_all
  rw [s0, shl1 n (by omega), show (1 : Int32) = nI 1 from rfl, ni_sub (pow5 hn).1]
theorem bt_all {n v : Nat} {x : Int32} (hn : n ≤ 5) (hv : v < n) : bt (nI (2 ^ n - 1) &&& (x ^^^ (-1))) v = !(bt x v) := by
  rw [b_and, b_xor, b_m1 v (by omega), bt_nI (by omega), Nat.testBit_two_pow_sub_one, decide_eq_true hv, Bool.true_and, Bool.xor_true]
theorem bt_not {v : Nat} {x : Int32} (hv : v < 32) : bt (x ^^^ (-1)) v = !(bt x v) := by
  rw [b_xor, b_m1 v hv, Bool.xor_true]
/-! which clouds there are -/
theorem hasC_ok {k n c : Nat} {μ : Mem} (hM : μ.1 k 0 = nI n) (hn : n ≤ 5) (hc : c < 2 ^ n) : f_X3_hasClouds k (nI c) μ = some 1 := by
  have := pow5 hn
  unfold f_X3_hasClouds
  simp only [jn_eq]
  rw [if_neg (nI_pos (by omega)), hM, shl1 n (by omega), if_pos ((nI_ltI (by omega) (by omega)).mpr hc)]
  rfl
theorem hasC_bad {k n : Nat} {x : Int32} {μ : Mem} (hM : μ.1 k 0 = nI n) (hn : n ≤ 5) (hx : x < 0 ∨ nI (2 ^ n) ≤ x) : f_X3_hasClouds k x μ = some 0 := by
  unfold f_X3_hasClouds
  simp only [jn_eq]
  rcases hx with h | h
  · rw [if_pos h]; rfl
  · by_cases h0 : x < 0
    · rw [if_pos h0]; rfl
    · rw [if_neg h0, hM, shl1 n (by omega), if_neg (Int32.not_lt.mpr h)]; rfl
theorem isS_ok {n c : Nat} {μ : Mem} (hM : μ.1 113 0 = nI n) (hn : n ≤ 5) (hc : c < 2 ^ n) : f_X11_isSet (nI c) μ = some 1 := by
  have := pow5 hn
  unfold f_X11_isSet
  rw [hM, shl1 n (by omega), in1_ok (by omega) hc]; rfl
theorem isS_bad {n : Nat} {x : Int32} {μ : Mem} (hM : μ.1 113 0 = nI n) (hn : n ≤ 5) (hx : x < 0 ∨ nI (2 ^ n) ≤ x) : f_X11_isSet x μ = some 0 := by
  have := pow5 hn
  unfold f_X11_isSet
  rw [hM, shl1 n (by omega), in1_bad (by omega) hx]; rfl
/-! the greatest of sights -/
noncomputable def gst (s : Nat → Int32) (b : Nat → Bool) : Nat → Int32 × Int32
  | 0 => (-1, 0)
  | i + 1 => if b i = true ∧ (gst s b i).2 < s i then (nI i, s i) else gst s b i
theorem gst_t {s : Nat → Int32} {b : Nat → Bool} {i : Nat} (h1 : b i = true) (h2 : (gst s b i).2 < s i) : gst s b (i + 1) = (nI i, s i) := if_pos ⟨h1, h2⟩
theorem gst_f {s : Nat → Int32} {b : Nat → Bool} {i : Nat} (h : ¬ (b i = true ∧ (gst s b i).2 < s i)) : gst s b (i + 1) = gst s b i := if_neg h
theorem gst_nn (s : Nat → Int32) (b : Nat → Bool) : ∀ i, ¬ (gst s b i).2 < 0
  | 0 => by show ¬ (0 : Int32) < 0; decide
  | i + 1 => by
    by_cases h : b i = true ∧ (gst s b i).2 < s i
    · rw [gst_t h.1 h.2]
      exact fun q => gst_nn s b i (Int32.lt_trans h.2 q)
    · rw [gst_f h]
      exact gst_nn s b i
theorem gst_congr {s s' : Nat → Int32} {b b' : Nat → Bool} : ∀ {n : Nat}, (∀ i, i < n → s i = s' i) → (∀ i, i < n → b i = b' i) → gst s b n = gst s' b' n
  | 0, _, _ => rfl
  | n + 1, h1, h2 => by
    show (if b n = true ∧ (gst s b n).2 < s n then (nI n, s n) else gst s b n) = (if b' n = true ∧ (gst s' b' n).2 < s' n then (nI n, s' n) else gst s' b' n)
    rw [gst_congr (fun i hi => h1 i (by omega)) (fun i hi => h2 i (by omega)), h1 n (by omega), h2 n (by omega)]
theorem gst_in (s : Nat → Int32) (b : Nat → Bool) : ∀ n, (gst s b n).1 = -1 ∨ ∃ v, v < n ∧ (gst s b n).1 = nI v
  | 0 => Or.inl rfl
  | n + 1 => by
    by_cases h : b n = true ∧ (gst s b n).2 < s n
    · rw [gst_t h.1 h.2]
      exact Or.inr ⟨n, by omega, rfl⟩
    · rw [gst_f h]
      rcases gst_in s b n with h | ⟨v, hv, h⟩
      · exact Or.inl h
      · exact Or.inr ⟨v, by omega, h⟩
theorem nI_m1 : ∀ v, v < 32 → ¬ nI v = -1 := by decide +kernel
theorem gi_X {k n : Nat} {x : Int32} {μ : Mem} (hn : n ≤ 5) : f_X3_greatestIn k (nI n) x μ = some (gst (fun v => μ.1 k v) (fun v => !(bt x v)) n).1 := by
  unfold f_X3_greatestIn
  refine (bd_lp (e := (gst (fun v => μ.1 k v) (fun v => !(bt x v)) n).1) (lp_for (fun i => ((gst (fun v => μ.1 k v) (fun v => !(bt x v)) i).1, (gst (fun v => μ.1 k v) (fun v => !(bt x v)) i).2, nI i)) n (fun i hi => ?_) ?_)).trans rfl
  · rw [cu3_eq, if_pos ((nI_ltI (by omega) (by omega)).mpr hi), if_pos (by exact (nI_ltI (b := 5) (by omega) (by omega)).mpr (by omega)), jn_eq, ix_nI (by omega)]
    by_cases hb : bt x i = true
    · rw [if_neg (fun q => by rw [(bit_0 (by omega)).mp q] at hb; cases hb), gst_f (fun q => by have := q.1; rw [hb] at this; cases this), ← nI_succ]
    · have hb' : bt x i = false := by cases h : bt x i <;> simp_all
      rw [if_pos ((bit_0 (by omega)).mpr hb'), chk_nI (by omega) (by decide)]
      by_cases hs : (gst (fun v => μ.1 k v) (fun v => !(bt x v)) i).2 < μ.1 k i
      · rw [if_pos hs, chk_nI (by omega) (by decide), gst_t (by rw [hb']; rfl) hs, ← nI_succ]
      · rw [if_neg hs, gst_f (fun q => hs q.2), ← nI_succ]
  · rw [cu3_eq, if_neg (fun q => Nat.lt_irrefl n ((nI_ltI (by omega) (by omega)).mp q))]
theorem go_Y {n : Nat} {x m p q : Int32} {ν : Mem} (s0 : ν.1 113 0 = nI n) (hn : n ≤ 5) (f : Nat → Int32) (hs : ∀ v, v < n → f_X11_sightOf (nI v) m ν = some (f v)) : f_X11_greatestOf x m p q ν = some (gst (fun v => f v + if nI v = p then q else 0) (fun v => bt x v) n).1 := by
  unfold f_X11_greatestOf
  rw [s0]
  refine (bd_lp (e := (gst (fun v => f v + if nI v = p then q else 0) (fun v => bt x v) n).1) (lp_for (fun i => ((gst (fun v => f v + if nI v = p then q else 0) (fun v => bt x v) i).1, (gst (fun v => f v + if nI v = p then q else 0) (fun v => bt x v) i).2, nI i)) n (fun i hi => ?_) ?_)).trans rfl
  · rw [cu3_eq, if_pos ((nI_ltI (by omega) (by omega)).mpr hi)]
    simp only [jn_eq]
    by_cases hb : bt x i = true
    · rw [if_pos ((bit_1 (by omega)).mpr hb), hs i hi, bd_some]
      have Z : ∀ y : Int32, y = f i + (if nI i = p then q else 0) → (if (gst (fun v => f v + if nI v = p then q else 0) (fun v => bt x v) i).2 < y then if (gst (fun v => f v + if nI v = p then q else 0) (fun v => bt x v) i).2 < y then some (Sum.inl (nI i, y, nI i + 1)) else some (Sum.inl (nI i, (gst (fun v => f v + if nI v = p then q else 0) (fun v => bt x v) i).2, nI i + 1)) else if (gst (fun v => f v + if nI v = p then q else 0) (fun v => bt x v) i).2 < y then some (Sum.inl ((gst (fun v => f v + if nI v = p then q else 0) (fun v => bt x v) i).1, y, nI i + 1)) else some (Sum.inl ((gst (fun v => f v + if nI v = p then q else 0) (fun v => bt x v) i).1, (gst (fun v => f v + if nI v = p then q else 0) (fun v => bt x v) i).2, nI i + 1))) = (some (Sum.inl ((gst (fun v => f v + if nI v = p then q else 0) (fun v => bt x v) (i + 1)).1, (gst (fun v => f v + if nI v = p then q else 0) (fun v => bt x v) (i + 1)).2, nI (i + 1))) : Option ((Int32 × Int32 × Int32) ⊕ Int32)) := by
        intro y hy
        by_cases h : (gst (fun v => f v + if nI v = p then q else 0) (fun v => bt x v) i).2 < y
        · rw [if_pos h, if_pos h, gst_t hb (by rw [← hy]; exact h), hy, ← nI_succ]
        · rw [if_neg h, if_neg h, gst_f (fun w => h (by rw [hy]; exact w.2)), ← nI_succ]
      by_cases hp : nI i = p
      · rw [if_pos hp]
        exact Z _ (by rw [if_pos hp])
      · rw [if_neg hp]
        exact Z _ (by rw [if_neg hp])
    · rw [if_neg (fun q => hb ((bit_1 (by omega)).mp q)), if_neg (gst_nn _ _ i), if_neg (gst_nn _ _ i), gst_f (fun w => hb w.1), ← nI_succ]
  · rw [cu3_eq, if_neg (fun q => Nat.lt_irrefl n ((nI_ltI (by omega) (by omega)).mp q))]
theorem go_Y0 {n : Nat} {x m : Int32} {ν : Mem} (s0 : ν.1 113 0 = nI n) (hn : n ≤ 5) (f : Nat → Int32) (hs : ∀ v, v < n → f_X11_sightOf (nI v) m ν = some (f v)) : f_X11_greatestOf x m (-1) 0 ν = some (gst f (fun v => bt x v) n).1 := by
  rw [go_Y s0 hn f hs, gst_congr (s' := f) (b' := fun v => bt x v) (fun i hi => by (try dsimp only); rw [if_neg (nI_m1 i (by omega)), Int32.add_zero]) (fun i hi => rfl)]

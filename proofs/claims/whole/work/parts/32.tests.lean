/-! Tests of numbers, on both sides -/
theorem sub1_lt {l : Nat} (hl : l < 2 ^ 30) {x : Int32} : (nI l - 1 < x) ↔ (nI l ≤ x) := by
  rw [Int32.lt_iff_toInt_lt, Int32.le_iff_toInt_le, show (1 : Int32) = nI 1 from rfl, pk_sub_toInt hl (by decide), nI_toInt (by omega)]
  omega
theorem nle_nI {v n : Nat} (hv : v < n) (hn : n < 2 ^ 31) : ¬ nI n ≤ nI v := nI_ge hv hn
theorem inL_bad {x : Int32} {hi : Nat} (hh : hi < 2 ^ 31) (h : x < 0 ∨ nI hi < x) : f_X11_in x.toInt64 0 (OfNat.ofNat hi) = some 0 := in_bad (by
  rcases h with h | h
  · left
    rw [show (0 : Int64) = (0 : Int32).toInt64 by decide]
    exact i64_lt.mpr h
  · right
    rw [litL hi hh]
    exact i64_lt.mpr h)
theorem inL_ok {j hi : Nat} (hh : hi < 2 ^ 31) (h : j ≤ hi) : f_X11_in (nI j).toInt64 0 (OfNat.ofNat hi) = some 1 := in_ok (by
  intro q
  rcases q with q | q
  · rw [show (0 : Int64) = (0 : Int32).toInt64 by decide] at q
    exact nI_pos (by omega) (i64_lt.mp q)
  · rw [litL hi hh] at q
    have := (nI_ltI (by omega) (by omega)).mp (i64_lt.mp q)
    omega)
theorem hasV_ok {k n v : Nat} {μ : Mem} (hM : μ.1 k 0 = nI n) (hn : n < 2 ^ 31) (hv : v < n) : f_X3_hasVillage k (nI v) μ = some 1 := by
  unfold f_X3_hasVillage
  simp only [jn_eq]
  rw [if_neg (nI_pos (by omega)), hM, if_pos ((nI_ltI (by omega) hn).mpr hv)]
  rfl
theorem hasV_bad {k n : Nat} {x : Int32} {μ : Mem} (hM : μ.1 k 0 = nI n) (hx : x < 0 ∨ nI n ≤ x) : f_X3_hasVillage k x μ = some 0 := by
  unfold f_X3_hasVillage
  simp only [jn_eq]
  rcases hx with h | h
  · rw [if_pos h]; rfl
  · by_cases h0 : x < 0
    · rw [if_pos h0]; rfl
    · rw [if_neg h0, hM, if_neg (Int32.not_lt.mpr h)]; rfl
theorem hasL_ok {k n v : Nat} {μ : Mem} (hM : μ.1 k 1 = nI n) (hn : n < 2 ^ 31) (hv : v < n) : f_X3_hasLot k (nI v) μ = some 1 := by
  unfold f_X3_hasLot
  simp only [jn_eq]
  rw [if_neg (nI_pos (by omega)), hM, if_pos ((nI_ltI (by omega) hn).mpr hv)]
  rfl
theorem hasL_bad {k n : Nat} {x : Int32} {μ : Mem} (hM : μ.1 k 1 = nI n) (hx : x < 0 ∨ nI n ≤ x) : f_X3_hasLot k x μ = some 0 := by
  unfold f_X3_hasLot
  simp only [jn_eq]
  rcases hx with h | h
  · rw [if_pos h]; rfl
  · by_cases h0 : x < 0
    · rw [if_pos h0]; rfl
    · rw [if_neg h0, hM, if_neg (Int32.not_lt.mpr h)]; rfl
theorem in1_ok {v n : Nat} (hn : n < 2 ^ 30) (hv : v < n) : f_X11_in (nI v).toInt64 0 (nI n - 1).toInt64 = some 1 := in_ok (by
  intro q
  rcases q with q | q
  · rw [show (0 : Int64) = (0 : Int32).toInt64 by decide] at q
    exact nI_pos (by omega) (i64_lt.mp q)
  · exact nle_nI hv (by omega) ((sub1_lt hn).mp (i64_lt.mp q)))
theorem in1_bad {n : Nat} {x : Int32} (hn : n < 2 ^ 30) (hx : x < 0 ∨ nI n ≤ x) : f_X11_in x.toInt64 0 (nI n - 1).toInt64 = some 0 := in_bad (by
  rcases hx with h | h
  · left
    rw [show (0 : Int64) = (0 : Int32).toInt64 by decide]
    exact i64_lt.mpr h
  · exact Or.inr (i64_lt.mpr ((sub1_lt hn).mpr h)))
theorem isV_ok {n v : Nat} {μ : Mem} (hM : μ.1 113 0 = nI n) (hn : n < 2 ^ 30) (hv : v < n) : f_X11_isVillage (nI v) μ = some 1 := by
  unfold f_X11_isVillage
  rw [hM, in1_ok hn hv]; rfl
theorem isV_bad {n : Nat} {x : Int32} {μ : Mem} (hM : μ.1 113 0 = nI n) (hn : n < 2 ^ 30) (hx : x < 0 ∨ nI n ≤ x) : f_X11_isVillage x μ = some 0 := by
  unfold f_X11_isVillage
  rw [hM, in1_bad hn hx]; rfl
theorem isL_ok {n v : Nat} {μ : Mem} (hM : μ.1 113 1 = nI n) (hn : n < 2 ^ 30) (hv : v < n) : f_X11_isLot (nI v) μ = some 1 := by
  unfold f_X11_isLot
  rw [hM, in1_ok hn hv]; rfl
theorem isL_bad {n : Nat} {x : Int32} {μ : Mem} (hM : μ.1 113 1 = nI n) (hn : n < 2 ^ 30) (hx : x < 0 ∨ nI n ≤ x) : f_X11_isLot x μ = some 0 := by
  unfold f_X11_isLot
  rw [hM, in1_bad hn hx]; rfl
theorem puts_eq {j : Nat} {v : Int32} {μ : Mem} (hj : j < 184) : f_X11_puts (nI j) v μ = some (μ.1 113 j, setI μ 113 j v) := by
  unfold f_X11_puts
  rw [chk_nI hj (by decide), chk_nI hj (by decide), ix_nI (by omega)]
  rfl
/-- a refused call: both say BAD -/
theorem ok_bad {X Y : Mem → Option (Int32 × Mem)} {μ : Mem} (h : Rel μ) (hX : X μ = some (-2, badX μ)) (hY : ∀ ν : Mem, ν.1 112 5 = 0 → (∀ j, ν.1 113 j = μ.1 113 j) → (∀ j, ν.1 117 j = μ.1 117 j) → Y ν = some (-2, refM ν 0)) : ∃ r ν1 ν2, X μ = some (r, ν1) ∧ Y ν1 = some (r, ν2) ∧ Rel ν2 :=
  ⟨-2, badX μ, refM (badX μ) 0, hX, hY _ (quiet_bad h) (fun j => by simp [badX, si_1]) (fun j => by simp [badX, si_1]), h.bad⟩
theorem gt_of {x : Int32} {n : Nat} (hn : n + 1 < 2 ^ 31) (h : nI (n + 1) ≤ x) : nI n < x := by
  rw [Int32.lt_iff_toInt_lt, nI_toInt (by omega)]
  rw [Int32.le_iff_toInt_le, nI_toInt hn] at h
  omega
theorem or_of {x : Int32} {n : Nat} (hn : n + 1 < 2 ^ 31) (h : x < 0 ∨ nI (n + 1) ≤ x) : x < 0 ∨ nI n < x := h.imp id (gt_of hn)
theorem ngt {j n : Nat} (hj : j < n + 1) (hn : n < 2 ^ 31) : ¬ nI n < nI j := by
  rw [nI_ltI hn (by omega)]
  omega

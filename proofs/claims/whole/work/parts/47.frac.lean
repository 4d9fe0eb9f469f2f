/-! fractions -/
/-- between -B and B -/
def bI (x : Int64) (B : Nat) : Prop := -(B : Int) ≤ x.toInt ∧ x.toInt ≤ (B : Int)
theorem bmod64 {z : Int} (h1 : -(2 ^ 62) ≤ z) (h2 : z ≤ 2 ^ 62) : z.bmod (2 ^ 64) = z := Int.bmod_eq_of_le (by omega) (by omega)
theorem bI_add {x y : Int64} {A B : Nat} (hx : bI x A) (hy : bI y B) (h : A + B ≤ 2 ^ 60) : bI (x + y) (A + B) := by
  obtain ⟨a1, a2⟩ := hx
  obtain ⟨b1, b2⟩ := hy
  unfold bI
  rw [Int64.toInt_add, bmod64 (by omega) (by omega)]
  omega
theorem bI_mul {x y : Int64} {A B : Nat} (hx : bI x A) (hy : bI y B) (h : A * B ≤ 2 ^ 60) : bI (x * y) (A * B) := by
  obtain ⟨a1, a2⟩ := hx
  obtain ⟨b1, b2⟩ := hy
  have e : (x.toInt * y.toInt).natAbs ≤ A * B := by
    rw [Int.natAbs_mul]
    exact Nat.mul_le_mul (by omega) (by omega)
  unfold bI
  rw [Int64.toInt_mul, bmod64 (by omega) (by omega)]
  omega
theorem bI_mono {x : Int64} {A B : Nat} (hx : bI x A) (h : A ≤ B) : bI x B := by
  obtain ⟨a1, a2⟩ := hx
  unfold bI
  omega
theorem bI_0 : bI 0 0 := by unfold bI; decide
theorem bI_i {x : Int32} {B : Nat} (h1 : -(B : Int) ≤ x.toInt) (h2 : x.toInt ≤ (B : Int)) : bI x.toInt64 B := by
  unfold bI
  rw [Int32.toInt_toInt64]
  exact ⟨h1, h2⟩
theorem bI_n {t B : Nat} (ht : t ≤ B) (hB : B < 2 ^ 31) : bI (nI t).toInt64 B := bI_i (by rw [nI_toInt (by omega)]; omega) (by rw [nI_toInt (by omega)]; omega)
theorem absL {x : Int64} (h : bI x (2 ^ 60)) : (if 0 < x then x else -x) = lN x.toInt.natAbs ∧ (if x < 0 then -x else x) = lN x.toInt.natAbs := by
  obtain ⟨a1, a2⟩ := h
  have e : (lN x.toInt.natAbs).toInt = (x.toInt.natAbs : Int) := pk_lT (by omega)
  have n1 : (-x).toInt = -x.toInt := by
    rw [Int64.toInt_neg, bmod64 (by omega) (by omega)]
  constructor
  · by_cases q : 0 < x
    · rw [if_pos q]
      have q' : (0 : Int) < x.toInt := Int64.lt_iff_toInt_lt.mp q
      exact Int64.toInt_inj.mp (by rw [e]; omega)
    · rw [if_neg q]
      have q' : ¬ (0 : Int) < x.toInt := fun z => q (Int64.lt_iff_toInt_lt.mpr z)
      exact Int64.toInt_inj.mp (by rw [e, n1]; omega)
  · by_cases q : x < 0
    · rw [if_pos q]
      have q' : x.toInt < (0 : Int) := Int64.lt_iff_toInt_lt.mp q
      exact Int64.toInt_inj.mp (by rw [e, n1]; omega)
    · rw [if_neg q]
      have q' : ¬ x.toInt < (0 : Int) := fun z => q (Int64.lt_iff_toInt_lt.mpr z)
      exact Int64.toInt_inj.mp (by rw [e]; omega)
theorem mod_half {b c : Nat} (h0 : 0 < c) (h : c < b) : 2 * (b % c) < b := by
  have h1 := Nat.mod_lt b h0
  have h2 : b % c = (b - c) % c := Nat.mod_eq_sub_mod (by omega)
  have h3 := Nat.mod_le (b - c) c
  omega
theorem lN_ne {b : Nat} (h0 : 0 < b) (h : b < 2 ^ 63) : ¬ lN b = 0 := fun q => by
  have := (pk_lEQ (b := 0) h (by decide)).mp q
  omega
theorem cd_X : ∀ (k a b i : Nat), b < 2 ^ k → a < 2 ^ 63 → b < 2 ^ 63 → i + 2 * k + 1 ≤ 200 → lp (ε := Int64) (cu3 fun (x0_1 : Int64) (x2_2 : Int64) (x4_3 : Int32) =>
    if x4_3 < 200 then
      if x2_2 = 0 then
        some (.inr x0_1)
      else
        ckZ x2_2 (
          some (.inl (x2_2, (x0_1 - x0_1 / x2_2 * x2_2), (x4_3 + 1)))
          )
    else
      some (.inr x0_1)
    ) (lN a, lN b, nI i) = some (lN (Nat.gcd a b)) := by
  intro k
  induction k with
  | zero =>
    intro a b i hb ha hb2 hi
    have : b = 0 := by simpa using hb
    subst this
    refine (lp_inr (e := lN a) ?_).trans (by rw [Nat.gcd_zero_right])
    rw [cu3_eq, if_pos (by exact (nI_ltI (b := 200) (by omega) (by decide)).mpr (by omega)), if_pos (by rfl)]
  | succ k ih =>
    intro a b i hb ha hb2 hi
    have Z : ∀ a i, i < 200 → lp (ε := Int64) (cu3 fun (x0_1 : Int64) (x2_2 : Int64) (x4_3 : Int32) =>
      if x4_3 < 200 then
        if x2_2 = 0 then
          some (.inr x0_1)
        else
          ckZ x2_2 (
            some (.inl (x2_2, (x0_1 - x0_1 / x2_2 * x2_2), (x4_3 + 1)))
            )
      else
        some (.inr x0_1)
      ) (lN a, lN 0, nI i) = some (lN a) := fun a i hi => lp_inr (e := lN a) (by
        rw [cu3_eq, if_pos (by exact (nI_ltI (b := 200) (by omega) (by decide)).mpr (by omega)), if_pos (by rfl)])
    rcases Nat.eq_zero_or_pos b with rfl | h0
    · rw [Z a i (by omega), Nat.gcd_zero_right]
    · have S : ∀ a b i, 0 < b → a < 2 ^ 63 → b < 2 ^ 63 → i < 200 → lp (ε := Int64) (cu3 fun (x0_1 : Int64) (x2_2 : Int64) (x4_3 : Int32) =>
        if x4_3 < 200 then
          if x2_2 = 0 then
            some (.inr x0_1)
          else
            ckZ x2_2 (
              some (.inl (x2_2, (x0_1 - x0_1 / x2_2 * x2_2), (x4_3 + 1)))
              )
        else
          some (.inr x0_1)
        ) (lN a, lN b, nI i) = lp (ε := Int64) (cu3 fun (x0_1 : Int64) (x2_2 : Int64) (x4_3 : Int32) =>
        if x4_3 < 200 then
          if x2_2 = 0 then
            some (.inr x0_1)
          else
            ckZ x2_2 (
              some (.inl (x2_2, (x0_1 - x0_1 / x2_2 * x2_2), (x4_3 + 1)))
              )
        else
          some (.inr x0_1)
        ) (lN b, lN (a % b), nI (i + 1)) := fun a b i h0 ha hb hi => lp_inl (by
          rw [cu3_eq, if_pos (by exact (nI_ltI (b := 200) (by omega) (by decide)).mpr (by omega)), if_neg (lN_ne h0 hb), pk_lRem ha h0 hb, ← nI_succ]
          exact if_neg (lN_ne h0 hb))
      have g1 : Nat.gcd a b = Nat.gcd b (a % b) := by rw [Nat.gcd_comm a b, Nat.gcd_rec b a, Nat.gcd_comm]
      rw [S a b i h0 ha hb2 (by omega), g1]
      have h1 := Nat.mod_lt a h0
      rcases Nat.eq_zero_or_pos (a % b) with e | h2
      · rw [e, Z b (i + 1) (by omega), Nat.gcd_zero_right]
      · have g2 : Nat.gcd b (a % b) = Nat.gcd (a % b) (b % (a % b)) := by rw [Nat.gcd_comm b (a % b), Nat.gcd_rec (a % b) b, Nat.gcd_comm]
        rw [S b (a % b) (i + 1) h2 hb2 (by omega) (by omega), g2]
        have h3 := mod_half h2 h1
        have h4 : 2 ^ (k + 1) = 2 * 2 ^ k := by rw [Nat.pow_succ, Nat.mul_comm]
        exact ih (a % b) (b % (a % b)) (i + 2) (by omega) (by omega) (by omega) (by omega)
theorem cd_Y : ∀ (k a b : Nat), b < 2 ^ k → a < 2 ^ 63 → b < 2 ^ 63 → lp (ε := Int64) (cu2 fun (x4_3 : Int64) (x6_4 : Int64) =>
      if x6_4 = 0 then
        some (.inr x4_3)
      else
        ckZ x6_4 (
          some (.inl (x6_4, (x4_3 - x4_3 / x6_4 * x6_4)))
          )
      ) (lN a, lN b) = some (lN (Nat.gcd a b)) := by
  intro k
  induction k with
  | zero =>
    intro a b hb ha hb2
    have : b = 0 := by simpa using hb
    subst this
    refine (lp_inr (e := lN a) ?_).trans (by rw [Nat.gcd_zero_right])
    rw [cu2_eq, if_pos (by rfl)]
  | succ k ih =>
    intro a b hb ha hb2
    have Z : ∀ a, lp (ε := Int64) (cu2 fun (x4_3 : Int64) (x6_4 : Int64) =>
      if x6_4 = 0 then
        some (.inr x4_3)
      else
        ckZ x6_4 (
          some (.inl (x6_4, (x4_3 - x4_3 / x6_4 * x6_4)))
          )
      ) (lN a, lN 0) = some (lN a) := fun a => lp_inr (e := lN a) (by rw [cu2_eq, if_pos (by rfl)])
    rcases Nat.eq_zero_or_pos b with rfl | h0
    · rw [Z a, Nat.gcd_zero_right]
    · have S : ∀ a b, 0 < b → a < 2 ^ 63 → b < 2 ^ 63 → lp (ε := Int64) (cu2 fun (x4_3 : Int64) (x6_4 : Int64) =>
        if x6_4 = 0 then
          some (.inr x4_3)
        else
          ckZ x6_4 (
            some (.inl (x6_4, (x4_3 - x4_3 / x6_4 * x6_4)))
            )
        ) (lN a, lN b) = lp (ε := Int64) (cu2 fun (x4_3 : Int64) (x6_4 : Int64) =>
        if x6_4 = 0 then
          some (.inr x4_3)
        else
          ckZ x6_4 (
            some (.inl (x6_4, (x4_3 - x4_3 / x6_4 * x6_4)))
            )
        ) (lN b, lN (a % b)) := fun a b h0 ha hb => lp_inl (by
          rw [cu2_eq, if_neg (lN_ne h0 hb), pk_lRem ha h0 hb]
          exact if_neg (lN_ne h0 hb))
      have g1 : Nat.gcd a b = Nat.gcd b (a % b) := by rw [Nat.gcd_comm a b, Nat.gcd_rec b a, Nat.gcd_comm]
      rw [S a b h0 ha hb2, g1]
      have h1 := Nat.mod_lt a h0
      rcases Nat.eq_zero_or_pos (a % b) with e | h2
      · rw [e, Z b, Nat.gcd_zero_right]
      · have g2 : Nat.gcd b (a % b) = Nat.gcd (a % b) (b % (a % b)) := by rw [Nat.gcd_comm b (a % b), Nat.gcd_rec (a % b) b, Nat.gcd_comm]
        rw [S b (a % b) h2 hb2 (by omega), g2]
        have h3 := mod_half h2 h1
        have h4 : 2 ^ (k + 1) = 2 * 2 ^ k := by rw [Nat.pow_succ, Nat.mul_comm]
        exact ih (a % b) (b % (a % b)) (by omega) (by omega) (by omega)
theorem frac {x : Int64} {w : Nat} (hx : bI x (2 ^ 60)) (h0 : 0 < w) (hw : w < 2 ^ 20) : ∃ d : Int64, 0 < d ∧ ¬ d = 0 ∧ f_X10_commonDivisor (if 0 < x then x else -x) (lN w) = some d ∧ f_X11_divisor x (lN w) = some d := by
  have hA : x.toInt.natAbs < 2 ^ 63 := by
    obtain ⟨a, b⟩ := hx
    omega
  have hg0 : 0 < Nat.gcd x.toInt.natAbs w := Nat.gcd_pos_of_pos_right _ h0
  have hg1 : Nat.gcd x.toInt.natAbs w ≤ w := Nat.le_of_dvd h0 (Nat.gcd_dvd_right _ _)
  refine ⟨lN (Nat.gcd x.toInt.natAbs w), (pk_lLT (a := 0) (by decide) (by omega)).mpr hg0, lN_ne hg0 (by omega), ?_, ?_⟩
  · unfold f_X10_commonDivisor
    rw [(absL hx).1]
    exact bd_lp (cd_X 20 x.toInt.natAbs w 0 hw hA (by omega) (by omega))
  · unfold f_X11_divisor
    have Y : ∀ y, y = lN x.toInt.natAbs → (bd (lp (ε := Int64) (cu2 fun (x4_3 : Int64) (x6_4 : Int64) =>
      if x6_4 = 0 then
        some (.inr x4_3)
      else
        ckZ x6_4 (
          some (.inl (x6_4, (x4_3 - x4_3 / x6_4 * x6_4)))
          )
      ) (y, lN w)) (fun (x4_5 : Int64) =>
      some x4_5
      )) = some (lN (Nat.gcd x.toInt.natAbs w)) := fun y hy => by
      rw [hy]
      exact bd_lp (cd_Y 20 x.toInt.natAbs w hw hA (by omega))
    rw [jn_eq]
    have e := (absL hx).2
    by_cases q : x < 0
    · rw [if_pos q] at e ⊢
      exact Y _ e
    · rw [if_neg q] at e ⊢
      exact Y _ e
theorem Rel.long {μ ν : Mem} (h : Rel μ) (hv : ∀ p j, relv p j = true → ν.1 p j = μ.1 p j) (h2 : ν.2 0 10 = ν.2 112 6 ∧ ν.2 0 11 = ν.2 112 7) : Rel ν := by
  have z : Rel (ν.1, μ.2) := h.frame (ν := (ν.1, μ.2)) hv ⟨rfl, rfl⟩
  obtain ⟨z1, z2, z3, z4, z5, z6⟩ := z
  exact ⟨z1, z2, z3, h2, z5, z6⟩
/-- both sides keep a fraction -/
theorem frac_ok {μ ν ν' : Mem} {x : Int64} {w : Nat} (h : Rel μ) (hx : bI x (2 ^ 60)) (h0 : 0 < w) (hw : w < 2 ^ 20) (a2 : ∀ b j, ¬ (b = 6 ∨ (63 ≤ b ∧ b ≤ 111)) → ν.1 b j = μ.1 b j) : ∃ ν1, f_X10_setFraction x (lN w) ν = some ν1 ∧ ν1.1 = ν.1 ∧ ((ν'.1 = ν1.1 ∨ ∀ b j, b ≠ 120 → ν'.1 b j = ν1.1 b j) → ν'.2 = ν1.2 → ∃ ν2, f_X11_keeps x (lN w) ν' = some (1, ν2) ∧ Rel ν2) := by
  obtain ⟨d, d0, d1, e1, e2⟩ := frac hx h0 hw
  refine ⟨setL (setL ν 0 10 (x / d)) 0 11 (lN w / d), ?_, rfl, fun f1 f2 => ⟨setL (setL ν' 112 6 (x / d)) 112 7 (lN w / d), ?_, ?_⟩⟩
  · unfold f_X10_setFraction
    rw [e1, bd_some]
    simp only [jn_eq, lt_eq]
    rw [if_pos d0]
    unfold ckZ
    rw [if_neg d1, if_neg d1]
  · unfold f_X11_keeps
    rw [e2, bd_some]
    simp only [lt_eq]
    unfold ckZ
    rw [if_neg d1, if_neg d1]
  · refine h.long (fun p j hp => ?_) ?_
    · have := relv_ne hp
      rw [sl_1, sl_1]
      rcases f1 with f1 | f1
      · rw [f1, sl_1, sl_1, a2 _ _ (by omega)]
      · rw [f1 _ _ (by omega), sl_1, sl_1, a2 _ _ (by omega)]
    · simp only [sl_2, f2]
      simp

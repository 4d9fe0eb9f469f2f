/-! read: the class's scanner -/
def TX (T : Nat → Nat) (L : Nat) (M : Nat → Nat → Int32) : Prop := L ≤ 150 ∧ M 45 1 = nI L ∧ ∀ j, j < L → T j ≤ 127 ∧ M 46 j = nI (T j)
def KX (μ ν : Mem) : Prop := ν.2 = μ.2 ∧ ∀ b j, ¬ (b = 45 ∧ 5 ≤ j) → ν.1 b j = μ.1 b j
theorem KX.rfl {μ : Mem} : KX μ μ := ⟨Eq.refl _, fun _ _ _ => Eq.refl _⟩
theorem KX.trans {μ ν ξ : Mem} (h : KX μ ν) (h' : KX ν ξ) : KX μ ξ := ⟨h'.1.trans h.1, fun b j q => (h'.2 b j q).trans (h.2 b j q)⟩
theorem KX.set {μ ν : Mem} {j : Nat} {x : Int32} (h : KX μ ν) (hj : 5 ≤ j) : KX μ (setI ν 45 j x) := ⟨h.1, fun b i q => by rw [si_ne (by omega)]; exact h.2 b i q⟩
theorem TX.of {T : Nat → Nat} {L : Nat} {μ ν : Mem} (h : TX T L μ.1) (k : KX μ ν) : TX T L ν.1 := by
  obtain ⟨h1, h2, h3⟩ := h
  exact ⟨h1, by rw [k.2 _ _ (by omega)]; exact h2, fun j hj => by rw [k.2 _ _ (by omega)]; exact h3 j hj⟩
theorem let_X {T : Nat → Nat} {L i : Nat} {μ : Mem} (h : TX T L μ.1) (hi : i < L) : (lett (T i) → f_X8_isLetter (nI i) μ = some 1) ∧ (¬ lett (T i) → f_X8_isLetter (nI i) μ = some 0) := by
  obtain ⟨hL, h1, h2⟩ := h
  obtain ⟨h3, h4⟩ := h2 i hi
  unfold f_X8_isLetter lett
  simp only [jn_eq, ckB_0, ckB_1]
  rw [if_neg (nI_pos (by omega)), h1, if_pos ((nI_ltI (by omega) (by omega)).mpr hi), chk_nI (by omega) (by decide), chk_nI (by omega) (by decide), ix_nI (by omega), h4]
  constructor
  · intro q
    rw [if_neg (by exact fun z => absurd ((nI_ltI (b := 97) (by omega) (by decide)).mp z) (by omega)), if_neg (by exact fun z => absurd ((nI_ltI (a := 122) (by decide) (by omega)).mp z) (by omega))]
  · intro q
    by_cases a : T i < 97
    · rw [if_pos (by exact (nI_ltI (b := 97) (by omega) (by decide)).mpr a)]
    · rw [if_neg (by exact fun z => absurd ((nI_ltI (b := 97) (by omega) (by decide)).mp z) a), if_pos (by exact (nI_ltI (a := 122) (by decide) (by omega)).mpr (by omega))]
theorem fig_X {T : Nat → Nat} {L i : Nat} {μ : Mem} (h : TX T L μ.1) (hi : i < L) : (figu (T i) → f_X8_isFigure (nI i) μ = some 1) ∧ (¬ figu (T i) → f_X8_isFigure (nI i) μ = some 0) := by
  obtain ⟨hL, h1, h2⟩ := h
  obtain ⟨h3, h4⟩ := h2 i hi
  unfold f_X8_isFigure figu
  simp only [jn_eq, ckB_0, ckB_1]
  rw [if_neg (nI_pos (by omega)), h1, if_pos ((nI_ltI (by omega) (by omega)).mpr hi), chk_nI (by omega) (by decide), chk_nI (by omega) (by decide), ix_nI (by omega), h4]
  constructor
  · intro q
    rw [if_neg (by exact fun z => absurd ((nI_ltI (b := 48) (by omega) (by decide)).mp z) (by omega)), if_neg (by exact fun z => absurd ((nI_ltI (a := 57) (by decide) (by omega)).mp z) (by omega))]
  · intro q
    by_cases a : T i < 48
    · rw [if_pos (by exact (nI_ltI (b := 48) (by omega) (by decide)).mpr a)]
    · rw [if_neg (by exact fun z => absurd ((nI_ltI (b := 48) (by omega) (by decide)).mp z) a), if_pos (by exact (nI_ltI (a := 57) (by decide) (by omega)).mpr (by omega))]
theorem ln_ok : ∀ w, w < 6 → f_J0_length_8abf5 w = some (nI (LN w)) := by decide +kernel
theorem ch_ok : ∀ w, w < 6 → ∀ j, j < LN w → f_J0_charAt_5068e w (nI j) = some (nI (NC w j)) := by decide +kernel
theorem nm_ok : ∀ w, w < 6 → f_X8_nameOf (nI w) = some w := by decide +kernel
theorem nc_127 : ∀ w, w < 6 → ∀ j, j < LN w → NC w j ≤ 127 := by decide +kernel
theorem tokS_X {T : Nat → Nat} {L w s e : Nat} {μ : Mem} (h : TX T L μ.1) (hw : w < 6) (m5 : μ.1 45 5 = nI s) (m6 : μ.1 45 6 = nI e) (hse : s ≤ e) (he : e ≤ L) : (WI T w s e → f_X8_tokenIs w μ = some 1) ∧ (¬ WI T w s e → f_X8_tokenIs w μ = some 0) := by
  obtain ⟨hL, h1, h2⟩ := h
  have l6 := ln_w w hw
  by_cases hl : e - s = LN w
  · have F0 : ∀ j, j < LN w → (bd (f_J0_length_8abf5 w) fun r4 =>
        if nI j < r4 then
          chk ((μ.1 45 5) + nI j) 150 (
            bd (f_J0_charAt_5068e w (nI j)) fun r5 =>
            if (μ.1 46 (ix ((μ.1 45 5) + nI j))) = r5 then
              (some (.inl (nI j + 1)) : Option (Int32 ⊕ (Unit ⊕ Int32)))
            else
              some (.inr (.inr 0))
            )
        else
          some (.inr (.inl ()))) = if ¬ T (s + j) = NC w j then some (.inr (.inr 0)) else some (.inl (nI (j + 1))) := by
      intro j hj
      obtain ⟨b1, b2⟩ := h2 (s + j) (by omega)
      have b3 := nc_127 w hw j hj
      rw [ln_ok w hw, bd_some, if_pos ((nI_ltI (by omega) (by omega)).mpr hj), m5, ni_add, chk_nI (by omega) (by decide), ch_ok w hw j hj, bd_some, ix_nI (by omega), b2]
      by_cases q : T (s + j) = NC w j
      · rw [if_pos (by rw [q]), if_neg (fun z => z q), nI_succ]
      · rw [if_neg (fun z => q ((nI_eq (by omega) (by omega)).mp z)), if_pos q]
    have F1 : (bd (f_J0_length_8abf5 w) fun r4 =>
        if nI (LN w) < r4 then
          chk ((μ.1 45 5) + nI (LN w)) 150 (
            bd (f_J0_charAt_5068e w (nI (LN w))) fun r5 =>
            if (μ.1 46 (ix ((μ.1 45 5) + nI (LN w)))) = r5 then
              (some (.inl (nI (LN w) + 1)) : Option (Int32 ⊕ (Unit ⊕ Int32)))
            else
              some (.inr (.inr 0))
            )
        else
          some (.inr (.inl ()))) = some (.inr (.inl ())) := by
      rw [ln_ok w hw, bd_some, if_neg (fun z => Nat.lt_irrefl _ ((nI_ltI (by omega) (by omega)).mp z))]
    have H : ∀ x, (bd (f_J0_length_8abf5 w) fun r1 => if ((μ.1 45 6) - (μ.1 45 5)) = r1 then x else some 0) = (x : Option Int32) := fun x => by
      rw [ln_ok w hw, bd_some, m5, m6, ni_sub hse, hl, if_pos rfl]
    unfold f_X8_tokenIs
    rw [H]
    constructor
    · intro q
      exact bdr_miss (A := 0) (N := LN w) (Q := fun j => ¬ T (s + j) = NC w j) (fun j hj z => z (q.2 j hj)) F0 F1
    · intro q
      refine bdr_hit (A := 0) (N := LN w) (Q := fun j => ¬ T (s + j) = NC w j) ?_ F0
      refine Classical.byContradiction (fun z => q ⟨hl, fun j hj => Classical.byContradiction (fun y => z ⟨j, hj, y⟩)⟩)
  · have : f_X8_tokenIs w μ = some 0 := by
      unfold f_X8_tokenIs
      rw [ln_ok w hw, bd_some, m5, m6, ni_sub hse, if_neg (fun z => hl ((nI_eq (by omega) (by omega)).mp z))]
    exact ⟨fun q => absurd q.1 hl, fun _ => this⟩
theorem word_X {T : Nat → Nat} {L s e : Nat} {μ : Mem} (h : TX T L μ.1) (m5 : μ.1 45 5 = nI s) (m6 : μ.1 45 6 = nI (s + 1)) (hs : s < L) (h1 : lett (T s)) (hr : Rn (fun j => lett (T j)) L s e) : ∃ ν, f_X8_stepOverWord μ = some ν ∧ KX μ ν ∧ ν.1 45 5 = nI s ∧ ν.1 45 6 = nI e ∧ ((∃ w, w < 6 ∧ WI T w s e ∧ ν.1 45 7 = nI 1 ∧ ν.1 45 8 = nI w) ∨ ((∀ w, w < 6 → ¬ WI T w s e) ∧ ν.1 45 7 = nI 4)) := by
  have hL := h.1
  have hse := hr.pos hs h1
  obtain ⟨r1, r2, r3, r4⟩ := hr
  unfold f_X8_stepOverWord
  obtain ⟨ν2, e1, k2, a5, a6⟩ := lp_run (F := fun (ν1 : Mem) =>
    if (ν1.1 45 6) < (ν1.1 45 1) then
      bd (f_X8_isLetter (ν1.1 45 6) ν1) fun r4 =>
      if r4 = 0 then
        some (.inr ν1)
      else
        lt (setI ν1 45 6 ((ν1.1 45 6) + 1)) fun ν5 =>
        some (.inl ν5)
    else
      some (.inr ν1)) (fun j ν => KX μ ν ∧ ν.1 45 5 = nI s ∧ ν.1 45 6 = nI j) (fun ν => KX μ ν ∧ ν.1 45 5 = nI s ∧ ν.1 45 6 = nI e) (p := s + 1) (e := e) (by omega) (fun j ν j1 j2 hI => by
      obtain ⟨k1, k5, k6⟩ := hI
      have t := h.of k1
      refine ⟨setI ν 45 6 (nI (j + 1)), ?_, k1.set (by omega), by rw [si_ne (by omega)]; exact k5, si_eq⟩
      rw [k6, t.2.1, if_pos ((nI_ltI (by omega) (by omega)).mpr (by omega)), (let_X t (by omega)).1 (r3 j (by omega) j2), bd_some, if_neg (by decide), lt_eq, nI_succ]) (fun ν hI => by
      obtain ⟨k1, k5, k6⟩ := hI
      have t := h.of k1
      refine ⟨ν, ?_, k1, k5, k6⟩
      by_cases q : e < L
      · rw [k6, t.2.1, if_pos ((nI_ltI (by omega) (by omega)).mpr q), (let_X t q).2 (r4 q), bd_some, if_pos rfl]
      · rw [k6, t.2.1, if_neg (fun z => q ((nI_ltI (by omega) (by omega)).mp z))]) (s := μ) ⟨KX.rfl, m5, m6⟩
  rw [e1, bd_some, lt_eq]
  obtain ⟨ν9, e2, k9, b5, b6, b7⟩ := lp_run (F := cu2 fun (x1_7 : Int32) (ν8 : Mem) =>
      if x1_7 < 6 then
        bd (f_X8_nameOf x1_7) fun r11 =>
        bd (f_X8_tokenIs r11 ν8) fun r12 =>
        jn (fun (ν13 : Mem) =>
          some (.inl ((x1_7 + 1), ν13))
          ) fun j14 =>
        if r12 = 0 then
          j14 ν8
        else
          lt (setI ν8 45 7 1) fun ν15 =>
          lt (setI ν15 45 8 x1_7) fun ν16 =>
          j14 ν16
      else
        some (.inr ν8)) (fun w x => x.1 = nI w ∧ KX μ x.2 ∧ x.2.1 45 5 = nI s ∧ x.2.1 45 6 = nI e ∧ ((∃ u, u < w ∧ WI T u s e ∧ x.2.1 45 7 = nI 1 ∧ x.2.1 45 8 = nI u) ∨ ((∀ u, u < w → ¬ WI T u s e) ∧ x.2.1 45 7 = nI 4))) (fun ν => KX μ ν ∧ ν.1 45 5 = nI s ∧ ν.1 45 6 = nI e ∧ ((∃ w, w < 6 ∧ WI T w s e ∧ ν.1 45 7 = nI 1 ∧ ν.1 45 8 = nI w) ∨ ((∀ w, w < 6 → ¬ WI T w s e) ∧ ν.1 45 7 = nI 4))) (p := 0) (e := 6) (by omega) (fun w x w1 w2 hI => by
      obtain ⟨x, ν⟩ := x
      obtain ⟨k0, k1, k5, k6, k7⟩ := hI
      dsimp only at k0 k1 k5 k6 k7
      subst k0
      have t := h.of k1
      by_cases q : WI T w s e
      · refine ⟨(nI (w + 1), setI (setI ν 45 7 1) 45 8 (nI w)), ?_, rfl, (k1.set (by omega)).set (by omega), ?_, ?_, Or.inl ⟨w, by omega, q, ?_, ?_⟩⟩
        · rw [cu2_eq, if_pos (by exact (nI_ltI (b := 6) (by omega) (by decide)).mpr w2), nm_ok w w2, bd_some, (tokS_X t w2 k5 k6 (by omega) r2).1 q, bd_some, jn_eq, if_neg (by decide), lt_eq, lt_eq, nI_succ]
        · dsimp only; rw [si_ne (by omega), si_ne (by omega)]; exact k5
        · dsimp only; rw [si_ne (by omega), si_ne (by omega)]; exact k6
        · dsimp only; rw [si_ne (by omega), si_eq]; rfl
        · exact si_eq
      · refine ⟨(nI (w + 1), ν), ?_, rfl, k1, k5, k6, ?_⟩
        · rw [cu2_eq, if_pos (by exact (nI_ltI (b := 6) (by omega) (by decide)).mpr w2), nm_ok w w2, bd_some, (tokS_X t w2 k5 k6 (by omega) r2).2 q, bd_some, jn_eq, if_pos rfl, nI_succ]
        · rcases k7 with ⟨u, u1, u2, u3⟩ | ⟨u1, u2⟩
          · exact Or.inl ⟨u, by omega, u2, u3⟩
          · refine Or.inr ⟨fun u hu => ?_, u2⟩
            by_cases z : u = w
            · subst z; exact q
            · exact u1 u (by omega)) (fun x hI => by
      obtain ⟨x, ν⟩ := x
      obtain ⟨k0, k1, k5, k6, k7⟩ := hI
      dsimp only at k0 k1 k5 k6 k7
      subst k0
      exact ⟨ν, by rw [cu2_eq, if_neg (by decide)], k1, k5, k6, k7⟩) (s := (0, setI ν2 45 7 4)) ⟨rfl, k2.set (by omega), by dsimp only; rw [si_ne (by omega)]; exact a5, by dsimp only; rw [si_ne (by omega)]; exact a6, Or.inr ⟨fun u hu => absurd hu (Nat.not_lt_zero u), si_eq⟩⟩
  rw [e2, bd_some]
  exact ⟨ν9, rfl, k9, b5, b6, b7⟩
theorem numb_X {T : Nat → Nat} {L s e : Nat} {μ : Mem} (h : TX T L μ.1) (m5 : μ.1 45 5 = nI s) (m6 : μ.1 45 6 = nI (s + 1)) (hs : s < L) (h1 : figu (T s)) (hr : Rn (fun j => figu (T j)) L s e) : ∃ ν, f_X8_stepOverNumber μ = some ν ∧ KX μ ν ∧ ν.1 45 5 = nI s ∧ ν.1 45 6 = nI e ∧ ((2 < e - s ∧ ν.1 45 7 = nI 4) ∨ (e - s ≤ 2 ∧ ν.1 45 7 = nI 2 ∧ ν.1 45 8 = nI (nv T s e))) := by
  have hL := h.1
  have hse := hr.pos hs h1
  obtain ⟨r1, r2, r3, r4⟩ := hr
  obtain ⟨t1, t2⟩ := h.2.2 s hs
  have f1 := h1.1
  unfold f_X8_stepOverNumber
  rw [m5, chk_nI (by omega) (by decide), lt_eq, ix_nI (by omega), t2, show (48 : Int32) = nI 48 from rfl, ni_sub f1]
  obtain ⟨ν2, e1, k2, a5, a6, a7, a8⟩ := lp_run (F := fun (ν2 : Mem) =>
      if (ν2.1 45 6) < (ν2.1 45 1) then
        bd (f_X8_isFigure (ν2.1 45 6) ν2) fun r5 =>
        if r5 = 0 then
          some (.inr ν2)
        else
          chk (ν2.1 45 6) 150 (
            lt (setI ν2 45 8 ((((ν2.1 45 8) * 10) + (ν2.1 46 (ix (ν2.1 45 6)))) - nI 48)) fun ν6 =>
            lt (setI ν6 45 6 ((ν6.1 45 6) + 1)) fun ν7 =>
            some (.inl ν7)
            )
      else
        some (.inr ν2)) (fun j ν => KX μ ν ∧ ν.1 45 5 = nI s ∧ ν.1 45 6 = nI j ∧ (j = s + 1 → ν.1 45 8 = nI (T s - 48)) ∧ (j = s + 2 → ν.1 45 8 = nI (10 * (T s - 48) + (T (s + 1) - 48)))) (fun ν => KX μ ν ∧ ν.1 45 5 = nI s ∧ ν.1 45 6 = nI e ∧ (e = s + 1 → ν.1 45 8 = nI (T s - 48)) ∧ (e = s + 2 → ν.1 45 8 = nI (10 * (T s - 48) + (T (s + 1) - 48)))) (p := s + 1) (e := e) (by omega) (fun j ν j1 j2 hI => by
      obtain ⟨k1, k5, k6, k7, k8⟩ := hI
      have t := h.of k1
      obtain ⟨t3, t4⟩ := t.2.2 j (by omega)
      have fj : figu (T j) := r3 j (by omega) j2
      have f2 := fj.1
      refine ⟨setI (setI ν 45 8 (((ν.1 45 8) * 10) + nI (T j) - nI 48)) 45 6 (nI (j + 1)), ?_, (k1.set (by omega)).set (by omega), by rw [si_ne (by omega), si_ne (by omega)]; exact k5, si_eq, fun q => absurd q (by omega), fun q => ?_⟩
      · rw [k6, t.2.1, if_pos ((nI_ltI (by omega) (by omega)).mpr (by omega)), (fig_X t (by omega)).1 fj, bd_some, if_neg (by decide), chk_nI (by omega) (by decide), lt_eq, lt_eq, ix_nI (by omega), t4, si_ne (by omega), k6, nI_succ j]
      · have e9 : j = s + 1 := by omega
        subst e9
        rw [si_ne (by omega), si_eq, k7 rfl, show (10 : Int32) = nI 10 from rfl, ni_mul, ni_add, ni_sub (by omega)]
        exact congrArg nI (by omega)) (fun ν hI => by
      obtain ⟨k1, k5, k6, k7, k8⟩ := hI
      have t := h.of k1
      refine ⟨ν, ?_, k1, k5, k6, k7, k8⟩
      by_cases q : e < L
      · rw [k6, t.2.1, if_pos ((nI_ltI (by omega) (by omega)).mpr q), (fig_X t q).2 (r4 q), bd_some, if_pos rfl]
      · rw [k6, t.2.1, if_neg (fun z => q ((nI_ltI (by omega) (by omega)).mp z))]) (s := setI μ 45 8 (nI (T s - 48))) ⟨KX.rfl.set (by omega), by rw [si_ne (by omega)]; exact m5, by rw [si_ne (by omega)]; exact m6, fun _ => si_eq, fun q => absurd q (by omega)⟩
  rw [e1, bd_some, jn_eq, a5, a6, ni_sub (by omega)]
  by_cases q : 2 < e - s
  · rw [if_pos (by exact (nI_ltI (a := 2) (by decide) (by omega)).mpr q)]
    exact ⟨_, rfl, k2.set (by omega), by rw [si_ne (by omega)]; exact a5, by rw [si_ne (by omega)]; exact a6, Or.inl ⟨q, si_eq⟩⟩
  · rw [if_neg (by exact fun z => q ((nI_ltI (a := 2) (by decide) (by omega)).mp z))]
    refine ⟨_, rfl, k2.set (by omega), by rw [si_ne (by omega)]; exact a5, by rw [si_ne (by omega)]; exact a6, Or.inr ⟨by omega, si_eq, ?_⟩⟩
    rw [si_ne (by omega)]
    unfold nv
    by_cases z : e - s = 1
    · rw [if_pos z]; exact a7 (by omega)
    · rw [if_neg z]; exact a8 (by omega)
theorem step_X {T : Nat → Nat} {L p s e k v : Nat} {μ : Mem} (h : TX T L μ.1) (m6 : μ.1 45 6 = nI p) (ht : Tok T L p s e k v) : ∃ ν, f_X8_step μ = some ν ∧ KX μ ν ∧ ν.1 45 5 = nI s ∧ ν.1 45 6 = nI e ∧ ν.1 45 7 = nI k ∧ (k = 1 ∨ k = 2 → ν.1 45 8 = nI v) := by
  have hL := h.1
  obtain ⟨⟨r1, r2, r3, r4⟩, ht⟩ := ht
  unfold f_X8_step
  rw [lt_eq, m6]
  obtain ⟨ν3, e1, k3, a5⟩ := lp_run (F := fun (ν2 : Mem) =>
    if (ν2.1 45 5) < (ν2.1 45 1) then
      chk (ν2.1 45 5) 150 (
        if (ν2.1 46 (ix (ν2.1 45 5))) = 32 then
          lt (setI ν2 45 5 ((ν2.1 45 5) + 1)) fun ν5 =>
          some (.inl ν5)
        else
          some (.inr ν2)
        )
    else
      some (.inr ν2)) (fun j ν => KX μ ν ∧ ν.1 45 5 = nI j) (fun ν => KX μ ν ∧ ν.1 45 5 = nI s) (p := p) (e := s) r1 (fun j ν j1 j2 hI => by
      obtain ⟨k1, k5⟩ := hI
      have t := h.of k1
      obtain ⟨t3, t4⟩ := t.2.2 j (by omega)
      refine ⟨setI ν 45 5 (nI (j + 1)), ?_, k1.set (by omega), si_eq⟩
      rw [k5, t.2.1, if_pos ((nI_ltI (by omega) (by omega)).mpr (by omega)), chk_nI (by omega) (by decide), ix_nI (by omega), t4, show T j = 32 from r3 j j1 j2, if_pos (by rfl), lt_eq, nI_succ]) (fun ν hI => by
      obtain ⟨k1, k5⟩ := hI
      have t := h.of k1
      refine ⟨ν, ?_, k1, k5⟩
      by_cases q : s < L
      · obtain ⟨t3, t4⟩ := t.2.2 s q
        rw [k5, t.2.1, if_pos ((nI_ltI (by omega) (by omega)).mpr q), chk_nI (by omega) (by decide), ix_nI (by omega), t4, if_neg (by exact fun z => r4 q ((nI_eq (b := 32) (by omega) (by decide)).mp z))]
      · rw [k5, t.2.1, if_neg (fun z => q ((nI_ltI (by omega) (by omega)).mp z))]) (s := setI μ 45 5 (nI p)) ⟨KX.rfl.set (by omega), si_eq⟩
  rw [e1, bd_some, lt_eq, jn_eq]
  have k6 : KX μ (setI ν3 45 6 (ν3.1 45 5 + 1)) := k3.set (by omega)
  have t6 := h.of k6
  have b5 : (setI ν3 45 6 (ν3.1 45 5 + 1)).1 45 5 = nI s := by rw [si_ne (by omega)]; exact a5
  have b6 : (setI ν3 45 6 (ν3.1 45 5 + 1)).1 45 6 = nI (s + 1) := by rw [si_eq, a5, nI_succ]
  rw [b5, t6.2.1]
  rcases ht with ⟨rfl, rfl, rfl, rfl⟩ | ⟨h1, h2, h3, h4⟩ | ⟨h1, h2, h3, h4⟩ | ⟨h1, h2, h3, rfl, rfl, h4⟩
  · rw [if_neg (fun z => Nat.lt_irrefl _ ((nI_ltI (by omega) (by omega)).mp z)), lt_eq, lt_eq]
    exact ⟨_, rfl, (k6.set (by omega)).set (by omega), by rw [si_ne (by omega), si_ne (by omega)]; exact b5, by rw [si_ne (by omega), si_eq], si_eq, fun q => absurd q (by omega)⟩
  · obtain ⟨ν, w1, w2, w3, w4, w5⟩ := word_X t6 b5 b6 h1 h2 h3
    rw [if_pos ((nI_ltI (by omega) (by omega)).mpr h1), (let_X t6 h1).1 h2, bd_some, if_neg (by decide), w1, bd_some]
    refine ⟨ν, rfl, k6.trans w2, w3, w4, ?_⟩
    rcases h4 with ⟨rfl, h7, h8⟩ | ⟨rfl, rfl, h7⟩
    · rcases w5 with ⟨w, x1, x2, x3, x4⟩ | ⟨x1, _⟩
      · exact ⟨x3, fun _ => by rw [x4, x2.uniq h8 x1 h7]⟩
      · exact absurd h8 (x1 v h7)
    · rcases w5 with ⟨w, x1, x2, x3, x4⟩ | ⟨x1, x2⟩
      · exact absurd x2 (h7 w x1)
      · exact ⟨x2, fun q => absurd q (by omega)⟩
  · have nl : ¬ lett (T s) := fun q => by
      have := h2.2
      have := q.1
      omega
    obtain ⟨ν, w1, w2, w3, w4, w5⟩ := numb_X t6 b5 b6 h1 h2 h3
    rw [if_pos ((nI_ltI (by omega) (by omega)).mpr h1), (let_X t6 h1).2 nl, bd_some, if_pos rfl, (fig_X t6 h1).1 h2, bd_some, if_neg (by decide), w1, bd_some]
    refine ⟨ν, rfl, k6.trans w2, w3, w4, ?_⟩
    rcases h4 with ⟨rfl, h7, rfl⟩ | ⟨rfl, rfl, h7⟩
    · rcases w5 with ⟨x1, x2⟩ | ⟨x1, x2, x3⟩
      · exact absurd x1 (by omega)
      · exact ⟨x2, fun _ => x3⟩
    · rcases w5 with ⟨x1, x2⟩ | ⟨x1, x2, x3⟩
      · exact ⟨x2, fun q => absurd q (by omega)⟩
      · exact absurd x1 (by omega)
  · obtain ⟨t3, t4⟩ := t6.2.2 s h1
    rw [if_pos ((nI_ltI (by omega) (by omega)).mpr h1), (let_X t6 h1).2 h2, bd_some, if_pos rfl, (fig_X t6 h1).2 h3, bd_some, if_pos rfl, chk_nI (by omega) (by decide), jn_eq, ix_nI (by omega), t4]
    rcases h4 with ⟨rfl, h7⟩ | ⟨rfl, h7⟩
    · rw [h7, if_pos (by rfl)]
      exact ⟨_, rfl, k6.set (by omega), by rw [si_ne (by omega)]; exact b5, by rw [si_ne (by omega)]; exact b6, si_eq, fun q => absurd q (by omega)⟩
    · rw [if_neg (by exact fun z => h7 ((nI_eq (b := 59) (by omega) (by decide)).mp z))]
      exact ⟨_, rfl, k6.set (by omega), by rw [si_ne (by omega)]; exact b5, by rw [si_ne (by omega)]; exact b6, si_eq, fun q => absurd q (by omega)⟩

/-! read: the reference's parser -/
def AY (T : Nat → Nat) (L m : Nat) (M : Nat → Nat → Int32) : Prop := M 112 11 = nI (tS T L m) ∧ M 112 10 = nI (ps T L (m + 1)) ∧ M 112 12 = nI (tYn (tK T L m) (tV T L m)) ∧ (tK T L m = 2 → M 112 13 = nI (tV T L m))
theorem next_Y {T : Nat → Nat} {L m : Nat} {μ : Mem} (h : TY T L μ.1) (a : μ.1 112 10 = nI (ps T L m)) : ∃ ν, f_X11_scans μ = some ν ∧ KY μ ν ∧ AY T L m ν.1 := by
  obtain ⟨ν, h1, h2, h3, h4, h5, h6⟩ := scan_Y h a (tk_ok T L m)
  exact ⟨ν, h1, h2, h3, h4, h5, h6⟩
theorem TY.as {T : Nat → Nat} {L : Nat} {M M' : Nat → Nat → Int32} (h : TY T L M) (h1 : M' 112 9 = M 112 9) (h2 : ∀ j, M' 118 j = M 118 j) : TY T L M' := ⟨h.1, h1.trans h.2.1, fun j hj => ⟨(h.2.2 j hj).1, (h2 j).trans (h.2.2 j hj).2⟩⟩
def PY (i : Nat) (μ ν : Mem) : Prop := ν.2 = μ.2 ∧ ∀ b j, ¬ (b = 112 ∧ 10 ≤ j ∧ j ≤ 13) → ¬ (b = 119 ∧ 4 * i ≤ j ∧ j < 4 * i + 4) → ν.1 b j = μ.1 b j
theorem PY.rfl {i : Nat} {μ : Mem} : PY i μ μ := ⟨Eq.refl _, fun _ _ _ _ => Eq.refl _⟩
theorem PY.k {i : Nat} {μ ν ξ : Mem} (h : PY i μ ν) (k : KY ν ξ) : PY i μ ξ := ⟨k.1.trans h.1, fun b j q1 q2 => (k.2 b j q1).trans (h.2 b j q1 q2)⟩
theorem PY.ty {T : Nat → Nat} {L i : Nat} {μ ν : Mem} (h : PY i μ ν) (t : TY T L μ.1) : TY T L ν.1 := t.as (h.2 _ _ (by omega) (by omega)) (fun j => h.2 _ _ (by omega) (by omega))
theorem nums_Y : ∀ w, w < 6 → f_X11_numbers (nI w) = some (nI (due w)) := by decide +kernel
theorem ty_1 {v : Nat} : tYn 1 v = 4 + v := rfl
theorem ty_lo : ∀ k, k ≤ 4 → k ≠ 1 → (nI (tYn k 0) - 4 < 0 ∧ tYn k 0 ≤ 3) := by decide +kernel
theorem ty_lo' {k v : Nat} (h : k ≤ 4) (h1 : k ≠ 1) : nI (tYn k v) - 4 < 0 ∧ tYn k v ≤ 3 ∧ (tYn k v = 2 ↔ k = 2) ∧ (tYn k v = 3 ↔ k = 3) ∧ (tYn k v = 0 ↔ k = 0) := by
  have e : tYn k v = tYn k 0 := by unfold tYn; rw [if_neg h1, if_neg h1]
  have d : ∀ k, k ≤ 4 → k ≠ 1 → (tYn k 0 = 2 ↔ k = 2) ∧ (tYn k 0 = 3 ↔ k = 3) ∧ (tYn k 0 = 0 ↔ k = 0) := by decide +kernel
  rw [e]
  exact ⟨(ty_lo k h h1).1, (ty_lo k h h1).2, d k h h1⟩
theorem ty_is {T : Nat → Nat} {L m : Nat} {x : Int32} (hx : x = nI (tYn (tK T L m) (tV T L m))) : (x = 2 ↔ tK T L m = 2) ∧ (x = 3 ↔ tK T L m = 3) ∧ (x = 0 ↔ tK T L m = 0) := by
  have k4 := tk_4 T L m
  subst hx
  by_cases k1 : tK T L m = 1
  · have hv := (tk_w k1).1
    rw [k1, ty_1]
    refine ⟨⟨fun z => ?_, fun z => absurd z (by decide)⟩, ⟨fun z => ?_, fun z => absurd z (by decide)⟩, ⟨fun z => ?_, fun z => absurd z (by decide)⟩⟩
    · exact absurd ((nI_eq (b := 2) (by omega) (by decide)).mp z) (by omega)
    · exact absurd ((nI_eq (b := 3) (by omega) (by decide)).mp z) (by omega)
    · exact absurd ((nI_eq (b := 0) (by omega) (by decide)).mp z) (by omega)
  · obtain ⟨_, c0, c2, c3, c4⟩ := ty_lo' (v := tV T L m) k4 k1
    exact ⟨Iff.trans (nI_eq (b := 2) (by omega) (by decide)) c2, Iff.trans (nI_eq (b := 3) (by omega) (by decide)) c3, Iff.trans (nI_eq (b := 0) (by omega) (by decide)) c4⟩
noncomputable def fiY (w : Nat) : Int32 → Mem → Option ((Int32 × Mem) ⊕ (Mem ⊕ (Int32 × Mem))) := fun x2_15 ν16 =>
  bd (f_X11_numbers (nI w)) fun r19 =>
  if x2_15 < r19 then
    if (ν16.1 112 12) = 2 then
      chk (((4 * (ν16.1 112 15)) + 1) + x2_15) 200 (lt (setI ν16 119 (ix (((4 * (ν16.1 112 15)) + 1) + x2_15)) (ν16.1 112 13)) fun ν20 =>
        bd (f_X11_scans  ν20) fun ν21 =>
        some (.inl ((x2_15 + 1), ν21))
        )
    else
      some (.inr (.inr (0, ν16)))
  else
    some (.inr (.inl ν16))
noncomputable def frY : Mem → Option (Mem ⊕ (Mem ⊕ (Int32 × Mem))) := fun ν4 =>
    jn (
      jn (
        some (.inr (.inr (0, ν4)))
        ) fun j8 =>
      if ((ν4.1 112 12) - 4) < 0 then
        j8
      else
        jn (fun (y9 : Int32) =>
          jn (fun (y11 : Int32) =>
            if y9 = y11 then
              chk (4 * (ν4.1 112 15)) 200 (lt (setI ν4 119 (ix (4 * (ν4.1 112 15))) ((ν4.1 112 12) - 4)) fun ν13 =>
                bd (f_X11_scans  ν13) fun ν14 =>
                bdr (lp (ε := (Mem) ⊕ (Int32 × Mem)) (cu2 fun (x2_15 : Int32) (ν16 : Mem) =>
                  bd (f_X11_numbers ((ν4.1 112 12) - 4)) fun r19 =>
                  if x2_15 < r19 then
                    if (ν16.1 112 12) = 2 then
                      chk (((4 * (ν16.1 112 15)) + 1) + x2_15) 200 (lt (setI ν16 119 (ix (((4 * (ν16.1 112 15)) + 1) + x2_15)) (ν16.1 112 13)) fun ν20 =>
                        bd (f_X11_scans  ν20) fun ν21 =>
                        some (.inl ((x2_15 + 1), ν21))
                        )
                    else
                      some (.inr (.inr (0, ν16)))
                  else
                    some (.inr (.inl ν16))
                  ) (0, ν14)) (fun (ν17 : Mem) =>
                  if (ν17.1 112 12) = 3 then
                    lt (setI ν17 112 15 ((ν17.1 112 15) + 1)) fun ν22 =>
                    bd (f_X11_scans  ν22) fun ν23 =>
                    some (.inl ν23)
                  else
                    some (.inr (.inl ν17))
                  ) (fun r => some (.inr (.inr r)))
                )
            else
              j8
            ) fun j12 =>
          if (ν4.1 112 15) = 0 then
            j12 1
          else
            j12 0
          ) fun j10 =>
        if ((ν4.1 112 12) - 4) = 0 then
          j10 1
        else
          j10 0
      ) fun j7 =>
    if (ν4.1 112 12) = 0 then
      if (ν4.1 112 15) = 0 then
        j7
      else
        some (.inr (.inr (1, ν4)))
    else
      j7
/-- what a round does behind its first tests -/
noncomputable def grY (w i : Nat) (ν4 : Mem) : Option (Mem ⊕ (Mem ⊕ (Int32 × Mem))) :=
  bd (f_X11_scans (setI ν4 119 (4 * i) (nI w))) fun ν14 =>
    bdr (lp (cu2 (fiY w)) (0, ν14)) (fun (ν17 : Mem) =>
      if (ν17.1 112 12) = 3 then
        lt (setI ν17 112 15 ((ν17.1 112 15) + 1)) fun ν22 =>
        bd (f_X11_scans  ν22) fun ν23 =>
        some (.inl ν23)
      else
        some (.inr (.inl ν17))
      ) (fun r => some (.inr (.inr r)))
theorem item_Y0 {T : Nat → Nat} {L m i : Nat} {μ : Mem} (a : AY T L m μ.1) (m15 : μ.1 112 15 = nI i) (hi : i < 30) (he : ¬ (0 < i ∧ tK T L m = 0)) (h0 : ¬ okd T L i m 0) : frY μ = some (.inr (.inr (0, μ))) := by
  have k4 := tk_4 T L m
  have ht := ty_is (a.2.2.1)
  have z2 : (nI i = 0) ↔ i = 0 := nI_eq (b := 0) (by omega) (by decide)
  have J : ∀ J7 : Option (Mem ⊕ (Mem ⊕ (Int32 × Mem))), (jn J7 fun j7 => if (μ.1 112 12) = 0 then if (μ.1 112 15) = 0 then j7 else some (.inr (.inr (1, μ))) else j7) = J7 := by
    intro J7
    rw [jn_eq]
    by_cases q : μ.1 112 12 = 0
    · rw [if_pos q, m15, if_pos (z2.mpr (by
        have := ht.2.2.mp q
        omega))]
    · rw [if_neg q]
  unfold frY
  rw [J, jn_eq]
  by_cases k1 : tK T L m = 1
  · have hv := (tk_w k1).1
    have e4 : μ.1 112 12 - 4 = nI (tV T L m) := by
      rw [a.2.2.1, k1, ty_1, show (4 : Int32) = nI 4 from rfl, ni_sub (by omega)]
      exact congrArg nI (by omega)
    rw [e4, if_neg (nI_pos (by omega)), two_if, if_neg]
    intro q
    refine h0 (okd_0.mpr ⟨k1, ?_⟩)
    have z1 : (nI (tV T L m) = 0) ↔ tV T L m = 0 := nI_eq (b := 0) (by omega) (by decide)
    rw [← z1, ← z2, ← m15]
    exact q
  · rw [if_pos (by rw [a.2.2.1]; exact (ty_lo' k4 k1).1)]
theorem item_Y1 {T : Nat → Nat} {L m i : Nat} {μ : Mem} (a : AY T L m μ.1) (m15 : μ.1 112 15 = nI i) (hi : i < 30) (h0 : okd T L i m 0) : frY μ = grY (tV T L m) i μ := by
  obtain ⟨k1, h0⟩ := okd_0.mp h0
  have hv := (tk_w k1).1
  have ht := ty_is (a.2.2.1)
  have z1 : (nI (tV T L m) = 0) ↔ tV T L m = 0 := nI_eq (b := 0) (by omega) (by decide)
  have z2 : (nI i = 0) ↔ i = 0 := nI_eq (b := 0) (by omega) (by decide)
  have e4 : μ.1 112 12 - 4 = nI (tV T L m) := by
    rw [a.2.2.1, k1, ty_1, show (4 : Int32) = nI 4 from rfl, ni_sub (by omega)]
    exact congrArg nI (by omega)
  have e5 : 4 * nI i = nI (4 * i) := by rw [show (4 : Int32) = nI 4 from rfl, ni_mul]
  unfold frY
  rw [jn_eq, if_neg (fun q => by
    have := ht.2.2.mp q
    omega), jn_eq, e4, if_neg (nI_pos (by omega)), two_if, m15, if_pos (by rw [z1, z2]; exact h0), e5, chk_nI (by omega) (by decide), lt_eq, ix_nI (by omega)]
  rfl
theorem item_Y2 {T : Nat → Nat} {L m i c : Nat} {μ ν7 : Mem} (h : TY T L μ.1) (hi : i < 30) (hw : tV T L m < 6) (m15 : μ.1 112 15 = nI i) (p7 : PY i μ ν7) (a7 : AY T L (m + 1) ν7.1) (m7 : ν7.1 119 (4 * i) = nI (tV T L m)) (hc : c ≤ due (tV T L m)) (ho : ∀ d, d < c → okd T L i m (d + 1)) : ∃ x, lp (cu2 (fiY (tV T L m))) (0, ν7) = lp (cu2 (fiY (tV T L m))) x ∧ x.1 = nI c ∧ PY i μ x.2 ∧ AY T L (m + 1 + c) x.2.1 ∧ x.2.1 119 (4 * i) = nI (tV T L m) ∧ ∀ k, k < c → x.2.1 119 (4 * i + 1 + k) = nI (tV T L (m + 1 + k)) := by
  have d3 := due_3 _ hw
  refine lp_upto (fun k x => x.1 = nI k ∧ PY i μ x.2 ∧ AY T L (m + 1 + k) x.2.1 ∧ x.2.1 119 (4 * i) = nI (tV T L m) ∧ ∀ k', k' < k → x.2.1 119 (4 * i + 1 + k') = nI (tV T L (m + 1 + k'))) c (fun k x hk hI => ?_) (0, ν7) ⟨rfl, p7, a7, m7, fun k hk => absurd hk (Nat.not_lt_zero k)⟩
  obtain ⟨x, ν⟩ := x
  obtain ⟨i0, i1, i2, i3, i4⟩ := hI
  dsimp only at i0 i1 i2 i3 i4
  subst i0
  have k2 := (okd_n (by omega)).mp (ho k hk)
  have e8 := i2.2.2.2 k2
  have e15 : ν.1 112 15 = nI i := by rw [i1.2 _ _ (by omega) (by omega)]; exact m15
  have e3 : 4 * nI i + 1 + nI k = nI (4 * i + 1 + k) := by
    rw [show (4 : Int32) = nI 4 from rfl, show (1 : Int32) = nI 1 from rfl, ni_mul, ni_add, ni_add]
  have tx := i1.ty h
  obtain ⟨ν1, s1, s2, s3⟩ := next_Y (m := m + 1 + k + 1) (μ := setI ν 119 (4 * i + 1 + k) (nI (tV T L (m + 1 + k)))) (tx.as (si_ne (by omega)) (fun j => si_ne (by omega))) (by rw [si_ne (by omega)]; exact i2.2.1)
  refine ⟨(nI (k + 1), ν1), ?_, rfl, ?_, s3, ?_, fun k' hk' => ?_⟩
  · rw [cu2_eq]
    unfold fiY
    rw [nums_Y _ hw, bd_some, if_pos ((nI_ltI (by omega) (by omega)).mpr (by omega)), if_pos ((ty_is i2.2.2.1).1.mpr k2), e15, e3, chk_nI (by omega) (by decide), lt_eq, ix_nI (by omega), e8, s1, bd_some, nI_succ]
  · exact ⟨s2.1.trans i1.1, fun b j q1 q2 => by rw [s2.2 b j q1, si_ne (by omega), i1.2 b j q1 q2]⟩
  · rw [s2.2 _ _ (by omega), si_ne (by omega)]
    exact i3
  · rw [s2.2 _ _ (by omega)]
    by_cases e : k' = k
    · subst e; exact si_eq
    · rw [si_ne (by omega)]
      exact i4 k' (by omega)
theorem item_Y3 {T : Nat → Nat} {L m i : Nat} {μ : Mem} (h : TY T L μ.1) (a : AY T L m μ.1) : ∃ ν7, f_X11_scans (setI μ 119 (4 * i) (nI (tV T L m))) = some ν7 ∧ PY i μ ν7 ∧ AY T L (m + 1) ν7.1 ∧ ν7.1 119 (4 * i) = nI (tV T L m) := by
  obtain ⟨ν7, s1, s2, s3⟩ := next_Y (m := m + 1) (μ := setI μ 119 (4 * i) (nI (tV T L m))) (h.as (si_ne (by omega)) (fun j => si_ne (by omega))) (by rw [si_ne (by omega)]; exact a.2.1)
  refine ⟨ν7, s1, ⟨s2.1, fun b j q1 q2 => by rw [s2.2 b j q1, si_ne (by omega)]⟩, s3, ?_⟩
  rw [s2.2 _ _ (by omega)]
  exact si_eq
def QY (i : Nat) (μ ν : Mem) : Prop := ν.2 = μ.2 ∧ ∀ b j, ¬ (b = 112 ∧ 10 ≤ j) → ¬ (b = 119 ∧ 4 * i ≤ j ∧ j < 4 * i + 4) → ν.1 b j = μ.1 b j
theorem item_Y {T : Nat → Nat} {L m i : Nat} {μ : Mem} (h : TY T L μ.1) (a : AY T L m μ.1) (m15 : μ.1 112 15 = nI i) (hi : i < 30) (hg : ∀ d, d < due (tV T L m) + 2 → okd T L i m d) : ∃ ν, frY μ = some (.inl ν) ∧ QY i μ ν ∧ AY T L (m + due (tV T L m) + 2) ν.1 ∧ ν.1 112 15 = nI (i + 1) ∧ ν.1 119 (4 * i) = nI (tV T L m) ∧ ∀ k, k < due (tV T L m) → ν.1 119 (4 * i + 1 + k) = nI (tV T L (m + 1 + k)) := by
  have h0 := hg 0 (by omega)
  have hw := (tk_w (okd_0.mp h0).1).1
  have d3 := due_3 _ hw
  obtain ⟨ν7, e1, p7, a7, m7⟩ := item_Y3 (i := i) h a
  obtain ⟨⟨x, ν⟩, e2, i0, i1, i2, i3, i4⟩ := item_Y2 h hi hw m15 p7 a7 m7 (Nat.le_refl _) (fun d hd => hg (d + 1) (by omega))
  dsimp only at i0 i1 i2 i3 i4
  subst i0
  have k3 := okd_e.mp (hg _ (by omega))
  have e15 : ν.1 112 15 = nI i := by rw [i1.2 _ _ (by omega) (by omega)]; exact m15
  have tx := i1.ty h
  obtain ⟨ν1, s1, s2, s3⟩ := next_Y (m := m + 1 + due (tV T L m) + 1) (μ := setI ν 112 15 (nI (i + 1))) (tx.as (si_ne (by omega)) (fun j => si_ne (by omega))) (by rw [si_ne (by omega)]; exact i2.2.1)
  refine ⟨ν1, ?_, ⟨s2.1.trans i1.1, fun b j q1 q2 => by rw [s2.2 _ _ (by omega), si_ne (by omega), i1.2 b j (by omega) q2]⟩, ?_, by rw [s2.2 _ _ (by omega), si_eq], by rw [s2.2 _ _ (by omega), si_ne (by omega)]; exact i3, fun k hk => by rw [s2.2 _ _ (by omega), si_ne (by omega)]; exact i4 k hk⟩
  · rw [item_Y1 a m15 hi h0]
    unfold grY
    rw [e1, bd_some, e2, lp_inr (e := .inl ν) (by rw [cu2_eq]; unfold fiY; rw [nums_Y _ hw, bd_some, if_neg (fun z => Nat.lt_irrefl _ ((nI_ltI (by omega) (by omega)).mp z))]), bdr_l, if_pos ((ty_is i2.2.2.1).2.1.mpr k3), e15, lt_eq, ← nI_succ, s1, bd_some]
  · rw [show m + due (tV T L m) + 2 = m + 1 + due (tV T L m) + 1 by omega]
    exact s3
theorem item_YF {T : Nat → Nat} {L m i d : Nat} {μ : Mem} (h : TY T L μ.1) (a : AY T L m μ.1) (m15 : μ.1 112 15 = nI i) (hi : i < 30) (he : ¬ (0 < i ∧ tK T L m = 0)) (hd : d < due (tV T L m) + 2) (hb : ¬ okd T L i m d) (hg : ∀ d', d' < d → okd T L i m d') : ∃ ν, (frY μ = some (.inr (.inl ν)) ∨ frY μ = some (.inr (.inr (0, ν)))) ∧ PY i μ ν ∧ AY T L (m + d) ν.1 := by
  cases d with
  | zero => exact ⟨μ, Or.inr (item_Y0 a m15 hi he hb), PY.rfl, a⟩
  | succ d =>
    have h0 := hg 0 (by omega)
    have hw := (tk_w (okd_0.mp h0).1).1
    have d3 := due_3 _ hw
    obtain ⟨ν7, e1, p7, a7, m7⟩ := item_Y3 (i := i) h a
    obtain ⟨⟨x, ν⟩, e2, i0, i1, i2, i3, i4⟩ := item_Y2 (c := d) h hi hw m15 p7 a7 m7 (by omega) (fun d' hd' => hg (d' + 1) (by omega))
    dsimp only at i0 i1 i2 i3 i4
    subst i0
    have k4 := tk_4 T L (m + 1 + d)
    refine ⟨ν, ?_, i1, by rw [show m + (d + 1) = m + 1 + d by omega]; exact i2⟩
    by_cases q : d < due (tV T L m)
    · have k2 : ¬ tK T L (m + 1 + d) = 2 := fun z => hb ((okd_n q).mpr z)
      right
      rw [item_Y1 a m15 hi h0]
      unfold grY
      rw [e1, bd_some, e2, lp_inr (e := .inr (0, ν)) (by rw [cu2_eq]; unfold fiY; rw [nums_Y _ hw, bd_some, if_pos ((nI_ltI (by omega) (by omega)).mpr q), if_neg (fun z => k2 ((ty_is i2.2.2.1).1.mp z))]), bdr_r]
    · have e9 : d = due (tV T L m) := by omega
      have k3 : ¬ tK T L (m + 1 + d) = 3 := fun z => hb (by rw [e9]; exact okd_e.mpr (by rw [← e9]; exact z))
      left
      rw [item_Y1 a m15 hi h0]
      unfold grY
      rw [e1, bd_some, e2, lp_inr (e := .inl ν) (by rw [cu2_eq]; unfold fiY; rw [nums_Y _ hw, bd_some, if_neg (fun z => q ((nI_ltI (by omega) (by omega)).mp z))]), bdr_l, if_neg (fun z => k3 ((ty_is i2.2.2.1).2.1.mp z))]
def SY (T : Nat → Nat) (L N : Nat) (M : Nat → Nat → Int32) : Prop := ∀ i, i < N → M 119 (4 * i) = nI (tV T L (itm T L i)) ∧ ∀ k, k < due (tV T L (itm T L i)) → M 119 (4 * i + 1 + k) = nI (tV T L (itm T L i + 1 + k))
def FY (μ ν : Mem) : Prop := ν.2 = μ.2 ∧ ∀ b j, ¬ (b = 112 ∧ 10 ≤ j) → b ≠ 119 → ν.1 b j = μ.1 b j
theorem FY.ty {T : Nat → Nat} {L : Nat} {μ ν : Mem} (h : FY μ ν) (t : TY T L μ.1) : TY T L ν.1 := t.as (h.2 _ _ (by omega) (by omega)) (fun j => h.2 _ _ (by omega) (by omega))
theorem reads_Y {T : Nat → Nat} {L N : Nat} {μ : Mem} (h : TY T L μ.1) (hN : N < 22) (hg : ∀ i, i < N → Gd T L i) : ((0 < N ∧ tK T L (itm T L N) = 0) → ∃ ν, f_X11_reads μ = some (1, ν) ∧ FY μ ν ∧ SY T L N ν.1 ∧ ν.1 112 15 = nI N) ∧ (¬ (0 < N ∧ tK T L (itm T L N) = 0) → ∀ d, d < due (tV T L (itm T L N)) + 2 → ¬ okd T L N (itm T L N) d → (∀ d', d' < d → okd T L N (itm T L N) d') → ∃ ν, f_X11_reads μ = some (0, ν) ∧ ν.1 112 11 = nI (tS T L (itm T L N + d)) ∧ FY μ ν) := by
  have h2 : TY T L (setI (setI μ 112 10 0) 112 15 0).1 := h.as (by rw [si_ne (by omega), si_ne (by omega)]) (fun j => by rw [si_ne (by omega), si_ne (by omega)])
  obtain ⟨ν3, s1, s2, s3⟩ := next_Y (m := 0) (μ := setI (setI μ 112 10 0) 112 15 0) h2 (by rw [si_ne (by omega)]; exact si_eq)
  have e1 : f_X11_reads μ = bdr (lp frY ν3) (fun (ν5 : Mem) => some (0, ν5)) (fun r => some r) := by
    unfold f_X11_reads
    rw [lt_eq, lt_eq, s1, bd_some]
    rfl
  obtain ⟨ν, e2, i1, i2, i3, i4⟩ := lp_upto (F := frY) (fun i x => FY μ x ∧ AY T L (itm T L i) x.1 ∧ SY T L i x.1 ∧ x.1 112 15 = nI i) N (fun i ν hi hI => by
    obtain ⟨i1, i2, i3, i4⟩ := hI
    have g := hg i hi
    obtain ⟨ν1, p1, p2, p3, p4, p5, p6⟩ := item_Y (i1.ty h) i2 i4 (by omega) g
    refine ⟨ν1, p1, ⟨p2.1.trans i1.1, fun b j q1 q2 => by rw [p2.2 b j (by omega) (by omega), i1.2 b j q1 q2]⟩, p3, ?_, p4⟩
    intro i' hi'
    by_cases e : i' = i
    · subst e
      exact ⟨p5, p6⟩
    · have w := (tk_w (okd_0.mp (hg i' (by omega) 0 (by omega))).1).1
      have d3 := due_3 _ w
      obtain ⟨b1, b2⟩ := i3 i' (by omega)
      refine ⟨?_, fun k hk => ?_⟩
      · rw [p2.2 _ _ (by omega) (by omega)]; exact b1
      · rw [p2.2 _ _ (by omega) (by omega)]; exact b2 k hk) ν3 ⟨⟨s2.1, fun b j q1 q2 => by rw [s2.2 b j (by omega), si_ne (by omega), si_ne (by omega)]⟩, s3, fun i hi => absurd hi (Nat.not_lt_zero i), by rw [s2.2 _ _ (by omega), si_eq]; rfl⟩
  rw [e1, e2]
  constructor
  · intro q
    refine ⟨ν, ?_, i1, i3, i4⟩
    rw [lp_inr (e := .inr (1, ν)) (by
      unfold frY
      rw [jn_eq, if_pos ((ty_is i2.2.2.1).2.2.mpr q.2), i4, if_neg (by exact fun z => absurd ((nI_eq (b := 0) (by omega) (by decide)).mp z) (by omega))]), bdr_r]
  · intro q d hd hb hg
    obtain ⟨ν1, p1, p2, p3⟩ := item_YF (i1.ty h) i2 i4 (by omega) q hd hb hg
    refine ⟨ν1, ?_, p3.1, p2.1.trans i1.1, fun b j q1 q2 => by rw [p2.2 b j (by omega) (by omega), i1.2 b j q1 q2]⟩
    rcases p1 with p1 | p1
    · rw [lp_inr p1, bdr_l]
    · rw [lp_inr p1, bdr_r]

/-! read -/
noncomputable def ftX : Int32 → Mem → Option ((Int32 × Mem) ⊕ (Mem ⊕ (Int32 × Mem))) := fun x2_3 ν4 =>
      if x2_3 < (ν4.1 45 2) then
        bd2 (f_X10_tellItem x2_3 ν4) fun r7 ν8 =>
        if r7 < 0 then
          some (.inr (.inr (((-1000) - x2_3), ν8)))
        else
          some (.inl ((x2_3 + 1), ν8))
      else
        some (.inr (.inl ν4))
noncomputable def ftY : Int32 → Mem → Option ((Int32 × Mem) ⊕ (Int32 × Mem)) := fun x1_9 ν10 =>
        if x1_9 < (ν10.1 112 15) then
          bd2 (f_X11_tellsItem x1_9 ν10) fun r14 ν15 =>
          if r14 = 0 then
            some (.inr (x1_9, ν15))
          else
            some (.inl ((x1_9 + 1), ν15))
        else
          some (.inr (x1_9, ν10))
def InY (T : Nat → Nat) (L N : Nat) (B : Nat → Int32) (ν : Mem) : Prop := (∀ j, ν.1 113 j = B j) ∧ ν.1 112 5 = 1 ∧ SY T L N ν.1 ∧ ν.1 112 15 = nI N
theorem tell_all {T : Nat → Nat} {L N : Nat} (hN : N < 22) (hg : ∀ i, i < N → Gd T L i) : ∀ k i (μ : Mem) (B : Nat → Int32), i + k = N → SX T L N μ.1 → μ.1 45 2 = nI N → ¬ μ.1 50 0 < 0 → ¬ B 0 < 0 → (0 < i → CR 49 μ.1 B) →
    (∃ μ' B', lp (cu2 ftX) (nI i, μ) = some (.inl μ') ∧ FT μ μ' ∧ (0 < N → CR 49 μ'.1 B') ∧ ∀ ν, InY T L N B ν → ∃ ν', lp (cu2 ftY) (nI i, ν) = some (nI N, ν') ∧ FB ν ν' ∧ ∀ j, ν'.1 113 j = B' j) ∨
    (∃ t μ', t < N ∧ lp (cu2 ftX) (nI i, μ) = some (.inr (-1000 - nI t, μ')) ∧ FT μ μ' ∧ ¬ μ'.1 50 0 < 0 ∧ ∀ ν, InY T L N B ν → ∃ ν', lp (cu2 ftY) (nI i, ν) = some (nI t, ν') ∧ FB ν ν') := by
  intro k
  induction k with
  | zero =>
    intro i μ B hi sx e2 h50 hB0 hc
    have e9 : i = N := by omega
    subst e9
    refine Or.inl ⟨μ, B, lp_inr ?_, FT.rfl, hc, fun ν hν => ⟨ν, lp_inr ?_, FB.rfl, hν.1⟩⟩
    · rw [cu2_eq]
      unfold ftX
      rw [e2, if_neg (fun z => Nat.lt_irrefl _ ((nI_ltI (by omega) (by omega)).mp z))]
    · rw [cu2_eq]
      unfold ftY
      rw [hν.2.2.2, if_neg (fun z => Nat.lt_irrefl _ ((nI_ltI (by omega) (by omega)).mp z))]
  | succ k ih =>
    intro i μ B hi sx e2 h50 hB0 hc
    have g := hg i (by omega)
    obtain ⟨k1, w0⟩ := okd_0.mp (g 0 (by omega))
    have hw := (tk_w k1).1
    have hA : ∀ k, k < due (tV T L (itm T L i)) → tV T L (itm T L i + 1 + k) ≤ 99 := fun k hk => tk_n ((okd_n hk).mp (g (k + 1) (by omega)))
    obtain ⟨x1, x2⟩ := sx i (by omega)
    have eX : f_X10_tellItem (nI i) μ = opX (tV T L (itm T L i)) (fun k => tV T L (itm T L i + 1 + k)) μ := tell_X (by omega) hw x1 x2
    have eY : ∀ ν, InY T L N B ν → f_X11_tellsItem (nI i) ν = bd2 (opY (tV T L (itm T L i)) (fun k => tV T L (itm T L i + 1 + k)) ν) fun r ν => some (if r < 0 then 0 else 1, ν) := fun ν hν => by
      obtain ⟨y1, y2⟩ := hν.2.2.1 i (by omega)
      exact tell_Y (by omega) hw y1 y2
    rcases ti_item hw hA h50 hB0 (fun q => hc (by omega)) with ⟨r, μ1, B1, a1, a2, a3, a4, a5⟩ | ⟨r, a1, a2, a3⟩
    · obtain ⟨n, l, r0, p, hcn⟩ := id a4
      obtain ⟨n1, n2, n3⟩ := hcn.n0
      have sx1 : SX T L N μ1.1 := fun i' hi' => by
        rw [a3.2 _ _ (by omega)]
        refine ⟨(sx i' hi').1, fun k hk => ?_⟩
        rw [a3.2 _ _ (by omega)]
        exact (sx i' hi').2 k hk
      have st : lp (cu2 ftX) (nI i, μ) = lp (cu2 ftX) (nI (i + 1), μ1) := lp_inl (by
        rw [cu2_eq]
        unfold ftX
        rw [e2, if_pos ((nI_ltI (by omega) (by omega)).mpr (by omega)), eX, a1, bd2_some, if_neg a2, nI_succ i])
      have sy : ∀ ν, InY T L N B ν → ∃ ν1, lp (cu2 ftY) (nI i, ν) = lp (cu2 ftY) (nI (i + 1), ν1) ∧ FB ν ν1 ∧ InY T L N B1 ν1 := fun ν hν => by
        obtain ⟨r', ν1, b1, b2, b3, b4⟩ := a5 ν hν.1 hν.2.1
        refine ⟨ν1, lp_inl ?_, b3, b4, ?_, ?_, ?_⟩
        · rw [cu2_eq]
          unfold ftY
          rw [hν.2.2.2, if_pos ((nI_ltI (by omega) (by omega)).mpr (by omega)), eY ν hν, b1, bd2_some, bd2_some, if_neg b2, if_neg (by decide), nI_succ i]
        · rw [b3.2 _ _ (by omega)]; exact hν.2.1
        · intro i' hi'
          rw [b3.2 _ _ (by omega)]
          refine ⟨(hν.2.2.1 i' hi').1, fun k hk => ?_⟩
          rw [b3.2 _ _ (by omega)]
          exact (hν.2.2.1 i' hi').2 k hk
        · rw [b3.2 _ _ (by omega)]; exact hν.2.2.2
      rcases ih (i + 1) μ1 B1 (by omega) sx1 (by rw [a3.2 _ _ (by omega)]; exact e2) (by rw [show μ1.1 50 0 = nI n from n2]; exact nI_pos (by omega)) (by rw [n1]; exact nI_pos (by omega)) (fun _ => a4) with ⟨μ', B', c1, c2, c3, c4⟩ | ⟨t, μ', c0, c1, c2, c3, c4⟩
      · refine Or.inl ⟨μ', B', st.trans c1, a3.trans c2, c3, fun ν hν => ?_⟩
        obtain ⟨ν1, d1, d2, d3⟩ := sy ν hν
        obtain ⟨ν', f1, f2, f3⟩ := c4 ν1 d3
        exact ⟨ν', d1.trans f1, d2.trans f2, f3⟩
      · refine Or.inr ⟨t, μ', c0, st.trans c1, a3.trans c2, c3, fun ν hν => ?_⟩
        obtain ⟨ν1, d1, d2, d3⟩ := sy ν hν
        obtain ⟨ν', f1, f2⟩ := c4 ν1 d3
        exact ⟨ν', d1.trans f1, d2.trans f2⟩
    · refine Or.inr ⟨i, μ, by omega, lp_inr ?_, FT.rfl, h50, fun ν hν => ?_⟩
      · rw [cu2_eq]
        unfold ftX
        rw [e2, if_pos ((nI_ltI (by omega) (by omega)).mpr (by omega)), eX, a1, bd2_some, if_pos a2]
      · obtain ⟨r', b1, b2⟩ := a3 ν hν.1 hν.2.1
        refine ⟨ν, lp_inr ?_, FB.rfl⟩
        rw [cu2_eq]
        unfold ftY
        rw [hν.2.2.2, if_pos ((nI_ltI (by omega) (by omega)).mpr (by omega)), eY ν hν, b1, bd2_some, bd2_some, if_pos b2, if_pos rfl]
theorem Rel.all {μ ν : Mem} (h : Rel μ) (hv : ∀ p j, relo p j = true → p ≠ 50 → ¬ (p = 112 ∧ j = 5) → ν.1 p j = μ.1 p j) (h50 : ¬ ν.1 50 0 < 0) (hq0 : ν.1 112 5 = 0) (h2 : ν.2 = μ.2) (hc : CR 1 ν.1 (fun j => ν.1 113 j)) : Rel ν := by
  obtain ⟨-, hi, ⟨t, ht, t1, t2, t3⟩, hl, ⟨r0, r1, r2, -⟩, hq⟩ := h
  refine ⟨hc, fun i hi2 => ?_, ⟨t, ht, ?_, ?_, fun j hj => ?_⟩, ?_, ⟨?_, ?_, ?_, h50⟩, hq0⟩
  · obtain ⟨i1, i2, i3⟩ := hi i hi2
    rw [hv 44 i rfl (by decide) (by omega), hv 115 i rfl (by decide) (by omega)]
    refine ⟨i1, i2, fun h => (i3 h).of (fun c hc5 hc6 j => hv _ _ ?_ (by omega) (by omega)) (fun j hj => hv 114 _ rfl (by decide) (by omega))⟩
    simp [relo, relv]
    omega
  · rw [hv 45 1 rfl (by decide) (by omega)]; exact t1
  · rw [hv 112 9 rfl (by decide) (by omega)]; exact t2
  · rw [hv 46 j rfl (by decide) (by omega), hv 118 j rfl (by decide) (by omega)]; exact t3 j hj
  · rw [h2]; exact hl
  · rw [hv 0 12 rfl (by decide) (by omega), hv 117 0 rfl (by decide) (by omega)]; exact r0
  · rw [hv 0 13 rfl (by decide) (by omega), hv 117 1 rfl (by decide) (by omega)]; exact r1
  · rw [hv 0 14 rfl (by decide) (by omega), hv 117 2 rfl (by decide) (by omega)]; exact r2
theorem relo_all {p j : Nat} (h : relo p j = true) (h50 : p ≠ 50) : (p ≤ 46 ∧ ¬ (1 ≤ p ∧ p ≤ 14) ∧ (p = 45 → j = 1)) ∨ (112 ≤ p ∧ p ≤ 118 ∧ p ≠ 116 ∧ p ≠ 113 ∧ (p = 112 → j = 5 ∨ j = 9)) := by
  have h1 := relo_ne h
  have h2 : relv p j = true := by
    simp only [relo, Bool.and_eq_true] at h
    exact h.1.1
  have h3 := relv_ne h2
  omega
theorem nI_nm1 {n : Nat} (h : n < 2 ^ 31) : ¬ nI n = -1 := fun q => nI_pos h (by rw [q]; decide)
theorem read_Y1 {T : Nat → Nat} {L N t : Nat} {ν ν1 ν3 : Mem} (hN : N < 22) (e1 : f_X11_reads ν = some (1, ν1)) (m15 : ν1.1 112 15 = nI N) (e3 : lp (cu2 ftY) (nI 0, setI (cpyI ν1 113 0 116 0 184) 112 5 1) = some (nI t, ν3)) (f3 : FB (setI (cpyI ν1 113 0 116 0 184) 112 5 1) ν3) (ht : t ≤ N) : (t = N → f_X11_read ν = some (nI N, setI ν3 112 5 0)) ∧ (t < N → f_X11_read ν = some (-1000 - nI t, cpyI (setI ν3 112 5 0) 116 0 113 0 184)) := by
  have c1 : lp (ε := Mem) (cu2 fun (x1_3 : Int32) (ν4 : Mem) =>
      if x1_3 < 184 then
        chk x1_3 184 (
          chk x1_3 184 (lt (setI ν4 116 (ix x1_3) (ν4.1 113 (ix x1_3))) fun ν7 =>
            some (.inl ((x1_3 + 1), ν7))
            )
          )
      else
        some (.inr ν4)
      ) (0, ν1) = some (cpyI ν1 113 0 116 0 184) := cpL (N := 184) (NI := 184) (s := 0) (d := 0) (fs := fun x => x) (fd := fun x => x) rfl (by decide) (fun i hi => by rw [Nat.zero_add]) (fun i hi => by rw [Nat.zero_add]) (by decide) (by decide) (by decide) (by decide) (by omega)
  have c2 : lp (ε := Mem) (cu2 fun (x2_17 : Int32) (ν18 : Mem) =>
            if x2_17 < 184 then
              chk x2_17 184 (
                chk x2_17 184 (lt (setI ν18 113 (ix x2_17) (ν18.1 116 (ix x2_17))) fun ν21 =>
                  some (.inl ((x2_17 + 1), ν21))
                  )
                )
            else
              some (.inr ν18)
            ) (0, setI ν3 112 5 0) = some (cpyI (setI ν3 112 5 0) 116 0 113 0 184) := cpL (N := 184) (NI := 184) (s := 0) (d := 0) (fs := fun x => x) (fd := fun x => x) rfl (by decide) (fun i hi => by rw [Nat.zero_add]) (fun i hi => by rw [Nat.zero_add]) (by decide) (by decide) (by decide) (by decide) (by omega)
  have m : (setI ν3 112 5 0).1 112 15 = nI N := by
    rw [si_ne (by omega), f3.2 _ _ (by omega), si_ne (by omega), cp_ne (by omega)]
    exact m15
  have e3' : lp (ε := Int32 × Mem) (cu2 fun (x1_9 : Int32) (ν10 : Mem) =>
        if x1_9 < (ν10.1 112 15) then
          bd2 (f_X11_tellsItem x1_9 ν10) fun r14 ν15 =>
          if r14 = 0 then
            some (.inr (x1_9, ν15))
          else
            some (.inl ((x1_9 + 1), ν15))
        else
          some (.inr (x1_9, ν10))
        ) (0, setI (cpyI ν1 113 0 116 0 184) 112 5 1) = some (nI t, ν3) := e3
  unfold f_X11_read
  rw [e1, bd2_some, if_neg (by decide), c1, bd_some, lt_eq, e3', bd_some, cu2_eq, lt_eq, m]
  constructor
  · intro q
    rw [q, if_pos rfl]
  · intro q
    rw [if_neg (fun z => absurd ((nI_eq (by omega) (by omega)).mp z) (by omega)), c2, bd_some]
theorem ok_read : Ok (f_X10_read) (f_X11_read) := by
  intro μ h
  obtain ⟨hc, hi, ⟨L, hL, t1, t2, t3⟩, hll, ⟨r0, r1, r2, h50⟩, hq⟩ := id h
  have tt : ∀ j, j < L → ix (μ.1 46 j) ≤ 127 ∧ μ.1 46 j = nI (ix (μ.1 46 j)) ∧ μ.1 118 j = nI (ix (μ.1 46 j)) := fun j hj => by
    obtain ⟨c, c1, c2, c3⟩ := t3 j hj
    have e : ix (μ.1 46 j) = c := by rw [c2, ix_nI (by omega)]
    rw [e]
    exact ⟨c1, c2, c3⟩
  have tx : TX (fun j => ix (μ.1 46 j)) L μ.1 := ⟨hL, t1, fun j hj => ⟨(tt j hj).1, (tt j hj).2.1⟩⟩
  have ty : TY (fun j => ix (μ.1 46 j)) L μ.1 := ⟨hL, t2, fun j hj => ⟨(tt j hj).1, (tt j hj).2.2⟩⟩
  revert tx ty
  generalize (fun j => ix (μ.1 46 j)) = T
  intro tx ty
  obtain ⟨N, hN, hb, hg⟩ := ex_items T hL
  obtain ⟨px1, px2⟩ := parse_X tx hN hb hg
  by_cases hE : 0 < N ∧ tK T L (itm T L N) = 0
  · obtain ⟨ν1, e1, f1, sx, m2⟩ := px1 hE
    have hB0 : ¬ μ.1 113 0 < 0 := by
      obtain ⟨n, l, r, p, hcn⟩ := id hc
      have := hcn.n0
      rw [show μ.1 113 0 = nI n from this.1]
      exact nI_pos (by omega)
    have z50 : ¬ ν1.1 50 0 < 0 := by rw [f1.2 _ _ (by omega) (by omega) (by omega)]; exact h50
    rcases tell_all hN hg N 0 ν1 (fun j => μ.1 113 j) (by omega) sx m2 z50 hB0 (fun q => absurd q (by omega)) with ⟨μ', B', c1, c2, c3, c4⟩ | ⟨t, μ', c0, c1, c2, c3, c4⟩
    · obtain ⟨ν9, b1, b2, b3, b4⟩ := bc0 (k0 := 1) (k1 := 49) (μ := μ') (by omega)
      have m9 : ν9.1 45 2 = nI N := by rw [b3 _ _ (by omega), c2.2 _ _ (by omega)]; exact m2
      have E9 : ∀ b j, ¬ (1 ≤ b ∧ b ≤ 14) → ¬ (49 ≤ b ∧ b ≤ 62) → ¬ (b = 45 ∧ (j = 2 ∨ 5 ≤ j)) → b ≠ 47 → b ≠ 48 → ν9.1 b j = μ.1 b j := fun b j q1 q2 q3 q4 q5 => by
        rw [b3 _ _ (by omega), c2.2 _ _ q2, f1.2 _ _ q3 q4 q5]
      obtain ⟨ν2, g1, g2, g3, g4⟩ := (reads_Y (μ := ν9) (ty.as (E9 _ _ (by omega) (by omega) (by omega) (by omega) (by omega)) (fun j => E9 _ _ (by omega) (by omega) (by omega) (by omega) (by omega))) hN hg).1 hE
      obtain ⟨ν3, d1, d2, d3⟩ := c4 (setI (cpyI ν2 113 0 116 0 184) 112 5 1) ⟨fun j => by rw [si_ne (by omega), cp_ne (by omega), g2.2 _ _ (by omega) (by omega), E9 _ _ (by omega) (by omega) (by omega) (by omega) (by omega)], si_eq, fun i hi => by
        rw [si_ne (by omega), cp_ne (by omega)]
        refine ⟨(g3 i hi).1, fun k hk => ?_⟩
        rw [si_ne (by omega), cp_ne (by omega)]
        exact (g3 i hi).2 k hk, by rw [si_ne (by omega), cp_ne (by omega)]; exact g4⟩
      have rY := (read_Y1 (T := T) (L := L) hN g1 g4 d1 d2 (Nat.le_refl _)).1 rfl
      refine ok_ask (nI N) ν9 (setI ν3 112 5 0) ?_ rY ?_
      · unfold f_X10_read
        rw [e1, bd2_some, if_pos rfl]
        show bdr (lp (cu2 ftX) (nI 0, ν1)) _ _ = _
        rw [c1, bdr_l, b1, bd_some, m9]
      · have E3 : ∀ b j, b ≠ 113 → b ≠ 116 → b ≠ 119 → ¬ (b = 112 ∧ (j = 5 ∨ 10 ≤ j)) → (setI ν3 112 5 0).1 b j = ν9.1 b j := fun b j q1 q2 q3 q4 => by
          rw [si_ne (by omega), d2.2 _ _ q1, si_ne (by omega), cp_ne (by omega), g2.2 _ _ (by omega) q3]
        refine h.all (fun p j hp hp50 hp112 => ?_) ?_ si_eq ?_ ?_
        · have k9 := relo_all hp hp50
          rw [E3 _ _ (by omega) (by omega) (by omega) (by omega), E9 _ _ (by omega) (by omega) (by omega) (by omega) (by omega)]
        · rw [E3 _ _ (by omega) (by omega) (by omega) (by omega), b3 _ _ (by omega)]
          obtain ⟨n, l, r, p, hcn⟩ := c3 hE.1
          have := hcn.n0
          rw [show μ'.1 50 0 = nI n from this.2.1]
          exact nI_pos (by omega)
        · show ν3.2 = μ.2
          rw [d2.1, si_2]
          show ν2.2 = μ.2
          rw [g2.1, b2, c2.1, f1.1]
        · refine (c3 hE.1).copy (fun c j hd => ?_) (fun j hj => ?_)
          · have hd' := hd
            unfold dom at hd'
            rw [E3 _ _ (by omega) (by omega) (by omega) (by omega)]
            exact b4 c j hd
          · (try dsimp only)
            rw [si_ne (by omega)]
            exact d3 j
    · have E9 : ∀ b j, ¬ (49 ≤ b ∧ b ≤ 62) → ¬ (b = 45 ∧ (j = 2 ∨ 5 ≤ j)) → b ≠ 47 → b ≠ 48 → μ'.1 b j = μ.1 b j := fun b j q2 q3 q4 q5 => by
        rw [c2.2 _ _ q2, f1.2 _ _ q3 q4 q5]
      obtain ⟨ν2, g1, g2, g3, g4⟩ := (reads_Y (μ := μ') (ty.as (E9 _ _ (by omega) (by omega) (by omega) (by omega)) (fun j => E9 _ _ (by omega) (by omega) (by omega) (by omega))) hN hg).1 hE
      obtain ⟨ν3, d1, d2⟩ := c4 (setI (cpyI ν2 113 0 116 0 184) 112 5 1) ⟨fun j => by rw [si_ne (by omega), cp_ne (by omega), g2.2 _ _ (by omega) (by omega), E9 _ _ (by omega) (by omega) (by omega) (by omega)], si_eq, fun i hi => by
        rw [si_ne (by omega), cp_ne (by omega)]
        refine ⟨(g3 i hi).1, fun k hk => ?_⟩
        rw [si_ne (by omega), cp_ne (by omega)]
        exact (g3 i hi).2 k hk, by rw [si_ne (by omega), cp_ne (by omega)]; exact g4⟩
      have rY := (read_Y1 (T := T) (L := L) hN g1 g4 d1 d2 (by omega)).2 c0
      refine ok_ask (-1000 - nI t) μ' (cpyI (setI ν3 112 5 0) 116 0 113 0 184) ?_ rY ?_
      · unfold f_X10_read
        rw [e1, bd2_some, if_pos rfl]
        show bdr (lp (cu2 ftX) (nI 0, ν1)) _ _ = _
        rw [c1, bdr_r]
      · have E3 : ∀ b j, b ≠ 113 → b ≠ 116 → b ≠ 119 → ¬ (b = 112 ∧ (j = 5 ∨ 10 ≤ j)) → (cpyI (setI ν3 112 5 0) 116 0 113 0 184).1 b j = μ'.1 b j := fun b j q1 q2 q3 q4 => by
          rw [cp_ne (by omega), si_ne (by omega), d2.2 _ _ q1, si_ne (by omega), cp_ne (by omega), g2.2 _ _ (by omega) q3]
        refine h.all (fun p j hp hp50 hp112 => ?_) ?_ ?_ ?_ ?_
        · have k9 := relo_all hp hp50
          rw [E3 _ _ (by omega) (by omega) (by omega) (by omega), E9 _ _ (by omega) (by omega) (by omega) (by omega)]
        · rw [E3 _ _ (by omega) (by omega) (by omega) (by omega)]
          exact c3
        · rw [cp_ne (by omega)]
          exact si_eq
        · show ν3.2 = μ.2
          rw [d2.1, si_2]
          show ν2.2 = μ.2
          rw [g2.1, c2.1, f1.1]
        · refine hc.of (fun c q1 q2 j => ?_) (fun j hj => ?_)
          · rw [E3 _ _ (by omega) (by omega) (by omega) (by omega), E9 _ _ (by omega) (by omega) (by omega) (by omega)]
          · (try dsimp only)
            rw [cp_in (by omega), si_ne (by omega), d2.2 _ _ (by omega), si_ne (by omega), cp_in (by omega), g2.2 _ _ (by omega) (by omega), E9 _ _ (by omega) (by omega) (by omega) (by omega)]
            exact congrArg _ (by omega)
  · obtain ⟨d, hd, hbd, hgd⟩ : ∃ d, d < due (tV T L (itm T L N)) + 2 ∧ ¬ okd T L N (itm T L N) d ∧ ∀ d', d' < d → okd T L N (itm T L N) d' := by
      rcases first_bad (fun d => okd T L N (itm T L N) d) (due (tV T L (itm T L N)) + 2) with q | q
      · exact absurd q hb
      · exact q
    obtain ⟨ν1, e1, f1⟩ := px2 hE d hd hbd hgd
    obtain ⟨ν2, g1, g2, g3⟩ := (reads_Y (μ := ν1) (ty.as (f1.2 _ _ (by omega) (by omega) (by omega)) (fun j => f1.2 _ _ (by omega) (by omega) (by omega))) hN hg).2 hE d hd hbd hgd
    have sL := ts_le T L (itm T L N + d)
    refine ok_ask (-10 - nI (tS T L (itm T L N + d))) ν1 ν2 ?_ ?_ ?_
    · unfold f_X10_read
      rw [e1, bd2_some, if_neg (nI_nm1 (by omega))]
    · unfold f_X11_read
      rw [g1, bd2_some, if_pos rfl, g2]
    · have E3 : ∀ b j, ¬ (b = 112 ∧ 10 ≤ j) → b ≠ 119 → ¬ (b = 45 ∧ (j = 2 ∨ 5 ≤ j)) → b ≠ 47 → b ≠ 48 → ν2.1 b j = μ.1 b j := fun b j q1 q2 q3 q4 q5 => by
        rw [g3.2 _ _ q1 q2, f1.2 _ _ q3 q4 q5]
      refine h.all (fun p j hp hp50 hp112 => ?_) ?_ ?_ ?_ ?_
      · have k9 := relo_all hp hp50
        exact E3 _ _ (by omega) (by omega) (by omega) (by omega) (by omega)
      · rw [E3 _ _ (by omega) (by omega) (by omega) (by omega) (by omega)]
        exact h50
      · rw [E3 _ _ (by omega) (by omega) (by omega) (by omega) (by omega)]
        exact hq
      · rw [g3.1, f1.1]
      · exact hc.of (fun c q1 q2 j => E3 _ _ (by omega) (by omega) (by omega) (by omega) (by omega)) (fun j hj => E3 _ _ (by omega) (by omega) (by omega) (by omega) (by omega))

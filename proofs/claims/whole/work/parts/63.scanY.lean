/-! read: the reference's scanner -/
def TY (T : Nat → Nat) (L : Nat) (M : Nat → Nat → Int32) : Prop := L ≤ 150 ∧ M 112 9 = nI L ∧ ∀ j, j < L → T j ≤ 127 ∧ M 118 j = nI (T j)
def KY (μ ν : Mem) : Prop := ν.2 = μ.2 ∧ ∀ b j, ¬ (b = 112 ∧ 10 ≤ j ∧ j ≤ 13) → ν.1 b j = μ.1 b j
theorem KY.rfl {μ : Mem} : KY μ μ := ⟨Eq.refl _, fun _ _ _ => Eq.refl _⟩
theorem KY.trans {μ ν ξ : Mem} (h : KY μ ν) (h' : KY ν ξ) : KY μ ξ := ⟨h'.1.trans h.1, fun b j q => (h'.2 b j q).trans (h.2 b j q)⟩
theorem KY.set {μ ν : Mem} {j : Nat} {x : Int32} (h : KY μ ν) (hj : 10 ≤ j ∧ j ≤ 13) : KY μ (setI ν 112 j x) := ⟨h.1, fun b i q => by rw [si_ne (by omega)]; exact h.2 b i q⟩
theorem TY.of {T : Nat → Nat} {L : Nat} {μ ν : Mem} (h : TY T L μ.1) (k : KY μ ν) : TY T L ν.1 := by
  obtain ⟨h1, h2, h3⟩ := h
  exact ⟨h1, by rw [k.2 _ _ (by omega)]; exact h2, fun j hj => by rw [k.2 _ _ (by omega)]; exact h3 j hj⟩
theorem at_Y {T : Nat → Nat} {L i lo hi : Nat} {x y : Int32} {μ : Mem} (hx : x = nI lo) (hy : y = nI hi) (h : TY T L μ.1) (m : μ.1 112 10 = nI i) (hl : lo ≤ hi) (hh : hi < 1000) (hiL : i ≤ L) : ((i < L ∧ lo ≤ T i ∧ T i ≤ hi) → f_X11_isAt x y μ = some 1) ∧ (¬ (i < L ∧ lo ≤ T i ∧ T i ≤ hi) → f_X11_isAt x y μ = some 0) := by
  obtain ⟨hL, h1, h2⟩ := h
  subst hx
  subst hy
  unfold f_X11_isAt
  simp only [jn_eq, ckB_0, ckB_1]
  rw [m, h1]
  by_cases hi2 : i < L
  · obtain ⟨h3, h4⟩ := h2 i hi2
    rw [if_pos ((nI_ltI (by omega) (by omega)).mpr hi2), chk_nI (by omega) (by decide), ix_nI (by omega), h4]
    constructor
    · intro q
      rw [in32_ok (by omega) q.2.1 q.2.2 (by omega), bd_some, if_neg (by decide)]
    · intro q
      rw [in32_bad (by omega) (by omega) ?_, bd_some, if_pos rfl]
      rcases Nat.lt_or_ge (T i) lo with z | z
      · exact Or.inl ((nI_ltI (by omega) (by omega)).mpr z)
      · exact Or.inr ((nI_ltI (by omega) (by omega)).mpr (by omega))
  · rw [if_neg (fun z => hi2 ((nI_ltI (by omega) (by omega)).mp z))]
    exact ⟨fun q => absurd q.1 hi2, fun _ => rfl⟩
def vbR (v : Nat) : Int32 := if v = 117095065 then 0 else if v = 12788 then 1 else if v = 254271112 then 2 else if v = 3554980 then 3 else if v = 605220 then 4 else if v = 8029764 then 5 else -1
theorem lNlit {v n : Nat} (hv : v < 2 ^ 31) (hn : n < 2 ^ 31) : (lN v = (OfNat.ofNat n : Int64)) = (v = n) := propext (lN_eq hv hn)
theorem verb_Y {v : Nat} (hv : v < 2 ^ 31) : f_X11_verbOf (lN v) = some (vbR v) := by
  unfold f_X11_verbOf vbR
  simp only [jn_eq]
  have a0 : (lN v = (117095065 : Int64)) = (v = 117095065) := lNlit hv (by decide)
  have a1 : (lN v = (12788 : Int64)) = (v = 12788) := lNlit hv (by decide)
  have a2 : (lN v = (254271112 : Int64)) = (v = 254271112) := lNlit hv (by decide)
  have a3 : (lN v = (3554980 : Int64)) = (v = 3554980) := lNlit hv (by decide)
  have a4 : (lN v = (605220 : Int64)) = (v = 605220) := lNlit hv (by decide)
  have a5 : (lN v = (8029764 : Int64)) = (v = 8029764) := lNlit hv (by decide)
  by_cases h0 : v = 117095065
  · subst h0; rfl
  by_cases h1 : v = 12788
  · subst h1; rfl
  by_cases h2 : v = 254271112
  · subst h2; rfl
  by_cases h3 : v = 3554980
  · subst h3; rfl
  by_cases h4 : v = 605220
  · subst h4; rfl
  by_cases h5 : v = 8029764
  · subst h5; rfl
  rw [if_neg (by rw [a0]; exact h0), if_neg (by rw [a1]; exact h1), if_neg (by rw [a2]; exact h2), if_neg (by rw [a3]; exact h3), if_neg (by rw [a4]; exact h4), if_neg (by rw [a5]; exact h5), if_neg h0, if_neg h1, if_neg h2, if_neg h3, if_neg h4, if_neg h5, if_pos (by trivial)]
theorem vbR_cd : ∀ w, w < 6 → vbR (CD w) = nI w := by decide +kernel
theorem vbR_no {v : Nat} (h : ∀ w, w < 6 → v ≠ CD w) : vbR v = -1 := by
  unfold vbR
  rw [if_neg (by exact h 0 (by decide)), if_neg (by exact h 1 (by decide)), if_neg (by exact h 2 (by decide)), if_neg (by exact h 3 (by decide)), if_neg (by exact h 4 (by decide)), if_neg (by exact h 5 (by decide))]
def tYn (k v : Nat) : Nat := if k = 0 then 0 else if k = 1 then 4 + v else if k = 2 then 2 else if k = 3 then 3 else 1
theorem pow32 {n : Nat} (h : n ≤ 6) : 32 ^ n < 2 ^ 31 := Nat.lt_of_le_of_lt (Nat.pow_le_pow_right (by decide) h) (by decide)
theorem scan_Y {T : Nat → Nat} {L p s e k v : Nat} {μ : Mem} (h : TY T L μ.1) (m : μ.1 112 10 = nI p) (ht : Tok T L p s e k v) : ∃ ν, f_X11_scans μ = some ν ∧ KY μ ν ∧ ν.1 112 11 = nI s ∧ ν.1 112 10 = nI e ∧ ν.1 112 12 = nI (tYn k v) ∧ (k = 2 → ν.1 112 13 = nI v) := by
  have hL := h.1
  obtain ⟨⟨r1, r2, r3, r4⟩, ht⟩ := ht
  unfold f_X11_scans
  obtain ⟨ν2, e1, k2, a0⟩ := lp_run (F := fun (ν1 : Mem) =>
    bd (f_X11_isAt 32 32 ν1) fun r4 =>
    if r4 = 0 then
      some (.inr ν1)
    else
      lt (setI ν1 112 10 ((ν1.1 112 10) + 1)) fun ν5 =>
      some (.inl ν5)) (fun j ν => KY μ ν ∧ ν.1 112 10 = nI j) (fun ν => KY μ ν ∧ ν.1 112 10 = nI s) (p := p) (e := s) r1 (fun j ν j1 j2 hI => by
      obtain ⟨k1, k0⟩ := hI
      have t := h.of k1
      have z : T j = 32 := r3 j j1 j2
      refine ⟨setI ν 112 10 (nI (j + 1)), ?_, k1.set (by omega), si_eq⟩
      rw [(at_Y (x := 32) (y := 32) (lo := 32) (hi := 32) rfl rfl t k0 (by omega) (by omega) (by omega)).1 (by omega), bd_some, if_neg (by decide), lt_eq, k0, nI_succ]) (fun ν hI => by
      obtain ⟨k1, k0⟩ := hI
      have t := h.of k1
      refine ⟨ν, ?_, k1, k0⟩
      rw [(at_Y (x := 32) (y := 32) (lo := 32) (hi := 32) rfl rfl t k0 (by omega) (by omega) r2).2 (fun q => r4 q.1 (by omega)), bd_some, if_pos rfl]) (s := μ) ⟨KY.rfl, m⟩
  rw [e1, bd_some, lt_eq, a0]
  have k6 : KY μ (setI ν2 112 11 (nI s)) := k2.set (by omega)
  have t6 := h.of k6
  have b0 : (setI ν2 112 11 (nI s)).1 112 10 = nI s := by rw [si_ne (by omega)]; exact a0
  have b1 : (setI ν2 112 11 (nI s)).1 112 11 = nI s := si_eq
  rw [b0, t6.2.1]
  rcases ht with ⟨rfl, rfl, rfl, rfl⟩ | ⟨h1, h2, h3, h4⟩ | ⟨h1, h2, h3, h4⟩ | ⟨h1, h2, h3, rfl, rfl, h4⟩
  · rw [if_pos rfl, lt_eq]
    exact ⟨_, rfl, k6.set (by omega), by rw [si_ne (by omega)]; exact b1, by rw [si_ne (by omega)]; exact b0, si_eq, fun q => absurd q (by omega)⟩
  · have hse := h3.pos h1 h2
    obtain ⟨q1, q2, q3, q4⟩ := h3
    rw [if_neg (fun z => absurd ((nI_eq (by omega) (by omega)).mp z) (by omega)), (at_Y (x := 97) (y := 122) (lo := 97) (hi := 122) rfl rfl t6 b0 (by omega) (by omega) (by omega)).1 ⟨h1, h2⟩, bd_some, if_neg (by decide)]
    obtain ⟨x9, e2, x1, k9, c0, c1⟩ := lp_run (F := cu2 fun (x1_26 : Int64) (ν27 : Mem) =>
          bd (f_X11_isAt 97 122 ν27) fun r31 =>
          if r31 = 0 then
            some (.inr (x1_26, ν27))
          else
            jn (fun (y32 : Int64) =>
              lt (setI ν27 112 10 ((ν27.1 112 10) + 1)) fun ν34 =>
              some (.inl (y32, ν34))
              ) fun j33 =>
            if 5 < ((ν27.1 112 10) - (ν27.1 112 11)) then
              j33 0
            else
              chk (ν27.1 112 10) 150 (
                j33 ((((32 * x1_26) + ((ν27.1 118 (ix (ν27.1 112 10))) : Int32).toInt64) - 97) + 1)
                )) (fun j x => x.1 = lN (if j - s ≤ 6 then vl T s (j - s) else 0) ∧ KY μ x.2 ∧ x.2.1 112 10 = nI j ∧ x.2.1 112 11 = nI s) (fun x => x.1 = lN (if e - s ≤ 6 then vl T s (e - s) else 0) ∧ KY μ x.2 ∧ x.2.1 112 10 = nI e ∧ x.2.1 112 11 = nI s) (p := s) (e := e) q1 (fun j x j1 j2 hI => by
        obtain ⟨x, ν⟩ := x
        obtain ⟨k0, k1, k5, k6⟩ := hI
        dsimp only at k0 k1 k5 k6
        have t := h.of k1
        obtain ⟨t3, t4⟩ := t.2.2 j (by omega)
        have lj : lett (T j) := q3 j j1 j2
        have l1 := lj.1
        rw [cu2_eq, (at_Y (x := 97) (y := 122) (lo := 97) (hi := 122) rfl rfl t k5 (by omega) (by omega) (by omega)).1 ⟨by omega, lj⟩, bd_some, if_neg (by decide), jn_eq, k5, k6, ni_sub j1]
        by_cases z : 5 < j - s
        · rw [if_pos (by exact (nI_ltI (a := 5) (by decide) (by omega)).mpr z)]
          refine ⟨(0, setI ν 112 10 (nI j + 1)), rfl, ?_, k1.set (by omega), ?_, ?_⟩
          · rw [if_neg (by omega)]; rfl
          · dsimp only; rw [si_eq, nI_succ]
          · dsimp only; rw [si_ne (by omega)]; exact k6
        · rw [if_neg (by exact fun y => z ((nI_ltI (a := 5) (by decide) (by omega)).mp y)), chk_nI (by omega) (by decide), ix_nI (by omega), t4, nI_l (by omega), k0, if_pos (by omega), show (32 : Int64) = lN 32 from rfl, lN_mul, lN_add, show (97 : Int64) = lN 97 from rfl, lN_sub (by omega), lN_1]
          refine ⟨(lN (32 * vl T s (j - s) + T j - 97 + 1), setI ν 112 10 (nI j + 1)), rfl, ?_, k1.set (by omega), ?_, ?_⟩
          · dsimp only
            rw [if_pos (by omega), show j + 1 - s = (j - s) + 1 by omega, vl_s, show s + (j - s) = j by omega]
            exact congrArg lN (by omega)
          · dsimp only; rw [si_eq, nI_succ]
          · dsimp only; rw [si_ne (by omega)]; exact k6) (fun x hI => by
        obtain ⟨x, ν⟩ := x
        obtain ⟨k0, k1, k5, k6⟩ := hI
        dsimp only at k0 k1 k5 k6
        have t := h.of k1
        refine ⟨(x, ν), ?_, k0, k1, k5, k6⟩
        rw [cu2_eq, (at_Y (x := 97) (y := 122) (lo := 97) (hi := 122) rfl rfl t k5 (by omega) (by omega) q2).2 (fun q => q4 q.1 q.2), bd_some, if_pos rfl]) (s := ((0 : Int64), setI ν2 112 11 (nI s))) ⟨by dsimp only; rw [if_pos (by omega), Nat.sub_self]; rfl, k6, b0, b1⟩
    obtain ⟨x9, ν9⟩ := x9
    dsimp only at x1 k9 c0 c1
    have lt9 : ∀ j, j < e - s → lett (T (s + j)) := fun j hj => q3 (s + j) (by omega) (by omega)
    rw [e2, bd_some, cu2_eq, jn_eq, jn_eq, c0, c1, ni_sub q1]
    by_cases z : 6 < e - s
    · rw [if_pos (by exact (nI_ltI (a := 6) (by decide) (by omega)).mpr z)]
      rcases h4 with ⟨rfl, h7, h8⟩ | ⟨rfl, rfl, h7⟩
      · have := h8.1
        have := ln_w v h7
        omega
      · exact ⟨_, rfl, k9.set (by omega), by rw [si_ne (by omega)]; exact c1, by rw [si_ne (by omega)]; exact c0, si_eq, fun q => absurd q (by omega)⟩
    · have v31 : vl T s (e - s) < 2 ^ 31 := Nat.lt_trans (vl_lt _ lt9) (pow32 (by omega))
      rw [if_neg (by exact fun y => z ((nI_ltI (a := 6) (by decide) (by omega)).mp y)), x1, if_pos (by omega), verb_Y v31, bd_some, bd_some]
      rcases h4 with ⟨rfl, h7, h8⟩ | ⟨rfl, rfl, h7⟩
      · rw [(WI_iff h7 lt9).mp h8, vbR_cd v h7, if_neg (nI_m1 v (by omega)), show (4 : Int32) = nI 4 from rfl, ni_add]
        exact ⟨_, rfl, k9.set (by omega), by rw [si_ne (by omega)]; exact c1, by rw [si_ne (by omega)]; exact c0, si_eq, fun q => absurd q (by omega)⟩
      · rw [vbR_no (fun w hw q => h7 w hw ((WI_iff hw lt9).mpr q)), if_pos rfl]
        exact ⟨_, rfl, k9.set (by omega), by rw [si_ne (by omega)]; exact c1, by rw [si_ne (by omega)]; exact c0, si_eq, fun q => absurd q (by omega)⟩
  · have nl : ¬ lett (T s) := fun q => by
      have := h2.2
      have := q.1
      omega
    have hse := h3.pos h1 h2
    obtain ⟨q1, q2, q3, q4⟩ := h3
    rw [if_neg (fun z => absurd ((nI_eq (by omega) (by omega)).mp z) (by omega)), (at_Y (x := 97) (y := 122) (lo := 97) (hi := 122) rfl rfl t6 b0 (by omega) (by omega) (by omega)).2 (fun q => nl q.2), bd_some, if_pos rfl, (at_Y (x := 48) (y := 57) (lo := 48) (hi := 57) rfl rfl t6 b0 (by omega) (by omega) (by omega)).1 ⟨h1, h2⟩, bd_some, if_neg (by decide), lt_eq]
    obtain ⟨ν9, e2, k9, c0, c1, c7, c8⟩ := lp_run (F := fun (ν15 : Mem) =>
            bd (f_X11_isAt 48 57 ν15) fun r18 =>
            if r18 = 0 then
              some (.inr ν15)
            else
              jn (fun (y19 : Int32) =>
                lt (setI ν15 112 13 y19) fun ν21 =>
                lt (setI ν21 112 10 ((ν21.1 112 10) + 1)) fun ν22 =>
                some (.inl ν22)
                ) fun j20 =>
              if ((ν15.1 112 10) - (ν15.1 112 11)) < 2 then
                chk (ν15.1 112 10) 150 (
                  j20 (((10 * (ν15.1 112 13)) + (ν15.1 118 (ix (ν15.1 112 10)))) - 48)
                  )
              else
                j20 (ν15.1 112 13)) (fun j ν => KY μ ν ∧ ν.1 112 10 = nI j ∧ ν.1 112 11 = nI s ∧ (j = s → ν.1 112 13 = nI 0) ∧ (s < j → ν.1 112 13 = nI (nv T s (if j - s ≤ 2 then j else s + 2)))) (fun ν => KY μ ν ∧ ν.1 112 10 = nI e ∧ ν.1 112 11 = nI s ∧ (e = s → ν.1 112 13 = nI 0) ∧ (s < e → ν.1 112 13 = nI (nv T s (if e - s ≤ 2 then e else s + 2)))) (p := s) (e := e) q1 (fun j ν j1 j2 hI => by
        obtain ⟨k1, k5, k6, k7, k8⟩ := hI
        have t := h.of k1
        obtain ⟨t3, t4⟩ := t.2.2 j (by omega)
        have fj : figu (T j) := q3 j j1 j2
        have f2 := fj.1
        rw [(at_Y (x := 48) (y := 57) (lo := 48) (hi := 57) rfl rfl t k5 (by omega) (by omega) (by omega)).1 ⟨by omega, fj⟩, bd_some, if_neg (by decide), jn_eq, k5, k6, ni_sub j1]
        by_cases z : j - s < 2
        · rw [if_pos (by exact (nI_ltI (b := 2) (by omega) (by decide)).mpr z), chk_nI (by omega) (by decide), ix_nI (by omega), t4]
          refine ⟨_, rfl, (k1.set (by omega)).set (by omega), ?_, ?_, fun q => absurd q (by omega), fun _ => ?_⟩
          · rw [si_eq, si_ne (by omega), k5, nI_succ]
          · rw [si_ne (by omega), si_ne (by omega)]; exact k6
          · rw [si_ne (by omega), si_eq, if_pos (by omega), show (10 : Int32) = nI 10 from rfl, show (48 : Int32) = nI 48 from rfl]
            unfold nv
            by_cases y : j = s
            · subst y
              rw [k7 rfl, ni_mul, ni_add, ni_sub (by omega), if_pos (by omega)]
              exact congrArg nI (by omega)
            · have e9 : j = s + 1 := by omega
              subst e9
              rw [k8 (by omega), if_pos (by omega), if_neg (by omega)]
              unfold nv
              rw [if_pos (by omega), ni_mul, ni_add, ni_sub (by omega)]
              exact congrArg nI (by omega)
        · rw [if_neg (by exact fun y => z ((nI_ltI (b := 2) (by omega) (by decide)).mp y))]
          refine ⟨_, rfl, (k1.set (by omega)).set (by omega), ?_, ?_, fun q => absurd q (by omega), fun _ => ?_⟩
          · rw [si_eq, si_ne (by omega), k5, nI_succ]
          · rw [si_ne (by omega), si_ne (by omega)]; exact k6
          · rw [si_ne (by omega), si_eq, k8 (by omega), if_neg (c := j + 1 - s ≤ 2) (by omega)]
            by_cases y : j - s ≤ 2
            · rw [if_pos y, show j = s + 2 by omega]
            · rw [if_neg y]) (fun ν hI => by
        obtain ⟨k1, k5, k6, k7, k8⟩ := hI
        have t := h.of k1
        refine ⟨ν, ?_, k1, k5, k6, k7, k8⟩
        rw [(at_Y (x := 48) (y := 57) (lo := 48) (hi := 57) rfl rfl t k5 (by omega) (by omega) q2).2 (fun q => q4 q.1 q.2), bd_some, if_pos rfl]) (s := setI (setI ν2 112 11 (nI s)) 112 13 0) ⟨k6.set (by omega), by rw [si_ne (by omega)]; exact b0, by rw [si_ne (by omega)]; exact b1, fun _ => si_eq, fun q => absurd q (by omega)⟩
    rw [e2, bd_some, jn_eq, c0, c1, ni_sub q1]
    rcases h4 with ⟨rfl, h7, rfl⟩ | ⟨rfl, rfl, h7⟩
    · rw [if_neg (by exact fun y => absurd ((nI_ltI (a := 2) (by decide) (by omega)).mp y) (by omega))]
      refine ⟨_, rfl, k9.set (by omega), by rw [si_ne (by omega)]; exact c1, by rw [si_ne (by omega)]; exact c0, si_eq, fun _ => ?_⟩
      rw [si_ne (by omega), c8 hse, if_pos h7]
    · rw [if_pos (by exact (nI_ltI (a := 2) (by decide) (by omega)).mpr h7)]
      exact ⟨_, rfl, k9.set (by omega), by rw [si_ne (by omega)]; exact c1, by rw [si_ne (by omega)]; exact c0, si_eq, fun q => absurd q (by omega)⟩
  · rw [if_neg (fun z => absurd ((nI_eq (by omega) (by omega)).mp z) (by omega)), (at_Y (x := 97) (y := 122) (lo := 97) (hi := 122) rfl rfl t6 b0 (by omega) (by omega) (by omega)).2 (fun q => h2 q.2), bd_some, if_pos rfl, (at_Y (x := 48) (y := 57) (lo := 48) (hi := 57) rfl rfl t6 b0 (by omega) (by omega) (by omega)).2 (fun q => h3 q.2), bd_some, if_pos rfl]
    rcases h4 with ⟨rfl, h7⟩ | ⟨rfl, h7⟩
    · rw [(at_Y (x := 59) (y := 59) (lo := 59) (hi := 59) rfl rfl t6 b0 (by omega) (by omega) (by omega)).1 (by omega), bd_some, jn_eq, if_neg (by decide)]
      exact ⟨_, rfl, (k6.set (by omega)).set (by omega), by rw [si_ne (by omega), si_ne (by omega)]; exact b1, by rw [si_eq, si_ne (by omega), b0, nI_succ], by rw [si_ne (by omega)]; exact si_eq, fun q => absurd q (by omega)⟩
    · rw [(at_Y (x := 59) (y := 59) (lo := 59) (hi := 59) rfl rfl t6 b0 (by omega) (by omega) (by omega)).2 (by omega), bd_some, jn_eq, if_pos rfl]
      exact ⟨_, rfl, (k6.set (by omega)).set (by omega), by rw [si_ne (by omega), si_ne (by omega)]; exact b1, by rw [si_eq, si_ne (by omega), b0, nI_succ], by rw [si_ne (by omega)]; exact si_eq, fun q => absurd q (by omega)⟩

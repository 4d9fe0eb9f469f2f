/-! fit: rows from a moon on -/
theorem sN_le {f : Nat → Nat} {a : Nat} : ∀ b, sN f a ≤ sN f (a + b)
  | 0 => Nat.le_refl _
  | b + 1 => Nat.le_trans (sN_le b) (Nat.le_add_right _ _)
theorem sN_0 {f : Nat → Nat} : ∀ {G : Nat}, sN f G = 0 → ∀ g, g < G → f g = 0
  | 0, _, g, hg => absurd hg (by omega)
  | G + 1, h, g, hg => by
    have h' : sN f G + f G = 0 := h
    by_cases e : g = G
    · rw [e]; omega
    · exact sN_0 (G := G) (by omega) g (by omega)
section FMIN
variable {K W : Nat → Int32} {m : Int32} {l n gg : Nat} {td : Nat → Int32} {r k : Nat} {H : Nat → Int32} {lc : Nat → Nat} {G x : Nat}
theorem fmin_skip (h : fmin K W m l n gg td r k H lc G x) (hno : ¬ (0 < cN (fun c => fgi K W m l n H k c = G) (2 ^ n) ∧ 0 < bhd K W m l n gg td r k H (nI G - 1))) : fmin K W m l n gg td r k H lc (G + 1) x := by
  obtain ⟨⟨g, y, g1, g2⟩, h2⟩ := h
  refine ⟨⟨g, y, by omega, g2⟩, fun g' y' a1 a2 a3 a4 => ?_⟩
  by_cases e : g' = G
  · subst e; exact absurd ⟨a2, a3⟩ hno
  · exact h2 g' y' (by omega) a2 a3 a4
theorem fmin_new {y : Nat} (h0 : ∀ g, g < G → ¬ (0 < cN (fun c => fgi K W m l n H k c = g) (2 ^ n) ∧ 0 < bhd K W m l n gg td r k H (nI g - 1))) (a2 : 0 < cN (fun c => fgi K W m l n H k c = G) (2 ^ n)) (a3 : 0 < bhd K W m l n gg td r k H (nI G - 1)) (a4 : LstP (fitP K W m l n gg td r (k + 1) (fNx K W gg H (nI G - 1))) (32 ^ r) y) : fmin K W m l n gg td r k H lc (G + 1) (lc G * 32 ^ r + y) := by
  refine ⟨⟨G, y, by omega, a2, a3, a4, rfl⟩, fun g' y' b1 b2 b3 b4 => ?_⟩
  by_cases e : g' = G
  · subst e
    rw [a4.one b4]
    exact Nat.le_refl _
  · exact absurd ⟨b2, b3⟩ (h0 g' (by omega))
theorem fmin_min {y : Nat} (h : fmin K W m l n gg td r k H lc G x) (a2 : 0 < cN (fun c => fgi K W m l n H k c = G) (2 ^ n)) (a3 : 0 < bhd K W m l n gg td r k H (nI G - 1)) (a4 : LstP (fitP K W m l n gg td r (k + 1) (fNx K W gg H (nI G - 1))) (32 ^ r) y) : fmin K W m l n gg td r k H lc (G + 1) (if lc G * 32 ^ r + y < x then lc G * 32 ^ r + y else x) := by
  obtain ⟨⟨g, y0, g1, g2⟩, h2⟩ := h
  by_cases q : lc G * 32 ^ r + y < x
  · rw [if_pos q]
    refine ⟨⟨G, y, by omega, a2, a3, a4, rfl⟩, fun g' y' b1 b2 b3 b4 => ?_⟩
    by_cases e : g' = G
    · subst e
      rw [a4.one b4]
      exact Nat.le_refl _
    · have := h2 g' y' (by omega) b2 b3 b4
      omega
  · rw [if_neg q]
    refine ⟨⟨g, y0, by omega, g2⟩, fun g' y' b1 b2 b3 b4 => ?_⟩
    by_cases e : g' = G
    · subst e
      rw [← a4.one b4]
      omega
    · exact h2 g' y' (by omega) b2 b3 b4
theorem fmin_lt (hn : n ≤ 5) (hlc : ∀ g, 0 < cN (fun c => fgi K W m l n H k c = g) (2 ^ n) → lc g < 2 ^ n) (h : fmin K W m l n gg td r k H lc G x) : x < 32 * 32 ^ r := by
  have hp := pow5 hn
  obtain ⟨⟨g, y, g1, g2, g3, g4, rfl⟩, _⟩ := h
  have a : (lc g + 1) * 32 ^ r ≤ 32 * 32 ^ r := Nat.mul_le_mul_right _ (by have := hlc g g2; omega)
  rw [Nat.succ_mul] at a
  have := g4.1
  omega
end FMIN
def frF (k b j : Nat) : Prop := b < 83 + 5 * k + 4 ∨ (104 ≤ b ∧ b < 104 + k) ∨ (108 ≤ b ∧ b < 108 + k) ∨ (b = 111 ∧ j < k) ∨ 112 ≤ b
theorem shlN {a r : Nat} (hr : r < 3) (h : a < 32) : nI a <<< (nI (5 * r) &&& 31) = nI (a * 32 ^ r) := by
  have := p32 r (by omega)
  have hp : 32 ^ r ≤ 32 ^ 2 := Nat.pow_le_pow_right (by decide) (by omega)
  have hm : a * 32 ^ r ≤ 32 * 32 ^ 2 := Nat.mul_le_mul (by omega) hp
  rw [pk_shlN _ (5 * r) (s_l (5 * r) (by omega)) (by rw [this]; omega), this]
section ROWS
variable {K W : Nat → Int32} {m : Int32} {l n gg : Nat} {td : Nat → Int32}
theorem rows_X (hg : gg ≤ 9) {M : Nat} (hM : M ≤ 3) : ∀ (r k fu : Nat) (H : Nat → Int32) (ν : Mem), r + k = M → r + 1 ≤ fu → HW n l K W H → HX (83 + 5 * k) ν.1 n l K W H (m + nI k) → ν.1 (83 + 5 * k) 3 = nI gg → (∀ j, j < 3 → ν.1 14 j = td j) → ∃ ν', f_X1_rowsFrom fu (nI k) (nI M) 14 ν = some (nI (cN (fitP K W m l n gg td r k H) (32 ^ r)), ν') ∧ ν'.2 = ν.2 ∧ (∀ b j, frF k b j → ν'.1 b j = ν.1 b j) ∧ (0 < cN (fitP K W m l n gg td r k H) (32 ^ r) → ∃ x, ν'.1 111 k = nI x ∧ LstP (fitP K W m l n gg td r k H) (32 ^ r) x) := by
  intro r
  induction r with
  | zero =>
    intro k fu H ν hrk hfu hw hx e3 ht
    obtain ⟨fu', rfl⟩ : ∃ f, fu = f + 1 := ⟨fu - 1, by omega⟩
    have e1 : cN (fitP K W m l n gg td 0 k H) (32 ^ 0) = 1 := cN_t (P := fitP K W m l n gg td 0 k H) (i := 0) trivial
    rw [e1]
    refine ⟨setI ν 111 k 0, ?_, rfl, fun b j h => ?_, fun _ => ⟨0, si_eq, by decide, trivial, fun j hj => absurd hj (by omega)⟩⟩
    · unfold f_X1_rowsFrom
      rw [chk_nI (by omega) (by decide), lt_eq, jn_eq, ix_nI (by omega), if_neg (fun q => absurd ((nI_ltI (by omega) (by omega)).mp q) (by omega))]
      rfl
    · unfold frF at h
      exact si_ne (by omega)
  | succ r ih =>
    intro k fu H ν hrk hfu hw hx e3 ht
    obtain ⟨fu', rfl⟩ : ∃ f, fu = f + 1 := ⟨fu - 1, by omega⟩
    have hn := hw.1.2.1
    have hl := hw.1.2.2
    have hp := pow5 hn
    have hk : k < 3 := by omega
    have hr3 : r < 3 := by omega
    have h32 : 32 ^ r ≤ 1024 := by
      have : 32 ^ r ≤ 32 ^ 2 := Nat.pow_le_pow_right (by decide) (by omega)
      omega
    obtain ⟨ν3, a1, a2, a3, a4, a5⟩ := sort_X (m := m) (μ := setI ν 111 k 0) hk (hx.of (fun j => si_ne (by omega)) (fun b j _ _ => si_ne (by omega))) hw
    have hcn : ∀ g, cN (fun c => fgi K W m l n H k c = g) (2 ^ n) ≤ 32 := fun g => by have := cN_le (fun c => fgi K W m l n H k c = g) (2 ^ n); omega
    -- the least clouds of each group
    have LC : ∃ lc : Nat → Nat, (∀ g, 0 < cN (fun c => fgi K W m l n H k c = g) (2 ^ n) → LstP (fun c => fgi K W m l n H k c = g) (2 ^ n) (lc g)) ∧ ∀ g, g < 6 → 0 < cN (fun c => fgi K W m l n H k c = g) (2 ^ n) → ν3.1 (108 + k) g = nI (lc g) := by
      refine ⟨fun g => ix (ν3.1 (108 + k) g), fun g h => ?_, fun g hg h => ?_⟩
      · have hg : g < 6 := by
          obtain ⟨x, _, p⟩ := cN_ex h
          have := (fgi_in (K := K) (W := W) (m := m) (l := l) hn H k x).1
          omega
        obtain ⟨x, x1, x2⟩ := a5 g hg h
        (try dsimp only)
        rw [x1, ix_nI (by have := x2.1; omega)]
        exact x2
      · obtain ⟨x, x1, x2⟩ := a5 g hg h
        (try dsimp only)
        rw [x1, ix_nI (by have := x2.1; omega)]
    obtain ⟨lc, hlc, hlc2⟩ := LC
    have fr3 : ∀ b j, frF k b j → ν3.1 b j = ν.1 b j := fun b j h => by
      unfold frF at h
      rw [a3 b j (by omega) (by omega) (by omega), si_ne (by omega)]
    have cle := cN_le (fitP K W m l n gg td (r + 1) k H) (32 ^ (r + 1))
    have h33 : 32 ^ (r + 1) ≤ 32768 := by rw [Nat.pow_succ]; omega
    rw [cnt_g hn] at cle
    have cG : ∀ G, G ≤ 6 → sN (fun g => cN (fun c => fgi K W m l n H k c = g) (2 ^ n) * bhd K W m l n gg td r k H (nI g - 1)) G ≤ 32768 := fun G hG => by
      have := sN_le (f := fun g => cN (fun c => fgi K W m l n H k c = g) (2 ^ n) * bhd K W m l n gg td r k H (nI g - 1)) (a := G) (6 - G)
      rw [show G + (6 - G) = 6 by omega] at this
      omega
    unfold f_X1_rowsFrom
    rw [chk_nI (by omega) (by decide), lt_eq, jn_eq, ix_nI (i := k) (by omega), if_pos ((nI_ltI (by omega) (by omega)).mpr (by omega)), if_pos (by exact (nI_ltI (b := 3) (by omega) (by decide)).mpr hk), a1, bd_some]
    simp only [chk_nI (show k < 4 by omega) (show 4 < 2 ^ 31 by decide), chk_nI hk (show 3 < 2 ^ 31 by decide), lt_eq, ← nI_succ, chk_nI (show k + 1 < 4 by omega) (show 4 < 2 ^ 31 by decide), ix_nI (show k + 1 < 2 ^ 31 by omega)]
    rw [show 82 + 1 + 5 * k = 83 + 5 * k by omega, show 82 + 1 + 5 * (k + 1) = 83 + 5 * (k + 1) by omega, show 103 + 1 + 1 * k = 104 + k by omega, show 107 + 1 + 1 * k = 108 + k by omega]
    have e5r : 5 * ((nI M - 1) - nI k) = nI (5 * r) := by
      rw [show (1 : Int32) = nI 1 from rfl, ni_sub (by omega), ni_sub (by omega), show (5 : Int32) = nI 5 from rfl, ni_mul]
      exact congrArg nI (by omega)
    rw [e5r]
    have L := lp_inv (F := cu3 fun (x4_4 : Int32) (x5_5 : Int32) (ν6 : Mem) =>
            if x5_5 < 6 then
                chk x5_5 6 (
                  jn (fun (x4_11 : Int32) (ν12 : Mem) =>
                    some (.inl (x4_11, (x5_5 + 1), ν12))
                    ) fun j13 =>
                  if 0 < (ν6.1 (104 + k) (ix x5_5)) then
                        bd (f_X3_become (83 + 5 * (k + 1)) (83 + 5 * k) ν6) fun ν16 =>
                            chk x5_5 6 (
                              bd2 (f_X3_fullMoon (83 + 5 * (k + 1)) (ν16.1 (108 + k) (ix x5_5)) 0 ν16) fun r19 ν20 =>
                                jn (fun (y21 : Int32) (ν22 : Mem) =>
                                  if 0 < y21 then
                                      chk x5_5 6 (
                                          jn (fun (y26 : Int32) =>
                                                chk x5_5 6 (
                                                  j13 (x4_4 + (((setI ν22 111 k y26).1 (104 + k) (ix x5_5)) * y21)) (setI ν22 111 k y26)
                                                  )
                                            ) fun j27 =>
                                          if x4_4 = 0 then
                                            j27 (((ν22.1 (108 + k) (ix x5_5)) <<< (nI (5 * r) &&& 31)) + (ν22.1 111 (k + 1)))
                                          else
                                              j27 (if (((ν22.1 (108 + k) (ix x5_5)) <<< (nI (5 * r) &&& 31)) + (ν22.1 111 (k + 1))) < (ν22.1 111 k) then (((ν22.1 (108 + k) (ix x5_5)) <<< (nI (5 * r) &&& 31)) + (ν22.1 111 (k + 1))) else (ν22.1 111 k))
                                        )
                                  else
                                    j13 x4_4 ν22
                                  ) fun j23 =>
                                if r19 = (ν20.1 14 k) then
                                  bd2 (f_X1_rowsFrom fu' (nI (k + 1)) (nI M) 14 ν20) fun r31 ν32 =>
                                  j23 r31 ν32
                                else
                                  j23 0 ν20
                              )
                  else
                    j13 x4_4 ν6
                  )
            else
              some (.inr (x4_4, ν6))) (fun G s => s.1 = nI (sN (fun g => cN (fun c => fgi K W m l n H k c = g) (2 ^ n) * bhd K W m l n gg td r k H (nI g - 1)) G) ∧ s.2.1 = nI G ∧ s.2.2.2 = ν.2 ∧ (∀ b j, frF k b j → s.2.2.1 b j = ν.1 b j) ∧ (∀ j, s.2.2.1 (104 + k) j = ν3.1 (104 + k) j ∧ s.2.2.1 (108 + k) j = ν3.1 (108 + k) j) ∧ (0 < sN (fun g => cN (fun c => fgi K W m l n H k c = g) (2 ^ n) * bhd K W m l n gg td r k H (nI g - 1)) G → ∃ x, s.2.2.1 111 k = nI x ∧ fmin K W m l n gg td r k H lc G x)) (fun e : Int32 × Mem => e.1 = nI (sN (fun g => cN (fun c => fgi K W m l n H k c = g) (2 ^ n) * bhd K W m l n gg td r k H (nI g - 1)) 6) ∧ e.2.2 = ν.2 ∧ (∀ b j, frF k b j → e.2.1 b j = ν.1 b j) ∧ (0 < sN (fun g => cN (fun c => fgi K W m l n H k c = g) (2 ^ n) * bhd K W m l n gg td r k H (nI g - 1)) 6 → ∃ x, e.2.1 111 k = nI x ∧ fmin K W m l n gg td r k H lc 6 x)) 6 (fun G s hG hI => ?_) (fun s hI => ?_) (s := (0, 0, ν3)) ⟨rfl, rfl, a2, fr3, fun j => ⟨rfl, rfl⟩, fun h => absurd h (by show ¬ 0 < 0; omega)⟩
    · obtain ⟨⟨e, ν'⟩, he, j1, j2, j3, j4⟩ := L
      dsimp only at j1 j2 j3 j4
      rw [cnt_g hn]
      refine ⟨ν', ?_, j2, j3, fun h => ?_⟩
      · rw [he, bd_some, cu2_eq, j1]
      · obtain ⟨x, x1, x2⟩ := j4 h
        exact ⟨x, x1, fmin_lst hn hlc x2⟩
    · obtain ⟨a, b, ν6⟩ := s
      obtain ⟨rfl, rfl, i1, i2, i3, i4⟩ := hI
      dsimp only at i1 i2 i3 i4
      rw [cu3_eq, if_pos (by exact (nI_ltI (b := 6) (by omega) (by decide)).mpr hG), chk_nI hG (by decide), ix_nI (i := G) (by omega), (i3 G).1, a4 G hG]
      simp only [jn_eq, ← nI_succ]
      have hs : sN (fun g => cN (fun c => fgi K W m l n H k c = g) (2 ^ n) * bhd K W m l n gg td r k H (nI g - 1)) (G + 1) = sN (fun g => cN (fun c => fgi K W m l n H k c = g) (2 ^ n) * bhd K W m l n gg td r k H (nI g - 1)) G + cN (fun c => fgi K W m l n H k c = G) (2 ^ n) * bhd K W m l n gg td r k H (nI G - 1) := rfl
      left
      by_cases q0 : 0 < cN (fun c => fgi K W m l n H k c = G) (2 ^ n)
      · rw [if_pos (by exact (nI_ltI (a := 0) (by decide) (by have := hcn G; omega)).mpr q0)]
        have hL := hlc G q0
        have hxk : HX (83 + 5 * k) ν6.1 n l K W H (m + nI k) := hx.of (fun j => i2 _ _ (Or.inl (by omega))) (fun b j _ _ => i2 _ _ (Or.inl (by omega)))
        obtain ⟨ν16, b1, b2, b3, b4, b5⟩ := bc_H (k0 := 83 + 5 * (k + 1)) (k1 := 83 + 5 * k) (μ := ν6) (by omega) hxk hl
        have eL : ν16.1 (108 + k) G = nI (lc G) := by rw [b3 _ _ (by omega), (i3 G).2]; exact hlc2 G hG q0
        have eg : ν16.1 (83 + 5 * (k + 1)) 3 = nI gg := b5.trans ((i2 _ _ (Or.inl (by omega))).trans e3)
        obtain ⟨ν20, f1, f2, f3, f4, f5⟩ := fm_X b4 hw (nI (lc G)) 0 eg
        have eF : fiO K W H (m + nI k) l n (nI (lc G)) = nI G - 1 := by
          have := (fgi_in (K := K) (W := W) (m := m) (l := l) hn H k (lc G)).2.2
          rw [show fgi K W m l n H k (lc G) = G from hL.2.1] at this
          exact this
        have eS : seO K W H (m + nI k) l n (nI (lc G)) 0 = -1 := if_pos (Or.inr rfl)
        rw [eF, eS] at f1 f5
        have et : ν20.1 14 k = td k := by rw [f3 _ _ (by omega) (by omega) (by omega), b3 _ _ (by omega), i2 _ _ (Or.inl (by omega))]; exact ht k hk
        have hx20 : HX (83 + 5 * (k + 1)) ν20.1 n l K W (fNx K W gg H (nI G - 1)) (m + nI (k + 1)) := by
          refine ⟨?_, ?_, ?_, fun i hi => ⟨?_, ?_, f5 i hi⟩⟩
          · rw [f3 _ _ (by omega) (by omega) (by omega)]; exact b4.1
          · rw [f3 _ _ (by omega) (by omega) (by omega)]; exact b4.2.1
          · rw [f4, i32_s]
          · rw [f3 _ _ (by omega) (by omega) (by omega)]; exact (b4.2.2.2 i hi).1
          · rw [f3 _ _ (by omega) (by omega) (by omega)]; exact (b4.2.2.2 i hi).2.1
        have F20 : ∀ b j, frF (k + 1) b j → ¬ (83 + 5 * (k + 1) ≤ b ∧ b ≤ 83 + 5 * (k + 1) + 4) → ν20.1 b j = ν6.1 b j := fun b j h hb => by
          rw [f3 _ _ (by omega) (by omega) (by omega), b3 _ _ (by omega)]
        rw [b1, bd_some, chk_nI hG (by decide), eL, f1, bd2_some, et]
        -- behind it
        have BH : ∃ ν22, (∀ (Q : Int32 → Mem → Option ((Int32 × Int32 × Mem) ⊕ (Int32 × Mem))), (if sgt (tt K W H (nI G - 1) (-1)) l = td k then bd2 (f_X1_rowsFrom fu' (nI (k + 1)) (nI M) 14 ν20) fun r31 ν32 => Q r31 ν32 else Q 0 ν20) = Q (nI (bhd K W m l n gg td r k H (nI G - 1))) ν22) ∧ ν22.2 = ν.2 ∧ (∀ b j, frF k b j → ν22.1 b j = ν.1 b j) ∧ (∀ j, ν22.1 (104 + k) j = ν3.1 (104 + k) j ∧ ν22.1 (108 + k) j = ν3.1 (108 + k) j) ∧ ν22.1 111 k = ν6.1 111 k ∧ (0 < bhd K W m l n gg td r k H (nI G - 1) → ∃ y, ν22.1 111 (k + 1) = nI y ∧ LstP (fitP K W m l n gg td r (k + 1) (fNx K W gg H (nI G - 1))) (32 ^ r) y) := by
          by_cases ok : okC K W l td H k (nI G - 1)
          · obtain ⟨ν22, c1, c2, c3, c4⟩ := ih (k + 1) fu' (fNx K W gg H (nI G - 1)) ν20 (by omega) (by omega) (hw.nx _ _ hg) hx20 (by rw [f3 _ _ (by omega) (by omega) (by omega)]; exact eg) (fun j hj => by rw [f3 _ _ (by omega) (by omega) (by omega), b3 _ _ (by omega), i2 _ _ (Or.inl (by omega))]; exact ht j hj)
            have C : ∀ b j, frF (k + 1) b j → ¬ (83 + 5 * (k + 1) ≤ b ∧ b ≤ 83 + 5 * (k + 1) + 4) → ν22.1 b j = ν6.1 b j := fun b j h hb => (c3 b j h).trans (F20 b j h hb)
            refine ⟨ν22, fun Q => ?_, c2.trans (f2.trans (b2.trans i1)), fun b j h => ?_, fun j => ⟨?_, ?_⟩, ?_, ?_⟩
            · rw [if_pos (show sgt (tt K W H (nI G - 1) (-1)) l = td k from ok), c1, bd2_some, bhd_t ok]
            · have h' := h
              unfold frF at h'
              rw [C b j (by unfold frF; omega) (by omega)]
              exact i2 b j h
            · rw [C _ _ (by unfold frF; omega) (by omega)]; exact (i3 j).1
            · rw [C _ _ (by unfold frF; omega) (by omega)]; exact (i3 j).2
            · exact C _ _ (by unfold frF; omega) (by omega)
            · rw [bhd_t ok]; exact c4
          · refine ⟨ν20, fun Q => ?_, f2.trans (b2.trans i1), fun b j h => ?_, fun j => ⟨?_, ?_⟩, ?_, ?_⟩
            · rw [if_neg (show ¬ sgt (tt K W H (nI G - 1) (-1)) l = td k from ok), bhd_f ok]
              rfl
            · have h' := h
              unfold frF at h'
              rw [F20 b j (by unfold frF; omega) (by omega)]
              exact i2 b j h
            · rw [F20 _ _ (by unfold frF; omega) (by omega)]; exact (i3 j).1
            · rw [F20 _ _ (by unfold frF; omega) (by omega)]; exact (i3 j).2
            · exact F20 _ _ (by unfold frF; omega) (by omega)
            · rw [bhd_f ok]; intro h; omega
        obtain ⟨ν22, d1, d2, d3, d4, d5, d6⟩ := BH
        refine (fun Z => ?_) (d1 (fun y21 ν22 => if 0 < y21 then
                                      chk (nI G) 6 (
                                          if nI (sN (fun g => cN (fun c => fgi K W m l n H k c = g) (2 ^ n) * bhd K W m l n gg td r k H (nI g - 1)) G) = 0 then
                                                chk (nI G) 6 (
                                                  some (.inl (nI (sN (fun g => cN (fun c => fgi K W m l n H k c = g) (2 ^ n) * bhd K W m l n gg td r k H (nI g - 1)) G) + (((setI ν22 111 k (((ν22.1 (108 + k) G) <<< (nI (5 * r) &&& 31)) + (ν22.1 111 (k + 1)))).1 (104 + k) G) * y21), nI (G + 1), setI ν22 111 k (((ν22.1 (108 + k) G) <<< (nI (5 * r) &&& 31)) + (ν22.1 111 (k + 1)))))
                                                  )
                                          else
                                                chk (nI G) 6 (
                                                  some (.inl (nI (sN (fun g => cN (fun c => fgi K W m l n H k c = g) (2 ^ n) * bhd K W m l n gg td r k H (nI g - 1)) G) + (((setI ν22 111 k (if (((ν22.1 (108 + k) G) <<< (nI (5 * r) &&& 31)) + (ν22.1 111 (k + 1))) < (ν22.1 111 k) then (((ν22.1 (108 + k) G) <<< (nI (5 * r) &&& 31)) + (ν22.1 111 (k + 1))) else (ν22.1 111 k))).1 (104 + k) G) * y21), nI (G + 1), setI ν22 111 k (if (((ν22.1 (108 + k) G) <<< (nI (5 * r) &&& 31)) + (ν22.1 111 (k + 1))) < (ν22.1 111 k) then (((ν22.1 (108 + k) G) <<< (nI (5 * r) &&& 31)) + (ν22.1 111 (k + 1))) else (ν22.1 111 k))))
                                                  )
                                        )
                                  else
                                    some (.inl (nI (sN (fun g => cN (fun c => fgi K W m l n H k c = g) (2 ^ n) * bhd K W m l n gg td r k H (nI g - 1)) G), nI (G + 1), ν22))))
        rw [Z]
        have hb1 : bhd K W m l n gg td r k H (nI G - 1) ≤ 1024 := by
          by_cases ok : okC K W l td H k (nI G - 1)
          · rw [bhd_t ok]
            have := cN_le (fitP K W m l n gg td r (k + 1) (fNx K W gg H (nI G - 1))) (32 ^ r)
            omega
          · rw [bhd_f ok]; omega
        by_cases q1 : 0 < bhd K W m l n gg td r k H (nI G - 1)
        · obtain ⟨y, y1, y2⟩ := d6 q1
          have hl2 : lc G < 32 := by have := hL.1; omega
          have hv : lc G * 32 ^ r ≤ 32 * 1024 := Nat.mul_le_mul (by omega) h32
          have hy : y < 1024 := by have := y2.1; omega
          have er : (ν22.1 (108 + k) G <<< (nI (5 * r) &&& 31)) + ν22.1 111 (k + 1) = nI (lc G * 32 ^ r + y) := by
            rw [(d4 G).2, hlc2 G hG q0, shlN hr3 hl2, y1, ni_add]
          rw [if_pos (by exact (nI_ltI (a := 0) (by decide) (by omega)).mpr q1), er, chk_nI hG (by decide), chk_nI hG (by decide), chk_nI hG (by decide)]
          have Y : ∀ x' : Nat, fmin K W m l n gg td r k H lc (G + 1) x' → ∃ s', (some (Sum.inl (nI (sN (fun g => cN (fun c => fgi K W m l n H k c = g) (2 ^ n) * bhd K W m l n gg td r k H (nI g - 1)) G) + (((setI ν22 111 k (nI x')).1 (104 + k) G) * nI (bhd K W m l n gg td r k H (nI G - 1))), nI (G + 1), setI ν22 111 k (nI x'))) : Option ((Int32 × Int32 × Mem) ⊕ (Int32 × Mem))) = some (.inl s') ∧ s'.1 = nI (sN (fun g => cN (fun c => fgi K W m l n H k c = g) (2 ^ n) * bhd K W m l n gg td r k H (nI g - 1)) (G + 1)) ∧ s'.2.1 = nI (G + 1) ∧ s'.2.2.2 = ν.2 ∧ (∀ b j, frF k b j → s'.2.2.1 b j = ν.1 b j) ∧ (∀ j, s'.2.2.1 (104 + k) j = ν3.1 (104 + k) j ∧ s'.2.2.1 (108 + k) j = ν3.1 (108 + k) j) ∧ (0 < sN (fun g => cN (fun c => fgi K W m l n H k c = g) (2 ^ n) * bhd K W m l n gg td r k H (nI g - 1)) (G + 1) → ∃ x, s'.2.2.1 111 k = nI x ∧ fmin K W m l n gg td r k H lc (G + 1) x) := fun x' hx' => by
            refine ⟨_, rfl, ?_, rfl, d2, fun b j h => ?_, fun j => ⟨?_, ?_⟩, fun _ => ⟨x', si_eq, hx'⟩⟩
            · rw [hs, si_ne (by omega), (d4 G).1, a4 G hG, ni_mul, ni_add]
            · have h' := h
              unfold frF at h'
              rw [si_ne (by omega)]; exact d3 b j h
            · rw [si_ne (by omega)]; exact (d4 j).1
            · rw [si_ne (by omega)]; exact (d4 j).2
          have hcG := cG G (by omega)
          by_cases q2 : sN (fun g => cN (fun c => fgi K W m l n H k c = g) (2 ^ n) * bhd K W m l n gg td r k H (nI g - 1)) G = 0
          · rw [if_pos (by rw [q2]; rfl)]
            exact Y _ (fmin_new (fun g hg2 z => by
              have := sN_0 q2 g hg2
              have := Nat.mul_pos z.1 z.2
              omega) q0 q1 y2)
          · rw [if_neg (by exact fun z => q2 ((nI_eq (b := 0) (by omega) (by decide)).mp z))]
            obtain ⟨x, x1, x2⟩ := i4 (by omega)
            have hxl := fmin_lt hn (fun g h => (hlc g h).1) x2
            have e : (if nI (lc G * 32 ^ r + y) < ν22.1 111 k then nI (lc G * 32 ^ r + y) else ν22.1 111 k) = nI (if lc G * 32 ^ r + y < x then lc G * 32 ^ r + y else x) := by
              rw [d5, x1]
              by_cases z : lc G * 32 ^ r + y < x
              · rw [if_pos z, if_pos ((nI_ltI (by omega) (by omega)).mpr z)]
              · rw [if_neg z, if_neg (fun zz => z ((nI_ltI (by omega) (by omega)).mp zz))]
            rw [e]
            exact Y _ (fmin_min x2 q0 q1 y2)
        · have hb0 : bhd K W m l n gg td r k H (nI G - 1) = 0 := by omega
          rw [hb0] at hs ⊢
          rw [if_neg (by decide)]
          refine ⟨_, rfl, by rw [hs]; rfl, rfl, d2, d3, d4, fun h => ?_⟩
          obtain ⟨x, x1, x2⟩ := i4 (by rw [hs] at h; omega)
          exact ⟨x, d5.trans x1, fmin_skip x2 (fun z => by omega)⟩
      · have hw0 : cN (fun c => fgi K W m l n H k c = G) (2 ^ n) = 0 := by omega
        rw [hw0] at hs ⊢
        rw [if_neg (by decide)]
        refine ⟨_, rfl, by rw [hs, Nat.zero_mul]; rfl, rfl, i1, i2, i3, fun h => ?_⟩
        obtain ⟨x, x1, x2⟩ := i4 (by rw [hs, Nat.zero_mul] at h; omega)
        exact ⟨x, x1, fmin_skip x2 (fun z => by omega)⟩
    · obtain ⟨a, b, ν6⟩ := s
      obtain ⟨rfl, rfl, i1, i2, i3, i4⟩ := hI
      dsimp only at i1 i2 i3 i4
      rw [cu3_eq, if_neg (by decide)]
      exact ⟨_, rfl, rfl, i1, i2, i4⟩
end ROWS

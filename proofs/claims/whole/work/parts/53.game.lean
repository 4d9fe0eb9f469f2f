/-! game -/
def tko (sa sb : Int32) (lo : Bool) (x y : Int32) : Bool := decide ((((sb + 10) - y) + (y / 2)) < (((sa + 10) - x) + (x / 2))) || (decide ((((sa + 10) - x) + (x / 2)) = (((sb + 10) - y) + (y / 2))) && lo)
def lsA (sa sb : Int32) (lo : Bool) (x y : Int32) : Int32 := (if tko sa sb lo x y = true then 5 else 0) + x / 4
def lsB (sa sb : Int32) (lo : Bool) (x y : Int32) : Int32 := (if tko sa sb lo x y = true then 0 else 5) + y / 4
theorem i32_tri (a b : Int32) : a < b ∨ a = b ∨ b < a := by
  rcases Int.lt_trichotomy a.toInt b.toInt with h | h | h
  · exact Or.inl (Int32.lt_iff_toInt_lt.mpr h)
  · exact Or.inr (Or.inl (Int32.toInt_inj.mp h))
  · exact Or.inr (Or.inr (Int32.lt_iff_toInt_lt.mpr h))
theorem i32_asym {a b : Int32} (h : a < b) : ¬ b < a ∧ ¬ a = b := by
  have := Int32.lt_iff_toInt_lt.mp h
  exact ⟨fun q => by have := Int32.lt_iff_toInt_lt.mp q; omega, fun q => by rw [q] at this; omega⟩
theorem tko_neg (sa sb : Int32) (lo : Bool) (x y : Int32) : tko sb sa (!lo) y x = !(tko sa sb lo x y) := by
  unfold tko
  generalize (((sb + 10) - y) + (y / 2)) = p
  generalize (((sa + 10) - x) + (x / 2)) = q
  rcases i32_tri p q with h | h | h
  · obtain ⟨h1, h2⟩ := i32_asym h
    rw [decide_eq_true h, decide_eq_false h1, decide_eq_false h2]; rfl
  · subst h
    rw [decide_eq_false (fun z => (i32_asym z).1 z), decide_eq_true rfl]
    cases lo <;> rfl
  · obtain ⟨h1, h2⟩ := i32_asym h
    rw [decide_eq_true h, decide_eq_false h1, decide_eq_false h2, decide_eq_false (fun z => h2 z.symm)]; rfl
theorem loss_Y (sa sb : Int32) (lo : Bool) (x y : Int32) : f_X11_loss sa sb x y (if lo = true then 1 else 0) = some (lsA sa sb lo x y) := by
  unfold f_X11_loss lsA tko
  simp only [jn_eq]
  by_cases h1 : (((sb + 10) - y) + (y / 2)) < (((sa + 10) - x) + (x / 2))
  · rw [if_pos h1, decide_eq_true h1, Bool.true_or, if_pos rfl, Int32.add_comm]
  · rw [if_neg h1, decide_eq_false h1, Bool.false_or]
    by_cases h2 : (((sa + 10) - x) + (x / 2)) = (((sb + 10) - y) + (y / 2))
    · rw [if_pos h2, decide_eq_true h2, Bool.true_and, Int32.add_comm, Int32.add_comm (x / 4)]
      cases lo <;> rfl
    · rw [if_neg h2, decide_eq_false h2, Bool.false_and, Int32.add_comm]
      rfl
theorem lossB_Y (sa sb : Int32) (lo : Bool) (x y : Int32) : f_X11_loss sb sa y x (if (!lo) = true then 1 else 0) = some (lsB sa sb lo x y) := by
  rw [loss_Y]
  unfold lsA lsB
  rw [tko_neg]
  cases tko sa sb lo x y <;> rfl
theorem lsAB (sa sb : Int32) (lo : Bool) (x y : Int32) : lsA sb sa (!lo) y x = lsB sa sb lo x y := Option.some.inj ((loss_Y sb sa (!lo) y x).symm.trans (lossB_Y sa sb lo x y))
theorem take_X {sa sb : Int32} {lo : Bool} {ν : Mem} (h0 : ν.1 80 0 = sa) (h1 : ν.1 80 1 = sb) (h2 : ν.1 80 2 = if lo = true then 1 else 0) (x y : Int32) : f_X2_takesFromOne x y ν = some (if tko sa sb lo x y = true then 1 else 0) := by
  unfold f_X2_takesFromOne tko
  simp only [jn_eq, lt_eq, h0, h1, h2]
  by_cases q1 : (((sb + 10) - y) + (y / 2)) < (((sa + 10) - x) + (x / 2))
  · rw [if_pos q1, decide_eq_true q1, Bool.true_or, if_pos rfl]; rfl
  · rw [if_neg q1, decide_eq_false q1, Bool.false_or]
    by_cases q2 : (((sa + 10) - x) + (x / 2)) = (((sb + 10) - y) + (y / 2))
    · rw [if_pos q2, decide_eq_true q2, Bool.true_and]
      cases lo <;> rfl
    · rw [if_neg q2, decide_eq_false q2, Bool.false_and]
      rfl
def gQ (sa sb : Int32) (lo : Bool) (x y z : Nat) : Prop := lsA sa sb lo (nI z) (nI y) < lsA sa sb lo (nI x) (nI y) ∨ lsB sa sb lo (nI x) (nI z) < lsB sa sb lo (nI x) (nI y)
noncomputable def rsz (Q : Nat → Prop) : Nat → Int32
  | 0 => 1
  | z + 1 => if rsz Q z = 0 then 0 else @ite _ (Q z) (Classical.propDecidable _) 0 1
theorem rsz_eq (Q : Nat → Prop) : ∀ z, ((∃ i, i < z ∧ Q i) → rsz Q z = 0) ∧ ((∀ i, i < z → ¬ Q i) → rsz Q z = 1)
  | 0 => ⟨fun ⟨i, hi, _⟩ => absurd hi (by omega), fun _ => rfl⟩
  | z + 1 => by
    obtain ⟨a, b⟩ := rsz_eq Q z
    constructor
    · intro ⟨i, hi, q⟩
      show (if rsz Q z = 0 then 0 else @ite _ (Q z) (Classical.propDecidable _) 0 1) = 0
      by_cases e : rsz Q z = 0
      · rw [if_pos e]
      · rw [if_neg e]
        have : i = z := by
          rcases Nat.lt_or_ge i z with h | h
          · exact absurd (a ⟨i, h, q⟩) e
          · omega
        subst this
        exact @if_pos _ (Classical.propDecidable _) q _ _ _
    · intro h
      show (if rsz Q z = 0 then 0 else @ite _ (Q z) (Classical.propDecidable _) 0 1) = 1
      rw [if_neg (by rw [b (fun i hi => h i (by omega))]; decide)]
      exact @if_neg _ (Classical.propDecidable _) (h z (by omega)) _ _ _
theorem rests_X {sa sb : Int32} {lo : Bool} {ν : Mem} (h0 : ν.1 80 0 = sa) (h1 : ν.1 80 1 = sb) (h2 : ν.1 80 2 = if lo = true then 1 else 0) (x y : Nat) : f_X2_rests (nI x) (nI y) ν = some (rsz (gQ sa sb lo x y) 10) := by
  have A : ∀ x y, f_X2_lossOfOne x y ν = some (lsA sa sb lo x y) := fun x y => by
    unfold f_X2_lossOfOne lsA
    rw [take_X h0 h1 h2, bd_some, jn_eq]
    cases tko sa sb lo x y <;> rfl
  have B : ∀ x y, f_X2_lossOfOther x y ν = some (lsB sa sb lo x y) := fun x y => by
    unfold f_X2_lossOfOther lsB
    rw [take_X h0 h1 h2, bd_some, jn_eq]
    cases tko sa sb lo x y <;> rfl
  have dQ : DecidablePred (gQ sa sb lo x y) := fun i => by unfold gQ; exact inferInstance
  have S : ∀ i, i < 10 → (if nI i < 10 then
      bd (f_X2_lossOfOne (nI i) (nI y) ν) fun r3 =>
      bd (f_X2_lossOfOne (nI x) (nI y) ν) fun r4 =>
      jn (
        (some (.inr (.inr 0)) : Option (Int32 ⊕ (Unit ⊕ Int32)))
        ) fun j5 =>
      if r3 < r4 then
        j5
      else
        bd (f_X2_lossOfOther (nI x) (nI i) ν) fun r6 =>
        bd (f_X2_lossOfOther (nI x) (nI y) ν) fun r7 =>
        if r6 < r7 then
          j5
        else
          some (.inl (nI i + 1))
    else
      some (.inr (.inl ()))) = if gQ sa sb lo x y i then some (.inr (.inr 0)) else some (.inl (nI (i + 1))) := fun i hi => by
    rw [if_pos (by exact (nI_ltI (b := 10) (by omega) (by decide)).mpr hi), A, bd_some, A, bd_some, jn_eq, B, bd_some, B, bd_some, ← nI_succ]
    by_cases q1 : lsA sa sb lo (nI i) (nI y) < lsA sa sb lo (nI x) (nI y)
    · rw [if_pos q1, if_pos (show gQ sa sb lo x y i from Or.inl q1)]
    · rw [if_neg q1]
      by_cases q2 : lsB sa sb lo (nI x) (nI i) < lsB sa sb lo (nI x) (nI y)
      · rw [if_pos q2, if_pos (show gQ sa sb lo x y i from Or.inr q2)]
      · rw [if_neg q2, if_neg (fun z => by rcases z with z | z; exact q1 z; exact q2 z)]
  unfold f_X2_rests
  by_cases hex : ∃ i, i < 10 ∧ gQ sa sb lo x y i
  · rw [(rsz_eq _ 10).1 hex]
    exact (bdr_hit (A := (0 : Int32)) (Q := gQ sa sb lo x y) (N := 10) hex S).trans rfl
  · have hno : ∀ i, i < 10 → ¬ gQ sa sb lo x y i := fun i hi q => hex ⟨i, hi, q⟩
    rw [(rsz_eq _ 10).2 hno]
    refine (bdr_miss (A := (0 : Int32)) (u := ()) (Q := gQ sa sb lo x y) (N := 10) hno S ?_).trans rfl
    rw [if_neg (by decide)]
noncomputable def gF (sa sb : Int32) (lo : Bool) : Nat → Int32 × Int32
  | 0 => (0, -1)
  | t + 1 => if rsz (gQ sa sb lo (t / 10) (t % 10)) 10 = 0 then gF sa sb lo t else ((gF sa sb lo t).1 + 1, if (gF sa sb lo t).1 = 0 then nI t else (gF sa sb lo t).2)
theorem gF_inv (sa sb : Int32) (lo : Bool) : ∀ t, t ≤ 100 → ∃ k, k ≤ t ∧ (gF sa sb lo t).1 = nI k ∧ (k = 0 → (gF sa sb lo t).2 = -1) ∧ (0 < k → ∃ q, q < 100 ∧ (gF sa sb lo t).2 = nI q)
  | 0, _ => ⟨0, Nat.le_refl _, rfl, fun _ => rfl, fun h => absurd h (by omega)⟩
  | t + 1, h => by
    obtain ⟨k, hk, e1, e2, e3⟩ := gF_inv sa sb lo t (by omega)
    by_cases q : rsz (gQ sa sb lo (t / 10) (t % 10)) 10 = 0
    · have z : gF sa sb lo (t + 1) = gF sa sb lo t := if_pos q
      rw [z]
      exact ⟨k, by omega, e1, e2, e3⟩
    · have z : gF sa sb lo (t + 1) = ((gF sa sb lo t).1 + 1, if (gF sa sb lo t).1 = 0 then nI t else (gF sa sb lo t).2) := if_neg q
      rw [z]
      refine ⟨k + 1, by omega, by show (gF sa sb lo t).1 + 1 = _; rw [e1, ← nI_succ], fun h => absurd h (by omega), fun _ => ?_⟩
      show ∃ q, q < 100 ∧ (if (gF sa sb lo t).1 = 0 then nI t else (gF sa sb lo t).2) = nI q
      by_cases w : (gF sa sb lo t).1 = 0
      · rw [if_pos w]; exact ⟨t, by omega, rfl⟩
      · rw [if_neg w]
        refine e3 (Nat.pos_of_ne_zero (fun z => w ?_))
        rw [e1, z]; rfl
theorem m1_100 : ∀ v, v < 100 → ¬ nI v = -1 := by decide +kernel
theorem gF_iff (sa sb : Int32) (lo : Bool) {t : Nat} (ht : t ≤ 100) : (gF sa sb lo t).1 = 0 ↔ (gF sa sb lo t).2 = -1 := by
  obtain ⟨k, hk, e1, e2, e3⟩ := gF_inv sa sb lo t ht
  constructor
  · intro h
    rw [e1] at h
    exact e2 ((nI_eq (b := 0) (by omega) (by decide)).mp h)
  · intro h
    rcases Nat.eq_zero_or_pos k with z | z
    · rw [e1, z]; rfl
    · obtain ⟨q, hq, e⟩ := e3 z
      exact absurd (e.symm.trans h) (m1_100 q hq)
theorem t10 (x y : Nat) (hy : y < 10) : (10 * x + y) / 10 = x ∧ (10 * x + y) % 10 = y := by omega
def gmI (sa sb : Int32) (lo : Bool) (μ ν : Mem) (t : Nat) : Prop := ν.1 80 0 = sa ∧ ν.1 80 1 = sb ∧ (ν.1 80 2 = if lo = true then 1 else 0) ∧ ν.1 80 3 = (gF sa sb lo t).1 ∧ ν.1 80 4 = (gF sa sb lo t).2 ∧ ν.2 = μ.2 ∧ ∀ b j, b ≠ 80 → ν.1 b j = μ.1 b j
theorem search_X {a b n l : Nat} {K W H : Nat → Int32} {m : Int32} {μ : Mem} (hx : HX 2 μ.1 n l K W H m) (hw : HW n l K W H) : ∃ ν, f_X2_search 2 (nI a) (nI b) μ = some ν ∧ gmI (sg K W H m l (nI a)) (sg K W H m l (nI b)) (decide (nI a < nI b)) μ ν 100 := by
  unfold f_X2_search
  rw [sg_X hx hw, bd_some, lt_eq, sg_X (n := n) (m := m) (hx.of (fun j => si_ne (by omega)) (fun b j _ _ => si_ne (by omega))) hw, bd_some, lt_eq]
  generalize sg K W H m l (nI a) = sa
  generalize sg K W H m l (nI b) = sb
  have Z : ∀ y5 : Int32, (y5 = if decide (nI a < nI b) = true then 1 else 0) → ∃ ν, (ckB y5 (
      lt (setI (setI (setI μ 80 0 sa) 80 1 sb) 80 2 y5) fun ν7 =>
      lt (setI ν7 80 3 0) fun ν8 =>
      lt (setI ν8 80 4 (-1)) fun ν9 =>
      bd (lp (ε := Mem) (cu2 fun (x4_10 : Int32) (ν11 : Mem) =>
        if x4_10 < 10 then
          bd (lp (ε := Mem) (cu2 fun (x5_14 : Int32) (ν15 : Mem) =>
            if x5_14 < 10 then
              bd (f_X2_rests x4_10 x5_14 ν15) fun r18 =>
              jn (fun (ν19 : Mem) =>
                some (.inl ((x5_14 + 1), ν19))
                ) fun j20 =>
              if r18 = 0 then
                j20 ν15
              else
                jn (fun (y21 : Int32) =>
                  lt (setI ν15 80 4 y21) fun ν23 =>
                  lt (setI ν23 80 3 ((ν23.1 80 3) + 1)) fun ν24 =>
                  j20 ν24
                  ) fun j22 =>
                if (ν15.1 80 3) = 0 then
                  j22 ((10 * x4_10) + x5_14)
                else
                  j22 (ν15.1 80 4)
            else
              some (.inr ν15)
            ) (0, ν11)) (fun (ν16 : Mem) =>
            some (.inl ((x4_10 + 1), ν16))
            )
        else
          some (.inr ν11)
        ) (0, ν9)) (fun (ν12 : Mem) =>
        some ν12
        )
      )) = some ν ∧ gmI sa sb (decide (nI a < nI b)) μ ν 100 := by
    intro y5 hy
    generalize decide (nI a < nI b) = lo at hy ⊢
    have hB : y5 = 0 ∨ y5 = 1 := by
      cases lo
      · exact Or.inl hy
      · exact Or.inr hy
    unfold ckB
    rw [if_pos hB, lt_eq, lt_eq, lt_eq]
    have hI0 : gmI sa sb lo μ (setI (setI (setI (setI (setI μ 80 0 sa) 80 1 sb) 80 2 y5) 80 3 0) 80 4 (-1)) 0 := by
      refine ⟨by ((try dsimp only); (repeat (first | rw [si_eq] | rw [si_ne (by omega)] | rw [cp_in (by omega)] | rw [cp_ne (by omega)]))), by ((try dsimp only); (repeat (first | rw [si_eq] | rw [si_ne (by omega)] | rw [cp_in (by omega)] | rw [cp_ne (by omega)]))), by (((try dsimp only); (repeat (first | rw [si_eq] | rw [si_ne (by omega)] | rw [cp_in (by omega)] | rw [cp_ne (by omega)]))) <;> exact hy), by ((try dsimp only); (repeat (first | rw [si_eq] | rw [si_ne (by omega)] | rw [cp_in (by omega)] | rw [cp_ne (by omega)]))) <;> rfl, by ((try dsimp only); (repeat (first | rw [si_eq] | rw [si_ne (by omega)] | rw [cp_in (by omega)] | rw [cp_ne (by omega)]))) <;> rfl, rfl, fun b j hb => by ((try dsimp only); (repeat (first | rw [si_eq] | rw [si_ne (by omega)] | rw [cp_in (by omega)] | rw [cp_ne (by omega)])))⟩
    generalize setI (setI (setI (setI (setI μ 80 0 sa) 80 1 sb) 80 2 y5) 80 3 0) 80 4 (-1) = ν9 at hI0 ⊢
    have L := lp_inv (F := cu2 fun (x4_10 : Int32) (ν11 : Mem) =>
        if x4_10 < 10 then
          bd (lp (ε := Mem) (cu2 fun (x5_14 : Int32) (ν15 : Mem) =>
            if x5_14 < 10 then
              bd (f_X2_rests x4_10 x5_14 ν15) fun r18 =>
              jn (fun (ν19 : Mem) =>
                some (.inl ((x5_14 + 1), ν19))
                ) fun j20 =>
              if r18 = 0 then
                j20 ν15
              else
                jn (fun (y21 : Int32) =>
                  lt (setI ν15 80 4 y21) fun ν23 =>
                  lt (setI ν23 80 3 ((ν23.1 80 3) + 1)) fun ν24 =>
                  j20 ν24
                  ) fun j22 =>
                if (ν15.1 80 3) = 0 then
                  j22 ((10 * x4_10) + x5_14)
                else
                  j22 (ν15.1 80 4)
            else
              some (.inr ν15)
            ) (0, ν11)) (fun (ν16 : Mem) =>
            some (.inl ((x4_10 + 1), ν16))
            )
        else
          some (.inr ν11)) (fun x s => s.1 = nI x ∧ gmI sa sb lo μ s.2 (10 * x)) (fun e : Mem => gmI sa sb lo μ e 100) 10 (fun x s hx hI => ?_) (fun s hI => ?_) (s := (0, ν9)) ⟨rfl, hI0⟩
    · obtain ⟨e, he, j⟩ := L
      exact ⟨e, by rw [he]; rfl, j⟩
    · obtain ⟨q, ν⟩ := s
      obtain ⟨rfl, hI⟩ := hI
      dsimp only at hI
      rw [cu2_eq, if_pos (by exact (nI_ltI (b := 10) (by omega) (by decide)).mpr hx)]
      have L2 := lp_inv (F := cu2 fun (x5_14 : Int32) (ν15 : Mem) =>
            if x5_14 < 10 then
              bd (f_X2_rests (nI x) x5_14 ν15) fun r18 =>
              jn (fun (ν19 : Mem) =>
                some (.inl ((x5_14 + 1), ν19))
                ) fun j20 =>
              if r18 = 0 then
                j20 ν15
              else
                jn (fun (y21 : Int32) =>
                  lt (setI ν15 80 4 y21) fun ν23 =>
                  lt (setI ν23 80 3 ((ν23.1 80 3) + 1)) fun ν24 =>
                  j20 ν24
                  ) fun j22 =>
                if (ν15.1 80 3) = 0 then
                  j22 ((10 * nI x) + x5_14)
                else
                  j22 (ν15.1 80 4)
            else
              some (.inr ν15)) (fun y s => s.1 = nI y ∧ gmI sa sb lo μ s.2 (10 * x + y)) (fun e : Mem => gmI sa sb lo μ e (10 * x + 10)) 10 (fun y s hy hI => ?_) (fun s hI => ?_) (s := (0, ν)) ⟨rfl, hI⟩
      · obtain ⟨e, he, j⟩ := L2
        rw [he, bd_some]
        exact Or.inl ⟨_, rfl, (nI_succ x).symm, j⟩
      · obtain ⟨q, ν'⟩ := s
        obtain ⟨rfl, i0, i1, i2, i3, i4, i5, i6⟩ := hI
        obtain ⟨w1, w2⟩ := t10 x y hy
        rw [cu2_eq, if_pos (by exact (nI_ltI (b := 10) (by omega) (by decide)).mpr hy), rests_X i0 i1 i2, bd_some]
        simp only [jn_eq, lt_eq]
        left
        by_cases z : rsz (gQ sa sb lo x y) 10 = 0
        · rw [if_pos z]
          have g : gF sa sb lo (10 * x + y + 1) = gF sa sb lo (10 * x + y) := if_pos (by rw [w1, w2]; exact z)
          refine ⟨_, rfl, (nI_succ y).symm, i0, i1, i2, ?_, ?_, i5, i6⟩
          · rw [← Nat.add_assoc, g]; exact i3
          · rw [← Nat.add_assoc, g]; exact i4
        · rw [if_neg z]
          have g : gF sa sb lo (10 * x + y + 1) = ((gF sa sb lo (10 * x + y)).1 + 1, if (gF sa sb lo (10 * x + y)).1 = 0 then nI (10 * x + y) else (gF sa sb lo (10 * x + y)).2) := if_neg (by rw [w1, w2]; exact z)
          have Y : ∀ yy : Int32, (yy = if (gF sa sb lo (10 * x + y)).1 = 0 then nI (10 * x + y) else (gF sa sb lo (10 * x + y)).2) → ∃ s', (some (Sum.inl (nI y + 1, setI (setI ν' 80 4 yy) 80 3 ((setI ν' 80 4 yy).1 80 3 + 1))) : Option ((Int32 × Mem) ⊕ Mem)) = some (.inl s') ∧ s'.1 = nI (y + 1) ∧ gmI sa sb lo μ s'.2 (10 * x + (y + 1)) := fun yy hyy => by
            refine ⟨_, rfl, (nI_succ y).symm, ?_, ?_, ?_, ?_, ?_, i5, fun b j hb => ?_⟩
            · (((try dsimp only); (repeat (first | rw [si_eq] | rw [si_ne (by omega)] | rw [cp_in (by omega)] | rw [cp_ne (by omega)]))) <;> exact i0)
            · (((try dsimp only); (repeat (first | rw [si_eq] | rw [si_ne (by omega)] | rw [cp_in (by omega)] | rw [cp_ne (by omega)]))) <;> exact i1)
            · (((try dsimp only); (repeat (first | rw [si_eq] | rw [si_ne (by omega)] | rw [cp_in (by omega)] | rw [cp_ne (by omega)]))) <;> exact i2)
            · rw [← Nat.add_assoc, g, si_eq, si_ne (by omega), i3]
            · rw [← Nat.add_assoc, g, si_ne (by omega), si_eq, hyy]
            · rw [si_ne (by omega), si_ne (by omega)]; exact i6 b j hb
          dsimp only at i3 i4
          rw [i3, i4]
          by_cases z2 : (gF sa sb lo (10 * x + y)).1 = 0
          · rw [if_pos z2]
            exact Y _ (by rw [if_pos z2, show (10 : Int32) = nI 10 from rfl, ni_mul, ni_add])
          · rw [if_neg z2]
            exact Y _ (by rw [if_neg z2])
      · obtain ⟨q, ν'⟩ := s
        obtain ⟨rfl, hI⟩ := hI
        rw [cu2_eq, if_neg (by decide)]
        exact ⟨_, rfl, hI⟩
    · obtain ⟨q, ν⟩ := s
      obtain ⟨rfl, hI⟩ := hI
      rw [cu2_eq, if_neg (by decide)]
      exact ⟨_, rfl, hI⟩
  rw [jn_eq]
  by_cases q : nI a < nI b
  · rw [if_pos q]
    exact Z 1 (by rw [decide_eq_true q]; rfl)
  · rw [if_neg q]
    exact Z 0 (by rw [decide_eq_false q]; rfl)
theorem game_Y {a b n l w : Nat} {K W H : Nat → Int32} {m : Int32} {μ : Mem} (s0 : μ.1 113 0 = nI n) (hn : n ≤ 5) (ha : a < n) (hb : b < n) (hab : a ≠ b) (hww : w < 2) (hx : HY (cpyI μ 113 26 120 0 10).1 n l K W H) (hw : HW n l K W H) (em : μ.1 113 3 = m) : f_X11_game (nI a) (nI b) (nI w) μ = some (if w = 0 then (gF (sg K W H m l (nI a)) (sg K W H m l (nI b)) (decide (nI a < nI b)) 100).1 else (gF (sg K W H m l (nI a)) (sg K W H m l (nI b)) (decide (nI a < nI b)) 100).2, cpyI μ 113 26 120 0 10) := by
  unfold f_X11_game
  rw [areT_ok s0 hn ha hb hab, bd_some]
  rw [jn_eq, if_neg (by decide), inL_ok (hi := 1) (by decide) (by omega), bd_some, if_neg (by decide), asNow_eq, bd_some, cp_ne (by omega), em, sg_Y hx hw, bd_some, sg_Y hx hw, bd_some]
  generalize sg K W H m l (nI a) = sa
  generalize sg K W H m l (nI b) = sb
  have e1 : ∀ {β : Type} (f : Int32 → β), (if nI a < nI b then f 1 else f 0) = f (if decide (nI a < nI b) = true then 1 else 0) := fun f => by
    by_cases q : nI a < nI b
    · rw [if_pos q, decide_eq_true q]; rfl
    · rw [if_neg q, decide_eq_false q]; rfl
  have e2 : ∀ {β : Type} (f : Int32 → β), (if nI b < nI a then f 1 else f 0) = f (if (!(decide (nI a < nI b))) = true then 1 else 0) := fun f => by
    rcases i32_tri (nI a) (nI b) with q | q | q
    · rw [if_neg (i32_asym q).1, decide_eq_true q]; rfl
    · exact absurd ((nI_eq (by omega) (by omega)).mp q) hab
    · rw [if_pos q, decide_eq_false (i32_asym q).1]; rfl
  generalize hlo : decide (nI a < nI b) = lo at e1 e2 ⊢
  refine (bd_for (e := gF sa sb lo 100) (fun x => ((gF sa sb lo (10 * x)).1, (gF sa sb lo (10 * x)).2, nI x)) 10 rfl (fun x hx => ?_) ?_).trans ?_
  · rw [cu3_eq, if_pos (by exact (nI_ltI (b := 10) (by omega) (by decide)).mpr hx)]
    refine (bd_for (e := ((gF sa sb lo (10 * x + 10)).1, (gF sa sb lo (10 * x + 10)).2)) (fun y => ((gF sa sb lo (10 * x + y)).1, (gF sa sb lo (10 * x + y)).2, nI y)) 10 rfl (fun y hy => ?_) ?_).trans ?_
    · rw [cu3_eq, if_pos (by exact (nI_ltI (b := 10) (by omega) (by decide)).mpr hy)]
      refine (bd_for (e := rsz (gQ sa sb lo x y) 10) (fun z => (rsz (gQ sa sb lo x y) z, nI z)) 10 rfl (fun z hz => ?_) ?_).trans ?_
      · rw [cu2_eq, if_pos (by exact (nI_ltI (b := 10) (by omega) (by decide)).mpr hz)]
        simp only [jn_eq, e1, e2, loss_Y, lsAB, bd_some, ← nI_succ]
        show _ = some (Sum.inl ((if rsz (gQ sa sb lo x y) z = 0 then 0 else @ite _ (gQ sa sb lo x y z) (Classical.propDecidable _) 0 1), _))
        by_cases z0 : rsz (gQ sa sb lo x y) z = 0
        · rw [if_pos z0, if_pos z0]
        · rw [if_neg z0, if_neg z0]
          by_cases q1 : lsA sa sb lo (nI z) (nI y) < lsA sa sb lo (nI x) (nI y)
          · rw [if_pos q1, @if_pos _ (Classical.propDecidable _) (show gQ sa sb lo x y z from Or.inl q1)]
          · rw [if_neg q1]
            by_cases q2 : lsB sa sb lo (nI x) (nI z) < lsB sa sb lo (nI x) (nI y)
            · rw [if_pos q2, @if_pos _ (Classical.propDecidable _) (show gQ sa sb lo x y z from Or.inr q2)]
            · rw [if_neg q2, @if_neg _ (Classical.propDecidable _) (show ¬ gQ sa sb lo x y z from fun k => by rcases k with k | k; exact q1 k; exact q2 k)]
      · rw [cu2_eq, if_neg (by decide)]
      · obtain ⟨w1, w2⟩ := t10 x y hy
        simp only [jn_eq, ← nI_succ]
        have hiff := gF_iff sa sb lo (t := 10 * x + y) (by omega)
        by_cases z : rsz (gQ sa sb lo x y) 10 = 0
        · have g : gF sa sb lo (10 * x + (y + 1)) = gF sa sb lo (10 * x + y) := if_pos (by show rsz (gQ sa sb lo ((10 * x + y) / 10) ((10 * x + y) % 10)) 10 = 0; rw [w1, w2]; exact z)
          rw [if_pos z, if_pos z, g, Int32.add_zero]
        · have g : gF sa sb lo (10 * x + (y + 1)) = ((gF sa sb lo (10 * x + y)).1 + 1, if (gF sa sb lo (10 * x + y)).1 = 0 then nI (10 * x + y) else (gF sa sb lo (10 * x + y)).2) := if_neg (by show ¬ rsz (gQ sa sb lo ((10 * x + y) / 10) ((10 * x + y) % 10)) 10 = 0; rw [w1, w2]; exact z)
          rw [if_neg z, if_neg z, g]
          by_cases z2 : (gF sa sb lo (10 * x + y)).1 = 0
          · rw [if_pos (hiff.mp z2), if_pos z2, show (10 : Int32) = nI 10 from rfl, ni_mul, ni_add]
          · rw [if_neg (fun q => z2 (hiff.mpr q)), if_neg z2]
    · rw [cu3_eq, if_neg (by decide)]
    · rw [cu2_eq, ← nI_succ]
      rfl
  · rw [cu3_eq, if_neg (by decide)]
  · match w, hww with
    | 0, _ => rfl
    | 1, _ => rfl
    | w + 2, h => exact absurd h (by omega)
theorem ok_game (x y z : Int32) : Ok (f_X10_game x y z) (f_X11_game x y z) := by
  intro μ h
  obtain ⟨⟨n, l, r, p, hh, h1, h2, h3, h4, h5⟩, hi, ht, hll, hrf, hq⟩ := id h
  obtain ⟨⟨hn1, hn5, hl, hr, hp⟩, ⟨s0, s1, s2, s4, gr, hgr, s5⟩, c1, c2, c3, c4, c5, c6⟩ := id hh
  obtain ⟨hX, hW⟩ := hx_of hh h1
  rcases twoV x y hn5 with ⟨a, b, ha, hb, hab, rfl, rfl⟩ | hx
  · rcases isN_or z (n := 1 + 1) (by decide) with ⟨w, hw, rfl⟩ | hz
    · obtain ⟨ν, e, i0, i1, i2, i3, i4, i5, i6⟩ := search_X (a := a) (b := b) hX hW
      have hB : ∀ j, ν.1 113 j = μ.1 113 j := fun j => i6 _ _ (by omega)
      refine ok_ask _ ν _ ?_ (game_Y ((hB 0).trans s0) hn5 ha hb hab hw (hy_of hh hB) hW (hB 3)) (h.scr i5 (fun b j hb => i6 _ _ (by omega)) rfl (fun b j hb => cp_ne (by omega)))
      unfold f_X10_game
      rw [hasP_ok (k := 2) (c1.trans s0) hn5 ha hb hab, bd_some, jn_eq, if_neg (by decide), if_neg (nI_pos (by omega)), if_neg (by exact ngt (n := 1) (by omega) (by decide)), e, bd_some, i3, i4]
      match w, hw with
      | 0, _ => rfl
      | 1, _ => rfl
      | w + 2, h => exact absurd h (by omega)
    · refine ok_badr h (r := -10) ?_ (fun ν h5 hB => ?_)
      · unfold f_X10_game
        rw [hasP_ok (k := 2) (c1.trans s0) hn5 ha hb hab, bd_some, jn_eq, if_neg (by decide)]
        by_cases h0 : z < 0
        · rw [if_pos h0, refB, bd2_some]
        · rw [if_neg h0, if_pos (by exact gt_of (n := 1) (by decide) (hz.resolve_left h0)), refB, bd2_some]
      · unfold f_X11_game
        rw [areT_ok ((hB 0).trans s0) hn5 ha hb hab, bd_some, jn_eq, if_neg (by decide), inL_bad (hi := 1) (by decide) (or_of (by decide) hz), bd_some, if_pos rfl, refM0 h5, bd2_some]
  · refine ok_badr h (r := -10) ?_ (fun ν h5 hB => ?_)
    · unfold f_X10_game
      rw [hasP_bad (k := 2) (c1.trans s0) hn5 hx, bd_some, jn_eq, if_pos rfl, refB, bd2_some]
    · unfold f_X11_game
      rw [areT_bad ((hB 0).trans s0) hn5 hx, bd_some, jn_eq, if_pos rfl, refM0 h5, bd2_some]

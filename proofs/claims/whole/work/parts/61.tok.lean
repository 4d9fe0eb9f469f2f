/-! read: tokens of a text, as both sides see them -/
def LN (w : Nat) : Nat := SLEN.getD w 0
def NC (w j : Nat) : Nat := (([[99, 111, 117, 110, 116, 121], [108, 111, 116], [103, 114, 111, 119, 116, 104], [99, 108, 111, 117, 100], [114, 111, 97, 100], [103, 117, 97, 114, 100]] : List (List Nat)).getD w []).getD j 0
/-- the word w stands at s .. e -/
def WI (T : Nat → Nat) (w s e : Nat) : Prop := e - s = LN w ∧ ∀ j, j < LN w → T (s + j) = NC w j
def lett (c : Nat) : Prop := 97 ≤ c ∧ c ≤ 122
def figu (c : Nat) : Prop := 48 ≤ c ∧ c ≤ 57
/-- the longest run from p -/
def Rn (P : Nat → Prop) (L p e : Nat) : Prop := p ≤ e ∧ e ≤ L ∧ (∀ j, p ≤ j → j < e → P j) ∧ (e < L → ¬ P e)
theorem ex_run (P : Nat → Prop) (L : Nat) : ∀ k p, p + k = L → ∃ e, Rn P L p e := by
  intro k
  induction k with
  | zero => intro p h; exact ⟨p, Nat.le_refl _, by omega, fun j h1 h2 => absurd h2 (by omega), fun h2 => absurd h2 (by omega)⟩
  | succ k ih =>
    intro p h
    by_cases hp : P p
    · obtain ⟨e, h1, h2, h3, h4⟩ := ih (p + 1) (by omega)
      refine ⟨e, by omega, h2, fun j j1 j2 => ?_, h4⟩
      by_cases e1 : j = p
      · subst e1; exact hp
      · exact h3 j (by omega) j2
    · exact ⟨p, Nat.le_refl _, by omega, fun j h1 h2 => absurd h2 (by omega), fun _ => hp⟩
/-- the number of one or two figures -/
def nv (T : Nat → Nat) (s e : Nat) : Nat := if e - s = 1 then T s - 48 else 10 * (T s - 48) + (T (s + 1) - 48)
/-- the token behind p: first byte s, behind it e, sort k (0 END, 1 word, 2 number, 3 stop, 4 strange), value v -/
def Tok (T : Nat → Nat) (L p s e k v : Nat) : Prop := Rn (fun j => T j = 32) L p s ∧
  ((s = L ∧ e = L ∧ k = 0 ∧ v = 0) ∨
   (s < L ∧ lett (T s) ∧ Rn (fun j => lett (T j)) L s e ∧ ((k = 1 ∧ v < 6 ∧ WI T v s e) ∨ (k = 4 ∧ v = 0 ∧ ∀ w, w < 6 → ¬ WI T w s e))) ∨
   (s < L ∧ figu (T s) ∧ Rn (fun j => figu (T j)) L s e ∧ ((k = 2 ∧ e - s ≤ 2 ∧ v = nv T s e) ∨ (k = 4 ∧ v = 0 ∧ 2 < e - s))) ∨
   (s < L ∧ ¬ lett (T s) ∧ ¬ figu (T s) ∧ e = s + 1 ∧ v = 0 ∧ ((k = 3 ∧ T s = 59) ∨ (k = 4 ∧ T s ≠ 59))))
theorem ex_tok (T : Nat → Nat) {L p : Nat} (hp : p ≤ L) : ∃ s e k v, Tok T L p s e k v := by
  obtain ⟨s, hs⟩ := ex_run (fun j => T j = 32) L (L - p) p (by omega)
  have hsL := hs.2.1
  rcases Nat.lt_or_ge s L with h | h
  · by_cases h1 : lett (T s)
    · obtain ⟨e, he⟩ := ex_run (fun j => lett (T j)) L (L - s) s (by omega)
      by_cases h2 : ∃ w, w < 6 ∧ WI T w s e
      · obtain ⟨w, w1, w2⟩ := h2
        exact ⟨s, e, 1, w, hs, Or.inr (Or.inl ⟨h, h1, he, Or.inl ⟨rfl, w1, w2⟩⟩)⟩
      · exact ⟨s, e, 4, 0, hs, Or.inr (Or.inl ⟨h, h1, he, Or.inr ⟨rfl, rfl, fun w w1 w2 => h2 ⟨w, w1, w2⟩⟩⟩)⟩
    · by_cases h2 : figu (T s)
      · obtain ⟨e, he⟩ := ex_run (fun j => figu (T j)) L (L - s) s (by omega)
        rcases Nat.lt_or_ge 2 (e - s) with h3 | h3
        · exact ⟨s, e, 4, 0, hs, Or.inr (Or.inr (Or.inl ⟨h, h2, he, Or.inr ⟨rfl, rfl, h3⟩⟩))⟩
        · exact ⟨s, e, 2, nv T s e, hs, Or.inr (Or.inr (Or.inl ⟨h, h2, he, Or.inl ⟨rfl, h3, rfl⟩⟩))⟩
      · by_cases h3 : T s = 59
        · exact ⟨s, s + 1, 3, 0, hs, Or.inr (Or.inr (Or.inr ⟨h, h1, h2, rfl, rfl, Or.inl ⟨rfl, h3⟩⟩))⟩
        · exact ⟨s, s + 1, 4, 0, hs, Or.inr (Or.inr (Or.inr ⟨h, h1, h2, rfl, rfl, Or.inr ⟨rfl, h3⟩⟩))⟩
  · exact ⟨s, L, 0, 0, hs, Or.inl ⟨by omega, rfl, rfl, rfl⟩⟩
/-- a run's first byte is in it -/
theorem Rn.pos {P : Nat → Prop} {L s e : Nat} (h : Rn P L s e) (hs : s < L) (h1 : P s) : s < e := by
  obtain ⟨a1, a2, a3, a4⟩ := h
  rcases Nat.lt_or_ge s e with q | q
  · exact q
  · have : s = e := by omega
    subst this
    exact absurd h1 (a4 hs)
/-- how far a token goes -/
theorem Tok.far {T : Nat → Nat} {L p s e k v : Nat} (h : Tok T L p s e k v) : p ≤ s ∧ s ≤ e ∧ e ≤ L ∧ k ≤ 4 ∧ (k ≠ 0 → s + 1 ≤ e) ∧ (k = 1 → v < 6 ∧ p + LN v ≤ e) := by
  obtain ⟨⟨b1, b2, b3, b4⟩, h⟩ := h
  rcases h with ⟨rfl, rfl, rfl, rfl⟩ | ⟨h1, h2, h3, h4⟩ | ⟨h1, h2, h3, h4⟩ | ⟨h1, h2, h3, rfl, rfl, h4⟩
  · exact ⟨b1, Nat.le_refl _, Nat.le_refl _, by omega, fun q => absurd rfl q, fun q => absurd q (by decide)⟩
  · have h5 := h3.pos h1 h2
    have h6 := h3.2.1
    rcases h4 with ⟨rfl, h7, h8⟩ | ⟨rfl, rfl, h7⟩
    · have := h8.1
      exact ⟨b1, by omega, h6, by omega, fun _ => by omega, fun _ => ⟨h7, by omega⟩⟩
    · exact ⟨b1, by omega, h6, by omega, fun _ => by omega, fun q => absurd q (by decide)⟩
  · have h5 := h3.pos h1 h2
    have h6 := h3.2.1
    rcases h4 with ⟨rfl, h7, h8⟩ | ⟨rfl, rfl, h7⟩
    · exact ⟨b1, by omega, h6, by omega, fun _ => by omega, fun q => absurd q (by decide)⟩
    · exact ⟨b1, by omega, h6, by omega, fun _ => by omega, fun q => absurd q (by decide)⟩
  · rcases h4 with ⟨rfl, h7⟩ | ⟨rfl, h7⟩
    · exact ⟨b1, by omega, by omega, by omega, fun _ => by omega, fun q => absurd q (by decide)⟩
    · exact ⟨b1, by omega, by omega, by omega, fun _ => by omega, fun q => absurd q (by decide)⟩
theorem Tok.num {T : Nat → Nat} {L p s e v : Nat} (h : Tok T L p s e 2 v) : v ≤ 99 := by
  obtain ⟨_, h⟩ := h
  rcases h with ⟨_, _, h, _⟩ | ⟨_, _, _, h⟩ | ⟨h1, h2, h3, h4⟩ | ⟨_, _, _, _, _, h⟩
  · omega
  · omega
  · rcases h4 with ⟨_, h7, h8⟩ | ⟨h7, _⟩
    · have h5 := h3.pos h1 h2
      have f1 : figu (T s) := h2
      unfold nv at h8
      split at h8
      · have := f1.2
        omega
      · have f2 : figu (T (s + 1)) := h3.2.2.1 (s + 1) (by omega) (by omega)
        have := f1.2
        have := f2.2
        omega
    · omega
  · omega
theorem ln_w : ∀ w, w < 6 → 1 ≤ LN w ∧ LN w ≤ 6 := by decide +kernel
theorem wi_pair : ∀ w, w < 6 → ∀ u, u < 6 → LN w = LN u → NC w 0 = NC u 0 → w = u := by decide +kernel
theorem WI.uniq {T : Nat → Nat} {w u s e : Nat} (h : WI T w s e) (h' : WI T u s e) (hw : w < 6) (hu : u < 6) : w = u := by
  have l1 := ln_w w hw
  have l2 := ln_w u hu
  exact wi_pair w hw u hu (h.1.symm.trans h'.1) ((h.2 0 (by omega)).symm.trans (h'.2 0 (by omega)))
/-! the letters as a number of base 32 -/
def vl (T : Nat → Nat) (s : Nat) : Nat → Nat
  | 0 => 0
  | n + 1 => 32 * vl T s n + (T (s + n) - 96)
theorem vl_s (T : Nat → Nat) (s n : Nat) : vl T s (n + 1) = 32 * vl T s n + (T (s + n) - 96) := rfl
theorem vl_lt {T : Nat → Nat} {s : Nat} : ∀ n, (∀ j, j < n → lett (T (s + j))) → vl T s n < 32 ^ n := by
  intro n
  induction n with
  | zero => intro _; exact Nat.one_pos
  | succ n ih =>
    intro h
    have h1 := ih (fun j hj => h j (by omega))
    have h2 := (h n (by omega)).2
    rw [vl_s, Nat.pow_succ]
    omega
theorem vl_congr {T U : Nat → Nat} {s u : Nat} : ∀ n, (∀ j, j < n → T (s + j) = U (u + j)) → vl T s n = vl U u n := by
  intro n
  induction n with
  | zero => intro _; rfl
  | succ n ih => intro h; rw [vl_s, vl_s, ih (fun j hj => h j (by omega)), h n (by omega)]
theorem vl_inj {T U : Nat → Nat} {s u : Nat} : ∀ n m, (∀ j, j < n → lett (T (s + j))) → (∀ j, j < m → lett (U (u + j))) → vl T s n = vl U u m → n = m ∧ ∀ j, j < n → T (s + j) = U (u + j) := by
  intro n
  induction n with
  | zero =>
    intro m h1 h2 h
    cases m with
    | zero => exact ⟨rfl, fun j hj => absurd hj (Nat.not_lt_zero j)⟩
    | succ m =>
      have := (h2 m (by omega)).1
      rw [vl_s] at h
      have h0 : vl T s 0 = 0 := rfl
      omega
  | succ n ih =>
    intro m h1 h2 h
    cases m with
    | zero =>
      have := (h1 n (by omega)).1
      rw [vl_s] at h
      have h0 : vl U u 0 = 0 := rfl
      omega
    | succ m =>
      have a := h1 n (by omega)
      have b := h2 m (by omega)
      unfold lett at a b
      rw [vl_s, vl_s] at h
      obtain ⟨e1, e2⟩ := ih m (fun j hj => h1 j (by omega)) (fun j hj => h2 j (by omega)) (by omega)
      refine ⟨by omega, fun j hj => ?_⟩
      by_cases q : j = n
      · subst q
        subst e1
        omega
      · exact e2 j (by omega)
def CD (w : Nat) : Nat := ([117095065, 12788, 254271112, 3554980, 605220, 8029764] : List Nat).getD w 0
theorem cd_ok : ∀ w, w < 6 → vl (NC w) 0 (LN w) = CD w := by decide +kernel
theorem nc_let : ∀ w, w < 6 → ∀ j, j < LN w → 97 ≤ NC w (0 + j) ∧ NC w (0 + j) ≤ 122 := by decide +kernel
theorem WI_iff {T : Nat → Nat} {w s e : Nat} (hw : w < 6) (hT : ∀ j, j < e - s → lett (T (s + j))) : WI T w s e ↔ vl T s (e - s) = CD w := by
  rw [← cd_ok w hw]
  constructor
  · intro h
    rw [h.1]
    exact vl_congr _ (fun j hj => by rw [Nat.zero_add]; exact h.2 j hj)
  · intro h
    obtain ⟨h1, h2⟩ := vl_inj _ _ hT (nc_let w hw) h
    exact ⟨h1, fun j hj => by have := h2 j (by omega); rwa [Nat.zero_add] at this⟩
/-- a loop along a run -/
theorem lp_run {σ ε : Type} {F : σ → Option (σ ⊕ ε)} (I : Nat → σ → Prop) (J : ε → Prop) {p e : Nat} (hpe : p ≤ e) (hs : ∀ j s, p ≤ j → j < e → I j s → ∃ s', F s = some (.inl s') ∧ I (j + 1) s') (he : ∀ s, I e s → ∃ x, F s = some (.inr x) ∧ J x) {s : σ} (h0 : I p s) : ∃ x, lp F s = some x ∧ J x :=
  lp_inv (fun i => I (p + i)) J (e - p) (fun i s hi h => Or.inl (hs (p + i) s (by omega) (by omega) h)) (fun s h => he s (by rw [show p + (e - p) = e by omega] at h; exact h)) h0

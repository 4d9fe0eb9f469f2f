/-! What the class's half and the reference's half of the memory have in common -/
def HeadP (k : Nat) (M : Nat → Nat → Int32) (B : Nat → Int32) (n l r p : Nat) : Prop := (1 ≤ n ∧ n ≤ 5 ∧ l ≤ 10 ∧ r ≤ 10 ∧ p ≤ 10) ∧ (B 0 = nI n ∧ B 1 = nI l ∧ B 2 = nI r ∧ B 4 = nI p ∧ ∃ g, g ≤ 9 ∧ B 5 = nI g) ∧ (M (k + 1) 0 = B 0 ∧ M (k + 1) 1 = B 1 ∧ M (k + 1) 2 = B 3 ∧ M (k + 1) 3 = B 5 ∧ M (k + 6) 0 = B 2 ∧ M (k + 9) 0 = B 4)
def LotsP (k : Nat) (M : Nat → Nat → Int32) (B : Nat → Int32) (n l : Nat) : Prop := ∀ i, i < l → (∃ c, c ≤ 5 ∧ B (6 + i) = nI c ∧ M (k + 2) i = nI c) ∧ (∃ v, v < n ∧ B (16 + i) = nI v ∧ M (k + 3) i = nI v) ∧ ∃ h, h ≤ 99 ∧ B (26 + i) = nI h ∧ M (k + 4) i = nI h
def OddsP (k : Nat) (M : Nat → Nat → Int32) (B : Nat → Int32) : Prop := ∀ i, i < 5 → ∃ c, c ≤ 10 ∧ B (36 + i) = nI c ∧ M (k + 12) i = nI c
def ToldP (k : Nat) (M : Nat → Nat → Int32) (B : Nat → Int32) : Prop := ∀ i, i < 3 → ∃ t, t ≤ 999 ∧ B (71 + i) = nI t ∧ M (k + 13) i = nI t
def RoadsP (k : Nat) (M : Nat → Nat → Int32) (B : Nat → Int32) (n r : Nat) : Prop := ∃ gd, gd < 2 ^ r ∧ M (k + 6) 3 = nI gd ∧ (∀ i, i < r → ∃ a b, a < n ∧ b < n ∧ a ≠ b ∧ B (41 + 3 * i) = nI a ∧ B (41 + 3 * i + 1) = nI b ∧ M (k + 7) i = nI a ∧ M (k + 8) i = nI b ∧ B (41 + 3 * i + 2) = if gd.testBit i then 1 else 0) ∧ ∀ i j, i < r → j < r → i ≠ j → ¬ (B (41 + 3 * i) = B (41 + 3 * j) ∧ B (41 + 3 * i + 1) = B (41 + 3 * j + 1)) ∧ ¬ (B (41 + 3 * i) = B (41 + 3 * j + 1) ∧ B (41 + 3 * i + 1) = B (41 + 3 * j))
def PastP (k : Nat) (M : Nat → Nat → Int32) (B : Nat → Int32) (l p : Nat) : Prop := ∀ i, i < p → M (k + 10) i = B (74 + 11 * i) ∧ ∀ j, j < l → ∃ h, h ≤ 99 ∧ B (74 + 11 * i + 1 + j) = nI h ∧ M (k + 11) (10 * i + j) = nI h
def CRn (k : Nat) (M : Nat → Nat → Int32) (B : Nat → Int32) (n l r p : Nat) : Prop := HeadP k M B n l r p ∧ LotsP k M B n l ∧ OddsP k M B ∧ ToldP k M B ∧ RoadsP k M B n r ∧ PastP k M B l p
def CR (k : Nat) (M : Nat → Nat → Int32) (B : Nat → Int32) : Prop := ∃ n l r p, CRn k M B n l r p
def Txt (M : Nat → Nat → Int32) : Prop := ∃ t, t ≤ 150 ∧ M 45 1 = nI t ∧ M 112 9 = nI t ∧ ∀ j, j < t → ∃ c, c ≤ 127 ∧ M 46 j = nI c ∧ M 118 j = nI c
def Img (M : Nat → Nat → Int32) : Prop := ∀ i, i < 2 → M 44 i = M 115 i ∧ (M 44 i = 0 ∨ M 44 i = 1) ∧ (M 44 i = 1 → CR (16 + 14 * i) M (fun j => M 114 (184 * i + j)))
def Rel (μ : Mem) : Prop := CR 1 μ.1 (fun j => μ.1 113 j) ∧ Img μ.1 ∧ Txt μ.1 ∧ (μ.2 0 10 = μ.2 112 6 ∧ μ.2 0 11 = μ.2 112 7) ∧ (μ.1 0 12 = μ.1 117 0 ∧ μ.1 0 13 = μ.1 117 1 ∧ μ.1 0 14 = μ.1 117 2 ∧ ¬ μ.1 50 0 < 0) ∧ μ.1 112 5 = 0
section OFS
variable {k k' : Nat} {M M' : Nat → Nat → Int32} {B B' : Nat → Int32} {n l r p : Nat}
theorem HeadP.of (h : HeadP k M B n l r p) (hM : ∀ j, j < 4 → M' (k' + 1) j = M (k + 1) j) (h6 : M' (k' + 6) 0 = M (k + 6) 0) (h9 : M' (k' + 9) 0 = M (k + 9) 0) (hB : ∀ j, j < 6 → B' j = B j) : HeadP k' M' B' n l r p := by
  obtain ⟨h1, ⟨s0, s1, s2, s4, s5⟩, c1, c2, c3, c4, c5, c6⟩ := h
  exact ⟨h1, ⟨by rw [hB 0 (by decide)]; exact s0, by rw [hB 1 (by decide)]; exact s1, by rw [hB 2 (by decide)]; exact s2, by rw [hB 4 (by decide)]; exact s4, by rw [hB 5 (by decide)]; exact s5⟩, by rw [hB 0 (by decide), hM 0 (by decide)]; exact c1, by rw [hB 1 (by decide), hM 1 (by decide)]; exact c2, by rw [hB 3 (by decide), hM 2 (by decide)]; exact c3, by rw [hB 5 (by decide), hM 3 (by decide)]; exact c4, by rw [hB 2 (by decide), h6]; exact c5, by rw [hB 4 (by decide), h9]; exact c6⟩
theorem LotsP.of (h : LotsP k M B n l) (hl : l ≤ 10) (hM : ∀ c, 2 ≤ c → c ≤ 4 → ∀ i, i < l → M' (k' + c) i = M (k + c) i) (hB : ∀ j, 6 ≤ j → j < 36 → B' j = B j) : LotsP k' M' B' n l := by
  intro i hi
  rw [hB _ (by omega) (by omega), hB _ (by omega) (by omega), hB _ (by omega) (by omega), hM 2 (by decide) (by decide) i hi, hM 3 (by decide) (by decide) i hi, hM 4 (by decide) (by decide) i hi]
  exact h i hi
theorem OddsP.of (h : OddsP k M B) (hM : ∀ i, i < 5 → M' (k' + 12) i = M (k + 12) i) (hB : ∀ j, 36 ≤ j → j < 41 → B' j = B j) : OddsP k' M' B' := by
  intro i hi
  rw [hB _ (by omega) (by omega), hM i hi]
  exact h i hi
theorem ToldP.of (h : ToldP k M B) (hM : ∀ i, i < 3 → M' (k' + 13) i = M (k + 13) i) (hB : ∀ j, 71 ≤ j → j < 74 → B' j = B j) : ToldP k' M' B' := by
  intro i hi
  rw [hB _ (by omega) (by omega), hM i hi]
  exact h i hi
theorem RoadsP.of (h : RoadsP k M B n r) (hr : r ≤ 10) (hg : M' (k' + 6) 3 = M (k + 6) 3) (hM : ∀ c, 7 ≤ c → c ≤ 8 → ∀ i, i < r → M' (k' + c) i = M (k + c) i) (hB : ∀ j, 41 ≤ j → j < 71 → B' j = B j) : RoadsP k' M' B' n r := by
  obtain ⟨gd, g1, g2, g3, g4⟩ := h
  refine ⟨gd, g1, by rw [hg]; exact g2, fun i hi => ?_, fun i j hi hj hij => ?_⟩
  · rw [hB _ (by omega) (by omega), hB _ (by omega) (by omega), hB _ (by omega) (by omega), hM 7 (by decide) (by decide) i hi, hM 8 (by decide) (by decide) i hi]
    exact g3 i hi
  · rw [hB _ (by omega) (by omega), hB _ (by omega) (by omega), hB _ (by omega) (by omega), hB _ (by omega) (by omega)]
    exact g4 i j hi hj hij
theorem PastP.of (h : PastP k M B l p) (hl : l ≤ 10) (hp : p ≤ 10) (hM : ∀ c, 10 ≤ c → c ≤ 11 → ∀ i, M' (k' + c) i = M (k + c) i) (hB : ∀ j, 74 ≤ j → j < 184 → B' j = B j) : PastP k' M' B' l p := by
  intro i hi
  rw [hB _ (by omega) (by omega), hM 10 (by decide) (by decide)]
  refine ⟨(h i hi).1, fun j hj => ?_⟩
  rw [hB _ (by omega) (by omega), hM 11 (by decide) (by decide)]
  exact (h i hi).2 j hj
/-- the county's places are as they were -/
theorem CR.of (h : CR k M B) (hM : ∀ c, c < 14 → c ≠ 5 → ∀ j, M' (k' + c) j = M (k + c) j) (hB : ∀ j, j < 184 → B' j = B j) : CR k' M' B' := by
  obtain ⟨n, l, r, p, hh, h1, h2, h3, h4, h5⟩ := h
  have hl := hh.1.2.2.1
  have hr := hh.1.2.2.2.1
  have hp := hh.1.2.2.2.2
  exact ⟨n, l, r, p, hh.of (fun j _ => hM 1 (by decide) (by decide) j) (hM 6 (by decide) (by decide) 0) (hM 9 (by decide) (by decide) 0) (fun j hj => hB j (by omega)), h1.of hl (fun c _ _ i _ => hM c (by omega) (by omega) i) (fun j _ _ => hB j (by omega)), h2.of (fun i _ => hM 12 (by decide) (by decide) i) (fun j _ _ => hB j (by omega)), h3.of (fun i _ => hM 13 (by decide) (by decide) i) (fun j _ _ => hB j (by omega)), h4.of hr (hM 6 (by decide) (by decide) 3) (fun c _ _ i _ => hM c (by omega) (by omega) i) (fun j _ _ => hB j (by omega)), h5.of hl hp (fun c _ _ i => hM c (by omega) (by omega) i) (fun j _ _ => hB j (by omega))⟩
end OFS
/-- which ints matter -/
def relv (p j : Nat) : Bool := (p == 50 && j == 0) || (p == 0 && (j == 12 || j == 13 || j == 14)) || (decide (1 ≤ p) && decide (p ≤ 44) && !(p == 6)) || (p == 45 && j == 1) || p == 46 || p == 113 || p == 114 || p == 115 || p == 117 || p == 118 || (p == 112 && (j == 5 || j == 9))
/-- ints that matter, but the county's at hand -/
def relo (p j : Nat) : Bool := relv p j && !(decide (1 ≤ p) && decide (p ≤ 14)) && !(p == 113)
theorem relo_ne {p j : Nat} (h : relo p j = true) : ¬ (1 ≤ p ∧ p ≤ 14) ∧ p ≠ 113 := by
  simp [relo] at h
  omega
theorem Rel.now {μ ν : Mem} (h : Rel μ) (hv : ∀ p j, relo p j = true → ν.1 p j = μ.1 p j) (h2 : ν.2 0 = μ.2 0 ∧ ν.2 112 = μ.2 112) (hc : CR 1 ν.1 (fun j => ν.1 113 j)) : Rel ν := by
  obtain ⟨-, hi, ⟨t, ht, t1, t2, t3⟩, hl, hr, hq⟩ := h
  refine ⟨hc, fun i hi2 => ?_, ⟨t, ht, ?_, ?_, fun j hj => ?_⟩, ?_, ?_, ?_⟩
  · obtain ⟨i1, i2, i3⟩ := hi i hi2
    rw [hv 44 i rfl, hv 115 i rfl]
    refine ⟨i1, i2, fun h => (i3 h).of (fun c hc5 hc6 j => hv _ _ ?_) (fun j hj => hv 114 _ rfl)⟩
    simp [relo, relv]
    omega
  · rw [hv 45 1 rfl]; exact t1
  · rw [hv 112 9 rfl]; exact t2
  · rw [hv 46 j rfl, hv 118 j rfl]; exact t3 j hj
  · rw [h2.1, h2.2]; exact hl
  · rw [hv 0 12 rfl, hv 0 13 rfl, hv 0 14 rfl, hv 117 0 rfl, hv 117 1 rfl, hv 117 2 rfl, hv 50 0 rfl]; exact hr
  · rw [hv 112 5 rfl]; exact hq
theorem Rel.frame {μ ν : Mem} (h : Rel μ) (hv : ∀ p j, relv p j = true → ν.1 p j = μ.1 p j) (h2 : ν.2 0 = μ.2 0 ∧ ν.2 112 = μ.2 112) : Rel ν := by
  refine h.now (fun p j hp => hv p j ?_) h2 (h.1.of (fun c hc hc5 j => hv _ _ ?_) (fun j _ => hv 113 j rfl))
  · simp only [relo, Bool.and_eq_true] at hp
    exact hp.1.1
  · simp [relv]
    omega
/-- all stays but the numbers of refusals -/
theorem Rel.ref {μ ν : Mem} (h : Rel μ) (hv : ∀ p j, p ≠ 0 → p ≠ 117 → ν.1 p j = μ.1 p j) (h2 : ν.2 = μ.2) (hr : ν.1 0 12 = ν.1 117 0 ∧ ν.1 0 13 = ν.1 117 1 ∧ ν.1 0 14 = ν.1 117 2) : Rel ν := by
  obtain ⟨hc, hi, ⟨t, ht, t1, t2, t3⟩, hl, ⟨-, -, -, h50⟩, hq⟩ := h
  refine ⟨hc.of (fun c hc1 _ j => hv _ _ (by omega) (by omega)) (fun j _ => hv _ _ (by decide) (by decide)), fun i hi2 => ?_, ⟨t, ht, ?_, ?_, fun j hj => ?_⟩, by rw [h2]; exact hl, ⟨hr.1, hr.2.1, hr.2.2, by rw [hv _ _ (by decide) (by decide)]; exact h50⟩, by rw [hv _ _ (by decide) (by decide)]; exact hq⟩
  · obtain ⟨i1, i2, i3⟩ := hi i hi2
    rw [hv 44 i (by decide) (by decide), hv 115 i (by decide) (by decide)]
    exact ⟨i1, i2, fun h => (i3 h).of (fun c hc1 _ j => hv _ _ (by omega) (by omega)) (fun j _ => hv _ _ (by decide) (by decide))⟩
  · rw [hv _ _ (by decide) (by decide)]; exact t1
  · rw [hv _ _ (by decide) (by decide)]; exact t2
  · rw [hv _ _ (by decide) (by decide), hv _ _ (by decide) (by decide)]; exact t3 j hj
theorem Rel.bad {μ : Mem} (h : Rel μ) : Rel (refM (badX μ) 0) := by
  obtain ⟨r0, r1, r2, _⟩ := h.2.2.2.2.1
  exact h.ref (fun p j h1 h2 => by simp [refM, badX, si_1, h1, h2]) rfl ⟨by simpa [refM, badX, si_1] using r0, by simpa [refM, badX, si_1] using r1, by simpa [refM, badX, si_1] using r2⟩
theorem Rel.no {μ : Mem} (h : Rel μ) : Rel (refM (noX μ) 1) := by
  obtain ⟨r0, r1, r2, _⟩ := h.2.2.2.2.1
  exact h.ref (fun p j h1 h2 => by simp [refM, noX, si_1, h1, h2]) rfl ⟨by simpa [refM, noX, si_1] using r0, by simpa [refM, noX, si_1] using r1, by simpa [refM, noX, si_1] using r2⟩
theorem Rel.full {μ : Mem} (h : Rel μ) : Rel (refM (fullX μ) 2) := by
  obtain ⟨r0, r1, r2, _⟩ := h.2.2.2.2.1
  exact h.ref (fun p j h1 h2 => by simp [refM, fullX, si_1, h1, h2]) rfl ⟨by simpa [refM, fullX, si_1] using r0, by simpa [refM, fullX, si_1] using r1, by simpa [refM, fullX, si_1] using r2⟩
/-- one call: answers alike, the halves as before -/
def Ok (X : Mem → Option (Int32 × Mem)) (Y : Mem → Option (Int32 × Mem)) : Prop := ∀ μ, Rel μ → ∃ r ν1 ν2, X μ = some (r, ν1) ∧ Y ν1 = some (r, ν2) ∧ Rel ν2
theorem quiet_bad {μ : Mem} (h : Rel μ) : (badX μ).1 112 5 = 0 := by simpa [badX, si_1] using h.2.2.2.2.2
theorem quiet_no {μ : Mem} (h : Rel μ) : (noX μ).1 112 5 = 0 := by simpa [noX, si_1] using h.2.2.2.2.2
theorem quiet_full {μ : Mem} (h : Rel μ) : (fullX μ).1 112 5 = 0 := by simpa [fullX, si_1] using h.2.2.2.2.2

/-! least -/
def uW (W : Nat → Int32) (i : Nat) (x : Int32) : Nat → Int32 := fun j => if j = i then x else W j
theorem uW_eq {W : Nat → Int32} {i : Nat} {x : Int32} : uW W i x i = x := if_pos rfl
theorem uW_ne {W : Nat → Int32} {i j : Nat} {x : Int32} (h : j ≠ i) : uW W i x j = W j := if_neg h
theorem uW_back {W : Nat → Int32} {i : Nat} {x y : Int32} (h : W i = y) : uW (uW W i x) i y = W := by
  funext j
  by_cases e : j = i
  · rw [e, uW_eq, h]
  · rw [uW_ne e, uW_ne e]
theorem sgt_upd {f g : Nat → Int32} {i : Nat} (h : ∀ j, j ≠ i → g j = f j) : ∀ l, (l ≤ i → sgt g l = sgt f l) ∧ (i < l → sgt g l = sgt f l - f i + g i)
  | 0 => ⟨fun _ => rfl, fun q => absurd q (by omega)⟩
  | l + 1 => by
    obtain ⟨a, b⟩ := sgt_upd h l
    constructor
    · intro q
      show sgt g l + g l = sgt f l + f l
      rw [a (by omega), h l (by omega)]
    · intro q
      show sgt g l + g l = sgt f l + f l - f i + g i
      by_cases e : l = i
      · subst e
        rw [a (Nat.le_refl _), Int32.add_sub_cancel]
      · rw [b (by omega), h l e, Int32.sub_eq_add_neg, Int32.sub_eq_add_neg, Int32.add_assoc, Int32.add_assoc, Int32.add_assoc, Int32.add_assoc, Int32.add_comm (g i) (f l), ← Int32.add_assoc (-f i), Int32.add_comm (-f i) (f l), Int32.add_assoc (f l)]
noncomputable def tkw (K W H : Nat → Int32) (m : Int32) (l n : Nat) (c : Int32) : Int32 := if fiO K W H m l n c = -1 then 0 else tl K W H l (fiO K W H m l n c)
def wg (t p q : Int32) (s : Int32 × Int32 × Int32) : Int32 × Int32 × Int32 := if t < s.1 then (t, p, q) else s
noncomputable def lmS (K H : Nat → Int32) (m : Int32) (l n : Nat) (c : Int32) (W : Nat → Int32) (mk : Nat → Int32 × Int32) (a : Nat) (s : Int32 × Int32 × Int32) : Int32 × Int32 × Int32 := if a / 10 < l ∧ a % 10 < n ∧ ¬ nI (a % 10) = W (a / 10) then wg (tkw K (uW W (a / 10) (nI (a % 10))) H m l n c) (mk a).1 (mk a).2 s else s
def itf {S : Type} (f : Nat → S → S) (a : Nat) : Nat → S → S
  | 0, s => s
  | d + 1, s => f (a + d) (itf f a d s)
theorem itf_skip {S : Type} {f : Nat → S → S} {a d : Nat} {s : S} : ∀ e, (∀ b, a + d ≤ b → b < a + d + e → ∀ s, f b s = s) → itf f a (d + e) s = itf f a d s
  | 0, _ => rfl
  | e + 1, h => by
    show f (a + (d + e)) (itf f a (d + e) s) = _
    rw [h _ (by omega) (by omega), itf_skip e (fun b h1 h2 => h b h1 (by omega))]
section LEAST
variable {K W H : Nat → Int32} {m : Int32} {l n c : Nat} {μ : Mem}
theorem HW.up (hw : HW n l K W H) {i v : Nat} (hv : v < n) : HW n l K (uW W i (nI v)) H := ⟨hw.1, fun j hj => ⟨(hw.2 j hj).1, by
  by_cases e : j = i
  · rw [e, uW_eq]; exact ⟨v, hv, rfl⟩
  · rw [uW_ne e]; exact (hw.2 j hj).2.1, (hw.2 j hj).2.2⟩⟩
theorem sg_up {i v a b : Nat} (hi : i < l) (ha : W i = nI a) : sg K (uW W i (nI b)) H m l (nI v) = sg K W H m l (nI v) - (if nI a = nI v then sn (K i) (H i) m else 0) + (if nI b = nI v then sn (K i) (H i) m else 0) := by
  unfold sg
  rw [(sgt_upd (i := i) (f := fun i => if W i = nI v then sn (K i) (H i) m else 0) (g := fun j => if uW W i (nI b) j = nI v then sn (K j) (H j) m else 0) (fun j hj => by (try dsimp only); rw [uW_ne hj]) l).2 hi]
  (try dsimp only)
  rw [uW_eq, ha]
theorem tl_up {i v a b : Nat} (hi : i < l) (ha : W i = nI a) : tl K (uW W i (nI b)) H l (nI v) = tl K W H l (nI v) - (if nI a = nI v then tk (K i) (H i) else 0) + (if nI b = nI v then tk (K i) (H i) else 0) := by
  unfold tl
  rw [(sgt_upd (i := i) (f := fun i => if W i = nI v then tk (K i) (H i) else 0) (g := fun j => if uW W i (nI b) j = nI v then tk (K j) (H j) else 0) (fun j hj => by (try dsimp only); rw [uW_ne hj]) l).2 hi]
  (try dsimp only)
  rw [uW_eq, ha]
/-- the class's row of moves -/
def LI (K W H : Nat → Int32) (m : Int32) (l n c : Nat) (μ : Mem) (W' : Nat → Int32) (s : Int32 × Int32 × Int32) (ν : Mem) : Prop := HX 73 ν.1 n l K W H m ∧ ν.1 72 1 = nI c ∧ (∀ v, v < n → ν.1 78 v = sg K W' H m l (nI v) ∧ ν.1 79 v = tl K W' H l (nI v)) ∧ (ν.1 72 4 = s.1 ∧ ν.1 72 5 = s.2.1 ∧ ν.1 72 6 = s.2.2) ∧ ν.2 = μ.2 ∧ ∀ b j, ¬ (72 ≤ b ∧ b ≤ 79) → ν.1 b j = μ.1 b j
theorem shift_X {W' : Nat → Int32} {s : Int32 × Int32 × Int32} {ν : Mem} {i a b : Nat} (h : LI K W H m l n c μ W' s ν) (hw : HW n l K W H) (hi : i < l) (ha : a < n) (hb : b < n) (hab : a ≠ b) (e : W' i = nI a) : ∃ ν', f_X5_shift (nI i) (nI a) (nI b) ν = some ν' ∧ LI K W H m l n c μ (uW W' i (nI b)) s ν' := by
  obtain ⟨hx, h1, h2, h3, h4, h5⟩ := h
  have hn := hw.1.2.1
  have hl := hw.1.2.2
  have S : ∀ ν : Mem, HX 73 ν.1 n l K W H m → f_X3_seenOf 73 (nI i) ν = some (sn (K i) (H i) m) := fun ν hx => by
    obtain ⟨x1, x2, x3⟩ := hx.2.2.2 i hi
    unfold f_X3_seenOf
    rw [chk_nI (by omega) (by decide), chk_nI (by omega) (by decide), ix_nI (by omega), x1, x3, hx.2.2.1, sn_X, bd_some]
  have T : ∀ ν : Mem, HX 73 ν.1 n l K W H m → f_X3_takenOf 73 (nI i) ν = some (tk (K i) (H i)) := fun ν hx => by
    obtain ⟨x1, x2, x3⟩ := hx.2.2.2 i hi
    unfold f_X3_takenOf
    rw [chk_nI (by omega) (by decide), chk_nI (by omega) (by decide), ix_nI (by omega), x1, x3, tk_X, bd_some]
  have P : ∀ (ν : Mem) (p j : Nat) (x : Int32), 78 ≤ p → HX 73 ν.1 n l K W H m → HX 73 (setI ν p j x).1 n l K W H m := fun ν p j x hp hx => hx.of (fun j => si_ne (by omega)) (fun b j _ _ => si_ne (by omega))
  have x2 := P ν 78 a (ν.1 78 a - sn (K i) (H i) m) (by omega) hx
  have x4 := P _ 78 b ((setI ν 78 a (ν.1 78 a - sn (K i) (H i) m)).1 78 b + sn (K i) (H i) m) (by omega) x2
  have x6 := P _ 79 a ((setI (setI ν 78 a (ν.1 78 a - sn (K i) (H i) m)) 78 b ((setI ν 78 a (ν.1 78 a - sn (K i) (H i) m)).1 78 b + sn (K i) (H i) m)).1 79 a - tk (K i) (H i)) (by omega) x4
  unfold f_X5_shift
  rw [chk_nI (by omega) (by decide), S ν hx, bd_some, chk_nI (by omega) (by decide), lt_eq, chk_nI (by omega) (by decide), ix_nI (i := a) (by omega), ix_nI (i := b) (by omega), S _ x2, bd_some, chk_nI (by omega) (by decide), lt_eq, chk_nI (by omega) (by decide), T _ x4, bd_some, chk_nI (by omega) (by decide), lt_eq, chk_nI (by omega) (by decide), T _ x6, bd_some, chk_nI (by omega) (by decide), lt_eq]
  refine ⟨_, rfl, P _ _ _ _ (by omega) x6, by ((try dsimp only); (repeat (first | rw [si_eq] | rw [si_ne (by omega)] | rw [cp_in (by omega)] | rw [cp_ne (by omega)]))) <;> exact h1, fun v hv => ?_, ⟨by ((try dsimp only); (repeat (first | rw [si_eq] | rw [si_ne (by omega)] | rw [cp_in (by omega)] | rw [cp_ne (by omega)]))) <;> exact h3.1, by ((try dsimp only); (repeat (first | rw [si_eq] | rw [si_ne (by omega)] | rw [cp_in (by omega)] | rw [cp_ne (by omega)]))) <;> exact h3.2.1, by ((try dsimp only); (repeat (first | rw [si_eq] | rw [si_ne (by omega)] | rw [cp_in (by omega)] | rw [cp_ne (by omega)]))) <;> exact h3.2.2⟩, h4, fun p j hp => by rw [si_ne (by omega), si_ne (by omega), si_ne (by omega), si_ne (by omega)]; exact h5 p j hp⟩
  rw [sg_up hi e, tl_up hi e]
  obtain ⟨y1, y2⟩ := h2 v hv
  have zz : ∀ x y : Nat, x < n → y < n → x ≠ y → ¬ nI x = nI y := fun x y hx hy hxy q => hxy ((nI_eq (by omega) (by omega)).mp q)
  by_cases e1 : a = v
  · subst e1
    rw [if_pos rfl, if_pos rfl, if_neg (zz b a hb ha (fun q => hab q.symm)), if_neg (zz b a hb ha (fun q => hab q.symm))]
    refine ⟨?_, ?_⟩
    · rw [si_ne (by omega), si_ne (by omega), si_ne (by omega), si_eq, y1, Int32.add_zero]
    · rw [si_ne (by omega), si_eq, si_ne (by omega), si_ne (by omega), y2, Int32.add_zero]
  · by_cases e2 : b = v
    · subst e2
      rw [if_neg (zz a b ha hb hab), if_neg (zz a b ha hb hab), if_pos rfl, if_pos rfl]
      refine ⟨?_, ?_⟩
      · rw [si_ne (by omega), si_ne (by omega), si_eq, si_ne (by omega), y1, Int32.sub_zero]
      · rw [si_eq, si_ne (by omega), si_ne (by omega), si_ne (by omega), y2, Int32.sub_zero]
    · rw [if_neg (zz a v ha hv e1), if_neg (zz a v ha hv e1), if_neg (zz b v hb hv e2), if_neg (zz b v hb hv e2)]
      refine ⟨?_, ?_⟩
      · rw [si_ne (by omega), si_ne (by omega), si_ne (by omega), si_ne (by omega), y1, Int32.sub_zero, Int32.add_zero]
      · rw [si_ne (by omega), si_ne (by omega), si_ne (by omega), si_ne (by omega), y2, Int32.sub_zero, Int32.add_zero]
theorem now_X {W' : Nat → Int32} {ν : Mem} (h0 : ν.1 73 0 = nI n) (h1 : ν.1 72 1 = nI c) (hn : n ≤ 5) (h2 : ∀ v, v < n → ν.1 78 v = sg K W' H m l (nI v) ∧ ν.1 79 v = tl K W' H l (nI v)) : f_X5_takenNow ν = some (tkw K W' H m l n (nI c)) := by
  unfold f_X5_takenNow
  rw [h0, h1, gi_X hn, bd_some, jn_eq]
  rw [show (gst (fun v => ν.1 78 v) (fun v => !(bt (nI c) v)) n).1 = fiO K W' H m l n (nI c) from congrArg Prod.fst (gst_congr (fun v hv => (h2 v hv).1) (fun _ _ => rfl))]
  unfold tkw
  by_cases q : fiO K W' H m l n (nI c) = -1
  · rw [if_pos q, if_pos q]
  · rw [if_neg q, if_neg q]
    rcases grt_in (K := K) (W := W') (H := H) (m := m) (l := l) (n := n) (fun v => !(bt (nI c) v)) with z | ⟨v, hv, z⟩
    · exact absurd z q
    · rw [show fiO K W' H m l n (nI c) = nI v from z, chk_nI (by omega) (by decide), ix_nI (by omega), (h2 v hv).2]
def mkA (ah : Int32) (a : Nat) : Int32 × Int32 := (if ah = -1 then nI a else ah, if ah = -1 then -1 else nI a)
theorem weigh_X {W' : Nat → Int32} {s : Int32 × Int32 × Int32} {ν : Mem} (h : LI K W H m l n c μ W' s ν) (hn : n ≤ 5) (ah : Int32) (a : Nat) : ∃ ν', f_X5_weigh ah (nI a) ν = some ν' ∧ LI K W H m l n c μ W' (wg (tkw K W' H m l n (nI c)) (mkA ah a).1 (mkA ah a).2 s) ν' := by
  obtain ⟨hx, h1, h2, h3, h4, h5⟩ := id h
  unfold f_X5_weigh wg
  rw [now_X hx.1 h1 hn h2, bd_some, h3.1]
  simp only [jn_eq, lt_eq]
  by_cases q : tkw K W' H m l n (nI c) < s.1
  · rw [if_pos q, if_pos q]
    have Z : ∀ x y : Int32, LI K W H m l n c μ W' (tkw K W' H m l n (nI c), x, y) (setI (setI (setI ν 72 4 (tkw K W' H m l n (nI c))) 72 5 x) 72 6 y) := fun x y => by
      refine ⟨hx.of (fun j => ?_) (fun b j _ _ => ?_), ?_, fun v hv => ⟨?_, ?_⟩, ⟨?_, ?_, ?_⟩, h4, fun p j hp => ?_⟩
      · rw [si_ne (by omega), si_ne (by omega), si_ne (by omega)]
      · rw [si_ne (by omega), si_ne (by omega), si_ne (by omega)]
      · rw [si_ne (by omega), si_ne (by omega), si_ne (by omega)]; exact h1
      · rw [si_ne (by omega), si_ne (by omega), si_ne (by omega)]; exact (h2 v hv).1
      · rw [si_ne (by omega), si_ne (by omega), si_ne (by omega)]; exact (h2 v hv).2
      · rw [si_ne (by omega), si_ne (by omega), si_eq]
      · rw [si_ne (by omega), si_eq]
      · rw [si_eq]
      · rw [si_ne (by omega), si_ne (by omega), si_ne (by omega)]; exact h5 p j hp
    unfold mkA
    by_cases w : ah = -1
    · rw [if_pos w, if_pos w, if_pos w]
      exact ⟨_, rfl, by rw [if_pos w]; exact Z _ _⟩
    · rw [if_neg w, if_neg w, if_neg w]
      exact ⟨_, rfl, by rw [if_neg w]; exact Z _ _⟩
  · rw [if_neg q, if_neg q]
    exact ⟨ν, rfl, h⟩
theorem lmS_t {mk : Nat → Int32 × Int32} {W' : Nat → Int32} {i v : Nat} {s : Int32 × Int32 × Int32} (hn : n ≤ 5) (hi : i < l) (hv : v < n) (e : ¬ nI v = W' i) : lmS K H m l n (nI c) W' mk (10 * i + v) s = wg (tkw K (uW W' i (nI v)) H m l n (nI c)) (mk (10 * i + v)).1 (mk (10 * i + v)).2 s := by
  obtain ⟨w1, w2⟩ := t10 i v (by omega)
  unfold lmS
  rw [w1, w2, if_pos ⟨hi, hv, e⟩]
theorem lmS_f {mk : Nat → Int32 × Int32} {W' : Nat → Int32} {a : Nat} {s : Int32 × Int32 × Int32} (h : ¬ (a / 10 < l ∧ a % 10 < n ∧ ¬ nI (a % 10) = W' (a / 10))) : lmS K H m l n (nI c) W' mk a s = s := if_neg h
theorem tlm_X {W' : Nat → Int32} {s0 : Int32 × Int32 × Int32} {ν : Mem} {f : Nat} (hI : LI K W H m l n c μ W' s0 ν) (hw : HW n l K W H) (hf : f ≤ l) (hWW : ∀ j, f ≤ j → W' j = W j) (ah : Int32) : ∃ ν', f_X5_tryLastMove (nI f) ah ν = some ν' ∧ LI K W H m l n c μ W' (itf (lmS K H m l n (nI c) W' (mkA ah)) (10 * f) (100 - 10 * f) s0) ν' := by
  have hn := hw.1.2.1
  have hl := hw.1.2.2
  unfold f_X5_tryLastMove
  have L := lp_inv (F := cu2 fun (x3_1 : Int32) (ν2 : Mem) =>
    if x3_1 < (ν2.1 73 1) then
      chk x3_1 10 (
        bd (lp (ε := Mem) (cu2 fun (x5_5 : Int32) (ν6 : Mem) =>
          if x5_5 < (ν6.1 73 0) then
            jn (fun (ν9 : Mem) =>
              some (.inl ((x5_5 + 1), ν9))
              ) fun j10 =>
            if x5_5 = (ν2.1 75 (ix x3_1)) then
              j10 ν6
            else
              bd (f_X5_shift x3_1 (ν2.1 75 (ix x3_1)) x5_5 ν6) fun ν11 =>
              bd (f_X5_weigh ah ((10 * x3_1) + x5_5) ν11) fun ν12 =>
              bd (f_X5_shift x3_1 x5_5 (ν2.1 75 (ix x3_1)) ν12) fun ν13 =>
              j10 ν13
          else
            some (.inr ν6)
          ) (0, ν2)) (fun (ν7 : Mem) =>
          some (.inl ((x3_1 + 1), ν7))
          )
        )
    else
      some (.inr ν2)) (fun t s => s.1 = nI (f + t) ∧ LI K W H m l n c μ W' (itf (lmS K H m l n (nI c) W' (mkA ah)) (10 * f) (10 * t) s0) s.2) (fun e : Mem => LI K W H m l n c μ W' (itf (lmS K H m l n (nI c) W' (mkA ah)) (10 * f) (10 * (l - f)) s0) e) (l - f) (fun t s ht hI => ?_) (fun s hI => ?_) (s := (nI f, ν)) ⟨rfl, hI⟩
  · obtain ⟨e, he, j⟩ := L
    refine ⟨e, by rw [he]; rfl, ?_⟩
    have := itf_skip (f := lmS K H m l n (nI c) W' (mkA ah)) (a := 10 * f) (d := 10 * (l - f)) (s := s0) (100 - 10 * f - 10 * (l - f)) (fun b h1 h2 s => lmS_f (fun q => by omega))
    rw [show 10 * (l - f) + (100 - 10 * f - 10 * (l - f)) = 100 - 10 * f by omega] at this
    rw [this]
    exact j
  · obtain ⟨x, ν2⟩ := s
    obtain ⟨rfl, hI2⟩ := hI
    dsimp only at hI2
    have hi : f + t < l := by omega
    obtain ⟨_, ⟨a, ha, ea⟩, _⟩ := hw.2 (f + t) hi
    have eW : W' (f + t) = nI a := (hWW _ (by omega)).trans ea
    rw [cu2_eq, hI2.1.2.1, if_pos ((nI_ltI (by omega) (by omega)).mpr hi), chk_nI (by omega) (by decide), ix_nI (by omega), show ν2.1 75 (f + t) = nI a from ((hI2.1.2.2.2 _ hi).2.1).trans ea]
    have L2 := lp_inv (F := cu2 fun (x5_5 : Int32) (ν6 : Mem) =>
          if x5_5 < (ν6.1 73 0) then
            jn (fun (ν9 : Mem) =>
              some (.inl ((x5_5 + 1), ν9))
              ) fun j10 =>
            if x5_5 = nI a then
              j10 ν6
            else
              bd (f_X5_shift (nI (f + t)) (nI a) x5_5 ν6) fun ν11 =>
              bd (f_X5_weigh ah ((10 * nI (f + t)) + x5_5) ν11) fun ν12 =>
              bd (f_X5_shift (nI (f + t)) x5_5 (nI a) ν12) fun ν13 =>
              j10 ν13
          else
            some (.inr ν6)) (fun v s => s.1 = nI v ∧ LI K W H m l n c μ W' (itf (lmS K H m l n (nI c) W' (mkA ah)) (10 * f) (10 * t + v) s0) s.2) (fun e : Mem => LI K W H m l n c μ W' (itf (lmS K H m l n (nI c) W' (mkA ah)) (10 * f) (10 * t + n) s0) e) n (fun v s hv hI => ?_) (fun s hI => ?_) (s := (0, ν2)) ⟨rfl, hI2⟩
    · obtain ⟨e, he, j⟩ := L2
      rw [he, bd_some]
      refine Or.inl ⟨_, rfl, (nI_succ (f + t)).symm, ?_⟩
      have := itf_skip (f := lmS K H m l n (nI c) W' (mkA ah)) (a := 10 * f) (d := 10 * t + n) (s := s0) (10 - n) (fun b h1 h2 s => lmS_f (fun q => by omega))
      rw [show 10 * t + n + (10 - n) = 10 * (t + 1) by omega] at this
      rw [this]
      exact j
    · obtain ⟨x, ν6⟩ := s
      obtain ⟨rfl, hI3⟩ := hI
      dsimp only at hI3
      rw [cu2_eq, hI3.1.1, if_pos ((nI_ltI (by omega) (by omega)).mpr hv), jn_eq]
      left
      by_cases e : nI v = nI a
      · rw [if_pos e]
        refine ⟨_, rfl, (nI_succ v).symm, ?_⟩
        show LI K W H m l n c μ W' (lmS K H m l n (nI c) W' (mkA ah) (10 * f + (10 * t + v)) _) ν6
        obtain ⟨w1, w2⟩ := t10 (f + t) v (by omega)
        rw [show 10 * f + (10 * t + v) = 10 * (f + t) + v by omega, lmS_f (fun q => q.2.2 (by rw [w1, w2, eW]; exact e))]
        exact hI3
      · rw [if_neg e]
        have hne : a ≠ v := fun q => e (by rw [q])
        obtain ⟨ν11, s1, s2⟩ := shift_X hI3 hw hi ha hv hne eW
        obtain ⟨ν12, s3, s4⟩ := weigh_X s2 hn ah (10 * (f + t) + v)
        obtain ⟨ν13, s5, s6⟩ := shift_X s4 hw hi hv ha (fun q => hne q.symm) uW_eq
        rw [s1, bd_some, show (10 : Int32) = nI 10 from rfl, ni_mul, ni_add, s3, bd_some, s5, bd_some]
        refine ⟨_, rfl, (nI_succ v).symm, ?_⟩
        show LI K W H m l n c μ W' (lmS K H m l n (nI c) W' (mkA ah) (10 * f + (10 * t + v)) _) ν13
        rw [show 10 * f + (10 * t + v) = 10 * (f + t) + v by omega, lmS_t hn hi hv (by rw [eW]; exact e)]
        rw [uW_back eW] at s6
        exact s6
    · obtain ⟨x, ν6⟩ := s
      obtain ⟨rfl, hI3⟩ := hI
      dsimp only at hI3
      rw [cu2_eq, hI3.1.1, if_neg (fun q => Nat.lt_irrefl _ ((nI_ltI (by omega) (by omega)).mp q))]
      exact ⟨_, rfl, hI3⟩
  · obtain ⟨x, ν2⟩ := s
    obtain ⟨rfl, hI2⟩ := hI
    dsimp only at hI2
    rw [cu2_eq, hI2.1.2.1, if_neg (fun q => absurd ((nI_ltI (by omega) (by omega)).mp q) (by omega))]
    exact ⟨_, rfl, hI2⟩
/-- one first move and all second ones -/
noncomputable def lm2 (K H : Nat → Int32) (m : Int32) (l n : Nat) (c : Int32) (W : Nat → Int32) (a : Nat) (s : Int32 × Int32 × Int32) : Int32 × Int32 × Int32 := if a / 10 < l ∧ a % 10 < n ∧ ¬ nI (a % 10) = W (a / 10) then itf (lmS K H m l n c (uW W (a / 10) (nI (a % 10))) (mkA (nI a))) (10 * (a / 10 + 1)) (100 - 10 * (a / 10 + 1)) s else s
theorem ttm_X {s0 : Int32 × Int32 × Int32} {ν : Mem} (hI : LI K W H m l n c μ W s0 ν) (hw : HW n l K W H) : ∃ ν', f_X5_tryTwoMoves ν = some ν' ∧ LI K W H m l n c μ W (itf (lm2 K H m l n (nI c) W) 0 100 s0) ν' := by
  have hn := hw.1.2.1
  have hl := hw.1.2.2
  unfold f_X5_tryTwoMoves
  have L := lp_inv (F := cu2 fun (x1_1 : Int32) (ν2 : Mem) =>
    if x1_1 < (ν2.1 73 1) then
      chk x1_1 10 (
        bd (lp (ε := Mem) (cu2 fun (x3_5 : Int32) (ν6 : Mem) =>
          if x3_5 < (ν6.1 73 0) then
            jn (fun (ν9 : Mem) =>
              some (.inl ((x3_5 + 1), ν9))
              ) fun j10 =>
            if x3_5 = (ν2.1 75 (ix x1_1)) then
              j10 ν6
            else
              bd (f_X5_shift x1_1 (ν2.1 75 (ix x1_1)) x3_5 ν6) fun ν11 =>
              bd (f_X5_tryLastMove (x1_1 + 1) ((10 * x1_1) + x3_5) ν11) fun ν12 =>
              bd (f_X5_shift x1_1 x3_5 (ν2.1 75 (ix x1_1)) ν12) fun ν13 =>
              j10 ν13
          else
            some (.inr ν6)
          ) (0, ν2)) (fun (ν7 : Mem) =>
          some (.inl ((x1_1 + 1), ν7))
          )
        )
    else
      some (.inr ν2)) (fun t s => s.1 = nI t ∧ LI K W H m l n c μ W (itf (lm2 K H m l n (nI c) W) 0 (10 * t) s0) s.2) (fun e : Mem => LI K W H m l n c μ W (itf (lm2 K H m l n (nI c) W) 0 (10 * l) s0) e) l (fun t s ht hI => ?_) (fun s hI => ?_) (s := (0, ν)) ⟨rfl, hI⟩
  · obtain ⟨e, he, j⟩ := L
    refine ⟨e, by rw [he]; rfl, ?_⟩
    have := itf_skip (f := lm2 K H m l n (nI c) W) (a := 0) (d := 10 * l) (s := s0) (100 - 10 * l) (fun b h1 h2 s => if_neg (fun q => by omega))
    rw [show 10 * l + (100 - 10 * l) = 100 by omega] at this
    rw [this]
    exact j
  · obtain ⟨x, ν2⟩ := s
    obtain ⟨rfl, hI2⟩ := hI
    dsimp only at hI2
    obtain ⟨_, ⟨a, ha, ea⟩, _⟩ := hw.2 t ht
    rw [cu2_eq, hI2.1.2.1, if_pos ((nI_ltI (by omega) (by omega)).mpr ht), chk_nI (by omega) (by decide), ix_nI (by omega), show ν2.1 75 t = nI a from ((hI2.1.2.2.2 _ ht).2.1).trans ea]
    have L2 := lp_inv (F := cu2 fun (x3_5 : Int32) (ν6 : Mem) =>
          if x3_5 < (ν6.1 73 0) then
            jn (fun (ν9 : Mem) =>
              some (.inl ((x3_5 + 1), ν9))
              ) fun j10 =>
            if x3_5 = nI a then
              j10 ν6
            else
              bd (f_X5_shift (nI t) (nI a) x3_5 ν6) fun ν11 =>
              bd (f_X5_tryLastMove (nI t + 1) ((10 * nI t) + x3_5) ν11) fun ν12 =>
              bd (f_X5_shift (nI t) x3_5 (nI a) ν12) fun ν13 =>
              j10 ν13
          else
            some (.inr ν6)) (fun v s => s.1 = nI v ∧ LI K W H m l n c μ W (itf (lm2 K H m l n (nI c) W) 0 (10 * t + v) s0) s.2) (fun e : Mem => LI K W H m l n c μ W (itf (lm2 K H m l n (nI c) W) 0 (10 * t + n) s0) e) n (fun v s hv hI => ?_) (fun s hI => ?_) (s := (0, ν2)) ⟨rfl, hI2⟩
    · obtain ⟨e, he, j⟩ := L2
      rw [he, bd_some]
      refine Or.inl ⟨_, rfl, (nI_succ t).symm, ?_⟩
      have := itf_skip (f := lm2 K H m l n (nI c) W) (a := 0) (d := 10 * t + n) (s := s0) (10 - n) (fun b h1 h2 s => if_neg (fun q => by omega))
      rw [show 10 * t + n + (10 - n) = 10 * (t + 1) by omega] at this
      rw [this]
      exact j
    · obtain ⟨x, ν6⟩ := s
      obtain ⟨rfl, hI3⟩ := hI
      dsimp only at hI3
      obtain ⟨w1, w2⟩ := t10 t v (by omega)
      rw [cu2_eq, hI3.1.1, if_pos ((nI_ltI (by omega) (by omega)).mpr hv), jn_eq]
      left
      by_cases e : nI v = nI a
      · rw [if_pos e]
        refine ⟨_, rfl, (nI_succ v).symm, ?_⟩
        show LI K W H m l n c μ W (lm2 K H m l n (nI c) W (0 + (10 * t + v)) _) ν6
        unfold lm2
        rw [Nat.zero_add, if_neg (fun q => q.2.2 (by rw [w1, w2, ea]; exact e))]
        exact hI3
      · rw [if_neg e]
        have hne : a ≠ v := fun q => e (by rw [q])
        obtain ⟨ν11, s1, s2⟩ := shift_X hI3 hw ht ha hv hne ea
        obtain ⟨ν12, s3, s4⟩ := tlm_X (f := t + 1) s2 hw (by omega) (fun j hj => uW_ne (by omega)) (nI (10 * t + v))
        obtain ⟨ν13, s5, s6⟩ := shift_X s4 hw ht hv ha (fun q => hne q.symm) uW_eq
        rw [s1, bd_some, show (10 : Int32) = nI 10 from rfl, ni_mul, ni_add, ← nI_succ, s3, bd_some, s5, bd_some]
        refine ⟨_, rfl, (nI_succ v).symm, ?_⟩
        show LI K W H m l n c μ W (lm2 K H m l n (nI c) W (0 + (10 * t + v)) _) ν13
        unfold lm2
        rw [Nat.zero_add, w1, w2, if_pos ⟨ht, hv, by rw [ea]; exact e⟩]
        rw [uW_back ea] at s6
        exact s6
    · obtain ⟨x, ν6⟩ := s
      obtain ⟨rfl, hI3⟩ := hI
      dsimp only at hI3
      rw [cu2_eq, hI3.1.1, if_neg (fun q => Nat.lt_irrefl _ ((nI_ltI (by omega) (by omega)).mp q))]
      exact ⟨_, rfl, hI3⟩
  · obtain ⟨x, ν2⟩ := s
    obtain ⟨rfl, hI2⟩ := hI
    dsimp only at hI2
    rw [cu2_eq, hI2.1.2.1, if_neg (fun q => Nat.lt_irrefl _ ((nI_ltI (by omega) (by omega)).mp q))]
    exact ⟨_, rfl, hI2⟩
/-- what is found with at most M moves -/
noncomputable def lsR (K W H : Nat → Int32) (m : Int32) (l n : Nat) (c : Int32) (M : Nat) : Int32 × Int32 × Int32 := if M < 2 then (if M < 1 then (tkw K W H m l n c, -1, -1) else itf (lmS K H m l n c W (mkA (-1))) 0 100 (tkw K W H m l n c, -1, -1)) else itf (lm2 K H m l n c W) 0 100 (if M < 1 then (tkw K W H m l n c, -1, -1) else itf (lmS K H m l n c W (mkA (-1))) 0 100 (tkw K W H m l n c, -1, -1))
theorem msearch_X {M : Nat} (hx : HX 2 μ.1 n l K W H m) (hw : HW n l K W H) (hM : M ≤ 2) : ∃ ν, f_X5_search 2 (nI c) (nI M) μ = some ν ∧ LI K W H m l n c μ W (lsR K W H m l n (nI c) M) ν := by
  have hn := hw.1.2.1
  have hl := hw.1.2.2
  obtain ⟨ν1, b1, b2, b3, b4, b5⟩ := bc_H (k0 := 73) (k1 := 2) (μ := μ) (by omega) hx hl
  unfold f_X5_search
  rw [b1, bd_some, lt_eq]
  have L := lp_inv (F := cu2 fun (x4_3 : Int32) (ν4 : Mem) =>
    if x4_3 < (ν4.1 73 0) then
      bd (f_X3_sightOf 73 x4_3 ν4) fun r7 =>
      chk x4_3 5 (lt (setI ν4 78 (ix x4_3) r7) fun ν8 =>
        bd (f_X3_tollOf 73 x4_3 ν8) fun r9 =>
        chk x4_3 5 (lt (setI ν8 79 (ix x4_3) r9) fun ν10 =>
          some (.inl ((x4_3 + 1), ν10))
          )
        )
    else
      some (.inr ν4)) (fun u s => s.1 = nI u ∧ HX 73 s.2.1 n l K W H m ∧ s.2.1 72 1 = nI c ∧ (∀ v, v < u → s.2.1 78 v = sg K W H m l (nI v) ∧ s.2.1 79 v = tl K W H l (nI v)) ∧ s.2.2 = μ.2 ∧ ∀ b j, ¬ (72 ≤ b ∧ b ≤ 79) → s.2.1 b j = μ.1 b j) (fun e : Mem => HX 73 e.1 n l K W H m ∧ e.1 72 1 = nI c ∧ (∀ v, v < n → e.1 78 v = sg K W H m l (nI v) ∧ e.1 79 v = tl K W H l (nI v)) ∧ e.2 = μ.2 ∧ ∀ b j, ¬ (72 ≤ b ∧ b ≤ 79) → e.1 b j = μ.1 b j) n (fun u s hu hI => ?_) (fun s hI => ?_) (s := (0, setI ν1 72 1 (nI c))) ⟨rfl, b4.of (fun j => si_ne (by omega)) (fun b j _ _ => si_ne (by omega)), si_eq, fun v hv => absurd hv (by omega), b2, fun b j hb => by rw [si_ne (by omega)]; exact b3 _ _ (by omega)⟩
  · obtain ⟨ν5, he, j1, j2, j3, j4, j5⟩ := L
    rw [he, bd_some, now_X j1.1 j2 hn j3, bd_some, lt_eq, lt_eq, lt_eq]
    have I0 : LI K W H m l n c μ W (tkw K W H m l n (nI c), -1, -1) (setI (setI (setI ν5 72 4 (tkw K W H m l n (nI c))) 72 5 (-1)) 72 6 (-1)) := by
      refine ⟨j1.of (fun j => ?_) (fun b j _ _ => ?_), ?_, fun v hv => ⟨?_, ?_⟩, ⟨?_, ?_, ?_⟩, j4, fun p j hp => ?_⟩
      · rw [si_ne (by omega), si_ne (by omega), si_ne (by omega)]
      · rw [si_ne (by omega), si_ne (by omega), si_ne (by omega)]
      · rw [si_ne (by omega), si_ne (by omega), si_ne (by omega)]; exact j2
      · rw [si_ne (by omega), si_ne (by omega), si_ne (by omega)]; exact (j3 v hv).1
      · rw [si_ne (by omega), si_ne (by omega), si_ne (by omega)]; exact (j3 v hv).2
      · rw [si_ne (by omega), si_ne (by omega), si_eq]
      · rw [si_ne (by omega), si_eq]
      · rw [si_eq]
      · rw [si_ne (by omega), si_ne (by omega), si_ne (by omega)]; exact j5 p j hp
    generalize setI (setI (setI ν5 72 4 (tkw K W H m l n (nI c))) 72 5 (-1)) 72 6 (-1) = ν14 at I0 ⊢
    have T : ∀ (ν15 : Mem) (s : Int32 × Int32 × Int32), LI K W H m l n c μ W s ν15 → s = (if M < 1 then (tkw K W H m l n (nI c), -1, -1) else itf (lmS K H m l n (nI c) W (mkA (-1))) 0 100 (tkw K W H m l n (nI c), -1, -1)) → ∃ ν, (if nI M < 2 then some ν15 else bd (f_X5_tryTwoMoves ν15) fun ν19 => some ν19) = some ν ∧ LI K W H m l n c μ W (lsR K W H m l n (nI c) M) ν := fun ν15 s hI hs => by
      by_cases q : M < 2
      · rw [if_pos (by exact (nI_ltI (b := 2) (by omega) (by decide)).mpr q)]
        refine ⟨ν15, rfl, ?_⟩
        unfold lsR
        rw [if_pos q, ← hs]
        exact hI
      · rw [if_neg (by exact fun z => q ((nI_ltI (b := 2) (by omega) (by decide)).mp z))]
        obtain ⟨ν', e1, e2⟩ := ttm_X hI hw
        refine ⟨ν', by rw [e1]; rfl, ?_⟩
        unfold lsR
        rw [if_neg q, ← hs]
        exact e2
    simp only [jn_eq]
    by_cases q : M < 1
    · rw [if_pos (by exact (nI_ltI (b := 1) (by omega) (by decide)).mpr q)]
      exact T _ _ I0 (by rw [if_pos q])
    · rw [if_neg (by exact fun z => q ((nI_ltI (b := 1) (by omega) (by decide)).mp z))]
      obtain ⟨ν', e1, e2⟩ := tlm_X (f := 0) I0 hw (by omega) (fun _ _ => rfl) (-1)
      rw [show (0 : Int32) = nI 0 from rfl, e1, bd_some]
      exact T _ _ e2 (by rw [if_neg q])
  · obtain ⟨x, ν4⟩ := s
    obtain ⟨rfl, i1, i2, i3, i4, i5⟩ := hI
    dsimp only at i1 i2 i3 i4 i5
    rw [cu2_eq, i1.1, if_pos ((nI_ltI (by omega) (by omega)).mpr hu), sg_X i1 hw, bd_some, chk_nI (by omega) (by decide), lt_eq, ix_nI (by omega), tl_X (n := n) (m := m) (i1.of (fun j => si_ne (by omega)) (fun b j _ _ => si_ne (by omega))) hw, bd_some, chk_nI (by omega) (by decide), lt_eq]
    refine Or.inl ⟨_, rfl, (nI_succ u).symm, i1.of (fun j => ?_) (fun b j _ _ => ?_), ?_, fun v hv => ?_, i4, fun b j hb => ?_⟩
    · rw [si_ne (by omega), si_ne (by omega)]
    · rw [si_ne (by omega), si_ne (by omega)]
    · rw [si_ne (by omega), si_ne (by omega)]; exact i2
    · by_cases e : v = u
      · subst e
        exact ⟨by rw [si_ne (by omega), si_eq], si_eq⟩
      · rw [si_ne (by omega), si_ne (by omega), si_ne (by omega), si_ne (by omega)]
        exact i3 v (by omega)
    · rw [si_ne (by omega), si_ne (by omega)]; exact i5 b j hb
  · obtain ⟨x, ν4⟩ := s
    obtain ⟨rfl, i1, i2, i3, i4, i5⟩ := hI
    dsimp only at i1 i2 i3 i4 i5
    rw [cu2_eq, i1.1, if_neg (fun q => Nat.lt_irrefl _ ((nI_ltI (by omega) (by omega)).mp q))]
    exact ⟨_, rfl, i1, i2, i3, i4, i5⟩
end LEAST

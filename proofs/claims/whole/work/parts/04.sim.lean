/-! The abstract machine: a goal G at (pc, locals, stack, memory); Sim: if the program P gives a and K a holds, then G. -/
abbrev GT : Type := Launch × (Nat → ClassId) × (Nat → Nat) × va_G × (Nat → Prop) × (Nat → Nat) × (Nat → Nat) × (Nat → Nat)
abbrev gl (g : GT) : Launch := g.1
abbrev gcy (g : GT) : Nat → ClassId := g.2.1
abbrev gad (g : GT) : Nat → Nat := g.2.2.1
abbrev gD (g : GT) : va_G := g.2.2.2.1
abbrev gA (g : GT) : Nat → Prop := g.2.2.2.2.1
abbrev gK (g : GT) : Nat → Nat := g.2.2.2.2.2.1
abbrev gV (g : GT) : Nat → Nat := g.2.2.2.2.2.2.1
abbrev gTb (g : GT) : Nat → Nat := g.2.2.2.2.2.2.2
/-- a reference to a place -/
def rf (g : GT) (k : Nat) : Value := .ref (gad g k)
/-- a reference to a String constant -/
def rfS (g : GT) (k : Nat) : Value := .ref (gK g k)
/-- a reference to a static table -/
def rfT (g : GT) (k : Nat) : Value := .ref (gTb g k)
def FACT : Nat → Int32 := fun j => ([1, 1, 2, 6, 24, 120] : List Int32).getD j 0
def NUMB : Nat → Int32 := fun j => ([1, 3, 1, 2, 2, 1] : List Int32).getD j 0
def TBLV (t : Nat) : Nat → Int32 := if t = 0 then FACT else NUMB
def SLEN : List Nat := [6, 3, 6, 5, 4, 5]
def SBYT : List (List Int32) := [[99, 111, 117, 110, 116, 121], [108, 111, 116], [103, 114, 111, 119, 116, 104], [99, 108, 111, 117, 100], [114, 111, 97, 100], [103, 117, 97, 114, 100]]
def STXT : List String := ["county", "lot", "growth", "cloud", "road", "guard"]
def Stt (g : GT) (U : State) (H : Heap) : Prop :=
  (va_Z "DragonTithe" "FACTORIALS" "[I" (.ref (gTb g 0)) (gA g) U H ∧ va_T .int (gTb g 0) 6 (fun j => .int (FACT j)) (gA g) U H) ∧
  (va_Z "DragonTithe$Scroll" "NUMBERS_BEHIND" "[I" (.ref (gTb g 1)) (gA g) U H ∧ va_T .int (gTb g 1) 6 (fun j => .int (NUMB j)) (gA g) U H) ∧
  vk_S 6 SLEN SBYT (gK g) (gV g) (gA g) U H ∧ (∀ i, i < 6 → vk_R "DragonTithe$Scroll" (80 + 2 * i) (STXT.getD i "") (gK g i) U) ∧
  va_Z "java/lang/String" "COMPACT_STRINGS" "Z" (.int 1) (gA g) U H ∧ va_Zq "jdk/internal/util/Preconditions" "SIOOBE_FORMATTER" "Ljava/util/function/BiFunction;" (gA g) U H
theorem Stt.alike {g : GT} {u U : State} {H : Heap} (hvm : u.vm.Alike U.vm) (hr : ∀ i, i < 6 → vk_R "DragonTithe$Scroll" (80 + 2 * i) (STXT.getD i "") (gK g i) U) (h : Stt g u H) : Stt g U H := by
  obtain ⟨⟨a1, a2⟩, ⟨b1, b2⟩, c1, -, e1, f1⟩ := h
  exact ⟨⟨a1.moved hvm, a2.moved hvm⟩, ⟨b1.moved hvm, b2.moved hvm⟩, c1.moved hvm, hr, e1.moved hvm, f1.moved hvm⟩
theorem Stt.warm {g : GT} {s U : State} {H : Heap} (hW : s.WarmedH U.vm) (h : Stt g s H) : Stt g U H := h.alike hW.alike (fun i hi => (h.2.2.2.1 i hi).warm hW)
theorem Stt.same {g : GT} {u U : State} {H : Heap} (hv : U.vm = u.vm) (h : Stt g u H) : Stt g U H := h.alike (by rw [hv]; exact Vm.Alike.refl _) (fun i hi => (h.2.2.2.1 i hi).same hv)
theorem Stt.kept {g : GT} {U : State} {H H1 : Heap} (h : Stt g U H) (hq : ∀ a : Nat, a < H.size → ¬ gA g a → H1[a]? = H[a]?) : Stt g U H1 := by
  obtain ⟨⟨a1, a2⟩, ⟨b1, b2⟩, c1, d1, e1, f1⟩ := h
  exact ⟨⟨a1.kept hq, a2.kept hq⟩, ⟨b1.kept hq, b2.kept hq⟩, c1.kept hq, d1, e1.kept hq, f1.kept hq⟩
def GOK (g : GT) : Prop := (∀ i j, i < NP → j < NP → gad g i = gad g j → i = j) ∧ ∀ k, k < NP → gA g (gad g k)
theorem GOK.D {g : GT} (h : GOK g) (μ : Mem) : va_D (gA g) (wsOf (gcy g) (gad g) μ) := by
  have at' : ∀ (k : Nat) (q : Nat × va_E), (wsOf (gcy g) (gad g) μ)[k]? = some q → k < NP ∧ q.1 = gad g k := by
    intro k q hq
    have hk : k < NP := by
      have := (List.getElem?_eq_some_iff.mp hq).1
      rwa [wsOf_len] at this
    rw [wsOf_at _ _ _ hk] at hq
    cases hq
    exact ⟨hk, rfl⟩
  refine ⟨fun i j p q hp hq e => ?_, fun k q hq => ?_⟩
  · obtain ⟨h1, e1⟩ := at' i p hp
    obtain ⟨h2, e2⟩ := at' j q hq
    exact h.1 i j h1 h2 (by rw [← e1, ← e2]; exact e)
  · obtain ⟨h1, e1⟩ := at' k q hq
    rw [e1]
    exact h.2 k h1
def PW (g : GT) (μ : Mem) (H : Heap) : Prop := va_P (gD g) clX (wsOf (gcy g) (gad g) μ) H
def Wd (g : GT) (μ : Mem) (U : State) : Prop := PW g μ U.heap ∧ va_K (gD g) clX (tysX (gcy g)) U ∧ Stt g U U.heap ∧ GOK g
abbrev LV : Type := List (Nat × Value)
abbrev GP : Type := Nat → LV → List Value → Mem → Prop
def WW (g : GT) (p : Program) (e : Env) (R : Room) (s : State) (m : MethodId) (args : Array Value) (below : List Frame) (meth : Method) (c : Code) (nL cells slots : Nat) (Q : State → Prop) : GP := fun pc lv st μ => ∀ (H : Heap) (locs : List Loc) (ls : Array Slot), PW g μ H → va_S (gA g) s.heap H locs → lv_has ls nL lv → W p (gl g) e R s m args below meth c H locs cells slots Q (F0 m pc ls st)
/-- what the rules know of a goal: the code, the owner, the room -/
def CX (g : GT) (G : GP) (cc : ByteArray) (own : String) (nL n : Nat) : Prop := ∃ (p : Program) (e : Env) (R : Room) (s : State) (m : MethodId) (args : Array Value) (below : List Frame) (meth : Method) (c : Code) (cells slots : Nat) (Q : State → Prop), G = WW g p e R s m args below meth c nL cells slots Q ∧ p.tables.exec = Jvm.exec ∧ c.code = cc ∧ c.maxLocals = nL ∧ s.vm.findClass own = some m.cls ∧ (∀ w ∈ TB, w.before args s = true) ∧ va_K (gD g) clX (tysX (gcy g)) s ∧ Stt g s s.heap ∧ GOK g ∧ n ≤ R.frames ∧ 64 * n ≤ R.locals ∧ cells ≤ R.cells ∧ slots ≤ R.slots
def Sim {α : Type} (G : GP) (Pr : Option α) (K : α → Prop) (pc : Nat) (lv : LV) (st : List Value) (μ : Mem) : Prop := ∀ a, Pr = some a → K a → G pc lv st μ
/-! the program's words -/
def lt {α β : Type} (a : α) (f : α → β) : β := f a
def jn {γ α : Type} (j : γ) (f : γ → α) : α := f j
def bd {α β : Type} (x : Option α) (f : α → Option β) : Option β := match x with
  | none => none
  | some a => f a
def bd2 {α γ β : Type} (x : Option (α × γ)) (f : α → γ → Option β) : Option β := match x with
  | none => none
  | some (a, b) => f a b
def ix (i : Int32) : Nat := i.toNatClampNeg
def chk {α : Type} (i : Int32) (n : Nat) (x : Option α) : Option α := if ¬ (i < 0 ∨ n ≤ ix i) then x else none
def ckz {α : Type} (y : Int32) (x : Option α) : Option α := if y = 0 then none else x
def ckZ {α : Type} (y : Int64) (x : Option α) : Option α := if y = 0 then none else x
def ckB {α : Type} (y : Int32) (x : Option α) : Option α := if y = 0 ∨ y = 1 then x else none
def ckC {α : Type} (sp dp n : Int32) (n0 n1 : Nat) (x : Option α) : Option α := if ¬ sp < 0 ∧ ¬ dp < 0 ∧ ¬ n < 0 ∧ ix sp + ix n ≤ n0 ∧ ix dp + ix n ≤ n1 then x else none
def itn {σ ε : Type} (F : σ → Option (σ ⊕ ε)) : Nat → σ → Option ε
  | 0, _ => none
  | n + 1, s => match F s with
    | none => none
    | some (.inl s') => itn F n s'
    | some (.inr e) => some e
noncomputable def lp {σ ε : Type} (F : σ → Option (σ ⊕ ε)) (s : σ) : Option ε := Classical.epsilon (fun o => (∃ n e, itn F n s = some e ∧ o = some e) ∨ ((∀ n, itn F n s = none) ∧ o = none))
theorem itn_mono {σ ε : Type} {F : σ → Option (σ ⊕ ε)} : ∀ (n k : Nat) (s : σ) (e : ε), itn F n s = some e → itn F (n + k) s = some e := by
  intro n
  induction n with
  | zero => intro k s e h; cases h
  | succ n ih =>
    intro k s e h
    rw [Nat.succ_add]
    simp only [itn] at h ⊢
    cases hF : F s with
    | none => rw [hF] at h; cases h
    | some x =>
      rw [hF] at h
      cases x with
      | inl s' => exact ih k s' e h
      | inr e' => exact h
theorem itn_fun {σ ε : Type} {F : σ → Option (σ ⊕ ε)} {n m : Nat} {s : σ} {e e' : ε} (h : itn F n s = some e) (h' : itn F m s = some e') : e = e' := by
  have h1 := itn_mono n m s e h
  have h2 := itn_mono m n s e' h'
  rw [Nat.add_comm] at h2
  exact Option.some.inj (h1.symm.trans h2)
theorem lp_spec {σ ε : Type} (F : σ → Option (σ ⊕ ε)) (s : σ) : (∃ n e, itn F n s = some e ∧ lp F s = some e) ∨ ((∀ n, itn F n s = none) ∧ lp F s = none) := by
  have : ∃ o, (∃ n e, itn F n s = some e ∧ o = some e) ∨ ((∀ n, itn F n s = none) ∧ o = (none : Option ε)) := by
    by_cases h : ∃ n e, itn F n s = some e
    · obtain ⟨n, e, h⟩ := h
      exact ⟨some e, Or.inl ⟨n, e, h, rfl⟩⟩
    · refine ⟨none, Or.inr ⟨fun n => ?_, rfl⟩⟩
      cases hn : itn F n s with
      | none => rfl
      | some e => exact absurd ⟨n, e, hn⟩ h
  exact Classical.epsilon_spec this
theorem lp_of {σ ε : Type} {F : σ → Option (σ ⊕ ε)} {s : σ} {n : Nat} {e : ε} (h : itn F n s = some e) : lp F s = some e := by
  rcases lp_spec F s with ⟨m, e', h1, h2⟩ | ⟨h1, -⟩
  · rw [h2, itn_fun h h1]
  · rw [h1 n] at h; cases h
theorem lp_itn {σ ε : Type} {F : σ → Option (σ ⊕ ε)} {s : σ} {e : ε} (h : lp F s = some e) : ∃ n, itn F n s = some e := by
  rcases lp_spec F s with ⟨m, e', h1, h2⟩ | ⟨-, h2⟩
  · rw [h2] at h; cases h; exact ⟨m, h1⟩
  · rw [h2] at h; cases h
theorem lp_inl {σ ε : Type} {F : σ → Option (σ ⊕ ε)} {s s' : σ} (h : F s = some (.inl s')) : lp F s = lp F s' := by
  rcases lp_spec F s' with ⟨m, e', h1, h2⟩ | ⟨h1, h2⟩
  · rw [h2]; exact lp_of (n := m + 1) (by simp only [itn, h]; exact h1)
  · rcases lp_spec F s with ⟨m, e', g1, g2⟩ | ⟨g1, g2⟩
    · cases m with
      | zero => cases g1
      | succ m => simp only [itn, h] at g1; rw [h1 m] at g1; cases g1
    · rw [g2, h2]
theorem lp_inr {σ ε : Type} {F : σ → Option (σ ⊕ ε)} {s : σ} {e : ε} (h : F s = some (.inr e)) : lp F s = some e := lp_of (n := 1) (by simp only [itn, h])
/-- a loop that counts: its state is known at each round -/
theorem lp_for {σ ε : Type} {F : σ → Option (σ ⊕ ε)} (st : Nat → σ) (N : Nat) {e : ε} (hs : ∀ i, i < N → F (st i) = some (.inl (st (i + 1)))) (he : F (st N) = some (.inr e)) : lp F (st 0) = some e := by
  have : ∀ k, k ≤ N → lp F (st (N - k)) = some e := by
    intro k
    induction k with
    | zero => intro _; exact lp_inr he
    | succ k ih =>
      intro hk
      rw [lp_inl (hs (N - (k + 1)) (by omega)), show N - (k + 1) + 1 = N - k by omega]
      exact ih (by omega)
  have h := this N (Nat.le_refl N)
  rwa [Nat.sub_self] at h
/-- a loop by an invariant -/
theorem lp_inv {σ ε : Type} {F : σ → Option (σ ⊕ ε)} (I : Nat → σ → Prop) (J : ε → Prop) (N : Nat) (hs : ∀ i s, i < N → I i s → (∃ s', F s = some (.inl s') ∧ I (i + 1) s') ∨ ∃ e, F s = some (.inr e) ∧ J e) (he : ∀ s, I N s → ∃ e, F s = some (.inr e) ∧ J e) {s : σ} (h0 : I 0 s) : ∃ e, lp F s = some e ∧ J e := by
  have : ∀ k i s, i + k = N → I i s → ∃ e, lp F s = some e ∧ J e := by
    intro k
    induction k with
    | zero =>
      intro i s h hI
      have : i = N := by omega
      subst this
      obtain ⟨e, h1, h2⟩ := he s hI
      exact ⟨e, lp_inr h1, h2⟩
    | succ k ih =>
      intro i s h hI
      rcases hs i s (by omega) hI with ⟨s', h1, h2⟩ | ⟨e, h1, h2⟩
      · obtain ⟨e, g1, g2⟩ := ih (i + 1) s' (by omega) h2
        exact ⟨e, by rw [lp_inl h1]; exact g1, g2⟩
      · exact ⟨e, lp_inr h1, h2⟩
  exact this N 0 s (by omega) h0
def cu2 {A B γ : Type} (F : A → B → γ) : A × B → γ := fun s => F s.1 s.2
def cu3 {A B C γ : Type} (F : A → B → C → γ) : A × B × C → γ := fun s => F s.1 s.2.1 s.2.2
def cu4 {A B C D γ : Type} (F : A → B → C → D → γ) : A × B × C × D → γ := fun s => F s.1 s.2.1 s.2.2.1 s.2.2.2
def cu5 {A B C D E γ : Type} (F : A → B → C → D → E → γ) : A × B × C × D × E → γ := fun s => F s.1 s.2.1 s.2.2.1 s.2.2.2.1 s.2.2.2.2
def cu6 {A B C D E I γ : Type} (F : A → B → C → D → E → I → γ) : A × B × C × D × E × I → γ := fun s => F s.1 s.2.1 s.2.2.1 s.2.2.2.1 s.2.2.2.2.1 s.2.2.2.2.2
/-- a loop's end: on, or back to the caller -/
def bdr {ε ρ β : Type} (x : Option (ε ⊕ ρ)) (f : ε → Option β) (h : ρ → Option β) : Option β := match x with
  | none => none
  | some (.inl a) => f a
  | some (.inr b) => h b
section SIMR
variable {g : GT} {G : GP} {cc : ByteArray} {own : String} {nL n : Nat} {α : Type} {Pr : Option α} {K : α → Prop} {pc : Nat} {lv : LV} {st : List Value} {μ : Mem}
theorem CX.sub (hX : CX g G cc own nL n) {lv' : LV} (ks : List Nat) (hl : lv_pick lv ks = lv') (k : G pc lv' st μ) : G pc lv st μ := by
  obtain ⟨p, e, R, s, m, args, below, meth, c, cells, slots, Q, rfl, -⟩ := hX
  exact fun H locs ls hP hS h => k H locs ls hP hS (lv_sub h ks hl)
theorem s_to (hX : CX g G cc own nL n) {lv' : LV} (ks : List Nat) (hl : lv_pick lv ks = lv') (k : Sim G Pr K pc lv' st μ) : Sim G Pr K pc lv st μ := fun a h1 h2 => hX.sub ks hl (k a h1 h2)
theorem s_end (hX : CX g G cc own nL n) {x : α} {lv' : LV} (k : K x → G pc lv' st μ) (ks : List Nat) (hl : lv_pick lv ks = lv') : Sim G (some x) K pc lv st μ := fun a h1 h2 => by
  cases h1
  exact hX.sub ks hl (k h2)
theorem s_lt {β : Type} {a : β} {f : β → Option α} (k : ∀ x, x = a → Sim G (f x) K pc lv st μ) : Sim G (lt a f) K pc lv st μ := k a rfl
theorem s_lti {x : Int32} {f : Int32 → Option α} (k : ∀ y, Sim G (f y) K pc lv (.int y :: st) μ) : Sim G (lt x f) K pc lv (.int x :: st) μ := k x
theorem s_ltl {x : Int64} {f : Int64 → Option α} (k : ∀ y, Sim G (f y) K pc lv (.long y :: st) μ) : Sim G (lt x f) K pc lv (.long x :: st) μ := k x
theorem s_jn {γ : Type} {j : γ} {f : γ → Option α} (C : γ → Prop) (hj : C j) (k : ∀ j', C j' → Sim G (f j') K pc lv st μ) : Sim G (jn j f) K pc lv st μ := k j hj
theorem s_loop {σ ε : Type} {F : σ → Option (σ ⊕ ε)} {s0 : σ} {rest : ε → Option α} (hX : CX g G cc own nL n) (head exit : Nat) (lvs : σ → LV) (ms : σ → Mem) (lve : ε → LV) (me : ε → Mem) (ks : List Nat) (hl : lv_pick lv ks = lvs s0) (hpc : pc = head) (hm : μ = ms s0)
    (hb : ∀ (K' : σ ⊕ ε → Prop), (∀ s', K' (.inl s') → G head (lvs s') st (ms s')) → (∀ e, K' (.inr e) → G exit (lve e) st (me e)) → ∀ s, Sim G (F s) K' head (lvs s) st (ms s)) (hr : ∀ e, Sim G (rest e) K exit (lve e) st (me e)) : Sim G (bd (lp F s0) rest) K pc lv st μ := by
  subst hpc
  subst hm
  intro a h1 h2
  cases hq : lp F s0 with
  | none => rw [hq] at h1; cases h1
  | some e =>
    rw [hq] at h1
    have hJ := hr e a h1 h2
    obtain ⟨N, hN⟩ := lp_itn hq
    refine hX.sub ks hl ?_
    have key : ∀ (N : Nat) (s : σ), itn F N s = some e → G pc (lvs s) st (ms s) := by
      intro N
      induction N with
      | zero => intro s h; cases h
      | succ N ih =>
        intro s h
        simp only [itn] at h
        cases hF : F s with
        | none => rw [hF] at h; cases h
        | some x =>
          rw [hF] at h
          refine hb (fun y => y = x) ?_ ?_ s x hF rfl
          · intro s' hs; subst hs; exact ih s' h
          · intro e' he; subst he; cases h; exact hJ
    exact key N s0 hN
theorem s_loopR {σ ε ρ : Type} {F : σ → Option (σ ⊕ (ε ⊕ ρ))} {s0 : σ} {rest : ε → Option α} {kr : ρ → Option α} (hX : CX g G cc own nL n) (head exit : Nat) (lvs : σ → LV) (ms : σ → Mem) (lve : ε → LV) (me : ε → Mem) (ks : List Nat) (hl : lv_pick lv ks = lvs s0) (hpc : pc = head) (hm : μ = ms s0) (KR : ρ → Prop) (hKR : ∀ r a, kr r = some a → K a → KR r)
    (hb : ∀ (K' : σ ⊕ (ε ⊕ ρ) → Prop), (∀ s', K' (.inl s') → G head (lvs s') st (ms s')) → (∀ e, K' (.inr (.inl e)) → G exit (lve e) st (me e)) → (∀ r, K' (.inr (.inr r)) → KR r) → ∀ s, Sim G (F s) K' head (lvs s) st (ms s)) (hr : ∀ e, Sim G (rest e) K exit (lve e) st (me e)) : Sim G (bdr (lp F s0) rest kr) K pc lv st μ := by
  subst hpc
  subst hm
  intro a h1 h2
  cases hq : lp F s0 with
  | none => rw [hq] at h1; cases h1
  | some e =>
    rw [hq] at h1
    obtain ⟨N, hN⟩ := lp_itn hq
    refine hX.sub ks hl ?_
    have key : ∀ (N : Nat) (s : σ), itn F N s = some e → G pc (lvs s) st (ms s) := by
      intro N
      induction N with
      | zero => intro s h; cases h
      | succ N ih =>
        intro s h
        simp only [itn] at h
        cases hF : F s with
        | none => rw [hF] at h; cases h
        | some x =>
          rw [hF] at h
          refine hb (fun y => y = x) ?_ ?_ ?_ s x hF rfl
          · intro s' hs; subst hs; exact ih s' h
          · intro e' he; subst he; cases h; exact hr e' a h1 h2
          · intro r he; subst he; cases h; exact hKR r a h1 h2
    exact key N s0 hN
theorem s_ireti {β : Type} {inj : Int32 × Mem → β} {K : β → Prop} {r0 v : Int32} {μ0 : Mem} (hK : ∀ r, K (inj r) → r = (r0, μ0)) (hR : ∀ pc lv, decode cc pc = .ok (.ireturn, 1) → G pc lv [.int r0] μ0) (hd : decode cc pc = .ok (.ireturn, 1)) : Sim G (some (inj (v, μ))) K pc lv [.int v] μ := fun a h1 h2 => by
  cases h1
  cases hK _ h2
  exact hR _ _ hd
theorem s_iretr {β : Type} {inj : Int32 → β} {K : β → Prop} {r0 v : Int32} (hK : ∀ r, K (inj r) → r = r0) (hR : ∀ pc lv, decode cc pc = .ok (.ireturn, 1) → G pc lv [.int r0] μ) (hd : decode cc pc = .ok (.ireturn, 1)) : Sim G (some (inj v)) K pc lv [.int v] μ := fun a h1 h2 => by
  cases h1
  cases hK _ h2
  exact hR _ _ hd
theorem s_lreti {β : Type} {inj : Int64 × Mem → β} {K : β → Prop} {r0 v : Int64} {μ0 : Mem} (hK : ∀ r, K (inj r) → r = (r0, μ0)) (hR : ∀ pc lv, decode cc pc = .ok (.lreturn, 1) → G pc lv [.long r0] μ0) (hd : decode cc pc = .ok (.lreturn, 1)) : Sim G (some (inj (v, μ))) K pc lv [.long v] μ := fun a h1 h2 => by
  cases h1
  cases hK _ h2
  exact hR _ _ hd
theorem s_lretr {β : Type} {inj : Int64 → β} {K : β → Prop} {r0 v : Int64} (hK : ∀ r, K (inj r) → r = r0) (hR : ∀ pc lv, decode cc pc = .ok (.lreturn, 1) → G pc lv [.long r0] μ) (hd : decode cc pc = .ok (.lreturn, 1)) : Sim G (some (inj v)) K pc lv [.long v] μ := fun a h1 h2 => by
  cases h1
  cases hK _ h2
  exact hR _ _ hd
theorem s_vreti {β : Type} {inj : Mem → β} {K : β → Prop} {μ0 : Mem} (hK : ∀ r, K (inj r) → r = μ0) (hR : ∀ pc lv, decode cc pc = .ok (.return_, 1) → G pc lv [] μ0) (hd : decode cc pc = .ok (.return_, 1)) : Sim G (some (inj μ)) K pc lv [] μ := fun a h1 h2 => by
  cases h1
  cases hK _ h2
  exact hR _ _ hd
theorem s_iconst (hX : CX g G cc own nL n) {i : Int} {v : Int32} (hd : decode cc pc = .ok (.iconst i, 1)) (hv : Int32.ofInt i = v) (k : Sim G Pr K (pc + 1) lv (.int v :: st) μ) : Sim G Pr K pc lv (st) μ := by
  obtain ⟨p, e, R, s, m, args, below, meth, c, cells, slots, Q, rfl, hx, hb, hml, hown, hts, hK, hT, hO, hn1, hn2, hn3, hn4⟩ := hX
  exact fun a h1 h2 H locs ls hP hS hl => lv_iconst hx hb hd hv (k a h1 h2 H locs ls hP hS hl)
theorem s_bipush (hX : CX g G cc own nL n) {i : Int} {v : Int32} (hd : decode cc pc = .ok (.bipush i, 2)) (hv : (Int8.ofInt i).toInt32 = v) (k : Sim G Pr K (pc + 2) lv (.int v :: st) μ) : Sim G Pr K pc lv (st) μ := by
  obtain ⟨p, e, R, s, m, args, below, meth, c, cells, slots, Q, rfl, hx, hb, hml, hown, hts, hK, hT, hO, hn1, hn2, hn3, hn4⟩ := hX
  exact fun a h1 h2 H locs ls hP hS hl => lv_bipush hx hb hd hv (k a h1 h2 H locs ls hP hS hl)
theorem s_sipush (hX : CX g G cc own nL n) {i : Int} {v : Int32} (hd : decode cc pc = .ok (.sipush i, 3)) (hv : (Int16.ofInt i).toInt32 = v) (k : Sim G Pr K (pc + 3) lv (.int v :: st) μ) : Sim G Pr K pc lv (st) μ := by
  obtain ⟨p, e, R, s, m, args, below, meth, c, cells, slots, Q, rfl, hx, hb, hml, hown, hts, hK, hT, hO, hn1, hn2, hn3, hn4⟩ := hX
  exact fun a h1 h2 H locs ls hP hS hl => lv_sipush hx hb hd hv (k a h1 h2 H locs ls hP hS hl)
theorem s_lconst (hX : CX g G cc own nL n) {i : Fin 2} {v : Int64} (hd : decode cc pc = .ok (.lconst i, 1)) (hv : Int64.ofNat (i : Nat) = v) (k : Sim G Pr K (pc + 1) lv (.long v :: st) μ) : Sim G Pr K pc lv (st) μ := by
  obtain ⟨p, e, R, s, m, args, below, meth, c, cells, slots, Q, rfl, hx, hb, hml, hown, hts, hK, hT, hO, hn1, hn2, hn3, hn4⟩ := hX
  exact fun a h1 h2 H locs ls hP hS hl => lv_lconst hx hb hd hv (k a h1 h2 H locs ls hP hS hl)
theorem s_ldc (hX : CX g G cc own nL n) {i : Nat} {v : Int32} (hd : decode cc pc = .ok (.ldc i, 2)) (hw : Cond.constant own i v ∈ TB) (k : Sim G Pr K (pc + 2) lv (.int v :: st) μ) : Sim G Pr K pc lv (st) μ := by
  obtain ⟨p, e, R, s, m, args, below, meth, c, cells, slots, Q, rfl, hx, hb, hml, hown, hts, hK, hT, hO, hn1, hn2, hn3, hn4⟩ := hX
  exact fun a h1 h2 H locs ls hP hS hl => lv_ldc hx hb hown (hts _ hw) hd (k a h1 h2 H locs ls hP hS hl)
theorem s_ldcw (hX : CX g G cc own nL n) {i : Nat} {v : Int32} (hd : decode cc pc = .ok (.ldc_w i, 3)) (hw : Cond.constant own i v ∈ TB) (k : Sim G Pr K (pc + 3) lv (.int v :: st) μ) : Sim G Pr K pc lv (st) μ := by
  obtain ⟨p, e, R, s, m, args, below, meth, c, cells, slots, Q, rfl, hx, hb, hml, hown, hts, hK, hT, hO, hn1, hn2, hn3, hn4⟩ := hX
  exact fun a h1 h2 H locs ls hP hS hl => lv_ldcw hx hb hown (hts _ hw) hd (k a h1 h2 H locs ls hP hS hl)
theorem s_ldc2 (hX : CX g G cc own nL n) {i : Nat} {v : Int64} (hd : decode cc pc = .ok (.ldc2_w i, 3)) (hw : Cond.constantLong own i v ∈ TB) (k : Sim G Pr K (pc + 3) lv (.long v :: st) μ) : Sim G Pr K pc lv (st) μ := by
  obtain ⟨p, e, R, s, m, args, below, meth, c, cells, slots, Q, rfl, hx, hb, hml, hown, hts, hK, hT, hO, hn1, hn2, hn3, hn4⟩ := hX
  exact fun a h1 h2 H locs ls hP hS hl => lv_ldc2 hx hb hown (hts _ hw) hd (k a h1 h2 H locs ls hP hS hl)
theorem s_iload_n (hX : CX g G cc own nL n) {q : Fin 4} {i : Nat} {x : Int32} (hd : decode cc pc = .ok (.iload_n q, 1)) (hi : (q : Nat) = i) (k0 : Nat) (h0 : lv[k0]? = some (i, .int x)) (k : Sim G Pr K (pc + 1) lv (.int x :: st) μ) : Sim G Pr K pc lv (st) μ := by
  obtain ⟨p, e, R, s, m, args, below, meth, c, cells, slots, Q, rfl, hx, hb, hml, hown, hts, hK, hT, hO, hn1, hn2, hn3, hn4⟩ := hX
  exact fun a h1 h2 H locs ls hP hS hl => lv_iload_n hx hb hd hi (lv_at hl k0 h0) (k a h1 h2 H locs ls hP hS hl)
theorem s_iload (hX : CX g G cc own nL n) {i : Nat} {x : Int32} (hd : decode cc pc = .ok (.iload i, 2)) (k0 : Nat) (h0 : lv[k0]? = some (i, .int x)) (k : Sim G Pr K (pc + 2) lv (.int x :: st) μ) : Sim G Pr K pc lv (st) μ := by
  obtain ⟨p, e, R, s, m, args, below, meth, c, cells, slots, Q, rfl, hx, hb, hml, hown, hts, hK, hT, hO, hn1, hn2, hn3, hn4⟩ := hX
  exact fun a h1 h2 H locs ls hP hS hl => lv_iload hx hb hd (lv_at hl k0 h0) (k a h1 h2 H locs ls hP hS hl)
theorem s_lload_n (hX : CX g G cc own nL n) {q : Fin 4} {i : Nat} {x : Int64} (hd : decode cc pc = .ok (.lload_n q, 1)) (hi : (q : Nat) = i) (k0 : Nat) (h0 : lv[k0]? = some (i, .long x)) (k : Sim G Pr K (pc + 1) lv (.long x :: st) μ) : Sim G Pr K pc lv (st) μ := by
  obtain ⟨p, e, R, s, m, args, below, meth, c, cells, slots, Q, rfl, hx, hb, hml, hown, hts, hK, hT, hO, hn1, hn2, hn3, hn4⟩ := hX
  exact fun a h1 h2 H locs ls hP hS hl => lv_lload_n hx hb hd hi (lv_at hl k0 h0) (k a h1 h2 H locs ls hP hS hl)
theorem s_lload (hX : CX g G cc own nL n) {i : Nat} {x : Int64} (hd : decode cc pc = .ok (.lload i, 2)) (k0 : Nat) (h0 : lv[k0]? = some (i, .long x)) (k : Sim G Pr K (pc + 2) lv (.long x :: st) μ) : Sim G Pr K pc lv (st) μ := by
  obtain ⟨p, e, R, s, m, args, below, meth, c, cells, slots, Q, rfl, hx, hb, hml, hown, hts, hK, hT, hO, hn1, hn2, hn3, hn4⟩ := hX
  exact fun a h1 h2 H locs ls hP hS hl => lv_lload hx hb hd (lv_at hl k0 h0) (k a h1 h2 H locs ls hP hS hl)
theorem s_aload_n (hX : CX g G cc own nL n) {q : Fin 4} {i : Nat} {x : Nat} (hd : decode cc pc = .ok (.aload_n q, 1)) (hi : (q : Nat) = i) (k0 : Nat) (h0 : lv[k0]? = some (i, rf g x)) (k : Sim G Pr K (pc + 1) lv (rf g x :: st) μ) : Sim G Pr K pc lv (st) μ := by
  obtain ⟨p, e, R, s, m, args, below, meth, c, cells, slots, Q, rfl, hx, hb, hml, hown, hts, hK, hT, hO, hn1, hn2, hn3, hn4⟩ := hX
  exact fun a h1 h2 H locs ls hP hS hl => lv_aload_n hx hb hd hi (lv_at hl k0 h0) (k a h1 h2 H locs ls hP hS hl)
theorem s_aload (hX : CX g G cc own nL n) {i : Nat} {x : Nat} (hd : decode cc pc = .ok (.aload i, 2)) (k0 : Nat) (h0 : lv[k0]? = some (i, rf g x)) (k : Sim G Pr K (pc + 2) lv (rf g x :: st) μ) : Sim G Pr K pc lv (st) μ := by
  obtain ⟨p, e, R, s, m, args, below, meth, c, cells, slots, Q, rfl, hx, hb, hml, hown, hts, hK, hT, hO, hn1, hn2, hn3, hn4⟩ := hX
  exact fun a h1 h2 H locs ls hP hS hl => lv_aload hx hb hd (lv_at hl k0 h0) (k a h1 h2 H locs ls hP hS hl)
theorem s_Sload_n (hX : CX g G cc own nL n) {q : Fin 4} {i : Nat} {x : Nat} (hd : decode cc pc = .ok (.aload_n q, 1)) (hi : (q : Nat) = i) (k0 : Nat) (h0 : lv[k0]? = some (i, rfS g x)) (k : Sim G Pr K (pc + 1) lv (rfS g x :: st) μ) : Sim G Pr K pc lv (st) μ := by
  obtain ⟨p, e, R, s, m, args, below, meth, c, cells, slots, Q, rfl, hx, hb, hml, hown, hts, hK, hT, hO, hn1, hn2, hn3, hn4⟩ := hX
  exact fun a h1 h2 H locs ls hP hS hl => lv_aload_n hx hb hd hi (lv_at hl k0 h0) (k a h1 h2 H locs ls hP hS hl)
theorem s_Sload (hX : CX g G cc own nL n) {i : Nat} {x : Nat} (hd : decode cc pc = .ok (.aload i, 2)) (k0 : Nat) (h0 : lv[k0]? = some (i, rfS g x)) (k : Sim G Pr K (pc + 2) lv (rfS g x :: st) μ) : Sim G Pr K pc lv (st) μ := by
  obtain ⟨p, e, R, s, m, args, below, meth, c, cells, slots, Q, rfl, hx, hb, hml, hown, hts, hK, hT, hO, hn1, hn2, hn3, hn4⟩ := hX
  exact fun a h1 h2 H locs ls hP hS hl => lv_aload hx hb hd (lv_at hl k0 h0) (k a h1 h2 H locs ls hP hS hl)
theorem s_xload_n (hX : CX g G cc own nL n) {q : Fin 4} {i : Nat} {x : Nat} (hd : decode cc pc = .ok (.aload_n q, 1)) (hi : (q : Nat) = i) (k0 : Nat) (h0 : lv[k0]? = some (i, Value.ref x)) (k : Sim G Pr K (pc + 1) lv (Value.ref x :: st) μ) : Sim G Pr K pc lv (st) μ := by
  obtain ⟨p, e, R, s, m, args, below, meth, c, cells, slots, Q, rfl, hx, hb, hml, hown, hts, hK, hT, hO, hn1, hn2, hn3, hn4⟩ := hX
  exact fun a h1 h2 H locs ls hP hS hl => lv_aload_n hx hb hd hi (lv_at hl k0 h0) (k a h1 h2 H locs ls hP hS hl)
theorem s_xload (hX : CX g G cc own nL n) {i : Nat} {x : Nat} (hd : decode cc pc = .ok (.aload i, 2)) (k0 : Nat) (h0 : lv[k0]? = some (i, Value.ref x)) (k : Sim G Pr K (pc + 2) lv (Value.ref x :: st) μ) : Sim G Pr K pc lv (st) μ := by
  obtain ⟨p, e, R, s, m, args, below, meth, c, cells, slots, Q, rfl, hx, hb, hml, hown, hts, hK, hT, hO, hn1, hn2, hn3, hn4⟩ := hX
  exact fun a h1 h2 H locs ls hP hS hl => lv_aload hx hb hd (lv_at hl k0 h0) (k a h1 h2 H locs ls hP hS hl)
theorem s_istore_n (hX : CX g G cc own nL n) {q : Fin 4} {i : Nat} {x : Int32} {lv' : LV} (hd : decode cc pc = .ok (.istore_n q, 1)) (hi : (q : Nat) = i) (hn : i < nL) (hl : (i, Value.int x) :: lv.filter (fun q => !(q.1 == i) && !(q.1 + 1 == i && q.2.category == 2)) = lv') (k : Sim G Pr K (pc + 1) lv' st μ) : Sim G Pr K pc lv (Value.int x :: st) μ := by
  obtain ⟨p, e, R, s, m, args, below, meth, c, cells, slots, Q, rfl, hx, hb, hml, hown, hts, hK, hT, hO, hn1, hn2, hn3, hn4⟩ := hX
  exact fun a h1 h2 H locs ls hP hS h => lv_istore_n hx hb hd hi h hn hl (fun ls' hl' => k a h1 h2 H locs ls' hP hS hl')
theorem s_istore (hX : CX g G cc own nL n) {i : Nat} {x : Int32} {lv' : LV} (hd : decode cc pc = .ok (.istore i, 2)) (hn : i < nL) (hl : (i, Value.int x) :: lv.filter (fun q => !(q.1 == i) && !(q.1 + 1 == i && q.2.category == 2)) = lv') (k : Sim G Pr K (pc + 2) lv' st μ) : Sim G Pr K pc lv (Value.int x :: st) μ := by
  obtain ⟨p, e, R, s, m, args, below, meth, c, cells, slots, Q, rfl, hx, hb, hml, hown, hts, hK, hT, hO, hn1, hn2, hn3, hn4⟩ := hX
  exact fun a h1 h2 H locs ls hP hS h => lv_istore hx hb hd h hn hl (fun ls' hl' => k a h1 h2 H locs ls' hP hS hl')
theorem s_lstore_n (hX : CX g G cc own nL n) {q : Fin 4} {i : Nat} {x : Int64} {lv' : LV} (hd : decode cc pc = .ok (.lstore_n q, 1)) (hi : (q : Nat) = i) (hn : i + 1 < nL) (hl : (i, Value.long x) :: lv.filter (fun q => !(q.1 == i) && (!(q.1 == i + 1) && !(q.1 + 1 == i && q.2.category == 2))) = lv') (k : Sim G Pr K (pc + 1) lv' st μ) : Sim G Pr K pc lv (Value.long x :: st) μ := by
  obtain ⟨p, e, R, s, m, args, below, meth, c, cells, slots, Q, rfl, hx, hb, hml, hown, hts, hK, hT, hO, hn1, hn2, hn3, hn4⟩ := hX
  exact fun a h1 h2 H locs ls hP hS h => lv_lstore_n hx hb hd hi h hn hl (fun ls' hl' => k a h1 h2 H locs ls' hP hS hl')
theorem s_lstore (hX : CX g G cc own nL n) {i : Nat} {x : Int64} {lv' : LV} (hd : decode cc pc = .ok (.lstore i, 2)) (hn : i + 1 < nL) (hl : (i, Value.long x) :: lv.filter (fun q => !(q.1 == i) && (!(q.1 == i + 1) && !(q.1 + 1 == i && q.2.category == 2))) = lv') (k : Sim G Pr K (pc + 2) lv' st μ) : Sim G Pr K pc lv (Value.long x :: st) μ := by
  obtain ⟨p, e, R, s, m, args, below, meth, c, cells, slots, Q, rfl, hx, hb, hml, hown, hts, hK, hT, hO, hn1, hn2, hn3, hn4⟩ := hX
  exact fun a h1 h2 H locs ls hP hS h => lv_lstore hx hb hd h hn hl (fun ls' hl' => k a h1 h2 H locs ls' hP hS hl')
theorem s_astore_n (hX : CX g G cc own nL n) {q : Fin 4} {i : Nat} {x : Nat} {lv' : LV} (hd : decode cc pc = .ok (.astore_n q, 1)) (hi : (q : Nat) = i) (hn : i < nL) (hl : (i, rf g x) :: lv.filter (fun q => !(q.1 == i) && !(q.1 + 1 == i && q.2.category == 2)) = lv') (k : Sim G Pr K (pc + 1) lv' st μ) : Sim G Pr K pc lv (rf g x :: st) μ := by
  obtain ⟨p, e, R, s, m, args, below, meth, c, cells, slots, Q, rfl, hx, hb, hml, hown, hts, hK, hT, hO, hn1, hn2, hn3, hn4⟩ := hX
  exact fun a h1 h2 H locs ls hP hS h => lv_astore_n hx hb hd hi h hn hl (fun ls' hl' => k a h1 h2 H locs ls' hP hS hl')
theorem s_astore (hX : CX g G cc own nL n) {i : Nat} {x : Nat} {lv' : LV} (hd : decode cc pc = .ok (.astore i, 2)) (hn : i < nL) (hl : (i, rf g x) :: lv.filter (fun q => !(q.1 == i) && !(q.1 + 1 == i && q.2.category == 2)) = lv') (k : Sim G Pr K (pc + 2) lv' st μ) : Sim G Pr K pc lv (rf g x :: st) μ := by
  obtain ⟨p, e, R, s, m, args, below, meth, c, cells, slots, Q, rfl, hx, hb, hml, hown, hts, hK, hT, hO, hn1, hn2, hn3, hn4⟩ := hX
  exact fun a h1 h2 H locs ls hP hS h => lv_astore hx hb hd h hn hl (fun ls' hl' => k a h1 h2 H locs ls' hP hS hl')
theorem s_iinc (hX : CX g G cc own nL n) {i : Nat} {z : Int} {x v : Int32} {lv' : LV} (hd : decode cc pc = .ok (.iinc i z, 3)) (k0 : Nat) (h0 : lv[k0]? = some (i, .int x)) (hv : x + Int32.ofInt z = v) (hn : i < nL) (hl : (i, Value.int v) :: lv.filter (fun q => !(q.1 == i) && !(q.1 + 1 == i && q.2.category == 2)) = lv') (k : Sim G Pr K (pc + 3) lv' st μ) : Sim G Pr K pc lv st μ := by
  obtain ⟨p, e, R, s, m, args, below, meth, c, cells, slots, Q, rfl, hx, hb, hml, hown, hts, hK, hT, hO, hn1, hn2, hn3, hn4⟩ := hX
  exact fun a h1 h2 H locs ls hP hS h => lv_iinc hx hb hd h h0 hv hn hl (fun ls' hl' => k a h1 h2 H locs ls' hP hS hl')
theorem s_iadd (hX : CX g G cc own nL n) {x y : Int32} (hd : decode cc pc = .ok (.iadd, 1)) (k : Sim G Pr K (pc + 1) lv (.int (x + y) :: st) μ) : Sim G Pr K pc lv (.int y :: .int x :: st) μ := by
  obtain ⟨p, e, R, s, m, args, below, meth, c, cells, slots, Q, rfl, hx, hb, hml, hown, hts, hK, hT, hO, hn1, hn2, hn3, hn4⟩ := hX
  exact fun a h1 h2 H locs ls hP hS hl => lv_iadd hx hb hd (k a h1 h2 H locs ls hP hS hl)
theorem s_isub (hX : CX g G cc own nL n) {x y : Int32} (hd : decode cc pc = .ok (.isub, 1)) (k : Sim G Pr K (pc + 1) lv (.int (x - y) :: st) μ) : Sim G Pr K pc lv (.int y :: .int x :: st) μ := by
  obtain ⟨p, e, R, s, m, args, below, meth, c, cells, slots, Q, rfl, hx, hb, hml, hown, hts, hK, hT, hO, hn1, hn2, hn3, hn4⟩ := hX
  exact fun a h1 h2 H locs ls hP hS hl => lv_isub hx hb hd (k a h1 h2 H locs ls hP hS hl)
theorem s_imul (hX : CX g G cc own nL n) {x y : Int32} (hd : decode cc pc = .ok (.imul, 1)) (k : Sim G Pr K (pc + 1) lv (.int (x * y) :: st) μ) : Sim G Pr K pc lv (.int y :: .int x :: st) μ := by
  obtain ⟨p, e, R, s, m, args, below, meth, c, cells, slots, Q, rfl, hx, hb, hml, hown, hts, hK, hT, hO, hn1, hn2, hn3, hn4⟩ := hX
  exact fun a h1 h2 H locs ls hP hS hl => lv_imul hx hb hd (k a h1 h2 H locs ls hP hS hl)
theorem s_iand (hX : CX g G cc own nL n) {x y : Int32} (hd : decode cc pc = .ok (.iand, 1)) (k : Sim G Pr K (pc + 1) lv (.int (x &&& y) :: st) μ) : Sim G Pr K pc lv (.int y :: .int x :: st) μ := by
  obtain ⟨p, e, R, s, m, args, below, meth, c, cells, slots, Q, rfl, hx, hb, hml, hown, hts, hK, hT, hO, hn1, hn2, hn3, hn4⟩ := hX
  exact fun a h1 h2 H locs ls hP hS hl => lv_iand hx hb hd (k a h1 h2 H locs ls hP hS hl)
theorem s_ior (hX : CX g G cc own nL n) {x y : Int32} (hd : decode cc pc = .ok (.ior, 1)) (k : Sim G Pr K (pc + 1) lv (.int (x ||| y) :: st) μ) : Sim G Pr K pc lv (.int y :: .int x :: st) μ := by
  obtain ⟨p, e, R, s, m, args, below, meth, c, cells, slots, Q, rfl, hx, hb, hml, hown, hts, hK, hT, hO, hn1, hn2, hn3, hn4⟩ := hX
  exact fun a h1 h2 H locs ls hP hS hl => lv_ior hx hb hd (k a h1 h2 H locs ls hP hS hl)
theorem s_ixor (hX : CX g G cc own nL n) {x y : Int32} (hd : decode cc pc = .ok (.ixor, 1)) (k : Sim G Pr K (pc + 1) lv (.int (x ^^^ y) :: st) μ) : Sim G Pr K pc lv (.int y :: .int x :: st) μ := by
  obtain ⟨p, e, R, s, m, args, below, meth, c, cells, slots, Q, rfl, hx, hb, hml, hown, hts, hK, hT, hO, hn1, hn2, hn3, hn4⟩ := hX
  exact fun a h1 h2 H locs ls hP hS hl => lv_ixor hx hb hd (k a h1 h2 H locs ls hP hS hl)
theorem s_ishl (hX : CX g G cc own nL n) {x y : Int32} (hd : decode cc pc = .ok (.ishl, 1)) (k : Sim G Pr K (pc + 1) lv (.int (x <<< (y &&& 31)) :: st) μ) : Sim G Pr K pc lv (.int y :: .int x :: st) μ := by
  obtain ⟨p, e, R, s, m, args, below, meth, c, cells, slots, Q, rfl, hx, hb, hml, hown, hts, hK, hT, hO, hn1, hn2, hn3, hn4⟩ := hX
  exact fun a h1 h2 H locs ls hP hS hl => lv_ishl hx hb hd (k a h1 h2 H locs ls hP hS hl)
theorem s_ishr (hX : CX g G cc own nL n) {x y : Int32} (hd : decode cc pc = .ok (.ishr, 1)) (k : Sim G Pr K (pc + 1) lv (.int (x >>> (y &&& 31)) :: st) μ) : Sim G Pr K pc lv (.int y :: .int x :: st) μ := by
  obtain ⟨p, e, R, s, m, args, below, meth, c, cells, slots, Q, rfl, hx, hb, hml, hown, hts, hK, hT, hO, hn1, hn2, hn3, hn4⟩ := hX
  exact fun a h1 h2 H locs ls hP hS hl => lv_ishr hx hb hd (k a h1 h2 H locs ls hP hS hl)
theorem s_iushr (hX : CX g G cc own nL n) {x y : Int32} (hd : decode cc pc = .ok (.iushr, 1)) (k : Sim G Pr K (pc + 1) lv (.int ((x.toUInt32 >>> (y.toUInt32 &&& Int32.toUInt32 31)).toInt32) :: st) μ) : Sim G Pr K pc lv (.int y :: .int x :: st) μ := by
  obtain ⟨p, e, R, s, m, args, below, meth, c, cells, slots, Q, rfl, hx, hb, hml, hown, hts, hK, hT, hO, hn1, hn2, hn3, hn4⟩ := hX
  exact fun a h1 h2 H locs ls hP hS hl => lv_iushr hx hb hd rfl (k a h1 h2 H locs ls hP hS hl)
theorem s_idiv (hX : CX g G cc own nL n) {x y : Int32} (hd : decode cc pc = .ok (.idiv, 1)) (hne : ¬ y = 0) (k : Sim G Pr K (pc + 1) lv (.int (x / y) :: st) μ) : Sim G Pr K pc lv (.int y :: .int x :: st) μ := by
  obtain ⟨p, e, R, s, m, args, below, meth, c, cells, slots, Q, rfl, hx, hb, hml, hown, hts, hK, hT, hO, hn1, hn2, hn3, hn4⟩ := hX
  exact fun a h1 h2 H locs ls hP hS hl => lv_idiv hx hb hd hne (k a h1 h2 H locs ls hP hS hl)
theorem s_irem (hX : CX g G cc own nL n) {x y : Int32} (hd : decode cc pc = .ok (.irem, 1)) (hne : ¬ y = 0) (k : Sim G Pr K (pc + 1) lv (.int (x - x / y * y) :: st) μ) : Sim G Pr K pc lv (.int y :: .int x :: st) μ := by
  obtain ⟨p, e, R, s, m, args, below, meth, c, cells, slots, Q, rfl, hx, hb, hml, hown, hts, hK, hT, hO, hn1, hn2, hn3, hn4⟩ := hX
  exact fun a h1 h2 H locs ls hP hS hl => lv_irem hx hb hd hne (k a h1 h2 H locs ls hP hS hl)
theorem s_ladd (hX : CX g G cc own nL n) {x y : Int64} (hd : decode cc pc = .ok (.ladd, 1)) (k : Sim G Pr K (pc + 1) lv (.long (x + y) :: st) μ) : Sim G Pr K pc lv (.long y :: .long x :: st) μ := by
  obtain ⟨p, e, R, s, m, args, below, meth, c, cells, slots, Q, rfl, hx, hb, hml, hown, hts, hK, hT, hO, hn1, hn2, hn3, hn4⟩ := hX
  exact fun a h1 h2 H locs ls hP hS hl => lv_ladd hx hb hd (k a h1 h2 H locs ls hP hS hl)
theorem s_lsub (hX : CX g G cc own nL n) {x y : Int64} (hd : decode cc pc = .ok (.lsub, 1)) (k : Sim G Pr K (pc + 1) lv (.long (x - y) :: st) μ) : Sim G Pr K pc lv (.long y :: .long x :: st) μ := by
  obtain ⟨p, e, R, s, m, args, below, meth, c, cells, slots, Q, rfl, hx, hb, hml, hown, hts, hK, hT, hO, hn1, hn2, hn3, hn4⟩ := hX
  exact fun a h1 h2 H locs ls hP hS hl => lv_lsub hx hb hd (k a h1 h2 H locs ls hP hS hl)
theorem s_lmul (hX : CX g G cc own nL n) {x y : Int64} (hd : decode cc pc = .ok (.lmul, 1)) (k : Sim G Pr K (pc + 1) lv (.long (x * y) :: st) μ) : Sim G Pr K pc lv (.long y :: .long x :: st) μ := by
  obtain ⟨p, e, R, s, m, args, below, meth, c, cells, slots, Q, rfl, hx, hb, hml, hown, hts, hK, hT, hO, hn1, hn2, hn3, hn4⟩ := hX
  exact fun a h1 h2 H locs ls hP hS hl => lv_lmul hx hb hd (k a h1 h2 H locs ls hP hS hl)
theorem s_ldiv (hX : CX g G cc own nL n) {x y : Int64} (hd : decode cc pc = .ok (.ldiv, 1)) (hne : ¬ y = 0) (k : Sim G Pr K (pc + 1) lv (.long (x / y) :: st) μ) : Sim G Pr K pc lv (.long y :: .long x :: st) μ := by
  obtain ⟨p, e, R, s, m, args, below, meth, c, cells, slots, Q, rfl, hx, hb, hml, hown, hts, hK, hT, hO, hn1, hn2, hn3, hn4⟩ := hX
  exact fun a h1 h2 H locs ls hP hS hl => lv_ldiv hx hb hd hne (k a h1 h2 H locs ls hP hS hl)
theorem s_ldivZ (hX : CX g G cc own nL n) {x y : Int64} (hd : decode cc pc = .ok (.ldiv, 1)) (k : Sim G Pr K (pc + 1) lv (.long (x / y) :: st) μ) : Sim G (ckZ y Pr) K pc lv (.long y :: .long x :: st) μ := by
  intro a h1 h2
  unfold ckZ at h1
  by_cases hy : y = 0
  · rw [if_pos hy] at h1; cases h1
  · rw [if_neg hy] at h1; exact s_ldiv hX hd hy k a h1 h2
theorem s_lrem (hX : CX g G cc own nL n) {x y : Int64} (hd : decode cc pc = .ok (.lrem, 1)) (hne : ¬ y = 0) (k : Sim G Pr K (pc + 1) lv (.long (x - x / y * y) :: st) μ) : Sim G Pr K pc lv (.long y :: .long x :: st) μ := by
  obtain ⟨p, e, R, s, m, args, below, meth, c, cells, slots, Q, rfl, hx, hb, hml, hown, hts, hK, hT, hO, hn1, hn2, hn3, hn4⟩ := hX
  exact fun a h1 h2 H locs ls hP hS hl => lv_lrem hx hb hd hne (k a h1 h2 H locs ls hP hS hl)
theorem s_lremZ (hX : CX g G cc own nL n) {x y : Int64} (hd : decode cc pc = .ok (.lrem, 1)) (k : Sim G Pr K (pc + 1) lv (.long (x - x / y * y) :: st) μ) : Sim G (ckZ y Pr) K pc lv (.long y :: .long x :: st) μ := by
  intro a h1 h2
  unfold ckZ at h1
  by_cases hy : y = 0
  · rw [if_pos hy] at h1; cases h1
  · rw [if_neg hy] at h1; exact s_lrem hX hd hy k a h1 h2
theorem s_lneg (hX : CX g G cc own nL n) {x : Int64} (hd : decode cc pc = .ok (.lneg, 1)) (k : Sim G Pr K (pc + 1) lv (.long (-x) :: st) μ) : Sim G Pr K pc lv (.long x :: st) μ := by
  obtain ⟨p, e, R, s, m, args, below, meth, c, cells, slots, Q, rfl, hx, hb, hml, hown, hts, hK, hT, hO, hn1, hn2, hn3, hn4⟩ := hX
  exact fun a h1 h2 H locs ls hP hS hl => lv_lneg hx hb hd (k a h1 h2 H locs ls hP hS hl)
theorem s_i2l (hX : CX g G cc own nL n) {x : Int32} (hd : decode cc pc = .ok (.i2l, 1)) (k : Sim G Pr K (pc + 1) lv (.long x.toInt64 :: st) μ) : Sim G Pr K pc lv (.int x :: st) μ := by
  obtain ⟨p, e, R, s, m, args, below, meth, c, cells, slots, Q, rfl, hx, hb, hml, hown, hts, hK, hT, hO, hn1, hn2, hn3, hn4⟩ := hX
  exact fun a h1 h2 H locs ls hP hS hl => lv_i2l hx hb hd rfl (k a h1 h2 H locs ls hP hS hl)
theorem s_i2c (hX : CX g G cc own nL n) {x : Int32} (hd : decode cc pc = .ok (.i2c, 1)) (k : Sim G Pr K (pc + 1) lv (.int ((x.toUInt32 % 65536).toInt32) :: st) μ) : Sim G Pr K pc lv (.int x :: st) μ := by
  obtain ⟨p, e, R, s, m, args, below, meth, c, cells, slots, Q, rfl, hx, hb, hml, hown, hts, hK, hT, hO, hn1, hn2, hn3, hn4⟩ := hX
  exact fun a h1 h2 H locs ls hP hS hl => lv_i2c hx hb hd rfl (k a h1 h2 H locs ls hP hS hl)
theorem s_dup (hX : CX g G cc own nL n) {va : Value} (hd : decode cc pc = .ok (.dup, 1)) (hc : va.category = 1) (k : Sim G Pr K (pc + 1) lv (va :: va :: st) μ) : Sim G Pr K pc lv (va :: st) μ := by
  obtain ⟨p, e, R, s, m, args, below, meth, c, cells, slots, Q, rfl, hx, hb, hml, hown, hts, hK, hT, hO, hn1, hn2, hn3, hn4⟩ := hX
  exact fun a h1 h2 H locs ls hP hS hl => lv_dup hx hb hd hc (k a h1 h2 H locs ls hP hS hl)
theorem s_pop (hX : CX g G cc own nL n) {va : Value} (hd : decode cc pc = .ok (.pop, 1)) (hc : va.category = 1) (k : Sim G Pr K (pc + 1) lv (st) μ) : Sim G Pr K pc lv (va :: st) μ := by
  obtain ⟨p, e, R, s, m, args, below, meth, c, cells, slots, Q, rfl, hx, hb, hml, hown, hts, hK, hT, hO, hn1, hn2, hn3, hn4⟩ := hX
  exact fun a h1 h2 H locs ls hP hS hl => lv_pop hx hb hd hc (k a h1 h2 H locs ls hP hS hl)
theorem s_dup2 (hX : CX g G cc own nL n) {va vb : Value} (hd : decode cc pc = .ok (.dup2, 1)) (hc : va.category = 1) (hc' : vb.category = 1) (k : Sim G Pr K (pc + 1) lv (va :: vb :: va :: vb :: st) μ) : Sim G Pr K pc lv (va :: vb :: st) μ := by
  obtain ⟨p, e, R, s, m, args, below, meth, c, cells, slots, Q, rfl, hx, hb, hml, hown, hts, hK, hT, hO, hn1, hn2, hn3, hn4⟩ := hX
  exact fun a h1 h2 H locs ls hP hS hl => lv_dup2_11 hx hb hd hc hc' (k a h1 h2 H locs ls hP hS hl)
theorem s_goto (hX : CX g G cc own nL n) {off : Int} (tgt : Nat) (hd : decode cc pc = .ok (.goto off, 3)) (ht : (pc : Int) + off = (tgt : Int)) (k : Sim G Pr K tgt lv st μ) : Sim G Pr K pc lv st μ := by
  obtain ⟨p, e, R, s, m, args, below, meth, c, cells, slots, Q, rfl, hx, hb, hml, hown, hts, hK, hT, hO, hn1, hn2, hn3, hn4⟩ := hX
  exact fun a h1 h2 H locs ls hP hS hl => lv_goto hx hb hd ht (k a h1 h2 H locs ls hP hS hl)
theorem s_icmp_eq (hX : CX g G cc own nL n) {x y : Int32} {P1 P2 : Option α} {off : Int} (tgt : Nat) (hd : decode cc pc = .ok (.if_icmp .eq off, 3)) (ht : (pc : Int) + off = (tgt : Int)) (kt : Sim G P1 K tgt lv st μ) (kf : Sim G P2 K (pc + 3) lv st μ) : Sim G (if x = y then P1 else P2) K pc lv (.int y :: .int x :: st) μ := by
  obtain ⟨p, e, R, s, m, args, below, meth, c, cells, slots, Q, rfl, hx, hb, hml, hown, hts, hK, hT, hO, hn1, hn2, hn3, hn4⟩ := hX
  intro a h1 h2 H locs ls hP hS hl
  exact lv_icmp_eq hx hb hd ht (fun q => by rw [if_pos q] at h1; exact kt a h1 h2 H locs ls hP hS hl) (fun q => by rw [if_neg q] at h1; exact kf a h1 h2 H locs ls hP hS hl)
theorem s_icmp_ne (hX : CX g G cc own nL n) {x y : Int32} {P1 P2 : Option α} {off : Int} (tgt : Nat) (hd : decode cc pc = .ok (.if_icmp .ne off, 3)) (ht : (pc : Int) + off = (tgt : Int)) (kt : Sim G P2 K tgt lv st μ) (kf : Sim G P1 K (pc + 3) lv st μ) : Sim G (if x = y then P1 else P2) K pc lv (.int y :: .int x :: st) μ := by
  obtain ⟨p, e, R, s, m, args, below, meth, c, cells, slots, Q, rfl, hx, hb, hml, hown, hts, hK, hT, hO, hn1, hn2, hn3, hn4⟩ := hX
  intro a h1 h2 H locs ls hP hS hl
  exact lv_icmp_ne hx hb hd ht (fun q => by rw [if_neg (q)] at h1; exact kt a h1 h2 H locs ls hP hS hl) (fun q => by rw [if_pos (q)] at h1; exact kf a h1 h2 H locs ls hP hS hl)
theorem s_icmp_lt (hX : CX g G cc own nL n) {x y : Int32} {P1 P2 : Option α} {off : Int} (tgt : Nat) (hd : decode cc pc = .ok (.if_icmp .lt off, 3)) (ht : (pc : Int) + off = (tgt : Int)) (kt : Sim G P1 K tgt lv st μ) (kf : Sim G P2 K (pc + 3) lv st μ) : Sim G (if x < y then P1 else P2) K pc lv (.int y :: .int x :: st) μ := by
  obtain ⟨p, e, R, s, m, args, below, meth, c, cells, slots, Q, rfl, hx, hb, hml, hown, hts, hK, hT, hO, hn1, hn2, hn3, hn4⟩ := hX
  intro a h1 h2 H locs ls hP hS hl
  exact lv_icmp_lt hx hb hd ht (fun q => by rw [if_pos q] at h1; exact kt a h1 h2 H locs ls hP hS hl) (fun q => by rw [if_neg q] at h1; exact kf a h1 h2 H locs ls hP hS hl)
theorem s_icmp_ge (hX : CX g G cc own nL n) {x y : Int32} {P1 P2 : Option α} {off : Int} (tgt : Nat) (hd : decode cc pc = .ok (.if_icmp .ge off, 3)) (ht : (pc : Int) + off = (tgt : Int)) (kt : Sim G P2 K tgt lv st μ) (kf : Sim G P1 K (pc + 3) lv st μ) : Sim G (if x < y then P1 else P2) K pc lv (.int y :: .int x :: st) μ := by
  obtain ⟨p, e, R, s, m, args, below, meth, c, cells, slots, Q, rfl, hx, hb, hml, hown, hts, hK, hT, hO, hn1, hn2, hn3, hn4⟩ := hX
  intro a h1 h2 H locs ls hP hS hl
  exact lv_icmp_ge hx hb hd ht (fun q => by rw [if_neg (Int32.not_lt.mpr q)] at h1; exact kt a h1 h2 H locs ls hP hS hl) (fun q => by rw [if_pos (Int32.not_le.mp q)] at h1; exact kf a h1 h2 H locs ls hP hS hl)
theorem s_icmp_gt (hX : CX g G cc own nL n) {x y : Int32} {P1 P2 : Option α} {off : Int} (tgt : Nat) (hd : decode cc pc = .ok (.if_icmp .gt off, 3)) (ht : (pc : Int) + off = (tgt : Int)) (kt : Sim G P1 K tgt lv st μ) (kf : Sim G P2 K (pc + 3) lv st μ) : Sim G (if y < x then P1 else P2) K pc lv (.int y :: .int x :: st) μ := by
  obtain ⟨p, e, R, s, m, args, below, meth, c, cells, slots, Q, rfl, hx, hb, hml, hown, hts, hK, hT, hO, hn1, hn2, hn3, hn4⟩ := hX
  intro a h1 h2 H locs ls hP hS hl
  exact lv_icmp_gt hx hb hd ht (fun q => by rw [if_pos q] at h1; exact kt a h1 h2 H locs ls hP hS hl) (fun q => by rw [if_neg q] at h1; exact kf a h1 h2 H locs ls hP hS hl)
theorem s_icmp_le (hX : CX g G cc own nL n) {x y : Int32} {P1 P2 : Option α} {off : Int} (tgt : Nat) (hd : decode cc pc = .ok (.if_icmp .le off, 3)) (ht : (pc : Int) + off = (tgt : Int)) (kt : Sim G P2 K tgt lv st μ) (kf : Sim G P1 K (pc + 3) lv st μ) : Sim G (if y < x then P1 else P2) K pc lv (.int y :: .int x :: st) μ := by
  obtain ⟨p, e, R, s, m, args, below, meth, c, cells, slots, Q, rfl, hx, hb, hml, hown, hts, hK, hT, hO, hn1, hn2, hn3, hn4⟩ := hX
  intro a h1 h2 H locs ls hP hS hl
  exact lv_icmp_le hx hb hd ht (fun q => by rw [if_neg (Int32.not_lt.mpr q)] at h1; exact kt a h1 h2 H locs ls hP hS hl) (fun q => by rw [if_pos (Int32.not_le.mp q)] at h1; exact kf a h1 h2 H locs ls hP hS hl)
theorem s_if_eq (hX : CX g G cc own nL n) {x : Int32} {P1 P2 : Option α} {off : Int} (tgt : Nat) (hd : decode cc pc = .ok (.ifCond .eq off, 3)) (ht : (pc : Int) + off = (tgt : Int)) (kt : Sim G P1 K tgt lv st μ) (kf : Sim G P2 K (pc + 3) lv st μ) : Sim G (if x = 0 then P1 else P2) K pc lv (.int x :: st) μ := by
  obtain ⟨p, e, R, s, m, args, below, meth, c, cells, slots, Q, rfl, hx, hb, hml, hown, hts, hK, hT, hO, hn1, hn2, hn3, hn4⟩ := hX
  intro a h1 h2 H locs ls hP hS hl
  exact lv_if_eq hx hb hd ht (fun q => by rw [if_pos q] at h1; exact kt a h1 h2 H locs ls hP hS hl) (fun q => by rw [if_neg q] at h1; exact kf a h1 h2 H locs ls hP hS hl)
theorem s_if_ne (hX : CX g G cc own nL n) {x : Int32} {P1 P2 : Option α} {off : Int} (tgt : Nat) (hd : decode cc pc = .ok (.ifCond .ne off, 3)) (ht : (pc : Int) + off = (tgt : Int)) (kt : Sim G P2 K tgt lv st μ) (kf : Sim G P1 K (pc + 3) lv st μ) : Sim G (if x = 0 then P1 else P2) K pc lv (.int x :: st) μ := by
  obtain ⟨p, e, R, s, m, args, below, meth, c, cells, slots, Q, rfl, hx, hb, hml, hown, hts, hK, hT, hO, hn1, hn2, hn3, hn4⟩ := hX
  intro a h1 h2 H locs ls hP hS hl
  exact lv_if_ne hx hb hd ht (fun q => by rw [if_neg (q)] at h1; exact kt a h1 h2 H locs ls hP hS hl) (fun q => by rw [if_pos (q)] at h1; exact kf a h1 h2 H locs ls hP hS hl)
theorem s_if_lt (hX : CX g G cc own nL n) {x : Int32} {P1 P2 : Option α} {off : Int} (tgt : Nat) (hd : decode cc pc = .ok (.ifCond .lt off, 3)) (ht : (pc : Int) + off = (tgt : Int)) (kt : Sim G P1 K tgt lv st μ) (kf : Sim G P2 K (pc + 3) lv st μ) : Sim G (if x < 0 then P1 else P2) K pc lv (.int x :: st) μ := by
  obtain ⟨p, e, R, s, m, args, below, meth, c, cells, slots, Q, rfl, hx, hb, hml, hown, hts, hK, hT, hO, hn1, hn2, hn3, hn4⟩ := hX
  intro a h1 h2 H locs ls hP hS hl
  exact lv_if_lt hx hb hd ht (fun q => by rw [if_pos q] at h1; exact kt a h1 h2 H locs ls hP hS hl) (fun q => by rw [if_neg q] at h1; exact kf a h1 h2 H locs ls hP hS hl)
theorem s_if_ge (hX : CX g G cc own nL n) {x : Int32} {P1 P2 : Option α} {off : Int} (tgt : Nat) (hd : decode cc pc = .ok (.ifCond .ge off, 3)) (ht : (pc : Int) + off = (tgt : Int)) (kt : Sim G P2 K tgt lv st μ) (kf : Sim G P1 K (pc + 3) lv st μ) : Sim G (if x < 0 then P1 else P2) K pc lv (.int x :: st) μ := by
  obtain ⟨p, e, R, s, m, args, below, meth, c, cells, slots, Q, rfl, hx, hb, hml, hown, hts, hK, hT, hO, hn1, hn2, hn3, hn4⟩ := hX
  intro a h1 h2 H locs ls hP hS hl
  exact lv_if_ge hx hb hd ht (fun q => by rw [if_neg (Int32.not_lt.mpr q)] at h1; exact kt a h1 h2 H locs ls hP hS hl) (fun q => by rw [if_pos (Int32.not_le.mp q)] at h1; exact kf a h1 h2 H locs ls hP hS hl)
theorem s_if_gt (hX : CX g G cc own nL n) {x : Int32} {P1 P2 : Option α} {off : Int} (tgt : Nat) (hd : decode cc pc = .ok (.ifCond .gt off, 3)) (ht : (pc : Int) + off = (tgt : Int)) (kt : Sim G P1 K tgt lv st μ) (kf : Sim G P2 K (pc + 3) lv st μ) : Sim G (if 0 < x then P1 else P2) K pc lv (.int x :: st) μ := by
  obtain ⟨p, e, R, s, m, args, below, meth, c, cells, slots, Q, rfl, hx, hb, hml, hown, hts, hK, hT, hO, hn1, hn2, hn3, hn4⟩ := hX
  intro a h1 h2 H locs ls hP hS hl
  exact lv_if_gt hx hb hd ht (fun q => by rw [if_pos q] at h1; exact kt a h1 h2 H locs ls hP hS hl) (fun q => by rw [if_neg q] at h1; exact kf a h1 h2 H locs ls hP hS hl)
theorem s_if_le (hX : CX g G cc own nL n) {x : Int32} {P1 P2 : Option α} {off : Int} (tgt : Nat) (hd : decode cc pc = .ok (.ifCond .le off, 3)) (ht : (pc : Int) + off = (tgt : Int)) (kt : Sim G P2 K tgt lv st μ) (kf : Sim G P1 K (pc + 3) lv st μ) : Sim G (if 0 < x then P1 else P2) K pc lv (.int x :: st) μ := by
  obtain ⟨p, e, R, s, m, args, below, meth, c, cells, slots, Q, rfl, hx, hb, hml, hown, hts, hK, hT, hO, hn1, hn2, hn3, hn4⟩ := hX
  intro a h1 h2 H locs ls hP hS hl
  exact lv_if_le hx hb hd ht (fun q => by rw [if_neg (Int32.not_lt.mpr q)] at h1; exact kt a h1 h2 H locs ls hP hS hl) (fun q => by rw [if_pos (Int32.not_le.mp q)] at h1; exact kf a h1 h2 H locs ls hP hS hl)
theorem s_lcmp (hX : CX g G cc own nL n) {x y : Int64} (hd : decode cc pc = .ok (.lcmp, 1)) (k : Sim G Pr K (pc + 1) lv (.int (lg_cmp x y) :: st) μ) : Sim G Pr K pc lv (.long y :: .long x :: st) μ := by
  obtain ⟨p, e, R, s, m, args, below, meth, c, cells, slots, Q, rfl, hx, hb, hml, hown, hts, hK, hT, hO, hn1, hn2, hn3, hn4⟩ := hX
  exact fun a h1 h2 H locs ls hP hS hl => W.lcmp hx hb hd (k a h1 h2 H locs ls hP hS hl)
theorem lgc_lt (x y : Int64) : (lg_cmp x y < 0) ↔ x < y := by
  unfold lg_cmp
  simp only [gt_iff_lt, Int64.lt_iff_toInt_lt, ← Int64.toInt_inj]
  repeat' split
  all_goals simp <;> omega
theorem lgc_gt (x y : Int64) : (0 < lg_cmp x y) ↔ y < x := by
  unfold lg_cmp
  simp only [gt_iff_lt, Int64.lt_iff_toInt_lt, ← Int64.toInt_inj]
  repeat' split
  all_goals simp <;> omega
theorem lgc_eq (x y : Int64) : (lg_cmp x y = 0) ↔ x = y := by
  unfold lg_cmp
  simp only [gt_iff_lt, Int64.lt_iff_toInt_lt, ← Int64.toInt_inj]
  repeat' split
  all_goals simp <;> omega
theorem s_ifc {c d : Prop} [Decidable c] [Decidable d] (e : c ↔ d) {P1 P2 : Option α} (k : Sim G (if c then P1 else P2) K pc lv st μ) : Sim G (if d then P1 else P2) K pc lv st μ := by
  intro a h1 h2
  refine k a ?_ h2
  rw [← h1]
  by_cases h : c
  · rw [if_pos h, if_pos (e.mp h)]
  · rw [if_neg h, if_neg (fun q => h (e.mpr q))]

theorem s_lcmp_lt (hX : CX g G cc own nL n) {x y : Int64} {P1 P2 : Option α} {off : Int} (tgt : Nat) (hc : decode cc pc = .ok (.lcmp, 1)) (hd : decode cc (pc + 1) = .ok (.ifCond .lt off, 3)) (ht : ((pc + 1 : Nat) : Int) + off = (tgt : Int)) (kt : Sim G P1 K tgt lv st μ) (kf : Sim G P2 K (pc + 4) lv st μ) : Sim G (if x < y then P1 else P2) K pc lv (.long y :: .long x :: st) μ := s_lcmp hX hc (s_ifc (lgc_lt x y) (s_if_lt hX tgt hd ht kt kf))
theorem s_lcmp_ge (hX : CX g G cc own nL n) {x y : Int64} {P1 P2 : Option α} {off : Int} (tgt : Nat) (hc : decode cc pc = .ok (.lcmp, 1)) (hd : decode cc (pc + 1) = .ok (.ifCond .ge off, 3)) (ht : ((pc + 1 : Nat) : Int) + off = (tgt : Int)) (kt : Sim G P2 K tgt lv st μ) (kf : Sim G P1 K (pc + 4) lv st μ) : Sim G (if x < y then P1 else P2) K pc lv (.long y :: .long x :: st) μ := s_lcmp hX hc (s_ifc (lgc_lt x y) (s_if_ge hX tgt hd ht kt kf))
theorem s_lcmp_gt (hX : CX g G cc own nL n) {x y : Int64} {P1 P2 : Option α} {off : Int} (tgt : Nat) (hc : decode cc pc = .ok (.lcmp, 1)) (hd : decode cc (pc + 1) = .ok (.ifCond .gt off, 3)) (ht : ((pc + 1 : Nat) : Int) + off = (tgt : Int)) (kt : Sim G P1 K tgt lv st μ) (kf : Sim G P2 K (pc + 4) lv st μ) : Sim G (if y < x then P1 else P2) K pc lv (.long y :: .long x :: st) μ := s_lcmp hX hc (s_ifc (lgc_gt x y) (s_if_gt hX tgt hd ht kt kf))
theorem s_lcmp_le (hX : CX g G cc own nL n) {x y : Int64} {P1 P2 : Option α} {off : Int} (tgt : Nat) (hc : decode cc pc = .ok (.lcmp, 1)) (hd : decode cc (pc + 1) = .ok (.ifCond .le off, 3)) (ht : ((pc + 1 : Nat) : Int) + off = (tgt : Int)) (kt : Sim G P2 K tgt lv st μ) (kf : Sim G P1 K (pc + 4) lv st μ) : Sim G (if y < x then P1 else P2) K pc lv (.long y :: .long x :: st) μ := s_lcmp hX hc (s_ifc (lgc_gt x y) (s_if_le hX tgt hd ht kt kf))
theorem s_lcmp_eq (hX : CX g G cc own nL n) {x y : Int64} {P1 P2 : Option α} {off : Int} (tgt : Nat) (hc : decode cc pc = .ok (.lcmp, 1)) (hd : decode cc (pc + 1) = .ok (.ifCond .eq off, 3)) (ht : ((pc + 1 : Nat) : Int) + off = (tgt : Int)) (kt : Sim G P1 K tgt lv st μ) (kf : Sim G P2 K (pc + 4) lv st μ) : Sim G (if x = y then P1 else P2) K pc lv (.long y :: .long x :: st) μ := s_lcmp hX hc (s_ifc (lgc_eq x y) (s_if_eq hX tgt hd ht kt kf))
theorem s_lcmp_ne (hX : CX g G cc own nL n) {x y : Int64} {P1 P2 : Option α} {off : Int} (tgt : Nat) (hc : decode cc pc = .ok (.lcmp, 1)) (hd : decode cc (pc + 1) = .ok (.ifCond .ne off, 3)) (ht : ((pc + 1 : Nat) : Int) + off = (tgt : Int)) (kt : Sim G P2 K tgt lv st μ) (kf : Sim G P1 K (pc + 4) lv st μ) : Sim G (if x = y then P1 else P2) K pc lv (.long y :: .long x :: st) μ := s_lcmp hX hc (s_ifc (lgc_eq x y) (s_if_ne hX tgt hd ht kt kf))
theorem s_tabC (hX : CX g G cc own nL n) {x v : Int32} {P1 P2 : Option α} {dflt lo hi a off : Int} {offs : Array Int} {len : Nat} (tgt : Nat) (hd : decode cc pc = .ok (.tableswitch dflt lo hi offs, len)) (hv : v.toInt = a) (h1 : ¬ a < lo) (h2 : ¬ hi < a) (ho : offs[(a - lo).toNat]? = some off) (ht : (pc : Int) + off = (tgt : Int)) (k1 : Sim G P1 K tgt lv st μ) (k2 : ¬ x.toInt = a → Sim G P2 K pc lv (.int x :: st) μ) : Sim G (if x = v then P1 else P2) K pc lv (.int x :: st) μ := by
  intro b g1 g2
  by_cases hq : x = v
  · rw [if_pos hq] at g1
    subst hq
    subst hv
    have kk := k1 b g1 g2
    obtain ⟨p, e, R, s, m, args, below, meth, c, cells, slots, Q, rfl, hx, hb, hml, hown, hts, hK, hT, hO, hn1, hn2, hn3, hn4⟩ := hX
    exact fun H locs ls hP hS hl => lv_tableIn hx hb hd h1 h2 ho ht (kk H locs ls hP hS hl)
  · rw [if_neg hq] at g1
    exact k2 (fun q => hq (Int32.toInt_inj.mp (by rw [hv]; exact q))) b g1 g2
theorem s_tabD (hX : CX g G cc own nL n) {x : Int32} {dflt lo hi : Int} {offs : Array Int} {len : Nat} (tgt : Nat) (hd : decode cc pc = .ok (.tableswitch dflt lo hi offs, len)) (h : x.toInt < lo ∨ hi < x.toInt) (ht : (pc : Int) + dflt = (tgt : Int)) (k : Sim G Pr K tgt lv st μ) : Sim G Pr K pc lv (.int x :: st) μ := by
  obtain ⟨p, e, R, s, m, args, below, meth, c, cells, slots, Q, rfl, hx, hb, hml, hown, hts, hK, hT, hO, hn1, hn2, hn3, hn4⟩ := hX
  exact fun a h1 h2 H locs ls hP hS hl => lv_tableOut hx hb hd h ht (k a h1 h2 H locs ls hP hS hl)
theorem s_getI (hX : CX g G cc own nL n) {idx ci j k : Nat} {t : FieldType} {fin : Bool} (hf : FLk own idx ci j 0 t fin) (hk : tyOf k = ci) (hd : decode cc pc = .ok (.getfield idx, 3)) (kk : Sim G Pr K (pc + 3) lv (.int (μ.1 k j) :: st) μ) : Sim G Pr K pc lv (rf g k :: st) μ := by
  obtain ⟨p, e, R, s, m, args, below, meth, c, cells, slots, Q, rfl, hx, hb, hml, hown, hts, hK, hT, hO, hn1, hn2, hn3, hn4⟩ := hX
  obtain ⟨C, T, N, ty, ⟨hc, hin, -, -, hN, h10⟩, hj, hfk, hlk, -, -⟩ := hf
  exact fun a h1 h2 H locs ls hP hS hl => va_get hx hb hts hin hown hK hP k (fs := flds (gad g) μ k ci) (by rw [wsOf_at _ _ _ (ty_lt (by omega)), cell_obj hk h10]) hc j hj (hts _ hlk) (fun _ h => h) (v := .int (μ.1 k j)) (by rw [flds_at hfk]; rfl) hd (kk a h1 h2 H locs ls hP hS hl)
theorem s_getL (hX : CX g G cc own nL n) {idx ci j k : Nat} {t : FieldType} {fin : Bool} (hf : FLk own idx ci j 1 t fin) (hk : tyOf k = ci) (hd : decode cc pc = .ok (.getfield idx, 3)) (kk : Sim G Pr K (pc + 3) lv (.long (μ.2 k j) :: st) μ) : Sim G Pr K pc lv (rf g k :: st) μ := by
  obtain ⟨p, e, R, s, m, args, below, meth, c, cells, slots, Q, rfl, hx, hb, hml, hown, hts, hK, hT, hO, hn1, hn2, hn3, hn4⟩ := hX
  obtain ⟨C, T, N, ty, ⟨hc, hin, -, -, hN, h10⟩, hj, hfk, hlk, -, -⟩ := hf
  exact fun a h1 h2 H locs ls hP hS hl => va_get hx hb hts hin hown hK hP k (fs := flds (gad g) μ k ci) (by rw [wsOf_at _ _ _ (ty_lt (by omega)), cell_obj hk h10]) hc j hj (hts _ hlk) (fun _ h => h) (v := .long (μ.2 k j)) (by rw [flds_at hfk]; rfl) hd (kk a h1 h2 H locs ls hP hS hl)
theorem s_getR (hX : CX g G cc own nL n) {idx ci j d k : Nat} (k' : Nat) {t : FieldType} {fin : Bool} (hf : FLk own idx ci j (d + 2) t fin) (hk : tyOf k = ci) (he : k + d = k') (hd : decode cc pc = .ok (.getfield idx, 3)) (kk : Sim G Pr K (pc + 3) lv (rf g k' :: st) μ) : Sim G Pr K pc lv (rf g k :: st) μ := by
  obtain ⟨p, e, R, s, m, args, below, meth, c, cells, slots, Q, rfl, hx, hb, hml, hown, hts, hK, hT, hO, hn1, hn2, hn3, hn4⟩ := hX
  obtain ⟨C, T, N, ty, ⟨hc, hin, -, -, hN, h10⟩, hj, hfk, hlk, -, -⟩ := hf
  subst he
  exact fun a h1 h2 H locs ls hP hS hl => va_get hx hb hts hin hown hK hP k (fs := flds (gad g) μ k ci) (by rw [wsOf_at _ _ _ (ty_lt (by omega)), cell_obj hk h10]) hc j hj (hts _ hlk) (fun _ h => h) (v := rf g (k + d)) (by rw [flds_at hfk]; simp [fld, rf]) hd (kk a h1 h2 H locs ls hP hS hl)
theorem s_putI (hX : CX g G cc own nL n) {idx ci j k : Nat} {t : FieldType} {x : Int32} {f : Mem → Option α} (hf : FLk own idx ci j 0 t false) (hk : tyOf k = ci) (hnf : narrow t (.int x) = .int x ∧ fits t (.int x) = true) (hd : decode cc pc = .ok (.putfield idx, 3)) (kk : ∀ ν, Sim G (f ν) K (pc + 3) lv st ν) : Sim G (lt (setI μ k j x) f) K pc lv (.int x :: rf g k :: st) μ := by
  obtain ⟨p, e, R, s, m, args, below, meth, c, cells, slots, Q, rfl, hx, hb, hml, hown, hts, hK, hT, hO, hn1, hn2, hn3, hn4⟩ := hX
  obtain ⟨C, T, N, ty, ⟨hc, hin, hty, hnm, hN, h10⟩, hj, hfk, hlk, ht, hfin⟩ := hf
  intro a h1 h2 H locs ls hP hS hl
  refine va_put hx hb hts hin ty hty hnm hown hK hP (hO.D μ) hS k (fs := flds (gad g) μ k ci) (by rw [wsOf_at _ _ _ (ty_lt (by omega)), cell_obj hk h10]) hc j hj (hts _ hlk) (fun _ h => h) hfin (ty := t) (v := .int x) (by rw [← ht]; exact hty j hj) hnf.1 hnf.2 (by rw [flds_len, hN]; exact hj) hd (fun H1 locs1 hP1 hD1 hS1 => ?_)
  rw [wsOf_set (cy := gcy g) (ad := gad g) (μ := μ) (ν := setI μ k j x) (a := k) (ty_lt (by omega)) (fun q i hq => by simp [setI, hq]) (fun q i hq => rfl) (by rw [cell_obj hk h10, flds_setI hfk])] at hP1
  exact kk _ a h1 h2 H1 locs1 ls hP1 hS1 hl
theorem s_putL (hX : CX g G cc own nL n) {idx ci j k : Nat} {t : FieldType} {x : Int64} {f : Mem → Option α} (hf : FLk own idx ci j 1 t false) (hk : tyOf k = ci) (hnf : narrow t (.long x) = .long x ∧ fits t (.long x) = true) (hd : decode cc pc = .ok (.putfield idx, 3)) (kk : ∀ ν, Sim G (f ν) K (pc + 3) lv st ν) : Sim G (lt (setL μ k j x) f) K pc lv (.long x :: rf g k :: st) μ := by
  obtain ⟨p, e, R, s, m, args, below, meth, c, cells, slots, Q, rfl, hx, hb, hml, hown, hts, hK, hT, hO, hn1, hn2, hn3, hn4⟩ := hX
  obtain ⟨C, T, N, ty, ⟨hc, hin, hty, hnm, hN, h10⟩, hj, hfk, hlk, ht, hfin⟩ := hf
  intro a h1 h2 H locs ls hP hS hl
  refine va_put hx hb hts hin ty hty hnm hown hK hP (hO.D μ) hS k (fs := flds (gad g) μ k ci) (by rw [wsOf_at _ _ _ (ty_lt (by omega)), cell_obj hk h10]) hc j hj (hts _ hlk) (fun _ h => h) hfin (ty := t) (v := .long x) (by rw [← ht]; exact hty j hj) hnf.1 hnf.2 (by rw [flds_len, hN]; exact hj) hd (fun H1 locs1 hP1 hD1 hS1 => ?_)
  rw [wsOf_set (cy := gcy g) (ad := gad g) (μ := μ) (ν := setL μ k j x) (a := k) (ty_lt (by omega)) (fun q i hq => rfl) (fun q i hq => by simp [setL, hq]) (by rw [cell_obj hk h10, flds_setL hfk])] at hP1
  exact kk _ a h1 h2 H1 locs1 ls hP1 hS1 hl
theorem s_iald (hX : CX g G cc own nL n) {k N : Nat} {i : Int32} (hk : tyOf k = 11) (hN : lenOf k = N) (hd : decode cc pc = .ok (.iaload, 1)) (kk : Sim G Pr K (pc + 1) lv (.int (μ.1 k (ix i)) :: st) μ) : Sim G (chk i N Pr) K pc lv (.int i :: rf g k :: st) μ := by
  obtain ⟨p, e, R, s, m, args, below, meth, c, cells, slots, Q, rfl, hx, hb, hml, hown, hts, hK, hT, hO, hn1, hn2, hn3, hn4⟩ := hX
  intro a h1 h2
  unfold chk at h1
  by_cases hin : ¬ (i < 0 ∨ N ≤ ix i)
  · rw [if_pos hin] at h1
    exact fun H locs ls hP hS hl => va_iald hx hb hK hP k 0 (by rw [wsOf_at _ _ _ (ty_lt (by omega)), cell_arr hk hN (by omega)]) rfl hin hd (kk a h1 h2 H locs ls hP hS hl)
  · rw [if_neg hin] at h1; cases h1
theorem s_cald (hX : CX g G cc own nL n) {k N : Nat} {i : Int32} (hk : tyOf k = 12) (hN : lenOf k = N) (hd : decode cc pc = .ok (.caload, 1)) (kk : Sim G Pr K (pc + 1) lv (.int (μ.1 k (ix i)) :: st) μ) : Sim G (chk i N Pr) K pc lv (.int i :: rf g k :: st) μ := by
  obtain ⟨p, e, R, s, m, args, below, meth, c, cells, slots, Q, rfl, hx, hb, hml, hown, hts, hK, hT, hO, hn1, hn2, hn3, hn4⟩ := hX
  intro a h1 h2
  unfold chk at h1
  by_cases hin : ¬ (i < 0 ∨ N ≤ ix i)
  · rw [if_pos hin] at h1
    exact fun H locs ls hP hS hl => va_cald hx hb hK hP k 1 (by rw [wsOf_at _ _ _ (ty_lt (by omega)), cell_arr hk hN (by omega)]) rfl hin hd (kk a h1 h2 H locs ls hP hS hl)
  · rw [if_neg hin] at h1; cases h1
theorem s_zald (hX : CX g G cc own nL n) {k N : Nat} {i : Int32} (hk : tyOf k = 13) (hN : lenOf k = N) (hd : decode cc pc = .ok (.baload, 1)) (kk : Sim G Pr K (pc + 1) lv (.int (μ.1 k (ix i)) :: st) μ) : Sim G (chk i N Pr) K pc lv (.int i :: rf g k :: st) μ := by
  obtain ⟨p, e, R, s, m, args, below, meth, c, cells, slots, Q, rfl, hx, hb, hml, hown, hts, hK, hT, hO, hn1, hn2, hn3, hn4⟩ := hX
  intro a h1 h2
  unfold chk at h1
  by_cases hin : ¬ (i < 0 ∨ N ≤ ix i)
  · rw [if_pos hin] at h1
    exact fun H locs ls hP hS hl => va_zald hx hb hK hP k 2 (by rw [wsOf_at _ _ _ (ty_lt (by omega)), cell_arr hk hN (by omega)]) rfl hin hd (kk a h1 h2 H locs ls hP hS hl)
  · rw [if_neg hin] at h1; cases h1
theorem s_lald (hX : CX g G cc own nL n) {k N : Nat} {i : Int32} (hk : tyOf k = 14) (hN : lenOf k = N) (hd : decode cc pc = .ok (.laload, 1)) (kk : Sim G Pr K (pc + 1) lv (.long (μ.2 k (ix i)) :: st) μ) : Sim G (chk i N Pr) K pc lv (.int i :: rf g k :: st) μ := by
  obtain ⟨p, e, R, s, m, args, below, meth, c, cells, slots, Q, rfl, hx, hb, hml, hown, hts, hK, hT, hO, hn1, hn2, hn3, hn4⟩ := hX
  intro a h1 h2
  unfold chk at h1
  by_cases hin : ¬ (i < 0 ∨ N ≤ ix i)
  · rw [if_pos hin] at h1
    exact fun H locs ls hP hS hl => va_lald hx hb hK hP k 3 (by rw [wsOf_at _ _ _ (ty_lt (by omega)), cell_lng hk hN]) rfl hin hd (kk a h1 h2 H locs ls hP hS hl)
  · rw [if_neg hin] at h1; cases h1
theorem s_aald15 (hX : CX g G cc own nL n) {k N t u : Nat} {i : Int32} {f : Nat → Option α} (hk : tyOf k = 15) (hN : lenOf k = N) (hq : ∀ j, j < N → tyOf (k + 1 + 14 * j) = t ∧ lenOf (k + 1 + 14 * j) = u) (hd : decode cc pc = .ok (.aaload, 1)) (kk : ∀ q, tyOf q = t → lenOf q = u → Sim G (f q) K (pc + 1) lv (rf g q :: st) μ) : Sim G (chk i N (lt (k + 1 + 14 * ix i) f)) K pc lv (.int i :: rf g k :: st) μ := by
  obtain ⟨p, e, R, s, m, args, below, meth, c, cells, slots, Q, rfl, hx, hb, hml, hown, hts, hK, hT, hO, hn1, hn2, hn3, hn4⟩ := hX
  have hlt : ¬ (i < 0 ∨ N ≤ ix i) → ix i < N := fun h => Nat.not_le.mp fun q => h (Or.inr q)
  intro a h1 h2
  unfold chk at h1
  by_cases hin : ¬ (i < 0 ∨ N ≤ ix i)
  · rw [if_pos hin] at h1
    exact fun H locs ls hP hS hl => W.aald (v := rf g (k + 1 + 14 * ix i)) (ty := (tysX (gcy g))[4].2) hx hb (hP k (gad g k, .inl (gcy g 15, N, .inr (.inr (.inr (.inr (rowA (gad g) k 14)))))) (by rw [wsOf_at _ _ _ (ty_lt (by omega)), cell_row (st := 14) hk hN (by omega)])) ((hK.2 4 _ rfl).1 N (fun j => va_rf (rowA (gad g) k 14 j))) rfl (fun q => by cases q) (by show ¬ (i < 0 ∨ (arrV _ _ _).slots.size ≤ _); rw [arrV_size]; exact hin) (by show (arrV (gcy g 15) N (fun j => va_rf (rowA (gad g) k 14 j))).slots[i.toNatClampNeg]? = _; rw [arrV_read _ _ (show i.toNatClampNeg < N from hlt hin)]; rfl) rfl rfl hd (kk _ (hq _ (hlt hin)).1 (hq _ (hlt hin)).2 a h1 h2 H locs ls hP hS hl)
  · rw [if_neg hin] at h1; cases h1
theorem s_aald16 (hX : CX g G cc own nL n) {k N t u : Nat} {i : Int32} {f : Nat → Option α} (hk : tyOf k = 16) (hN : lenOf k = N) (hq : ∀ j, j < N → tyOf (k + 1 + 5 * j) = t ∧ lenOf (k + 1 + 5 * j) = u) (hd : decode cc pc = .ok (.aaload, 1)) (kk : ∀ q, tyOf q = t → lenOf q = u → Sim G (f q) K (pc + 1) lv (rf g q :: st) μ) : Sim G (chk i N (lt (k + 1 + 5 * ix i) f)) K pc lv (.int i :: rf g k :: st) μ := by
  obtain ⟨p, e, R, s, m, args, below, meth, c, cells, slots, Q, rfl, hx, hb, hml, hown, hts, hK, hT, hO, hn1, hn2, hn3, hn4⟩ := hX
  have hlt : ¬ (i < 0 ∨ N ≤ ix i) → ix i < N := fun h => Nat.not_le.mp fun q => h (Or.inr q)
  intro a h1 h2
  unfold chk at h1
  by_cases hin : ¬ (i < 0 ∨ N ≤ ix i)
  · rw [if_pos hin] at h1
    exact fun H locs ls hP hS hl => W.aald (v := rf g (k + 1 + 5 * ix i)) (ty := (tysX (gcy g))[5].2) hx hb (hP k (gad g k, .inl (gcy g 16, N, .inr (.inr (.inr (.inr (rowA (gad g) k 5)))))) (by rw [wsOf_at _ _ _ (ty_lt (by omega)), cell_row (st := 5) hk hN (by omega)])) ((hK.2 5 _ rfl).1 N (fun j => va_rf (rowA (gad g) k 5 j))) rfl (fun q => by cases q) (by show ¬ (i < 0 ∨ (arrV _ _ _).slots.size ≤ _); rw [arrV_size]; exact hin) (by show (arrV (gcy g 16) N (fun j => va_rf (rowA (gad g) k 5 j))).slots[i.toNatClampNeg]? = _; rw [arrV_read _ _ (show i.toNatClampNeg < N from hlt hin)]; rfl) rfl rfl hd (kk _ (hq _ (hlt hin)).1 (hq _ (hlt hin)).2 a h1 h2 H locs ls hP hS hl)
  · rw [if_neg hin] at h1; cases h1
theorem s_aald17 (hX : CX g G cc own nL n) {k N t u : Nat} {i : Int32} {f : Nat → Option α} (hk : tyOf k = 17) (hN : lenOf k = N) (hq : ∀ j, j < N → tyOf (k + 1 + 1 * j) = t ∧ lenOf (k + 1 + 1 * j) = u) (hd : decode cc pc = .ok (.aaload, 1)) (kk : ∀ q, tyOf q = t → lenOf q = u → Sim G (f q) K (pc + 1) lv (rf g q :: st) μ) : Sim G (chk i N (lt (k + 1 + 1 * ix i) f)) K pc lv (.int i :: rf g k :: st) μ := by
  obtain ⟨p, e, R, s, m, args, below, meth, c, cells, slots, Q, rfl, hx, hb, hml, hown, hts, hK, hT, hO, hn1, hn2, hn3, hn4⟩ := hX
  have hlt : ¬ (i < 0 ∨ N ≤ ix i) → ix i < N := fun h => Nat.not_le.mp fun q => h (Or.inr q)
  intro a h1 h2
  unfold chk at h1
  by_cases hin : ¬ (i < 0 ∨ N ≤ ix i)
  · rw [if_pos hin] at h1
    exact fun H locs ls hP hS hl => W.aald (v := rf g (k + 1 + 1 * ix i)) (ty := (tysX (gcy g))[6].2) hx hb (hP k (gad g k, .inl (gcy g 17, N, .inr (.inr (.inr (.inr (rowA (gad g) k 1)))))) (by rw [wsOf_at _ _ _ (ty_lt (by omega)), cell_row (st := 1) hk hN (by omega)])) ((hK.2 6 _ rfl).1 N (fun j => va_rf (rowA (gad g) k 1 j))) rfl (fun q => by cases q) (by show ¬ (i < 0 ∨ (arrV _ _ _).slots.size ≤ _); rw [arrV_size]; exact hin) (by show (arrV (gcy g 17) N (fun j => va_rf (rowA (gad g) k 1 j))).slots[i.toNatClampNeg]? = _; rw [arrV_read _ _ (show i.toNatClampNeg < N from hlt hin)]; rfl) rfl rfl hd (kk _ (hq _ (hlt hin)).1 (hq _ (hlt hin)).2 a h1 h2 H locs ls hP hS hl)
  · rw [if_neg hin] at h1; cases h1
theorem s_iast (hX : CX g G cc own nL n) {k N : Nat} {i x : Int32} {f : Mem → Option α} (hk : tyOf k = 11) (hN : lenOf k = N) (hd : decode cc pc = .ok (.iastore, 1)) (kk : ∀ ν, Sim G (f ν) K (pc + 1) lv st ν) : Sim G (chk i N (lt (setI μ k (ix i) x) f)) K pc lv (.int x :: .int i :: rf g k :: st) μ := by
  obtain ⟨p, e, R, s, m, args, below, meth, c, cells, slots, Q, rfl, hx, hb, hml, hown, hts, hK, hT, hO, hn1, hn2, hn3, hn4⟩ := hX
  intro a h1 h2
  unfold chk at h1
  by_cases hin : ¬ (i < 0 ∨ N ≤ ix i)
  · rw [if_pos hin] at h1
    intro H locs ls hP hS hl
    refine va_iast hx hb hK hP (hO.D μ) hS k 0 (by rw [wsOf_at _ _ _ (ty_lt (by omega)), cell_arr hk hN (by omega)]) rfl hin hd (fun H1 locs1 hP1 hD1 hS1 => ?_)
    rw [wsOf_set (cy := gcy g) (ad := gad g) (μ := μ) (ν := setI μ k (ix i) x) (a := k) (ty_lt (by omega)) (fun q z hq => by simp [setI, hq]) (fun q z hq => rfl) (by rw [cell_arr hk hN (by omega), setI_row]; rfl)] at hP1
    exact kk _ a h1 h2 H1 locs1 ls hP1 hS1 hl
  · rw [if_neg hin] at h1; cases h1
theorem s_cast (hX : CX g G cc own nL n) {k N : Nat} {i x : Int32} {f : Mem → Option α} (hk : tyOf k = 12) (hN : lenOf k = N) (hv : vp_nar .char x = x) (hd : decode cc pc = .ok (.castore, 1)) (kk : ∀ ν, Sim G (f ν) K (pc + 1) lv st ν) : Sim G (chk i N (lt (setI μ k (ix i) x) f)) K pc lv (.int x :: .int i :: rf g k :: st) μ := by
  obtain ⟨p, e, R, s, m, args, below, meth, c, cells, slots, Q, rfl, hx, hb, hml, hown, hts, hK, hT, hO, hn1, hn2, hn3, hn4⟩ := hX
  intro a h1 h2
  unfold chk at h1
  by_cases hin : ¬ (i < 0 ∨ N ≤ ix i)
  · rw [if_pos hin] at h1
    intro H locs ls hP hS hl
    refine va_cast hx hb hK hP (hO.D μ) hS k 1 (by rw [wsOf_at _ _ _ (ty_lt (by omega)), cell_arr hk hN (by omega)]) rfl hin hd (fun H1 locs1 hP1 hD1 hS1 => ?_)
    rw [hv] at hP1
    rw [wsOf_set (cy := gcy g) (ad := gad g) (μ := μ) (ν := setI μ k (ix i) x) (a := k) (ty_lt (by omega)) (fun q z hq => by simp [setI, hq]) (fun q z hq => rfl) (by rw [cell_arr hk hN (by omega), setI_row]; rfl)] at hP1
    exact kk _ a h1 h2 H1 locs1 ls hP1 hS1 hl
  · rw [if_neg hin] at h1; cases h1
theorem s_zast (hX : CX g G cc own nL n) {k N : Nat} {i x : Int32} {f : Mem → Option α} (hk : tyOf k = 13) (hN : lenOf k = N) (hv : vp_nar .boolean x = x) (hd : decode cc pc = .ok (.bastore, 1)) (kk : ∀ ν, Sim G (f ν) K (pc + 1) lv st ν) : Sim G (chk i N (lt (setI μ k (ix i) x) f)) K pc lv (.int x :: .int i :: rf g k :: st) μ := by
  obtain ⟨p, e, R, s, m, args, below, meth, c, cells, slots, Q, rfl, hx, hb, hml, hown, hts, hK, hT, hO, hn1, hn2, hn3, hn4⟩ := hX
  intro a h1 h2
  unfold chk at h1
  by_cases hin : ¬ (i < 0 ∨ N ≤ ix i)
  · rw [if_pos hin] at h1
    intro H locs ls hP hS hl
    refine va_zast hx hb hK hP (hO.D μ) hS k 2 (by rw [wsOf_at _ _ _ (ty_lt (by omega)), cell_arr hk hN (by omega)]) rfl hin hd (fun H1 locs1 hP1 hD1 hS1 => ?_)
    rw [hv] at hP1
    rw [wsOf_set (cy := gcy g) (ad := gad g) (μ := μ) (ν := setI μ k (ix i) x) (a := k) (ty_lt (by omega)) (fun q z hq => by simp [setI, hq]) (fun q z hq => rfl) (by rw [cell_arr hk hN (by omega), setI_row]; rfl)] at hP1
    exact kk _ a h1 h2 H1 locs1 ls hP1 hS1 hl
  · rw [if_neg hin] at h1; cases h1
theorem s_last (hX : CX g G cc own nL n) {k N : Nat} {i : Int32} {x : Int64} {f : Mem → Option α} (hk : tyOf k = 14) (hN : lenOf k = N) (hd : decode cc pc = .ok (.lastore, 1)) (kk : ∀ ν, Sim G (f ν) K (pc + 1) lv st ν) : Sim G (chk i N (lt (setL μ k (ix i) x) f)) K pc lv (.long x :: .int i :: rf g k :: st) μ := by
  obtain ⟨p, e, R, s, m, args, below, meth, c, cells, slots, Q, rfl, hx, hb, hml, hown, hts, hK, hT, hO, hn1, hn2, hn3, hn4⟩ := hX
  intro a h1 h2
  unfold chk at h1
  by_cases hin : ¬ (i < 0 ∨ N ≤ ix i)
  · rw [if_pos hin] at h1
    intro H locs ls hP hS hl
    refine va_last hx hb hK hP (hO.D μ) hS k 3 (by rw [wsOf_at _ _ _ (ty_lt (by omega)), cell_lng hk hN]) rfl hin hd (fun H1 locs1 hP1 hD1 hS1 => ?_)
    rw [wsOf_set (cy := gcy g) (ad := gad g) (μ := μ) (ν := setL μ k (ix i) x) (a := k) (ty_lt (by omega)) (fun q z hq => rfl) (fun q z hq => by simp [setL, hq]) (by rw [cell_lng hk hN, setL_row]; rfl)] at hP1
    exact kk _ a h1 h2 H1 locs1 ls hP1 hS1 hl
  · rw [if_neg hin] at h1; cases h1
theorem s_alen (hX : CX g G cc own nL n) {k N : Nat} {v : Int32} (hk : tyOf k = 11) (hN : lenOf k = N) (hv : Int32.ofNat N = v) (hd : decode cc pc = .ok (.arraylength, 1)) (kk : Sim G Pr K (pc + 1) lv (.int v :: st) μ) : Sim G Pr K pc lv (rf g k :: st) μ := by
  obtain ⟨p, e, R, s, m, args, below, meth, c, cells, slots, Q, rfl, hx, hb, hml, hown, hts, hK, hT, hO, hn1, hn2, hn3, hn4⟩ := hX
  exact fun a h1 h2 H locs ls hP hS hl => va_alen hx hb hK hP k 0 (by rw [wsOf_at _ _ _ (ty_lt (by omega)), cell_arr hk hN (by omega)]) rfl hv hd (kk a h1 h2 H locs ls hP hS hl)
theorem s_ialdK (hX : CX g G cc own nL n) {k N j : Nat} {i : Int32} (hk : tyOf k = 11) (hN : lenOf k = N) (hin : ¬ (i < 0 ∨ N ≤ ix i)) (hj : ix i = j) (hd : decode cc pc = .ok (.iaload, 1)) (kk : Sim G Pr K (pc + 1) lv (.int (μ.1 k j) :: st) μ) : Sim G Pr K pc lv (.int i :: rf g k :: st) μ := by
  subst hj
  intro a h1 h2
  exact s_iald hX hk hN hd kk a (by unfold chk; rw [if_pos hin]; exact h1) h2
theorem s_iastK (hX : CX g G cc own nL n) {k N j : Nat} {i x : Int32} {f : Mem → Option α} (hk : tyOf k = 11) (hN : lenOf k = N) (hin : ¬ (i < 0 ∨ N ≤ ix i)) (hj : ix i = j) (hd : decode cc pc = .ok (.iastore, 1)) (kk : ∀ ν, Sim G (f ν) K (pc + 1) lv st ν) : Sim G (lt (setI μ k j x) f) K pc lv (.int x :: .int i :: rf g k :: st) μ := by
  subst hj
  intro a h1 h2
  exact s_iast hX hk hN hd kk a (by unfold chk; rw [if_pos hin]; exact h1) h2
theorem s_ckB {y : Int32} (k : (y = 0 ∨ y = 1) → Sim G Pr K pc lv st μ) : Sim G (ckB y Pr) K pc lv st μ := by
  intro a h1 h2
  unfold ckB at h1
  by_cases hy : y = 0 ∨ y = 1
  · rw [if_pos hy] at h1; exact k hy a h1 h2
  · rw [if_neg hy] at h1; cases h1
theorem zK {r : Int32} (h : r = 0 ∨ r = 1) : narrow .boolean (.int r) = .int r := by rcases h with rfl | rfl <;> rfl
theorem nfB {r : Int32} (h : r = 0 ∨ r = 1) : narrow .boolean (.int r) = .int r ∧ fits .boolean (.int r) = true := by rcases h with rfl | rfl <;> exact ⟨rfl, rfl⟩
theorem s_zreti {β : Type} {inj : Int32 × Mem → β} {K : β → Prop} {r0 v : Int32} {μ0 : Mem} (hv : v = 0 ∨ v = 1) (hK : ∀ r, K (inj r) → r = (r0, μ0)) (hR : ∀ pc lv, decode cc pc = .ok (.ireturn, 1) → (r0 = 0 ∨ r0 = 1) → G pc lv [.int r0] μ0) (hd : decode cc pc = .ok (.ireturn, 1)) : Sim G (some (inj (v, μ))) K pc lv [.int v] μ := fun a h1 h2 => by
  cases h1
  cases hK _ h2
  exact hR _ _ hd hv
theorem s_zretr {β : Type} {inj : Int32 → β} {K : β → Prop} {r0 v : Int32} (hv : v = 0 ∨ v = 1) (hK : ∀ r, K (inj r) → r = r0) (hR : ∀ pc lv, decode cc pc = .ok (.ireturn, 1) → (r0 = 0 ∨ r0 = 1) → G pc lv [.int r0] μ) (hd : decode cc pc = .ok (.ireturn, 1)) : Sim G (some (inj v)) K pc lv [.int v] μ := fun a h1 h2 => by
  cases h1
  cases hK _ h2
  exact hR _ _ hd hv
theorem s_cu2 {A B : Type} {F : A → B → Option α} {a : A} {b : B} (k : Sim G (F a b) K pc lv st μ) : Sim G (cu2 F (a, b)) K pc lv st μ := k
theorem s_cu3 {A B C : Type} {F : A → B → C → Option α} {a : A} {b : B} {c : C} (k : Sim G (F a b c) K pc lv st μ) : Sim G (cu3 F (a, b, c)) K pc lv st μ := k
theorem s_cu4 {A B C D : Type} {F : A → B → C → D → Option α} {a : A} {b : B} {c : C} {d : D} (k : Sim G (F a b c d) K pc lv st μ) : Sim G (cu4 F (a, b, c, d)) K pc lv st μ := k
theorem s_cu5 {A B C D E : Type} {F : A → B → C → D → E → Option α} {a : A} {b : B} {c : C} {d : D} {e : E} (k : Sim G (F a b c d e) K pc lv st μ) : Sim G (cu5 F (a, b, c, d, e)) K pc lv st μ := k
theorem s_cu6 {A B C D E I : Type} {F : A → B → C → D → E → I → Option α} {a : A} {b : B} {c : C} {d : D} {e : E} {i : I} (k : Sim G (F a b c d e i) K pc lv st μ) : Sim G (cu6 F (a, b, c, d, e, i)) K pc lv st μ := k
theorem s_gets0 (hX : CX g G cc own nL n) {idx : Nat} (hw : Cond.fieldLink own idx "DragonTithe" "FACTORIALS" "[I" ∈ TB) (hd : decode cc pc = .ok (.getstatic idx, 3)) (kk : Sim G Pr K (pc + 3) lv (rfT g 0 :: st) μ) : Sim G Pr K pc lv st μ := by
  obtain ⟨p, e, R, s, m, args, below, meth, c, cells, slots, Q, rfl, hx, hb, hml, hown, hts, hK, hT, hO, hn1, hn2, hn3, hn4⟩ := hX
  exact fun a h1 h2 H locs ls hP hS hl => va_gets hx hb hT.1.1 hS hown (hts _ hw) (fun _ h => h) hd (kk a h1 h2 H locs ls hP hS hl)
theorem s_tald0 (hX : CX g G cc own nL n) {i : Int32} (hd : decode cc pc = .ok (.iaload, 1)) (kk : Sim G Pr K (pc + 1) lv (.int (FACT (ix i)) :: st) μ) : Sim G (chk i 6 Pr) K pc lv (.int i :: rfT g 0 :: st) μ := by
  obtain ⟨p, e, R, s, m, args, below, meth, c, cells, slots, Q, rfl, hx, hb, hml, hown, hts, hK, hT, hO, hn1, hn2, hn3, hn4⟩ := hX
  intro a h1 h2
  unfold chk at h1
  by_cases hin : ¬ (i < 0 ∨ 6 ≤ ix i)
  · rw [if_pos hin] at h1
    exact fun H locs ls hP hS hl => va_ti hx hb hT.1.2 hS hin rfl hd (kk a h1 h2 H locs ls hP hS hl)
  · rw [if_neg hin] at h1; cases h1
theorem s_tlen0 (hX : CX g G cc own nL n) {v : Int32} (hv : Int32.ofNat 6 = v) (hd : decode cc pc = .ok (.arraylength, 1)) (kk : Sim G Pr K (pc + 1) lv (.int v :: st) μ) : Sim G Pr K pc lv (rfT g 0 :: st) μ := by
  obtain ⟨p, e, R, s, m, args, below, meth, c, cells, slots, Q, rfl, hx, hb, hml, hown, hts, hK, hT, hO, hn1, hn2, hn3, hn4⟩ := hX
  exact fun a h1 h2 H locs ls hP hS hl => va_tlen hx hb hT.1.2 hS hv hd (kk a h1 h2 H locs ls hP hS hl)
theorem s_gets1 (hX : CX g G cc own nL n) {idx : Nat} (hw : Cond.fieldLink own idx "DragonTithe$Scroll" "NUMBERS_BEHIND" "[I" ∈ TB) (hd : decode cc pc = .ok (.getstatic idx, 3)) (kk : Sim G Pr K (pc + 3) lv (rfT g 1 :: st) μ) : Sim G Pr K pc lv st μ := by
  obtain ⟨p, e, R, s, m, args, below, meth, c, cells, slots, Q, rfl, hx, hb, hml, hown, hts, hK, hT, hO, hn1, hn2, hn3, hn4⟩ := hX
  exact fun a h1 h2 H locs ls hP hS hl => va_gets hx hb hT.2.1.1 hS hown (hts _ hw) (fun _ h => h) hd (kk a h1 h2 H locs ls hP hS hl)
theorem s_tald1 (hX : CX g G cc own nL n) {i : Int32} (hd : decode cc pc = .ok (.iaload, 1)) (kk : Sim G Pr K (pc + 1) lv (.int (NUMB (ix i)) :: st) μ) : Sim G (chk i 6 Pr) K pc lv (.int i :: rfT g 1 :: st) μ := by
  obtain ⟨p, e, R, s, m, args, below, meth, c, cells, slots, Q, rfl, hx, hb, hml, hown, hts, hK, hT, hO, hn1, hn2, hn3, hn4⟩ := hX
  intro a h1 h2
  unfold chk at h1
  by_cases hin : ¬ (i < 0 ∨ 6 ≤ ix i)
  · rw [if_pos hin] at h1
    exact fun H locs ls hP hS hl => va_ti hx hb hT.2.1.2 hS hin rfl hd (kk a h1 h2 H locs ls hP hS hl)
  · rw [if_neg hin] at h1; cases h1
theorem s_tlen1 (hX : CX g G cc own nL n) {v : Int32} (hv : Int32.ofNat 6 = v) (hd : decode cc pc = .ok (.arraylength, 1)) (kk : Sim G Pr K (pc + 1) lv (.int v :: st) μ) : Sim G Pr K pc lv (rfT g 1 :: st) μ := by
  obtain ⟨p, e, R, s, m, args, below, meth, c, cells, slots, Q, rfl, hx, hb, hml, hown, hts, hK, hT, hO, hn1, hn2, hn3, hn4⟩ := hX
  exact fun a h1 h2 H locs ls hP hS hl => va_tlen hx hb hT.2.1.2 hS hv hd (kk a h1 h2 H locs ls hP hS hl)
theorem s_copy (hX : CX g G cc own nL n) {k0 k1 n0 n1 idx : Nat} {sp dp z : Int32} {f : Mem → Option α} (hk0 : tyOf k0 = 11) (hn0 : lenOf k0 = n0) (hk1 : tyOf k1 = 11) (hn1 : lenOf k1 = n1) (hc : CVx own idx arraycopyName) (hs : 1 ≤ n ∧ (st.map fun v => v.category).sum ≤ 8) (hw : Cond.native arraycopyName ∈ TB ∧ Cond.static arraycopyName ∈ TB ∧ Cond.initialized "java/lang/System" ∈ TB) (hd : decode cc pc = .ok (.invokestatic idx, 3)) (kk : ∀ ν, Sim G (f ν) K (pc + 3) lv st ν) : Sim G (ckC sp dp z n0 n1 (lt (cpyI μ k0 (ix sp) k1 (ix dp) (ix z)) f)) K pc lv (.int z :: .int dp :: rf g k1 :: .int sp :: rf g k0 :: st) μ := by
  obtain ⟨p, e, R, s, m, args, below, meth, c, cells, slots, Q, rfl, hx, hb, hml, hown, hts, hK, hT, hO, hm1, hm2, hm3, hm4⟩ := hX
  intro a h1 h2
  unfold ckC at h1
  by_cases hin : ¬ sp < 0 ∧ ¬ dp < 0 ∧ ¬ z < 0 ∧ ix sp + ix z ≤ n0 ∧ ix dp + ix z ≤ n1
  · rw [if_pos hin] at h1
    intro H locs ls hP hS hl
    have hwords : nativeFrameWords "java/lang/System" "arraycopy" 5 + 11 ≤ 56 := by decide
    refine va_copyi hx hb (by rw [hml]; exact hl.1.symm) hown (hts _ hc) (hts _ hw.1) (hts _ hw.2.1) (hts _ hw.2.2) hK hP (hO.D μ) hS k0 k1 0 0 (by rw [wsOf_at _ _ _ (ty_lt (by omega)), cell_arr hk0 hn0 (by omega)]) (by rw [wsOf_at _ _ _ (ty_lt (by omega)), cell_arr hk1 hn1 (by omega)]) rfl rfl rfl hin.1 hin.2.1 hin.2.2.1 hin.2.2.2.1 hin.2.2.2.2 (fun i _ => rfl) (by omega) (by omega) hd (fun H1 locs1 hP1 hD1 hS1 => ?_)
    rw [wsOf_set (cy := gcy g) (ad := gad g) (μ := μ) (ν := cpyI μ k0 (ix sp) k1 (ix dp) (ix z)) (a := k1) (ty_lt (by omega)) (fun q i hq => by simp [cpyI, hq]) (fun q i hq => rfl) (by rw [cell_arr hk1 hn1 (by omega), cpyI_row]; rfl)] at hP1
    exact kk _ a h1 h2 H1 locs1 ls hP1 hS1 hl
  · rw [if_neg hin] at h1; cases h1
/-! contracts -/
def RM (n : Nat) : Room := { frames := n, cells := 0, slots := 0, locals := 64 * n }
def Mt (g : GT) (y : MethodName) (cc : ByteArray) (maxL : Nat) (ret : Option FieldType) (n : Nat) (av : List Value) (μ : Mem) (Qc : Array Value → State → Outcome → State → Prop) : Prop := Met (gl g) y (Cond.code y cc maxL ret :: TB) (RM n) (va_Pc av (Wd g μ)) Qc 0 0 (gA g)
def PB (g : GT) (u : Mem) (t : State) : Prop := PW g u t.heap
/-- the method returns the int r and the memory ν -/
def CI (g : GT) (y : MethodName) (cc : ByteArray) (maxL : Nat) (ret : Option FieldType) (n : Nat) (av : List Value) (μ : Mem) (r : Int32) (ν : Mem) : Prop := Mt g y cc maxL ret n av μ (va_Qi (fun r1 u => r1 = r ∧ u = ν) (PB g) (gA g))
def CL (g : GT) (y : MethodName) (cc : ByteArray) (maxL : Nat) (ret : Option FieldType) (n : Nat) (av : List Value) (μ : Mem) (r : Int64) (ν : Mem) : Prop := Mt g y cc maxL ret n av μ (va_Ql (fun r1 u => r1 = r ∧ u = ν) (PB g) (gA g))
def CV (g : GT) (y : MethodName) (cc : ByteArray) (maxL : Nat) (ret : Option FieldType) (n : Nat) (av : List Value) (μ ν : Mem) : Prop := Mt g y cc maxL ret n av μ (va_Qv (fun u => u = ν) (PB g) (gA g))
def SKx (y : MethodName) : Prop := Cond.static y ∈ TB
theorem goodTB {y : MethodName} {cc : ByteArray} {maxL : Nat} {ret : Option FieldType} (h : Cond.code y cc maxL ret ∈ TB) : GoodIn TB (Cond.code y cc maxL ret :: TB) := by
  intro w hw
  have hw : w ∈ TB := by
    rcases List.mem_cons.mp hw with rfl | h2
    · exact h
    · exact h2
  exact ⟨hw, good_of_word (List.mem_filter.mp hw).2⟩
theorem Wd.blind {g : GT} {μ : Mem} {av : List Value} : FrameBlind (va_Pc av (Wd g μ)) := by
  intro a U gg mk q
  obtain ⟨q0, q1, q2, q3, q4⟩ := q
  exact ⟨q0, q1, va_K.moved (u := U) (U := U.calling gg mk a) (Vm.Alike.refl U.vm) q2, Stt.same (u := U) (U := U.calling gg mk a) rfl q3, q4⟩
theorem s_callViw (hX : CX g G cc own nL n) {y : MethodName} {yc : ByteArray} {maxL idx n' : Nat} {ret : Option FieldType} {F : Option (Int32 × Mem)} {f : Int32 → Mem → Option α} {st0 : List Value} (As : List Value) {k ci np : Nat} {C : String} (hk : tyOf k = ci) (hC : ∃ T N, clX[ci]? = some (C, T, N)) (hv : VKx C y) (hM : ∀ r ν, F = some (r, ν) → CI g y yc maxL ret n' (rf g k :: As) μ r ν) (hy : MKx y yc maxL ret np) (hc : CVx own idx y) (hn : As.length = np) (hst : st0 = As.reverse ++ rf g k :: st) (hrm : n' + 1 ≤ n ∧ maxL ≤ 45 ∧ (st.map fun v => v.category).sum ≤ 8) (hd : decode cc pc = .ok (.invokevirtual idx, 3)) (kk : ∀ r ν, Sim G (f r ν) K (pc + 3) lv (.int r :: st) ν) : Sim G (bd2 F f) K pc lv st0 μ := by
  obtain ⟨p, e, R, s, m, args, below, meth, c, cells, slots, Q, rfl, hx, hb, hml, hown, hts, hK, hT, hO, hn1, hn2, hn3, hn4⟩ := hX
  obtain ⟨y1, y2, y3, y4⟩ := hy
  intro a h1 h2
  cases hF : F with
  | none => rw [hF] at h1; cases h1
  | some z =>
    obtain ⟨r0, ν0⟩ := z
    rw [hF] at h1
    obtain ⟨T, N, hcl⟩ := hC
    obtain ⟨v1, v2⟩ := hv
    intro H locs ls hP hS hl
    subst hst
    have cb := callB_of (R := R) (rm := RM n') (mc := 0) (ms := 0) np hts (goodTB y1) rfl rfl rfl (hts _ y2) (hts _ hc) ⟨y3.1, y3.2, y4⟩ ⟨by show n' + 1 ≤ R.frames; omega, by show 8 + (maxL + 11) + 64 * n' ≤ R.locals; omega⟩
    have hrun := va_runV (As := As) (rest := st) (g := F0 m pc ls (As.reverse ++ rf g k :: st)) (locs := locs) (cells := cells) (slots := slots) (below := below) (e := e) (meth := meth) ⟨hx, hb, hml, hown, hts⟩ (hM r0 ν0 hF) ⟨cb, hts _ v1, hts _ v2⟩ ⟨Wd.blind, va_recv hK hP hcl (q0 := k) (fs := flds (gad g) μ k ci) (by rw [wsOf_at _ _ _ (ty_lt (by have := (List.getElem?_eq_some_iff.mp hcl).1; simp [clX] at this; omega)), cell_obj hk (by have := (List.getElem?_eq_some_iff.mp hcl).1; simp [clX] at this; omega)]), fun U hU hW => ⟨rfl, by show PW g μ U.heap; rw [hU]; exact hP, va_K.moved hW.alike hK, (Stt.warm hW hT).kept (fun q hq hA => by rw [hU]; exact hS.2.1 q hq hA), hO⟩⟩ rfl hn hl.1 rfl (lv_room hrm.2.2) hd ⟨by omega, by omega⟩
    refine va_calli hrun hS (fun q _ h => h) (fun q h => h) (fun r1 u t H1 locs1 ht hvm hw hB hz hk1 hS1 => ?_)
    obtain ⟨rfl, rfl⟩ := hw
    subst ht
    exact kk _ _ a h1 h2 _ locs1 ls hB hS1 hl
theorem s_callVir (hX : CX g G cc own nL n) {y : MethodName} {yc : ByteArray} {maxL idx n' : Nat} {ret : Option FieldType} {F : Option Int32} {f : Int32 → Option α} {st0 : List Value} (As : List Value) {k ci np : Nat} {C : String} (hk : tyOf k = ci) (hC : ∃ T N, clX[ci]? = some (C, T, N)) (hv : VKx C y) (hM : ∀ r, F = some r → CI g y yc maxL ret n' (rf g k :: As) μ r μ) (hy : MKx y yc maxL ret np) (hc : CVx own idx y) (hn : As.length = np) (hst : st0 = As.reverse ++ rf g k :: st) (hrm : n' + 1 ≤ n ∧ maxL ≤ 45 ∧ (st.map fun v => v.category).sum ≤ 8) (hd : decode cc pc = .ok (.invokevirtual idx, 3)) (kk : ∀ r, Sim G (f r) K (pc + 3) lv (.int r :: st) μ) : Sim G (bd F f) K pc lv st0 μ := by
  obtain ⟨p, e, R, s, m, args, below, meth, c, cells, slots, Q, rfl, hx, hb, hml, hown, hts, hK, hT, hO, hn1, hn2, hn3, hn4⟩ := hX
  obtain ⟨y1, y2, y3, y4⟩ := hy
  intro a h1 h2
  cases hF : F with
  | none => rw [hF] at h1; cases h1
  | some z =>
    rw [hF] at h1
    obtain ⟨T, N, hcl⟩ := hC
    obtain ⟨v1, v2⟩ := hv
    intro H locs ls hP hS hl
    subst hst
    have cb := callB_of (R := R) (rm := RM n') (mc := 0) (ms := 0) np hts (goodTB y1) rfl rfl rfl (hts _ y2) (hts _ hc) ⟨y3.1, y3.2, y4⟩ ⟨by show n' + 1 ≤ R.frames; omega, by show 8 + (maxL + 11) + 64 * n' ≤ R.locals; omega⟩
    have hrun := va_runV (As := As) (rest := st) (g := F0 m pc ls (As.reverse ++ rf g k :: st)) (locs := locs) (cells := cells) (slots := slots) (below := below) (e := e) (meth := meth) ⟨hx, hb, hml, hown, hts⟩ (hM z hF) ⟨cb, hts _ v1, hts _ v2⟩ ⟨Wd.blind, va_recv hK hP hcl (q0 := k) (fs := flds (gad g) μ k ci) (by rw [wsOf_at _ _ _ (ty_lt (by have := (List.getElem?_eq_some_iff.mp hcl).1; simp [clX] at this; omega)), cell_obj hk (by have := (List.getElem?_eq_some_iff.mp hcl).1; simp [clX] at this; omega)]), fun U hU hW => ⟨rfl, by show PW g μ U.heap; rw [hU]; exact hP, va_K.moved hW.alike hK, (Stt.warm hW hT).kept (fun q hq hA => by rw [hU]; exact hS.2.1 q hq hA), hO⟩⟩ rfl hn hl.1 rfl (lv_room hrm.2.2) hd ⟨by omega, by omega⟩
    refine va_calli hrun hS (fun q _ h => h) (fun q h => h) (fun r1 u t H1 locs1 ht hvm hw hB hz hk1 hS1 => ?_)
    obtain ⟨rfl, rfl⟩ := hw
    subst ht
    exact kk _ a h1 h2 _ locs1 ls hB hS1 hl
theorem s_callSiw (hX : CX g G cc own nL n) {y : MethodName} {yc : ByteArray} {maxL idx n' : Nat} {ret : Option FieldType} {F : Option (Int32 × Mem)} {f : Int32 → Mem → Option α} {st0 : List Value} (As : List Value) {np : Nat} (hv : SKx y) (hM : ∀ r ν, F = some (r, ν) → CI g y yc maxL ret n' As μ r ν) (hy : MKx y yc maxL ret np) (hc : CVx own idx y) (hn : As.length = np) (hst : st0 = As.reverse ++ st) (hrm : n' + 1 ≤ n ∧ maxL ≤ 45 ∧ (st.map fun v => v.category).sum ≤ 8) (hd : decode cc pc = .ok (.invokestatic idx, 3)) (kk : ∀ r ν, Sim G (f r ν) K (pc + 3) lv (.int r :: st) ν) : Sim G (bd2 F f) K pc lv st0 μ := by
  obtain ⟨p, e, R, s, m, args, below, meth, c, cells, slots, Q, rfl, hx, hb, hml, hown, hts, hK, hT, hO, hn1, hn2, hn3, hn4⟩ := hX
  obtain ⟨y1, y2, y3, y4⟩ := hy
  intro a h1 h2
  cases hF : F with
  | none => rw [hF] at h1; cases h1
  | some z =>
    obtain ⟨r0, ν0⟩ := z
    rw [hF] at h1
    intro H locs ls hP hS hl
    subst hst
    have cb := callB_of (R := R) (rm := RM n') (mc := 0) (ms := 0) np hts (goodTB y1) rfl rfl rfl (hts _ y2) (hts _ hc) ⟨y3.1, y3.2, y4⟩ ⟨by show n' + 1 ≤ R.frames; omega, by show 8 + (maxL + 11) + 64 * n' ≤ R.locals; omega⟩
    have hrun := va_runS (As := As) (rest := st) (g := F0 m pc ls (As.reverse ++ st)) (locs := locs) (cells := cells) (slots := slots) (below := below) (e := e) (meth := meth) ⟨hx, hb, hml, hown, hts⟩ (hM r0 ν0 hF) ⟨cb, hts _ hv⟩ ⟨Wd.blind, fun U hU hW => ⟨rfl, by show PW g μ U.heap; rw [hU]; exact hP, va_K.moved hW.alike hK, (Stt.warm hW hT).kept (fun q hq hA => by rw [hU]; exact hS.2.1 q hq hA), hO⟩⟩ rfl hn hl.1 rfl (lv_room hrm.2.2) hd ⟨by omega, by omega⟩
    refine va_calli hrun hS (fun q _ h => h) (fun q h => h) (fun r1 u t H1 locs1 ht hvm hw hB hz hk1 hS1 => ?_)
    obtain ⟨rfl, rfl⟩ := hw
    subst ht
    exact kk _ _ a h1 h2 _ locs1 ls hB hS1 hl
theorem s_callSir (hX : CX g G cc own nL n) {y : MethodName} {yc : ByteArray} {maxL idx n' : Nat} {ret : Option FieldType} {F : Option Int32} {f : Int32 → Option α} {st0 : List Value} (As : List Value) {np : Nat} (hv : SKx y) (hM : ∀ r, F = some r → CI g y yc maxL ret n' As μ r μ) (hy : MKx y yc maxL ret np) (hc : CVx own idx y) (hn : As.length = np) (hst : st0 = As.reverse ++ st) (hrm : n' + 1 ≤ n ∧ maxL ≤ 45 ∧ (st.map fun v => v.category).sum ≤ 8) (hd : decode cc pc = .ok (.invokestatic idx, 3)) (kk : ∀ r, Sim G (f r) K (pc + 3) lv (.int r :: st) μ) : Sim G (bd F f) K pc lv st0 μ := by
  obtain ⟨p, e, R, s, m, args, below, meth, c, cells, slots, Q, rfl, hx, hb, hml, hown, hts, hK, hT, hO, hn1, hn2, hn3, hn4⟩ := hX
  obtain ⟨y1, y2, y3, y4⟩ := hy
  intro a h1 h2
  cases hF : F with
  | none => rw [hF] at h1; cases h1
  | some z =>
    rw [hF] at h1
    intro H locs ls hP hS hl
    subst hst
    have cb := callB_of (R := R) (rm := RM n') (mc := 0) (ms := 0) np hts (goodTB y1) rfl rfl rfl (hts _ y2) (hts _ hc) ⟨y3.1, y3.2, y4⟩ ⟨by show n' + 1 ≤ R.frames; omega, by show 8 + (maxL + 11) + 64 * n' ≤ R.locals; omega⟩
    have hrun := va_runS (As := As) (rest := st) (g := F0 m pc ls (As.reverse ++ st)) (locs := locs) (cells := cells) (slots := slots) (below := below) (e := e) (meth := meth) ⟨hx, hb, hml, hown, hts⟩ (hM z hF) ⟨cb, hts _ hv⟩ ⟨Wd.blind, fun U hU hW => ⟨rfl, by show PW g μ U.heap; rw [hU]; exact hP, va_K.moved hW.alike hK, (Stt.warm hW hT).kept (fun q hq hA => by rw [hU]; exact hS.2.1 q hq hA), hO⟩⟩ rfl hn hl.1 rfl (lv_room hrm.2.2) hd ⟨by omega, by omega⟩
    refine va_calli hrun hS (fun q _ h => h) (fun q h => h) (fun r1 u t H1 locs1 ht hvm hw hB hz hk1 hS1 => ?_)
    obtain ⟨rfl, rfl⟩ := hw
    subst ht
    exact kk _ a h1 h2 _ locs1 ls hB hS1 hl
theorem s_callVlw (hX : CX g G cc own nL n) {y : MethodName} {yc : ByteArray} {maxL idx n' : Nat} {ret : Option FieldType} {F : Option (Int64 × Mem)} {f : Int64 → Mem → Option α} {st0 : List Value} (As : List Value) {k ci np : Nat} {C : String} (hk : tyOf k = ci) (hC : ∃ T N, clX[ci]? = some (C, T, N)) (hv : VKx C y) (hM : ∀ r ν, F = some (r, ν) → CL g y yc maxL ret n' (rf g k :: As) μ r ν) (hy : MKx y yc maxL ret np) (hc : CVx own idx y) (hn : As.length = np) (hst : st0 = As.reverse ++ rf g k :: st) (hrm : n' + 1 ≤ n ∧ maxL ≤ 45 ∧ (st.map fun v => v.category).sum ≤ 8) (hd : decode cc pc = .ok (.invokevirtual idx, 3)) (kk : ∀ r ν, Sim G (f r ν) K (pc + 3) lv (.long r :: st) ν) : Sim G (bd2 F f) K pc lv st0 μ := by
  obtain ⟨p, e, R, s, m, args, below, meth, c, cells, slots, Q, rfl, hx, hb, hml, hown, hts, hK, hT, hO, hn1, hn2, hn3, hn4⟩ := hX
  obtain ⟨y1, y2, y3, y4⟩ := hy
  intro a h1 h2
  cases hF : F with
  | none => rw [hF] at h1; cases h1
  | some z =>
    obtain ⟨r0, ν0⟩ := z
    rw [hF] at h1
    obtain ⟨T, N, hcl⟩ := hC
    obtain ⟨v1, v2⟩ := hv
    intro H locs ls hP hS hl
    subst hst
    have cb := callB_of (R := R) (rm := RM n') (mc := 0) (ms := 0) np hts (goodTB y1) rfl rfl rfl (hts _ y2) (hts _ hc) ⟨y3.1, y3.2, y4⟩ ⟨by show n' + 1 ≤ R.frames; omega, by show 8 + (maxL + 11) + 64 * n' ≤ R.locals; omega⟩
    have hrun := va_runV (As := As) (rest := st) (g := F0 m pc ls (As.reverse ++ rf g k :: st)) (locs := locs) (cells := cells) (slots := slots) (below := below) (e := e) (meth := meth) ⟨hx, hb, hml, hown, hts⟩ (hM r0 ν0 hF) ⟨cb, hts _ v1, hts _ v2⟩ ⟨Wd.blind, va_recv hK hP hcl (q0 := k) (fs := flds (gad g) μ k ci) (by rw [wsOf_at _ _ _ (ty_lt (by have := (List.getElem?_eq_some_iff.mp hcl).1; simp [clX] at this; omega)), cell_obj hk (by have := (List.getElem?_eq_some_iff.mp hcl).1; simp [clX] at this; omega)]), fun U hU hW => ⟨rfl, by show PW g μ U.heap; rw [hU]; exact hP, va_K.moved hW.alike hK, (Stt.warm hW hT).kept (fun q hq hA => by rw [hU]; exact hS.2.1 q hq hA), hO⟩⟩ rfl hn hl.1 rfl (lv_room hrm.2.2) hd ⟨by omega, by omega⟩
    refine va_calll hrun hS (fun q _ h => h) (fun q h => h) (fun r1 u t H1 locs1 ht hvm hw hB hz hk1 hS1 => ?_)
    obtain ⟨rfl, rfl⟩ := hw
    subst ht
    exact kk _ _ a h1 h2 _ locs1 ls hB hS1 hl
theorem s_callVlr (hX : CX g G cc own nL n) {y : MethodName} {yc : ByteArray} {maxL idx n' : Nat} {ret : Option FieldType} {F : Option Int64} {f : Int64 → Option α} {st0 : List Value} (As : List Value) {k ci np : Nat} {C : String} (hk : tyOf k = ci) (hC : ∃ T N, clX[ci]? = some (C, T, N)) (hv : VKx C y) (hM : ∀ r, F = some r → CL g y yc maxL ret n' (rf g k :: As) μ r μ) (hy : MKx y yc maxL ret np) (hc : CVx own idx y) (hn : As.length = np) (hst : st0 = As.reverse ++ rf g k :: st) (hrm : n' + 1 ≤ n ∧ maxL ≤ 45 ∧ (st.map fun v => v.category).sum ≤ 8) (hd : decode cc pc = .ok (.invokevirtual idx, 3)) (kk : ∀ r, Sim G (f r) K (pc + 3) lv (.long r :: st) μ) : Sim G (bd F f) K pc lv st0 μ := by
  obtain ⟨p, e, R, s, m, args, below, meth, c, cells, slots, Q, rfl, hx, hb, hml, hown, hts, hK, hT, hO, hn1, hn2, hn3, hn4⟩ := hX
  obtain ⟨y1, y2, y3, y4⟩ := hy
  intro a h1 h2
  cases hF : F with
  | none => rw [hF] at h1; cases h1
  | some z =>
    rw [hF] at h1
    obtain ⟨T, N, hcl⟩ := hC
    obtain ⟨v1, v2⟩ := hv
    intro H locs ls hP hS hl
    subst hst
    have cb := callB_of (R := R) (rm := RM n') (mc := 0) (ms := 0) np hts (goodTB y1) rfl rfl rfl (hts _ y2) (hts _ hc) ⟨y3.1, y3.2, y4⟩ ⟨by show n' + 1 ≤ R.frames; omega, by show 8 + (maxL + 11) + 64 * n' ≤ R.locals; omega⟩
    have hrun := va_runV (As := As) (rest := st) (g := F0 m pc ls (As.reverse ++ rf g k :: st)) (locs := locs) (cells := cells) (slots := slots) (below := below) (e := e) (meth := meth) ⟨hx, hb, hml, hown, hts⟩ (hM z hF) ⟨cb, hts _ v1, hts _ v2⟩ ⟨Wd.blind, va_recv hK hP hcl (q0 := k) (fs := flds (gad g) μ k ci) (by rw [wsOf_at _ _ _ (ty_lt (by have := (List.getElem?_eq_some_iff.mp hcl).1; simp [clX] at this; omega)), cell_obj hk (by have := (List.getElem?_eq_some_iff.mp hcl).1; simp [clX] at this; omega)]), fun U hU hW => ⟨rfl, by show PW g μ U.heap; rw [hU]; exact hP, va_K.moved hW.alike hK, (Stt.warm hW hT).kept (fun q hq hA => by rw [hU]; exact hS.2.1 q hq hA), hO⟩⟩ rfl hn hl.1 rfl (lv_room hrm.2.2) hd ⟨by omega, by omega⟩
    refine va_calll hrun hS (fun q _ h => h) (fun q h => h) (fun r1 u t H1 locs1 ht hvm hw hB hz hk1 hS1 => ?_)
    obtain ⟨rfl, rfl⟩ := hw
    subst ht
    exact kk _ a h1 h2 _ locs1 ls hB hS1 hl
theorem s_callSlw (hX : CX g G cc own nL n) {y : MethodName} {yc : ByteArray} {maxL idx n' : Nat} {ret : Option FieldType} {F : Option (Int64 × Mem)} {f : Int64 → Mem → Option α} {st0 : List Value} (As : List Value) {np : Nat} (hv : SKx y) (hM : ∀ r ν, F = some (r, ν) → CL g y yc maxL ret n' As μ r ν) (hy : MKx y yc maxL ret np) (hc : CVx own idx y) (hn : As.length = np) (hst : st0 = As.reverse ++ st) (hrm : n' + 1 ≤ n ∧ maxL ≤ 45 ∧ (st.map fun v => v.category).sum ≤ 8) (hd : decode cc pc = .ok (.invokestatic idx, 3)) (kk : ∀ r ν, Sim G (f r ν) K (pc + 3) lv (.long r :: st) ν) : Sim G (bd2 F f) K pc lv st0 μ := by
  obtain ⟨p, e, R, s, m, args, below, meth, c, cells, slots, Q, rfl, hx, hb, hml, hown, hts, hK, hT, hO, hn1, hn2, hn3, hn4⟩ := hX
  obtain ⟨y1, y2, y3, y4⟩ := hy
  intro a h1 h2
  cases hF : F with
  | none => rw [hF] at h1; cases h1
  | some z =>
    obtain ⟨r0, ν0⟩ := z
    rw [hF] at h1
    intro H locs ls hP hS hl
    subst hst
    have cb := callB_of (R := R) (rm := RM n') (mc := 0) (ms := 0) np hts (goodTB y1) rfl rfl rfl (hts _ y2) (hts _ hc) ⟨y3.1, y3.2, y4⟩ ⟨by show n' + 1 ≤ R.frames; omega, by show 8 + (maxL + 11) + 64 * n' ≤ R.locals; omega⟩
    have hrun := va_runS (As := As) (rest := st) (g := F0 m pc ls (As.reverse ++ st)) (locs := locs) (cells := cells) (slots := slots) (below := below) (e := e) (meth := meth) ⟨hx, hb, hml, hown, hts⟩ (hM r0 ν0 hF) ⟨cb, hts _ hv⟩ ⟨Wd.blind, fun U hU hW => ⟨rfl, by show PW g μ U.heap; rw [hU]; exact hP, va_K.moved hW.alike hK, (Stt.warm hW hT).kept (fun q hq hA => by rw [hU]; exact hS.2.1 q hq hA), hO⟩⟩ rfl hn hl.1 rfl (lv_room hrm.2.2) hd ⟨by omega, by omega⟩
    refine va_calll hrun hS (fun q _ h => h) (fun q h => h) (fun r1 u t H1 locs1 ht hvm hw hB hz hk1 hS1 => ?_)
    obtain ⟨rfl, rfl⟩ := hw
    subst ht
    exact kk _ _ a h1 h2 _ locs1 ls hB hS1 hl
theorem s_callSlr (hX : CX g G cc own nL n) {y : MethodName} {yc : ByteArray} {maxL idx n' : Nat} {ret : Option FieldType} {F : Option Int64} {f : Int64 → Option α} {st0 : List Value} (As : List Value) {np : Nat} (hv : SKx y) (hM : ∀ r, F = some r → CL g y yc maxL ret n' As μ r μ) (hy : MKx y yc maxL ret np) (hc : CVx own idx y) (hn : As.length = np) (hst : st0 = As.reverse ++ st) (hrm : n' + 1 ≤ n ∧ maxL ≤ 45 ∧ (st.map fun v => v.category).sum ≤ 8) (hd : decode cc pc = .ok (.invokestatic idx, 3)) (kk : ∀ r, Sim G (f r) K (pc + 3) lv (.long r :: st) μ) : Sim G (bd F f) K pc lv st0 μ := by
  obtain ⟨p, e, R, s, m, args, below, meth, c, cells, slots, Q, rfl, hx, hb, hml, hown, hts, hK, hT, hO, hn1, hn2, hn3, hn4⟩ := hX
  obtain ⟨y1, y2, y3, y4⟩ := hy
  intro a h1 h2
  cases hF : F with
  | none => rw [hF] at h1; cases h1
  | some z =>
    rw [hF] at h1
    intro H locs ls hP hS hl
    subst hst
    have cb := callB_of (R := R) (rm := RM n') (mc := 0) (ms := 0) np hts (goodTB y1) rfl rfl rfl (hts _ y2) (hts _ hc) ⟨y3.1, y3.2, y4⟩ ⟨by show n' + 1 ≤ R.frames; omega, by show 8 + (maxL + 11) + 64 * n' ≤ R.locals; omega⟩
    have hrun := va_runS (As := As) (rest := st) (g := F0 m pc ls (As.reverse ++ st)) (locs := locs) (cells := cells) (slots := slots) (below := below) (e := e) (meth := meth) ⟨hx, hb, hml, hown, hts⟩ (hM z hF) ⟨cb, hts _ hv⟩ ⟨Wd.blind, fun U hU hW => ⟨rfl, by show PW g μ U.heap; rw [hU]; exact hP, va_K.moved hW.alike hK, (Stt.warm hW hT).kept (fun q hq hA => by rw [hU]; exact hS.2.1 q hq hA), hO⟩⟩ rfl hn hl.1 rfl (lv_room hrm.2.2) hd ⟨by omega, by omega⟩
    refine va_calll hrun hS (fun q _ h => h) (fun q h => h) (fun r1 u t H1 locs1 ht hvm hw hB hz hk1 hS1 => ?_)
    obtain ⟨rfl, rfl⟩ := hw
    subst ht
    exact kk _ a h1 h2 _ locs1 ls hB hS1 hl
theorem s_callVvw (hX : CX g G cc own nL n) {y : MethodName} {yc : ByteArray} {maxL idx n' : Nat} {ret : Option FieldType} {F : Option Mem} {f : Mem → Option α} {st0 : List Value} (As : List Value) {k ci np : Nat} {C : String} (hk : tyOf k = ci) (hC : ∃ T N, clX[ci]? = some (C, T, N)) (hv : VKx C y) (hM : ∀ ν, F = some ν → CV g y yc maxL ret n' (rf g k :: As) μ ν) (hy : MKx y yc maxL ret np) (hc : CVx own idx y) (hn : As.length = np) (hst : st0 = As.reverse ++ rf g k :: st) (hrm : n' + 1 ≤ n ∧ maxL ≤ 45 ∧ (st.map fun v => v.category).sum ≤ 8) (hd : decode cc pc = .ok (.invokevirtual idx, 3)) (kk : ∀ ν, Sim G (f ν) K (pc + 3) lv st ν) : Sim G (bd F f) K pc lv st0 μ := by
  obtain ⟨p, e, R, s, m, args, below, meth, c, cells, slots, Q, rfl, hx, hb, hml, hown, hts, hK, hT, hO, hn1, hn2, hn3, hn4⟩ := hX
  obtain ⟨y1, y2, y3, y4⟩ := hy
  intro a h1 h2
  cases hF : F with
  | none => rw [hF] at h1; cases h1
  | some z =>
    rw [hF] at h1
    obtain ⟨T, N, hcl⟩ := hC
    obtain ⟨v1, v2⟩ := hv
    intro H locs ls hP hS hl
    subst hst
    have cb := callB_of (R := R) (rm := RM n') (mc := 0) (ms := 0) np hts (goodTB y1) rfl rfl rfl (hts _ y2) (hts _ hc) ⟨y3.1, y3.2, y4⟩ ⟨by show n' + 1 ≤ R.frames; omega, by show 8 + (maxL + 11) + 64 * n' ≤ R.locals; omega⟩
    have hrun := va_runV (As := As) (rest := st) (g := F0 m pc ls (As.reverse ++ rf g k :: st)) (locs := locs) (cells := cells) (slots := slots) (below := below) (e := e) (meth := meth) ⟨hx, hb, hml, hown, hts⟩ (hM z hF) ⟨cb, hts _ v1, hts _ v2⟩ ⟨Wd.blind, va_recv hK hP hcl (q0 := k) (fs := flds (gad g) μ k ci) (by rw [wsOf_at _ _ _ (ty_lt (by have := (List.getElem?_eq_some_iff.mp hcl).1; simp [clX] at this; omega)), cell_obj hk (by have := (List.getElem?_eq_some_iff.mp hcl).1; simp [clX] at this; omega)]), fun U hU hW => ⟨rfl, by show PW g μ U.heap; rw [hU]; exact hP, va_K.moved hW.alike hK, (Stt.warm hW hT).kept (fun q hq hA => by rw [hU]; exact hS.2.1 q hq hA), hO⟩⟩ rfl hn hl.1 rfl (lv_room hrm.2.2) hd ⟨by omega, by omega⟩
    refine va_callv hrun hS (fun q _ h => h) (fun q h => h) (fun u t H1 locs1 ht hvm hw hB hz hk1 hS1 => ?_)
    subst hw
    subst ht
    exact kk _ a h1 h2 _ locs1 ls hB hS1 hl
theorem s_callSvw (hX : CX g G cc own nL n) {y : MethodName} {yc : ByteArray} {maxL idx n' : Nat} {ret : Option FieldType} {F : Option Mem} {f : Mem → Option α} {st0 : List Value} (As : List Value) {np : Nat} (hv : SKx y) (hM : ∀ ν, F = some ν → CV g y yc maxL ret n' As μ ν) (hy : MKx y yc maxL ret np) (hc : CVx own idx y) (hn : As.length = np) (hst : st0 = As.reverse ++ st) (hrm : n' + 1 ≤ n ∧ maxL ≤ 45 ∧ (st.map fun v => v.category).sum ≤ 8) (hd : decode cc pc = .ok (.invokestatic idx, 3)) (kk : ∀ ν, Sim G (f ν) K (pc + 3) lv st ν) : Sim G (bd F f) K pc lv st0 μ := by
  obtain ⟨p, e, R, s, m, args, below, meth, c, cells, slots, Q, rfl, hx, hb, hml, hown, hts, hK, hT, hO, hn1, hn2, hn3, hn4⟩ := hX
  obtain ⟨y1, y2, y3, y4⟩ := hy
  intro a h1 h2
  cases hF : F with
  | none => rw [hF] at h1; cases h1
  | some z =>
    rw [hF] at h1
    intro H locs ls hP hS hl
    subst hst
    have cb := callB_of (R := R) (rm := RM n') (mc := 0) (ms := 0) np hts (goodTB y1) rfl rfl rfl (hts _ y2) (hts _ hc) ⟨y3.1, y3.2, y4⟩ ⟨by show n' + 1 ≤ R.frames; omega, by show 8 + (maxL + 11) + 64 * n' ≤ R.locals; omega⟩
    have hrun := va_runS (As := As) (rest := st) (g := F0 m pc ls (As.reverse ++ st)) (locs := locs) (cells := cells) (slots := slots) (below := below) (e := e) (meth := meth) ⟨hx, hb, hml, hown, hts⟩ (hM z hF) ⟨cb, hts _ hv⟩ ⟨Wd.blind, fun U hU hW => ⟨rfl, by show PW g μ U.heap; rw [hU]; exact hP, va_K.moved hW.alike hK, (Stt.warm hW hT).kept (fun q hq hA => by rw [hU]; exact hS.2.1 q hq hA), hO⟩⟩ rfl hn hl.1 rfl (lv_room hrm.2.2) hd ⟨by omega, by omega⟩
    refine va_callv hrun hS (fun q _ h => h) (fun q h => h) (fun u t H1 locs1 ht hvm hw hB hz hk1 hS1 => ?_)
    subst hw
    subst ht
    exact kk _ a h1 h2 _ locs1 ls hB hS1 hl
theorem mk_i {y : MethodName} {yc : ByteArray} {maxL N : Nat} {av : List Value} {μ0 ν : Mem} {r : Int32} (hy : plainName y.cls = true) (hav : (lg_sl av).length ≤ maxL) (body : ∀ G, CX g G yc y.cls maxL N → (∀ pc lv, decode yc pc = .ok (.ireturn, 1) → G pc lv [.int r] ν) → G 0 (lv_args 0 av) [] μ0) : CI g y yc maxL (some .int) N av μ0 r ν := by
  refine Met.ofW (cc := yc) (maxL := maxL) (ret := some .int) hy rfl ?_
  intro p e s m args below meth c s₁ B hml hv
  obtain ⟨rfl, hP0, hK, hT, hO⟩ := hv
  have hx := B.exec
  have hb := B.bytes
  have hr := B.returns
  have hts := atoms_spec (ws := Cond.code y yc maxL (some .int) :: TB) B.pre
  have hown : s.vm.findClass y.cls = some m.cls := findClass_of_methodNamed B.named
  have hlocks := B.notSynchronized
  have hl := lv_entry av (n := maxL) hav
  rw [lg_entry_eq]
  refine body _ ⟨p, e, RM N, s, m, _, below, meth, c, 0, 0, _, rfl, hx, hb, hml, hown, fun w hw => hts w (List.mem_cons_of_mem _ hw), hK, hT, hO, Nat.le_refl _, Nat.le_refl _, Nat.le_refl _, Nat.le_refl _⟩ ?_ s.heap [] _ hP0 va_S.rf hl
  intro pc lv hd H locs ls hP hS _
  exact W.iret hx hb hr (fun t ht hW => ⟨⟨r, ν, rfl, ⟨rfl, rfl⟩, by show PW g ν t.heap; rw [ht]; exact hP⟩, hS.F ht⟩) hS.2.2 hd
theorem mk_l {y : MethodName} {yc : ByteArray} {maxL N : Nat} {av : List Value} {μ0 ν : Mem} {r : Int64} (hy : plainName y.cls = true) (hav : (lg_sl av).length ≤ maxL) (body : ∀ G, CX g G yc y.cls maxL N → (∀ pc lv, decode yc pc = .ok (.lreturn, 1) → G pc lv [.long r] ν) → G 0 (lv_args 0 av) [] μ0) : CL g y yc maxL (some .long) N av μ0 r ν := by
  refine Met.ofW (cc := yc) (maxL := maxL) (ret := some .long) hy rfl ?_
  intro p e s m args below meth c s₁ B hml hv
  obtain ⟨rfl, hP0, hK, hT, hO⟩ := hv
  have hx := B.exec
  have hb := B.bytes
  have hr := B.returns
  have hts := atoms_spec (ws := Cond.code y yc maxL (some .long) :: TB) B.pre
  have hown : s.vm.findClass y.cls = some m.cls := findClass_of_methodNamed B.named
  have hlocks := B.notSynchronized
  have hl := lv_entry av (n := maxL) hav
  rw [lg_entry_eq]
  refine body _ ⟨p, e, RM N, s, m, _, below, meth, c, 0, 0, _, rfl, hx, hb, hml, hown, fun w hw => hts w (List.mem_cons_of_mem _ hw), hK, hT, hO, Nat.le_refl _, Nat.le_refl _, Nat.le_refl _, Nat.le_refl _⟩ ?_ s.heap [] _ hP0 va_S.rf hl
  intro pc lv hd H locs ls hP hS _
  exact W.lret hx hb hr (fun t ht hW => ⟨⟨r, ν, rfl, ⟨rfl, rfl⟩, by show PW g ν t.heap; rw [ht]; exact hP⟩, hS.F ht⟩) hS.2.2 hd
theorem mk_v {y : MethodName} {yc : ByteArray} {maxL N : Nat} {av : List Value} {μ0 ν : Mem} (hy : plainName y.cls = true) (hav : (lg_sl av).length ≤ maxL) (body : ∀ G, CX g G yc y.cls maxL N → (∀ pc lv, decode yc pc = .ok (.return_, 1) → G pc lv [] ν) → G 0 (lv_args 0 av) [] μ0) : CV g y yc maxL (none) N av μ0 ν := by
  refine Met.ofW (cc := yc) (maxL := maxL) (ret := none) hy rfl ?_
  intro p e s m args below meth c s₁ B hml hv
  obtain ⟨rfl, hP0, hK, hT, hO⟩ := hv
  have hx := B.exec
  have hb := B.bytes
  have hr := B.returns
  have hts := atoms_spec (ws := Cond.code y yc maxL (none) :: TB) B.pre
  have hown : s.vm.findClass y.cls = some m.cls := findClass_of_methodNamed B.named
  have hlocks := B.notSynchronized
  have hl := lv_entry av (n := maxL) hav
  rw [lg_entry_eq]
  refine body _ ⟨p, e, RM N, s, m, _, below, meth, c, 0, 0, _, rfl, hx, hb, hml, hown, fun w hw => hts w (List.mem_cons_of_mem _ hw), hK, hT, hO, Nat.le_refl _, Nat.le_refl _, Nat.le_refl _, Nat.le_refl _⟩ ?_ s.heap [] _ hP0 va_S.rf hl
  intro pc lv hd H locs ls hP hS _
  exact W.vret hx hb hr (fun t ht hW => ⟨⟨ν, rfl, rfl, by show PW g ν t.heap; rw [ht]; exact hP⟩, hS.F ht⟩) hS.2.2 hd
theorem mk_z {y : MethodName} {yc : ByteArray} {maxL N : Nat} {av : List Value} {μ0 ν : Mem} {r : Int32} (hy : plainName y.cls = true) (hav : (lg_sl av).length ≤ maxL) (body : ∀ G, CX g G yc y.cls maxL N → (∀ pc lv, decode yc pc = .ok (.ireturn, 1) → (r = 0 ∨ r = 1) → G pc lv [.int r] ν) → G 0 (lv_args 0 av) [] μ0) : CI g y yc maxL (some .boolean) N av μ0 r ν := by
  refine Met.ofW (cc := yc) (maxL := maxL) (ret := some .boolean) hy rfl ?_
  intro p e s m args below meth c s₁ B hml hv
  obtain ⟨rfl, hP0, hK, hT, hO⟩ := hv
  have hx := B.exec
  have hb := B.bytes
  have hr := B.returns
  have hts := atoms_spec (ws := Cond.code y yc maxL (some .boolean) :: TB) B.pre
  have hown : s.vm.findClass y.cls = some m.cls := findClass_of_methodNamed B.named
  have hlocks := B.notSynchronized
  have hl := lv_entry av (n := maxL) hav
  rw [lg_entry_eq]
  refine body _ ⟨p, e, RM N, s, m, _, below, meth, c, 0, 0, _, rfl, hx, hb, hml, hown, fun w hw => hts w (List.mem_cons_of_mem _ hw), hK, hT, hO, Nat.le_refl _, Nat.le_refl _, Nat.le_refl _, Nat.le_refl _⟩ ?_ s.heap [] _ hP0 va_S.rf hl
  intro pc lv hd hzz H locs ls hP hS _
  exact W.zret hx hb hr (zK hzz) (fun t ht hW => ⟨⟨r, ν, rfl, ⟨rfl, rfl⟩, by show PW g ν t.heap; rw [ht]; exact hP⟩, hS.F ht⟩) hS.2.2 hd
end SIMR

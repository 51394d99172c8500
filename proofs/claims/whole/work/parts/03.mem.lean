/-! One memory for all cells of the class and of the reference: a cell is (role, number); its contents are numbers; the addresses are a function of both. -/
abbrev mMem : Type := (Nat → Nat → Nat → Int32) × (Nat → Nat → Nat → Int64)
abbrev mTau : Type := (Nat → Nat → Nat) × (Nat → Nat → Prop)
/-- classes and slots, array classes, where the new cells begin, the heap at the start -/
abbrev mG : Type := va_G × (Nat → ClassId) × Nat × Heap
def sI (μ : mMem) (r i k : Nat) (x : Int32) : mMem := (fun a b c => if a = r ∧ b = i ∧ c = k then x else μ.1 a b c, μ.2)
def sL (μ : mMem) (r i k : Nat) (x : Int64) : mMem := (μ.1, fun a b c => if a = r ∧ b = i ∧ c = k then x else μ.2 a b c)
def oC {α β : Type} (o : Option α) (a : β) (b : α → β) : β := match o with
  | none => a
  | some x => b x
theorem oC_n {α β : Type} {o : Option α} {a : β} {b : α → β} (h : o = none) : oC o a b = a := by subst h; rfl
theorem oC_s {α β : Type} {o : Option α} {a : β} {b : α → β} {x : α} (h : o = some x) : oC o a b = b x := by subst h; rfl
theorem sI_1 (μ : mMem) (r i k : Nat) (x : Int32) (a b c : Nat) : (sI μ r i k x).1 a b c = if a = r ∧ b = i ∧ c = k then x else μ.1 a b c := rfl
theorem sI_2 (μ : mMem) (r i k : Nat) (x : Int32) : (sI μ r i k x).2 = μ.2 := rfl
theorem sL_1 (μ : mMem) (r i k : Nat) (x : Int64) : (sL μ r i k x).1 = μ.1 := rfl
theorem sL_2 (μ : mMem) (r i k : Nat) (x : Int64) (a b c : Nat) : (sL μ r i k x).2 a b c = if a = r ∧ b = i ∧ c = k then x else μ.2 a b c := rfl
theorem sI_row (μ : mMem) (r i k : Nat) (x : Int32) : (sI μ r i k x).1 r i = upd (μ.1 r i) k x := by
  funext c
  simp [sI, upd]
theorem sL_row (μ : mMem) (r i k : Nat) (x : Int64) : (sL μ r i k x).2 r i = vp_updL (μ.2 r i) k x := by
  funext c
  simp [sL, vp_updL]
/-- all rows but one are as they were -/
def mOff (μ μ' : mMem) (r i : Nat) : Prop := ∀ a b : Nat, ¬ (a = r ∧ b = i) → μ'.1 a b = μ.1 a b ∧ μ'.2 a b = μ.2 a b
theorem mOff_I (μ : mMem) (r i k : Nat) (x : Int32) : mOff μ (sI μ r i k x) r i := by
  intro a b h
  refine ⟨?_, rfl⟩
  funext c
  simp only [sI]
  rw [if_neg]
  exact fun q => h ⟨q.1, q.2.1⟩
theorem mOff_L (μ : mMem) (r i k : Nat) (x : Int64) : mOff μ (sL μ r i k x) r i := by
  intro a b h
  refine ⟨rfl, ?_⟩
  funext c
  simp only [sL]
  rw [if_neg]
  exact fun q => h ⟨q.1, q.2.1⟩
/-- what a cell of each role holds: f its ints, g its longs -/
def mE (cT : Nat → ClassId) (ad : Nat → Nat → Nat) (r i : Nat) (f : Nat → Int32) (g : Nat → Int64) : va_E := match r with
  | 0 => .inr (0, [.ref (ad 1 0), .int (f 1), .ref (ad 7 0), .ref (ad 10 0), .ref (ad 13 0)])
  | 1 => .inl (cT 3, 60, .inr (.inr (.inr (.inr (fun j => if f j = 0 then none else some (ad 2 j))))))
  | 2 => .inr (4, [.int (f 0), .int (f 1), .int (f 2), .ref (ad 3 (f 2).toNatClampNeg)])
  | 3 => .inr (1, [.int (f 0), .int (f 1), .int (f 2), .ref (ad 4 i), .ref (ad 5 i), .ref (ad 6 i)])
  | 4 => .inl (cT 0, 6, .inl f)
  | 5 => .inl (cT 0, 6, .inl f)
  | 6 => .inl (cT 1, 6, .inr (.inl g))
  | 7 => .inr (2, [.ref (ad 8 0), .ref (ad 9 0)])
  | 8 => .inl (cT 0, 3, .inl f)
  | 9 => .inl (cT 1, 3, .inr (.inl g))
  | 10 => .inl (cT 4, 12, .inr (.inr (.inr (.inr (fun j => if f j = 0 then none else some (ad 11 j))))))
  | 11 => .inr (3, [.int (f 0), .int (f 1), .long (g 2), .long (g 3), .ref (ad 12 i), .int (f 5), .int (f 6), .int (f 7), .int (f 8)])
  | 12 => .inl (cT 1, 5, .inr (.inl g))
  | 13 => .inr (5, [.ref (ad 14 0), .ref (ad 15 0), .ref (ad 16 0), .ref (ad 17 0), .int (f 4), .int (f 5), .int (f 6), .int (f 7), .int (f 8), .int (f 9)])
  | 14 => .inl (cT 0, 40, .inl f)
  | 15 => .inl (cT 0, 40, .inl f)
  | 16 => .inl (cT 0, 40, .inl f)
  | 17 => .inl (cT 1, 40, .inr (.inl g))
  | 20 => .inr (6, [.int (f 0), .int (f 1), .ref (ad 22 0), .ref (ad 23 0), .ref (ad 24 0), .ref (ad 25 0), .ref (ad 26 0), .ref (ad 27 0), .ref (ad 28 0), .ref (ad 29 0), .ref (ad 30 0), .ref (ad 31 0), .ref (ad 32 0), .ref (ad 33 0), .ref (ad 34 0), .ref (ad 35 0), .ref (ad 36 0), .ref (ad 37 0), .ref (ad 38 0), .ref (ad 39 0), .ref (ad 40 0), .ref (ad 41 0), .ref (ad 42 0), .ref (ad 43 0), .ref (ad 44 0), .ref (ad 45 0), .ref (ad 46 0), .ref (ad 47 0), .int (f 28), .long (g 29)])
  | 22 => .inl (cT 0, 60, .inl f)
  | 23 => .inl (cT 0, 60, .inl f)
  | 24 => .inl (cT 0, 60, .inl f)
  | 25 => .inl (cT 0, 60, .inl f)
  | 26 => .inl (cT 0, 60, .inl f)
  | 27 => .inl (cT 0, 60, .inl f)
  | 28 => .inl (cT 0, 360, .inl f)
  | 29 => .inl (cT 0, 360, .inl f)
  | 30 => .inl (cT 1, 360, .inr (.inl g))
  | 31 => .inl (cT 0, 3, .inl f)
  | 32 => .inl (cT 0, 90, .inl f)
  | 33 => .inl (cT 2, 12, .inl f)
  | 34 => .inl (cT 0, 12, .inl f)
  | 35 => .inl (cT 0, 12, .inl f)
  | 36 => .inl (cT 0, 12, .inl f)
  | 37 => .inl (cT 0, 12, .inl f)
  | 38 => .inl (cT 0, 12, .inl f)
  | 39 => .inl (cT 0, 12, .inl f)
  | 40 => .inl (cT 1, 12, .inr (.inl g))
  | 41 => .inl (cT 1, 12, .inr (.inl g))
  | 42 => .inl (cT 1, 60, .inr (.inl g))
  | 43 => .inl (cT 0, 40, .inl f)
  | 44 => .inl (cT 0, 40, .inl f)
  | 45 => .inl (cT 0, 40, .inl f)
  | 46 => .inl (cT 0, 5, .inl f)
  | 47 => .inl (cT 1, 40, .inr (.inl g))
  | _ => .inl (cT 0, 0, .inl f)
def mSing : List Nat := [0, 1, 7, 8, 9, 10, 13, 14, 15, 16, 17, 20, 22, 23, 24, 25, 26, 27, 28, 29, 30, 31, 32, 33, 34, 35, 36, 37, 38, 39, 40, 41, 42, 43, 44, 45, 46, 47]
def mK (τ : mTau) (μ : mMem) : Prop := (∀ r ∈ mSing, τ.2 r 0) ∧ (∀ j, ¬ μ.1 1 0 j = 0 → τ.2 2 j) ∧ (∀ j, ¬ μ.1 10 0 j = 0 → τ.2 11 j) ∧ (∀ i, τ.2 2 i → τ.2 3 (μ.1 2 i 2).toNatClampNeg) ∧ (∀ i, τ.2 3 i → τ.2 4 i ∧ τ.2 5 i ∧ τ.2 6 i) ∧ (∀ i, τ.2 11 i → τ.2 12 i)
theorem mK_I {τ : mTau} {μ : mMem} {r i k : Nat} {x : Int32} (h : mK τ μ) (h1 : r ≠ 1) (h2 : r ≠ 2) (h3 : r ≠ 10) : mK τ (sI μ r i k x) := by
  have e1 : (sI μ r i k x).1 1 = μ.1 1 := by funext a b; simp only [sI]; rw [if_neg]; exact fun q => h1 q.1.symm
  have e2 : (sI μ r i k x).1 2 = μ.1 2 := by funext a b; simp only [sI]; rw [if_neg]; exact fun q => h2 q.1.symm
  have e3 : (sI μ r i k x).1 10 = μ.1 10 := by funext a b; simp only [sI]; rw [if_neg]; exact fun q => h3 q.1.symm
  unfold mK at h ⊢
  rw [e1, e2, e3]
  exact h
theorem mK_L {τ : mTau} {μ : mMem} {r i k : Nat} {x : Int64} (h : mK τ μ) : mK τ (sL μ r i k x) := h
/-- the heap holds the memory: below lo nothing has changed; the live cells are apart, at lo and above -/
def mw (G : mG) (τ : mTau) (μ : mMem) (H : Heap) (locs : List Loc) : Prop :=
  G.2.2.1 ≤ H.size ∧ (∀ q : Nat, q < G.2.2.1 → H[q]? = G.2.2.2[q]?) ∧ (∀ q ∈ locs, G.2.2.1 ≤ q.base) ∧
  (∀ r i : Nat, τ.2 r i → G.2.2.1 ≤ τ.1 r i ∧ va_at G.1 vwCl (τ.1 r i, mE G.2.1 τ.1 r i (μ.1 r i) (μ.2 r i)) H) ∧
  (∀ r i r' i' : Nat, τ.2 r i → τ.2 r' i' → τ.1 r i = τ.1 r' i' → r = r' ∧ i = i') ∧ mK τ μ
theorem mw.at {G : mG} {τ : mTau} {μ : mMem} {H : Heap} {locs : List Loc} (h : mw G τ μ H locs) {r i : Nat} (hl : τ.2 r i) {e : va_E} (he : mE G.2.1 τ.1 r i (μ.1 r i) (μ.2 r i) = e) : va_at G.1 vwCl (τ.1 r i, e) H := by
  subst he
  exact (h.2.2.2.1 r i hl).2
theorem mw.end {G : mG} {τ : mTau} {μ : mMem} {H : Heap} {locs : List Loc} (h : mw G τ μ H locs) {H' : Heap} (e : H' = H) : mw G τ μ H' [] := by
  subst e
  exact ⟨h.1, h.2.1, (fun _ h => by cases h), h.2.2.2⟩
theorem mw.k {G : mG} {τ : mTau} {μ : mMem} {H : Heap} {locs : List Loc} (h : mw G τ μ H locs) : mK τ μ := h.2.2.2.2.2
theorem mP1 {D : va_G} {cl : List vw_C} {a : Nat} {e : va_E} {H : Heap} (h : va_at D cl (a, e) H) : va_P D cl [(a, e)] H := by
  intro k q hq
  match k, hq with
  | 0, hq => cases hq; exact h
  | k + 1, hq => simp at hq
theorem mw.set {G : mG} {τ : mTau} {μ μ' : mMem} {H H1 : Heap} {locs : List Loc} (h : mw G τ μ H locs) {r i k : Nat} (hl : τ.2 r i) (ho : mOff μ μ' r i) (hk : mK τ μ') (he : va_at G.1 vwCl (τ.1 r i, mE G.2.1 τ.1 r i (μ'.1 r i) (μ'.2 r i)) H1) (z : H1.size = H.size) (oq : ∀ q : Nat, q ≠ τ.1 r i → H1[q]? = H[q]?) : mw G τ μ' H1 (locs ++ [⟨τ.1 r i, k⟩]) := by
  obtain ⟨h1, h2, h3, h4, h5, -⟩ := h
  have hlo := (h4 r i hl).1
  refine ⟨by rw [z]; exact h1, fun q hq => ?_, fun q hq => ?_, fun a b hab => ⟨(h4 a b hab).1, ?_⟩, h5, hk⟩
  · rw [oq q (by omega)]
    exact h2 q hq
  · rcases List.mem_append.mp hq with h | h
    · exact h3 q h
    · rw [List.mem_singleton.mp h]
      exact hlo
  · by_cases hc : a = r ∧ b = i
    · obtain ⟨rfl, rfl⟩ := hc
      exact he
    · obtain ⟨e1, e2⟩ := ho a b hc
      rw [e1, e2]
      exact (h4 a b hab).2.kept (oq _ (fun e => hc (h5 a b r i hab hl e)))

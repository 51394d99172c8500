def nThing (μ : mMem) (k : Nat) (a b h : Int32) : mMem := sI (sI (sI μ 2 k 0 a) 2 k 1 b) 2 k 2 h
def nBuild (μ : mMem) (k : Nat) : mMem := rI (rL (rI (rI μ 4 k (fun _ => 0)) 5 k (fun _ => 0)) 6 k (fun _ => 0)) 3 k (fun _ => 0)
def nPart (μ : mMem) (k : Nat) : mMem := rI (rL (rL μ 12 k (fun _ => 0)) 11 k (fun _ => 0)) 11 k (fun _ => 0)
theorem nThing_off (μ : mMem) (k : Nat) (a b h : Int32) : mOff μ (nThing μ k a b h) 2 k := ((mOff_I μ 2 k 0 a).tr (mOff_I _ 2 k 1 b)).tr (mOff_I _ 2 k 2 h)
theorem nThing_0 (μ : mMem) (k : Nat) (a b h : Int32) : (nThing μ k a b h).1 2 k 0 = a ∧ (nThing μ k a b h).1 2 k 1 = b ∧ (nThing μ k a b h).1 2 k 2 = h := by
  simp [nThing, sI]
/-- a free number of a role -/
theorem lv_free {τ : mTau} {μ : mMem} (hLv : mLv τ μ) {k : Nat} (hk : (μ.1 0 0 1).toInt ≤ k) (r : Nat) (hr : r = 2 ∨ r = 3 ∨ r = 4 ∨ r = 5 ∨ r = 6) : ¬ τ.2 r k := fun h => by
  have := hLv.2.2.1 r k hr h
  omega
theorem mK_of {τ τ' : mTau} {μ μ' : mMem} (h : mK τ μ) (hx : mExt τ τ') (h1 : ∀ j, ¬ μ'.1 1 0 j = 0 → ¬ μ.1 1 0 j = 0) (h2 : ∀ j, ¬ μ'.1 10 0 j = 0 → ¬ μ.1 10 0 j = 0) (h3 : ∀ i, τ'.2 2 i → (τ.2 2 i ∧ μ'.1 2 i 2 = μ.1 2 i 2) ∨ τ'.2 3 (μ'.1 2 i 2).toNatClampNeg) (h4 : ∀ i, τ'.2 3 i → τ.2 3 i ∨ (τ'.2 4 i ∧ τ'.2 5 i ∧ τ'.2 6 i)) (h5 : ∀ i, τ'.2 11 i → τ.2 11 i ∨ τ'.2 12 i) : mK τ' μ' := by
  refine ⟨fun r hr => (hx r 0 (h.1 r hr)).1, fun j hj => (hx 2 j (h.2.1 j (h1 j hj))).1, fun j hj => (hx 11 j (h.2.2.1 j (h2 j hj))).1, fun i hi => ?_, fun i hi => ?_, fun i hi => ?_⟩
  · rcases h3 i hi with ⟨q, e⟩ | q
    · rw [e]; exact (hx 3 _ (h.2.2.2.1 i q)).1
    · exact q
  · rcases h4 i hi with q | q
    · have := h.2.2.2.2.1 i q
      exact ⟨(hx 4 i this.1).1, (hx 5 i this.2.1).1, (hx 6 i this.2.2).1⟩
    · exact q
  · rcases h5 i hi with q | q
    · exact (hx 12 i (h.2.2.2.2.2 i q)).1
    · exact q
/-- new cells of some roles under one number -/
theorem ex_live {τ : mTau} {r k q : Nat} {a b : Nat} (h : (tAdd τ r k q).2 a b) : τ.2 a b ∨ (a = r ∧ b = k) := h
theorem add_thing {G : mG} {τ : mTau} {μ : mMem} {H : Heap} {locs : List Loc} {q1 k : Nat} {a b h : Int32} (h1 : ∀ i, τ.2 1 i → i = 0) (h10 : ∀ i, τ.2 10 i → i = 0) (hnl : ¬ τ.2 2 k) (hl3 : τ.2 3 h.toNatClampNeg) (hX : mx G τ μ [(q1, .inr (4, [.int a, .int b, .int h, .ref (τ.1 3 h.toNatClampNeg)]))] H locs) : mExt τ (tAdd τ 2 k q1) ∧ mw G (tAdd τ 2 k q1) (nThing μ k a b h) H locs := by
  have hx := mExt.add (q := q1) hnl
  obtain ⟨e0, e1, e2⟩ := nThing_0 μ k a b h
  refine ⟨hx, (mx_add (r := 2) (k := k) (ws' := []) hX h1 h10 0 [] rfl hnl (nThing_off μ k a b h) ?_ ?_ rfl rfl (by simp)).1⟩
  · simp only [mE, e0, e1, e2]
    rw [tAdd_ne (by simp)]
  · refine mK_of hX.1.k hx (fun j hj => ?_) (fun j hj => ?_) (fun i hi => ?_) (fun i hi => ?_) (fun i hi => ?_)
    · rw [(nThing_off μ k a b h 1 0 (by simp)).1] at hj; exact hj
    · rw [(nThing_off μ k a b h 10 0 (by simp)).1] at hj; exact hj
    · rcases hi with hi | ⟨-, rfl⟩
      · exact Or.inl ⟨hi, by rw [(nThing_off μ k a b h 2 i (fun z => hnl (by rw [← z.2]; exact hi))).1]⟩
      · exact Or.inr (by rw [e2]; exact Or.inl hl3)
    · rcases hi with hi | ⟨h9, -⟩
      · exact Or.inl hi
      · exact absurd h9 (by decide)
    · rcases hi with hi | ⟨h9, -⟩
      · exact Or.inl hi
      · exact absurd h9 (by decide)
theorem add_row {G : mG} {τ : mTau} {μ : mMem} {ws ws' : va_W} {H : Heap} {locs : List Loc} (hX : mx G τ μ ws H locs) (h1 : ∀ i, τ.2 1 i → i = 0) (h10 : ∀ i, τ.2 10 i → i = 0) (p : Nat) (is : List Nat) {r k q : Nat} {e : va_E} (hr : r ≠ 1 ∧ r ≠ 2 ∧ r ≠ 3 ∧ r ≠ 10 ∧ r ≠ 11) (hp : ws[p]? = some (q, e)) (hnl : ¬ τ.2 r k) {μ' : mMem} (ho : mOff μ μ' r k) (he : mE G.2.1 (tAdd τ r k q).1 r k (μ'.1 r k) (μ'.2 r k) = e) (hn : va_nd is = true) (hs : is.map (fun i => ws[i]?) = ws'.map some) (hpi : p ∉ is) : mx G (tAdd τ r k q) μ' ws' H locs := by
  refine mx_add hX h1 h10 p is hp hnl ho he ?_ hn hs hpi
  refine mK_of hX.1.k (mExt.add hnl) (fun j hj => ?_) (fun j hj => ?_) (fun i hi => ?_) (fun i hi => ?_) (fun i hi => ?_)
  · rw [(ho 1 0 (fun z => hr.1 z.1.symm)).1] at hj; exact hj
  · rw [(ho 10 0 (fun z => hr.2.2.2.1 z.1.symm)).1] at hj; exact hj
  · rcases hi with hi | ⟨z, -⟩
    · exact Or.inl ⟨hi, by rw [(ho 2 i (fun z => hr.2.1 z.1.symm)).1]⟩
    · exact absurd z.symm hr.2.1
  · rcases hi with hi | ⟨z, -⟩
    · exact Or.inl hi
    · exact absurd z.symm hr.2.2.1
  · rcases hi with hi | ⟨z, -⟩
    · exact Or.inl hi
    · exact absurd z.symm hr.2.2.2.2
theorem tAdd_keep {τ : mTau} {r k q : Nat} (hr : r ≠ 1 ∧ r ≠ 10) (h1 : ∀ i, τ.2 1 i → i = 0) (h10 : ∀ i, τ.2 10 i → i = 0) : (∀ i, (tAdd τ r k q).2 1 i → i = 0) ∧ (∀ i, (tAdd τ r k q).2 10 i → i = 0) := ⟨fun i h => h.elim (h1 i) (fun z => absurd z.1.symm hr.1), fun i h => h.elim (h10 i) (fun z => absurd z.1.symm hr.2)⟩
theorem add_build {G : mG} {τ : mTau} {μ : mMem} {H : Heap} {locs : List Loc} {q2 c1 c2 c3 k : Nat} {wt : Nat × va_E} (hLv : mLv τ μ) (hk : (μ.1 0 0 1).toInt ≤ k) (hX : mx G τ μ [(q2, .inr (1, [.int 0, .int 0, .int 0, .ref c1, .ref c2, .ref c3])), (c1, .inl (G.2.1 0, 6, .inl (fun _ => 0))), (c2, .inl (G.2.1 0, 6, .inl (fun _ => 0))), (c3, .inl (G.2.1 1, 6, .inr (.inl (fun _ => 0)))), wt] H locs) : ∃ τ', mExt τ τ' ∧ (∀ r i, τ'.2 r i → τ.2 r i ∨ (i = k ∧ (r = 3 ∨ r = 4 ∨ r = 5 ∨ r = 6))) ∧ τ'.2 3 k ∧ τ'.1 3 k = q2 ∧ mx G τ' (nBuild μ k) [wt] H locs := by
  have n3 := lv_free hLv hk 3 (by simp)
  have n4 := lv_free hLv hk 4 (by simp)
  have n5 := lv_free hLv hk 5 (by simp)
  have n6 := lv_free hLv hk 6 (by simp)
  have k0 := And.intro hLv.1 hLv.2.1
  have k1 := tAdd_keep (τ := τ) (r := 4) (k := k) (q := c1) (by decide) k0.1 k0.2
  have X1 := add_row (ws' := [(q2, .inr (1, [.int 0, .int 0, .int 0, .ref c1, .ref c2, .ref c3])), (c2, .inl (G.2.1 0, 6, .inl (fun _ => 0))), (c3, .inl (G.2.1 1, 6, .inr (.inl (fun _ => 0)))), wt]) hX k0.1 k0.2 1 [0, 2, 3, 4] (r := 4) (k := k) (by decide) rfl n4 (mOff_rI μ 4 k (fun _ => 0)) (by rw [rI_self]; rfl) rfl rfl (by decide)
  have m5 : ¬ (tAdd τ 4 k c1).2 5 k := fun h => h.elim n5 (fun z => absurd z.1 (by decide))
  have k2 := tAdd_keep (τ := tAdd τ 4 k c1) (r := 5) (k := k) (q := c2) (by decide) k1.1 k1.2
  have X2 := add_row (ws' := [(q2, .inr (1, [.int 0, .int 0, .int 0, .ref c1, .ref c2, .ref c3])), (c3, .inl (G.2.1 1, 6, .inr (.inl (fun _ => 0)))), wt]) X1 k1.1 k1.2 1 [0, 2, 3] (r := 5) (k := k) (by decide) rfl m5 (mOff_rI _ 5 k (fun _ => 0)) (by rw [rI_self]; rfl) rfl rfl (by decide)
  have m6 : ¬ (tAdd (tAdd τ 4 k c1) 5 k c2).2 6 k := fun h => h.elim (fun h => h.elim n6 (fun z => absurd z.1 (by decide))) (fun z => absurd z.1 (by decide))
  have k3 := tAdd_keep (τ := tAdd (tAdd τ 4 k c1) 5 k c2) (r := 6) (k := k) (q := c3) (by decide) k2.1 k2.2
  have X3 := add_row (ws' := [(q2, .inr (1, [.int 0, .int 0, .int 0, .ref c1, .ref c2, .ref c3])), wt]) X2 k2.1 k2.2 1 [0, 2] (r := 6) (k := k) (by decide) rfl m6 (mOff_rL _ 6 k (fun _ => 0)) (by rw [rL_self]; rfl) rfl rfl (by decide)
  have m3 : ¬ (tAdd (tAdd (tAdd τ 4 k c1) 5 k c2) 6 k c3).2 3 k := fun h => h.elim (fun h => h.elim (fun h => h.elim n3 (fun z => absurd z.1 (by decide))) (fun z => absurd z.1 (by decide))) (fun z => absurd z.1 (by decide))
  have a4 : (tAdd (tAdd (tAdd (tAdd τ 4 k c1) 5 k c2) 6 k c3) 3 k q2).1 4 k = c1 := by rw [tAdd_ne (by simp), tAdd_ne (by simp), tAdd_ne (by simp), tAdd_self]
  have a5 : (tAdd (tAdd (tAdd (tAdd τ 4 k c1) 5 k c2) 6 k c3) 3 k q2).1 5 k = c2 := by rw [tAdd_ne (by simp), tAdd_ne (by simp), tAdd_self]
  have a6 : (tAdd (tAdd (tAdd (tAdd τ 4 k c1) 5 k c2) 6 k c3) 3 k q2).1 6 k = c3 := by rw [tAdd_ne (by simp), tAdd_self]
  have X4 := mx_add (ws' := [wt]) X3 k3.1 k3.2 0 [1] (r := 3) (k := k) rfl m3 (mOff_rI _ 3 k (fun _ => 0)) (by rw [rI_self]; simp only [mE, a4, a5, a6]) (by
    refine mK_of X3.1.k (mExt.add m3) (fun j hj => ?_) (fun j hj => ?_) (fun i hi => ?_) (fun i hi => ?_) (fun i hi => ?_)
    · rw [rI_ne (by simp)] at hj; exact hj
    · rw [rI_ne (by simp)] at hj; exact hj
    · rcases hi with hi | ⟨z, -⟩
      · exact Or.inl ⟨hi, by rw [rI_ne (by simp)]⟩
      · exact absurd z (by decide)
    · rcases hi with hi | ⟨-, rfl⟩
      · exact Or.inl hi
      · exact Or.inr ⟨Or.inl (Or.inl (Or.inl (Or.inr ⟨rfl, rfl⟩))), Or.inl (Or.inl (Or.inr ⟨rfl, rfl⟩)), Or.inl (Or.inr ⟨rfl, rfl⟩)⟩
    · rcases hi with hi | ⟨z, -⟩
      · exact Or.inl hi
      · exact absurd z (by decide)) rfl rfl (by decide)
  refine ⟨_, ((mExt.add n4).tr (mExt.add m5)).tr ((mExt.add m6).tr (mExt.add m3)), fun r i h => ?_, Or.inr ⟨rfl, rfl⟩, tAdd_self _ _ _ _, X4⟩
  rcases h with (((h | h) | h) | h) | h
  · exact Or.inl h
  · exact Or.inr ⟨h.2, Or.inr (Or.inl h.1)⟩
  · exact Or.inr ⟨h.2, Or.inr (Or.inr (Or.inl h.1))⟩
  · exact Or.inr ⟨h.2, Or.inr (Or.inr (Or.inr h.1))⟩
  · exact Or.inr ⟨h.2, Or.inl h.1⟩
theorem add_part {G : mG} {τ : mTau} {μ : mMem} {H : Heap} {locs : List Loc} {q1 c1 k : Nat} (hLv : mLv τ μ) (hk : μ.1 10 0 k = 0) (hX : mx G τ μ [(q1, .inr (3, [.int 0, .int 0, .long 0, .long 0, .ref c1, .int 0, .int 0, .int 0, .int 0])), (c1, .inl (G.2.1 1, 5, .inr (.inl (fun _ => 0))))] H locs) : ∃ τ', mExt τ τ' ∧ (∀ r i, τ'.2 r i → τ.2 r i ∨ (i = k ∧ (r = 11 ∨ r = 12))) ∧ τ'.2 11 k ∧ τ'.1 11 k = q1 ∧ mw G τ' (nPart μ k) H locs := by
  have n11 : ¬ τ.2 11 k := fun h => hLv.2.2.2 11 k (Or.inl rfl) h hk
  have n12 : ¬ τ.2 12 k := fun h => hLv.2.2.2 12 k (Or.inr rfl) h hk
  have k0 := And.intro hLv.1 hLv.2.1
  have k1 := tAdd_keep (τ := τ) (r := 12) (k := k) (q := c1) (by decide) k0.1 k0.2
  have X1 := add_row (ws' := [(q1, .inr (3, [.int 0, .int 0, .long 0, .long 0, .ref c1, .int 0, .int 0, .int 0, .int 0]))]) hX k0.1 k0.2 1 [0] (r := 12) (k := k) (by decide) rfl n12 (mOff_rL μ 12 k (fun _ => 0)) (by rw [rL_self]; rfl) rfl rfl (by decide)
  have m11 : ¬ (tAdd τ 12 k c1).2 11 k := fun h => h.elim n11 (fun z => absurd z.1 (by decide))
  have a12 : (tAdd (tAdd τ 12 k c1) 11 k q1).1 12 k = c1 := by rw [tAdd_ne (by simp), tAdd_self]
  have ho : mOff (rL μ 12 k (fun _ => 0)) (nPart μ k) 11 k := (mOff_rL _ 11 k _).tr (mOff_rI _ 11 k _)
  have r1 : (nPart μ k).1 11 k = fun _ => 0 := rI_self _ _ _ _
  have r2 : (nPart μ k).2 11 k = fun _ => 0 := rL_self _ _ _ _
  have X2 := mx_add (ws' := []) X1 k1.1 k1.2 0 [] (r := 11) (k := k) rfl m11 ho (by rw [r1, r2]; simp only [mE, a12]) (by
    refine mK_of X1.1.k (mExt.add m11) (fun j hj => ?_) (fun j hj => ?_) (fun i hi => ?_) (fun i hi => ?_) (fun i hi => ?_)
    · rw [(ho 1 0 (by simp)).1] at hj; exact hj
    · rw [(ho 10 0 (by simp)).1] at hj; exact hj
    · rcases hi with hi | ⟨z, -⟩
      · exact Or.inl ⟨hi, by rw [(ho 2 i (by simp)).1]⟩
      · exact absurd z (by decide)
    · rcases hi with hi | ⟨z, -⟩
      · exact Or.inl hi
      · exact absurd z (by decide)
    · rcases hi with hi | ⟨-, rfl⟩
      · exact Or.inl hi
      · exact Or.inr (Or.inl (Or.inr ⟨rfl, rfl⟩))) rfl rfl (by decide)
  refine ⟨_, (mExt.add n12).tr (mExt.add m11), fun r i h => ?_, Or.inr ⟨rfl, rfl⟩, tAdd_self _ _ _ _, X2.1⟩
  rcases h with (h | h) | h
  · exact Or.inl h
  · exact Or.inr ⟨h.2, Or.inr h.1⟩
  · exact Or.inr ⟨h.2, Or.inl h.1⟩

/-! Beside the memory: cells that are being made, and how they come into it. -/
def rI (μ : mMem) (r i : Nat) (f : Nat → Int32) : mMem := (fun a b => if a = r ∧ b = i then f else μ.1 a b, μ.2)
def rL (μ : mMem) (r i : Nat) (f : Nat → Int64) : mMem := (μ.1, fun a b => if a = r ∧ b = i then f else μ.2 a b)
theorem rI_self (μ : mMem) (r i : Nat) (f : Nat → Int32) : (rI μ r i f).1 r i = f := by simp [rI]
theorem rL_self (μ : mMem) (r i : Nat) (f : Nat → Int64) : (rL μ r i f).2 r i = f := by simp [rL]
theorem rI_ne {μ : mMem} {r i a b : Nat} {f : Nat → Int32} (h : ¬ (a = r ∧ b = i)) : (rI μ r i f).1 a b = μ.1 a b := by simp only [rI]; rw [if_neg h]
theorem rL_ne {μ : mMem} {r i a b : Nat} {f : Nat → Int64} (h : ¬ (a = r ∧ b = i)) : (rL μ r i f).2 a b = μ.2 a b := by simp only [rL]; rw [if_neg h]
theorem mOff_rI (μ : mMem) (r i : Nat) (f : Nat → Int32) : mOff μ (rI μ r i f) r i := fun _ _ h => ⟨rI_ne h, rfl⟩
theorem mOff_rL (μ : mMem) (r i : Nat) (f : Nat → Int64) : mOff μ (rL μ r i f) r i := fun _ _ h => ⟨rfl, rL_ne h⟩
theorem mOff.tr {μ μ1 μ2 : mMem} {r i : Nat} (h : mOff μ μ1 r i) (h2 : mOff μ1 μ2 r i) : mOff μ μ2 r i := fun a b q => ⟨(h2 a b q).1.trans (h a b q).1, (h2 a b q).2.trans (h a b q).2⟩
def tAdd (τ : mTau) (r k q : Nat) : mTau := (fun a b => if a = r ∧ b = k then q else τ.1 a b, fun a b => τ.2 a b ∨ (a = r ∧ b = k))
theorem tAdd_self (τ : mTau) (r k q : Nat) : (tAdd τ r k q).1 r k = q := by simp [tAdd]
theorem tAdd_ne {τ : mTau} {r k q a b : Nat} (h : ¬ (a = r ∧ b = k)) : (tAdd τ r k q).1 a b = τ.1 a b := by simp only [tAdd]; rw [if_neg h]
def mExt (τ τ' : mTau) : Prop := ∀ r i, τ.2 r i → τ'.2 r i ∧ τ'.1 r i = τ.1 r i
theorem mExt.rf {τ : mTau} : mExt τ τ := fun _ _ h => ⟨h, rfl⟩
theorem mExt.tr {a b c : mTau} (h : mExt a b) (h2 : mExt b c) : mExt a c := fun r i q => ⟨(h2 r i (h r i q).1).1, (h2 r i (h r i q).1).2.trans (h r i q).2⟩
theorem mExt.add {τ : mTau} {r k q : Nat} (h : ¬ τ.2 r k) : mExt τ (tAdd τ r k q) := fun a b z => ⟨Or.inl z, tAdd_ne (fun e => h (by rw [← e.1, ← e.2]; exact z))⟩
/-- which cells are live, by the numbers -/
def mLv (τ : mTau) (μ : mMem) : Prop := (∀ i, τ.2 1 i → i = 0) ∧ (∀ i, τ.2 10 i → i = 0) ∧ (∀ r i, (r = 2 ∨ r = 3 ∨ r = 4 ∨ r = 5 ∨ r = 6) → τ.2 r i → (i : Int) < (μ.1 0 0 1).toInt) ∧ (∀ r i, (r = 11 ∨ r = 12) → τ.2 r i → ¬ μ.1 10 0 i = 0)
theorem mE_agree {cT : Nat → ClassId} {ad ad' : Nat → Nat → Nat} {τ : mTau} {μ : mMem} (hk : mK τ μ) (h1 : ∀ i, τ.2 1 i → i = 0) (h10 : ∀ i, τ.2 10 i → i = 0) (ha : ∀ r i, τ.2 r i → ad' r i = ad r i) {r i : Nat} (hl : τ.2 r i) : mE cT ad' r i (μ.1 r i) (μ.2 r i) = mE cT ad r i (μ.1 r i) (μ.2 r i) := by
  have e1 : ad' 1 0 = ad 1 0 := ha 1 0 (hk.1 1 (by decide))
  have e7 : ad' 7 0 = ad 7 0 := ha 7 0 (hk.1 7 (by decide))
  have e8 : ad' 8 0 = ad 8 0 := ha 8 0 (hk.1 8 (by decide))
  have e9 : ad' 9 0 = ad 9 0 := ha 9 0 (hk.1 9 (by decide))
  have e10 : ad' 10 0 = ad 10 0 := ha 10 0 (hk.1 10 (by decide))
  have e13 : ad' 13 0 = ad 13 0 := ha 13 0 (hk.1 13 (by decide))
  have e14 : ad' 14 0 = ad 14 0 := ha 14 0 (hk.1 14 (by decide))
  have e15 : ad' 15 0 = ad 15 0 := ha 15 0 (hk.1 15 (by decide))
  have e16 : ad' 16 0 = ad 16 0 := ha 16 0 (hk.1 16 (by decide))
  have e17 : ad' 17 0 = ad 17 0 := ha 17 0 (hk.1 17 (by decide))
  have e22 : ad' 22 0 = ad 22 0 := ha 22 0 (hk.1 22 (by decide))
  have e23 : ad' 23 0 = ad 23 0 := ha 23 0 (hk.1 23 (by decide))
  have e24 : ad' 24 0 = ad 24 0 := ha 24 0 (hk.1 24 (by decide))
  have e25 : ad' 25 0 = ad 25 0 := ha 25 0 (hk.1 25 (by decide))
  have e26 : ad' 26 0 = ad 26 0 := ha 26 0 (hk.1 26 (by decide))
  have e27 : ad' 27 0 = ad 27 0 := ha 27 0 (hk.1 27 (by decide))
  have e28 : ad' 28 0 = ad 28 0 := ha 28 0 (hk.1 28 (by decide))
  have e29 : ad' 29 0 = ad 29 0 := ha 29 0 (hk.1 29 (by decide))
  have e30 : ad' 30 0 = ad 30 0 := ha 30 0 (hk.1 30 (by decide))
  have e31 : ad' 31 0 = ad 31 0 := ha 31 0 (hk.1 31 (by decide))
  have e32 : ad' 32 0 = ad 32 0 := ha 32 0 (hk.1 32 (by decide))
  have e33 : ad' 33 0 = ad 33 0 := ha 33 0 (hk.1 33 (by decide))
  have e34 : ad' 34 0 = ad 34 0 := ha 34 0 (hk.1 34 (by decide))
  have e35 : ad' 35 0 = ad 35 0 := ha 35 0 (hk.1 35 (by decide))
  have e36 : ad' 36 0 = ad 36 0 := ha 36 0 (hk.1 36 (by decide))
  have e37 : ad' 37 0 = ad 37 0 := ha 37 0 (hk.1 37 (by decide))
  have e38 : ad' 38 0 = ad 38 0 := ha 38 0 (hk.1 38 (by decide))
  have e39 : ad' 39 0 = ad 39 0 := ha 39 0 (hk.1 39 (by decide))
  have e40 : ad' 40 0 = ad 40 0 := ha 40 0 (hk.1 40 (by decide))
  have e41 : ad' 41 0 = ad 41 0 := ha 41 0 (hk.1 41 (by decide))
  have e42 : ad' 42 0 = ad 42 0 := ha 42 0 (hk.1 42 (by decide))
  have e43 : ad' 43 0 = ad 43 0 := ha 43 0 (hk.1 43 (by decide))
  have e44 : ad' 44 0 = ad 44 0 := ha 44 0 (hk.1 44 (by decide))
  have e45 : ad' 45 0 = ad 45 0 := ha 45 0 (hk.1 45 (by decide))
  have e46 : ad' 46 0 = ad 46 0 := ha 46 0 (hk.1 46 (by decide))
  have e47 : ad' 47 0 = ad 47 0 := ha 47 0 (hk.1 47 (by decide))
  by_cases z0 : r = 0
  · subst z0; simp only [mE, e1, e7, e10, e13]
  by_cases z1 : r = 1
  · subst z1
    have hi := h1 i hl
    subst hi
    have : (fun j => if μ.1 1 0 j = 0 then none else some (ad' 2 j)) = (fun j => if μ.1 1 0 j = 0 then none else some (ad 2 j)) := by
      funext j
      by_cases q : μ.1 1 0 j = 0
      · rw [if_pos q, if_pos q]
      · rw [if_neg q, if_neg q, ha 2 j (hk.2.1 j q)]
    simp only [mE, this]
  by_cases z2 : r = 2
  · subst z2; simp only [mE, ha 3 _ (hk.2.2.2.1 i hl)]
  by_cases z3 : r = 3
  · subst z3
    have h := hk.2.2.2.2.1 i hl
    simp only [mE, ha 4 i h.1, ha 5 i h.2.1, ha 6 i h.2.2]
  by_cases z7 : r = 7
  · subst z7; simp only [mE, e8, e9]
  by_cases z10 : r = 10
  · subst z10
    have hi := h10 i hl
    subst hi
    have : (fun j => if μ.1 10 0 j = 0 then none else some (ad' 11 j)) = (fun j => if μ.1 10 0 j = 0 then none else some (ad 11 j)) := by
      funext j
      by_cases q : μ.1 10 0 j = 0
      · rw [if_pos q, if_pos q]
      · rw [if_neg q, if_neg q, ha 11 j (hk.2.2.1 j q)]
    simp only [mE, this]
  by_cases z11 : r = 11
  · subst z11; simp only [mE, ha 12 i (hk.2.2.2.2.2 i hl)]
  by_cases z13 : r = 13
  · subst z13; simp only [mE, e14, e15, e16, e17]
  by_cases z20 : r = 20
  · subst z20; simp only [mE, e22, e23, e24, e25, e26, e27, e28, e29, e30, e31, e32, e33, e34, e35, e36, e37, e38, e39, e40, e41, e42, e43, e44, e45, e46, e47]
  unfold mE
  split <;> first | rfl | contradiction
def mx (G : mG) (τ : mTau) (μ : mMem) (ws : va_W) (H : Heap) (locs : List Loc) : Prop := mw G τ μ H locs ∧ va_P G.1 vwCl ws H ∧ va_D (fun q => G.2.2.1 ≤ q) ws ∧ ∀ r i, τ.2 r i → ∀ (k : Nat) (q : Nat × va_E), ws[k]? = some q → τ.1 r i ≠ q.1
theorem mx_0 {G : mG} {τ : mTau} {μ : mMem} {H : Heap} {locs : List Loc} (hM : mw G τ μ H locs) : mx G τ μ [] H locs := ⟨hM, fun k q h => by simp at h, ⟨fun i j p q h => by simp at h, fun k q h => by simp at h⟩, fun r i _ k q h => by simp at h⟩
theorem mw.lt {G : mG} {τ : mTau} {μ : mMem} {H : Heap} {locs : List Loc} (hM : mw G τ μ H locs) {r i : Nat} (h : τ.2 r i) : τ.1 r i < H.size := (hM.2.2.2.1 r i h).2.lt
theorem mw.grow {G : mG} {τ : mTau} {μ : mMem} {H H1 : Heap} {locs locs1 : List Loc} (hM : mw G τ μ H locs) (z : H.size ≤ H1.size) (hl : ∀ q ∈ locs1, G.2.2.1 ≤ q.base) (ho : ∀ q : Nat, q < H.size → q < G.2.2.1 → H1[q]? = H[q]?) (hc : ∀ r i, τ.2 r i → H1[τ.1 r i]? = H[τ.1 r i]?) : mw G τ μ H1 locs1 :=
  ⟨Nat.le_trans hM.1 z, fun q hq => (ho q (Nat.lt_of_lt_of_le hq hM.1) hq).trans (hM.2.1 q hq), hl, fun r i h => ⟨(hM.2.2.2.1 r i h).1, (hM.2.2.2.1 r i h).2.kept (hc r i h)⟩, hM.2.2.2.2.1, hM.2.2.2.2.2⟩
/-- a cell comes into the memory -/
theorem mx_add {G : mG} {τ : mTau} {μ μ' : mMem} {ws ws' : va_W} {H : Heap} {locs : List Loc} (hX : mx G τ μ ws H locs) (h1 : ∀ i, τ.2 1 i → i = 0) (h10 : ∀ i, τ.2 10 i → i = 0) (p : Nat) (is : List Nat) {r k q : Nat} {e : va_E} (hp : ws[p]? = some (q, e)) (hnl : ¬ τ.2 r k) (ho : mOff μ μ' r k) (he : mE G.2.1 (tAdd τ r k q).1 r k (μ'.1 r k) (μ'.2 r k) = e) (hk : mK (tAdd τ r k q) μ') (hn : va_nd is = true) (hs : is.map (fun i => ws[i]?) = ws'.map some) (hpi : p ∉ is) : mx G (tAdd τ r k q) μ' ws' H locs := by
  obtain ⟨hM, hP, hD, hA⟩ := hX
  have hold : ∀ a b, τ.2 a b → ¬ (a = r ∧ b = k) := fun a b h z => hnl (by rw [← z.1, ← z.2]; exact h)
  have at' : ∀ (j : Nat) (x : Nat × va_E), ws'[j]? = some x → ∃ i, is[j]? = some i ∧ ws[i]? = some x := by
    intro j x hx
    have h1 : (is.map (fun i => ws[i]?))[j]? = some (some x) := by rw [hs, List.getElem?_map, hx]; rfl
    rw [List.getElem?_map] at h1
    cases hi : is[j]? with
    | none => rw [hi] at h1; cases h1
    | some i => rw [hi] at h1; exact ⟨i, rfl, Option.some.inj h1⟩
  refine ⟨⟨hM.1, hM.2.1, hM.2.2.1, fun a b h => ?_, fun a b a' b' h h' hq => ?_, hk⟩, ?_, hD.sub is hn hs, fun a b h j x hx => ?_⟩
  · rcases h with h | ⟨rfl, rfl⟩
    · have hne := hold a b h
      obtain ⟨e1, e2⟩ := ho a b hne
      rw [tAdd_ne hne, e1, e2, mE_agree hM.k h1 h10 (fun x y z => tAdd_ne (hold x y z)) h]
      exact hM.2.2.2.1 a b h
    · rw [tAdd_self, he]
      exact ⟨hD.2 p _ hp, hP p _ hp⟩
  · rcases h with h | ⟨rfl, rfl⟩ <;> rcases h' with h' | ⟨rfl, rfl⟩
    · rw [tAdd_ne (hold _ _ h), tAdd_ne (hold _ _ h')] at hq
      exact hM.2.2.2.2.1 _ _ _ _ h h' hq
    · rw [tAdd_ne (hold _ _ h), tAdd_self] at hq
      exact absurd hq (hA _ _ h p _ hp)
    · rw [tAdd_ne (hold _ _ h'), tAdd_self] at hq
      exact absurd hq.symm (hA _ _ h' p _ hp)
    · exact ⟨rfl, rfl⟩
  · intro j x hx
    obtain ⟨i, -, hi⟩ := at' j x hx
    exact hP i x hi
  · obtain ⟨i, hi1, hi2⟩ := at' j x hx
    rcases h with h | ⟨rfl, rfl⟩
    · rw [tAdd_ne (hold a b h)]
      exact hA a b h i x hi2
    · rw [tAdd_self]
      intro z
      have := hD.1 p i (q, e) x hp hi2 z
      subst this
      exact hpi (List.mem_of_getElem? hi1)
section MX
variable {p : Program} {l : Launch} {e : Env} {R : Room} {s : State} {m : MethodId} {args : Array Value} {below : List Frame} {meth : Method} {c : Code} {H : Heap} {locs : List Loc} {cells slots : Nat} {Q : State → Prop}
variable {cc : ByteArray} {pc : Nat} {ls : Array Slot} {rest : List Value} {G : mG} {τ : mTau} {μ : mMem} {ws : va_W}
theorem mx_new (hx : p.tables.exec = Jvm.exec) (hb : c.code = cc) {own C : String} {T : u_T} {N ci index : Nat} (hts : ∀ w ∈ gG, w.before args s = true) (hin : ∀ w ∈ u_ws C T N, w ∈ gG) (ty : Nat → FieldType) (hty : ∀ k, k < N → parseFieldDescriptor (T k).2.2.1 = some (ty k)) (hown : s.vm.findClass own = some m.cls) (hcl : Cond.classLink own index C ∈ gG) (hinst : Cond.instantiable C N ∈ gG) (hini : Cond.initialized C ∈ gG)
    (hT : mT G s) (hX : mx G τ μ ws H locs) (hc : vwCl[ci]? = some (C, T, N)) {fs : List Value} (hfs : ∀ j, j < N → defaultValue (ty j) = vp_V fs j) (hcells : cells + 1 ≤ R.cells) (hslots : slots + N ≤ R.slots) (hdg : decode cc pc = .ok (.new index, 3))
    (kk : ∀ (q : Nat) (H1 : Heap), mx G τ μ (ws ++ [(q, .inr (ci, fs))]) H1 locs → W p l e R s m args below meth c H1 locs (cells + 1) (slots + N) Q (F0 m (pc + 3) ls (.ref q :: rest))) : W p l e R s m args below meth c H locs cells slots Q (F0 m pc ls rest) := by
  obtain ⟨hM, hP, hD, hA⟩ := hX
  have hKn := hT.1.1 ci _ hc
  refine W.newcK hx hb hown (hts _ hcl) (hts _ hinst) (hts _ hini) rfl hdg hcells hslots hKn.2.1 rfl fun H1 kC hkC e1 z1 o1 => ?_
  have hk : ∀ (k : Nat) (x : Nat × va_E), ws[k]? = some x → H1[x.1]? = H[x.1]? := fun k x hx => o1 x.1 ((hP k x hx).lt)
  refine kk H.size H1 ⟨hM.grow (by omega) hM.2.2.1 (fun q h _ => o1 q h) (fun r i h => o1 _ (hM.lt h)), (hP.kept hk).app (fun k x hx => ?_), hD.push hP rfl hM.1, fun r i h k x hx => ?_⟩
  · have hz : k < 1 := (List.getElem?_eq_some_iff.mp hx).1
    rw [show k = 0 by omega] at hx
    cases hx
    exact ⟨_, hc, (u_born ty hts hin hKn hkC e1 hty).to hfs⟩
  · rcases List.mem_append.mp (List.mem_of_getElem? hx) with h1 | h1
    · obtain ⟨j, hj⟩ := List.getElem?_of_mem h1
      exact hA r i h j x hj
    · rw [List.mem_singleton.mp h1]
      exact Nat.ne_of_lt (hM.lt h)
theorem mx_callv {S : Type} {post : S → Prop} {B : S → State → Prop} {wc wr : va_W} {st0 : List Value} {a : Array Value} {mc ms : Nat} (hX : mx G τ μ ws H locs) (isC isR : List Nat) (hC : isC.map (fun i => ws[i]?) = wc.map some) (hR : isR.map (fun i => ws[i]?) = wr.map some) (hn : va_nd isR = true) (hdis : ∀ i ∈ isR, i ∉ isC)
    (hr : va_Run p l e R s m args below meth c H locs cells slots mc ms (F0 m pc ls st0) rest (va_Qv post B (va_A wc H.size) a) (va_A wc H.size))
    (kk : ∀ (u : S) (t : State) (H1 : Heap) (locs1 : List Loc), t.heap = H1 → post u → B u t → (∀ w1 : va_W, va_P G.1 vwCl w1 H1 → va_D (va_A wc H.size) w1 → mx G τ μ (wr ++ w1) H1 locs1) → W p l e R s m args below meth c H1 locs1 (cells + mc) (slots + ms) Q (F0 m (pc + 3) ls rest)) : W p l e R s m args below meth c H locs cells slots Q (F0 m pc ls st0) := by
  obtain ⟨hM, hP, hD, hA⟩ := hX
  intro T hT X
  obtain ⟨v, st₀, t, T', L, h0, X', hL, e1, e2, ⟨⟨u, hv, hp, hb⟩, hz, hk⟩, st⟩ := hr T hT X
  cases hv
  rw [h0] at hz hk
  have at' : ∀ (j : Nat) (x : Nat × va_E), wc[j]? = some x → ∃ i : Nat, ws[i]? = some x := by
    intro j x hx
    have h1 : (isC.map (fun i => ws[i]?))[j]? = some (some x) := by rw [hC, List.getElem?_map, hx]; rfl
    rw [List.getElem?_map] at h1
    cases hi : isC[j]? with
    | none => rw [hi] at h1; cases h1
    | some i => rw [hi] at h1; exact ⟨i, Option.some.inj h1⟩
  have hFc : ∀ q, va_A wc H.size q → G.2.2.1 ≤ q := by
    intro q hq
    rcases hq with ⟨j, e, hj⟩ | hq
    · obtain ⟨i, hi⟩ := at' j _ hj
      exact hD.2 i _ hi
    · exact Nat.le_trans hM.1 hq
  have hap : ∀ r i, τ.2 r i → ¬ va_A wc H.size (τ.1 r i) := by
    intro r i h z
    rcases z with ⟨j, e, hj⟩ | z
    · obtain ⟨i', hi⟩ := at' j _ hj
      exact hA r i h i' _ hi rfl
    · exact absurd (hM.lt h) (Nat.not_lt.mpr z)
  have hk1 : ∀ q : Nat, q < H.size → ¬ va_A wc H.size q → T'.heap[q]? = H[q]? := fun q h1 h2 => by rw [e1]; exact hk q h1 h2
  have hz1 : H.size ≤ T'.heap.size := by rw [e1]; exact hz
  have hM' : mw G τ μ T'.heap (locs ++ L) := hM.grow hz1 (fun q hq => by
    rcases List.mem_append.mp hq with h | h
    · exact hM.2.2.1 q h
    · exact hFc _ (hL q h)) (fun q h1 h2 => hk1 q h1 (fun z => absurd (hFc q z) (Nat.not_le.mpr h2))) (fun r i h => hk1 _ (hM.lt h) (hap r i h))
  obtain ⟨t2, a1, b1⟩ := kk u t T'.heap (locs ++ L) e1.symm hp hb (fun w1 g1 g2 => by
    obtain ⟨j1, j2⟩ := va_join hP hD isC isR hC hR hn hdis hk1 hFc g1 g2
    refine ⟨hM', j1, j2, fun r i h k x hx => ?_⟩
    rcases List.mem_append.mp (List.mem_of_getElem? hx) with q1 | q1
    · obtain ⟨j, hj⟩ := List.getElem?_of_mem q1
      have h1 : (isR.map (fun i => ws[i]?))[j]? = some (some x) := by rw [hR, List.getElem?_map, hj]; rfl
      rw [List.getElem?_map] at h1
      cases hi : isR[j]? with
      | none => rw [hi] at h1; cases h1
      | some i' => rw [hi] at h1; exact hA r i h i' x (Option.some.inj h1)
    · obtain ⟨j, hj⟩ := List.getElem?_of_mem q1
      intro z
      exact hap r i h (by rw [z]; exact g2.2 j x hj)) T' rfl X'
  exact ⟨t2, st t2 a1, b1⟩
end MX
/-- the end of a method that may make cells -/
def mQx (G : mG) (τ : mTau) (v : Option Value) (μ : mMem) : Array Value → State → Outcome → State → Prop := fun _ _ oc t => oc = .returned v ∧ ∃ τ', mExt τ τ' ∧ mLv τ' μ ∧ mw G τ' μ t.heap []

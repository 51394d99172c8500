theorem arr_of {s : State} {args : Array Value} {ty : FieldType} (h : (Cond.arrayClass ty).before args s = true) : ∃ cA : ClassId, ArrOfT s cA ty ∧ s.vm.findClass ("[" ++ ty.toString) = some cA := by
  obtain ⟨cA, kA, comp, hfind, hk, hkind⟩ := Cond.arrayClass_spec h
  exact ⟨cA, fun n z => ⟨fun k h => (by cases h), kA, hk, comp, hkind⟩, hfind⟩
theorem arrO_of {s : State} {args : Array Value} {C : String} (h : (Cond.arrayOver (.object C)).before args s = true) : ∃ cA : ClassId, ArrOfT s cA (.object C) ∧ va_RA s cA (.object C) := by
  obtain ⟨comp, c, k, h1, h2, h3, h4, h5⟩ := Cond.arrayOver_spec h
  exact ⟨c, fun n z => ⟨fun k h => (by cases h), k, h3, comp, h4⟩, k, comp, h3, h4, h1, h5⟩
set_option maxRecDepth 20000 in
theorem nwF_in : ∀ q ∈ nwF, Cond.fieldLinkNest q.1 q.2.1 q.2.2.1 q.2.2.2.1 q.2.2.2.2.1 q.2.2.2.2.2 ∈ lw_tbl := by decide +kernel
set_option maxRecDepth 20000 in
theorem nwM_in : ∀ q ∈ nwM, Cond.methodLinkNest q.1 q.2.1 q.2.2.1 q.2.2.2 ∈ lw_tbl := by decide +kernel
theorem tab_LIES_IN {s : State} {b : Nat} (hts : ∀ w ∈ lw_tbl, w.before #[Value.ref b] s = true) (hgv : (Jvm.Cond.and given_1 narrow_1).before #[Value.ref b] s = true) : ∃ t : Nat, va_Z R_X "LIES_IN" "[I" (.ref t) (fun q => s.heap.size ≤ q) s s.heap ∧ va_T .int t 9 (fun j => .int (tLies j)) (fun q => s.heap.size ≤ q) s s.heap := by
  have hs := flat_of_before _ hgv
  have harr : (Cond.arrayOf (.static R_X "LIES_IN" "[I") .int).before #[Value.ref b] s = true := hs _ (by decide +kernel)
  have hlen : (Term.length (.static R_X "LIES_IN" "[I")).eval #[Value.ref b] s none [] s = some (.int (Int32.ofNat 9)) := va_eqt (z := 9) (hs _ (by decide +kernel))
  have hel : ∀ j : Nat, j < 9 → (Term.elem (.static R_X "LIES_IN" "[I") (.int (Int32.ofNat j))).eval #[Value.ref b] s none [] s = some (.int (tLies j)) := by
    intro j hj
    match j, hj with
    | 0, _ => exact va_eqt (z := tLies 0) (hs _ (by decide +kernel))
    | 1, _ => exact va_eqt (z := tLies 1) (hs _ (by decide +kernel))
    | 2, _ => exact va_eqt (z := tLies 2) (hs _ (by decide +kernel))
    | 3, _ => exact va_eqt (z := tLies 3) (hs _ (by decide +kernel))
    | 4, _ => exact va_eqt (z := tLies 4) (hs _ (by decide +kernel))
    | 5, _ => exact va_eqt (z := tLies 5) (hs _ (by decide +kernel))
    | 6, _ => exact va_eqt (z := tLies 6) (hs _ (by decide +kernel))
    | 7, _ => exact va_eqt (z := tLies 7) (hs _ (by decide +kernel))
    | 8, _ => exact va_eqt (z := tLies 8) (hs _ (by decide +kernel))
    | j + 9, h => exact absurd h (by omega)
  obtain ⟨t, ht, hT⟩ := va_Tof (N := 9) (f := fun j => .int (tLies j)) (A := fun q => s.heap.size ≤ q) (by decide) harr hlen hel (fun a h => Nat.not_le.mpr h)
  exact ⟨t, va_Zof (hts (.laysStatic R_X "LIES_IN" "[I") (by decide +kernel)) (hts (.initialized R_X) (by decide +kernel)) ht (fun a h => Nat.not_le.mpr h), hT⟩
theorem tab_MOST_COLLECTED {s : State} {b : Nat} (hts : ∀ w ∈ lw_tbl, w.before #[Value.ref b] s = true) (hgv : (Jvm.Cond.and given_1 narrow_1).before #[Value.ref b] s = true) : ∃ t : Nat, va_Z R_X "MOST_COLLECTED" "[I" (.ref t) (fun q => s.heap.size ≤ q) s s.heap ∧ va_T .int t 3 (fun j => .int (tMost j)) (fun q => s.heap.size ≤ q) s s.heap := by
  have hs := flat_of_before _ hgv
  have harr : (Cond.arrayOf (.static R_X "MOST_COLLECTED" "[I") .int).before #[Value.ref b] s = true := hs _ (by decide +kernel)
  have hlen : (Term.length (.static R_X "MOST_COLLECTED" "[I")).eval #[Value.ref b] s none [] s = some (.int (Int32.ofNat 3)) := va_eqt (z := 3) (hs _ (by decide +kernel))
  have hel : ∀ j : Nat, j < 3 → (Term.elem (.static R_X "MOST_COLLECTED" "[I") (.int (Int32.ofNat j))).eval #[Value.ref b] s none [] s = some (.int (tMost j)) := by
    intro j hj
    match j, hj with
    | 0, _ => exact va_eqt (z := tMost 0) (hs _ (by decide +kernel))
    | 1, _ => exact va_eqt (z := tMost 1) (hs _ (by decide +kernel))
    | 2, _ => exact va_eqt (z := tMost 2) (hs _ (by decide +kernel))
    | j + 3, h => exact absurd h (by omega)
  obtain ⟨t, ht, hT⟩ := va_Tof (N := 3) (f := fun j => .int (tMost j)) (A := fun q => s.heap.size ≤ q) (by decide) harr hlen hel (fun a h => Nat.not_le.mpr h)
  exact ⟨t, va_Zof (hts (.laysStatic R_X "MOST_COLLECTED" "[I") (by decide +kernel)) (hts (.initialized R_X) (by decide +kernel)) ht (fun a h => Nat.not_le.mpr h), hT⟩
theorem mT_start {p : Program} {s : State} {m : MethodId} {meth : Method} {c : Code} {b L : Nat} {xs : Nat → Int32} (C0 : lw_At p s m meth c b L xs) : ∃ G : mG, (G.2.2.1 = s.heap.size ∧ G.2.2.2 = s.heap) ∧ mT G s ∧ va_AO R_T s ∧ va_AO R_P s := by
  obtain ⟨hx, hb, hr, hml, hown, hts, hX, hbl, hlocks, hgv⟩ := C0
  obtain ⟨c0, iS0, hK0⟩ := u_known (C := R_X) (T := F_X) (N := 5) (n := 5) hts i0_X (hts (.instantiable R_X 5) (by decide +kernel))
  obtain ⟨c1, iS1, hK1⟩ := u_known (C := R_B) (T := F_B) (N := 6) (n := 6) hts i0_B (hts (.instantiable R_B 6) (by decide +kernel))
  obtain ⟨c2, iS2, hK2⟩ := u_known (C := R_C) (T := F_C) (N := 2) (n := 2) hts i0_C (hts (.instantiable R_C 2) (by decide +kernel))
  obtain ⟨c3, iS3, hK3⟩ := u_known (C := R_P) (T := F_P) (N := 9) (n := 9) hts i0_P (hts (.instantiable R_P 9) (by decide +kernel))
  obtain ⟨c4, iS4, hK4⟩ := u_known (C := R_T) (T := F_T) (N := 4) (n := 4) hts i0_T (hts (.instantiable R_T 4) (by decide +kernel))
  obtain ⟨c5, iS5, hK5⟩ := u_known (C := R_O) (T := F_O) (N := 10) (n := 10) hts i0_O (hts (.instantiable R_O 10) (by decide +kernel))
  obtain ⟨c6, iS6, hK6⟩ := u_known (C := R_M) (T := F_M) (N := 30) (n := 30) hts i0_M (hts (.instantiable R_M 30) (by decide +kernel))
  obtain ⟨a0, hA0, hB0⟩ := arr_of (hts (.arrayClass .int) (by decide +kernel))
  obtain ⟨a1, hA1, hB1⟩ := arr_of (hts (.arrayClass .long) (by decide +kernel))
  obtain ⟨a2, hA2, hB2⟩ := arr_of (hts (.arrayClass .boolean) (by decide +kernel))
  have hO3 := hts (.arrayOver (.object R_T)) (by decide +kernel)
  have hO4 := hts (.arrayOver (.object R_P)) (by decide +kernel)
  obtain ⟨a3, hA3, hB3⟩ := arrO_of hO3
  obtain ⟨a4, hA4, hB4⟩ := arrO_of hO4
  refine ⟨((fun k => if k = 0 then c0 else if k = 1 then c1 else if k = 2 then c2 else if k = 3 then c3 else if k = 4 then c4 else if k = 5 then c5 else c6, fun k => if k = 0 then iS0 else if k = 1 then iS1 else if k = 2 then iS2 else if k = 3 then iS3 else if k = 4 then iS4 else if k = 5 then iS5 else iS6), (fun k => if k = 0 then a0 else if k = 1 then a1 else if k = 2 then a2 else if k = 3 then a3 else a4), s.heap.size, s.heap), ⟨rfl, rfl⟩, ⟨⟨?_, ?_⟩, ?_, ?_, tab_LIES_IN hts hgv, tab_MOST_COLLECTED hts hgv⟩, va_AO.of hO3, va_AO.of hO4⟩
  · intro k q hq
    match k, hq with
    | 0, hq => cases hq; exact hK0
    | 1, hq => cases hq; exact hK1
    | 2, hq => cases hq; exact hK2
    | 3, hq => cases hq; exact hK3
    | 4, hq => cases hq; exact hK4
    | 5, hq => cases hq; exact hK5
    | 6, hq => cases hq; exact hK6
    | k + 7, hq => simp [vwCl] at hq
  · intro k q hq
    match k, hq with
    | 0, hq => cases hq; exact ⟨hA0, hB0⟩
    | 1, hq => cases hq; exact ⟨hA1, hB1⟩
    | 2, hq => cases hq; exact ⟨hA2, hB2⟩
    | 3, hq => cases hq; exact ⟨hA3, hB3⟩
    | 4, hq => cases hq; exact ⟨hA4, hB4⟩
    | k + 5, hq => simp [mTy] at hq
  · exact fun q hq => va_Nw.of rfl (hts _ (nwF_in q hq))
  · exact fun q hq => va_Nw.of rfl (hts _ (nwM_in q hq))
/-- the memory of zeros -/
def mu0 : mMem := (fun _ _ _ => 0, fun _ _ _ => 0)
def tau0 (ad : Nat → Nat) : mTau := (fun r _ => ad r, fun r i => i = 0 ∧ r ∈ mSing)
theorem lv0 (ad : Nat → Nat) : mLv (tau0 ad) mu0 := by
  refine ⟨fun i h => h.1, fun i h => h.1, fun r i hr h => ?_, fun r i hr h => ?_⟩
  · have h2 := h.2
    rcases hr with rfl | rfl | rfl | rfl | rfl <;> exact absurd h2 (by decide)
  · have h2 := h.2
    rcases hr with rfl | rfl <;> exact absurd h2 (by decide)
theorem mK0 (ad : Nat → Nat) : mK (tau0 ad) mu0 := by
  refine ⟨fun r hr => ⟨rfl, hr⟩, fun j h => absurd rfl h, fun j h => absurd rfl h, fun i h => absurd h.2 (by decide), fun i h => absurd h.2 (by decide), fun i h => absurd h.2 (by decide)⟩
theorem z_lo {n : Int} (h : n ≤ 0) : n ≤ (0 : Int32).toInt := h
theorem z_hi {n : Int} (h : 0 ≤ n) : (0 : Int32).toInt ≤ n := h
theorem z_in {n : Nat} (h : 0 < n) : vp_in (0 : Int32) n := vp_in_iff.mpr ⟨z_lo (Int.le_refl 0), by have e0 : (0 : Int32).toInt = 0 := rfl; omega⟩
theorem RR0 : RR 0 mu0 mu0 := by
  have e0 : (0 : Int32).toInt = 0 := rfl
  refine ⟨⟨rfl, ⟨z_lo (by decide), z_hi (by decide)⟩, fun k _ => ⟨rfl, rfl, rfl⟩, fun k hk => ?_⟩, fun h => ⟨⟨rfl, rfl, rfl⟩, ⟨z_lo (by decide), z_hi (by decide)⟩, ⟨z_lo (by decide), z_hi (by decide)⟩, fun k _ => ⟨rfl, rfl, rfl, z_in (by decide)⟩⟩, fun s => ⟨rfl, ⟨z_lo (by decide), z_hi (by decide), fun _ => z_hi (by decide)⟩, fun _ => rfl⟩, ⟨fun c => ⟨⟨rfl, rfl, rfl, rfl, rfl, rfl, rfl, rfl⟩, Iff.rfl, ⟨z_lo (by decide), z_hi (by decide)⟩, ⟨z_lo (by decide), z_hi (by decide)⟩, ⟨z_lo (by decide), Or.inr rfl⟩, ⟨z_lo (by decide), fun h => absurd (show (0 : Int) < (0 : Int32).toInt from h) (by decide)⟩⟩, fun c k _ => rfl, fun c _ => ⟨rfl, fun _ => rfl⟩⟩, ⟨fun k => ⟨rfl, rfl, rfl, rfl⟩, ⟨rfl, rfl, rfl, rfl, rfl⟩, 0, Nat.le_refl 0, rfl, rfl⟩, fun h k _ hlt => ?_, fun h _ => ⟨rfl, rfl, rfl, fun k _ => ⟨rfl, rfl, rfl⟩⟩⟩
  · have : ((0 : Int32)).toInt = 0 := rfl
    have hk' : (k : Int) < (0 : Int32).toInt := hk
    omega
  · have hk' : (k : Int) < (0 : Int32).toInt := hlt
    omega
def cells0 (G : mG) (ad : Nat → Nat) : va_W := mSing.map fun r => (ad r, mE G.2.1 (fun r _ => ad r) r 0 (fun _ => 0) (fun _ => 0))
theorem mw0 {G : mG} {ad : Nat → Nat} {H : Heap} {locs : List Loc} (hP : va_P G.1 vwCl (cells0 G ad) H) (hD : va_D (fun q => G.2.2.1 ≤ q) (cells0 G ad)) (hLo : mLo G H) (hlocs : ∀ q ∈ locs, G.2.2.1 ≤ q.base) : mw G (tau0 ad) mu0 H locs := by
  refine ⟨hLo.1, hLo.2, hlocs, fun r i h => ?_, fun r i r' i' h h' he => ?_, mK0 ad⟩
  · obtain ⟨rfl, hr⟩ := h
    obtain ⟨k, hk⟩ := List.mem_iff_getElem?.mp hr
    have hk2 : (cells0 G ad)[k]? = some (ad r, mE G.2.1 (fun r _ => ad r) r 0 (fun _ => 0) (fun _ => 0)) := by
      unfold cells0
      rw [List.getElem?_map, hk]
      rfl
    exact ⟨hD.2 k _ hk2, hP k _ hk2⟩
  · obtain ⟨rfl, hr⟩ := h
    obtain ⟨rfl, hr'⟩ := h'
    obtain ⟨k, hk⟩ := List.mem_iff_getElem?.mp hr
    obtain ⟨k', hk'⟩ := List.mem_iff_getElem?.mp hr'
    have hk2 : (cells0 G ad)[k]? = some (ad r, mE G.2.1 (fun r _ => ad r) r 0 (fun _ => 0) (fun _ => 0)) := by
      unfold cells0
      rw [List.getElem?_map, hk]
      rfl
    have hk2' : (cells0 G ad)[k']? = some (ad r', mE G.2.1 (fun r _ => ad r) r' 0 (fun _ => 0) (fun _ => 0)) := by
      unfold cells0
      rw [List.getElem?_map, hk']
      rfl
    have := hD.1 k k' _ _ hk2 hk2' he
    subst this
    rw [hk] at hk'
    exact ⟨Option.some.inj hk', rfl⟩

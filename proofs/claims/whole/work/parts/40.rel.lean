/-! The class's cells (memory a) and the reference's (memory b) tell the same state. -/
def RT (a b : mMem) : Prop := b.1 20 0 1 = a.1 0 0 1 ∧ (0 ≤ (a.1 0 0 1).toInt ∧ (a.1 0 0 1).toInt ≤ 60) ∧ (∀ k : Nat, (a.1 0 0 1).toInt ≤ k → a.1 1 0 k = 0 ∧ b.1 23 0 k = 0 ∧ b.1 24 0 k = 0) ∧
  (∀ k : Nat, (k : Int) < (a.1 0 0 1).toInt → (a.1 1 0 k = 0 → b.1 22 0 k = -1) ∧ (¬ a.1 1 0 k = 0 → b.1 22 0 k = a.1 2 k 0) ∧ b.1 23 0 k = a.1 2 k 1 ∧ b.1 24 0 k = a.1 2 k 2 ∧ (0 ≤ (a.1 2 k 0).toInt ∧ (a.1 2 k 0).toInt ≤ 8) ∧ (0 ≤ (a.1 2 k 2).toInt ∧ (a.1 2 k 2).toInt ≤ k) ∧ (a.1 2 k 0 = 0 → (a.1 2 k 1).toInt = -1 ∧ (a.1 2 k 2).toInt = k) ∧ (¬ a.1 2 k 0 = 0 → 0 ≤ (a.1 2 k 1).toInt ∧ (a.1 2 k 1).toInt < k ∧ (a.1 2 k 2).toInt < k))
def RB (a b : mMem) : Prop := ∀ h : Nat, (b.1 25 0 h = a.1 3 h 0 ∧ b.1 26 0 h = a.1 3 h 1 ∧ b.1 27 0 h = a.1 3 h 2) ∧ (0 ≤ (a.1 3 h 0).toInt ∧ (a.1 3 h 0).toInt ≤ 9) ∧ (0 ≤ (a.1 3 h 2).toInt ∧ (a.1 3 h 2).toInt ≤ 6) ∧ (∀ k : Nat, k < 6 → b.1 28 0 (6 * h + k) = a.1 4 h k ∧ b.1 29 0 (6 * h + k) = a.1 5 h k ∧ b.2 30 0 (6 * h + k) = a.2 6 h k ∧ vp_in (a.1 4 h k) 12)
def hsum (f : Nat → Int32) (base : Nat) : Nat → Int64
  | 0 => 0
  | n + 1 => 31 * hsum f base n + (f (base + n)).toInt64 + 1
def RC (a b : mMem) : Prop := ∀ s : Nat, b.1 31 0 s = a.1 8 0 s ∧ (0 ≤ (a.1 8 0 s).toInt ∧ (a.1 8 0 s).toInt ≤ 30 ∧ (0 < s → (a.1 8 0 s).toInt ≤ 20)) ∧ (s < 3 → a.2 9 0 s = hsum (b.1 32 0) (30 * s) (a.1 8 0 s).toInt.toNat)
def RP (a b : mMem) : Prop := (∀ c : Nat, (b.1 34 0 c = a.1 11 c 0 ∧ b.1 35 0 c = a.1 11 c 1 ∧ b.2 40 0 c = a.2 11 c 2 ∧ b.2 41 0 c = a.2 11 c 3 ∧ b.1 36 0 c = a.1 11 c 5 ∧ b.1 37 0 c = a.1 11 c 6 ∧ b.1 38 0 c = a.1 11 c 7 ∧ b.1 39 0 c = a.1 11 c 8) ∧ (b.1 33 0 c = 0 ↔ a.1 10 0 c = 0) ∧ (-1 ≤ (a.1 11 c 1).toInt ∧ (a.1 11 c 1).toInt ≤ 2) ∧ (0 ≤ (a.1 11 c 5).toInt ∧ (a.1 11 c 5).toInt ≤ 5) ∧ (0 ≤ (a.1 11 c 6).toInt ∧ ((a.1 11 c 6).toInt < (a.1 11 c 5).toInt ∨ (a.1 11 c 6).toInt = 0)) ∧ (0 ≤ (a.1 11 c 8).toInt ∧ (0 < (a.1 11 c 8).toInt → 1 ≤ (a.1 11 c 7).toInt ∧ (a.1 11 c 7).toInt ≤ 3))) ∧ (∀ c k : Nat, k < 5 → b.2 42 0 (5 * c + k) = a.2 12 c k) ∧ (∀ c : Nat, a.1 10 0 c = 0 → a.1 11 c 7 = 0 ∧ ∀ k, a.2 12 c k = 0)
def RO (N : Nat) (a b : mMem) : Prop := (∀ k : Nat, b.1 43 0 k = a.1 14 0 k ∧ b.1 44 0 k = a.1 15 0 k ∧ b.1 45 0 k = a.1 16 0 k ∧ b.2 47 0 k = a.2 17 0 k) ∧ (b.1 46 0 0 = a.1 13 0 5 ∧ b.1 46 0 1 = a.1 13 0 6 ∧ b.1 46 0 2 = a.1 13 0 7 ∧ b.1 46 0 3 = a.1 13 0 8 ∧ b.1 46 0 4 = a.1 13 0 9) ∧ ∃ n : Nat, n ≤ N ∧ a.1 13 0 5 = nI n ∧ a.1 13 0 4 = nI (n % 40)
def RQ (a : mMem) : Prop := ∀ h k : Nat, k < 6 → (k : Int) < (a.1 3 h 2).toInt → ¬ a.1 10 0 (a.1 4 h k).toNatClampNeg = 0
def RZ (a : mMem) : Prop := ∀ h : Nat, (a.1 0 0 1).toInt ≤ h → a.1 3 h 0 = 0 ∧ a.1 3 h 1 = 0 ∧ a.1 3 h 2 = 0 ∧ ∀ k, k < 6 → a.1 4 h k = 0 ∧ a.1 5 h k = 0 ∧ a.2 6 h k = 0
def RR (N : Nat) (a b : mMem) : Prop := RT a b ∧ RB a b ∧ RC a b ∧ RP a b ∧ RO N a b ∧ RQ a ∧ RZ a
theorem RR_thr {N : Nat} {a b : mMem} (h : RR N a b) : RR N a (sI b 20 0 0 0) := h
theorem RO_mono {N M : Nat} {a b : mMem} (h : RO N a b) (hNM : N ≤ M) : RO M a b := by
  obtain ⟨h1, h2, n, h3, h4⟩ := h
  exact ⟨h1, h2, n, Nat.le_trans h3 hNM, h4⟩
theorem RR_mono {N M : Nat} {a b : mMem} (h : RR N a b) (hNM : N ≤ M) : RR M a b := ⟨h.1, h.2.1, h.2.2.1, h.2.2.2.1, RO_mono h.2.2.2.2.1 hNM, h.2.2.2.2.2⟩
theorem cl_of {x : Int32} (h : 0 ≤ x.toInt) : (x.toNatClampNeg : Int) = x.toInt := Int.toNat_of_nonneg h
theorem iX_of {N : Nat} {a b : mMem} (h : RR N a b) : iX a := by
  obtain ⟨hT, hB, hC, hP, hO, -⟩ := h
  obtain ⟨n, -, -, hf⟩ := hO.2.2
  refine ⟨hT.2.1, ?_, fun c => (hP.1 c).2.2.2.1, fun c => (hP.1 c).2.2.2.2.1.1, fun h => (hB h).2.2.1⟩
  rw [hf]
  exact vp_in_nI (Nat.mod_lt _ (by decide)) (by decide)
theorem iM_of {N : Nat} {a b : mMem} (h : RR N a b) : iM b := by
  obtain ⟨hT, hB, hC, hP, hO, -⟩ := h
  refine ⟨?_, fun k => ?_, fun k => ?_, fun k => ?_, fun c => ?_, fun c => ?_, fun c => ?_, fun h => ?_, fun k => ?_⟩
  · rw [hT.1]; exact hT.2.1
  · rcases Int.lt_or_le (k : Int) (a.1 0 0 1).toInt with q | q
    · have := hT.2.2.2 k q
      rw [this.2.2.2.1, vp_in_iff]
      have := hT.2.1
      omega
    · rw [(hT.2.2.1 k q).2.2, vp_in_iff]; decide
  · rcases Int.lt_or_le (k : Int) (a.1 0 0 1).toInt with q | q
    · have h1 := hT.2.2.2 k q
      rw [h1.2.2.1]
      have h2 := hT.2.1
      by_cases z : a.1 2 k 0 = 0
      · have := h1.2.2.2.2.2.2.1 z
        omega
      · have := h1.2.2.2.2.2.2.2 z
        omega
    · rw [(hT.2.2.1 k q).2.1]; decide
  · rw [(hC k).1]; exact (hC k).2.1
  · rw [(hP.1 c).1.2.1]; exact (hP.1 c).2.2.1
  · rw [(hP.1 c).1.2.2.2.2.1]; exact (hP.1 c).2.2.2.1
  · rw [(hP.1 c).1.2.2.2.2.1, (hP.1 c).1.2.2.2.2.2.1]; exact (hP.1 c).2.2.2.2.1
  · rw [(hB h).1.2.2]; exact (hB h).2.2.1
  · have := (hB (k / 6)).2.2.2 (k % 6) (Nat.mod_lt _ (by decide))
    rw [Nat.div_add_mod] at this
    rw [this.1]
    exact this.2.2.2
theorem cnt_of {N : Nat} {a b : mMem} (h : RR N a b) (hN : N ≤ 1000000) : 0 ≤ (b.1 46 0 0).toInt ∧ (b.1 46 0 0).toInt ≤ 1000000 := by
  obtain ⟨n, h1, h2, -⟩ := h.2.2.2.2.1.2.2
  rw [h.2.2.2.2.1.2.1.1, h2, nI_toInt (by omega)]
  omega
theorem thing_eq {a b : mMem} (h : RT a b) (n : Int32) : (f_X_thingAt a n = none ∧ f_M_isThing b n = 0) ∨ (0 ≤ n.toInt ∧ n.toInt < (a.1 0 0 1).toInt ∧ ¬ a.1 1 0 n.toNatClampNeg = 0 ∧ f_X_thingAt a n = some n.toNatClampNeg ∧ f_M_isThing b n = 1) := by
  unfold f_X_thingAt f_M_isThing
  by_cases h0 : n < 0
  · exact Or.inl ⟨if_pos h0, if_pos h0⟩
  · rw [if_neg h0, if_neg h0, h.1]
    have e0 : (0 : Int32).toInt = 0 := rfl
    have e60 : (60 : Int32).toInt = 60 := rfl
    have g0 := nlt h0
    have hc := cl_of (x := n) (by omega)
    have hm := h.2.1
    by_cases h1 : a.1 0 0 1 ≤ n
    · rw [if_pos h1]
      have g1 := yle h1
      have hz := (h.2.2.1 n.toNatClampNeg (by omega)).1
      refine Or.inl ⟨?_, rfl⟩
      split
      · rfl
      · first | rfl | exact if_pos hz
    · rw [if_neg h1]
      have g1 := nle h1
      have h2 : ¬ (60 : Int32) ≤ n := fun q => by have := yle q; omega
      rw [if_neg h2]
      have hk := h.2.2.2 n.toNatClampNeg (by omega)
      by_cases hz : a.1 1 0 n.toNatClampNeg = 0
      · exact Or.inl ⟨if_pos hz, if_pos (hk.1 hz)⟩
      · rw [if_neg hz, if_neg]
        · exact Or.inr ⟨by omega, by omega, hz, rfl, rfl⟩
        · rw [hk.2.1 hz]
          intro q
          have := hk.2.2.2.2.1
          rw [q] at this
          exact absurd this.1 (by decide)
theorem house_eq {a b : mMem} (h : RT a b) (n : Int32) : (f_X_houseAt a n = none ∧ f_M_isHouse b n = 0) ∨ (0 ≤ n.toInt ∧ n.toInt < (a.1 0 0 1).toInt ∧ ¬ a.1 1 0 n.toNatClampNeg = 0 ∧ f_X_houseAt a n = some n.toNatClampNeg ∧ f_M_isHouse b n = 1 ∧ a.1 2 n.toNatClampNeg 0 = 0 ∧ a.1 2 n.toNatClampNeg 2 = n) := by
  unfold f_X_houseAt f_M_isHouse
  rcases thing_eq h n with ⟨e1, e2⟩ | ⟨h0, h1, hz, e1, e2⟩
  · rw [e1, e2]
    exact Or.inl ⟨rfl, rfl⟩
  · rw [e1, e2, if_neg (by decide)]
    have hc := cl_of h0
    have hk := h.2.2.2 n.toNatClampNeg (by omega)
    rw [hk.2.1 hz]
    by_cases q : a.1 2 n.toNatClampNeg 0 = 0
    · refine Or.inr ⟨h0, h1, hz, if_pos q, if_pos q, q, ?_⟩
      exact Int32.toInt_inj.mp (by rw [(hk.2.2.2.2.2.2.1 q).2]; exact hc)
    · exact Or.inl ⟨if_neg q, if_neg q⟩
theorem isOn_eq {a b : mMem} (h : RB a b) (k : Nat) : (f_B_isOn a k = 0 ∧ b.1 25 0 k ≤ 0 ∧ a.1 3 k 0 = 0) ∨ (f_B_isOn a k = 1 ∧ ¬ b.1 25 0 k ≤ 0 ∧ 0 < (a.1 3 k 0).toInt) := by
  unfold f_B_isOn
  have hk := h k
  rw [hk.1.1]
  have e0 : (0 : Int32).toInt = 0 := rfl
  by_cases q : a.1 3 k 0 ≤ 0
  · have := yle q
    exact Or.inl ⟨if_pos q, q, Int32.toInt_inj.mp (by omega)⟩
  · have := nle q
    exact Or.inr ⟨if_neg q, q, by omega⟩
/-- numbers -/
theorem numbers_l {a b : mMem} (h : RT a b) {k : Int32} (hk : 0 ≤ k.toInt) : ∀ (n : Nat) (x2 x3 : Int32), 0 ≤ x3.toInt → f_M_numbers_l21 n k x2 x3 b = (f_X_numbers_l13 n k x2 x3 a, b) := by
  intro n
  induction n with
  | zero => intro x2 x3 _; rfl
  | succ n ih =>
    intro x2 x3 hp
    unfold f_M_numbers_l21 f_X_numbers_l13
    rw [h.1]
    by_cases c : a.1 0 0 1 ≤ x3
    · rw [if_pos c, if_pos c]
    · rw [if_neg c, if_neg c]
      have hc := cl_of hp
      have g := nle c
      have hj := h.2.2.2 x3.toNatClampNeg (by omega)
      have hp' := inc_pos hp c
      rw [Int32.add_zero]
      by_cases z : a.1 1 0 x3.toNatClampNeg = 0
      · rw [if_pos z, hj.1 z, if_neg]
        · exact ih _ _ hp'
        · intro q
          rw [← q] at hk
          exact absurd hk (by decide)
      · rw [if_neg z, hj.2.1 z]
        by_cases q : a.1 2 x3.toNatClampNeg 0 = k
        · rw [if_pos q, if_pos q]; exact ih _ _ hp'
        · rw [if_neg q, if_neg q]; exact ih _ _ hp'
theorem z_numbers {N : Nat} {a b : mMem} (h : RR N a b) (n : Int32) : f_X_numbers a n = (f_M_numbers b n).1 ∧ RR N a (f_M_numbers b n).2 := by
  unfold f_X_numbers f_M_numbers f_X_isKind
  have e8 : (8 : Int32).toInt = 8 := rfl
  have e9 : (9 : Int32).toInt = 9 := rfl
  have e0 : (0 : Int32).toInt = 0 := rfl
  dsimp only
  by_cases c : n < 0
  · rw [if_pos c, if_pos c]
    exact ⟨rfl, RR_thr h⟩
  · rw [if_neg c, if_neg c]
    have g := nlt c
    by_cases d : n ≤ 8
    · have := yle d
      rw [if_pos d, if_neg (fun q : (9 : Int32) ≤ n => by have := yle q; omega), numbers_l (b := sI b 20 0 0 0) (RR_thr h).1 (by omega) 64 0 0 (by decide)]
      exact ⟨rfl, RR_thr h⟩
    · have := nle d
      rw [if_neg d, if_pos (show (9 : Int32) ≤ n from Int32.le_iff_toInt_le.mpr (by omega))]
      exact ⟨rfl, RR_thr h⟩

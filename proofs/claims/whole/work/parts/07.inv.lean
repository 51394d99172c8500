/-! What the indices need: ranges of the class's cells (iX) and of the reference's (iM). -/
theorem nle {a x : Int32} (h : ¬ a ≤ x) : x.toInt < a.toInt := by
  rw [Int32.le_iff_toInt_le] at h
  omega
theorem nlt {a x : Int32} (h : ¬ x < a) : a.toInt ≤ x.toInt := by
  rw [Int32.lt_iff_toInt_lt] at h
  omega
theorem yle {a x : Int32} (h : a ≤ x) : a.toInt ≤ x.toInt := Int32.le_iff_toInt_le.mp h
theorem ylt {a x : Int32} (h : a < x) : a.toInt < x.toInt := Int32.lt_iff_toInt_lt.mp h
theorem pos_lt {x : Int32} (h : 0 ≤ x.toInt) : ¬ x < 0 := fun q => by
  have h1 := ylt q
  have h2 : (0 : Int32).toInt = 0 := rfl
  omega
theorem sm_add {x y : Int32} (h1 : -1000000000 ≤ x.toInt + y.toInt) (h2 : x.toInt + y.toInt ≤ 1000000000) : (x + y).toInt = x.toInt + y.toInt := by
  rw [Int32.toInt_add]
  simp only [Int.bmod]
  split <;> omega
theorem sm_sub {x y : Int32} (h1 : -1000000000 ≤ x.toInt - y.toInt) (h2 : x.toInt - y.toInt ≤ 1000000000) : (x - y).toInt = x.toInt - y.toInt := by
  rw [Int32.toInt_sub]
  simp only [Int.bmod]
  split <;> omega
theorem sm_mul {x y : Int32} (h1 : -1000000000 ≤ x.toInt * y.toInt) (h2 : x.toInt * y.toInt ≤ 1000000000) : (x * y).toInt = x.toInt * y.toInt := by
  rw [Int32.toInt_mul]
  generalize x.toInt * y.toInt = z at h1 h2
  simp only [Int.bmod]
  split <;> omega
theorem inc_toInt {x b : Int32} (h : ¬ b ≤ x) : (x + 1).toInt = x.toInt + 1 := by
  have h1 := nle h
  have h2 := b.toInt_lt
  have h3 := x.le_toInt
  have h4 : (1 : Int32).toInt = 1 := rfl
  rw [Int32.toInt_add, h4]
  simp only [Int.bmod]
  split <;> omega
theorem inc_pos {x b : Int32} (hp : 0 ≤ x.toInt) (c : ¬ b ≤ x) : 0 ≤ (x + 1).toInt := by
  rw [inc_toInt c]
  omega
theorem inc_le {a : Int} {x b : Int32} (hp : a ≤ x.toInt) (c : ¬ b ≤ x) : a ≤ (x + 1).toInt := by
  rw [inc_toInt c]
  omega
theorem inc_lt {x b : Int32} {n : Nat} (c : ¬ b ≤ x) (hn : (b.toInt - x.toInt).toNat < n + 1) : (b.toInt - (x + 1).toInt).toNat < n := by
  rw [inc_toInt c]
  have := nle c
  omega
theorem inc_ltk {x b : Int32} {K : Int} {n : Nat} (hb : b.toInt = K) (c : ¬ b ≤ x) (hn : (K - x.toInt).toNat < n + 1) : (K - (x + 1).toInt).toNat < n := by
  subst hb
  exact inc_lt c hn
theorem inc_pos1 {x : Int32} (h : vp_in x 60) : 0 ≤ (x + 1).toInt := by
  rw [vp_in_iff] at h
  have h4 : (1 : Int32).toInt = 1 := rfl
  rw [sm_add] <;> omega
theorem sw_ne {x k : Int32} (n : Int) (hk : k.toInt = n) (h : ¬ x = k) : x.toInt ≠ n := by
  intro q
  exact h (Int32.toInt_inj.mp (q.trans hk.symm))
-- the class
def iX (μ : mMem) : Prop := (0 ≤ (μ.1 0 0 1).toInt ∧ (μ.1 0 0 1).toInt ≤ 60) ∧ vp_in (μ.1 13 0 4) 40 ∧ (∀ c, 0 ≤ (μ.1 11 c 5).toInt ∧ (μ.1 11 c 5).toInt ≤ 5) ∧ (∀ c, 0 ≤ (μ.1 11 c 6).toInt) ∧ (∀ h, 0 ≤ (μ.1 3 h 2).toInt ∧ (μ.1 3 h 2).toInt ≤ 6)
def okX (r k : Nat) : Bool := match r with
  | 0 => k != 1
  | 3 => k != 2
  | 11 => k != 5 && k != 6
  | 13 => k != 4
  | _ => true
theorem sI_ne {μ : mMem} {r i k : Nat} {x : Int32} {a b c : Nat} (h : ¬ (a = r ∧ c = k)) : (sI μ r i k x).1 a b c = μ.1 a b c := by
  simp only [sI]
  rw [if_neg]
  exact fun q => h ⟨q.1, q.2.2⟩
theorem iX_I {μ : mMem} {r i k : Nat} {x : Int32} (h : iX μ) (hr : okX r k = true) : iX (sI μ r i k x) := by
  have e1 : ∀ b, (sI μ r i k x).1 0 b 1 = μ.1 0 b 1 := fun b => sI_ne (by rintro ⟨rfl, rfl⟩; simp [okX] at hr)
  have e2 : ∀ b, (sI μ r i k x).1 13 b 4 = μ.1 13 b 4 := fun b => sI_ne (by rintro ⟨rfl, rfl⟩; simp [okX] at hr)
  have e3 : ∀ b, (sI μ r i k x).1 11 b 5 = μ.1 11 b 5 := fun b => sI_ne (by rintro ⟨rfl, rfl⟩; simp [okX] at hr)
  have e4 : ∀ b, (sI μ r i k x).1 11 b 6 = μ.1 11 b 6 := fun b => sI_ne (by rintro ⟨rfl, rfl⟩; simp [okX] at hr)
  have e5 : ∀ b, (sI μ r i k x).1 3 b 2 = μ.1 3 b 2 := fun b => sI_ne (by rintro ⟨rfl, rfl⟩; simp [okX] at hr)
  unfold iX at h ⊢
  simp only [e1, e2, e3, e4, e5]
  exact h
theorem iX_L {μ : mMem} {r i k : Nat} {x : Int64} (h : iX μ) (_ : true = true) : iX (sL μ r i k x) := h
theorem in_made {μ : mMem} {x : Int32} (hI : iX μ) (hp : 0 ≤ x.toInt) (c : ¬ μ.1 0 0 1 ≤ x) : vp_in x 60 := by
  rw [vp_in_iff]
  have h1 := nle c
  have h2 := hI.1
  omega
theorem fuel_made {μ : mMem} {x : Int32} (hI : iX μ) (hp : 0 ≤ x.toInt) : ((μ.1 0 0 1).toInt - x.toInt).toNat < 64 := by
  have h2 := hI.1
  omega
theorem thingAt_in {μ : mMem} {n : Int32} {i : Nat} (h : f_X_thingAt μ n = some i) : vp_in n 60 ∧ i = n.toNatClampNeg ∧ ¬ μ.1 1 0 i = 0 := by
  unfold f_X_thingAt at h
  split at h
  · cases h
  · split at h
    · cases h
    · split at h
      · cases h
      · rename_i c1 c2 c3
        cases h
        exact ⟨vin 60 (b := 60) (by decide) c1 c2, rfl, c3⟩
theorem houseAt_in {μ : mMem} {n : Int32} {i : Nat} (h : f_X_houseAt μ n = some i) : vp_in n 60 := by
  unfold f_X_houseAt at h
  cases hq : f_X_thingAt μ n with
  | none => rw [hq] at h; simp [oC] at h
  | some j => exact (thingAt_in hq).1
theorem sort_in {μ : mMem} {a : Int32} (c : ¬ f_X_isSort μ a = 0) : vp_in a 3 := by
  unfold f_X_isSort at c
  split at c
  · exact absurd rfl c
  · split at c
    · exact absurd rfl c
    · rename_i h1 h2
      exact vin 3 (b := 3) (by decide) h1 h2
theorem in_ans {μ : mMem} {i : Nat} (hI : iX μ) (c : ¬ (5 : Int32) ≤ μ.1 11 i 5) : vp_in (μ.1 11 i 5) 5 := vin 5 (b := 5) (by decide) (pos_lt (hI.2.2.1 i).1) c
theorem in_next {μ : mMem} {i : Nat} (hI : iX μ) (c : μ.1 11 i 6 < μ.1 11 i 5) : vp_in (μ.1 11 i 6) 5 := by
  rw [vp_in_iff]
  have h1 := ylt c
  have h2 := hI.2.2.1 i
  have h3 := hI.2.2.2.1 i
  omega
theorem in_wait {μ : mMem} {i : Nat} (hI : iX μ) (c : f_B_isFull μ i = 0) : vp_in (μ.1 3 i 2) 6 := by
  unfold f_B_isFull at c
  split at c
  · rename_i h
    rw [vp_in_iff]
    have h1 := ylt h
    have h2 := hI.2.2.2.2 i
    have h3 : (6 : Int32).toInt = 6 := rfl
    omega
  · exact absurd c (by decide)
theorem spot_in {μ : mMem} {a : Int32} (hI : iX μ) (c : ¬ f_O_spotOf μ a = -1) : vp_in (f_O_spotOf μ a) 40 := by
  unfold f_O_spotOf at c ⊢
  have h2 := hI.2.1
  rw [vp_in_iff] at h2
  have e1 : (1 : Int32).toInt = 1 := rfl
  have e0 : (0 : Int32).toInt = 0 := rfl
  have e40 : (40 : Int32).toInt = 40 := rfl
  split
  · rename_i h; rw [if_pos h] at c; exact absurd rfl c
  · split
    · rename_i h h'; rw [if_neg h, if_pos h'] at c; exact absurd rfl c
    · rename_i ha hb
      have ha := nlt ha
      have hb := nle hb
      split
      · have s1 : (μ.1 13 0 4 - 1).toInt = (μ.1 13 0 4).toInt - 1 := by rw [sm_sub] <;> omega
        have s2 : (μ.1 13 0 4 - 1 - a).toInt = (μ.1 13 0 4).toInt - 1 - a.toInt := by rw [sm_sub] <;> omega
        split
        · rename_i h
          have h := yle h
          rw [vp_in_iff]
          omega
        · rename_i h
          have h := nle h
          have s3 : (μ.1 13 0 4 - 1 - a + 40).toInt = (μ.1 13 0 4).toInt - 1 - a.toInt + 40 := by rw [sm_add] <;> omega
          rw [vp_in_iff]
          omega
      · rename_i h; rw [if_neg ‹_›, if_neg ‹_›, if_neg h] at c; exact absurd rfl c
theorem sI_r {μ : mMem} {r i k : Nat} {x : Int32} {a : Nat} (h : a ≠ r) : (sI μ r i k x).1 a = μ.1 a := by
  funext b c
  exact sI_ne (fun q => h q.1)
theorem iX_next {μ : mMem} {i : Nat} {x : Int32} (h : iX μ) (hx : 0 ≤ x.toInt) : iX (sI μ 11 i 6 x) := by
  refine ⟨h.1, h.2.1, fun c => ?_, fun c => ?_, h.2.2.2.2⟩
  · rw [sI_ne (by simp)]; exact h.2.2.1 c
  · rw [sI_1]; split
    · exact hx
    · exact h.2.2.2.1 c
theorem iX_wait {μ : mMem} {i : Nat} {x : Int32} (h : iX μ) (hx : 0 ≤ x.toInt ∧ x.toInt ≤ 6) : iX (sI μ 3 i 2 x) := by
  refine ⟨h.1, h.2.1, h.2.2.1, h.2.2.2.1, fun c => ?_⟩
  rw [sI_1]; split
  · exact hx
  · exact h.2.2.2.2 c
theorem iX_free {μ : mMem} {x : Int32} (h : iX μ) (hx : vp_in x 40) : iX (sI μ 13 0 4 x) := by
  refine ⟨h.1, ?_, h.2.2⟩
  rw [sI_1, if_pos ⟨rfl, rfl, rfl⟩]
  exact hx
theorem iX_P_outcome {μ : mMem} {i : Nat} (h : iX μ) : iX (f_P_outcome μ i).2 := by
  unfold f_P_outcome
  split
  · exact iX_I h rfl
  · exact h
theorem iX_P_reply {μ : mMem} {i : Nat} {w : Int64} (h : iX μ) : iX (f_P_reply μ i w).2 := by
  unfold f_P_reply
  split
  · rename_i c
    split
    · exact iX_next h (by decide)
    · refine iX_next h ?_
      have h2 := vp_in_iff.mp (in_next h c)
      have h3 := h.2.2.2.1 i
      have h4 : (1 : Int32).toInt = 1 := rfl
      rw [sm_add] <;> omega
  · exact h
theorem iX_C_empty {μ : mMem} {a : Int32} (h : iX μ) : iX (f_C_empty μ a) := by
  unfold f_C_empty
  split
  · exact h
  · exact iX_I (iX_L h rfl) rfl
theorem iX_B_nextTurn {μ : mMem} {i : Nat} (h : iX μ) : iX (f_B_nextTurn μ i).2 := by
  unfold f_B_nextTurn
  exact iX_I (iX_I h rfl) rfl
theorem iX_B_queue {μ : mMem} {i : Nat} {a b : Int32} {w : Int64} (h : iX μ) : iX (f_B_queue μ i a b w) := by
  unfold f_B_queue
  split
  · rename_i c
    have hw := vp_in_iff.mp (in_wait h c)
    refine iX_wait (iX_L (iX_I (iX_I h rfl) rfl) rfl) ?_
    have h4 : (1 : Int32).toInt = 1 := rfl
    have e : (sL (sI (sI μ 4 i (μ.1 3 i 2).toNatClampNeg a) 5 i ((sI μ 4 i (μ.1 3 i 2).toNatClampNeg a).1 3 i 2).toNatClampNeg b) 6 i ((sI (sI μ 4 i (μ.1 3 i 2).toNatClampNeg a) 5 i ((sI μ 4 i (μ.1 3 i 2).toNatClampNeg a).1 3 i 2).toNatClampNeg b).1 3 i 2).toNatClampNeg w).1 3 i 2 = μ.1 3 i 2 := rfl
    rw [e, sm_add] <;> omega
  · exact h
theorem iX_O_addToCounts {μ : mMem} {a : Int32} (h : iX μ) : iX (f_O_addToCounts μ a) := by
  unfold f_O_addToCounts
  split
  · exact iX_I h rfl
  · split
    · exact iX_I h rfl
    · split
      · exact iX_I h rfl
      · exact iX_I h rfl
theorem iX_O_add {μ : mMem} {a b d : Int32} {w : Int64} (h : iX μ) : iX (f_O_add μ a b d w) := by
  unfold f_O_add
  have h2 := vp_in_iff.mp h.2.1
  have e1 : (1 : Int32).toInt = 1 := rfl
  have e40 : (40 : Int32).toInt = 40 := rfl
  dsimp only
  split
  · exact iX_O_addToCounts (iX_I (iX_free (iX_L (iX_I (iX_I (iX_I h rfl) rfl) rfl) rfl) (vp_in_iff.mpr (by decide))) rfl)
  · rename_i c
    refine iX_O_addToCounts (iX_I (iX_free (iX_L (iX_I (iX_I (iX_I h rfl) rfl) rfl) rfl) ?_) rfl)
    have c : ¬ (40 : Int32) ≤ μ.1 13 0 4 + 1 := c
    show vp_in (μ.1 13 0 4 + 1) 40
    have c := nle c
    have s1 : (μ.1 13 0 4 + 1).toInt = (μ.1 13 0 4).toInt + 1 := by rw [sm_add] <;> omega
    rw [vp_in_iff]
    omega
theorem iX_X_tell {μ : mMem} {a b d : Int32} {w : Int64} (h : iX μ) : iX (f_X_tell μ a b d w).2 := iX_O_add h
theorem iX_X_goes {μ : mMem} {a b : Int32} {w : Int64} (h : iX μ) : iX (f_X_goes μ a b w).2 := by
  unfold f_X_goes
  cases hq : f_X_partAt μ a with
  | none => exact h
  | some i =>
    simp only [oC]
    split
    · exact iX_X_tell (iX_P_reply (iX_P_outcome h))
    · exact iX_X_tell (iX_P_outcome h)
/-- which rows a call may change -/
theorem outcome_r {μ : mMem} {i r : Nat} (h : r ≠ 11) : (f_P_outcome μ i).2.1 r = μ.1 r := by
  unfold f_P_outcome
  split
  · exact sI_r h
  · rfl
theorem reply_r {μ : mMem} {i r : Nat} {w : Int64} (h : r ≠ 11) : (f_P_reply μ i w).2.1 r = μ.1 r := by
  unfold f_P_reply
  split
  · split
    · exact sI_r h
    · exact sI_r h
  · rfl
theorem counts_r {μ : mMem} {a : Int32} {r : Nat} (h : r ≠ 13) : (f_O_addToCounts μ a).1 r = μ.1 r := by
  unfold f_O_addToCounts
  split
  · exact sI_r h
  · split
    · exact sI_r h
    · split
      · exact sI_r h
      · exact sI_r h
theorem add_r {μ : mMem} {a b d : Int32} {w : Int64} {r : Nat} (h1 : r ≠ 13) (h2 : r ≠ 14) (h3 : r ≠ 15) (h4 : r ≠ 16) : (f_O_add μ a b d w).1 r = μ.1 r := by
  unfold f_O_add
  dsimp only
  split
  · rw [counts_r h1, sI_r h1, sI_r h1, sL_1, sI_r h4, sI_r h3, sI_r h2]
  · rw [counts_r h1, sI_r h1, sI_r h1, sL_1, sI_r h4, sI_r h3, sI_r h2]
theorem goes_r {μ : mMem} {a b : Int32} {w : Int64} {r : Nat} (h0 : r ≠ 11) (h1 : r ≠ 13) (h2 : r ≠ 14) (h3 : r ≠ 15) (h4 : r ≠ 16) : (f_X_goes μ a b w).2.1 r = μ.1 r := by
  unfold f_X_goes
  cases hq : f_X_partAt μ a with
  | none => rfl
  | some i =>
    simp only [oC]
    split
    · show (f_O_add _ _ _ _ _).1 r = _
      rw [add_r h1 h2 h3 h4, reply_r h0, outcome_r h0]
    · show (f_O_add _ _ _ _ _).1 r = _
      rw [add_r h1 h2 h3 h4, outcome_r h0]
theorem goes_made {μ : mMem} {a b : Int32} {w : Int64} : (f_X_goes μ a b w).2.1 0 = μ.1 0 := goes_r (by decide) (by decide) (by decide) (by decide) (by decide)
theorem call_in {μ : mMem} {a : Int32} (c : ¬ f_X_isCall μ a = 0) : vp_in a 12 := by
  unfold f_X_isCall at c
  split at c
  · exact absurd rfl c
  · split at c
    · exact absurd rfl c
    · rename_i h1 h2
      exact vin 12 (b := 12) (by decide) h1 h2
theorem kind_in {μ : mMem} {a : Int32} (c : ¬ f_X_isKind μ a = 0) : vp_in a 9 := by
  unfold f_X_isKind at c
  split at c
  · exact absurd rfl c
  · split at c
    · exact absurd rfl c
    · rename_i h1 h2
      exact vin 9 (b := 9) (by decide) h1 h2
theorem lk_out {x : Int} (h0 : x ≠ 0) (h1 : x ≠ 1) {d a b : Int} : Op.lookupswitch.offset [(0, a), (1, b)] d x = d := by
  simp [Op.lookupswitch.offset, Ne.symm h0, Ne.symm h1, h0, h1]

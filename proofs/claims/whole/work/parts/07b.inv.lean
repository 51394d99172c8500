-- the reference
def iM (μ : mMem) : Prop := (0 ≤ (μ.1 20 0 1).toInt ∧ (μ.1 20 0 1).toInt ≤ 60) ∧ (∀ k, vp_in (μ.1 24 0 k) 60) ∧ (∀ k, -1 ≤ (μ.1 23 0 k).toInt ∧ (μ.1 23 0 k).toInt < 60) ∧ (∀ k, 0 ≤ (μ.1 31 0 k).toInt ∧ (μ.1 31 0 k).toInt ≤ 30 ∧ (0 < k → (μ.1 31 0 k).toInt ≤ 20)) ∧ (∀ k, -1 ≤ (μ.1 35 0 k).toInt ∧ (μ.1 35 0 k).toInt ≤ 2) ∧ (∀ k, 0 ≤ (μ.1 36 0 k).toInt ∧ (μ.1 36 0 k).toInt ≤ 5) ∧ (∀ k, 0 ≤ (μ.1 37 0 k).toInt ∧ ((μ.1 37 0 k).toInt < (μ.1 36 0 k).toInt ∨ (μ.1 37 0 k).toInt = 0)) ∧ (∀ k, 0 ≤ (μ.1 27 0 k).toInt ∧ (μ.1 27 0 k).toInt ≤ 6) ∧ (∀ k, vp_in (μ.1 28 0 k) 12)
def okM (r k : Nat) : Bool := match r with
  | 20 => k != 1
  | 23 => false
  | 24 => false
  | 27 => false
  | 28 => false
  | 31 => false
  | 35 => false
  | 36 => false
  | 37 => false
  | _ => true
theorem iM_I {μ : mMem} {r i k : Nat} {x : Int32} (h : iM μ) (hr : okM r k = true) : iM (sI μ r i k x) := by
  have e1 : ∀ b, (sI μ r i k x).1 20 b 1 = μ.1 20 b 1 := fun b => sI_ne (by rintro ⟨rfl, rfl⟩; simp [okM] at hr)
  have e2 : (sI μ r i k x).1 23 = μ.1 23 := sI_r (by rintro rfl; simp [okM] at hr)
  have e3 : (sI μ r i k x).1 24 = μ.1 24 := sI_r (by rintro rfl; simp [okM] at hr)
  have e4 : (sI μ r i k x).1 27 = μ.1 27 := sI_r (by rintro rfl; simp [okM] at hr)
  have e5 : (sI μ r i k x).1 28 = μ.1 28 := sI_r (by rintro rfl; simp [okM] at hr)
  have e6 : (sI μ r i k x).1 31 = μ.1 31 := sI_r (by rintro rfl; simp [okM] at hr)
  have e7 : (sI μ r i k x).1 35 = μ.1 35 := sI_r (by rintro rfl; simp [okM] at hr)
  have e8 : (sI μ r i k x).1 36 = μ.1 36 := sI_r (by rintro rfl; simp [okM] at hr)
  have e9 : (sI μ r i k x).1 37 = μ.1 37 := sI_r (by rintro rfl; simp [okM] at hr)
  unfold iM at h ⊢
  simp only [e1, e2, e3, e4, e5, e6, e7, e8, e9]
  exact h
theorem iM_L {μ : mMem} {r i k : Nat} {x : Int64} (h : iM μ) (_ : true = true) : iM (sL μ r i k x) := h
theorem in_madeM {μ : mMem} {x : Int32} (hJ : iM μ) (h0 : ¬ x < 0) (c : ¬ μ.1 20 0 1 ≤ x) : vp_in x 60 := by
  rw [vp_in_iff]
  have h1 := nle c
  have h2 := hJ.1
  have h3 := nlt h0
  have h4 : (0 : Int32).toInt = 0 := rfl
  omega
theorem fuel_madeM {μ : mMem} {x : Int32} (hJ : iM μ) (hp : 0 ≤ x.toInt) : ((μ.1 20 0 1).toInt - x.toInt).toNat < 64 := by
  have h2 := hJ.1
  omega
theorem mt_in {μ : mMem} {n : Int32} (hJ : iM μ) (c : ¬ f_M_isThing μ n = 0) : vp_in n 60 := by
  unfold f_M_isThing at c
  split at c
  · exact absurd rfl c
  · split at c
    · exact absurd rfl c
    · rename_i h1 h2
      exact in_madeM hJ h1 h2
theorem mh_in {μ : mMem} {n : Int32} (hJ : iM μ) (c : ¬ f_M_isHouse μ n = 0) : vp_in n 60 := by
  unfold f_M_isHouse at c
  split at c
  · exact absurd rfl c
  · rename_i h
    exact mt_in hJ h
theorem mk_in {μ : mMem} (hJ : iM μ) (c : ¬ μ.1 20 0 1 = 60) : vp_in (μ.1 20 0 1) 60 := by
  rw [vp_in_iff]
  have h2 := hJ.1
  have h3 := sw_ne 60 (by decide) c
  omega
theorem in_inM {μ : mMem} {k : Nat} (hJ : iM μ) (c : ¬ μ.1 23 0 k = -1) : vp_in (μ.1 23 0 k) 60 := by
  rw [vp_in_iff]
  have h2 := hJ.2.2.1 k
  have h3 := sw_ne (-1) (by decide) c
  omega
theorem sort_inM {μ : mMem} {a : Int32} (c : ¬ f_M_isSort μ a = 0) : vp_in a 3 := by
  unfold f_M_isSort at c
  split at c
  · exact absurd rfl c
  · split at c
    · exact absurd rfl c
    · rename_i h1 h2
      exact vin 3 (b := 3) (by decide) h1 h2
theorem md_in {μ : mMem} {a : Int32} (c : ¬ f_M_isDefined μ a = 0) : vp_in a 12 := by
  unfold f_M_isDefined at c
  split at c
  · exact absurd rfl c
  · split at c
    · exact absurd rfl c
    · rename_i h1 h2
      exact vin 12 (b := 12) (by decide) h1 h2
theorem in_3 {a : Int32} (hs : 0 ≤ a.toInt ∧ a.toInt < 3) : vp_in a 3 := vp_in_iff.mpr hs
theorem in_5 {a : Int32} (h0 : ¬ a < 0) (h : a ≤ 4) : vp_in a 5 := by
  rw [vp_in_iff]
  have h1 := nlt h0
  have h2 := yle h
  have h3 : (4 : Int32).toInt = 4 := rfl
  have h4 : (0 : Int32).toInt = 0 := rfl
  omega
/-- a place in a table of rows of d -/
theorem in_row {a b : Int32} {D : Int32} {d A B N : Nat} (hD : D.toInt = d) (ha : vp_in a A) (hb : 0 ≤ b.toInt ∧ b.toInt < B) (hd : d ≤ 100 ∧ A ≤ 100 ∧ B ≤ 100) (h : d * (A - 1) + B ≤ N) (hN : N ≤ 1000) : vp_in (D * a + b) N ∧ (D * a + b).toInt = d * a.toInt + b.toInt ∧ (D * a).toInt = d * a.toInt := by
  rw [vp_in_iff] at ha
  obtain ⟨x, hx⟩ : ∃ x : Nat, a.toInt = x := ⟨a.toInt.toNat, by omega⟩
  rw [hx] at ha ⊢
  have hx1 : x ≤ A - 1 := by omega
  have hm : d * x ≤ d * (A - 1) := Nat.mul_le_mul_left d hx1
  have hm2 : d * (A - 1) ≤ 100 * 100 := Nat.mul_le_mul hd.1 (by omega)
  have e1 : (D * a).toInt = ((d * x : Nat) : Int) := by
    rw [sm_mul] <;> rw [hD, hx] <;> push_cast <;> omega
  have e2 : (D * a + b).toInt = ((d * x : Nat) : Int) + b.toInt := by
    rw [sm_add] <;> rw [e1] <;> omega
  refine ⟨?_, ?_, ?_⟩
  · rw [vp_in_iff, e2]
    omega
  · rw [e2]
    push_cast
    rfl
  · rw [e1]
    push_cast
    rfl
theorem nx5 {μ : mMem} (hJ : iM μ) (k : Nat) : 0 ≤ (μ.1 37 0 k).toInt ∧ (μ.1 37 0 k).toInt < 5 := by
  have h1 := hJ.2.2.2.2.2.1 k
  have h2 := hJ.2.2.2.2.2.2.1 k
  omega
theorem in_holds0 {μ : mMem} {a : Int32} (hJ : iM μ) (c : a = 0) (c2 : ¬ μ.1 31 0 a.toNatClampNeg = 30) : vp_in (30 * a + μ.1 31 0 a.toNatClampNeg) 90 := by
  subst c
  have h1 := hJ.2.2.2.1 (0 : Int32).toNatClampNeg
  have h2 := sw_ne 30 (by decide) c2
  exact (in_row (D := 30) (d := 30) (A := 1) (B := 30) (by decide) (vp_in_iff.mpr (by decide)) ⟨h1.1, by omega⟩ (by decide) (by decide) (by decide)).1
theorem in_holds1 {μ : mMem} {a : Int32} (hJ : iM μ) (hs : vp_in a 3) (c : ¬ a = 0) : vp_in (30 * a + μ.1 31 0 a.toNatClampNeg) 90 := by
  obtain ⟨j, hj, rfl⟩ := vp_in_of hs (by decide)
  have h0 : j ≠ 0 := fun q => c (by rw [q]; rfl)
  have h1 := hJ.2.2.2.1 (nI j).toNatClampNeg
  rw [nI_clamp (by omega)] at h1 ⊢
  have h2 := h1.2.2 (by omega)
  exact (in_row (D := 30) (d := 30) (A := 3) (B := 21) (by decide) hs ⟨h1.1, by omega⟩ (by decide) (by decide) (by decide)).1
theorem sum_e {μ : mMem} {a : Int32} (hJ : iM μ) (hs : 0 ≤ a.toInt ∧ a.toInt < 3) : ((30 : Int32) * a + μ.1 31 0 a.toNatClampNeg).toInt = 30 * a.toInt + (μ.1 31 0 a.toNatClampNeg).toInt ∧ ((30 : Int32) * a).toInt = 30 * a.toInt ∧ 0 ≤ (μ.1 31 0 a.toNatClampNeg).toInt ∧ (μ.1 31 0 a.toNatClampNeg).toInt ≤ 30 := by
  have h1 := hJ.2.2.2.1 a.toNatClampNeg
  have h2 := (in_row (D := 30) (d := 30) (A := 3) (B := 31) (N := 91) (by decide) (in_3 hs) ⟨h1.1, by omega⟩ (by decide) (by decide) (by decide)).2
  exact ⟨h2.1, h2.2, h1.1, h1.2.1⟩
theorem in_holds2 {μ : mMem} {a x : Int32} (hJ : iM μ) (hs : 0 ≤ a.toInt ∧ a.toInt < 3) (hp : ((30 : Int32) * a).toInt ≤ x.toInt) (c : ¬ (30 : Int32) * a + μ.1 31 0 a.toNatClampNeg ≤ x) : vp_in x 90 := by
  have h1 := nle c
  have h2 := sum_e hJ hs
  rw [vp_in_iff]
  omega
theorem fuel_sum {μ : mMem} {a : Int32} (hJ : iM μ) (hs : 0 ≤ a.toInt ∧ a.toInt < 3) : (((30 : Int32) * a + μ.1 31 0 a.toNatClampNeg).toInt - ((30 : Int32) * a).toInt).toNat < 64 := by
  have h2 := sum_e hJ hs
  omega
theorem in_tab {μ : mMem} {a : Int32} (hJ : iM μ) (hd : vp_in a 12) (c : ¬ μ.1 36 0 a.toNatClampNeg = 5) : vp_in ((5 : Int32) * a + μ.1 36 0 a.toNatClampNeg) 60 := by
  have h1 := hJ.2.2.2.2.2.1 a.toNatClampNeg
  have h2 := sw_ne 5 (by decide) c
  exact (in_row (D := 5) (d := 5) (A := 12) (B := 5) (by decide) hd ⟨h1.1, by omega⟩ (by decide) (by decide) (by decide)).1
theorem in_tabn {a b : Int32} (hd : vp_in a 12) (hb : 0 ≤ b.toInt ∧ b.toInt < 5) : vp_in ((5 : Int32) * a + b) 60 := (in_row (D := 5) (d := 5) (A := 12) (B := 5) (by decide) hd ⟨hb.1, by omega⟩ (by decide) (by decide) (by decide)).1
theorem in_ring {c : Int32} (hk : 0 ≤ c.toInt) : vp_in (c - c / 40 * 40) 40 := by
  obtain ⟨j, hj, rfl⟩ := nI_of (pos_lt hk)
  have e : nI j - nI j / nI 40 * nI 40 = nI (j % 40) := pk_rem hj (by decide) (by decide)
  rw [show (40 : Int32) = nI 40 from rfl, e]
  exact vp_in_nI (Nat.mod_lt _ (by decide)) (by decide)
theorem in_wants1 {μ : mMem} {k : Nat} (hJ : iM μ) (c : ¬ μ.1 35 0 k = -1) : 0 ≤ (μ.1 35 0 k).toInt ∧ (μ.1 35 0 k).toInt < 3 := by
  have h2 := hJ.2.2.2.2.1 k
  have h3 := sw_ne (-1) (by decide) c
  omega
theorem in_wants {μ : mMem} {k : Nat} (hJ : iM μ) (c : ¬ μ.1 35 0 k = -1) : vp_in (μ.1 35 0 k) 3 := in_3 (in_wants1 hJ c)
theorem ref_d {μ : mMem} {c n : Int32} {a : Int64} (h : f_M_refusal μ c n a = 0) : vp_in c 12 := by
  unfold f_M_refusal at h
  split at h
  · exact absurd h (by decide)
  · rename_i q
    exact md_in q
theorem ref_t {μ : mMem} {c n : Int32} {a : Int64} (hJ : iM μ) (h : f_M_refusal μ c n a = 0) : vp_in n 60 := by
  unfold f_M_refusal at h
  split at h
  · exact absurd h (by decide)
  · split at h
    · exact absurd h (by decide)
    · rename_i q
      exact mt_in hJ q
theorem ref_w {μ : mMem} {c n : Int32} {a : Int64} (h : f_M_refusal μ c n a = 0) (c40 : ¬ μ.1 35 0 c.toNatClampNeg = -1) (c93 : ¬ μ.1 25 0 (μ.1 24 0 n.toNatClampNeg).toNatClampNeg ≤ 0) : ¬ μ.1 27 0 (μ.1 24 0 n.toNatClampNeg).toNatClampNeg = 6 := by
  intro q
  unfold f_M_refusal at h
  repeat' split at h
  all_goals first | exact absurd h (by decide) | exact absurd ‹_› c40 | exact absurd ‹_› c93 | exact absurd q ‹_›
theorem in_at {μ : mMem} {a : Int32} (hJ : iM μ) (hh : vp_in a 60) (hw : ¬ μ.1 27 0 a.toNatClampNeg = 6) : vp_in ((6 : Int32) * a + μ.1 27 0 a.toNatClampNeg) 360 := by
  have h1 := hJ.2.2.2.2.2.2.2.1 a.toNatClampNeg
  have h2 := sw_ne 6 (by decide) hw
  exact (in_row (D := 6) (d := 6) (A := 60) (B := 6) (by decide) hh ⟨h1.1, by omega⟩ (by decide) (by decide) (by decide)).1
theorem wait_e {μ : mMem} {a : Int32} (hJ : iM μ) (ht : vp_in a 60) : ((6 : Int32) * a + μ.1 27 0 a.toNatClampNeg).toInt = 6 * a.toInt + (μ.1 27 0 a.toNatClampNeg).toInt ∧ ((6 : Int32) * a).toInt = 6 * a.toInt ∧ 0 ≤ (μ.1 27 0 a.toNatClampNeg).toInt ∧ (μ.1 27 0 a.toNatClampNeg).toInt ≤ 6 ∧ 0 ≤ a.toInt ∧ a.toInt < 60 := by
  have h1 := hJ.2.2.2.2.2.2.2.1 a.toNatClampNeg
  have h2 := (in_row (D := 6) (d := 6) (A := 60) (B := 7) (N := 361) (by decide) ht ⟨h1.1, by omega⟩ (by decide) (by decide) (by decide)).2
  have h3 := vp_in_iff.mp ht
  exact ⟨h2.1, h2.2, h1.1, h1.2, h3.1, h3.2⟩
theorem in_q {μ : mMem} {a x : Int32} (hJ : iM μ) (ht : vp_in a 60) (hp : ((6 : Int32) * a).toInt ≤ x.toInt) (c : ¬ (6 : Int32) * a + μ.1 27 0 a.toNatClampNeg ≤ x) : vp_in x 360 := by
  have h1 := nle c
  have h2 := wait_e hJ ht
  rw [vp_in_iff]
  omega
theorem q_le {μ : mMem} {a x : Int32} (hJ : iM μ) (ht : vp_in a 60) (hp : ((6 : Int32) * a).toInt ≤ x.toInt) (c : ¬ (6 : Int32) * a + μ.1 27 0 a.toNatClampNeg ≤ x) : x.toInt ≤ 1000 := by
  have h2 := vp_in_iff.mp (in_q hJ ht hp c)
  omega
theorem fuel_wait {μ : mMem} {a : Int32} (hJ : iM μ) (ht : vp_in a 60) : (((6 : Int32) * a + μ.1 27 0 a.toNatClampNeg).toInt - ((6 : Int32) * a).toInt).toNat < 64 := by
  have h2 := wait_e hJ ht
  omega
theorem le60 {μ : mMem} {x : Int32} (hJ : iM μ) (c : ¬ μ.1 20 0 1 ≤ x) : (x + 1).toInt ≤ 60 := by
  rw [inc_toInt c]
  have h1 := nle c
  have h2 := hJ.1
  omega
-- what go and tell change
theorem go_r {μ : mMem} {a : Int32} {w : Int64} {r : Nat} (h1 : r ≠ 20) (h2 : r ≠ 37) (h3 : r ≠ 39) : (f_M_go μ a w).1 r = μ.1 r := by
  unfold f_M_go
  dsimp only
  split
  · split
    · rw [sL_1, sL_1, sI_r h1]
    · split
      · rw [sI_r h2, sL_1, sL_1, sI_r h1]
      · rw [sI_r h2, sL_1, sL_1, sI_r h1]
  · rw [sI_r h1, sI_r h3, sL_1, sI_r h1]
theorem go_46 {μ : mMem} {a : Int32} {w : Int64} : (f_M_go μ a w).1 46 = μ.1 46 := go_r (by decide) (by decide) (by decide)
theorem go_35 {μ : mMem} {a : Int32} {w : Int64} : (f_M_go μ a w).1 35 = μ.1 35 := go_r (by decide) (by decide) (by decide)
theorem go_27 {μ : mMem} {a : Int32} {w : Int64} : (f_M_go μ a w).1 27 = μ.1 27 := go_r (by decide) (by decide) (by decide)
theorem go_made {μ : mMem} {a : Int32} {w : Int64} : (f_M_go μ a w).1 20 0 1 = μ.1 20 0 1 := by
  unfold f_M_go
  dsimp only
  split
  · split
    · rfl
    · split
      · rfl
      · rfl
  · rfl
theorem tell_r {μ : mMem} {a b d : Int32} {w : Int64} {r : Nat} (h1 : r ≠ 43) (h2 : r ≠ 44) (h3 : r ≠ 45) (h4 : r ≠ 46) : (f_M_tell μ a b d w).1 r = μ.1 r := by
  unfold f_M_tell
  dsimp only
  split
  · rw [sI_r h4, sI_r h4, sL_1, sI_r h3, sI_r h2, sI_r h1]
  · split
    · split
      · rw [sI_r h4, sI_r h4, sL_1, sI_r h3, sI_r h2, sI_r h1]
      · rw [sI_r h4, sI_r h4, sL_1, sI_r h3, sI_r h2, sI_r h1]
    · rw [sI_r h4, sI_r h4, sL_1, sI_r h3, sI_r h2, sI_r h1]
theorem tell_20 {μ : mMem} {a b d : Int32} {w : Int64} : (f_M_tell μ a b d w).1 20 = μ.1 20 := tell_r (by decide) (by decide) (by decide) (by decide)
theorem tell_27 {μ : mMem} {a b d : Int32} {w : Int64} : (f_M_tell μ a b d w).1 27 = μ.1 27 := tell_r (by decide) (by decide) (by decide) (by decide)
theorem tell_cnt {μ : mMem} {a b d : Int32} {w : Int64} : (f_M_tell μ a b d w).1 46 0 0 = μ.1 46 0 0 + 1 := by
  unfold f_M_tell
  dsimp only
  split
  · rfl
  · split
    · split
      · rfl
      · rfl
    · rfl
theorem iM_M_tell {μ : mMem} {a b d : Int32} {w : Int64} (h : iM μ) : iM (f_M_tell μ a b d w) := by
  have e1 : (f_M_tell μ a b d w).1 20 = μ.1 20 := tell_20
  have e2 : (f_M_tell μ a b d w).1 23 = μ.1 23 := tell_r (by decide) (by decide) (by decide) (by decide)
  have e3 : (f_M_tell μ a b d w).1 24 = μ.1 24 := tell_r (by decide) (by decide) (by decide) (by decide)
  have e4 : (f_M_tell μ a b d w).1 27 = μ.1 27 := tell_27
  have e5 : (f_M_tell μ a b d w).1 28 = μ.1 28 := tell_r (by decide) (by decide) (by decide) (by decide)
  have e6 : (f_M_tell μ a b d w).1 31 = μ.1 31 := tell_r (by decide) (by decide) (by decide) (by decide)
  have e7 : (f_M_tell μ a b d w).1 35 = μ.1 35 := tell_r (by decide) (by decide) (by decide) (by decide)
  have e8 : (f_M_tell μ a b d w).1 36 = μ.1 36 := tell_r (by decide) (by decide) (by decide) (by decide)
  have e9 : (f_M_tell μ a b d w).1 37 = μ.1 37 := tell_r (by decide) (by decide) (by decide) (by decide)
  unfold iM at h ⊢
  simp only [e1, e2, e3, e4, e5, e6, e7, e8, e9]
  exact h
theorem iM_next {μ : mMem} {k : Nat} {x : Int32} (h : iM μ) (hx : 0 ≤ x.toInt ∧ (x.toInt < (μ.1 36 0 k).toInt ∨ x.toInt = 0)) : iM (sI μ 37 0 k x) := by
  refine ⟨h.1, h.2.1, h.2.2.1, h.2.2.2.1, h.2.2.2.2.1, h.2.2.2.2.2.1, fun j => ?_, h.2.2.2.2.2.2.2⟩
  rw [sI_1, show (sI μ 37 0 k x).1 36 = μ.1 36 from sI_r (by decide)]
  split
  · rename_i q
    rw [q.2.2]
    exact hx
  · exact h.2.2.2.2.2.2.1 j
theorem iM_M_go {μ : mMem} {a : Int32} {w : Int64} (h : iM μ) : iM (f_M_go μ a w) := by
  unfold f_M_go
  dsimp only
  have hb : iM (sL (sI μ 20 0 28 0) 20 0 29 0) := iM_L (iM_I h rfl) rfl
  have ha := h.2.2.2.2.2.1 a.toNatClampNeg
  have hn := h.2.2.2.2.2.2.1 a.toNatClampNeg
  split
  · split
    · exact iM_L hb rfl
    · rename_i c
      have c : ¬ μ.1 36 0 a.toNatClampNeg = 0 := c
      have hc := sw_ne 0 (by decide) c
      split
      · exact iM_next (iM_L hb rfl) ⟨by decide, Or.inr rfl⟩
      · rename_i c2
        have c2 : ¬ μ.1 37 0 a.toNatClampNeg + 1 = μ.1 36 0 a.toNatClampNeg := c2
        refine iM_next (iM_L hb rfl) ?_
        show 0 ≤ (μ.1 37 0 a.toNatClampNeg + 1).toInt ∧ ((μ.1 37 0 a.toNatClampNeg + 1).toInt < (μ.1 36 0 a.toNatClampNeg).toInt ∨ (μ.1 37 0 a.toNatClampNeg + 1).toInt = 0)
        have e1 : (1 : Int32).toInt = 1 := rfl
        have s1 : (μ.1 37 0 a.toNatClampNeg + 1).toInt = (μ.1 37 0 a.toNatClampNeg).toInt + 1 := by rw [sm_add] <;> omega
        have s2 : (μ.1 37 0 a.toNatClampNeg + 1).toInt ≠ (μ.1 36 0 a.toNatClampNeg).toInt := fun q => c2 (Int32.toInt_inj.mp q)
        omega
  · exact iM_I (iM_I hb rfl) rfl
theorem tk0 {a : Int32} (h : 0 ≤ a.toInt ∧ a.toInt ≤ 1000000) : 0 ≤ a.toInt ∧ a.toInt ≤ 1000000 + (0 : Int32).toInt := by
  have e : (0 : Int32).toInt = 0 := rfl
  omega
theorem tk1 {a b x : Int32} {K : Int} (c : ¬ b ≤ x) (h : 0 ≤ a.toInt ∧ a.toInt ≤ K + x.toInt) : 0 ≤ a.toInt ∧ a.toInt ≤ K + (x + 1).toInt := by
  rw [inc_toInt c]
  omega
theorem tk2 {μ : mMem} {b x d e g : Int32} {u v : Int64} {c : Int32} {K : Int} (hx : x.toInt ≤ 1000) (hc : ¬ b ≤ x) (h : 0 ≤ (μ.1 46 0 0).toInt ∧ (μ.1 46 0 0).toInt ≤ K + x.toInt) (hK : K ≤ 2000000 := by decide) : 0 ≤ ((f_M_tell (f_M_go μ c u) d e g v).1 46 0 0).toInt ∧ ((f_M_tell (f_M_go μ c u) d e g v).1 46 0 0).toInt ≤ K + (x + 1).toInt := by
  rw [tell_cnt, go_46, inc_toInt hc]
  have e1 : (1 : Int32).toInt = 1 := rfl
  have s1 : (μ.1 46 0 0 + 1).toInt = (μ.1 46 0 0).toInt + 1 := by rw [sm_add] <;> omega
  omega
theorem tk3 {μ : mMem} {a x : Int32} {k : Nat} {y : Int32} (ht : vp_in a 60) (h : 0 ≤ (μ.1 46 0 0).toInt ∧ (μ.1 46 0 0).toInt ≤ 1000000 + x.toInt) (hx : x.toInt ≤ 60) : 0 ≤ ((sI μ 25 0 k y).1 46 0 0).toInt ∧ ((sI μ 25 0 k y).1 46 0 0).toInt ≤ 2000000 + ((6 : Int32) * a).toInt := by
  have h2 := (in_row (D := 6) (d := 6) (A := 60) (B := 7) (N := 361) (b := 0) (by decide) ht (by decide) (by decide) (by decide) (by decide)).2.2
  have h3 := vp_in_iff.mp ht
  show 0 ≤ (μ.1 46 0 0).toInt ∧ (μ.1 46 0 0).toInt ≤ 2000000 + ((6 : Int32) * a).toInt
  rw [h2]
  omega
theorem least_l {μ : mMem} {k : Int32} : ∀ (n : Nat) (x : Int32), 0 ≤ x.toInt → x.toInt ≤ 12 → f_M_leastFor_l2 n k x μ = -1 ∨ vp_in (f_M_leastFor_l2 n k x μ) 12 := by
  intro n
  induction n with
  | zero => intro x _ _; exact Or.inr (by unfold f_M_leastFor_l2; exact vp_in_iff.mpr (by decide))
  | succ n ih =>
    intro x h0 h1
    have e12 : (12 : Int32).toInt = 12 := rfl
    unfold f_M_leastFor_l2
    split
    · split
      · exact Or.inl rfl
      · rename_i c c2
        have := yle c
        have := sw_ne 12 (by decide) c2
        omega
    · rename_i c
      have hc := nle c
      split
      · exact ih _ (inc_pos h0 c) (by rw [inc_toInt c]; omega)
      · split
        · split
          · exact Or.inl rfl
          · exact Or.inr (vp_in_iff.mpr ⟨h0, by omega⟩)
        · exact ih _ (inc_pos h0 c) (by rw [inc_toInt c]; omega)
theorem least_in {μ : mMem} {k : Int32} (c : ¬ f_M_leastFor μ k = -1) : vp_in (f_M_leastFor μ k) 12 := (least_l 64 0 (by decide) (by decide)).resolve_left c
theorem place_in {μ : mMem} {i : Int32} (hk : 0 ≤ (μ.1 46 0 0).toInt) (c : ¬ f_M_isTold μ i = 0) : vp_in (f_M_placeOf μ i) 40 := by
  unfold f_M_isTold at c
  split at c
  · exact absurd rfl c
  · split at c
    · exact absurd rfl c
    · split at c
      · exact absurd rfl c
      · rename_i h1 h2 h3
        have h1 := nlt h1
        have h2 := nle h2
        have h3 : (i).toInt < (μ.1 46 0 0).toInt := nle h3
        have e0 : (0 : Int32).toInt = 0 := rfl
        have e1 : (1 : Int32).toInt = 1 := rfl
        have e40 : (40 : Int32).toInt = 40 := rfl
        have hlt := (μ.1 46 0 0).toInt_lt
        have s1 : (μ.1 46 0 0 - 1).toInt = (μ.1 46 0 0).toInt - 1 := by
          rw [Int32.toInt_sub, e1]; simp only [Int.bmod]; split <;> omega
        have s2 : (μ.1 46 0 0 - 1 - i).toInt = (μ.1 46 0 0).toInt - 1 - i.toInt := by
          rw [Int32.toInt_sub, s1]; simp only [Int.bmod]; split <;> omega
        exact in_ring (c := μ.1 46 0 0 - 1 - i) (by omega)

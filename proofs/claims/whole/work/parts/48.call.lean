theorem goes_eq {N : Nat} {a b : mMem} (h : RR N a b) (hN : N ≤ 1000000) {c : Int32} (n : Int32) (w : Int64) (hc : vp_in c 12) (hz : ¬ a.1 10 0 c.toNatClampNeg = 0) : (f_X_goes a c n w).1 = (if (f_M_go b c w).1 20 0 28 = 0 then 1 else 0) ∧ RR (N + 1) (f_X_goes a c n w).2 (f_M_tell (f_M_go b c w) ((f_M_go b c w).1 20 0 28) n c ((f_M_go b c w).2 20 0 29)) := by
  have hp : f_X_partAt a c = some c.toNatClampNeg := by
    rcases part_eq h.2.2.2.1 c with ⟨q1, -⟩ | ⟨-, -, q1, -⟩
    · unfold f_X_partAt at q1
      rcases call_eq a c with ⟨-, q⟩ | ⟨q, -, -⟩
      · have := vp_in_iff.mp hc
        have e12 : (12 : Int32).toInt = 12 := rfl
        have e0 : (0 : Int32).toInt = 0 := rfl
        rcases q with q | ⟨-, q⟩
        · have := ylt q; omega
        · have := yle q; omega
      · rw [q, if_neg n10, if_neg hz] at q1
        cases q1
    · exact q1
  unfold f_X_goes
  rw [hp]
  simp only [oC]
  rcases go_eq h w hc with ⟨o1, o2, f1, f2, hR⟩ | ⟨o1, o2, f1, f2, hR⟩
  · rw [o1, o2, if_pos rfl, f1, f2, if_pos rfl]
    exact ⟨rfl, RR_tell hR hN 0 n c _ (by decide)⟩
  · have hne : ¬ (f_P_outcome a c.toNatClampNeg).1 = 0 := fun q => by rw [q] at o1; exact absurd o1 (by decide)
    rw [if_neg hne, f1, f2, if_neg hne]
    exact ⟨rfl, RR_tell hR hN _ n c _ (by omega)⟩
/-- the sum of what is collected -/
theorem sum_l {b : mMem} {s : Int32} (hs : vp_in s 3) (hr : 0 ≤ (b.1 31 0 s.toNatClampNeg).toInt ∧ (b.1 31 0 s.toNatClampNeg).toInt ≤ 30) : ∀ (n k : Nat) (x : Int32), x.toInt = 30 * s.toInt + k → (k : Int) ≤ (b.1 31 0 s.toNatClampNeg).toInt → (b.1 31 0 s.toNatClampNeg).toInt - k < n → f_M_sumOf_l8 n s (hsum (b.1 32 0) (30 * s.toNatClampNeg) k) x b = hsum (b.1 32 0) (30 * s.toNatClampNeg) (b.1 31 0 s.toNatClampNeg).toInt.toNat := by
  intro n
  have hsi := vp_in_iff.mp hs
  have hc := cl_of hsi.1
  have he := (in_row (D := 30) (d := 30) (A := 3) (B := 31) (N := 91) (b := b.1 31 0 s.toNatClampNeg) (by decide) hs ⟨hr.1, by omega⟩ (by decide) (by decide) (by decide)).2.1
  induction n with
  | zero => intro k x _ hk hn; omega
  | succ n ih =>
    intro k x hx hk hn
    unfold f_M_sumOf_l8
    by_cases c : (30 : Int32) * s + b.1 31 0 s.toNatClampNeg ≤ x
    · have g := yle c
      rw [if_pos c]
      congr 1
      omega
    · have g := nle c
      rw [if_neg c]
      have hx0 : 0 ≤ x.toInt := by omega
      have hxc := cl_of hx0
      have hi : x.toNatClampNeg = 30 * s.toNatClampNeg + k := by omega
      have := ih (k + 1) (x + 1) (by rw [inc_toInt c]; omega) (by omega) (by omega)
      rw [← this, hi]
      rfl
theorem sum_eq {a b : mMem} (h : RC a b) {s : Int32} (hs : vp_in s 3) : f_C_sum a s = f_M_sumOf b s := by
  have hj := h s.toNatClampNeg
  have hsi := vp_in_iff.mp hs
  have hc := cl_of hsi.1
  have e3 : (3 : Int32).toInt = 3 := rfl
  have ss : ¬ f_X_isSort a s = 0 := by
    rw [show f_X_isSort a s = 1 from (if_neg (pos_lt hsi.1)).trans (if_neg (fun q : (3 : Int32) ≤ s => by have := yle q; omega))]
    exact n10
  have he := (in_row (D := 30) (d := 30) (A := 3) (B := 31) (N := 91) (b := 0) (by decide) hs (by decide) (by decide) (by decide) (by decide)).2.2
  unfold f_C_sum f_M_sumOf
  rw [if_neg ss, hj.2.2 (by omega), ← hj.1]
  rw [← hj.1] at hj
  exact (sum_l hs ⟨hj.2.1.1, hj.2.1.2.1⟩ 64 0 _ (by rw [he]; simp) (by omega) (by omega)).symm
/-- what was collected is taken -/
theorem RR_empty {N : Nat} {a b : mMem} (h : RR N a b) {s : Int32} (hs : vp_in s 3) : RR N (f_C_empty a s) (sI b 31 0 s.toNatClampNeg 0) := by
  have hsi := vp_in_iff.mp hs
  have e3 : (3 : Int32).toInt = 3 := rfl
  have ss : ¬ f_X_isSort a s = 0 := by
    rw [show f_X_isSort a s = 1 from (if_neg (pos_lt hsi.1)).trans (if_neg (fun q : (3 : Int32) ≤ s => by have := yle q; omega))]
    exact n10
  have ee : f_C_empty a s = sI (sL a 9 0 s.toNatClampNeg 0) 8 0 s.toNatClampNeg 0 := if_neg ss
  rw [ee]
  refine ⟨h.1, h.2.1, fun j => ?_, h.2.2.2⟩
  have hj := h.2.2.1 j
  by_cases e : j = s.toNatClampNeg
  · subst e
    simp [sI, sL]
    intro _
    rfl
  · simp [sI, sL, e]
    exact hj
theorem empty_no {a : mMem} : f_C_empty a (-1) = a := rfl
theorem sum_no {a : mMem} : f_C_sum a (-1) = 0 := rfl
theorem sI_comm {μ : mMem} {r i k r' i' k' : Nat} {x y : Int32} (h : r ≠ r') : sI (sI μ r i k x) r' i' k' y = sI (sI μ r' i' k' y) r i k x := by
  refine Prod.ext ?_ rfl
  funext a b c
  simp only [sI]
  by_cases e : a = r' ∧ b = i' ∧ c = k'
  · rw [if_pos e, if_neg (fun q => h (q.1.symm.trans e.1)), if_pos e]
  · rw [if_neg e]
    by_cases e2 : a = r ∧ b = i ∧ c = k
    · rw [if_pos e2, if_pos e2]
    · rw [if_neg e2, if_neg e2, if_neg e]
theorem reply_empty {a : mMem} {k : Nat} {w : Int64} {s : Int32} : f_P_reply (f_C_empty a s) k w = ((f_P_reply a k w).1, f_C_empty (f_P_reply a k w).2 s) := by
  unfold f_C_empty
  by_cases q : f_X_isSort a s = 0
  · rw [if_pos q]
    have q2 : f_X_isSort (f_P_reply a k w).2 s = 0 := q
    rw [if_pos q2]
  · rw [if_neg q]
    have q2 : ¬ f_X_isSort (f_P_reply a k w).2 s = 0 := q
    rw [if_neg q2]
    unfold f_P_reply
    dsimp only
    have r5 : (sI (sL a 9 0 s.toNatClampNeg 0) 8 0 s.toNatClampNeg 0).1 11 k 5 = a.1 11 k 5 := rfl
    have r6 : (sI (sL a 9 0 s.toNatClampNeg 0) 8 0 s.toNatClampNeg 0).1 11 k 6 = a.1 11 k 6 := rfl
    rw [r5, r6]
    by_cases c1 : a.1 11 k 6 < a.1 11 k 5
    · rw [if_pos c1, if_pos c1]
      by_cases c2 : a.1 11 k 5 ≤ a.1 11 k 6 + 1
      · rw [if_pos c2, if_pos c2, sI_comm (show 8 ≠ 11 by decide)]
        rfl
      · rw [if_neg c2, if_neg c2, sI_comm (show 8 ≠ 11 by decide)]
        rfl
    · rw [if_neg c1, if_neg c1]
/-- a call waits -/
theorem RR_queue {N : Nat} {a b : mMem} (h : RR N a b) {k : Nat} (c n : Int32) (w : Int64) (hc : vp_in c 12) (hz : ¬ a.1 10 0 c.toNatClampNeg = 0) (hk : (k : Int) < (a.1 0 0 1).toInt) (hw : (a.1 3 k 2).toInt < 6) : RR N (f_B_queue a k c n w) (sI (sL (sI (sI b 28 0 (6 * k + (a.1 3 k 2).toNatClampNeg) c) 29 0 (6 * k + (a.1 3 k 2).toNatClampNeg) n) 30 0 (6 * k + (a.1 3 k 2).toNatClampNeg) w) 27 0 k (a.1 3 k 2 + 1)) := by
  have hb := h.2.1 k
  have e6 : (6 : Int32).toInt = 6 := rfl
  have e1 : (1 : Int32).toInt = 1 := rfl
  have hcl := cl_of hb.2.2.1.1
  have es : (a.1 3 k 2 + 1).toInt = (a.1 3 k 2).toInt + 1 := by rw [sm_add] <;> omega
  have eq : f_B_queue a k c n w = sI (sL (sI (sI a 4 k (a.1 3 k 2).toNatClampNeg c) 5 k (a.1 3 k 2).toNatClampNeg n) 6 k (a.1 3 k 2).toNatClampNeg w) 3 k 2 (a.1 3 k 2 + 1) := by
    have ef : f_B_isFull a k = 0 := if_pos (Int32.lt_iff_toInt_lt.mpr (by omega))
    unfold f_B_queue
    rw [if_pos ef]
    rfl
  rw [eq]
  generalize hp : (a.1 3 k 2).toNatClampNeg = P at hcl ⊢
  refine ⟨h.1, fun j => ?_, h.2.2.1, h.2.2.2.1, h.2.2.2.2.1, fun j m hm hlt => ?_, fun j hj => ?_⟩
  · have hbj := h.2.1 j
    refine ⟨?_, ?_, ?_, fun m hm => ?_⟩
    · by_cases e : j = k
      · subst e; simp [sI, sL]; exact ⟨hbj.1.1, hbj.1.2.1⟩
      · simp [sI, sL, e]; exact hbj.1
    · by_cases e : j = k
      · subst e; simp [sI, sL]; exact hbj.2.1
      · simp [sI, sL, e]; exact hbj.2.1
    · by_cases e : j = k
      · subst e; simp [sI, sL, -Int32.toInt_add]; omega
      · simp [sI, sL, e]; exact hbj.2.2.1
    · have h4 := hbj.2.2.2 m hm
      by_cases e : j = k ∧ m = P
      · obtain ⟨rfl, rfl⟩ := e
        simp [sI, sL]
        exact hc
      · have e2 : ¬ 6 * j + m = 6 * k + P := fun q => e (row_inj (d := 6) hm (by omega) q)
        have e3 : ¬ (j = k ∧ m = P) := e
        simp [sI, sL, e2, e3]
        exact h4
  · by_cases e : j = k ∧ m = P
    · obtain ⟨rfl, rfl⟩ := e
      simp [sI, sL]
      exact hz
    · have hold := h.2.2.2.2.2.1 j m hm
      have hlt2 : (m : Int) < (a.1 3 j 2).toInt := by
        by_cases e2 : j = k
        · subst e2
          have hm2 : ¬ m = P := fun q => e ⟨rfl, q⟩
          simp [sI, sL, -Int32.toInt_add] at hlt
          omega
        · simp [sI, sL, e2] at hlt
          exact hlt
      have hq := hold hlt2
      have e3 : ¬ (j = k ∧ m = P) := e
      simp [sI, sL, e3]
      exact hq
  · have hzj := h.2.2.2.2.2.2 j hj
    have hj' : (a.1 0 0 1).toInt ≤ j := hj
    have e : ¬ j = k := by omega
    simp [sI, sL, e]
    exact hzj

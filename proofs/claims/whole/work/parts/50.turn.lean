theorem least_leq {a b : mMem} (h : RP a b) {k : Int32} : ∀ (n : Nat) (x : Int32), 0 ≤ x.toInt → x.toInt ≤ 12 → (12 - x.toInt).toNat < n → f_X_leastCallFor_l2 n k x a = f_M_leastFor_l2 n k x b ∧ (f_X_leastCallFor_l2 n k x a = -1 ∨ (vp_in (f_X_leastCallFor_l2 n k x a) 12 ∧ ¬ a.1 10 0 (f_X_leastCallFor_l2 n k x a).toNatClampNeg = 0)) := by
  intro n
  have e12 : (12 : Int32).toInt = 12 := rfl
  induction n with
  | zero => intro x _ _ hn; exact absurd hn (Nat.not_lt_zero _)
  | succ n ih =>
    intro x h0 h1 hn
    unfold f_X_leastCallFor_l2 f_M_leastFor_l2
    by_cases c : (12 : Int32) ≤ x
    · have g := yle c
      rw [if_pos c, if_pos c, if_pos (show x = 12 from Int32.toInt_inj.mp (by omega))]
      exact ⟨rfl, Or.inl rfl⟩
    · have g := nle c
      have hp := h.1 x.toNatClampNeg
      rw [if_neg c, if_neg c, hp.1.1]
      have hi := ih (x + 1) (inc_pos h0 c) (by rw [inc_toInt c]; omega) (by rw [inc_toInt c]; omega)
      by_cases z : a.1 10 0 x.toNatClampNeg = 0
      · rw [if_pos z, if_pos (hp.2.1.mpr z)]
        exact hi
      · rw [if_neg z, if_neg (fun q => z (hp.2.1.mp q))]
        by_cases q : a.1 11 x.toNatClampNeg 0 = k
        · rw [if_pos q, if_pos q, if_neg (fun w : x = 12 => by have := congrArg Int32.toInt w; omega)]
          exact ⟨rfl, Or.inr ⟨vp_in_iff.mpr ⟨h0, by omega⟩, z⟩⟩
        · rw [if_neg q, if_neg q]
          exact hi
theorem least_eq {a b : mMem} (h : RP a b) (k : Int32) : f_X_leastCallFor a k = f_M_leastFor b k ∧ (f_X_leastCallFor a k = -1 ∨ (vp_in (f_X_leastCallFor a k) 12 ∧ ¬ a.1 10 0 (f_X_leastCallFor a k).toNatClampNeg = 0)) := least_leq h 64 0 (by decide) (by decide) (by decide)
theorem least_same {a a' : mMem} (e10 : a'.1 10 = a.1 10) (e11 : ∀ c, a'.1 11 c 0 = a.1 11 c 0) (k : Int32) : f_X_leastCallFor a' k = f_X_leastCallFor a k := by
  have : ∀ (n : Nat) (x : Int32), f_X_leastCallFor_l2 n k x a' = f_X_leastCallFor_l2 n k x a := by
    intro n
    induction n with
    | zero => intro x; rfl
    | succ n ih =>
      intro x
      unfold f_X_leastCallFor_l2
      rw [e10, e11, ih]
  exact this 64 0
theorem goes_k {a : mMem} {c n : Int32} {w : Int64} (j : Nat) : (f_X_goes a c n w).2.1 11 j 0 = a.1 11 j 0 := by
  unfold f_X_goes
  cases hq : f_X_partAt a c with
  | none => rfl
  | some i =>
    simp only [oC]
    have ho : (f_P_outcome a i).2.1 11 j 0 = a.1 11 j 0 := by
      unfold f_P_outcome
      split
      · simp [sI]
      · rfl
    split
    · show (f_O_add _ _ _ _ _).1 11 j 0 = _
      rw [add_r (by decide) (by decide) (by decide) (by decide)]
      have hr : ∀ m : mMem, (f_P_reply m i w).2.1 11 j 0 = m.1 11 j 0 := by
        intro m
        unfold f_P_reply
        split
        · split
          · simp [sI]
          · simp [sI]
        · rfl
      rw [hr, ho]
    · show (f_O_add _ _ _ _ _).1 11 j 0 = _
      rw [add_r (by decide) (by decide) (by decide) (by decide), ho]
theorem goes_no {a : mMem} {n : Int32} {w : Int64} : f_X_goes a (-1) n w = (0, a) := rfl
/-- the turn's own number goes down at the end with the reference, at the start with the class -/
def dec (k : Nat) (b : mMem) : mMem := sI b 25 0 k (b.1 25 0 k - 1)
theorem sL_sI {μ : mMem} {r i k r' i' k' : Nat} {x : Int32} {y : Int64} : sL (sI μ r i k x) r' i' k' y = sI (sL μ r' i' k' y) r i k x := rfl
theorem go_25 {b : mMem} {k : Nat} {x c : Int32} {w : Int64} : f_M_go (sI b 25 0 k x) c w = sI (f_M_go b c w) 25 0 k x := by
  unfold f_M_go
  dsimp only
  have e1 : (sL (sI (sI b 25 0 k x) 20 0 28 0) 20 0 29 0).1 39 0 c.toNatClampNeg = (sL (sI b 20 0 28 0) 20 0 29 0).1 39 0 c.toNatClampNeg := rfl
  have e2 : (sL (sI (sI b 25 0 k x) 20 0 28 0) 20 0 29 0).1 36 0 c.toNatClampNeg = (sL (sI b 20 0 28 0) 20 0 29 0).1 36 0 c.toNatClampNeg := rfl
  have e3 : (sL (sI (sI b 25 0 k x) 20 0 28 0) 20 0 29 0).1 37 0 c.toNatClampNeg = (sL (sI b 20 0 28 0) 20 0 29 0).1 37 0 c.toNatClampNeg := rfl
  have e0 : sL (sI (sI b 25 0 k x) 20 0 28 0) 20 0 29 0 = sI (sL (sI b 20 0 28 0) 20 0 29 0) 25 0 k x := by rw [sI_comm (show 25 ≠ 20 by decide)]; rfl
  rw [e1, e2, e3, e0]
  generalize sL (sI b 20 0 28 0) 20 0 29 0 = m
  split
  · split
    · rfl
    · have e4 : (sL (sI m 25 0 k x) 20 0 29 (w + (sI m 25 0 k x).2 42 0 (5 * c + m.1 37 0 c.toNatClampNeg).toNatClampNeg)).1 37 0 c.toNatClampNeg = m.1 37 0 c.toNatClampNeg := rfl
      have e5 : (sL (sI m 25 0 k x) 20 0 29 (w + (sI m 25 0 k x).2 42 0 (5 * c + m.1 37 0 c.toNatClampNeg).toNatClampNeg)).1 36 0 c.toNatClampNeg = m.1 36 0 c.toNatClampNeg := rfl
      have e6 : (sL m 20 0 29 (w + m.2 42 0 (5 * c + m.1 37 0 c.toNatClampNeg).toNatClampNeg)).1 37 0 c.toNatClampNeg = m.1 37 0 c.toNatClampNeg := rfl
      have e7 : (sL m 20 0 29 (w + m.2 42 0 (5 * c + m.1 37 0 c.toNatClampNeg).toNatClampNeg)).1 36 0 c.toNatClampNeg = m.1 36 0 c.toNatClampNeg := rfl
      rw [e4, e5, e6, e7]
      split
      · rw [sL_sI, sI_comm (show 25 ≠ 37 by decide)]; rfl
      · rw [sL_sI, sI_comm (show 25 ≠ 37 by decide)]; rfl
  · rw [sI_comm (show 25 ≠ 39 by decide)]
    have e8 : (sI (sI m 39 0 c.toNatClampNeg (m.1 39 0 c.toNatClampNeg - 1)) 25 0 k x).1 38 0 c.toNatClampNeg = m.1 38 0 c.toNatClampNeg := rfl
    have e9 : (sI m 39 0 c.toNatClampNeg (m.1 39 0 c.toNatClampNeg - 1)).1 38 0 c.toNatClampNeg = m.1 38 0 c.toNatClampNeg := rfl
    rw [e8, e9, sI_comm (show 25 ≠ 20 by decide)]
theorem tell_25 {b : mMem} {k : Nat} {x p n c : Int32} {v : Int64} : f_M_tell (sI b 25 0 k x) p n c v = sI (f_M_tell b p n c v) 25 0 k x := by
  unfold f_M_tell
  dsimp only
  have e1 : (sI b 25 0 k x).1 46 = b.1 46 := rfl
  rw [e1]
  generalize (b.1 46 0 (0 : Int32).toNatClampNeg - b.1 46 0 (0 : Int32).toNatClampNeg / 40 * 40).toNatClampNeg = J
  rw [sI_comm (show 25 ≠ 43 by decide), sI_comm (show 25 ≠ 44 by decide), sI_comm (show 25 ≠ 45 by decide), sL_sI]
  generalize sL (sI (sI (sI b 43 0 J p) 44 0 J n) 45 0 J c) 47 0 J v = m
  have e2 : (sI m 25 0 k x).1 46 = m.1 46 := rfl
  rw [e2, sI_comm (show 25 ≠ 46 by decide)]
  generalize sI m 46 0 (0 : Int32).toNatClampNeg (m.1 46 0 (0 : Int32).toNatClampNeg + 1) = m2
  have e3 : (sI m2 25 0 k x).1 46 = m2.1 46 := rfl
  rw [e3]
  split
  · rw [sI_comm (show 25 ≠ 46 by decide)]
  · split
    · split
      · rw [sI_comm (show 25 ≠ 46 by decide)]
      · rw [sI_comm (show 25 ≠ 46 by decide)]
    · rw [sI_comm (show 25 ≠ 46 by decide)]
theorem step_dec {b : mMem} {k : Nat} {c n c' : Int32} {w : Int64} : f_M_tell (f_M_go (dec k b) c w) ((f_M_go (dec k b) c w).1 20 0 28) n c' ((f_M_go (dec k b) c w).2 20 0 29) = dec k (f_M_tell (f_M_go b c w) ((f_M_go b c w).1 20 0 28) n c' ((f_M_go b c w).2 20 0 29)) := by
  unfold dec
  rw [go_25]
  have e1 : (sI (f_M_go b c w) 25 0 k (b.1 25 0 k - 1)).1 20 0 28 = (f_M_go b c w).1 20 0 28 := rfl
  have e2 : (sI (f_M_go b c w) 25 0 k (b.1 25 0 k - 1)).2 20 0 29 = (f_M_go b c w).2 20 0 29 := rfl
  rw [e1, e2, tell_25, tell_r (r := 25) (by decide) (by decide) (by decide) (by decide), go_r (r := 25) (by decide) (by decide) (by decide)]
/-- the waiting ones go -/
theorem RR_clear {N : Nat} {a b : mMem} (h : RR N a b) (k : Nat) : RR N (sI a 3 k 2 0) (sI b 27 0 k 0) := by
  refine ⟨h.1, fun j => ?_, h.2.2.1, h.2.2.2.1, h.2.2.2.2.1, fun j m hm hlt => ?_, fun j hj => ?_⟩
  · have hb := h.2.1 j
    by_cases e : j = k
    · subst e
      simp [sI]
      exact ⟨⟨hb.1.1, hb.1.2.1⟩, hb.2.1, hb.2.2.2⟩
    · simp [sI, e]
      exact hb
  · by_cases e : j = k
    · subst e
      simp [sI] at hlt
      omega
    · simp [sI, e] at hlt ⊢
      exact h.2.2.2.2.2.1 j m hm hlt
  · have hz := h.2.2.2.2.2.2 j hj
    by_cases e : j = k
    · subst e; simp [sI]; exact ⟨hz.1, hz.2.1, hz.2.2.2⟩
    · simp [sI, e]; exact hz
theorem wait_l {h : Int32} (hh : vp_in h 60) (c : Int32) : ∀ (n m N : Nat) (x x3 : Int32) (a b : mMem), RR N a b → N + n ≤ 1000000 → x3.toInt = 6 * h.toInt + x.toInt → 0 ≤ x.toInt → x.toInt ≤ (a.1 3 h.toNatClampNeg 2).toInt → ((a.1 3 h.toNatClampNeg 2).toInt - x.toInt).toNat < n → ((a.1 3 h.toNatClampNeg 2).toInt - x.toInt).toNat < m → (f_M_turn_l175 m h c x3 b).1 = c ∧ RR (N + n) (f_X_letWaitingGo_l2 n h.toNatClampNeg x a) (f_M_turn_l175 m h c x3 b).2 := by
  intro n
  have hhi := vp_in_iff.mp hh
  have hhc := cl_of hhi.1
  have e6 : (6 : Int32).toInt = 6 := rfl
  induction n with
  | zero => intro m N x x3 a b _ _ _ _ _ hn; exact absurd hn (Nat.not_lt_zero _)
  | succ n ih =>
    intro m N x x3 a b hR hN hx3 hx0 hxw hn hm
    cases m with
    | zero => exact absurd hm (Nat.not_lt_zero _)
    | succ m =>
      have hb := hR.2.1 h.toNatClampNeg
      have ew : b.1 27 0 h.toNatClampNeg = a.1 3 h.toNatClampNeg 2 := hb.1.2.2
      have he := (in_row (D := 6) (d := 6) (A := 60) (B := 7) (N := 361) (b := a.1 3 h.toNatClampNeg 2) (by decide) hh ⟨hb.2.2.1.1, by omega⟩ (by decide) (by decide) (by decide)).2.1
      unfold f_X_letWaitingGo_l2 f_M_turn_l175
      rw [ew]
      by_cases q : a.1 3 h.toNatClampNeg 2 ≤ x
      · have g := yle q
        rw [if_pos q, if_pos (show (6 : Int32) * h + a.1 3 h.toNatClampNeg 2 ≤ x3 from Int32.le_iff_toInt_le.mpr (by omega))]
        exact ⟨rfl, RR_mono (RR_clear hR _) (by omega)⟩
      · have g := nle q
        have q2 : ¬ (6 : Int32) * h + a.1 3 h.toNatClampNeg 2 ≤ x3 := fun z => by have := yle z; omega
        have q3 : ¬ (6 : Int32) ≤ x := fun z => by have := yle z; omega
        rw [if_neg q, if_neg q2, if_neg q3]
        dsimp only
        have hxc := cl_of hx0
        have hx3c := cl_of (x := x3) (by omega)
        have hi : x3.toNatClampNeg = 6 * h.toNatClampNeg + x.toNatClampNeg := by omega
        have h4 := hb.2.2.2 x.toNatClampNeg (by omega)
        have hq := hR.2.2.2.2.2.1 h.toNatClampNeg x.toNatClampNeg (by omega) (by omega)
        rw [go_r (r := 28) (by decide) (by decide) (by decide), go_r (r := 29) (by decide) (by decide) (by decide), hi, h4.1, h4.2.1, h4.2.2.1]
        have hg := goes_eq hR (by omega) (a.1 5 h.toNatClampNeg x.toNatClampNeg) (a.2 6 h.toNatClampNeg x.toNatClampNeg) h4.2.2.2 hq
        have e3 : (f_X_goes a (a.1 4 h.toNatClampNeg x.toNatClampNeg) (a.1 5 h.toNatClampNeg x.toNatClampNeg) (a.2 6 h.toNatClampNeg x.toNatClampNeg)).2.1 3 = a.1 3 := goes_r (by decide) (by decide) (by decide) (by decide) (by decide)
        have es := inc_toInt q
        have es3 := inc_toInt q2
        have hnext := ih m (N + 1) (x + 1) (x3 + 1) _ _ hg.2 (by omega) (by omega) (by omega) (by rw [e3]; omega) (by rw [e3]; omega) (by rw [e3]; omega)
        rw [show N + (n + 1) = N + 1 + n by omega]
        exact hnext

theorem call_eq (a : mMem) (c : Int32) : (f_X_isCall a c = 0 ∧ (c < 0 ∨ (¬ c < 0 ∧ (12 : Int32) ≤ c))) ∨ (f_X_isCall a c = 1 ∧ ¬ c < 0 ∧ ¬ (12 : Int32) ≤ c) := by
  unfold f_X_isCall
  by_cases c0 : c < 0
  · exact Or.inl ⟨if_pos c0, Or.inl c0⟩
  · by_cases c1 : (12 : Int32) ≤ c
    · exact Or.inl ⟨(if_neg c0).trans (if_pos c1), Or.inr ⟨c0, c1⟩⟩
    · exact Or.inr ⟨(if_neg c0).trans (if_neg c1), c0, c1⟩
theorem kind_eq (a : mMem) (k : Int32) : (f_X_isKind a k = 0 ∧ (k < 0 ∨ (¬ k < 0 ∧ (8 : Int32) < k))) ∨ (f_X_isKind a k = 1 ∧ ¬ k < 0 ∧ ¬ (8 : Int32) < k) := by
  have e8 : (8 : Int32).toInt = 8 := rfl
  have e9 : (9 : Int32).toInt = 9 := rfl
  unfold f_X_isKind
  by_cases c0 : k < 0
  · exact Or.inl ⟨if_pos c0, Or.inl c0⟩
  · by_cases c1 : (9 : Int32) ≤ k
    · have := yle c1
      exact Or.inl ⟨(if_neg c0).trans (if_pos c1), Or.inr ⟨c0, Int32.lt_iff_toInt_lt.mpr (by omega)⟩⟩
    · have := nle c1
      exact Or.inr ⟨(if_neg c0).trans (if_neg c1), c0, fun q => by have := ylt q; omega⟩
/-- the definition itself -/
theorem RR_define {N : Nat} {a b : mMem} (h : RR N a b) {k : Nat} (kd w : Int32) (l u : Int64) (hw : -1 ≤ w.toInt ∧ w.toInt ≤ 2) (hz : ¬ a.1 10 0 k = 0) (x33 : Int32) (h33 : ¬ x33 = 0) : RR N (f_P_begin a k kd w l u) (sI (sI (sI (sL (sL (sI (sI (sI b 33 0 k x33) 34 0 k kd) 35 0 k w) 40 0 k l) 41 0 k u) 36 0 k 0) 37 0 k 0) 39 0 k 0) := by
  unfold f_P_begin
  dsimp only
  refine ⟨h.1, h.2.1, h.2.2.1, ⟨fun j => ?_, h.2.2.2.1.2.1, fun j hj => ?_⟩, h.2.2.2.2.1, h.2.2.2.2.2.1, h.2.2.2.2.2.2⟩
  · have hp := h.2.2.2.1.1 j
    by_cases e : j = k
    · subst e
      simp [sI, sL, h33, hz]
      exact ⟨hp.1.2.2.2.2.2.2.1, hw⟩
    · simp [sI, sL, e]
      exact hp
  · have e : ¬ j = k := fun q => hz (by rw [← q]; exact hj)
    have hold := h.2.2.2.1.2.2 j hj
    simp [sI, sL, e]
    exact hold
theorem RR_define0 {N : Nat} {a b : mMem} (h : RR N a b) {k : Nat} (kd w : Int32) (l u : Int64) (hw : -1 ≤ w.toInt ∧ w.toInt ≤ 2) (hz : a.1 10 0 k = 0) : RR N (f_P_begin (sI (nPart a k) 10 0 k 1) k kd w l u) (sI (sI (sI (sL (sL (sI (sI (sI b 33 0 k 1) 34 0 k kd) 35 0 k w) 40 0 k l) 41 0 k u) 36 0 k 0) 37 0 k 0) 39 0 k 0) := by
  have h0 := h.2.2.2.1.2.2 k hz
  unfold f_P_begin nPart
  dsimp only
  refine ⟨h.1, h.2.1, h.2.2.1, ⟨fun j => ?_, fun j m hm => ?_, fun j hj => ?_⟩, h.2.2.2.2.1, fun i m hm hlt => ?_, h.2.2.2.2.2.2⟩
  · have hp := h.2.2.2.1.1 j
    by_cases e : j = k
    · subst e
      simp [sI, sL, rI, rL]
      exact ⟨by rw [hp.1.2.2.2.2.2.2.1, h0.1], hw⟩
    · simp [sI, sL, rI, rL, e]
      exact hp
  · have hp := h.2.2.2.1.2.1 j m hm
    by_cases e : j = k
    · subst e
      simp [sI, sL, rI, rL]
      rw [hp, h0.2 m]
    · simp [sI, sL, rI, rL, e]
      exact hp
  · by_cases e : j = k
    · subst e
      simp [sI, sL, rI, rL] at hj
    · simp [sI, sL, rI, rL, e] at hj ⊢
      exact h.2.2.2.1.2.2 j hj
  · have hq := h.2.2.2.2.2.1 i m hm (by simpa [sI, sL, rI, rL] using hlt)
    by_cases e : (a.1 4 i m).toNatClampNeg = k
    · simp [sI, sL, rI, rL, e]
    · simp [sI, sL, rI, rL, e]
      exact hq
theorem z_define {N : Nat} {a b : mMem} (h : RR N a b) (c k s : Int32) (l u : Int64) : (f_X_define a c k s l u).1 = (f_M_define b c k s l u).1 ∧ RR N (f_X_define a c k s l u).2 (f_M_define b c k s l u).2 := by
  have h' := RR_thr h
  have e0 : (0 : Int32).toInt = 0 := rfl
  have e3 : (3 : Int32).toInt = 3 := rfl
  unfold f_X_define f_M_define
  dsimp only
  rcases call_eq a c with ⟨q, c0 | ⟨c0, c1⟩⟩ | ⟨q, c0, c1⟩
  · rw [q, if_pos rfl, if_pos c0]; exact ⟨rfl, h'⟩
  · rw [q, if_pos rfl, if_neg c0, if_pos c1]; exact ⟨rfl, h'⟩
  rw [q, if_neg n10, if_neg c0, if_neg c1]
  rcases kind_eq a k with ⟨q, k0 | ⟨k0, k1⟩⟩ | ⟨q, k0, k1⟩
  · rw [q, if_pos rfl, if_pos k0]; exact ⟨rfl, h'⟩
  · rw [q, if_pos rfl, if_neg k0, if_pos k1]; exact ⟨rfl, h'⟩
  rw [q, if_neg n10, if_neg k0, if_neg k1]
  have fin : ∀ (hw : -1 ≤ s.toInt ∧ s.toInt ≤ 2), ((if a.1 10 0 c.toNatClampNeg = 0 then ((1 : Int32), f_P_begin (sI (nPart a c.toNatClampNeg) 10 0 c.toNatClampNeg 1) c.toNatClampNeg k s l u) else ((1 : Int32), f_P_begin a c.toNatClampNeg k s l u)).1 = 1) ∧ RR N (if a.1 10 0 c.toNatClampNeg = 0 then ((1 : Int32), f_P_begin (sI (nPart a c.toNatClampNeg) 10 0 c.toNatClampNeg 1) c.toNatClampNeg k s l u) else ((1 : Int32), f_P_begin a c.toNatClampNeg k s l u)).2 (sI (sI (sI (sL (sL (sI (sI (sI (sI b 20 0 0 0) 33 0 c.toNatClampNeg 1) 34 0 c.toNatClampNeg k) 35 0 c.toNatClampNeg s) 40 0 c.toNatClampNeg l) 41 0 c.toNatClampNeg u) 36 0 c.toNatClampNeg 0) 37 0 c.toNatClampNeg 0) 39 0 c.toNatClampNeg 0) := by
    intro hw
    by_cases z : a.1 10 0 c.toNatClampNeg = 0
    · rw [if_pos z]; exact ⟨rfl, RR_define0 h' k s l u hw z⟩
    · rw [if_neg z]; exact ⟨rfl, RR_define h' k s l u hw z 1 n10⟩
  by_cases s1 : s = -1
  · rw [if_pos s1, if_pos s1]
    by_cases cc : lg_cmp l u ≤ 0
    · rw [if_pos cc, if_pos cc]
      exact fin (by rw [s1]; decide)
    · rw [if_neg cc, if_neg cc]; exact ⟨rfl, h'⟩
  · rw [if_neg s1, if_neg s1, sort_eq a (sI b 20 0 0 0)]
    by_cases ss : f_M_isSort (sI b 20 0 0 0) s = 0
    · rw [if_pos ss, if_pos ss]; exact ⟨rfl, h'⟩
    · rw [if_neg ss, if_neg ss]
      by_cases cc : lg_cmp l u ≤ 0
      · rw [if_pos cc, if_pos cc]
        have := vp_in_iff.mp (sort_inM ss)
        exact fin (by omega)
      · rw [if_neg cc, if_neg cc]; exact ⟨rfl, h'⟩

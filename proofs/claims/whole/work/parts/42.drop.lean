theorem RT_drop {a b : mMem} (h : RT a b) {k : Nat} (hk : (k : Int) < (a.1 0 0 1).toInt) : RT (sI a 1 0 k 0) (sI b 22 0 k (-1)) := by
  refine ⟨h.1, h.2.1, fun j hj => ⟨?_, (h.2.2.1 j hj).2⟩, fun j hj => ?_⟩
  · rw [sI_1]; split
    · rfl
    · exact (h.2.2.1 j hj).1
  · have h1 := h.2.2.2 j hj
    refine ⟨fun z => ?_, fun z => ?_, h1.2.2⟩
    · rw [sI_1]; split
      · rfl
      · rename_i q
        refine h1.1 ?_
        rw [sI_1, if_neg (fun w => q ⟨rfl, rfl, w.2.2⟩)] at z
        exact z
    · rw [sI_1] at z ⊢
      by_cases e : j = k
      · rw [if_pos ⟨rfl, rfl, e⟩] at z
        exact absurd rfl z
      · rw [if_neg (fun w => e w.2.2)] at z ⊢
        exact h1.2.1 z
theorem RR_drop {N : Nat} {a b : mMem} (h : RR N a b) {k : Nat} (hk : (k : Int) < (a.1 0 0 1).toInt) : RR N (sI a 1 0 k 0) (sI b 22 0 k (-1)) := ⟨RT_drop h.1 hk, h.2⟩
theorem drop_l {N : Nat} : ∀ (n : Nat) (x x4 : Int32) (a b : mMem), RR N a b → 0 ≤ x4.toInt → (f_X_drop_l36 n x x4 a).1 = (f_M_drop_l42 n x x4 b).1 ∧ RR N (f_X_drop_l36 n x x4 a).2 (f_M_drop_l42 n x x4 b).2 := by
  intro n
  induction n with
  | zero => intro x x4 a b h _; exact ⟨rfl, h⟩
  | succ n ih =>
    intro x x4 a b h hp
    have hT := h.1
    unfold f_X_drop_l36 f_M_drop_l42
    rw [hT.1]
    by_cases c : a.1 0 0 1 ≤ x4
    · rw [if_pos c, if_pos c]; exact ⟨rfl, h⟩
    · rw [if_neg c, if_neg c]
      have hc := cl_of hp
      have g := nle c
      have hkm : (x4.toNatClampNeg : Int) < (a.1 0 0 1).toInt := by omega
      have hj := hT.2.2.2 x4.toNatClampNeg hkm
      have hp' := inc_pos hp c
      by_cases z : a.1 1 0 x4.toNatClampNeg = 0
      · rw [if_pos z, if_pos (hj.1 z), if_pos (show f_X_hasLostItsPlace a none = 0 from rfl)]
        exact ih _ _ _ _ h hp'
      · rw [if_neg z, if_neg (fun q => z ((kindM hT hkm).mp q)), hj.2.2.1]
        by_cases w : a.1 2 x4.toNatClampNeg 0 = 0
        · have e1 : a.1 2 x4.toNatClampNeg 1 = -1 := Int32.toInt_inj.mp (hj.2.2.2.2.2.2.1 w).1
          rw [if_pos e1, if_pos (show f_X_hasLostItsPlace a (some x4.toNatClampNeg) = 0 from if_pos w)]
          exact ih _ _ _ _ h hp'
        · have hw := hj.2.2.2.2.2.2.2 w
          have e1 : ¬ a.1 2 x4.toNatClampNeg 1 = -1 := fun q => by
            have := congrArg Int32.toInt q
            have em : (-1 : Int32).toInt = -1 := rfl
            omega
          rw [if_neg e1]
          have hc2 := cl_of hw.1
          have hk2 : ((a.1 2 x4.toNatClampNeg 1).toNatClampNeg : Int) < (a.1 0 0 1).toInt := by omega
          rcases thing_eq hT (a.1 2 x4.toNatClampNeg 1) with ⟨q1, q2⟩ | ⟨-, -, q0, q1, q2⟩
          · have hl : f_X_hasLostItsPlace a (some x4.toNatClampNeg) = 1 := (if_neg w).trans (oC_n q1)
            rw [if_neg (show ¬ f_X_hasLostItsPlace a (some x4.toNatClampNeg) = 0 by rw [hl]; exact n10)]
            have hz : a.1 1 0 (a.1 2 x4.toNatClampNeg 1).toNatClampNeg = 0 := by
              by_cases y : a.1 1 0 (a.1 2 x4.toNatClampNeg 1).toNatClampNeg = 0
              · exact y
              · unfold f_X_thingAt at q1
                have hm := hT.2.1
                have e60 : (60 : Int32).toInt = 60 := rfl
                rw [if_neg (pos_lt hw.1), if_neg (fun q : (60 : Int32) ≤ _ => by have := yle q; omega), if_neg y] at q1
                cases q1
            rw [if_pos ((kindM hT hk2).mpr hz)]
            exact ih _ _ _ _ (RR_drop h hkm) hp'
          · have hl : f_X_hasLostItsPlace a (some x4.toNatClampNeg) = 0 := (if_neg w).trans (oC_s q1)
            rw [if_pos hl, if_neg (fun q => q0 ((kindM hT hk2).mp q))]
            exact ih _ _ _ _ h hp'
theorem z_drop {N : Nat} {a b : mMem} (h : RR N a b) (n : Int32) : (f_X_drop a n).1 = (f_M_drop b n).1 ∧ RR N (f_X_drop a n).2 (f_M_drop b n).2 := by
  have h' := RR_thr h
  unfold f_X_drop f_M_drop
  dsimp only
  rcases thing_eq h'.1 n with ⟨e1, e2⟩ | ⟨h0, h1, hz, e1, e2⟩
  · rw [e1, e2]
    exact ⟨rfl, h'⟩
  · rw [e1, e2, if_neg n10]
    simp only [oC]
    have hc := cl_of h0
    have hj := h'.1.2.2.2 n.toNatClampNeg (by omega)
    rw [hj.2.2.2.1]
    rcases isOn_eq h'.2.1 (a.1 2 n.toNatClampNeg 2).toNatClampNeg with ⟨q1, q2, -⟩ | ⟨q1, q2, -⟩
    · rw [q1, if_pos rfl, if_pos q2]
      exact drop_l 64 1 (n + 1) _ _ (RR_drop h' (by omega)) (inc_pos1 (thingAt_in e1).1)
    · rw [q1, if_neg n10, if_neg q2]
      exact ⟨rfl, h'⟩
/-- build -/
theorem z_build {N : Nat} {a b : mMem} (h : RR N a b) (n t : Int32) : (f_X_build a n t).1 = (f_M_build b n t).1 ∧ RR N (f_X_build a n t).2 (f_M_build b n t).2 := by
  have h' := RR_thr h
  unfold f_X_build f_M_build f_B_begin
  dsimp only
  rcases house_eq h'.1 n with ⟨e1, e2⟩ | ⟨h0, h1, hz, e1, e2, hk, hh⟩
  · rw [e1, e2]
    exact ⟨rfl, h'⟩
  · rw [e1, e2, if_neg n10]
    simp only [oC, hh]
    have hc := cl_of h0
    have ee0 : (0 : Int32).toInt = 0 := rfl
    have ee1 : (1 : Int32).toInt = 1 := rfl
    have ee9 : (9 : Int32).toInt = 9 := rfl
    rcases isOn_eq h'.2.1 n.toNatClampNeg with ⟨q1, q2, q3⟩ | ⟨q1, q2, q3⟩
    · have q2' := yle q2
      rw [q1, if_pos rfl, if_neg (fun q : (0 : Int32) < (sI b 20 0 0 0).1 25 0 n.toNatClampNeg => by have := ylt q; omega)]
      by_cases c : t < 1
      · rw [if_pos c, if_pos c]; exact ⟨rfl, h'⟩
      · rw [if_neg c, if_neg c]
        by_cases d : t ≤ 9
        · rw [if_pos d, if_pos d]
          have gc := nlt c
          have gd := yle d
          refine ⟨rfl, h'.1, fun j => ?_, h'.2.2.1, h'.2.2.2.1, h'.2.2.2.2.1, fun j k hk6 hlt => ?_, fun j hj => ?_⟩
          · have hb := h'.2.1 j
            by_cases e : j = n.toNatClampNeg
            · subst e
              refine ⟨⟨?_, ?_, ?_⟩, ?_, ?_, ?_⟩
              · simp [sI]
              · simp [sI]
              · simp [sI]; exact hb.1.2.2
              · simp [sI]; omega
              · simp [sI]; exact hb.2.2.1
              · exact hb.2.2.2
            · refine ⟨⟨?_, ?_, ?_⟩, ?_, ?_, ?_⟩
              · simp [sI, e]; exact hb.1.1
              · simp [sI, e]; exact hb.1.2.1
              · simp [sI, e]; exact hb.1.2.2
              · simp [sI, e]; exact hb.2.1
              · simp [sI, e]; exact hb.2.2.1
              · exact hb.2.2.2
          · refine h'.2.2.2.2.2.1 j k hk6 ?_
            simpa [sI] using hlt
          · have hzz := h'.2.2.2.2.2.2 j hj
            have hj' : (a.1 0 0 1).toInt ≤ j := hj
            have e : ¬ j = n.toNatClampNeg := by omega
            refine ⟨?_, ?_, ?_, hzz.2.2.2⟩
            · simp [sI, e]; exact hzz.1
            · simp [sI, e]; exact hzz.2.1
            · simp [sI, e]; exact hzz.2.2.1
        · rw [if_neg d, if_neg d]; exact ⟨rfl, h'⟩
    · have q2' := nle q2
      rw [q1, if_neg n10, if_pos (show (0 : Int32) < (sI b 20 0 0 0).1 25 0 n.toNatClampNeg from Int32.lt_iff_toInt_lt.mpr q2')]
      exact ⟨rfl, h'⟩

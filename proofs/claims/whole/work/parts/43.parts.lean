theorem part_eq {a b : mMem} (h : RP a b) (c : Int32) : (f_X_partAt a c = none ∧ f_M_isDefined b c = 0) ∨ (vp_in c 12 ∧ ¬ a.1 10 0 c.toNatClampNeg = 0 ∧ f_X_partAt a c = some c.toNatClampNeg ∧ f_M_isDefined b c = 1) := by
  unfold f_X_partAt f_M_isDefined
  by_cases c0 : c < 0
  · rw [if_pos c0, if_pos (show f_X_isCall a c = 0 from if_pos c0)]; exact Or.inl ⟨rfl, rfl⟩
  · rw [if_neg c0]
    by_cases c1 : (12 : Int32) ≤ c
    · rw [if_pos c1, if_pos (show f_X_isCall a c = 0 from (if_neg c0).trans (if_pos c1))]; exact Or.inl ⟨rfl, rfl⟩
    · rw [if_neg c1, if_neg (show ¬ f_X_isCall a c = 0 by rw [show f_X_isCall a c = 1 from (if_neg c0).trans (if_neg c1)]; exact n10)]
      by_cases z : a.1 10 0 c.toNatClampNeg = 0
      · rw [if_pos z, if_pos ((h.1 _).2.1.mpr z)]; exact Or.inl ⟨rfl, rfl⟩
      · rw [if_neg z, if_neg (fun q => z ((h.1 _).2.1.mp q))]
        exact Or.inr ⟨vin 12 (b := 12) (by decide) c0 c1, z, rfl, rfl⟩
theorem row_e {c x : Int32} {d A B : Nat} {D : Int32} (hD : D.toInt = d) (hc : vp_in c A) (hx : 0 ≤ x.toInt ∧ x.toInt < B) (hd : d ≤ 100 ∧ A ≤ 100 ∧ B ≤ 100) : (D * c + x).toNatClampNeg = d * c.toNatClampNeg + x.toNatClampNeg := by
  have hm : d * (A - 1) ≤ 100 * 100 := Nat.mul_le_mul hd.1 (by omega)
  have h1 := (in_row (N := d * (A - 1) + B) hD hc hx hd (Nat.le_refl _)) 
  have h2 : (D * c + x).toInt = d * c.toInt + x.toInt := by
    have e := vp_in_iff.mp hc
    obtain ⟨y, hy⟩ : ∃ y : Nat, c.toInt = y := ⟨c.toInt.toNat, by omega⟩
    have hyy : d * y ≤ d * (A - 1) := Nat.mul_le_mul_left d (by omega)
    have e1 : (D * c).toInt = ((d * y : Nat) : Int) := by
      rw [sm_mul] <;> rw [hD, hy] <;> push_cast <;> omega
    rw [sm_add] <;> rw [e1] <;> (try rw [hy]) <;> push_cast <;> omega
  have e1 := cl_of (vp_in_iff.mp hc).1
  have e2 := cl_of hx.1
  have e3 : 0 ≤ (D * c + x).toInt := by
    rw [h2, ← e1]
    have : (0 : Int) ≤ (d : Int) * (c.toNatClampNeg : Int) := by
      rw [← Int.natCast_mul]
      exact Int.natCast_nonneg _
    omega
  have e4 := cl_of e3
  have : ((D * c + x).toNatClampNeg : Int) = ((d * c.toNatClampNeg + x.toNatClampNeg : Nat) : Int) := by
    rw [e4, h2, ← e1, ← e2]
    push_cast
    rfl
  omega
theorem row_inj {d x y u v : Nat} (hu : u < d) (hv : v < d) (h : d * x + u = d * y + v) : x = y ∧ u = v := by
  have h1 : (d * x + u) / d = x := by rw [Nat.mul_add_div (by omega), Nat.div_eq_of_lt hu, Nat.add_zero]
  have h2 : (d * y + v) / d = y := by rw [Nat.mul_add_div (by omega), Nat.div_eq_of_lt hv, Nat.add_zero]
  rw [h] at h1
  have : x = y := h1.symm.trans h2
  subst this
  exact ⟨rfl, by omega⟩
theorem z_answer {N : Nat} {a b : mMem} (h : RR N a b) (c : Int32) (v : Int64) : (f_X_answer a c v).1 = (f_M_answer b c v).1 ∧ RR N (f_X_answer a c v).2 (f_M_answer b c v).2 := by
  have h' := RR_thr h
  unfold f_X_answer f_M_answer f_P_addToTable
  dsimp only
  have e5 : (5 : Int32).toInt = 5 := rfl
  have e1 : (1 : Int32).toInt = 1 := rfl
  rcases part_eq h'.2.2.2.1 c with ⟨q1, q2⟩ | ⟨hc, hz, q1, q2⟩
  · rw [q1, q2]; exact ⟨rfl, h'⟩
  · rw [q1, q2, if_neg n10]
    simp only [oC]
    have hp := h.2.2.2.1.1 c.toNatClampNeg
    have ea : (sI b 20 0 0 0).1 36 0 c.toNatClampNeg = a.1 11 c.toNatClampNeg 5 := hp.1.2.2.2.2.1
    have hr := hp.2.2.2.1
    by_cases d : a.1 11 c.toNatClampNeg 5 < 5
    · have gd := ylt d
      have d2 : ¬ (5 : Int32) ≤ a.1 11 c.toNatClampNeg 5 := fun q => by have := yle q; omega
      have d3 : ¬ a.1 11 c.toNatClampNeg 5 = 5 := fun q => by have := congrArg Int32.toInt q; omega
      rw [if_pos d, if_neg d2, ea, if_neg d3]
      have hidx : ((5 : Int32) * c + a.1 11 c.toNatClampNeg 5).toNatClampNeg = 5 * c.toNatClampNeg + (a.1 11 c.toNatClampNeg 5).toNatClampNeg := row_e (d := 5) (A := 12) (B := 5) (by decide) hc ⟨hr.1, by omega⟩ (by decide)
      have hcl := cl_of hr.1
      have hs : (a.1 11 c.toNatClampNeg 5 + 1).toInt = (a.1 11 c.toNatClampNeg 5).toInt + 1 := by rw [sm_add] <;> omega
      have hm : (sL (sI b 20 0 0 0) 42 0 ((5 : Int32) * c + a.1 11 c.toNatClampNeg 5).toNatClampNeg v).1 36 0 c.toNatClampNeg = a.1 11 c.toNatClampNeg 5 := ea
      rw [hm, hidx]
      refine ⟨by simp [sI, sL], h'.1, h'.2.1, h'.2.2.1, ⟨fun j => ?_, fun j k hk => ?_, fun j hj => ?_⟩, h'.2.2.2.2.1, h'.2.2.2.2.2.1, h'.2.2.2.2.2.2⟩
      · have hp := h'.2.2.2.1.1 j
        by_cases e : j = c.toNatClampNeg
        · subst e
          refine ⟨⟨?_, ?_, ?_, ?_, ?_, ?_, ?_, ?_⟩, ?_, ?_, ?_, ?_, ?_⟩
          · simp [sI, sL]; exact hp.1.1
          · simp [sI, sL]; exact hp.1.2.1
          · simp [sI, sL]; exact hp.1.2.2.1
          · simp [sI, sL]; exact hp.1.2.2.2.1
          · simp [sI, sL]
          · simp [sI, sL]; exact hp.1.2.2.2.2.2.1
          · simp [sI, sL]; exact hp.1.2.2.2.2.2.2.1
          · simp [sI, sL]; exact hp.1.2.2.2.2.2.2.2
          · simp [sI, sL]; exact hp.2.1
          · simp [sI, sL]; exact hp.2.2.1
          · simp [sI, sL, -Int32.toInt_add]; omega
          · simp [sI, sL, -Int32.toInt_add]
            have := hp.2.2.2.2.1
            omega
          · simp [sI, sL]; exact hp.2.2.2.2.2
        · simp only [sI, sL]
          simp [e]
          simp [sI] at hp
          exact hp
      · show (sL (sI b 20 0 0 0) 42 0 (5 * c.toNatClampNeg + (a.1 11 c.toNatClampNeg 5).toNatClampNeg) v).2 42 0 (5 * j + k) = (sL a 12 c.toNatClampNeg (a.1 11 c.toNatClampNeg 5).toNatClampNeg v).2 12 j k
        rw [sL_2, sL_2]
        have hold := h'.2.2.2.1.2.1 j k hk
        by_cases e : j = c.toNatClampNeg ∧ k = (a.1 11 c.toNatClampNeg 5).toNatClampNeg
        · rw [if_pos ⟨rfl, rfl, by rw [e.1, e.2]⟩, if_pos ⟨rfl, e.1, e.2⟩]
        · rw [if_neg (fun q => e (row_inj hk (by omega) q.2.2)), if_neg (fun q => e ⟨q.2.1, q.2.2⟩)]
          exact hold
      · have e : ¬ j = c.toNatClampNeg := fun q => hz (by rw [← q]; exact hj)
        have hold := h'.2.2.2.1.2.2 j hj
        simp [sI, sL, e]
        exact hold
    · have gd := nlt d
      have d3 : a.1 11 c.toNatClampNeg 5 = 5 := Int32.toInt_inj.mp (by omega)
      rw [if_neg d, ea, if_pos d3]
      exact ⟨rfl, h'⟩
theorem z_fails {N : Nat} {a b : mMem} (h : RR N a b) (c s t : Int32) : (f_X_fails a c s t).1 = (f_M_fails b c s t).1 ∧ RR N (f_X_fails a c s t).2 (f_M_fails b c s t).2 := by
  have h' := RR_thr h
  unfold f_X_fails f_M_fails
  dsimp only
  have e0 : (0 : Int32).toInt = 0 := rfl
  have e1 : (1 : Int32).toInt = 1 := rfl
  have e3 : (3 : Int32).toInt = 3 := rfl
  have e9 : (9 : Int32).toInt = 9 := rfl
  rcases part_eq h'.2.2.2.1 c with ⟨q1, q2⟩ | ⟨hc, hz, q1, q2⟩
  · rw [q1, q2]; exact ⟨rfl, h'⟩
  · rw [q1, q2, if_neg n10]
    simp only [oC]
    by_cases c1 : s < 1
    · rw [if_pos c1, if_pos c1]; exact ⟨rfl, h'⟩
    rw [if_neg c1, if_neg c1]
    by_cases c2 : (3 : Int32) < s
    · rw [if_pos c2, if_pos c2]; exact ⟨rfl, h'⟩
    rw [if_neg c2, if_neg c2]
    by_cases c3 : t < 0
    · rw [if_pos c3, if_pos c3]; exact ⟨rfl, h'⟩
    rw [if_neg c3, if_neg c3]
    by_cases c4 : t ≤ 9
    · rw [if_pos c4, if_pos c4]
      have g1 := nlt c1
      have g2 := nlt c2
      have g3 := nlt c3
      refine ⟨rfl, h'.1, h'.2.1, h'.2.2.1, ⟨fun j => ?_, h'.2.2.2.1.2.1, fun j hj => ?_⟩, h'.2.2.2.2.1, h'.2.2.2.2.2.1, h'.2.2.2.2.2.2⟩
      · have hp := h'.2.2.2.1.1 j
        by_cases e : j = c.toNatClampNeg
        · subst e
          simp [sI] at hp ⊢
          refine ⟨⟨hp.1.1, hp.1.2.1, hp.1.2.2.1, hp.1.2.2.2.1, hp.1.2.2.2.2.1, hp.1.2.2.2.2.2.1⟩, hp.2.1, hp.2.2.1, hp.2.2.2.1, hp.2.2.2.2.1, by omega, fun _ => by omega⟩
        · simp [sI, e] at hp ⊢
          exact hp
      · have e : ¬ j = c.toNatClampNeg := fun q => hz (by rw [← q]; exact hj)
        have hold := h'.2.2.2.1.2.2 j hj
        simp [sI, e]
        exact hold
    · rw [if_neg c4, if_neg c4]; exact ⟨rfl, h'⟩

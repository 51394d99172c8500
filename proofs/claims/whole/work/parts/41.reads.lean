theorem n10 : ¬ (1 : Int32) = 0 := by decide
theorem kind_ne {a b : mMem} (h : RT a b) {k : Nat} (hk : (k : Int) < (a.1 0 0 1).toInt) : ¬ a.1 2 k 0 = -1 := fun q => by
  have := (h.2.2.2 k hk).2.2.2.2.1
  rw [q] at this
  exact absurd this.1 (by decide)
theorem kindM {a b : mMem} (h : RT a b) {k : Nat} (hk : (k : Int) < (a.1 0 0 1).toInt) : b.1 22 0 k = -1 ↔ a.1 1 0 k = 0 := by
  constructor
  · intro q
    by_cases z : a.1 1 0 k = 0
    · exact z
    · rw [(h.2.2.2 k hk).2.1 z] at q
      exact absurd q (kind_ne h hk)
  · exact (h.2.2.2 k hk).1
/-- about: the reference's loop counts over all numbers, the class's from the next one on -/
theorem about_lo {a b : mMem} (h : RT a b) {x1 : Int32} (x2 : Int32) (h1 : 0 ≤ x1.toInt) (h1m : x1.toInt < (a.1 0 0 1).toInt) : ∀ (n : Nat) (x4 : Int32), 0 ≤ x4.toInt → x4.toInt ≤ x1.toInt + 1 → ((x1.toInt + 1) - x4.toInt).toNat ≤ n → f_M_about_l20 n x1 x2 0 x4 b = f_M_about_l20 (n - ((x1.toInt + 1) - x4.toInt).toNat) x1 x2 0 (x1 + 1) b := by
  intro n
  induction n with
  | zero =>
    intro x4 h0 hle hn
    have e : x4 = x1 + 1 := by
      apply Int32.toInt_inj.mp
      rw [inc_toInt (b := a.1 0 0 1) (fun q => by have := yle q; omega)]
      omega
    rw [e, inc_toInt (b := a.1 0 0 1) (fun q => by have := yle q; omega)]
    simp
  | succ n ih =>
    intro x4 h0 hle hn
    have ei : (x1 + 1).toInt = x1.toInt + 1 := inc_toInt (b := a.1 0 0 1) (fun q => by have := yle q; omega)
    by_cases he : x4.toInt = x1.toInt + 1
    · have e : x4 = x1 + 1 := Int32.toInt_inj.mp (by rw [ei]; exact he)
      rw [e, ei]
      simp
    · have c : ¬ a.1 0 0 1 ≤ x4 := fun q => by have := yle q; omega
      have c' : ¬ b.1 20 0 1 ≤ x4 := by rw [h.1]; exact c
      have hc := cl_of h0
      have hj := h.2.2.2 x4.toNatClampNeg (by omega)
      have es := inc_toInt c
      have step : f_M_about_l20 (n + 1) x1 x2 0 x4 b = f_M_about_l20 n x1 x2 0 (x4 + 1) b := by
        rw [f_M_about_l20, if_neg c']
        by_cases z : b.1 22 0 x4.toNatClampNeg = -1
        · rw [if_pos z]; rfl
        · rw [if_neg z, if_neg]
          · rfl
          · rw [hj.2.2.1]
            intro q
            by_cases w : a.1 2 x4.toNatClampNeg 0 = 0
            · have := (hj.2.2.2.2.2.2.1 w).1
              rw [q] at this
              omega
            · have := (hj.2.2.2.2.2.2.2 w)
              rw [q] at this
              omega
      rw [step, ih (x4 + 1) (by omega) (by omega) (by omega)]
      congr 1
      omega
theorem about_hi {a b : mMem} (h : RT a b) {x1 : Int32} (x2 : Int32) : ∀ (n : Nat) (x3 x4 : Int32), 0 ≤ x4.toInt → ((a.1 0 0 1).toInt - x4.toInt).toNat < n → ∀ m : Nat, ((a.1 0 0 1).toInt - x4.toInt).toNat < m → f_M_about_l20 n x1 x2 x3 x4 b = ((if x2 = 0 then b.1 22 0 x1.toNatClampNeg else if x2 = 1 then b.1 23 0 x1.toNatClampNeg else if x2 = 2 then b.1 24 0 x1.toNatClampNeg else if x2 = 3 then f_X_lyingJustIn_l6 m x1 x3 x4 a else -1), b) := by
  intro n
  induction n with
  | zero => intro x3 x4 _ hn; exact absurd hn (Nat.not_lt_zero _)
  | succ n ih =>
    intro x3 x4 hp hn m hm
    cases m with
    | zero => exact absurd hm (Nat.not_lt_zero _)
    | succ m =>
      rw [f_M_about_l20, f_X_lyingJustIn_l6, h.1]
      by_cases c : a.1 0 0 1 ≤ x4
      · rw [if_pos c, if_pos c]
        split
        · rfl
        · split
          · rfl
          · split
            · rfl
            · split
              · rfl
              · rfl
      · rw [if_neg c, if_neg c]
        have hc := cl_of hp
        have g := nle c
        have hj := h.2.2.2 x4.toNatClampNeg (by omega)
        have hp' := inc_pos hp c
        have hn' := inc_lt c hn
        have hm' := inc_lt c hm
        rw [Int32.add_zero]
        by_cases z : a.1 1 0 x4.toNatClampNeg = 0
        · rw [if_pos (hj.1 z), if_pos z]
          exact ih _ _ hp' hn' m hm'
        · rw [if_neg (fun q => z ((kindM h (by omega)).mp q)), if_neg z, hj.2.2.1]
          by_cases q : a.1 2 x4.toNatClampNeg 1 = x1
          · rw [if_pos q, if_pos q]; exact ih _ _ hp' hn' m hm'
          · rw [if_neg q, if_neg q]; exact ih _ _ hp' hn' m hm'
theorem z_about {N : Nat} {a b : mMem} (h : RR N a b) (n w : Int32) : f_X_about a n w = (f_M_about b n w).1 ∧ RR N a (f_M_about b n w).2 := by
  have h' := RR_thr h
  unfold f_X_about f_M_about
  dsimp only
  rcases thing_eq h'.1 n with ⟨e1, e2⟩ | ⟨h0, h1, hz, e1, e2⟩
  · rw [e1, e2]
    exact ⟨rfl, h'⟩
  · have hm := h.1.2.1
    have hc := cl_of h0
    have hj := h.1.2.2.2 n.toNatClampNeg (by omega)
    have ei : (n + 1).toInt = n.toInt + 1 := inc_toInt (b := a.1 0 0 1) (fun q => by have := yle q; omega)
    have e0 : (0 : Int32).toInt = 0 := rfl
    rw [e1, e2, if_neg n10, about_lo h'.1 w h0 h1 64 0 (by decide) (by omega) (by omega), about_hi h'.1 w _ 0 (n + 1) (by omega) (by omega) 64 (by omega)]
    refine ⟨?_, h'⟩
    show (if w = 0 then a.1 2 n.toNatClampNeg 0 else if w = 1 then a.1 2 n.toNatClampNeg 1 else if w = 2 then a.1 2 n.toNatClampNeg 2 else if w = 3 then f_X_lyingJustIn_l6 64 n 0 (n + 1) a else -1) = (if w = 0 then b.1 22 0 n.toNatClampNeg else if w = 1 then b.1 23 0 n.toNatClampNeg else if w = 2 then b.1 24 0 n.toNatClampNeg else if w = 3 then f_X_lyingJustIn_l6 64 n 0 (n + 1) a else -1)
    rw [hj.2.1 hz, hj.2.2.1, hj.2.2.2.1]
theorem sort_eq (a b : mMem) (s : Int32) : f_X_isSort a s = f_M_isSort b s := rfl
theorem z_collected {N : Nat} {a b : mMem} (h : RR N a b) (s : Int32) : f_X_collected a s = (f_M_collected b s).1 ∧ RR N a (f_M_collected b s).2 := by
  unfold f_X_collected f_M_collected f_C_size
  dsimp only
  rw [sort_eq a (sI b 20 0 0 0)]
  by_cases c : f_M_isSort (sI b 20 0 0 0) s = 0
  · rw [if_pos c, if_pos c]
    exact ⟨rfl, RR_thr h⟩
  · rw [if_neg c, if_neg c, if_neg c]
    exact ⟨((h.2.2.1 _).1).symm, RR_thr h⟩
theorem z_building {N : Nat} {a b : mMem} (h : RR N a b) (n w : Int32) : f_X_building a n w = (f_M_building b n w).1 ∧ RR N a (f_M_building b n w).2 := by
  have h' := RR_thr h
  unfold f_X_building f_M_building
  dsimp only
  rcases house_eq h'.1 n with ⟨e1, e2⟩ | ⟨h0, h1, hz, e1, e2, hk, hh⟩
  · rw [e1, e2]
    exact ⟨rfl, h'⟩
  · rw [e1, e2, if_neg n10]
    simp only [oC, hh]
    have hb := h.2.1 n.toNatClampNeg
    by_cases c : w = 0
    · rw [if_pos c, if_pos c]; exact ⟨hb.1.1.symm, h'⟩
    · rw [if_neg c, if_neg c]
      by_cases d : w = 1
      · rw [if_pos d, if_pos d]; exact ⟨hb.1.2.2.symm, h'⟩
      · rw [if_neg d, if_neg d]; exact ⟨rfl, h'⟩
theorem z_count {N : Nat} {a b : mMem} (h : RR N a b) (w : Int32) : f_X_count a w = (f_M_count b w).1 ∧ RR N a (f_M_count b w).2 := by
  have h' := RR_thr h
  have ho := h.2.2.2.2.1.2.1
  unfold f_X_count f_M_count
  dsimp only
  have e0 : (0 : Int32).toInt = 0 := rfl
  have e4 : (4 : Int32).toInt = 4 := rfl
  by_cases c0 : w = 0
  · subst c0; exact ⟨ho.1.symm, h'⟩
  by_cases c1 : w = 1
  · subst c1; exact ⟨ho.2.1.symm, h'⟩
  by_cases c2 : w = 2
  · subst c2; exact ⟨ho.2.2.1.symm, h'⟩
  by_cases c3 : w = 3
  · subst c3; exact ⟨ho.2.2.2.1.symm, h'⟩
  by_cases c4 : w = 4
  · subst c4; exact ⟨ho.2.2.2.2.symm, h'⟩
  rw [if_neg c0, if_neg c1, if_neg c2, if_neg c3, if_neg c4]
  have d0 := sw_ne 0 (by decide) c0
  have d1 := sw_ne 1 (by decide) c1
  have d2 := sw_ne 2 (by decide) c2
  have d3 := sw_ne 3 (by decide) c3
  have d4 := sw_ne 4 (by decide) c4
  split
  · exact ⟨rfl, h'⟩
  · split
    · rename_i p q
      have := nlt p
      have := yle q
      omega
    · exact ⟨rfl, h'⟩
/-- where the i-th latest lies -/
theorem spot_eq {N : Nat} {a b : mMem} (h : RO N a b) (hN : N ≤ 1000000) (i : Int32) : (f_O_spotOf a i = -1 ∧ f_M_isTold b i = 0) ∨ (¬ f_O_spotOf a i = -1 ∧ f_M_isTold b i = 1 ∧ f_M_placeOf b i = f_O_spotOf a i) := by
  obtain ⟨h1, h2, n, hn, e5, e4⟩ := h
  have eb : b.1 46 0 0 = nI n := by rw [h2.1, e5]
  have ec : (0 : Int32).toNatClampNeg = 0 := rfl
  have e0 : (0 : Int32).toInt = 0 := rfl
  have e40 : (40 : Int32).toInt = 40 := rfl
  have en : (nI n).toInt = n := nI_toInt (by omega)
  unfold f_O_spotOf f_M_isTold
  rw [ec, eb, e5, e4]
  by_cases c0 : i < 0
  · rw [if_pos c0, if_pos c0]; exact Or.inl ⟨rfl, rfl⟩
  rw [if_neg c0, if_neg c0]
  by_cases c1 : (40 : Int32) ≤ i
  · rw [if_pos c1, if_pos c1]; exact Or.inl ⟨rfl, rfl⟩
  rw [if_neg c1, if_neg c1]
  have g0 := nlt c0
  have g1 := nle c1
  by_cases c2 : nI n ≤ i
  · rw [if_pos c2, if_neg (fun q : i < nI n => by have := yle c2; have := ylt q; omega)]
    exact Or.inl ⟨rfl, rfl⟩
  rw [if_neg c2]
  have g2 := nle c2
  rw [if_pos (show i < nI n from Int32.lt_iff_toInt_lt.mpr g2)]
  obtain ⟨j, hj, rfl⟩ := nI_of c0
  rw [nI_toInt hj] at g0 g1 g2
  have hjn : j + 1 ≤ n := by omega
  have hp : f_M_placeOf b (nI j) = nI ((n - 1 - j) % 40) := by
    unfold f_M_placeOf
    rw [ec, eb]
    have s1 : nI n - 1 = nI (n - 1) := pk_sub (a := n) (b := 1) (by omega)
    have s2 : nI (n - 1) - nI j = nI (n - 1 - j) := pk_sub (by omega)
    rw [s1, s2]
    exact pk_rem (a := n - 1 - j) (d := 40) (by omega) (by decide) (by decide)
  have s3 : (nI (n % 40) - 1).toInt = (n % 40 : Nat) - 1 := by
    have q1 : (1 : Int32).toInt = 1 := rfl
    rw [sm_sub] <;> rw [nI_toInt (by omega)] <;> omega
  have s4 : (nI (n % 40) - 1 - nI j).toInt = (n % 40 : Nat) - 1 - j := by
    rw [sm_sub] <;> rw [s3, nI_toInt hj] <;> omega
  refine Or.inr ?_
  rw [hp]
  by_cases c3 : (0 : Int32) ≤ nI (n % 40) - 1 - nI j
  · rw [if_pos c3]
    have g3 := yle c3
    rw [s4, e0] at g3
    have ev : (n - 1 - j) % 40 = n % 40 - 1 - j := by omega
    have es : nI (n % 40) - 1 - nI j = nI ((n - 1 - j) % 40) := Int32.toInt_inj.mp (by rw [s4, nI_toInt (by omega)]; omega)
    refine ⟨fun q => ?_, rfl, es.symm⟩
    have := congrArg Int32.toInt q
    rw [s4] at this
    have em : (-1 : Int32).toInt = -1 := rfl
    omega
  · rw [if_neg c3]
    have g3 := nle c3
    rw [s4, e0] at g3
    have s5 : (nI (n % 40) - 1 - nI j + 40).toInt = (n % 40 : Nat) - 1 - j + 40 := by
      rw [sm_add] <;> rw [s4, e40] <;> omega
    have es : nI (n % 40) - 1 - nI j + 40 = nI ((n - 1 - j) % 40) := Int32.toInt_inj.mp (by rw [s5, nI_toInt (by omega)]; omega)
    refine ⟨fun q => ?_, rfl, es.symm⟩
    have := congrArg Int32.toInt q
    rw [s5] at this
    have em : (-1 : Int32).toInt = -1 := rfl
    omega
theorem z_told {N : Nat} {a b : mMem} (h : RR N a b) (hN : N ≤ 1000000) (i w : Int32) : f_X_told a i w = (f_M_told b i w).1 ∧ RR N a (f_M_told b i w).2 := by
  have h' := RR_thr h
  unfold f_X_told f_M_told
  dsimp only
  have ho := h.2.2.2.2.1.1 (f_O_spotOf a i).toNatClampNeg
  rcases spot_eq h'.2.2.2.2.1 hN i with ⟨e1, e2⟩ | ⟨e1, e2, e3⟩
  · rw [e1, e2]
    exact ⟨rfl, h'⟩
  · rw [if_neg e1, e2, if_neg n10, e3]
    split
    · exact ⟨ho.1.symm, h'⟩
    · split
      · exact ⟨ho.2.1.symm, h'⟩
      · split
        · exact ⟨ho.2.2.1.symm, h'⟩
        · exact ⟨rfl, h'⟩
theorem z_value {N : Nat} {a b : mMem} (h : RR N a b) (hN : N ≤ 1000000) (i : Int32) : f_X_value a i = (f_M_value b i).1 ∧ RR N a (f_M_value b i).2 := by
  have h' := RR_thr h
  unfold f_X_value f_M_value
  dsimp only
  have ho := h.2.2.2.2.1.1 (f_O_spotOf a i).toNatClampNeg
  rcases spot_eq h'.2.2.2.2.1 hN i with ⟨e1, e2⟩ | ⟨e1, e2, e3⟩
  · rw [e1, e2]
    exact ⟨rfl, h'⟩
  · rw [if_neg e1, e2, if_neg n10, e3]
    exact ⟨ho.2.2.2.symm, h'⟩

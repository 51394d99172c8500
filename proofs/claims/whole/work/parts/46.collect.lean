theorem hsum_ext {f g : Nat → Int32} {base : Nat} : ∀ n : Nat, (∀ i, i < n → f (base + i) = g (base + i)) → hsum f base n = hsum g base n := by
  intro n
  induction n with
  | zero => intro _; rfl
  | succ n ih =>
    intro h
    unfold hsum
    rw [ih (fun i hi => h i (by omega)), h n (by omega)]
theorem RR_collect {N : Nat} {a b : mMem} (h : RR N a b) {s : Nat} (hs : s < 3) (v : Int32) (hh : (a.1 8 0 s).toInt < 30 ∧ (0 < s → (a.1 8 0 s).toInt < 20)) (x : Int32) (hx : x = a.1 8 0 s) : RR N (sI (sL a 9 0 s (31 * a.2 9 0 s + v.toInt64 + 1)) 8 0 s (a.1 8 0 s + 1)) (sI (sI b 32 0 (30 * s + (a.1 8 0 s).toNatClampNeg) v) 31 0 s (x + 1)) := by
  subst hx
  have hC := h.2.2.1
  have e1 : (1 : Int32).toInt = 1 := rfl
  refine ⟨h.1, h.2.1, fun j => ?_, h.2.2.2⟩
  have hj := hC j
  have hs0 := hC s
  have es : (a.1 8 0 s + 1).toInt = (a.1 8 0 s).toInt + 1 := by rw [sm_add] <;> omega
  have hcl := cl_of hs0.2.1.1
  by_cases e : j = s
  · subst e
    have f8 : (sI (sL a 9 0 j (31 * a.2 9 0 j + v.toInt64 + 1)) 8 0 j (a.1 8 0 j + 1)).1 8 0 j = a.1 8 0 j + 1 := by simp [sI]
    rw [f8]
    refine ⟨by simp [sI], ?_, fun h3 => ?_⟩
    · rw [es]; omega
    · rw [es, show ((a.1 8 0 j).toInt + 1).toNat = (a.1 8 0 j).toInt.toNat + 1 by omega]
      have hsum0 := hj.2.2 h3
      have hx2 : hsum ((sI (sI b 32 0 (30 * j + (a.1 8 0 j).toNatClampNeg) v) 31 0 j (a.1 8 0 j + 1)).1 32 0) (30 * j) (a.1 8 0 j).toInt.toNat = hsum (b.1 32 0) (30 * j) (a.1 8 0 j).toInt.toNat := hsum_ext _ (fun i hi => by
        have : ¬ i = (a.1 8 0 j).toNatClampNeg := by omega
        simp [sI, this])
      unfold hsum
      rw [hx2, ← hsum0]
      have hidx : (sI (sI b 32 0 (30 * j + (a.1 8 0 j).toNatClampNeg) v) 31 0 j (a.1 8 0 j + 1)).1 32 0 (30 * j + (a.1 8 0 j).toInt.toNat) = v := by
        have : (a.1 8 0 j).toInt.toNat = (a.1 8 0 j).toNatClampNeg := rfl
        rw [this]
        simp [sI]
      rw [hidx]
      simp [sI, sL]
  · have f8 : (sI (sL a 9 0 s (31 * a.2 9 0 s + v.toInt64 + 1)) 8 0 s (a.1 8 0 s + 1)).1 8 0 j = a.1 8 0 j := by simp [sI, sL, e]
    rw [f8]
    refine ⟨by simp [sI, e]; exact hj.1, hj.2.1, fun h3 => ?_⟩
    have hx2 : hsum ((sI (sI b 32 0 (30 * s + (a.1 8 0 s).toNatClampNeg) v) 31 0 s (a.1 8 0 s + 1)).1 32 0) (30 * j) (a.1 8 0 j).toInt.toNat = hsum (b.1 32 0) (30 * j) (a.1 8 0 j).toInt.toNat := hsum_ext _ (fun i hi => by
      have hn : ¬ 30 * j + i = 30 * s + (a.1 8 0 s).toNatClampNeg := fun q => e (row_inj (d := 30) (by omega) (by omega) q).1
      simp [sI, hn])
    rw [hx2, ← hj.2.2 h3]
    simp [sI, sL, e]
theorem full_eq {a b : mMem} (h : RC a b) {s : Int32} (hs : vp_in s 3) : (f_C_isFull a s = 0 ∧ (a.1 8 0 s.toNatClampNeg).toInt < 30 ∧ (0 < s.toNatClampNeg → (a.1 8 0 s.toNatClampNeg).toInt < 20)) ∨ (f_C_isFull a s = 1 ∧ (s = 0 → a.1 8 0 s.toNatClampNeg = 30) ∧ (¬ s = 0 → a.1 8 0 s.toNatClampNeg = 20)) := by
  have e30 : (30 : Int32).toInt = 30 := rfl
  have e20 : (20 : Int32).toInt = 20 := rfl
  have e3 : (3 : Int32).toInt = 3 := rfl
  have hsi := vp_in_iff.mp hs
  have ss : ¬ f_X_isSort a s = 0 := by
    rw [show f_X_isSort a s = 1 from (if_neg (pos_lt hsi.1)).trans (if_neg (fun q : (3 : Int32) ≤ s => by have := yle q; omega))]
    exact n10
  have hr := (h s.toNatClampNeg).2.1
  have hc := cl_of hsi.1
  unfold f_C_isFull
  rw [if_neg ss]
  by_cases z : s = 0
  · subst z
    have et : tMost (0 : Int32).toNatClampNeg = 30 := rfl
    rw [et]
    by_cases q : a.1 8 0 (0 : Int32).toNatClampNeg < 30
    · have := ylt q
      exact Or.inl ⟨if_pos q, by omega, fun w => absurd w (by decide)⟩
    · have := nlt q
      exact Or.inr ⟨if_neg q, fun _ => Int32.toInt_inj.mp (by omega), fun w => absurd rfl w⟩
  · have hz := sw_ne 0 (by decide) z
    have et : tMost s.toNatClampNeg = 20 := by
      rcases (show s.toNatClampNeg = 1 ∨ s.toNatClampNeg = 2 by omega) with q | q <;> rw [q] <;> rfl
    rw [et]
    by_cases q : a.1 8 0 s.toNatClampNeg < 20
    · have := ylt q
      exact Or.inl ⟨if_pos q, by omega, fun _ => by omega⟩
    · have := nlt q
      have := hr.2.2 (by omega)
      exact Or.inr ⟨if_neg q, fun w => absurd w z, fun _ => Int32.toInt_inj.mp (by omega)⟩
theorem z_collect {N : Nat} {a b : mMem} (h : RR N a b) (s v : Int32) : (f_X_collect a s v).1 = (f_M_collect b s v).1 ∧ RR N (f_X_collect a s v).2 (f_M_collect b s v).2 := by
  have h' := RR_thr h
  have n30 : (30 : Int32).toInt = 30 := rfl
  have n20 : (20 : Int32).toInt = 20 := rfl
  have n31 : (31 : Int32).toInt = 31 := rfl
  have n32 : (32 : Int32).toInt = 32 := rfl
  have n126 : (126 : Int32).toInt = 126 := rfl
  have n127 : (127 : Int32).toInt = 127 := rfl
  have n96 : (96 : Int32).toInt = 96 := rfl
  have n97 : (97 : Int32).toInt = 97 := rfl
  have n122 : (122 : Int32).toInt = 122 := rfl
  have n123 : (123 : Int32).toInt = 123 := rfl
  have n255 : (255 : Int32).toInt = 255 := rfl
  have n256 : (256 : Int32).toInt = 256 := rfl
  unfold f_X_collect f_M_collect
  dsimp only
  rw [sort_eq a (sI b 20 0 0 0)]
  by_cases ss : f_M_isSort (sI b 20 0 0 0) s = 0
  · rw [if_pos ss, if_pos ss]; exact ⟨rfl, h'⟩
  rw [if_neg ss, if_neg ss]
  have hs := sort_inM ss
  have hsi := vp_in_iff.mp hs
  have ssx : ¬ f_X_isSort a s = 0 := ss
  have eb : (sI b 20 0 0 0).1 31 0 s.toNatClampNeg = a.1 8 0 s.toNatClampNeg := (h'.2.2.1 _).1
  have hr := (h'.2.2.1 s.toNatClampNeg).2.1
  have hc := cl_of hsi.1
  have hidx : ((30 : Int32) * s + (sI b 20 0 0 0).1 31 0 s.toNatClampNeg).toNatClampNeg = 30 * s.toNatClampNeg + (a.1 8 0 s.toNatClampNeg).toNatClampNeg := by
    rw [eb]
    exact row_e (d := 30) (A := 3) (B := 31) (by decide) hs ⟨hr.1, by omega⟩ (by decide)
  have ok : f_C_isFull a s = 0 → (a.1 8 0 s.toNatClampNeg).toInt < 30 ∧ (0 < s.toNatClampNeg → (a.1 8 0 s.toNatClampNeg).toInt < 20) → (f_C_size (f_C_append a s v) s = (sI (sI (sI b 20 0 0 0) 32 0 ((30 : Int32) * s + (sI b 20 0 0 0).1 31 0 s.toNatClampNeg).toNatClampNeg v) 31 0 s.toNatClampNeg ((sI b 20 0 0 0).1 31 0 s.toNatClampNeg + 1)).1 31 0 s.toNatClampNeg) ∧ RR N (f_C_append a s v) (sI (sI (sI b 20 0 0 0) 32 0 ((30 : Int32) * s + (sI b 20 0 0 0).1 31 0 s.toNatClampNeg).toNatClampNeg v) 31 0 s.toNatClampNeg ((sI b 20 0 0 0).1 31 0 s.toNatClampNeg + 1)) := by
    intro _ hh
    have ea : f_C_append a s v = sI (sL a 9 0 s.toNatClampNeg (31 * a.2 9 0 s.toNatClampNeg + v.toInt64 + 1)) 8 0 s.toNatClampNeg (a.1 8 0 s.toNatClampNeg + 1) := if_neg ssx
    rw [hidx, ea]
    refine ⟨?_, RR_collect h' (by omega) v hh _ eb⟩
    rw [show f_C_size (sI (sL a 9 0 s.toNatClampNeg (31 * a.2 9 0 s.toNatClampNeg + v.toInt64 + 1)) 8 0 s.toNatClampNeg (a.1 8 0 s.toNatClampNeg + 1)) s = (sI (sL a 9 0 s.toNatClampNeg (31 * a.2 9 0 s.toNatClampNeg + v.toInt64 + 1)) 8 0 s.toNatClampNeg (a.1 8 0 s.toNatClampNeg + 1)).1 8 0 s.toNatClampNeg from if_neg ssx, eb]
    simp [sI]
  rcases full_eq h'.2.2.1 hs with ⟨fe, hh⟩ | ⟨fe, hz0, hz1⟩
  · have okk := ok fe hh
    by_cases s0 : s = 0
    · rw [if_pos s0, if_neg (show ¬ (sI b 20 0 0 0).1 31 0 s.toNatClampNeg = 30 by rw [eb]; intro q; have := congrArg Int32.toInt q; omega)]
      by_cases c1 : v ≤ 31
      · have := yle c1
        rw [if_pos c1, if_pos (show f_X_fits a s v = 0 from (if_pos s0).trans (if_pos (Int32.lt_iff_toInt_lt.mpr (by omega))))]; exact ⟨rfl, h'⟩
      · have g1 := nle c1
        have d1 : ¬ v < 32 := fun q => by have := ylt q; omega
        rw [if_neg c1]
        by_cases c2 : (127 : Int32) ≤ v
        · have := yle c2
          rw [if_pos c2, if_pos (show f_X_fits a s v = 0 from (if_pos s0).trans ((if_neg d1).trans (if_pos (Int32.lt_iff_toInt_lt.mpr (by omega)))))]; exact ⟨rfl, h'⟩
        · have g2 := nle c2
          have d2 : ¬ (126 : Int32) < v := fun q => by have := ylt q; omega
          rw [if_neg c2, if_neg (show ¬ f_X_fits a s v = 0 by rw [show f_X_fits a s v = 1 from (if_pos s0).trans ((if_neg d1).trans (if_neg d2))]; exact n10), if_pos fe]
          exact okk
    · have hsz := sw_ne 0 (by decide) s0
      rw [if_neg s0, if_neg (show ¬ (sI b 20 0 0 0).1 31 0 s.toNatClampNeg = 20 by rw [eb]; intro q; have := congrArg Int32.toInt q; have := hh.2 (by omega); omega)]
      by_cases s1 : s = 1
      · rw [if_pos s1]
        have pre : ∀ x : Int32, (if v < 97 then if v = 46 then 1 else if v = 47 then 1 else 0 else if v ≤ 122 then 1 else if v = 46 then 1 else if v = 47 then 1 else 0) = x → f_X_fits a s v = x := fun x hx => (if_neg s0).trans ((if_pos s1).trans hx)
        by_cases c1 : v ≤ 96
        · have g1 := yle c1
          have d1 : v < 97 := Int32.lt_iff_toInt_lt.mpr (by omega)
          rw [if_pos c1]
          rw [if_pos d1] at pre
          by_cases c2 : v = 46
          · rw [if_pos c2] at pre
            rw [if_pos c2, if_neg (show ¬ f_X_fits a s v = 0 by rw [pre 1 rfl]; exact n10), if_pos fe]; exact okk
          · rw [if_neg c2] at pre
            rw [if_neg c2]
            by_cases c3 : v = 47
            · rw [if_pos c3] at pre
              rw [if_pos c3, if_neg (show ¬ f_X_fits a s v = 0 by rw [pre 1 rfl]; exact n10), if_pos fe]; exact okk
            · rw [if_neg c3] at pre
              rw [if_neg c3, if_pos (pre 0 rfl)]; exact ⟨rfl, h'⟩
        · have g1 := nle c1
          have d1 : ¬ v < 97 := fun q => by have := ylt q; omega
          rw [if_neg c1]
          rw [if_neg d1] at pre
          by_cases c4 : v < 123
          · have g4 := ylt c4
            have d4 : v ≤ 122 := Int32.le_iff_toInt_le.mpr (by omega)
            rw [if_pos d4] at pre
            rw [if_pos c4, if_neg (show ¬ f_X_fits a s v = 0 by rw [pre 1 rfl]; exact n10), if_pos fe]; exact okk
          · have g4 := nlt c4
            have d4 : ¬ v ≤ 122 := fun q => by have := yle q; omega
            rw [if_neg d4] at pre
            rw [if_neg c4]
            by_cases c2 : v = 46
            · rw [if_pos c2] at pre
              rw [if_pos c2, if_neg (show ¬ f_X_fits a s v = 0 by rw [pre 1 rfl]; exact n10), if_pos fe]; exact okk
            · rw [if_neg c2] at pre
              rw [if_neg c2]
              by_cases c3 : v = 47
              · rw [if_pos c3] at pre
                rw [if_pos c3, if_neg (show ¬ f_X_fits a s v = 0 by rw [pre 1 rfl]; exact n10), if_pos fe]; exact okk
              · rw [if_neg c3] at pre
                rw [if_neg c3, if_pos (pre 0 rfl)]; exact ⟨rfl, h'⟩
      · rw [if_neg s1]
        by_cases c1 : v < 0
        · rw [if_pos c1, if_pos (show f_X_fits a s v = 0 from (if_neg s0).trans ((if_neg s1).trans (if_pos c1)))]; exact ⟨rfl, h'⟩
        · rw [if_neg c1]
          by_cases c2 : (256 : Int32) ≤ v
          · have := yle c2
            rw [if_pos c2, if_pos (show f_X_fits a s v = 0 from (if_neg s0).trans ((if_neg s1).trans ((if_neg c1).trans (if_pos (Int32.lt_iff_toInt_lt.mpr (by omega))))))]; exact ⟨rfl, h'⟩
          · have g2 := nle c2
            have d2 : ¬ (255 : Int32) < v := fun q => by have := ylt q; omega
            rw [if_neg c2, if_neg (show ¬ f_X_fits a s v = 0 by rw [show f_X_fits a s v = 1 from (if_neg s0).trans ((if_neg s1).trans ((if_neg c1).trans (if_neg d2)))]; exact n10), if_pos fe]
            exact okk
  · have eX : (if f_X_fits a s v = 0 then ((-1 : Int32), a) else if f_C_isFull a s = 0 then (f_C_size (f_C_append a s v) s, f_C_append a s v) else ((-1 : Int32), a)) = ((-1 : Int32), a) := by
      split
      · rfl
      · rw [fe, if_neg n10]
    rw [eX]
    by_cases s0 : s = 0
    · rw [if_pos s0, if_pos (eb.trans (hz0 s0))]; exact ⟨rfl, h'⟩
    · rw [if_neg s0, if_pos (eb.trans (hz1 s0))]; exact ⟨rfl, h'⟩

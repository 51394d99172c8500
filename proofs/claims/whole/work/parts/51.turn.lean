theorem m_go {b : mMem} {n : Nat} {h x2 x c : Int32} (hm : ¬ b.1 20 0 1 ≤ x) (hk : b.1 22 0 x.toNatClampNeg = 4 ∨ b.1 22 0 x.toNatClampNeg = 5) (hh : b.1 24 0 x.toNatClampNeg = h) (hc : f_M_leastFor b (b.1 22 0 x.toNatClampNeg) = c) (hn : ¬ c = -1) : f_M_turn_l38 (n + 1) h x2 x b = f_M_turn_l38 n h (x2 + (if (f_M_go b c ((b.1 26 0 h.toNatClampNeg).toInt64)).1 20 0 28 = 0 then 1 else 0)) (x + 1) (f_M_tell (f_M_go b c ((b.1 26 0 h.toNatClampNeg).toInt64)) ((f_M_go b c ((b.1 26 0 h.toNatClampNeg).toInt64)).1 20 0 28) x c ((f_M_go b c ((b.1 26 0 h.toNatClampNeg).toInt64)).2 20 0 29)) := by
  rw [f_M_turn_l38, if_neg hm, hc]
  dsimp only
  by_cases q : b.1 22 0 x.toNatClampNeg = 4
  · rw [if_pos q, if_pos hh, if_neg hn]
    split <;> rfl
  · rw [if_neg q, if_pos (hk.resolve_left q), if_pos hh, if_neg hn]
    split <;> rfl
theorem m_skip {b : mMem} {n : Nat} {h x2 x : Int32} (hm : ¬ b.1 20 0 1 ≤ x) (hk : (b.1 22 0 x.toNatClampNeg = 4 ∨ b.1 22 0 x.toNatClampNeg = 5) → b.1 24 0 x.toNatClampNeg = h → f_M_leastFor b (b.1 22 0 x.toNatClampNeg) = -1) : f_M_turn_l38 (n + 1) h x2 x b = f_M_turn_l38 n h x2 (x + 1) b := by
  rw [f_M_turn_l38, if_neg hm]
  by_cases q : b.1 22 0 x.toNatClampNeg = 4
  · rw [if_pos q]
    by_cases r : b.1 24 0 x.toNatClampNeg = h
    · rw [if_pos r, if_pos (hk (Or.inl q) r)]
    · rw [if_neg r]
  · rw [if_neg q]
    by_cases s : b.1 22 0 x.toNatClampNeg = 5
    · rw [if_pos s]
      by_cases r : b.1 24 0 x.toNatClampNeg = h
      · rw [if_pos r, if_pos (hk (Or.inr s) r)]
      · rw [if_neg r]
    · rw [if_neg s]
def xcall (a : mMem) (h x4 x5 x : Int32) : Int32 := f_X_callInTurn a (if a.1 1 0 x.toNatClampNeg = 0 then none else some x.toNatClampNeg) h x4 x5
theorem goes_01 {a : mMem} {c n : Int32} {w : Int64} : (f_X_goes a c n w).1 = 0 ∨ (f_X_goes a c n w).1 = 1 := by
  unfold f_X_goes
  cases hq : f_X_partAt a c with
  | none => exact Or.inl rfl
  | some i =>
    simp only [oC]
    split
    · exact Or.inr rfl
    · exact Or.inl rfl
theorem x_step {a : mMem} {n k : Nat} {h x3 x4 x5 x6 x : Int32} (hm : ¬ a.1 0 0 1 ≤ x) : f_X_turn_l52 (n + 1) h k x3 x4 x5 x6 x a = f_X_turn_l52 n h k x3 x4 x5 (x6 + (f_X_goes a (xcall a h x4 x5 x) x x3.toInt64).1) (x + 1) (f_X_goes a (xcall a h x4 x5 x) x x3.toInt64).2 := by
  rw [f_X_turn_l52, if_neg hm]
  unfold xcall
  dsimp only
  by_cases q : a.1 1 0 x.toNatClampNeg = 0
  · rw [if_pos q, if_pos q]
    rcases goes_01 (a := a) (c := f_X_callInTurn a none h x4 x5) (n := x) (w := x3.toInt64) with e | e
    · rw [e, if_pos rfl, Int32.add_zero]
    · rw [e, if_neg n10]
  · rw [if_neg q, if_neg q]
    rcases goes_01 (a := a) (c := f_X_callInTurn a (some x.toNatClampNeg) h x4 x5) (n := x) (w := x3.toInt64) with e | e
    · rw [e, if_pos rfl, Int32.add_zero]
    · rw [e, if_neg n10]
theorem m_lo {a b : mMem} (hT : RT a b) {h : Int32} (x2 : Int32) (h1 : 0 ≤ h.toInt) (h1m : h.toInt < (a.1 0 0 1).toInt) (hz : a.1 2 h.toNatClampNeg 0 = 0) : ∀ (n : Nat) (x4 : Int32), 0 ≤ x4.toInt → x4.toInt ≤ h.toInt + 1 → ((h.toInt + 1) - x4.toInt).toNat ≤ n → f_M_turn_l38 n h x2 x4 b = f_M_turn_l38 (n - ((h.toInt + 1) - x4.toInt).toNat) h x2 (h + 1) b := by
  intro n
  induction n with
  | zero =>
    intro x4 h0 hle hn
    have e : x4 = h + 1 := by
      apply Int32.toInt_inj.mp
      rw [inc_toInt (b := a.1 0 0 1) (fun q => by have := yle q; omega)]
      omega
    rw [e, inc_toInt (b := a.1 0 0 1) (fun q => by have := yle q; omega)]
    simp
  | succ n ih =>
    intro x4 h0 hle hn
    have ei : (h + 1).toInt = h.toInt + 1 := inc_toInt (b := a.1 0 0 1) (fun q => by have := yle q; omega)
    by_cases he : x4.toInt = h.toInt + 1
    · have e : x4 = h + 1 := Int32.toInt_inj.mp (by rw [ei]; exact he)
      rw [e, ei]
      simp
    · have c : ¬ a.1 0 0 1 ≤ x4 := fun q => by have := yle q; omega
      have c' : ¬ b.1 20 0 1 ≤ x4 := by rw [hT.1]; exact c
      have hc := cl_of h0
      have hch := cl_of h1
      have hj := hT.2.2.2 x4.toNatClampNeg (by omega)
      have es := inc_toInt c
      rw [m_skip c', ih (x4 + 1) (by omega) (by omega) (by omega)]
      · congr 1
        omega
      · intro hk hh
        rw [hj.2.2.2.1] at hh
        by_cases w : a.1 2 x4.toNatClampNeg 0 = 0
        · exfalso
          by_cases z : a.1 1 0 x4.toNatClampNeg = 0
          · rw [hj.1 z] at hk
            exact absurd hk (by decide)
          · rw [hj.2.1 z, w] at hk
            exact absurd hk (by decide)
        · have := hj.2.2.2.2.2.2.2 w
          rw [hh] at this
          omega
theorem turn_l {h : Int32} (hh : vp_in h 60) (x3 x4 x5 : Int32) : ∀ (n m N : Nat) (x x6 : Int32) (a b : mMem), RR N a (dec h.toNatClampNeg b) → N + n + 64 ≤ 1000000 → a.1 2 h.toNatClampNeg 2 = h → b.1 26 0 h.toNatClampNeg = x3 → f_X_leastCallFor a 4 = x4 → f_X_leastCallFor a 5 = x5 → 0 ≤ x.toInt → ((a.1 0 0 1).toInt - x.toInt).toNat < n → ((a.1 0 0 1).toInt - x.toInt).toNat < m → (f_X_turn_l52 n h h.toNatClampNeg x3 x4 x5 x6 x a).1 = (f_M_turn_l38 m h x6 x b).1 ∧ RR (N + n + 64) (f_X_turn_l52 n h h.toNatClampNeg x3 x4 x5 x6 x a).2 (f_M_turn_l38 m h x6 x b).2 := by
  intro n
  have hhi := vp_in_iff.mp hh
  have e0 : (0 : Int32).toInt = 0 := rfl
  induction n with
  | zero => intro m N x x6 a b _ _ _ _ _ _ _ hn; exact absurd hn (Nat.not_lt_zero _)
  | succ n ih =>
    intro m N x x6 a b hR hN hh2 h26 h4 h5 hx0 hn hm
    cases m with
    | zero => exact absurd hm (Nat.not_lt_zero _)
    | succ m =>
      have hT : RT a b := hR.1
      have hP : RP a b := hR.2.2.2.1
      by_cases c : a.1 0 0 1 ≤ x
      · have c' : b.1 20 0 1 ≤ x := by rw [hT.1]; exact c
        rw [f_X_turn_l52, if_pos c, f_M_turn_l38, if_pos c', hh2]
        dsimp only
        have hb := hR.2.1 h.toNatClampNeg
        rcases isOn_eq hR.2.1 h.toNatClampNeg with ⟨e1, e2, -⟩ | ⟨e1, e2, -⟩
        · have e2' : (sI b 25 0 h.toNatClampNeg (b.1 25 0 h.toNatClampNeg - 1)).1 25 0 h.toNatClampNeg ≤ 0 := e2
          rw [e1, if_pos rfl, if_pos e2']
          have hr := (in_row (D := 6) (d := 6) (A := 60) (B := 7) (N := 361) (b := a.1 3 h.toNatClampNeg 2) (by decide) hh ⟨hb.2.2.1.1, by omega⟩ (by decide) (by decide) (by decide)).2.2
          have hw := wait_l hh x6 64 64 N 0 (6 * h) a (dec h.toNatClampNeg b) hR (by omega) (by omega) (by decide) (by omega) (by omega) (by omega)
          exact ⟨hw.1.symm, RR_mono hw.2 (by omega)⟩
        · have e2' : ¬ (sI b 25 0 h.toNatClampNeg (b.1 25 0 h.toNatClampNeg - 1)).1 25 0 h.toNatClampNeg ≤ 0 := e2
          rw [e1, if_neg n10, if_neg e2']
          exact ⟨rfl, RR_mono hR (by omega)⟩
      · have c' : ¬ b.1 20 0 1 ≤ x := by rw [hT.1]; exact c
        have g := nle c
        have hxc := cl_of hx0
        have hj := hT.2.2.2 x.toNatClampNeg (by omega)
        have es := inc_toInt c
        rw [x_step c]
        have skip : xcall a h x4 x5 x = -1 → ((b.1 22 0 x.toNatClampNeg = 4 ∨ b.1 22 0 x.toNatClampNeg = 5) → b.1 24 0 x.toNatClampNeg = h → f_M_leastFor b (b.1 22 0 x.toNatClampNeg) = -1) → (f_X_turn_l52 n h h.toNatClampNeg x3 x4 x5 (x6 + (f_X_goes a (xcall a h x4 x5 x) x x3.toInt64).1) (x + 1) (f_X_goes a (xcall a h x4 x5 x) x x3.toInt64).2).1 = (f_M_turn_l38 (m + 1) h x6 x b).1 ∧ RR (N + (n + 1) + 64) (f_X_turn_l52 n h h.toNatClampNeg x3 x4 x5 (x6 + (f_X_goes a (xcall a h x4 x5 x) x x3.toInt64).1) (x + 1) (f_X_goes a (xcall a h x4 x5 x) x x3.toInt64).2).2 (f_M_turn_l38 (m + 1) h x6 x b).2 := by
          intro q1 q2
          rw [m_skip c' q2, q1, goes_no]
          dsimp only
          rw [Int32.add_zero]
          have hi := ih m N (x + 1) x6 a b hR (by omega) hh2 h26 h4 h5 (by omega) (by omega) (by omega)
          exact ⟨hi.1, RR_mono hi.2 (by omega)⟩
        by_cases z : a.1 1 0 x.toNatClampNeg = 0
        · refine skip ?_ ?_
          · unfold xcall; rw [if_pos z]; rfl
          · intro hk
            rw [hj.1 z] at hk
            exact absurd hk (by decide)
        · have hk := hj.2.1 z
          have hho := hj.2.2.2.1
          have xe : xcall a h x4 x5 x = if a.1 2 x.toNatClampNeg 2 = h then (if a.1 2 x.toNatClampNeg 0 = 4 then x4 else if a.1 2 x.toNatClampNeg 0 = 5 then x5 else -1) else -1 := by
            unfold xcall; rw [if_neg z]; rfl
          by_cases q : a.1 2 x.toNatClampNeg 2 = h
          · rw [if_pos q] at xe
            have both : ∀ κ : Int32, (a.1 2 x.toNatClampNeg 0 = 4 ∨ a.1 2 x.toNatClampNeg 0 = 5) → a.1 2 x.toNatClampNeg 0 = κ → xcall a h x4 x5 x = f_X_leastCallFor a κ → (f_X_turn_l52 n h h.toNatClampNeg x3 x4 x5 (x6 + (f_X_goes a (xcall a h x4 x5 x) x x3.toInt64).1) (x + 1) (f_X_goes a (xcall a h x4 x5 x) x x3.toInt64).2).1 = (f_M_turn_l38 (m + 1) h x6 x b).1 ∧ RR (N + (n + 1) + 64) (f_X_turn_l52 n h h.toNatClampNeg x3 x4 x5 (x6 + (f_X_goes a (xcall a h x4 x5 x) x x3.toInt64).1) (x + 1) (f_X_goes a (xcall a h x4 x5 x) x x3.toInt64).2).2 (f_M_turn_l38 (m + 1) h x6 x b).2 := by
              intro κ h45 hκ hcall
              have hl := least_eq hP κ
              by_cases y : xcall a h x4 x5 x = -1
              · refine skip y ?_
                intro _ _
                rw [hk, hκ, ← hl.1, ← hcall, y]
              · rw [hcall] at y ⊢
                have hin := hl.2.resolve_left y
                have hgo := goes_eq hR (by omega) x x3.toInt64 hin.1 hin.2
                rw [m_go (c := f_X_leastCallFor a κ) c' (by rw [hk]; exact h45) (by rw [hho]; exact q) (by rw [hk, hκ, hl.1]) y, h26]
                rw [step_dec] at hgo
                have ef : (f_M_go (dec h.toNatClampNeg b) (f_X_leastCallFor a κ) x3.toInt64).1 20 0 28 = (f_M_go b (f_X_leastCallFor a κ) x3.toInt64).1 20 0 28 := by
                  unfold dec
                  rw [go_25]
                  rfl
                rw [ef] at hgo
                rw [hgo.1]
                have r0 : (f_X_goes a (f_X_leastCallFor a κ) x x3.toInt64).2.1 0 = a.1 0 := goes_made
                have r2 : (f_X_goes a (f_X_leastCallFor a κ) x x3.toInt64).2.1 2 = a.1 2 := goes_r (by decide) (by decide) (by decide) (by decide) (by decide)
                have r10 : (f_X_goes a (f_X_leastCallFor a κ) x x3.toInt64).2.1 10 = a.1 10 := goes_r (by decide) (by decide) (by decide) (by decide) (by decide)
                have hi := ih m (N + 1) (x + 1) (x6 + (if (f_M_go b (f_X_leastCallFor a κ) x3.toInt64).1 20 0 28 = 0 then 1 else 0)) _ _ hgo.2 (by omega) (by rw [r2]; exact hh2) (by rw [tell_r (r := 26) (by decide) (by decide) (by decide) (by decide), go_r (r := 26) (by decide) (by decide) (by decide)]; exact h26) (by rw [least_same r10 (fun c => goes_k c)]; exact h4) (by rw [least_same r10 (fun c => goes_k c)]; exact h5) (by omega) (by rw [r0]; omega) (by rw [r0]; omega)
                exact ⟨hi.1, RR_mono hi.2 (by omega)⟩
            by_cases k4 : a.1 2 x.toNatClampNeg 0 = 4
            · rw [if_pos k4] at xe
              exact both 4 (Or.inl k4) k4 (xe.trans h4.symm)
            · rw [if_neg k4] at xe
              by_cases k5 : a.1 2 x.toNatClampNeg 0 = 5
              · rw [if_pos k5] at xe
                exact both 5 (Or.inr k5) k5 (xe.trans h5.symm)
              · rw [if_neg k5] at xe
                refine skip xe ?_
                intro hk2
                rw [hk] at hk2
                exact absurd hk2 (fun w => w.elim k4 k5)
          · rw [if_neg q] at xe
            refine skip xe ?_
            intro _ hk2
            rw [hho] at hk2
            exact absurd hk2 q
theorem z_turn {N : Nat} {a b : mMem} (hR : RR N a b) (hN : N + 128 ≤ 1000000) (h : Int32) : (f_X_turn a h).1 = (f_M_turn b h).1 ∧ RR (N + 128) (f_X_turn a h).2 (f_M_turn b h).2 := by
  have h' := RR_thr hR
  unfold f_X_turn f_M_turn
  dsimp only
  have e0 : (0 : Int32).toInt = 0 := rfl
  have e1' : (1 : Int32).toInt = 1 := rfl
  rcases house_eq h'.1 h with ⟨e1, e2⟩ | ⟨h0, h1, hz, e1, e2, hk0, hk2⟩
  · rw [e1, e2]
    exact ⟨rfl, RR_mono h' (by omega)⟩
  · rw [e1, e2, if_neg n10]
    dsimp only [oC]
    rw [hk2]
    have hm := hR.1.2.1
    have hb := hR.2.1 h.toNatClampNeg
    have hbM : (sI b 20 0 0 0).1 25 0 h.toNatClampNeg = a.1 3 h.toNatClampNeg 0 := hb.1.1
    rcases isOn_eq hR.2.1 h.toNatClampNeg with ⟨o1, -, o3⟩ | ⟨o1, -, o3⟩
    · rw [o1, if_pos rfl, hbM, if_pos o3]
      exact ⟨rfl, RR_mono h' (by omega)⟩
    · rw [o1, if_neg n10, hbM, if_neg (fun q => by rw [q] at o3; exact absurd o3 (by decide))]
      have hh : vp_in h 60 := vp_in_iff.mpr ⟨h0, by omega⟩
      have ei : (h + 1).toInt = h.toInt + 1 := inc_toInt (b := a.1 0 0 1) (fun q => by have := yle q; omega)
      generalize hk : h.toNatClampNeg = k at *
      have hkc : (k : Int) = h.toInt := by rw [← hk]; exact cl_of h0
      have hR1 : RR N (f_B_nextTurn a k).2 (dec k (sI (sI b 20 0 0 0) 26 0 k ((sI b 20 0 0 0).1 26 0 k + 1))) := by
        refine ⟨hR.1, fun j => ?_, hR.2.2.1, hR.2.2.2.1, hR.2.2.2.2.1, fun j m hm hlt => ?_, fun j hj => ?_⟩
        · have hbj := hR.2.1 j
          by_cases e : j = k
          · subst e
            have s := sm_sub (x := a.1 3 j 0) (y := 1) (by omega) (by omega)
            simp [dec, f_B_nextTurn, sI, -Int32.toInt_sub]
            exact ⟨⟨by rw [hbj.1.1], by rw [hbj.1.2.1], hbj.1.2.2⟩, ⟨by omega, by omega⟩, hbj.2.2.1, hbj.2.2.2⟩
          · simp [dec, f_B_nextTurn, sI, e]
            exact hbj
        · refine hR.2.2.2.2.2.1 j m hm ?_
          simpa [f_B_nextTurn, sI] using hlt
        · have hz := hR.2.2.2.2.2.2 j hj
          have hj' : (a.1 0 0 1).toInt ≤ j := hj
          have e : ¬ j = k := fun e => by omega
          simp [f_B_nextTurn, sI, e]
          exact hz
      have e26 : (sI (sI b 20 0 0 0) 26 0 k ((sI b 20 0 0 0).1 26 0 k + 1)).1 26 0 k = (f_B_nextTurn a k).1 := by
        simp [f_B_nextTurn, sI]
        rw [hb.1.2.1]
      have hT1 : RT (f_B_nextTurn a k).2 (sI (sI b 20 0 0 0) 26 0 k ((sI b 20 0 0 0).1 26 0 k + 1)) := hR.1
      have hlo := m_lo (h := h) hT1 0 h0 h1 (by rw [hk]; exact hk0) 64 0 (by decide) (by omega) (by omega)
      subst hk
      rw [hlo]
      have ht := turn_l hh (f_B_nextTurn a h.toNatClampNeg).1 (f_X_leastCallFor (f_B_nextTurn a h.toNatClampNeg).2 4) (f_X_leastCallFor (f_B_nextTurn a h.toNatClampNeg).2 5) 64 (64 - (h.toInt + 1 - (0 : Int32).toInt).toNat) N (h + 1) 0 _ _ hR1 (by omega) hk2 e26 rfl rfl (by omega) (show ((a.1 0 0 1).toInt - (h + 1).toInt).toNat < 64 by omega) (show ((a.1 0 0 1).toInt - (h + 1).toInt).toNat < _ by omega)
      exact ht

theorem ring_i {n : Nat} (hn : n ≤ 1000000) : (nI n - nI n / 40 * 40).toNatClampNeg = n % 40 := by
  have e : nI n - nI n / nI 40 * nI 40 = nI (n % 40) := pk_rem (by omega) (by decide) (by decide)
  rw [show (40 : Int32) = nI 40 from rfl, e, nI_clamp (by omega)]
/-- one more is told -/
theorem RR_tell {N : Nat} {a b : mMem} (h : RR N a b) (hN : N ≤ 1000000) (how n c : Int32) (v : Int64) (hh : how.toInt ≤ 5) : RR (N + 1) (f_O_add a how n c v) (f_M_tell b how n c v) := by
  obtain ⟨hT, hB, hC, hP, hO, hQ, hZ⟩ := h
  obtain ⟨h1, h2, m, hm, e5, e4⟩ := hO
  have ec0 : (0 : Int32).toNatClampNeg = 0 := rfl
  have ec1 : (1 : Int32).toNatClampNeg = 1 := rfl
  have ec2 : (2 : Int32).toNatClampNeg = 2 := rfl
  have ec3 : (3 : Int32).toNatClampNeg = 3 := rfl
  have ec4 : (4 : Int32).toNatClampNeg = 4 := rfl
  have eb : b.1 46 0 0 = nI m := by rw [h2.1, e5]
  have hix : (b.1 46 0 (0 : Int32).toNatClampNeg - b.1 46 0 (0 : Int32).toNatClampNeg / 40 * 40).toNatClampNeg = m % 40 := by rw [ec0, eb]; exact ring_i (by omega)
  have hiX : (a.1 13 0 4).toNatClampNeg = m % 40 := by rw [e4, nI_clamp (by omega)]
  have e40 : (40 : Int32).toInt = 40 := rfl
  have e1 : (1 : Int32).toInt = 1 := rfl
  have e0 : (0 : Int32).toInt = 0 := rfl
  have e4' : (4 : Int32).toInt = 4 := rfl
  have e5' : (5 : Int32).toInt = 5 := rfl
  have hs : (nI (m % 40) + 1).toInt = (m % 40 : Nat) + 1 := by rw [sm_add] <;> rw [nI_toInt (by omega)] <;> omega
  have hfree : (if (40 : Int32) ≤ nI (m % 40) + 1 then (0 : Int32) else nI (m % 40) + 1) = nI ((m + 1) % 40) := by
    by_cases q : (40 : Int32) ≤ nI (m % 40) + 1
    · have := yle q
      rw [if_pos q, show (m + 1) % 40 = 0 by omega]
      rfl
    · have := nle q
      rw [if_neg q, nI_1, show m % 40 + 1 = (m + 1) % 40 by omega]
  -- the class's row, before the counts
  have hadd : f_O_add a how n c v = f_O_addToCounts (sI (sI (sL (sI (sI (sI a 14 0 (m % 40) how) 15 0 (m % 40) n) 16 0 (m % 40) c) 17 0 (m % 40) v) 13 0 4 (nI ((m + 1) % 40))) 13 0 5 (nI (m + 1))) how := by
    unfold f_O_add
    dsimp only
    have q1 : (sI a 14 0 (a.1 13 0 4).toNatClampNeg how).1 13 0 4 = a.1 13 0 4 := rfl
    have q2 : (sI (sI a 14 0 (a.1 13 0 4).toNatClampNeg how) 15 0 (a.1 13 0 4).toNatClampNeg n).1 13 0 4 = a.1 13 0 4 := rfl
    have q3 : (sI (sI (sI a 14 0 (a.1 13 0 4).toNatClampNeg how) 15 0 (a.1 13 0 4).toNatClampNeg n) 16 0 (a.1 13 0 4).toNatClampNeg c).1 13 0 4 = a.1 13 0 4 := rfl
    have q4 : (sL (sI (sI (sI a 14 0 (a.1 13 0 4).toNatClampNeg how) 15 0 (a.1 13 0 4).toNatClampNeg n) 16 0 (a.1 13 0 4).toNatClampNeg c) 17 0 (a.1 13 0 4).toNatClampNeg v).1 13 0 4 = a.1 13 0 4 := rfl
    rw [q1, q2, q3, q4, hiX, e4]
    by_cases q : (40 : Int32) ≤ nI (m % 40) + 1
    · rw [if_pos q] at hfree ⊢
      rw [hfree]
      congr 2
      show a.1 13 0 5 + 1 = _
      rw [e5, nI_1]
    · rw [if_neg q] at hfree ⊢
      rw [hfree]
      congr 2
      show a.1 13 0 5 + 1 = _
      rw [e5, nI_1]
  have htell : ∃ j : Nat, f_M_tell b how n c v = sI (sI (sL (sI (sI (sI b 43 0 (m % 40) how) 44 0 (m % 40) n) 45 0 (m % 40) c) 47 0 (m % 40) v) 46 0 0 (nI (m + 1))) 46 0 j (b.1 46 0 j + 1) ∧ ((how = 0 ∧ j = 1) ∨ (¬ how = 0 ∧ how.toInt < 4 ∧ j = 2) ∨ (how = 4 ∧ j = 3) ∨ (how = 5 ∧ j = 4)) := by
    have hc1 : b.1 46 0 0 + 1 = nI (m + 1) := by rw [eb, nI_1]
    unfold f_M_tell
    dsimp only
    rw [hix, ec0, ec1, ec2, ec3, ec4]
    have q0 : (sL (sI (sI (sI b 43 0 (m % 40) how) 44 0 (m % 40) n) 45 0 (m % 40) c) 47 0 (m % 40) v).1 46 0 0 + 1 = nI (m + 1) := hc1
    rw [q0]
    by_cases c0 : how = 0
    · rw [if_pos c0]; exact ⟨1, rfl, Or.inl ⟨c0, rfl⟩⟩
    · rw [if_neg c0]
      by_cases c1 : (4 : Int32) ≤ how
      · have g1 := yle c1
        rw [if_pos c1]
        by_cases c2 : how = 4
        · rw [if_pos c2]; exact ⟨3, rfl, Or.inr (Or.inr (Or.inl ⟨c2, rfl⟩))⟩
        · have g2 := sw_ne 4 (by decide) c2
          rw [if_neg c2]; exact ⟨4, rfl, Or.inr (Or.inr (Or.inr ⟨Int32.toInt_inj.mp (by omega), rfl⟩))⟩
      · have g1 := nle c1
        rw [if_neg c1]; exact ⟨2, rfl, Or.inr (Or.inl ⟨c0, by omega, rfl⟩)⟩
  obtain ⟨j, htell, hj⟩ := htell
  have hcnt : f_O_addToCounts (sI (sI (sL (sI (sI (sI a 14 0 (m % 40) how) 15 0 (m % 40) n) 16 0 (m % 40) c) 17 0 (m % 40) v) 13 0 4 (nI ((m + 1) % 40))) 13 0 5 (nI (m + 1))) how = sI (sI (sI (sL (sI (sI (sI a 14 0 (m % 40) how) 15 0 (m % 40) n) 16 0 (m % 40) c) 17 0 (m % 40) v) 13 0 4 (nI ((m + 1) % 40))) 13 0 5 (nI (m + 1))) 13 0 (j + 5) (a.1 13 0 (j + 5) + 1) := by
    unfold f_O_addToCounts
    dsimp only
    rcases hj with ⟨q, rfl⟩ | ⟨q, q2, rfl⟩ | ⟨q, rfl⟩ | ⟨q, rfl⟩
    · rw [if_pos q]; rfl
    · rw [if_neg q, if_neg (fun w : how = 4 => by rw [w] at q2; exact absurd q2 (by decide)), if_neg (fun w : how = 5 => by rw [w] at q2; exact absurd q2 (by decide))]; rfl
    · subst q; rfl
    · subst q; rfl
  rw [hadd, hcnt, htell]
  refine ⟨hT, hB, hC, hP, ⟨fun k => ?_, ?_, m + 1, by omega, ?_, ?_⟩, hQ, hZ⟩
  · have hk := h1 k
    by_cases e : k = m % 40
    · subst e
      refine ⟨?_, ?_, ?_, ?_⟩ <;> simp [sI, sL]
    · refine ⟨?_, ?_, ?_, ?_⟩
      · simp [sI, sL, e]; exact hk.1
      · simp [sI, sL, e]; exact hk.2.1
      · simp [sI, sL, e]; exact hk.2.2.1
      · simp [sI, sL, e]; exact hk.2.2.2
  · rcases hj with ⟨-, rfl⟩ | ⟨-, -, rfl⟩ | ⟨-, rfl⟩ | ⟨-, rfl⟩
    · exact ⟨rfl, by show b.1 46 0 1 + 1 = a.1 13 0 6 + 1; rw [h2.2.1], h2.2.2.1, h2.2.2.2.1, h2.2.2.2.2⟩
    · exact ⟨rfl, h2.2.1, by show b.1 46 0 2 + 1 = a.1 13 0 7 + 1; rw [h2.2.2.1], h2.2.2.2.1, h2.2.2.2.2⟩
    · exact ⟨rfl, h2.2.1, h2.2.2.1, by show b.1 46 0 3 + 1 = a.1 13 0 8 + 1; rw [h2.2.2.2.1], h2.2.2.2.2⟩
    · exact ⟨rfl, h2.2.1, h2.2.2.1, h2.2.2.2.1, by show b.1 46 0 4 + 1 = a.1 13 0 9 + 1; rw [h2.2.2.2.2]⟩
  · rcases hj with ⟨-, rfl⟩ | ⟨-, -, rfl⟩ | ⟨-, rfl⟩ | ⟨-, rfl⟩ <;> rfl
  · rcases hj with ⟨-, rfl⟩ | ⟨-, -, rfl⟩ | ⟨-, rfl⟩ | ⟨-, rfl⟩ <;> rfl
/-- a part goes: what class and reference make of it -/
theorem go_eq {N : Nat} {a b : mMem} (h : RR N a b) {c : Int32} (w : Int64) (hc : vp_in c 12) : ((f_P_outcome a c.toNatClampNeg).1 = 0 ∧ (f_P_outcome a c.toNatClampNeg).2 = a ∧ (f_M_go b c w).1 20 0 28 = 0 ∧ (f_M_go b c w).2 20 0 29 = (f_P_reply a c.toNatClampNeg w).1 ∧ RR N (f_P_reply a c.toNatClampNeg w).2 (f_M_go b c w)) ∨ (1 ≤ (f_P_outcome a c.toNatClampNeg).1.toInt ∧ (f_P_outcome a c.toNatClampNeg).1.toInt ≤ 3 ∧ (f_M_go b c w).1 20 0 28 = (f_P_outcome a c.toNatClampNeg).1 ∧ (f_M_go b c w).2 20 0 29 = 0 ∧ RR N (f_P_outcome a c.toNatClampNeg).2 (f_M_go b c w)) := by
  obtain ⟨hT, hB, hC, hP, hO, hQ, hZ⟩ := h
  have hp := hP.1 c.toNatClampNeg
  have e0 : (0 : Int32).toInt = 0 := rfl
  have e1 : (1 : Int32).toInt = 1 := rfl
  have eD : b.1 39 0 c.toNatClampNeg = a.1 11 c.toNatClampNeg 8 := hp.1.2.2.2.2.2.2.2
  have eA : b.1 36 0 c.toNatClampNeg = a.1 11 c.toNatClampNeg 5 := hp.1.2.2.2.2.1
  have eX : b.1 37 0 c.toNatClampNeg = a.1 11 c.toNatClampNeg 6 := hp.1.2.2.2.2.2.1
  have eS : b.1 38 0 c.toNatClampNeg = a.1 11 c.toNatClampNeg 7 := hp.1.2.2.2.2.2.2.1
  unfold f_M_go
  dsimp only
  have gD : (sL (sI b 20 0 28 0) 20 0 29 0).1 39 0 c.toNatClampNeg = a.1 11 c.toNatClampNeg 8 := eD
  have gA : (sL (sI b 20 0 28 0) 20 0 29 0).1 36 0 c.toNatClampNeg = a.1 11 c.toNatClampNeg 5 := eA
  have gX : (sL (sI b 20 0 28 0) 20 0 29 0).1 37 0 c.toNatClampNeg = a.1 11 c.toNatClampNeg 6 := eX
  rw [gD, gA, gX]
  have hbase : RR N a (sL (sI b 20 0 28 0) 20 0 29 0) := ⟨hT, hB, hC, hP, hO, hQ, hZ⟩
  by_cases d : a.1 11 c.toNatClampNeg 8 ≤ 0
  · have gd := yle d
    have d2 : ¬ (0 : Int32) < a.1 11 c.toNatClampNeg 8 := fun q => by have := ylt q; omega
    have eo : f_P_outcome a c.toNatClampNeg = (0, a) := if_neg d2
    rw [eo, if_pos d]
    refine Or.inl ?_
    have hn := hp.2.2.2.2.1
    have ha := hp.2.2.2.1
    by_cases z : a.1 11 c.toNatClampNeg 5 = 0
    · rw [if_pos z]
      have hz := congrArg Int32.toInt z
      have er : f_P_reply a c.toNatClampNeg w = (w, a) := if_neg (fun q => by have := ylt q; omega)
      rw [er]
      exact ⟨rfl, rfl, rfl, rfl, hT, hB, hC, hP, hO, hQ, hZ⟩
    · rw [if_neg z]
      have hz := sw_ne 0 (by decide) z
      have lt : a.1 11 c.toNatClampNeg 6 < a.1 11 c.toNatClampNeg 5 := Int32.lt_iff_toInt_lt.mpr (by omega)
      have es : (a.1 11 c.toNatClampNeg 6 + 1).toInt = (a.1 11 c.toNatClampNeg 6).toInt + 1 := by rw [sm_add] <;> omega
      have hcl := cl_of hn.1
      have hidx : ((5 : Int32) * c + a.1 11 c.toNatClampNeg 6).toNatClampNeg = 5 * c.toNatClampNeg + (a.1 11 c.toNatClampNeg 6).toNatClampNeg := row_e (d := 5) (A := 12) (B := 5) (by decide) hc ⟨hn.1, by omega⟩ (by decide)
      rw [hidx]
      have htab : (sL (sI b 20 0 28 0) 20 0 29 0).2 42 0 (5 * c.toNatClampNeg + (a.1 11 c.toNatClampNeg 6).toNatClampNeg) = a.2 12 c.toNatClampNeg (a.1 11 c.toNatClampNeg 6).toNatClampNeg := hP.2.1 _ _ (by omega)
      rw [htab]
      have kX : (sL (sL (sI b 20 0 28 0) 20 0 29 0) 20 0 29 (w + a.2 12 c.toNatClampNeg (a.1 11 c.toNatClampNeg 6).toNatClampNeg)).1 37 0 c.toNatClampNeg = a.1 11 c.toNatClampNeg 6 := eX
      have kA : (sL (sL (sI b 20 0 28 0) 20 0 29 0) 20 0 29 (w + a.2 12 c.toNatClampNeg (a.1 11 c.toNatClampNeg 6).toNatClampNeg)).1 36 0 c.toNatClampNeg = a.1 11 c.toNatClampNeg 5 := eA
      rw [kX, kA]
      have upd37 : ∀ x : Int32, 0 ≤ x.toInt → (x.toInt < (a.1 11 c.toNatClampNeg 5).toInt ∨ x.toInt = 0) → RR N (sI a 11 c.toNatClampNeg 6 x) (sI (sL (sL (sI b 20 0 28 0) 20 0 29 0) 20 0 29 (w + a.2 12 c.toNatClampNeg (a.1 11 c.toNatClampNeg 6).toNatClampNeg)) 37 0 c.toNatClampNeg x) := by
        intro x hx0 hx1
        refine ⟨hT, hB, hC, ⟨fun j => ?_, hP.2.1, fun j hj => ?_⟩, hO, hQ, hZ⟩
        · have hpj := hP.1 j
          by_cases e : j = c.toNatClampNeg
          · subst e
            simp [sI, sL]
            exact ⟨⟨hpj.1.1, hpj.1.2.1, hpj.1.2.2.1, hpj.1.2.2.2.1, hpj.1.2.2.2.2.1, hpj.1.2.2.2.2.2.2⟩, hpj.2.1, hpj.2.2.1, hpj.2.2.2.1, ⟨hx0, hx1⟩, hpj.2.2.2.2.2⟩
          · simp [sI, sL, e]
            exact hpj
        · have hold := hP.2.2 j hj
          simp [sI]
          exact hold
      by_cases q : a.1 11 c.toNatClampNeg 5 ≤ a.1 11 c.toNatClampNeg 6 + 1
      · have gq := yle q
        have er : f_P_reply a c.toNatClampNeg w = (w + a.2 12 c.toNatClampNeg (a.1 11 c.toNatClampNeg 6).toNatClampNeg, sI a 11 c.toNatClampNeg 6 0) := (if_pos lt).trans (if_pos q)
        rw [if_pos (show a.1 11 c.toNatClampNeg 6 + 1 = a.1 11 c.toNatClampNeg 5 from Int32.toInt_inj.mp (by omega)), er]
        exact ⟨rfl, rfl, rfl, rfl, upd37 0 (by decide) (Or.inr rfl)⟩
      · have gq := nle q
        have er : f_P_reply a c.toNatClampNeg w = (w + a.2 12 c.toNatClampNeg (a.1 11 c.toNatClampNeg 6).toNatClampNeg, sI a 11 c.toNatClampNeg 6 (a.1 11 c.toNatClampNeg 6 + 1)) := (if_pos lt).trans (if_neg q)
        rw [if_neg (fun z : a.1 11 c.toNatClampNeg 6 + 1 = a.1 11 c.toNatClampNeg 5 => by have := congrArg Int32.toInt z; omega), er]
        exact ⟨rfl, rfl, rfl, rfl, upd37 _ (by omega) (Or.inl (by omega))⟩
  · have gd := nle d
    have d2 : (0 : Int32) < a.1 11 c.toNatClampNeg 8 := Int32.lt_iff_toInt_lt.mpr gd
    have eo : f_P_outcome a c.toNatClampNeg = (a.1 11 c.toNatClampNeg 7, sI a 11 c.toNatClampNeg 8 (a.1 11 c.toNatClampNeg 8 - 1)) := by
      rw [f_P_outcome, if_pos d2]
      simp [sI]
    rw [eo, if_neg d]
    have hs := hp.2.2.2.2.2.2 (by omega)
    have hd0 := hp.2.2.2.2.2.1
    have es : (a.1 11 c.toNatClampNeg 8 - 1).toInt = (a.1 11 c.toNatClampNeg 8).toInt - 1 := by
      have := (a.1 11 c.toNatClampNeg 8).toInt_lt
      rw [Int32.toInt_sub, e1]; simp only [Int.bmod]; split <;> omega
    have kS : (sI (sL (sI b 20 0 28 0) 20 0 29 0) 39 0 c.toNatClampNeg (a.1 11 c.toNatClampNeg 8 - 1)).1 38 0 c.toNatClampNeg = a.1 11 c.toNatClampNeg 7 := eS
    rw [kS]
    refine Or.inr ⟨hs.1, hs.2, rfl, rfl, hT, hB, hC, ⟨fun j => ?_, hP.2.1, fun j hj => ?_⟩, hO, hQ, hZ⟩
    · have hpj := hP.1 j
      by_cases e : j = c.toNatClampNeg
      · subst e
        simp [sI, sL, -Int32.toInt_sub]
        exact ⟨⟨hpj.1.1, hpj.1.2.1, hpj.1.2.2.1, hpj.1.2.2.2.1, hpj.1.2.2.2.2.1, hpj.1.2.2.2.2.2.1, hpj.1.2.2.2.2.2.2.1⟩, hpj.2.1, hpj.2.2.1, hpj.2.2.2.1, hpj.2.2.2.2.1, by omega, fun _ => hs⟩
      · simp [sI, sL, e]
        exact hpj
    · have hold := hP.2.2 j hj
      simp [sI]
      exact hold

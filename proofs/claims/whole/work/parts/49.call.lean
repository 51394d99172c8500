theorem l0 (x : Int64) : lg_cmp x 0 = 0 ↔ x = 0 := lg_cmp_eq x 0
theorem size_eq {a : mMem} {s : Int32} (hs : vp_in s 3) : f_C_size a s = a.1 8 0 s.toNatClampNeg := by
  have hsi := vp_in_iff.mp hs
  have e3 : (3 : Int32).toInt = 3 := rfl
  have ss : ¬ f_X_isSort a s = 0 := by
    rw [show f_X_isSort a s = 1 from (if_neg (pos_lt hsi.1)).trans (if_neg (fun q : (3 : Int32) ≤ s => by have := yle q; omega))]
    exact n10
  exact if_neg ss
/-- the refusals, where part and thing are there and fit -/
theorem refusal_eq {N : Nat} {a b : mMem} (h : RR N a b) {c n : Int32} (v : Int64) (hd : f_M_isDefined b c = 1) (ht : f_M_isThing b n = 1) (hk : b.1 22 0 n.toNatClampNeg = b.1 34 0 c.toNatClampNeg) (hh : b.1 24 0 n.toNatClampNeg = a.1 2 n.toNatClampNeg 2) : f_X_refusalOf a c.toNatClampNeg (a.1 2 n.toNatClampNeg 2).toNatClampNeg v = (f_M_refusal b c n v).toInt64 ∧ (f_M_refusal b c n v = 0 → ¬ a.1 11 c.toNatClampNeg 1 = -1 → f_B_isOn a (a.1 2 n.toNatClampNeg 2).toNatClampNeg = 1 → (a.1 3 (a.1 2 n.toNatClampNeg 2).toNatClampNeg 2).toInt < 6) ∧ (f_X_refusalOf a c.toNatClampNeg (a.1 2 n.toNatClampNeg 2).toNatClampNeg v = 0 ↔ f_M_refusal b c n v = 0) := by
  have hp := h.2.2.2.1.1 c.toNatClampNeg
  have e6 : (6 : Int32).toInt = 6 := rfl
  unfold f_X_refusalOf f_M_refusal
  rw [hd, ht, if_neg n10, if_neg n10, if_pos hk, hp.1.2.2.1, hp.1.2.2.2.1, hp.1.2.1, hh]
  by_cases c1 : lg_cmp v (a.2 11 c.toNatClampNeg 2) < 0
  · rw [if_pos c1, if_pos c1]; exact ⟨rfl, fun q => absurd q (by decide), by decide⟩
  rw [if_neg c1, if_neg c1]
  by_cases c2 : lg_cmp v (a.2 11 c.toNatClampNeg 3) ≤ 0
  · rw [if_pos c2, if_pos c2]
    by_cases c3 : a.1 11 c.toNatClampNeg 1 = -1
    · rw [if_pos c3, if_pos c3]; exact ⟨rfl, fun _ q => absurd c3 q, by decide⟩
    · rw [if_neg c3, if_neg c3]
      have hwi : vp_in (a.1 11 c.toNatClampNeg 1) 3 := by
        have := hp.2.2.1
        have := sw_ne (-1) (by decide) c3
        exact vp_in_iff.mpr (by omega)
      rw [size_eq hwi, (h.2.2.1 _).1]
      by_cases c4 : a.1 8 0 (a.1 11 c.toNatClampNeg 1).toNatClampNeg = 0
      · rw [if_pos c4, if_pos c4]; exact ⟨rfl, fun q => absurd q (by decide), by decide⟩
      · rw [if_neg c4, if_neg c4]
        have hb := h.2.1 (a.1 2 n.toNatClampNeg 2).toNatClampNeg
        rw [hb.1.2.2]
        rcases isOn_eq h.2.1 (a.1 2 n.toNatClampNeg 2).toNatClampNeg with ⟨q1, q2, -⟩ | ⟨q1, q2, -⟩
        · rw [q1, if_pos rfl, if_pos q2]
          exact ⟨rfl, fun _ _ w => absurd w (by decide), by decide⟩
        · rw [q1, if_neg n10, if_neg q2]
          unfold f_B_isFull
          by_cases c5 : a.1 3 (a.1 2 n.toNatClampNeg 2).toNatClampNeg 2 < 6
          · have g5 := ylt c5
            rw [if_pos c5, if_pos rfl, if_neg (fun q : a.1 3 (a.1 2 n.toNatClampNeg 2).toNatClampNeg 2 = 6 => by have := congrArg Int32.toInt q; omega)]
            exact ⟨rfl, fun _ _ _ => by omega, by decide⟩
          · have g5 := nlt c5
            have := hb.2.2.1
            rw [if_neg c5, if_neg n10, if_pos (show a.1 3 (a.1 2 n.toNatClampNeg 2).toNatClampNeg 2 = 6 from Int32.toInt_inj.mp (by omega))]
            exact ⟨rfl, fun q => absurd q (by decide), by decide⟩
  · rw [if_neg c2, if_neg c2]; exact ⟨rfl, fun q => absurd q (by decide), by decide⟩
theorem tell_2 {a : mMem} {h n c : Int32} {v : Int64} : (f_X_tell a h n c v).2 = f_O_add a h n c v := rfl
theorem empty_r {a : mMem} {s : Int32} {r : Nat} (h : r ≠ 8) : (f_C_empty a s).1 r = a.1 r := by
  unfold f_C_empty
  split
  · rfl
  · exact sI_r h
/-- the class's answer or failure of a call, as a function of its own -/
def xgo (a : mMem) (k : Nat) (n c : Int32) (w : Int64) : Int64 × mMem :=
  let m_152 := (f_P_outcome a k).2
  if (f_P_outcome a k).1 = 0 then
    let m_187 := f_C_empty m_152 (m_152.1 11 k 1)
    let m_198 := (f_P_reply m_187 k w).2
    let m_201 := (f_X_tell m_198 0 n c (f_P_reply m_187 k w).1).2
    ((f_X_tell m_198 0 n c (f_P_reply m_187 k w).1).1, m_201)
  else
    let m_174 := (f_X_tell m_152 (f_P_outcome a k).1 n c (-10 - (f_P_outcome a k).1.toInt64)).2
    ((f_X_tell m_152 (f_P_outcome a k).1 n c (-10 - (f_P_outcome a k).1.toInt64)).1, m_174)
theorem xgo_eq {N : Nat} {a b : mMem} (h : RR N a b) (hN : N ≤ 1000000) {c : Int32} (n : Int32) (w : Int64) (hc : vp_in c 12) : ((f_M_go b c w).1 20 0 28 = 0 ∧ (xgo a c.toNatClampNeg n c w).1 = (f_M_go b c w).2 20 0 29 ∧ (a.1 11 c.toNatClampNeg 1 = -1 → RR (N + 1) (xgo a c.toNatClampNeg n c w).2 (f_M_tell (f_M_go b c w) 0 n c ((f_M_go b c w).2 20 0 29))) ∧ (vp_in (a.1 11 c.toNatClampNeg 1) 3 → RR (N + 1) (xgo a c.toNatClampNeg n c w).2 (f_M_tell (sI (f_M_go b c w) 31 0 (a.1 11 c.toNatClampNeg 1).toNatClampNeg 0) 0 n c ((f_M_go b c w).2 20 0 29)))) ∨ (1 ≤ ((f_M_go b c w).1 20 0 28).toInt ∧ (xgo a c.toNatClampNeg n c w).1 = -10 - ((f_M_go b c w).1 20 0 28).toInt64 ∧ RR (N + 1) (xgo a c.toNatClampNeg n c w).2 (f_M_tell (f_M_go b c w) ((f_M_go b c w).1 20 0 28) n c (-10 - ((f_M_go b c w).1 20 0 28).toInt64))) := by
  unfold xgo
  dsimp only
  rcases go_eq h w hc with ⟨o1, o2, f1, f2, hR⟩ | ⟨o1, o2, f1, f2, hR⟩
  · rw [o1, o2, if_pos rfl, reply_empty, f1, f2]
    refine Or.inl ⟨rfl, rfl, fun hw => ?_, fun hw => ?_⟩
    · rw [hw, empty_no]
      exact RR_tell hR hN 0 n c _ (by decide)
    · exact RR_tell (RR_empty hR hw) hN 0 n c _ (by decide)
  · have hne : ¬ (f_P_outcome a c.toNatClampNeg).1 = 0 := fun q => by rw [q] at o1; exact absurd o1 (by decide)
    rw [if_neg hne, f1]
    exact Or.inr ⟨o1, rfl, RR_tell hR hN _ n c _ (by omega)⟩
set_option maxHeartbeats 4000000 in
theorem z_call {N : Nat} {a b : mMem} (h : RR N a b) (hN : N ≤ 1000000) (c n : Int32) (v : Int64) : (f_X_call a c n v).1 = (f_M_call b c n v).1 ∧ RR (N + 1) (f_X_call a c n v).2 (f_M_call b c n v).2 := by
  have h' := RR_thr h
  have no : ∀ r : Int32, f_M_refusal (sI b 20 0 0 0) c n v = r → ¬ r = 0 → ((f_M_call b c n v).1 = r.toInt64 ∧ RR (N + 1) (f_O_add a 4 n c r.toInt64) (f_M_call b c n v).2) := by
    intro r hr h0
    unfold f_M_call
    dsimp only
    rw [hr, if_neg h0]
    exact ⟨rfl, RR_tell h' hN 4 n c _ (by decide)⟩
  unfold f_X_call
  rcases part_eq h'.2.2.2.1 c with ⟨p1, p2⟩ | ⟨hc, hz, p1, p2⟩
  · have hr : f_M_refusal (sI b 20 0 0 0) c n v = -1 := by unfold f_M_refusal; rw [p2, if_pos rfl]
    have := no (-1) hr (by decide)
    rw [p1]
    simp only [oC]
    cases ht : f_X_thingAt a n with
    | none => exact ⟨this.1.symm, this.2⟩
    | some i => exact ⟨this.1.symm, this.2⟩
  · rw [p1]
    simp only [oC]
    rcases thing_eq h'.1 n with ⟨t1, t2⟩ | ⟨n0, n1, nz, t1, t2⟩
    · have hr : f_M_refusal (sI b 20 0 0 0) c n v = -1 := by unfold f_M_refusal; rw [p2, t2, if_neg n10, if_pos rfl]
      have := no (-1) hr (by decide)
      rw [t1]
      exact ⟨this.1.symm, this.2⟩
    · rw [t1]
      have hcn := cl_of n0
      have hj := h'.1.2.2.2 n.toNatClampNeg (by omega)
      have hp := h'.2.2.2.1.1 c.toNatClampNeg
      have ek : (sI b 20 0 0 0).1 22 0 n.toNatClampNeg = a.1 2 n.toNatClampNeg 0 := hj.2.1 nz
      have eo : (sI b 20 0 0 0).1 34 0 c.toNatClampNeg = a.1 11 c.toNatClampNeg 0 := hp.1.1
      have ehh : (sI b 20 0 0 0).1 24 0 n.toNatClampNeg = a.1 2 n.toNatClampNeg 2 := hj.2.2.2.1
      have ew : (sI b 20 0 0 0).1 35 0 c.toNatClampNeg = a.1 11 c.toNatClampNeg 1 := hp.1.2.1
      dsimp only
      by_cases k1 : a.1 2 n.toNatClampNeg 0 = a.1 11 c.toNatClampNeg 0
      · rw [if_pos k1]
        obtain ⟨r1, r2, r3⟩ := refusal_eq h' (c := c) (n := n) v p2 t2 (by rw [ek, eo]; exact k1) ehh
        by_cases hr0 : f_M_refusal (sI b 20 0 0 0) c n v = 0
        · rw [if_pos ((l0 _).mpr (r3.mpr hr0))]
          unfold f_M_call
          dsimp only
          rw [hr0, if_pos rfl, ew, ehh]
          have hgo := fun w => xgo_eq h' hN (c := c) n w hc
          have e0 : (0 : Int32).toInt = 0 := rfl
          by_cases w1 : a.1 11 c.toNatClampNeg 1 = -1
          · rw [if_pos w1, if_pos w1]
            have hx : v + f_C_sum a (a.1 11 c.toNatClampNeg 1) = v := by rw [w1, sum_no, Int64.add_zero]
            rw [hx]
            rcases hgo v with ⟨q0, q1, q2, -⟩ | ⟨q0, q1, q2⟩
            · rw [if_pos (show (f_M_go (sI b 20 0 0 0) c v).1 20 0 28 ≤ 0 by rw [q0]; decide)]
              exact ⟨q1, by rw [q0]; exact q2 w1⟩
            · rw [if_neg (show ¬ (f_M_go (sI b 20 0 0 0) c v).1 20 0 28 ≤ 0 from fun q => by have := yle q; omega)]
              exact ⟨q1, q2⟩
          · rw [if_neg w1, if_neg w1]
            have hwi : vp_in (a.1 11 c.toNatClampNeg 1) 3 := by
              have := hp.2.2.1
              have := sw_ne (-1) (by decide) w1
              exact vp_in_iff.mpr (by omega)
            have es : f_C_sum a (a.1 11 c.toNatClampNeg 1) = f_M_sumOf (sI b 20 0 0 0) (a.1 11 c.toNatClampNeg 1) := sum_eq h'.2.2.1 hwi
            rcases isOn_eq h'.2.1 (a.1 2 n.toNatClampNeg 2).toNatClampNeg with ⟨o1, o2, -⟩ | ⟨o1, o2, -⟩
            · rw [o1, if_pos rfl, if_pos o2, es]
              rcases hgo (v + f_M_sumOf (sI b 20 0 0 0) (a.1 11 c.toNatClampNeg 1)) with ⟨q0, q1, -, q3⟩ | ⟨q0, q1, q2⟩
              · rw [if_pos (show (f_M_go (sI b 20 0 0 0) c (v + f_M_sumOf (sI b 20 0 0 0) (a.1 11 c.toNatClampNeg 1))).1 20 0 28 ≤ 0 by rw [q0]; decide), if_pos q0]
                have k35 : (f_M_go (sI b 20 0 0 0) c (v + f_M_sumOf (sI b 20 0 0 0) (a.1 11 c.toNatClampNeg 1))).1 35 0 c.toNatClampNeg = a.1 11 c.toNatClampNeg 1 := by rw [go_35]; exact ew
                refine ⟨q1, ?_⟩
                have := q3 hwi
                rw [k35]
                show RR (N + 1) _ (f_M_tell _ ((f_M_go (sI b 20 0 0 0) c (v + f_M_sumOf (sI b 20 0 0 0) (a.1 11 c.toNatClampNeg 1))).1 20 0 28) n c _)
                rw [q0]
                exact this
              · have hn0 : ¬ (f_M_go (sI b 20 0 0 0) c (v + f_M_sumOf (sI b 20 0 0 0) (a.1 11 c.toNatClampNeg 1))).1 20 0 28 = 0 := fun q => by rw [q] at q0; exact absurd q0 (by decide)
                rw [if_neg (show ¬ (f_M_go (sI b 20 0 0 0) c (v + f_M_sumOf (sI b 20 0 0 0) (a.1 11 c.toNatClampNeg 1))).1 20 0 28 ≤ 0 from fun q => by have := yle q; omega), if_neg hn0]
                exact ⟨q1, q2⟩
            · rw [o1, if_neg n10, if_neg o2, es]
              have hlt := r2 hr0 w1 o1
              have hhr := hj.2.2.2.2.2.1
              have hcc := cl_of hhr.1
              have hE := RR_empty h' hwi
              have eqa : (f_C_empty a (a.1 11 c.toNatClampNeg 1)).1 2 = a.1 2 := empty_r (by decide)
              have eq3 : (f_C_empty a (a.1 11 c.toNatClampNeg 1)).1 3 = a.1 3 := empty_r (by decide)
              have eq0 : (f_C_empty a (a.1 11 c.toNatClampNeg 1)).1 0 = a.1 0 := empty_r (by decide)
              have eq10 : (f_C_empty a (a.1 11 c.toNatClampNeg 1)).1 10 = a.1 10 := empty_r (by decide)
              rw [eqa]
              have hQ := RR_queue hE (k := (a.1 2 n.toNatClampNeg 2).toNatClampNeg) c n (v + f_M_sumOf (sI b 20 0 0 0) (a.1 11 c.toNatClampNeg 1)) hc (by rw [eq10]; exact hz) (by rw [eq0]; omega) (by rw [eq3]; exact hlt)
              rw [eq3] at hQ
              have hb3 := h'.2.1 (a.1 2 n.toNatClampNeg 2).toNatClampNeg
              have k27 : (sI (sI b 20 0 0 0) 31 0 (a.1 11 c.toNatClampNeg 1).toNatClampNeg 0).1 27 0 (a.1 2 n.toNatClampNeg 2).toNatClampNeg = a.1 3 (a.1 2 n.toNatClampNeg 2).toNatClampNeg 2 := hb3.1.2.2
              have hidx : ((6 : Int32) * a.1 2 n.toNatClampNeg 2 + a.1 3 (a.1 2 n.toNatClampNeg 2).toNatClampNeg 2).toNatClampNeg = 6 * (a.1 2 n.toNatClampNeg 2).toNatClampNeg + (a.1 3 (a.1 2 n.toNatClampNeg 2).toNatClampNeg 2).toNatClampNeg := row_e (d := 6) (A := 60) (B := 6) (by decide) (vp_in_iff.mpr ⟨hhr.1, by have := h'.1.2.1; omega⟩) ⟨hb3.2.2.1.1, by omega⟩ (by decide)
              rw [k27, hidx]
              refine ⟨rfl, ?_⟩
              have hT := RR_tell hQ hN 5 n c (-5) (by decide)
              have k27' : (sL (sI (sI (sI (sI b 20 0 0 0) 31 0 (a.1 11 c.toNatClampNeg 1).toNatClampNeg 0) 28 0 (6 * (a.1 2 n.toNatClampNeg 2).toNatClampNeg + (a.1 3 (a.1 2 n.toNatClampNeg 2).toNatClampNeg 2).toNatClampNeg) c) 29 0 (6 * (a.1 2 n.toNatClampNeg 2).toNatClampNeg + (a.1 3 (a.1 2 n.toNatClampNeg 2).toNatClampNeg 2).toNatClampNeg) n) 30 0 (6 * (a.1 2 n.toNatClampNeg 2).toNatClampNeg + (a.1 3 (a.1 2 n.toNatClampNeg 2).toNatClampNeg 2).toNatClampNeg) (v + f_M_sumOf (sI b 20 0 0 0) (a.1 11 c.toNatClampNeg 1))).1 27 0 (a.1 2 n.toNatClampNeg 2).toNatClampNeg = a.1 3 (a.1 2 n.toNatClampNeg 2).toNatClampNeg 2 := hb3.1.2.2
              rw [k27']
              dsimp only
              rw [tell_2]
              exact hT
        · have := no _ rfl hr0
          rw [if_neg (fun q => hr0 (r3.mp ((l0 _).mp q))), r1]
          exact ⟨this.1.symm, this.2⟩
      · have hr : f_M_refusal (sI b 20 0 0 0) c n v = -1 := by
          unfold f_M_refusal
          rw [p2, t2, if_neg n10, if_neg n10, ek, eo, if_neg k1]
        have := no (-1) hr (by decide)
        rw [if_neg k1]
        exact ⟨this.1.symm, this.2⟩

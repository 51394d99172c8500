theorem tLies_eq {k : Int32} (b : mMem) (h : vp_in k 9) : tLies k.toNatClampNeg = f_M_liesIn b k ∧ ¬ f_M_liesIn b k = -2 := by
  obtain ⟨j, hj, rfl⟩ := vp_in_of h (by decide)
  rw [nI_clamp (by omega)]
  rcases (show j = 0 ∨ j = 1 ∨ j = 2 ∨ j = 3 ∨ j = 4 ∨ j = 5 ∨ j = 6 ∨ j = 7 ∨ j = 8 by omega) with rfl | rfl | rfl | rfl | rfl | rfl | rfl | rfl | rfl <;> refine ⟨rfl, ?_⟩
  · exact (show ¬ (-1 : Int32) = -2 by decide)
  · exact (show ¬ (0 : Int32) = -2 by decide)
  · exact (show ¬ (0 : Int32) = -2 by decide)
  · exact (show ¬ (1 : Int32) = -2 by decide)
  · exact (show ¬ (3 : Int32) = -2 by decide)
  · exact (show ¬ (3 : Int32) = -2 by decide)
  · exact (show ¬ (0 : Int32) = -2 by decide)
  · exact (show ¬ (6 : Int32) = -2 by decide)
  · exact (show ¬ (0 : Int32) = -2 by decide)
theorem lies_out {k : Int32} (b : mMem) (h : ¬ vp_in k 9) : f_M_liesIn b k = -2 := by
  unfold f_M_liesIn
  have ne : ∀ (v : Int32), vp_in v 9 → ¬ k = v := fun v hv q => h (q ▸ hv)
  rw [if_neg (ne 0 (vp_in_iff.mpr (by decide))), if_neg (ne 1 (vp_in_iff.mpr (by decide))), if_neg (ne 2 (vp_in_iff.mpr (by decide))), if_neg (ne 3 (vp_in_iff.mpr (by decide))), if_neg (ne 4 (vp_in_iff.mpr (by decide))), if_neg (ne 5 (vp_in_iff.mpr (by decide))), if_neg (ne 6 (vp_in_iff.mpr (by decide))), if_neg (ne 7 (vp_in_iff.mpr (by decide))), if_neg (ne 8 (vp_in_iff.mpr (by decide)))]
/-- a new thing: kind k, in w, house hh -/
theorem RR_make {N : Nat} {a b : mMem} (h : RR N a b) (kd w hh : Int32) (hm : (a.1 0 0 1).toInt < 60) (hk : 0 ≤ kd.toInt ∧ kd.toInt ≤ 8) (hr : 0 ≤ hh.toInt ∧ hh.toInt ≤ (a.1 0 0 1).toInt) (h0 : kd = 0 → w.toInt = -1 ∧ hh.toInt = (a.1 0 0 1).toInt) (h1 : ¬ kd = 0 → 0 ≤ w.toInt ∧ w.toInt < (a.1 0 0 1).toInt ∧ hh.toInt < (a.1 0 0 1).toInt) : RR N (sI (sI (nThing a (a.1 0 0 1).toNatClampNeg kd w hh) 1 0 (a.1 0 0 1).toNatClampNeg 1) 0 0 1 (a.1 0 0 1 + 1)) (sI (sI (sI (sI b 22 0 (a.1 0 0 1).toNatClampNeg kd) 23 0 (a.1 0 0 1).toNatClampNeg w) 24 0 (a.1 0 0 1).toNatClampNeg hh) 20 0 1 (a.1 0 0 1 + 1)) := by
  have hT := h.1
  have hc := cl_of hT.2.1.1
  have e1 : (1 : Int32).toInt = 1 := rfl
  have hs : (a.1 0 0 1 + 1).toInt = (a.1 0 0 1).toInt + 1 := by rw [sm_add] <;> omega
  generalize hK : (a.1 0 0 1).toNatClampNeg = K at hc ⊢
  have em : (sI (sI (nThing a K kd w hh) 1 0 K 1) 0 0 1 (a.1 0 0 1 + 1)).1 0 0 1 = a.1 0 0 1 + 1 := rfl
  refine ⟨⟨rfl, ?_, fun j hj => ?_, fun j hj => ?_⟩, h.2.1, h.2.2.1, h.2.2.2.1, h.2.2.2.2.1, h.2.2.2.2.2.1, fun j hj => ?_⟩
  · rw [em, hs]; omega
  · rw [em, hs] at hj
    have hold := hT.2.2.1 j (by omega)
    have e : ¬ j = K := by omega
    simp [sI, nThing, e]
    exact hold
  · rw [em, hs] at hj
    by_cases e : j = K
    · subst e
      simp [sI, nThing]
      exact ⟨hk, by omega, fun z => by have := h0 z; omega, fun z => by have := h1 z; omega⟩
    · have hold := hT.2.2.2 j (by omega)
      simp [sI, nThing, e]
      exact hold
  · rw [em, hs] at hj
    exact h.2.2.2.2.2.2 j (by omega)
theorem RR_makeM {N : Nat} {a b : mMem} (h : RR N a b) (kd w hh : Int32) (hm : (a.1 0 0 1).toInt < 60) (hk : 0 ≤ kd.toInt ∧ kd.toInt ≤ 8) (hr : 0 ≤ hh.toInt ∧ hh.toInt ≤ (a.1 0 0 1).toInt) (h0 : kd = 0 → w.toInt = -1 ∧ hh.toInt = (a.1 0 0 1).toInt) (h1 : ¬ kd = 0 → 0 ≤ w.toInt ∧ w.toInt < (a.1 0 0 1).toInt ∧ hh.toInt < (a.1 0 0 1).toInt) (mb : Int32) (emb : mb = a.1 0 0 1) (h2 : Int32) (eh : h2 = hh) : RR N (sI (sI (nThing a (a.1 0 0 1).toNatClampNeg kd w hh) 1 0 (a.1 0 0 1).toNatClampNeg 1) 0 0 1 (a.1 0 0 1 + 1)) (sI (sI (sI (sI b 22 0 mb.toNatClampNeg kd) 23 0 mb.toNatClampNeg w) 24 0 mb.toNatClampNeg h2) 20 0 1 (mb + 1)) := by
  subst emb eh
  exact RR_make h kd w _ hm hk hr h0 h1
theorem RR_build0 {N : Nat} {a b : mMem} (h : RR N a b) : RR N (nBuild a (a.1 0 0 1).toNatClampNeg) b := by
  have hc := cl_of h.1.2.1.1
  have hz := h.2.2.2.2.2.2 (a.1 0 0 1).toNatClampNeg (by omega)
  generalize hK : (a.1 0 0 1).toNatClampNeg = K at hc hz ⊢
  refine ⟨h.1, fun j => ?_, h.2.2.1, h.2.2.2.1, h.2.2.2.2.1, fun j m hm hlt => ?_, fun j hj => ?_⟩
  · have hb := h.2.1 j
    by_cases e : j = K
    · subst e
      rw [hz.1, hz.2.1, hz.2.2.1] at hb
      refine ⟨?_, ?_, ?_, fun m hm => ?_⟩
      · simp [nBuild, rI, rL]; exact hb.1
      · simp [nBuild, rI, rL]
      · simp [nBuild, rI, rL]
      · have h4 := hb.2.2.2 m hm
        have h5 := hz.2.2.2 m hm
        rw [h5.1, h5.2.1, h5.2.2] at h4
        simp [nBuild, rI, rL]
        exact h4
    · simp [nBuild, rI, rL, e]
      exact hb
  · by_cases e : j = K
    · subst e
      simp [nBuild, rI, rL] at hlt
      omega
    · simp [nBuild, rI, rL, e] at hlt ⊢
      exact h.2.2.2.2.2.1 j m hm hlt
  · have hzj := h.2.2.2.2.2.2 j hj
    by_cases e : j = K
    · subst e
      simp [nBuild, rI, rL]
    · simp [nBuild, rI, rL, e]
      exact hzj
theorem z_make {N : Nat} {a b : mMem} (h : RR N a b) (k w : Int32) : (f_X_make a k w).1 = (f_M_make b k w).1 ∧ RR N (f_X_make a k w).2 (f_M_make b k w).2 := by
  have h' := RR_thr h
  have hT := h'.1
  have hm := hT.2.1
  have e60 : (60 : Int32).toInt = 60 := rfl
  have hb1 : (sI b 20 0 0 0).1 20 0 1 = a.1 0 0 1 := hT.1
  unfold f_X_make f_M_make
  dsimp only
  by_cases hk : vp_in k 9
  · obtain ⟨el, hl2⟩ := tLies_eq (sI b 20 0 0 0) hk
    have hki := vp_in_iff.mp hk
    have e9 : (9 : Int32).toInt = 9 := rfl
    have e0 : (0 : Int32).toInt = 0 := rfl
    have ek : f_X_isKind a k = 1 := (if_neg (pos_lt hki.1)).trans (if_neg (fun q : (9 : Int32) ≤ k => by have := yle q; omega))
    rw [ek, if_neg n10, if_neg hl2]
    by_cases c : a.1 0 0 1 < 60
    · have gc := ylt c
      rw [if_pos c, if_neg (fun q : (sI b 20 0 0 0).1 20 0 1 = 60 => by rw [hb1] at q; have := congrArg Int32.toInt q; omega)]
      by_cases kz : k = 0
      · rw [if_pos kz, if_pos kz]
        subst kz
        exact ⟨by show (a.1 0 0 1 + 1) - 1 = (b.1 20 0 1 + 1) - 1; rw [show b.1 20 0 1 = a.1 0 0 1 from h.1.1], RR_makeM (RR_build0 h') 0 (-1) (a.1 0 0 1) (by show (a.1 0 0 1).toInt < 60; omega) (by decide) (by show _ ∧ _ ≤ (a.1 0 0 1).toInt; omega) (fun _ => ⟨by decide, rfl⟩) (fun q => absurd rfl q) ((sI b 20 0 0 0).1 20 0 1) hb1 ((sI b 20 0 0 0).1 20 0 1) hb1⟩
      · rw [if_neg kz, if_neg kz]
        rcases thing_eq hT w with ⟨q1, q2⟩ | ⟨w0, w1, wz, q1, q2⟩
        · rw [q1, q2, if_pos rfl]; exact ⟨rfl, h'⟩
        · rw [q1, q2, if_neg n10]
          have hc := cl_of w0
          have hj := hT.2.2.2 w.toNatClampNeg (by omega)
          rw [hj.2.1 wz, ← el]
          simp only [oC]
          by_cases d : a.1 2 w.toNatClampNeg 0 = tLies k.toNatClampNeg
          · rw [if_pos d, if_pos d]
            rcases isOn_eq h'.2.1 (a.1 2 w.toNatClampNeg 2).toNatClampNeg with ⟨p1, p2, -⟩ | ⟨p1, p2, -⟩
            all_goals rw [← hj.2.2.2.1] at p2
            · rw [p1, if_pos rfl, if_pos p2]
              exact ⟨by show (a.1 0 0 1 + 1) - 1 = (b.1 20 0 1 + 1) - 1; rw [show b.1 20 0 1 = a.1 0 0 1 from h.1.1], RR_makeM h' k w (a.1 2 w.toNatClampNeg 2) (by omega) ⟨hki.1, by omega⟩ ⟨hj.2.2.2.2.2.1.1, by omega⟩ (fun q => absurd q kz) (fun _ => ⟨w0, w1, by omega⟩) ((sI b 20 0 0 0).1 20 0 1) hb1 ((sI b 20 0 0 0).1 24 0 w.toNatClampNeg) hj.2.2.2.1⟩
            · rw [p1, if_neg n10, if_neg p2]; exact ⟨rfl, h'⟩
          · rw [if_neg d, if_neg d]; exact ⟨rfl, h'⟩
    · have gc := nlt c
      rw [if_neg c, if_pos (show (sI b 20 0 0 0).1 20 0 1 = 60 from hb1.trans (Int32.toInt_inj.mp (by omega)))]
      exact ⟨rfl, h'⟩
  · have el := lies_out (sI b 20 0 0 0) hk
    have ek : f_X_isKind a k = 0 := by
      by_cases q : f_X_isKind a k = 0
      · exact q
      · exact absurd (kind_in q) hk
    rw [ek, if_pos rfl, if_pos el]
    exact ⟨rfl, h'⟩

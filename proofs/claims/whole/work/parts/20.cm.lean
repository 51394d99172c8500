set_option maxHeartbeats 4000000 in
set_option maxRecDepth 100000 in
theorem c_M_isThing (l : Launch) (G : mG) (τ : mTau) (μ : mMem) (a1 : Int32) (hJ : iM μ) : Met l y_M_isThing w_M_isThing r_M_isThing (mPc G τ μ [.ref (τ.1 20 0), .int a1]) (mQ G τ (some (.int (f_M_isThing μ a1))) μ) 0 0 (fun q => G.2.2.1 ≤ q) := by
  refine Met.ofW (cc := b_M_isThing) (maxL := 2) (ret := (some .boolean)) (by decide) rfl ?_
  intro p e s m args below meth c s₁ B hml hv
  obtain ⟨rfl, hT, hM⟩ := hv
  have hx := B.exec
  have hb := B.bytes
  have hr := B.returns
  have hts : ∀ w ∈ gG, w.before _ s = true := fun w h => atoms_spec (ws := w_M_isThing) B.pre w (List.mem_cons_of_mem _ h)
  have hown : s.vm.findClass R_M = some m.cls := findClass_of_methodNamed B.named
  have hlocks := B.notSynchronized
  have hl := lv_entry ([.ref (τ.1 20 0), .int a1]) (n := 2) (Nat.le_of_ble_eq_true rfl)
  rw [lg_entry_eq]
  skip
  generalize (lg_sl ([.ref (τ.1 20 0), .int a1]) ++ List.replicate (2 - (lg_sl ([.ref (τ.1 20 0), .int a1])).length) Slot.unset).toArray = ls at hl ⊢
  have hl : lv_has ls 2 [(0, .ref (τ.1 20 0)), (1, .int a1)] := hl
  refine lv_iload_n hx hb d_M_isThing_0 rfl (lv_at hl 1 rfl) ?_
  refine lv_if_lt (tgt := 26) hx hb d_M_isThing_1 (by decide) (fun c_1 => ?_) (fun c_1 => ?_)
  · skip
    refine lv_iconst (v := (0 : Int32)) hx hb d_M_isThing_26 (by decide) ?_
    have e_f : f_M_isThing μ a1 = (0 : Int32) := by
      exact (if_pos c_1).trans rfl
    rw [e_f]
    exact W.zret (v := (0 : Int32)) hx hb hr rfl (fun t ht hW => ⟨rfl, hM.end ht⟩) hM.2.2.1 d_M_isThing_27
  · skip
    refine lv_iload_n hx hb d_M_isThing_4 rfl (lv_at hl 1 rfl) ?_
    refine lv_aload_n hx hb d_M_isThing_5 rfl (lv_at hl 0 rfl) ?_
    refine gf_M_94 hx hb hts hown hT hM (lz_20 hM) d_M_isThing_6 ?_
    refine lv_icmp_ge (tgt := 26) hx hb d_M_isThing_9 (by decide) (fun c_9 => ?_) (fun c_9 => ?_)
    · skip
      refine lv_iconst (v := (0 : Int32)) hx hb d_M_isThing_26 (by decide) ?_
      have e_f : f_M_isThing μ a1 = (0 : Int32) := by
        exact (if_neg c_1).trans ((if_pos c_9).trans rfl)
      rw [e_f]
      exact W.zret (v := (0 : Int32)) hx hb hr rfl (fun t ht hW => ⟨rfl, hM.end ht⟩) hM.2.2.1 d_M_isThing_27
    · skip
      refine lv_aload_n hx hb d_M_isThing_12 rfl (lv_at hl 0 rfl) ?_
      refine gf_M_7 hx hb hts hown hT hM (lz_20 hM) d_M_isThing_13 ?_
      refine lv_iload_n hx hb d_M_isThing_16 rfl (lv_at hl 1 rfl) ?_
      refine al_22 hx hb hT hM (lz_22 hM) (in_madeM hJ c_1 c_9) d_M_isThing_17 ?_
      refine lv_iconst (v := (-1 : Int32)) hx hb d_M_isThing_18 (by decide) ?_
      refine lv_icmp_eq (tgt := 26) hx hb d_M_isThing_19 (by decide) (fun c_19 => ?_) (fun c_19 => ?_)
      · skip
        refine lv_iconst (v := (0 : Int32)) hx hb d_M_isThing_26 (by decide) ?_
        have e_f : f_M_isThing μ a1 = (0 : Int32) := by
          exact (if_neg c_1).trans ((if_neg c_9).trans ((if_pos c_19).trans rfl))
        rw [e_f]
        exact W.zret (v := (0 : Int32)) hx hb hr rfl (fun t ht hW => ⟨rfl, hM.end ht⟩) hM.2.2.1 d_M_isThing_27
      · skip
        refine lv_iconst (v := (1 : Int32)) hx hb d_M_isThing_22 (by decide) ?_
        refine lv_goto (tgt := 27) hx hb d_M_isThing_23 (by decide) ?_
        have e_f : f_M_isThing μ a1 = (1 : Int32) := by
          exact (if_neg c_1).trans ((if_neg c_9).trans ((if_neg c_19).trans rfl))
        rw [e_f]
        exact W.zret (v := (1 : Int32)) hx hb hr rfl (fun t ht hW => ⟨rfl, hM.end ht⟩) hM.2.2.1 d_M_isThing_27
set_option maxHeartbeats 4000000 in
set_option maxRecDepth 100000 in
theorem c_M_isHouse (l : Launch) (G : mG) (τ : mTau) (μ : mMem) (a1 : Int32) (hJ : iM μ) : Met l y_M_isHouse w_M_isHouse r_M_isHouse (mPc G τ μ [.ref (τ.1 20 0), .int a1]) (mQ G τ (some (.int (f_M_isHouse μ a1))) μ) 0 0 (fun q => G.2.2.1 ≤ q) := by
  refine Met.ofW (cc := b_M_isHouse) (maxL := 2) (ret := (some .boolean)) (by decide) rfl ?_
  intro p e s m args below meth c s₁ B hml hv
  obtain ⟨rfl, hT, hM⟩ := hv
  have hx := B.exec
  have hb := B.bytes
  have hr := B.returns
  have hts : ∀ w ∈ gG, w.before _ s = true := fun w h => atoms_spec (ws := w_M_isHouse) B.pre w (List.mem_cons_of_mem _ h)
  have hown : s.vm.findClass R_M = some m.cls := findClass_of_methodNamed B.named
  have hlocks := B.notSynchronized
  have hl := lv_entry ([.ref (τ.1 20 0), .int a1]) (n := 2) (Nat.le_of_ble_eq_true rfl)
  rw [lg_entry_eq]
  skip
  generalize (lg_sl ([.ref (τ.1 20 0), .int a1]) ++ List.replicate (2 - (lg_sl ([.ref (τ.1 20 0), .int a1])).length) Slot.unset).toArray = ls at hl ⊢
  have hl : lv_has ls 2 [(0, .ref (τ.1 20 0)), (1, .int a1)] := hl
  refine lv_aload_n hx hb d_M_isHouse_0 rfl (lv_at hl 0 rfl) ?_
  refine lv_iload_n hx hb d_M_isHouse_1 rfl (lv_at hl 1 rfl) ?_
  refine q_M_97 hx hb hml hown hts hT hM (lz_20 hM) (c_M_isThing l G τ μ a1 (hJ)) ⟨Nat.le_of_ble_eq_true rfl, Nat.le_of_ble_eq_true rfl⟩ ⟨Nat.zero_le _, Nat.zero_le _⟩ (lv_room (Nat.le_of_ble_eq_true rfl)) hl.1 d_M_isHouse_2 (fun H locs hM => ?_)
  refine lv_if_eq (tgt := 21) hx hb d_M_isHouse_5 (by decide) (fun c_5 => ?_) (fun c_5 => ?_)
  · skip
    refine lv_iconst (v := (0 : Int32)) hx hb d_M_isHouse_21 (by decide) ?_
    have e_f : f_M_isHouse μ a1 = (0 : Int32) := by
      exact (if_pos c_5).trans rfl
    rw [e_f]
    exact W.zret (v := (0 : Int32)) hx hb hr rfl (fun t ht hW => ⟨rfl, hM.end ht⟩) hM.2.2.1 d_M_isHouse_22
  · skip
    have ht := mt_in hJ c_5
    refine lv_aload_n hx hb d_M_isHouse_8 rfl (lv_at hl 0 rfl) ?_
    refine gf_M_7 hx hb hts hown hT hM (lz_20 hM) d_M_isHouse_9 ?_
    refine lv_iload_n hx hb d_M_isHouse_12 rfl (lv_at hl 1 rfl) ?_
    refine al_22 hx hb hT hM (lz_22 hM) (by first | assumption | exact vin 60 (b := 60) (by decide) (by assumption) (by assumption)) d_M_isHouse_13 ?_
    refine lv_if_ne (tgt := 21) hx hb d_M_isHouse_14 (by decide) (fun c_14 => ?_) (fun c_14 => ?_)
    · skip
      refine lv_iconst (v := (0 : Int32)) hx hb d_M_isHouse_21 (by decide) ?_
      have e_f : f_M_isHouse μ a1 = (0 : Int32) := by
        exact (if_neg c_5).trans ((if_neg c_14).trans rfl)
      rw [e_f]
      exact W.zret (v := (0 : Int32)) hx hb hr rfl (fun t ht hW => ⟨rfl, hM.end ht⟩) hM.2.2.1 d_M_isHouse_22
    · skip
      refine lv_iconst (v := (1 : Int32)) hx hb d_M_isHouse_17 (by decide) ?_
      refine lv_goto (tgt := 22) hx hb d_M_isHouse_18 (by decide) ?_
      have e_f : f_M_isHouse μ a1 = (1 : Int32) := by
        exact (if_neg c_5).trans ((if_pos c_14).trans rfl)
      rw [e_f]
      exact W.zret (v := (1 : Int32)) hx hb hr rfl (fun t ht hW => ⟨rfl, hM.end ht⟩) hM.2.2.1 d_M_isHouse_22
set_option maxHeartbeats 4000000 in
set_option maxRecDepth 100000 in
theorem c_M_isDefined (l : Launch) (G : mG) (τ : mTau) (μ : mMem) (a1 : Int32) : Met l y_M_isDefined w_M_isDefined r_M_isDefined (mPc G τ μ [.ref (τ.1 20 0), .int a1]) (mQ G τ (some (.int (f_M_isDefined μ a1))) μ) 0 0 (fun q => G.2.2.1 ≤ q) := by
  refine Met.ofW (cc := b_M_isDefined) (maxL := 2) (ret := (some .boolean)) (by decide) rfl ?_
  intro p e s m args below meth c s₁ B hml hv
  obtain ⟨rfl, hT, hM⟩ := hv
  have hx := B.exec
  have hb := B.bytes
  have hr := B.returns
  have hts : ∀ w ∈ gG, w.before _ s = true := fun w h => atoms_spec (ws := w_M_isDefined) B.pre w (List.mem_cons_of_mem _ h)
  have hown : s.vm.findClass R_M = some m.cls := findClass_of_methodNamed B.named
  have hlocks := B.notSynchronized
  have hl := lv_entry ([.ref (τ.1 20 0), .int a1]) (n := 2) (Nat.le_of_ble_eq_true rfl)
  rw [lg_entry_eq]
  skip
  generalize (lg_sl ([.ref (τ.1 20 0), .int a1]) ++ List.replicate (2 - (lg_sl ([.ref (τ.1 20 0), .int a1])).length) Slot.unset).toArray = ls at hl ⊢
  have hl : lv_has ls 2 [(0, .ref (τ.1 20 0)), (1, .int a1)] := hl
  refine lv_iload_n hx hb d_M_isDefined_0 rfl (lv_at hl 1 rfl) ?_
  refine lv_if_lt (tgt := 23) hx hb d_M_isDefined_1 (by decide) (fun c_1 => ?_) (fun c_1 => ?_)
  · skip
    refine lv_iconst (v := (0 : Int32)) hx hb d_M_isDefined_23 (by decide) ?_
    have e_f : f_M_isDefined μ a1 = (0 : Int32) := by
      exact (if_pos c_1).trans rfl
    rw [e_f]
    exact W.zret (v := (0 : Int32)) hx hb hr rfl (fun t ht hW => ⟨rfl, hM.end ht⟩) hM.2.2.1 d_M_isDefined_24
  · skip
    refine lv_iload_n hx hb d_M_isDefined_4 rfl (lv_at hl 1 rfl) ?_
    refine lv_bipush (v := (12 : Int32)) hx hb d_M_isDefined_5 (by decide) ?_
    refine lv_icmp_ge (tgt := 23) hx hb d_M_isDefined_7 (by decide) (fun c_7 => ?_) (fun c_7 => ?_)
    · skip
      refine lv_iconst (v := (0 : Int32)) hx hb d_M_isDefined_23 (by decide) ?_
      have e_f : f_M_isDefined μ a1 = (0 : Int32) := by
        exact (if_neg c_1).trans ((if_pos c_7).trans rfl)
      rw [e_f]
      exact W.zret (v := (0 : Int32)) hx hb hr rfl (fun t ht hW => ⟨rfl, hM.end ht⟩) hM.2.2.1 d_M_isDefined_24
    · skip
      refine lv_aload_n hx hb d_M_isDefined_10 rfl (lv_at hl 0 rfl) ?_
      refine gf_M_44 hx hb hts hown hT hM (lz_20 hM) d_M_isDefined_11 ?_
      refine lv_iload_n hx hb d_M_isDefined_14 rfl (lv_at hl 1 rfl) ?_
      refine al_33 hx hb hT hM (lz_33 hM) (by first | assumption | exact vin 12 (b := 12) (by decide) (by assumption) (by assumption)) d_M_isDefined_15 ?_
      refine lv_if_eq (tgt := 23) hx hb d_M_isDefined_16 (by decide) (fun c_16 => ?_) (fun c_16 => ?_)
      · skip
        refine lv_iconst (v := (0 : Int32)) hx hb d_M_isDefined_23 (by decide) ?_
        have e_f : f_M_isDefined μ a1 = (0 : Int32) := by
          exact (if_neg c_1).trans ((if_neg c_7).trans ((if_pos c_16).trans rfl))
        rw [e_f]
        exact W.zret (v := (0 : Int32)) hx hb hr rfl (fun t ht hW => ⟨rfl, hM.end ht⟩) hM.2.2.1 d_M_isDefined_24
      · skip
        refine lv_iconst (v := (1 : Int32)) hx hb d_M_isDefined_19 (by decide) ?_
        refine lv_goto (tgt := 24) hx hb d_M_isDefined_20 (by decide) ?_
        have e_f : f_M_isDefined μ a1 = (1 : Int32) := by
          exact (if_neg c_1).trans ((if_neg c_7).trans ((if_neg c_16).trans rfl))
        rw [e_f]
        exact W.zret (v := (1 : Int32)) hx hb hr rfl (fun t ht hW => ⟨rfl, hM.end ht⟩) hM.2.2.1 d_M_isDefined_24
set_option maxHeartbeats 4000000 in
set_option maxRecDepth 100000 in
theorem c_M_liesIn (l : Launch) (G : mG) (τ : mTau) (μ : mMem) (a1 : Int32) : Met l y_M_liesIn w_M_liesIn r_M_liesIn (mPc G τ μ [.int a1]) (mQ G τ (some (.int (f_M_liesIn μ a1))) μ) 0 0 (fun q => G.2.2.1 ≤ q) := by
  refine Met.ofW (cc := b_M_liesIn) (maxL := 1) (ret := (some .int)) (by decide) rfl ?_
  intro p e s m args below meth c s₁ B hml hv
  obtain ⟨rfl, hT, hM⟩ := hv
  have hx := B.exec
  have hb := B.bytes
  have hr := B.returns
  have hts : ∀ w ∈ gG, w.before _ s = true := fun w h => atoms_spec (ws := w_M_liesIn) B.pre w (List.mem_cons_of_mem _ h)
  have hown : s.vm.findClass R_M = some m.cls := findClass_of_methodNamed B.named
  have hlocks := B.notSynchronized
  have hl := lv_entry ([.int a1]) (n := 1) (Nat.le_of_ble_eq_true rfl)
  rw [lg_entry_eq]
  skip
  generalize (lg_sl ([.int a1]) ++ List.replicate (1 - (lg_sl ([.int a1])).length) Slot.unset).toArray = ls at hl ⊢
  have hl : lv_has ls 1 [(0, .int a1)] := hl
  refine lv_iload_n hx hb d_M_liesIn_0 rfl (lv_at hl 0 rfl) ?_
  by_cases c_1_0 : a1 = (0 : Int32)
  · skip
    refine lv_tableIn (tgt := 52) hx hb d_M_liesIn_1 (by rw [c_1_0]; decide) (by rw [c_1_0]; decide) (by rw [c_1_0]; rfl) (by decide) ?_
    refine lv_iconst (v := (-1 : Int32)) hx hb d_M_liesIn_52 (by decide) ?_
    have e_f : f_M_liesIn μ a1 = (-1 : Int32) := by
      exact (if_pos c_1_0).trans rfl
    rw [e_f]
    exact W.iret (v := (-1 : Int32)) hx hb hr (fun t ht hW => ⟨rfl, hM.end ht⟩) hM.2.2.1 d_M_liesIn_53
  · skip
    by_cases c_1_1 : a1 = (1 : Int32)
    · skip
      refine lv_tableIn (tgt := 54) hx hb d_M_liesIn_1 (by rw [c_1_1]; decide) (by rw [c_1_1]; decide) (by rw [c_1_1]; rfl) (by decide) ?_
      refine lv_iconst (v := (0 : Int32)) hx hb d_M_liesIn_54 (by decide) ?_
      have e_f : f_M_liesIn μ a1 = (0 : Int32) := by
        exact (if_neg c_1_0).trans ((if_pos c_1_1).trans rfl)
      rw [e_f]
      exact W.iret (v := (0 : Int32)) hx hb hr (fun t ht hW => ⟨rfl, hM.end ht⟩) hM.2.2.1 d_M_liesIn_55
    · skip
      by_cases c_1_2 : a1 = (2 : Int32)
      · skip
        refine lv_tableIn (tgt := 54) hx hb d_M_liesIn_1 (by rw [c_1_2]; decide) (by rw [c_1_2]; decide) (by rw [c_1_2]; rfl) (by decide) ?_
        refine lv_iconst (v := (0 : Int32)) hx hb d_M_liesIn_54 (by decide) ?_
        have e_f : f_M_liesIn μ a1 = (0 : Int32) := by
          exact (if_neg c_1_0).trans ((if_neg c_1_1).trans ((if_pos c_1_2).trans rfl))
        rw [e_f]
        exact W.iret (v := (0 : Int32)) hx hb hr (fun t ht hW => ⟨rfl, hM.end ht⟩) hM.2.2.1 d_M_liesIn_55
      · skip
        by_cases c_1_3 : a1 = (3 : Int32)
        · skip
          refine lv_tableIn (tgt := 56) hx hb d_M_liesIn_1 (by rw [c_1_3]; decide) (by rw [c_1_3]; decide) (by rw [c_1_3]; rfl) (by decide) ?_
          refine lv_iconst (v := (1 : Int32)) hx hb d_M_liesIn_56 (by decide) ?_
          have e_f : f_M_liesIn μ a1 = (1 : Int32) := by
            exact (if_neg c_1_0).trans ((if_neg c_1_1).trans ((if_neg c_1_2).trans ((if_pos c_1_3).trans rfl)))
          rw [e_f]
          exact W.iret (v := (1 : Int32)) hx hb hr (fun t ht hW => ⟨rfl, hM.end ht⟩) hM.2.2.1 d_M_liesIn_57
        · skip
          by_cases c_1_4 : a1 = (4 : Int32)
          · skip
            refine lv_tableIn (tgt := 58) hx hb d_M_liesIn_1 (by rw [c_1_4]; decide) (by rw [c_1_4]; decide) (by rw [c_1_4]; rfl) (by decide) ?_
            refine lv_iconst (v := (3 : Int32)) hx hb d_M_liesIn_58 (by decide) ?_
            have e_f : f_M_liesIn μ a1 = (3 : Int32) := by
              exact (if_neg c_1_0).trans ((if_neg c_1_1).trans ((if_neg c_1_2).trans ((if_neg c_1_3).trans ((if_pos c_1_4).trans rfl))))
            rw [e_f]
            exact W.iret (v := (3 : Int32)) hx hb hr (fun t ht hW => ⟨rfl, hM.end ht⟩) hM.2.2.1 d_M_liesIn_59
          · skip
            by_cases c_1_5 : a1 = (5 : Int32)
            · skip
              refine lv_tableIn (tgt := 58) hx hb d_M_liesIn_1 (by rw [c_1_5]; decide) (by rw [c_1_5]; decide) (by rw [c_1_5]; rfl) (by decide) ?_
              refine lv_iconst (v := (3 : Int32)) hx hb d_M_liesIn_58 (by decide) ?_
              have e_f : f_M_liesIn μ a1 = (3 : Int32) := by
                exact (if_neg c_1_0).trans ((if_neg c_1_1).trans ((if_neg c_1_2).trans ((if_neg c_1_3).trans ((if_neg c_1_4).trans ((if_pos c_1_5).trans rfl)))))
              rw [e_f]
              exact W.iret (v := (3 : Int32)) hx hb hr (fun t ht hW => ⟨rfl, hM.end ht⟩) hM.2.2.1 d_M_liesIn_59
            · skip
              by_cases c_1_6 : a1 = (6 : Int32)
              · skip
                refine lv_tableIn (tgt := 54) hx hb d_M_liesIn_1 (by rw [c_1_6]; decide) (by rw [c_1_6]; decide) (by rw [c_1_6]; rfl) (by decide) ?_
                refine lv_iconst (v := (0 : Int32)) hx hb d_M_liesIn_54 (by decide) ?_
                have e_f : f_M_liesIn μ a1 = (0 : Int32) := by
                  exact (if_neg c_1_0).trans ((if_neg c_1_1).trans ((if_neg c_1_2).trans ((if_neg c_1_3).trans ((if_neg c_1_4).trans ((if_neg c_1_5).trans ((if_pos c_1_6).trans rfl))))))
                rw [e_f]
                exact W.iret (v := (0 : Int32)) hx hb hr (fun t ht hW => ⟨rfl, hM.end ht⟩) hM.2.2.1 d_M_liesIn_55
              · skip
                by_cases c_1_7 : a1 = (7 : Int32)
                · skip
                  refine lv_tableIn (tgt := 60) hx hb d_M_liesIn_1 (by rw [c_1_7]; decide) (by rw [c_1_7]; decide) (by rw [c_1_7]; rfl) (by decide) ?_
                  refine lv_bipush (v := (6 : Int32)) hx hb d_M_liesIn_60 (by decide) ?_
                  have e_f : f_M_liesIn μ a1 = (6 : Int32) := by
                    exact (if_neg c_1_0).trans ((if_neg c_1_1).trans ((if_neg c_1_2).trans ((if_neg c_1_3).trans ((if_neg c_1_4).trans ((if_neg c_1_5).trans ((if_neg c_1_6).trans ((if_pos c_1_7).trans rfl)))))))
                  rw [e_f]
                  exact W.iret (v := (6 : Int32)) hx hb hr (fun t ht hW => ⟨rfl, hM.end ht⟩) hM.2.2.1 d_M_liesIn_62
                · skip
                  by_cases c_1_8 : a1 = (8 : Int32)
                  · skip
                    refine lv_tableIn (tgt := 54) hx hb d_M_liesIn_1 (by rw [c_1_8]; decide) (by rw [c_1_8]; decide) (by rw [c_1_8]; rfl) (by decide) ?_
                    refine lv_iconst (v := (0 : Int32)) hx hb d_M_liesIn_54 (by decide) ?_
                    have e_f : f_M_liesIn μ a1 = (0 : Int32) := by
                      exact (if_neg c_1_0).trans ((if_neg c_1_1).trans ((if_neg c_1_2).trans ((if_neg c_1_3).trans ((if_neg c_1_4).trans ((if_neg c_1_5).trans ((if_neg c_1_6).trans ((if_neg c_1_7).trans ((if_pos c_1_8).trans rfl))))))))
                    rw [e_f]
                    exact W.iret (v := (0 : Int32)) hx hb hr (fun t ht hW => ⟨rfl, hM.end ht⟩) hM.2.2.1 d_M_liesIn_55
                  · skip
                    refine lv_tableOut (tgt := 63) hx hb d_M_liesIn_1 (by have h0 := sw_ne 0 (by decide) c_1_0; have h1 := sw_ne 1 (by decide) c_1_1; have h2 := sw_ne 2 (by decide) c_1_2; have h3 := sw_ne 3 (by decide) c_1_3; have h4 := sw_ne 4 (by decide) c_1_4; have h5 := sw_ne 5 (by decide) c_1_5; have h6 := sw_ne 6 (by decide) c_1_6; have h7 := sw_ne 7 (by decide) c_1_7; have h8 := sw_ne 8 (by decide) c_1_8; omega) (by decide) ?_
                    refine lv_bipush (v := (-2 : Int32)) hx hb d_M_liesIn_63 (by decide) ?_
                    have e_f : f_M_liesIn μ a1 = (-2 : Int32) := by
                      exact (if_neg c_1_0).trans ((if_neg c_1_1).trans ((if_neg c_1_2).trans ((if_neg c_1_3).trans ((if_neg c_1_4).trans ((if_neg c_1_5).trans ((if_neg c_1_6).trans ((if_neg c_1_7).trans ((if_neg c_1_8).trans rfl))))))))
                    rw [e_f]
                    exact W.iret (v := (-2 : Int32)) hx hb hr (fun t ht hW => ⟨rfl, hM.end ht⟩) hM.2.2.1 d_M_liesIn_65
set_option maxHeartbeats 4000000 in
set_option maxRecDepth 100000 in
theorem c_M_make (l : Launch) (G : mG) (τ : mTau) (μ : mMem) (a1 : Int32) (a2 : Int32) (hJ : iM μ) : Met l y_M_make w_M_make r_M_make (mPc G τ μ [.ref (τ.1 20 0), .int a1, .int a2]) (mQ G τ (some (.int (f_M_make μ a1 a2).1)) (f_M_make μ a1 a2).2) 0 0 (fun q => G.2.2.1 ≤ q) := by
  refine Met.ofW (cc := b_M_make) (maxL := 4) (ret := (some .int)) (by decide) rfl ?_
  intro p e s m args below meth c s₁ B hml hv
  obtain ⟨rfl, hT, hM⟩ := hv
  have hx := B.exec
  have hb := B.bytes
  have hr := B.returns
  have hts : ∀ w ∈ gG, w.before _ s = true := fun w h => atoms_spec (ws := w_M_make) B.pre w (List.mem_cons_of_mem _ h)
  have hown : s.vm.findClass R_M = some m.cls := findClass_of_methodNamed B.named
  have hlocks := B.notSynchronized
  have hl := lv_entry ([.ref (τ.1 20 0), .int a1, .int a2]) (n := 4) (Nat.le_of_ble_eq_true rfl)
  rw [lg_entry_eq]
  skip
  generalize (lg_sl ([.ref (τ.1 20 0), .int a1, .int a2]) ++ List.replicate (4 - (lg_sl ([.ref (τ.1 20 0), .int a1, .int a2])).length) Slot.unset).toArray = ls at hl ⊢
  have hl : lv_has ls 4 [(0, .ref (τ.1 20 0)), (1, .int a1), (2, .int a2)] := hl
  refine lv_aload_n hx hb d_M_make_0 rfl (lv_at hl 0 rfl) ?_
  refine lv_iconst (v := (0 : Int32)) hx hb d_M_make_1 (by decide) ?_
  refine pf_M_90 hx hb hts hown hT hM (lz_20 hM) d_M_make_2 (fun m_2 H locs e_2 hM => ?_)
  have hJ : iM m_2 := by rw [e_2]; exact iM_I hJ rfl
  refine lv_iload_n hx hb d_M_make_5 rfl (lv_at hl 1 rfl) ?_
  refine q_M_101 hx hb hml hown hts hT hM (c_M_liesIn l G τ m_2 a1) ⟨Nat.le_of_ble_eq_true rfl, Nat.le_of_ble_eq_true rfl⟩ ⟨Nat.zero_le _, Nat.zero_le _⟩ (lv_room (Nat.le_of_ble_eq_true rfl)) hl.1 d_M_make_6 (fun H locs hM => ?_)
  refine lv_istore_n (lv' := [(3, .int (f_M_liesIn m_2 a1)), (0, .ref (τ.1 20 0)), (1, .int a1), (2, .int a2)]) hx hb d_M_make_9 rfl hl (by decide) rfl (fun ls hl => ?_)
  refine lv_iload_n hx hb d_M_make_10 rfl (lv_at hl 0 rfl) ?_
  refine lv_bipush (v := (-2 : Int32)) hx hb d_M_make_11 (by decide) ?_
  refine lv_icmp_eq (tgt := 25) hx hb d_M_make_13 (by decide) (fun c_13 => ?_) (fun c_13 => ?_)
  · skip
    refine lv_iconst (v := (-1 : Int32)) hx hb d_M_make_25 (by decide) ?_
    have e_f : f_M_make μ a1 a2 = ((-1 : Int32), m_2) := by
      subst e_2
      exact (if_pos c_13).trans rfl
    rw [e_f]
    exact W.iret (v := (-1 : Int32)) hx hb hr (fun t ht hW => ⟨rfl, hM.end ht⟩) hM.2.2.1 d_M_make_26
  · skip
    refine lv_aload_n hx hb d_M_make_16 rfl (lv_at hl 1 rfl) ?_
    refine gf_M_94 hx hb hts hown hT hM (lz_20 hM) d_M_make_17 ?_
    refine lv_bipush (v := (60 : Int32)) hx hb d_M_make_20 (by decide) ?_
    refine lv_icmp_ne (tgt := 27) hx hb d_M_make_22 (by decide) (fun c_22 => ?_) (fun c_22 => ?_)
    · skip
      have hm := mk_in hJ c_22
      refine lv_iload_n hx hb d_M_make_27 rfl (lv_at hl 2 rfl) ?_
      refine lv_if_eq (tgt := 65) hx hb d_M_make_28 (by decide) (fun c_28 => ?_) (fun c_28 => ?_)
      · skip
        refine lv_aload_n hx hb d_M_make_65 rfl (lv_at hl 1 rfl) ?_
        refine gf_M_7 hx hb hts hown hT hM (lz_20 hM) d_M_make_66 ?_
        refine lv_aload_n hx hb d_M_make_69 rfl (lv_at hl 1 rfl) ?_
        refine gf_M_94 hx hb hts hown hT hM (lz_20 hM) d_M_make_70 ?_
        refine lv_iload_n hx hb d_M_make_73 rfl (lv_at hl 2 rfl) ?_
        refine as_22 hx hb hT hM (lz_22 hM) (hm) d_M_make_74 (fun m_74 H locs e_74 hM => ?_)
        have hJ : iM m_74 := by rw [e_74]; exact iM_I hJ rfl
        refine lv_aload_n hx hb d_M_make_75 rfl (lv_at hl 1 rfl) ?_
        refine gf_M_13 hx hb hts hown hT hM (lz_20 hM) d_M_make_76 ?_
        refine lv_aload_n hx hb d_M_make_79 rfl (lv_at hl 1 rfl) ?_
        refine gf_M_94 hx hb hts hown hT hM (lz_20 hM) d_M_make_80 ?_
        refine lv_iload_n hx hb d_M_make_83 rfl (lv_at hl 2 rfl) ?_
        refine lv_if_ne (tgt := 91) hx hb d_M_make_84 (by decide) (fun c_84 => ?_) (fun c_84 => ?_)
        · exact absurd c_28 c_84
        · skip
          refine lv_iconst (v := (-1 : Int32)) hx hb d_M_make_87 (by decide) ?_
          refine lv_goto (tgt := 92) hx hb d_M_make_88 (by decide) ?_
          refine as_23 hx hb hT hM (lz_23 hM) (by rw [e_74]; exact hm) d_M_make_92 (fun m_92 H locs e_92 hM => ?_)
          refine lv_aload_n hx hb d_M_make_93 rfl (lv_at hl 1 rfl) ?_
          refine gf_M_16 hx hb hts hown hT hM (lz_20 hM) d_M_make_94 ?_
          refine lv_aload_n hx hb d_M_make_97 rfl (lv_at hl 1 rfl) ?_
          refine gf_M_94 hx hb hts hown hT hM (lz_20 hM) d_M_make_98 ?_
          refine lv_iload_n hx hb d_M_make_101 rfl (lv_at hl 2 rfl) ?_
          refine lv_if_ne (tgt := 112) hx hb d_M_make_102 (by decide) (fun c_102 => ?_) (fun c_102 => ?_)
          · exact absurd c_28 c_102
          · skip
            refine lv_aload_n hx hb d_M_make_105 rfl (lv_at hl 1 rfl) ?_
            refine gf_M_94 hx hb hts hown hT hM (lz_20 hM) d_M_make_106 ?_
            refine lv_goto (tgt := 118) hx hb d_M_make_109 (by decide) ?_
            refine as_24 hx hb hT hM (lz_24 hM) (by rw [e_92, e_74]; exact hm) d_M_make_118 (fun m_118 H locs e_118 hM => ?_)
            refine lv_aload_n hx hb d_M_make_119 rfl (lv_at hl 1 rfl) ?_
            refine lv_dup hx hb d_M_make_120 rfl ?_
            refine gf_M_94 hx hb hts hown hT hM (lz_20 hM) d_M_make_121 ?_
            refine lv_iconst (v := (1 : Int32)) hx hb d_M_make_124 (by decide) ?_
            refine lv_iadd hx hb d_M_make_125 ?_
            refine pf_M_94 hx hb hts hown hT hM (lz_20 hM) d_M_make_126 (fun m_126 H locs e_126 hM => ?_)
            refine lv_aload_n hx hb d_M_make_129 rfl (lv_at hl 1 rfl) ?_
            refine gf_M_94 hx hb hts hown hT hM (lz_20 hM) d_M_make_130 ?_
            refine lv_iconst (v := (1 : Int32)) hx hb d_M_make_133 (by decide) ?_
            refine lv_isub hx hb d_M_make_134 ?_
            have e_f : f_M_make μ a1 a2 = ((m_126.1 20 0 1) - (1 : Int32), m_126) := by
              subst e_126 e_118 e_92 e_74 e_2
              exact (if_neg c_13).trans ((if_neg c_22).trans ((if_pos c_28).trans rfl))
            rw [e_f]
            exact W.iret (v := (m_126.1 20 0 1) - (1 : Int32)) hx hb hr (fun t ht hW => ⟨rfl, hM.end ht⟩) hM.2.2.1 d_M_make_135
      · skip
        refine lv_aload_n hx hb d_M_make_31 rfl (lv_at hl 1 rfl) ?_
        refine lv_iload_n hx hb d_M_make_32 rfl (lv_at hl 3 rfl) ?_
        refine q_M_97 hx hb hml hown hts hT hM (lz_20 hM) (c_M_isThing l G τ m_2 a2 (hJ)) ⟨Nat.le_of_ble_eq_true rfl, Nat.le_of_ble_eq_true rfl⟩ ⟨Nat.zero_le _, Nat.zero_le _⟩ (lv_room (Nat.le_of_ble_eq_true rfl)) hl.1 d_M_make_33 (fun H locs hM => ?_)
        refine lv_if_eq (tgt := 63) hx hb d_M_make_36 (by decide) (fun c_36 => ?_) (fun c_36 => ?_)
        · skip
          refine lv_iconst (v := (-1 : Int32)) hx hb d_M_make_63 (by decide) ?_
          have e_f : f_M_make μ a1 a2 = ((-1 : Int32), m_2) := by
            subst e_2
            exact (if_neg c_13).trans ((if_neg c_22).trans ((if_neg c_28).trans ((if_pos c_36).trans rfl)))
          rw [e_f]
          exact W.iret (v := (-1 : Int32)) hx hb hr (fun t ht hW => ⟨rfl, hM.end ht⟩) hM.2.2.1 d_M_make_64
        · skip
          have ht := mt_in hJ c_36
          refine lv_aload_n hx hb d_M_make_39 rfl (lv_at hl 1 rfl) ?_
          refine gf_M_7 hx hb hts hown hT hM (lz_20 hM) d_M_make_40 ?_
          refine lv_iload_n hx hb d_M_make_43 rfl (lv_at hl 3 rfl) ?_
          refine al_22 hx hb hT hM (lz_22 hM) (by first | assumption | exact vin 60 (b := 60) (by decide) (by assumption) (by assumption)) d_M_make_44 ?_
          refine lv_iload_n hx hb d_M_make_45 rfl (lv_at hl 0 rfl) ?_
          refine lv_icmp_ne (tgt := 63) hx hb d_M_make_46 (by decide) (fun c_46 => ?_) (fun c_46 => ?_)
          · skip
            refine lv_iconst (v := (-1 : Int32)) hx hb d_M_make_63 (by decide) ?_
            have e_f : f_M_make μ a1 a2 = ((-1 : Int32), m_2) := by
              subst e_2
              exact (if_neg c_13).trans ((if_neg c_22).trans ((if_neg c_28).trans ((if_neg c_36).trans ((if_neg c_46).trans rfl))))
            rw [e_f]
            exact W.iret (v := (-1 : Int32)) hx hb hr (fun t ht hW => ⟨rfl, hM.end ht⟩) hM.2.2.1 d_M_make_64
          · skip
            refine lv_aload_n hx hb d_M_make_49 rfl (lv_at hl 1 rfl) ?_
            refine gf_M_19 hx hb hts hown hT hM (lz_20 hM) d_M_make_50 ?_
            refine lv_aload_n hx hb d_M_make_53 rfl (lv_at hl 1 rfl) ?_
            refine gf_M_16 hx hb hts hown hT hM (lz_20 hM) d_M_make_54 ?_
            refine lv_iload_n hx hb d_M_make_57 rfl (lv_at hl 3 rfl) ?_
            refine al_24 hx hb hT hM (lz_24 hM) (by first | assumption | exact vin 60 (b := 60) (by decide) (by assumption) (by assumption)) d_M_make_58 ?_
            refine al_25 hx hb hT hM (lz_25 hM) (hJ.2.1 _) d_M_make_59 ?_
            refine lv_if_le (tgt := 65) hx hb d_M_make_60 (by decide) (fun c_60 => ?_) (fun c_60 => ?_)
            · skip
              refine lv_aload_n hx hb d_M_make_65 rfl (lv_at hl 1 rfl) ?_
              refine gf_M_7 hx hb hts hown hT hM (lz_20 hM) d_M_make_66 ?_
              refine lv_aload_n hx hb d_M_make_69 rfl (lv_at hl 1 rfl) ?_
              refine gf_M_94 hx hb hts hown hT hM (lz_20 hM) d_M_make_70 ?_
              refine lv_iload_n hx hb d_M_make_73 rfl (lv_at hl 2 rfl) ?_
              refine as_22 hx hb hT hM (lz_22 hM) (hm) d_M_make_74 (fun m_74 H locs e_74 hM => ?_)
              have hJ : iM m_74 := by rw [e_74]; exact iM_I hJ rfl
              refine lv_aload_n hx hb d_M_make_75 rfl (lv_at hl 1 rfl) ?_
              refine gf_M_13 hx hb hts hown hT hM (lz_20 hM) d_M_make_76 ?_
              refine lv_aload_n hx hb d_M_make_79 rfl (lv_at hl 1 rfl) ?_
              refine gf_M_94 hx hb hts hown hT hM (lz_20 hM) d_M_make_80 ?_
              refine lv_iload_n hx hb d_M_make_83 rfl (lv_at hl 2 rfl) ?_
              refine lv_if_ne (tgt := 91) hx hb d_M_make_84 (by decide) (fun c_84 => ?_) (fun c_84 => ?_)
              · skip
                refine lv_iload_n hx hb d_M_make_91 rfl (lv_at hl 3 rfl) ?_
                refine as_23 hx hb hT hM (lz_23 hM) (by rw [e_74]; exact hm) d_M_make_92 (fun m_92 H locs e_92 hM => ?_)
                refine lv_aload_n hx hb d_M_make_93 rfl (lv_at hl 1 rfl) ?_
                refine gf_M_16 hx hb hts hown hT hM (lz_20 hM) d_M_make_94 ?_
                refine lv_aload_n hx hb d_M_make_97 rfl (lv_at hl 1 rfl) ?_
                refine gf_M_94 hx hb hts hown hT hM (lz_20 hM) d_M_make_98 ?_
                refine lv_iload_n hx hb d_M_make_101 rfl (lv_at hl 2 rfl) ?_
                refine lv_if_ne (tgt := 112) hx hb d_M_make_102 (by decide) (fun c_102 => ?_) (fun c_102 => ?_)
                · skip
                  refine lv_aload_n hx hb d_M_make_112 rfl (lv_at hl 1 rfl) ?_
                  refine gf_M_16 hx hb hts hown hT hM (lz_20 hM) d_M_make_113 ?_
                  refine lv_iload_n hx hb d_M_make_116 rfl (lv_at hl 3 rfl) ?_
                  refine al_24 hx hb hT hM (lz_24 hM) (by first | assumption | exact vin 60 (b := 60) (by decide) (by assumption) (by assumption)) d_M_make_117 ?_
                  refine as_24 hx hb hT hM (lz_24 hM) (by rw [e_92, e_74]; exact hm) d_M_make_118 (fun m_118 H locs e_118 hM => ?_)
                  refine lv_aload_n hx hb d_M_make_119 rfl (lv_at hl 1 rfl) ?_
                  refine lv_dup hx hb d_M_make_120 rfl ?_
                  refine gf_M_94 hx hb hts hown hT hM (lz_20 hM) d_M_make_121 ?_
                  refine lv_iconst (v := (1 : Int32)) hx hb d_M_make_124 (by decide) ?_
                  refine lv_iadd hx hb d_M_make_125 ?_
                  refine pf_M_94 hx hb hts hown hT hM (lz_20 hM) d_M_make_126 (fun m_126 H locs e_126 hM => ?_)
                  refine lv_aload_n hx hb d_M_make_129 rfl (lv_at hl 1 rfl) ?_
                  refine gf_M_94 hx hb hts hown hT hM (lz_20 hM) d_M_make_130 ?_
                  refine lv_iconst (v := (1 : Int32)) hx hb d_M_make_133 (by decide) ?_
                  refine lv_isub hx hb d_M_make_134 ?_
                  have e_f : f_M_make μ a1 a2 = ((m_126.1 20 0 1) - (1 : Int32), m_126) := by
                    subst e_126 e_118 e_92 e_74 e_2
                    exact (if_neg c_13).trans ((if_neg c_22).trans ((if_neg c_28).trans ((if_neg c_36).trans ((if_pos c_46).trans ((if_pos c_60).trans rfl)))))
                  rw [e_f]
                  exact W.iret (v := (m_126.1 20 0 1) - (1 : Int32)) hx hb hr (fun t ht hW => ⟨rfl, hM.end ht⟩) hM.2.2.1 d_M_make_135
                · exact absurd c_102 c_28
              · exact absurd c_84 c_28
            · skip
              refine lv_iconst (v := (-1 : Int32)) hx hb d_M_make_63 (by decide) ?_
              have e_f : f_M_make μ a1 a2 = ((-1 : Int32), m_2) := by
                subst e_2
                exact (if_neg c_13).trans ((if_neg c_22).trans ((if_neg c_28).trans ((if_neg c_36).trans ((if_pos c_46).trans ((if_neg c_60).trans rfl)))))
              rw [e_f]
              exact W.iret (v := (-1 : Int32)) hx hb hr (fun t ht hW => ⟨rfl, hM.end ht⟩) hM.2.2.1 d_M_make_64
    · skip
      refine lv_iconst (v := (-1 : Int32)) hx hb d_M_make_25 (by decide) ?_
      have e_f : f_M_make μ a1 a2 = ((-1 : Int32), m_2) := by
        subst e_2
        exact (if_neg c_13).trans ((if_pos c_22).trans rfl)
      rw [e_f]
      exact W.iret (v := (-1 : Int32)) hx hb hr (fun t ht hW => ⟨rfl, hM.end ht⟩) hM.2.2.1 d_M_make_26
set_option maxHeartbeats 4000000 in
set_option maxRecDepth 100000 in
theorem c_M_drop (l : Launch) (G : mG) (τ : mTau) (μ : mMem) (a1 : Int32) (hJ : iM μ) : Met l y_M_drop w_M_drop r_M_drop (mPc G τ μ [.ref (τ.1 20 0), .int a1]) (mQ G τ (some (.int (f_M_drop μ a1).1)) (f_M_drop μ a1).2) 0 0 (fun q => G.2.2.1 ≤ q) := by
  refine Met.ofW (cc := b_M_drop) (maxL := 4) (ret := (some .int)) (by decide) rfl ?_
  intro p e s m args below meth c s₁ B hml hv
  obtain ⟨rfl, hT, hM⟩ := hv
  have hx := B.exec
  have hb := B.bytes
  have hr := B.returns
  have hts : ∀ w ∈ gG, w.before _ s = true := fun w h => atoms_spec (ws := w_M_drop) B.pre w (List.mem_cons_of_mem _ h)
  have hown : s.vm.findClass R_M = some m.cls := findClass_of_methodNamed B.named
  have hlocks := B.notSynchronized
  have loop_42 : ∀ (n : Nat) (x2 : Int32) (x3 : Int32) (μ1 : mMem) (H : Heap) (locs : List Loc) (ls : Array Slot), iM μ1 → 0 ≤ x3.toInt → ((μ1.1 20 0 1).toInt - x3.toInt).toNat < n → mw G τ μ1 H locs → lv_has ls 4 [(0, .ref (τ.1 20 0)), (2, .int x2), (3, .int x3)] → W p l e (headSpec (w_M_drop) (r_M_drop)).room s m ([.ref (τ.1 20 0), .int a1] : List Value).toArray below meth c H locs 0 0 (MQ below (mQ G τ (some (.int (f_M_drop_l42 n x2 x3 μ1).1)) (f_M_drop_l42 n x2 x3 μ1).2) ([.ref (τ.1 20 0), .int a1] : List Value).toArray s 0 0 (fun q => G.2.2.1 ≤ q)) (F0 m 42 ls []) := by
    intro n
    induction n with
    | zero => intro x2 x3 μ1 H locs ls  hJ hp hn hM hl; exact absurd hn (Nat.not_lt_zero _)
    | succ n ih =>
      intro x2 x3 μ1 H locs ls  hJ hp hn hM hl
      refine lv_iload_n hx hb d_M_drop_42 rfl (lv_at hl 2 rfl) ?_
      refine lv_aload_n hx hb d_M_drop_43 rfl (lv_at hl 0 rfl) ?_
      refine gf_M_94 hx hb hts hown hT hM (lz_20 hM) d_M_drop_44 ?_
      refine lv_icmp_ge (tgt := 104) hx hb d_M_drop_47 (by decide) (fun c_47 => ?_) (fun c_47 => ?_)
      · skip
        refine lv_iload_n hx hb d_M_drop_104 rfl (lv_at hl 1 rfl) ?_
        have e_f : f_M_drop_l42 (n + 1) x2 x3 μ1 = (x2, μ1) := by
          exact (if_pos c_47).trans rfl
        rw [e_f]
        exact W.iret (v := x2) hx hb hr (fun t ht hW => ⟨rfl, hM.end ht⟩) hM.2.2.1 d_M_drop_105
      · skip
        refine lv_aload_n hx hb d_M_drop_50 rfl (lv_at hl 0 rfl) ?_
        refine gf_M_7 hx hb hts hown hT hM (lz_20 hM) d_M_drop_51 ?_
        refine lv_iload_n hx hb d_M_drop_54 rfl (lv_at hl 2 rfl) ?_
        refine al_22 hx hb hT hM (lz_22 hM) (in_madeM hJ (pos_lt hp) c_47) d_M_drop_55 ?_
        refine lv_iconst (v := (-1 : Int32)) hx hb d_M_drop_56 (by decide) ?_
        refine lv_icmp_eq (tgt := 98) hx hb d_M_drop_57 (by decide) (fun c_57 => ?_) (fun c_57 => ?_)
        · skip
          refine lv_iinc (v := x3 + (1 : Int32)) (lv' := [(3, .int (x3 + (1 : Int32))), (0, .ref (τ.1 20 0)), (2, .int x2)]) hx hb d_M_drop_98 hl (k := 2) rfl rfl (by decide) rfl (fun ls hl => ?_)
          refine lv_goto (tgt := 42) hx hb d_M_drop_101 (by decide) ?_
          have e_f : f_M_drop_l42 (n + 1) x2 x3 μ1 = f_M_drop_l42 n x2 (x3 + (1 : Int32)) μ1 := by
            exact (if_neg c_47).trans ((if_pos c_57).trans rfl)
          rw [e_f]
          exact ih x2 (x3 + (1 : Int32)) μ1 _ _ ls  (hJ) (inc_pos hp c_47) (by first | exact inc_lt c_47 hn | (rw [e_94]; exact inc_lt c_47 hn)) hM (lv_sub hl [1, 2, 0] rfl)
        · skip
          refine lv_aload_n hx hb d_M_drop_60 rfl (lv_at hl 0 rfl) ?_
          refine gf_M_13 hx hb hts hown hT hM (lz_20 hM) d_M_drop_61 ?_
          refine lv_iload_n hx hb d_M_drop_64 rfl (lv_at hl 2 rfl) ?_
          refine al_23 hx hb hT hM (lz_23 hM) (in_madeM hJ (pos_lt hp) c_47) d_M_drop_65 ?_
          refine lv_iconst (v := (-1 : Int32)) hx hb d_M_drop_66 (by decide) ?_
          refine lv_icmp_eq (tgt := 98) hx hb d_M_drop_67 (by decide) (fun c_67 => ?_) (fun c_67 => ?_)
          · skip
            refine lv_iinc (v := x3 + (1 : Int32)) (lv' := [(3, .int (x3 + (1 : Int32))), (0, .ref (τ.1 20 0)), (2, .int x2)]) hx hb d_M_drop_98 hl (k := 2) rfl rfl (by decide) rfl (fun ls hl => ?_)
            refine lv_goto (tgt := 42) hx hb d_M_drop_101 (by decide) ?_
            have e_f : f_M_drop_l42 (n + 1) x2 x3 μ1 = f_M_drop_l42 n x2 (x3 + (1 : Int32)) μ1 := by
              exact (if_neg c_47).trans ((if_neg c_57).trans ((if_pos c_67).trans rfl))
            rw [e_f]
            exact ih x2 (x3 + (1 : Int32)) μ1 _ _ ls  (hJ) (inc_pos hp c_47) (by first | exact inc_lt c_47 hn | (rw [e_94]; exact inc_lt c_47 hn)) hM (lv_sub hl [1, 2, 0] rfl)
          · skip
            refine lv_aload_n hx hb d_M_drop_70 rfl (lv_at hl 0 rfl) ?_
            refine gf_M_7 hx hb hts hown hT hM (lz_20 hM) d_M_drop_71 ?_
            refine lv_aload_n hx hb d_M_drop_74 rfl (lv_at hl 0 rfl) ?_
            refine gf_M_13 hx hb hts hown hT hM (lz_20 hM) d_M_drop_75 ?_
            refine lv_iload_n hx hb d_M_drop_78 rfl (lv_at hl 2 rfl) ?_
            refine al_23 hx hb hT hM (lz_23 hM) (in_madeM hJ (pos_lt hp) c_47) d_M_drop_79 ?_
            refine al_22 hx hb hT hM (lz_22 hM) (in_inM hJ c_67) d_M_drop_80 ?_
            refine lv_iconst (v := (-1 : Int32)) hx hb d_M_drop_81 (by decide) ?_
            refine lv_icmp_eq (tgt := 88) hx hb d_M_drop_82 (by decide) (fun c_82 => ?_) (fun c_82 => ?_)
            · skip
              refine lv_aload_n hx hb d_M_drop_88 rfl (lv_at hl 0 rfl) ?_
              refine gf_M_7 hx hb hts hown hT hM (lz_20 hM) d_M_drop_89 ?_
              refine lv_iload_n hx hb d_M_drop_92 rfl (lv_at hl 2 rfl) ?_
              refine lv_iconst (v := (-1 : Int32)) hx hb d_M_drop_93 (by decide) ?_
              refine as_22 hx hb hT hM (lz_22 hM) (in_madeM hJ (pos_lt hp) c_47) d_M_drop_94 (fun m_94 H locs e_94 hM => ?_)
              have hJ : iM m_94 := by rw [e_94]; exact iM_I hJ rfl
              refine lv_iinc (v := x2 + (1 : Int32)) (lv' := [(2, .int (x2 + (1 : Int32))), (0, .ref (τ.1 20 0)), (3, .int x3)]) hx hb d_M_drop_95 hl (k := 1) rfl rfl (by decide) rfl (fun ls hl => ?_)
              refine lv_iinc (v := x3 + (1 : Int32)) (lv' := [(3, .int (x3 + (1 : Int32))), (2, .int (x2 + (1 : Int32))), (0, .ref (τ.1 20 0))]) hx hb d_M_drop_98 hl (k := 2) rfl rfl (by decide) rfl (fun ls hl => ?_)
              refine lv_goto (tgt := 42) hx hb d_M_drop_101 (by decide) ?_
              have e_f : f_M_drop_l42 (n + 1) x2 x3 μ1 = f_M_drop_l42 n (x2 + (1 : Int32)) (x3 + (1 : Int32)) m_94 := by
                subst e_94
                exact (if_neg c_47).trans ((if_neg c_57).trans ((if_neg c_67).trans ((if_pos c_82).trans rfl)))
              rw [e_f]
              exact ih (x2 + (1 : Int32)) (x3 + (1 : Int32)) m_94 _ _ ls  (hJ) (inc_pos hp c_47) (by first | exact inc_lt c_47 hn | (rw [e_94]; exact inc_lt c_47 hn)) hM (lv_sub hl [2, 1, 0] rfl)
            · skip
              refine lv_goto (tgt := 98) hx hb d_M_drop_85 (by decide) ?_
              refine lv_iinc (v := x3 + (1 : Int32)) (lv' := [(3, .int (x3 + (1 : Int32))), (0, .ref (τ.1 20 0)), (2, .int x2)]) hx hb d_M_drop_98 hl (k := 2) rfl rfl (by decide) rfl (fun ls hl => ?_)
              refine lv_goto (tgt := 42) hx hb d_M_drop_101 (by decide) ?_
              have e_f : f_M_drop_l42 (n + 1) x2 x3 μ1 = f_M_drop_l42 n x2 (x3 + (1 : Int32)) μ1 := by
                exact (if_neg c_47).trans ((if_neg c_57).trans ((if_neg c_67).trans ((if_neg c_82).trans rfl)))
              rw [e_f]
              exact ih x2 (x3 + (1 : Int32)) μ1 _ _ ls  (hJ) (inc_pos hp c_47) (by first | exact inc_lt c_47 hn | (rw [e_94]; exact inc_lt c_47 hn)) hM (lv_sub hl [1, 2, 0] rfl)
  have hl := lv_entry ([.ref (τ.1 20 0), .int a1]) (n := 4) (Nat.le_of_ble_eq_true rfl)
  rw [lg_entry_eq]
  skip
  generalize (lg_sl ([.ref (τ.1 20 0), .int a1]) ++ List.replicate (4 - (lg_sl ([.ref (τ.1 20 0), .int a1])).length) Slot.unset).toArray = ls at hl ⊢
  have hl : lv_has ls 4 [(0, .ref (τ.1 20 0)), (1, .int a1)] := hl
  refine lv_aload_n hx hb d_M_drop_0 rfl (lv_at hl 0 rfl) ?_
  refine lv_iconst (v := (0 : Int32)) hx hb d_M_drop_1 (by decide) ?_
  refine pf_M_90 hx hb hts hown hT hM (lz_20 hM) d_M_drop_2 (fun m_2 H locs e_2 hM => ?_)
  have hJ : iM m_2 := by rw [e_2]; exact iM_I hJ rfl
  refine lv_aload_n hx hb d_M_drop_5 rfl (lv_at hl 0 rfl) ?_
  refine lv_iload_n hx hb d_M_drop_6 rfl (lv_at hl 1 rfl) ?_
  refine q_M_97 hx hb hml hown hts hT hM (lz_20 hM) (c_M_isThing l G τ m_2 a1 (hJ)) ⟨Nat.le_of_ble_eq_true rfl, Nat.le_of_ble_eq_true rfl⟩ ⟨Nat.zero_le _, Nat.zero_le _⟩ (lv_room (Nat.le_of_ble_eq_true rfl)) hl.1 d_M_drop_7 (fun H locs hM => ?_)
  refine lv_if_eq (tgt := 27) hx hb d_M_drop_10 (by decide) (fun c_10 => ?_) (fun c_10 => ?_)
  · skip
    refine lv_iconst (v := (-1 : Int32)) hx hb d_M_drop_27 (by decide) ?_
    have e_f : f_M_drop μ a1 = ((-1 : Int32), m_2) := by
      subst e_2
      exact (if_pos c_10).trans rfl
    rw [e_f]
    exact W.iret (v := (-1 : Int32)) hx hb hr (fun t ht hW => ⟨rfl, hM.end ht⟩) hM.2.2.1 d_M_drop_28
  · skip
    have ht := mt_in hJ c_10
    refine lv_aload_n hx hb d_M_drop_13 rfl (lv_at hl 0 rfl) ?_
    refine gf_M_19 hx hb hts hown hT hM (lz_20 hM) d_M_drop_14 ?_
    refine lv_aload_n hx hb d_M_drop_17 rfl (lv_at hl 0 rfl) ?_
    refine gf_M_16 hx hb hts hown hT hM (lz_20 hM) d_M_drop_18 ?_
    refine lv_iload_n hx hb d_M_drop_21 rfl (lv_at hl 1 rfl) ?_
    refine al_24 hx hb hT hM (lz_24 hM) (by first | assumption | exact vin 60 (b := 60) (by decide) (by assumption) (by assumption)) d_M_drop_22 ?_
    refine al_25 hx hb hT hM (lz_25 hM) (hJ.2.1 _) d_M_drop_23 ?_
    refine lv_if_le (tgt := 29) hx hb d_M_drop_24 (by decide) (fun c_24 => ?_) (fun c_24 => ?_)
    · skip
      refine lv_aload_n hx hb d_M_drop_29 rfl (lv_at hl 0 rfl) ?_
      refine gf_M_7 hx hb hts hown hT hM (lz_20 hM) d_M_drop_30 ?_
      refine lv_iload_n hx hb d_M_drop_33 rfl (lv_at hl 1 rfl) ?_
      refine lv_iconst (v := (-1 : Int32)) hx hb d_M_drop_34 (by decide) ?_
      refine as_22 hx hb hT hM (lz_22 hM) (by first | assumption | exact vin 60 (b := 60) (by decide) (by assumption) (by assumption)) d_M_drop_35 (fun m_35 H locs e_35 hM => ?_)
      have hJ : iM m_35 := by rw [e_35]; exact iM_I hJ rfl
      refine lv_iconst (v := (1 : Int32)) hx hb d_M_drop_36 (by decide) ?_
      refine lv_istore_n (lv' := [(2, .int (1 : Int32)), (0, .ref (τ.1 20 0)), (1, .int a1)]) hx hb d_M_drop_37 rfl hl (by decide) rfl (fun ls hl => ?_)
      refine lv_iload_n hx hb d_M_drop_38 rfl (lv_at hl 2 rfl) ?_
      refine lv_iconst (v := (1 : Int32)) hx hb d_M_drop_39 (by decide) ?_
      refine lv_iadd hx hb d_M_drop_40 ?_
      refine lv_istore_n (lv' := [(3, .int (a1 + (1 : Int32))), (2, .int (1 : Int32)), (0, .ref (τ.1 20 0)), (1, .int a1)]) hx hb d_M_drop_41 rfl hl (by decide) rfl (fun ls hl => ?_)
      have e_f : f_M_drop μ a1 = f_M_drop_l42 64 (1 : Int32) (a1 + (1 : Int32)) m_35 := by
        subst e_35 e_2
        exact (if_neg c_10).trans ((if_pos c_24).trans rfl)
      rw [e_f]
      exact loop_42 64 (1 : Int32) (a1 + (1 : Int32)) m_35 _ _ ls  (hJ) (inc_pos1 ht) (fuel_madeM hJ (inc_pos1 ht)) hM (lv_sub hl [2, 1, 0] rfl)
    · skip
      refine lv_iconst (v := (-1 : Int32)) hx hb d_M_drop_27 (by decide) ?_
      have e_f : f_M_drop μ a1 = ((-1 : Int32), m_2) := by
        subst e_2
        exact (if_neg c_10).trans ((if_neg c_24).trans rfl)
      rw [e_f]
      exact W.iret (v := (-1 : Int32)) hx hb hr (fun t ht hW => ⟨rfl, hM.end ht⟩) hM.2.2.1 d_M_drop_28
set_option maxHeartbeats 4000000 in
set_option maxRecDepth 100000 in
theorem c_M_numbers (l : Launch) (G : mG) (τ : mTau) (μ : mMem) (a1 : Int32) (hJ : iM μ) : Met l y_M_numbers w_M_numbers r_M_numbers (mPc G τ μ [.ref (τ.1 20 0), .int a1]) (mQ G τ (some (.int (f_M_numbers μ a1).1)) (f_M_numbers μ a1).2) 0 0 (fun q => G.2.2.1 ≤ q) := by
  refine Met.ofW (cc := b_M_numbers) (maxL := 4) (ret := (some .int)) (by decide) rfl ?_
  intro p e s m args below meth c s₁ B hml hv
  obtain ⟨rfl, hT, hM⟩ := hv
  have hx := B.exec
  have hb := B.bytes
  have hr := B.returns
  have hts : ∀ w ∈ gG, w.before _ s = true := fun w h => atoms_spec (ws := w_M_numbers) B.pre w (List.mem_cons_of_mem _ h)
  have hown : s.vm.findClass R_M = some m.cls := findClass_of_methodNamed B.named
  have hlocks := B.notSynchronized
  have loop_21 : ∀ (n : Nat) (x1 : Int32) (x2 : Int32) (x3 : Int32) (μ1 : mMem) (H : Heap) (locs : List Loc) (ls : Array Slot), iM μ1 → 0 ≤ x3.toInt → ((μ1.1 20 0 1).toInt - x3.toInt).toNat < n → mw G τ μ1 H locs → lv_has ls 4 [(0, .ref (τ.1 20 0)), (1, .int x1), (2, .int x2), (3, .int x3)] → W p l e (headSpec (w_M_numbers) (r_M_numbers)).room s m ([.ref (τ.1 20 0), .int a1] : List Value).toArray below meth c H locs 0 0 (MQ below (mQ G τ (some (.int (f_M_numbers_l21 n x1 x2 x3 μ1).1)) (f_M_numbers_l21 n x1 x2 x3 μ1).2) ([.ref (τ.1 20 0), .int a1] : List Value).toArray s 0 0 (fun q => G.2.2.1 ≤ q)) (F0 m 21 ls []) := by
    intro n
    induction n with
    | zero => intro x1 x2 x3 μ1 H locs ls  hJ hp hn hM hl; exact absurd hn (Nat.not_lt_zero _)
    | succ n ih =>
      intro x1 x2 x3 μ1 H locs ls  hJ hp hn hM hl
      refine lv_iload_n hx hb d_M_numbers_21 rfl (lv_at hl 3 rfl) ?_
      refine lv_aload_n hx hb d_M_numbers_22 rfl (lv_at hl 0 rfl) ?_
      refine gf_M_94 hx hb hts hown hT hM (lz_20 hM) d_M_numbers_23 ?_
      refine lv_icmp_ge (tgt := 53) hx hb d_M_numbers_26 (by decide) (fun c_26 => ?_) (fun c_26 => ?_)
      · skip
        refine lv_iload_n hx hb d_M_numbers_53 rfl (lv_at hl 2 rfl) ?_
        have e_f : f_M_numbers_l21 (n + 1) x1 x2 x3 μ1 = (x2, μ1) := by
          exact (if_pos c_26).trans rfl
        rw [e_f]
        exact W.iret (v := x2) hx hb hr (fun t ht hW => ⟨rfl, hM.end ht⟩) hM.2.2.1 d_M_numbers_54
      · skip
        refine lv_iload_n hx hb d_M_numbers_29 rfl (lv_at hl 2 rfl) ?_
        refine lv_aload_n hx hb d_M_numbers_30 rfl (lv_at hl 0 rfl) ?_
        refine gf_M_7 hx hb hts hown hT hM (lz_20 hM) d_M_numbers_31 ?_
        refine lv_iload_n hx hb d_M_numbers_34 rfl (lv_at hl 3 rfl) ?_
        refine al_22 hx hb hT hM (lz_22 hM) (in_madeM hJ (pos_lt hp) c_26) d_M_numbers_35 ?_
        refine lv_iload_n hx hb d_M_numbers_36 rfl (lv_at hl 1 rfl) ?_
        refine lv_icmp_ne (tgt := 44) hx hb d_M_numbers_37 (by decide) (fun c_37 => ?_) (fun c_37 => ?_)
        · skip
          refine lv_iconst (v := (0 : Int32)) hx hb d_M_numbers_44 (by decide) ?_
          refine lv_iadd hx hb d_M_numbers_45 ?_
          refine lv_istore_n (lv' := [(2, .int (x2 + (0 : Int32))), (0, .ref (τ.1 20 0)), (1, .int x1), (3, .int x3)]) hx hb d_M_numbers_46 rfl hl (by decide) rfl (fun ls hl => ?_)
          refine lv_iinc (v := x3 + (1 : Int32)) (lv' := [(3, .int (x3 + (1 : Int32))), (2, .int (x2 + (0 : Int32))), (0, .ref (τ.1 20 0)), (1, .int x1)]) hx hb d_M_numbers_47 hl (k := 3) rfl rfl (by decide) rfl (fun ls hl => ?_)
          refine lv_goto (tgt := 21) hx hb d_M_numbers_50 (by decide) ?_
          have e_f : f_M_numbers_l21 (n + 1) x1 x2 x3 μ1 = f_M_numbers_l21 n x1 (x2 + (0 : Int32)) (x3 + (1 : Int32)) μ1 := by
            exact (if_neg c_26).trans ((if_neg c_37).trans rfl)
          rw [e_f]
          exact ih x1 (x2 + (0 : Int32)) (x3 + (1 : Int32)) μ1 _ _ ls  (hJ) (inc_pos hp c_26) (inc_lt c_26 hn) hM (lv_sub hl [2, 3, 1, 0] rfl)
        · skip
          refine lv_iconst (v := (1 : Int32)) hx hb d_M_numbers_40 (by decide) ?_
          refine lv_goto (tgt := 45) hx hb d_M_numbers_41 (by decide) ?_
          refine lv_iadd hx hb d_M_numbers_45 ?_
          refine lv_istore_n (lv' := [(2, .int (x2 + (1 : Int32))), (0, .ref (τ.1 20 0)), (1, .int x1), (3, .int x3)]) hx hb d_M_numbers_46 rfl hl (by decide) rfl (fun ls hl => ?_)
          refine lv_iinc (v := x3 + (1 : Int32)) (lv' := [(3, .int (x3 + (1 : Int32))), (2, .int (x2 + (1 : Int32))), (0, .ref (τ.1 20 0)), (1, .int x1)]) hx hb d_M_numbers_47 hl (k := 3) rfl rfl (by decide) rfl (fun ls hl => ?_)
          refine lv_goto (tgt := 21) hx hb d_M_numbers_50 (by decide) ?_
          have e_f : f_M_numbers_l21 (n + 1) x1 x2 x3 μ1 = f_M_numbers_l21 n x1 (x2 + (1 : Int32)) (x3 + (1 : Int32)) μ1 := by
            exact (if_neg c_26).trans ((if_pos c_37).trans rfl)
          rw [e_f]
          exact ih x1 (x2 + (1 : Int32)) (x3 + (1 : Int32)) μ1 _ _ ls  (hJ) (inc_pos hp c_26) (inc_lt c_26 hn) hM (lv_sub hl [2, 3, 1, 0] rfl)
  have hl := lv_entry ([.ref (τ.1 20 0), .int a1]) (n := 4) (Nat.le_of_ble_eq_true rfl)
  rw [lg_entry_eq]
  skip
  generalize (lg_sl ([.ref (τ.1 20 0), .int a1]) ++ List.replicate (4 - (lg_sl ([.ref (τ.1 20 0), .int a1])).length) Slot.unset).toArray = ls at hl ⊢
  have hl : lv_has ls 4 [(0, .ref (τ.1 20 0)), (1, .int a1)] := hl
  refine lv_aload_n hx hb d_M_numbers_0 rfl (lv_at hl 0 rfl) ?_
  refine lv_iconst (v := (0 : Int32)) hx hb d_M_numbers_1 (by decide) ?_
  refine pf_M_90 hx hb hts hown hT hM (lz_20 hM) d_M_numbers_2 (fun m_2 H locs e_2 hM => ?_)
  have hJ : iM m_2 := by rw [e_2]; exact iM_I hJ rfl
  refine lv_iload_n hx hb d_M_numbers_5 rfl (lv_at hl 1 rfl) ?_
  refine lv_if_lt (tgt := 15) hx hb d_M_numbers_6 (by decide) (fun c_6 => ?_) (fun c_6 => ?_)
  · skip
    refine lv_iconst (v := (-1 : Int32)) hx hb d_M_numbers_15 (by decide) ?_
    have e_f : f_M_numbers μ a1 = ((-1 : Int32), m_2) := by
      subst e_2
      exact (if_pos c_6).trans rfl
    rw [e_f]
    exact W.iret (v := (-1 : Int32)) hx hb hr (fun t ht hW => ⟨rfl, hM.end ht⟩) hM.2.2.1 d_M_numbers_16
  · skip
    refine lv_iload_n hx hb d_M_numbers_9 rfl (lv_at hl 1 rfl) ?_
    refine lv_bipush (v := (8 : Int32)) hx hb d_M_numbers_10 (by decide) ?_
    refine lv_icmp_le (tgt := 17) hx hb d_M_numbers_12 (by decide) (fun c_12 => ?_) (fun c_12 => ?_)
    · skip
      refine lv_iconst (v := (0 : Int32)) hx hb d_M_numbers_17 (by decide) ?_
      refine lv_istore_n (lv' := [(2, .int (0 : Int32)), (0, .ref (τ.1 20 0)), (1, .int a1)]) hx hb d_M_numbers_18 rfl hl (by decide) rfl (fun ls hl => ?_)
      refine lv_iconst (v := (0 : Int32)) hx hb d_M_numbers_19 (by decide) ?_
      refine lv_istore_n (lv' := [(3, .int (0 : Int32)), (2, .int (0 : Int32)), (0, .ref (τ.1 20 0)), (1, .int a1)]) hx hb d_M_numbers_20 rfl hl (by decide) rfl (fun ls hl => ?_)
      have e_f : f_M_numbers μ a1 = f_M_numbers_l21 64 a1 (0 : Int32) (0 : Int32) m_2 := by
        subst e_2
        exact (if_neg c_6).trans ((if_pos c_12).trans rfl)
      rw [e_f]
      exact loop_21 64 a1 (0 : Int32) (0 : Int32) m_2 _ _ ls  (hJ) (by decide) (fuel_madeM hJ (by decide)) hM (lv_sub hl [2, 3, 1, 0] rfl)
    · skip
      refine lv_iconst (v := (-1 : Int32)) hx hb d_M_numbers_15 (by decide) ?_
      have e_f : f_M_numbers μ a1 = ((-1 : Int32), m_2) := by
        subst e_2
        exact (if_neg c_6).trans ((if_neg c_12).trans rfl)
      rw [e_f]
      exact W.iret (v := (-1 : Int32)) hx hb hr (fun t ht hW => ⟨rfl, hM.end ht⟩) hM.2.2.1 d_M_numbers_16
set_option maxHeartbeats 4000000 in
set_option maxRecDepth 100000 in
theorem c_M_about (l : Launch) (G : mG) (τ : mTau) (μ : mMem) (a1 : Int32) (a2 : Int32) (hJ : iM μ) : Met l y_M_about w_M_about r_M_about (mPc G τ μ [.ref (τ.1 20 0), .int a1, .int a2]) (mQ G τ (some (.int (f_M_about μ a1 a2).1)) (f_M_about μ a1 a2).2) 0 0 (fun q => G.2.2.1 ≤ q) := by
  refine Met.ofW (cc := b_M_about) (maxL := 5) (ret := (some .int)) (by decide) rfl ?_
  intro p e s m args below meth c s₁ B hml hv
  obtain ⟨rfl, hT, hM⟩ := hv
  have hx := B.exec
  have hb := B.bytes
  have hr := B.returns
  have hts : ∀ w ∈ gG, w.before _ s = true := fun w h => atoms_spec (ws := w_M_about) B.pre w (List.mem_cons_of_mem _ h)
  have hown : s.vm.findClass R_M = some m.cls := findClass_of_methodNamed B.named
  have hlocks := B.notSynchronized
  have loop_20 : ∀ (n : Nat) (x1 : Int32) (x2 : Int32) (x3 : Int32) (x4 : Int32) (μ1 : mMem) (H : Heap) (locs : List Loc) (ls : Array Slot), iM μ1 → vp_in x1 60 → 0 ≤ x4.toInt → ((μ1.1 20 0 1).toInt - x4.toInt).toNat < n → mw G τ μ1 H locs → lv_has ls 5 [(0, .ref (τ.1 20 0)), (1, .int x1), (2, .int x2), (3, .int x3), (4, .int x4)] → W p l e (headSpec (w_M_about) (r_M_about)).room s m ([.ref (τ.1 20 0), .int a1, .int a2] : List Value).toArray below meth c H locs 0 0 (MQ below (mQ G τ (some (.int (f_M_about_l20 n x1 x2 x3 x4 μ1).1)) (f_M_about_l20 n x1 x2 x3 x4 μ1).2) ([.ref (τ.1 20 0), .int a1, .int a2] : List Value).toArray s 0 0 (fun q => G.2.2.1 ≤ q)) (F0 m 20 ls []) := by
    intro n
    induction n with
    | zero => intro x1 x2 x3 x4 μ1 H locs ls  hJ ht hp hn hM hl; exact absurd hn (Nat.not_lt_zero _)
    | succ n ih =>
      intro x1 x2 x3 x4 μ1 H locs ls  hJ ht hp hn hM hl
      refine lv_iload hx hb d_M_about_20 (lv_at hl 4 rfl) ?_
      refine lv_aload_n hx hb d_M_about_22 rfl (lv_at hl 0 rfl) ?_
      refine gf_M_94 hx hb hts hown hT hM (lz_20 hM) d_M_about_23 ?_
      refine lv_icmp_ge (tgt := 65) hx hb d_M_about_26 (by decide) (fun c_26 => ?_) (fun c_26 => ?_)
      · skip
        refine lv_iload_n hx hb d_M_about_65 rfl (lv_at hl 2 rfl) ?_
        by_cases c_66_0 : x2 = (0 : Int32)
        · skip
          refine lv_tableIn (tgt := 96) hx hb d_M_about_66 (by rw [c_66_0]; decide) (by rw [c_66_0]; decide) (by rw [c_66_0]; rfl) (by decide) ?_
          refine lv_aload_n hx hb d_M_about_96 rfl (lv_at hl 0 rfl) ?_
          refine gf_M_7 hx hb hts hown hT hM (lz_20 hM) d_M_about_97 ?_
          refine lv_iload_n hx hb d_M_about_100 rfl (lv_at hl 1 rfl) ?_
          refine al_22 hx hb hT hM (lz_22 hM) (ht) d_M_about_101 ?_
          have e_f : f_M_about_l20 (n + 1) x1 x2 x3 x4 μ1 = (μ1.1 22 0 x1.toNatClampNeg, μ1) := by
            exact (if_pos c_26).trans ((if_pos c_66_0).trans rfl)
          rw [e_f]
          exact W.iret (v := μ1.1 22 0 x1.toNatClampNeg) hx hb hr (fun t ht hW => ⟨rfl, hM.end ht⟩) hM.2.2.1 d_M_about_102
        · skip
          by_cases c_66_1 : x2 = (1 : Int32)
          · skip
            refine lv_tableIn (tgt := 103) hx hb d_M_about_66 (by rw [c_66_1]; decide) (by rw [c_66_1]; decide) (by rw [c_66_1]; rfl) (by decide) ?_
            refine lv_aload_n hx hb d_M_about_103 rfl (lv_at hl 0 rfl) ?_
            refine gf_M_13 hx hb hts hown hT hM (lz_20 hM) d_M_about_104 ?_
            refine lv_iload_n hx hb d_M_about_107 rfl (lv_at hl 1 rfl) ?_
            refine al_23 hx hb hT hM (lz_23 hM) (ht) d_M_about_108 ?_
            have e_f : f_M_about_l20 (n + 1) x1 x2 x3 x4 μ1 = (μ1.1 23 0 x1.toNatClampNeg, μ1) := by
              exact (if_pos c_26).trans ((if_neg c_66_0).trans ((if_pos c_66_1).trans rfl))
            rw [e_f]
            exact W.iret (v := μ1.1 23 0 x1.toNatClampNeg) hx hb hr (fun t ht hW => ⟨rfl, hM.end ht⟩) hM.2.2.1 d_M_about_109
          · skip
            by_cases c_66_2 : x2 = (2 : Int32)
            · skip
              refine lv_tableIn (tgt := 110) hx hb d_M_about_66 (by rw [c_66_2]; decide) (by rw [c_66_2]; decide) (by rw [c_66_2]; rfl) (by decide) ?_
              refine lv_aload_n hx hb d_M_about_110 rfl (lv_at hl 0 rfl) ?_
              refine gf_M_16 hx hb hts hown hT hM (lz_20 hM) d_M_about_111 ?_
              refine lv_iload_n hx hb d_M_about_114 rfl (lv_at hl 1 rfl) ?_
              refine al_24 hx hb hT hM (lz_24 hM) (ht) d_M_about_115 ?_
              have e_f : f_M_about_l20 (n + 1) x1 x2 x3 x4 μ1 = (μ1.1 24 0 x1.toNatClampNeg, μ1) := by
                exact (if_pos c_26).trans ((if_neg c_66_0).trans ((if_neg c_66_1).trans ((if_pos c_66_2).trans rfl)))
              rw [e_f]
              exact W.iret (v := μ1.1 24 0 x1.toNatClampNeg) hx hb hr (fun t ht hW => ⟨rfl, hM.end ht⟩) hM.2.2.1 d_M_about_116
            · skip
              by_cases c_66_3 : x2 = (3 : Int32)
              · skip
                refine lv_tableIn (tgt := 117) hx hb d_M_about_66 (by rw [c_66_3]; decide) (by rw [c_66_3]; decide) (by rw [c_66_3]; rfl) (by decide) ?_
                refine lv_iload_n hx hb d_M_about_117 rfl (lv_at hl 3 rfl) ?_
                have e_f : f_M_about_l20 (n + 1) x1 x2 x3 x4 μ1 = (x3, μ1) := by
                  exact (if_pos c_26).trans ((if_neg c_66_0).trans ((if_neg c_66_1).trans ((if_neg c_66_2).trans ((if_pos c_66_3).trans rfl))))
                rw [e_f]
                exact W.iret (v := x3) hx hb hr (fun t ht hW => ⟨rfl, hM.end ht⟩) hM.2.2.1 d_M_about_118
              · skip
                refine lv_tableOut (tgt := 119) hx hb d_M_about_66 (by have h0 := sw_ne 0 (by decide) c_66_0; have h1 := sw_ne 1 (by decide) c_66_1; have h2 := sw_ne 2 (by decide) c_66_2; have h3 := sw_ne 3 (by decide) c_66_3; omega) (by decide) ?_
                refine lv_iconst (v := (-1 : Int32)) hx hb d_M_about_119 (by decide) ?_
                have e_f : f_M_about_l20 (n + 1) x1 x2 x3 x4 μ1 = ((-1 : Int32), μ1) := by
                  exact (if_pos c_26).trans ((if_neg c_66_0).trans ((if_neg c_66_1).trans ((if_neg c_66_2).trans ((if_neg c_66_3).trans rfl))))
                rw [e_f]
                exact W.iret (v := (-1 : Int32)) hx hb hr (fun t ht hW => ⟨rfl, hM.end ht⟩) hM.2.2.1 d_M_about_120
      · skip
        refine lv_iload_n hx hb d_M_about_29 rfl (lv_at hl 3 rfl) ?_
        refine lv_aload_n hx hb d_M_about_30 rfl (lv_at hl 0 rfl) ?_
        refine gf_M_7 hx hb hts hown hT hM (lz_20 hM) d_M_about_31 ?_
        refine lv_iload hx hb d_M_about_34 (lv_at hl 4 rfl) ?_
        refine al_22 hx hb hT hM (lz_22 hM) (in_madeM hJ (pos_lt hp) c_26) d_M_about_36 ?_
        refine lv_iconst (v := (-1 : Int32)) hx hb d_M_about_37 (by decide) ?_
        refine lv_icmp_eq (tgt := 56) hx hb d_M_about_38 (by decide) (fun c_38 => ?_) (fun c_38 => ?_)
        · skip
          refine lv_iconst (v := (0 : Int32)) hx hb d_M_about_56 (by decide) ?_
          refine lv_iadd hx hb d_M_about_57 ?_
          refine lv_istore_n (lv' := [(3, .int (x3 + (0 : Int32))), (0, .ref (τ.1 20 0)), (1, .int x1), (2, .int x2), (4, .int x4)]) hx hb d_M_about_58 rfl hl (by decide) rfl (fun ls hl => ?_)
          refine lv_iinc (v := x4 + (1 : Int32)) (lv' := [(4, .int (x4 + (1 : Int32))), (3, .int (x3 + (0 : Int32))), (0, .ref (τ.1 20 0)), (1, .int x1), (2, .int x2)]) hx hb d_M_about_59 hl (k := 4) rfl rfl (by decide) rfl (fun ls hl => ?_)
          refine lv_goto (tgt := 20) hx hb d_M_about_62 (by decide) ?_
          have e_f : f_M_about_l20 (n + 1) x1 x2 x3 x4 μ1 = f_M_about_l20 n x1 x2 (x3 + (0 : Int32)) (x4 + (1 : Int32)) μ1 := by
            exact (if_neg c_26).trans ((if_pos c_38).trans rfl)
          rw [e_f]
          exact ih x1 x2 (x3 + (0 : Int32)) (x4 + (1 : Int32)) μ1 _ _ ls  (hJ) (ht) (inc_pos hp c_26) (inc_lt c_26 hn) hM (lv_sub hl [2, 3, 4, 1, 0] rfl)
        · skip
          refine lv_aload_n hx hb d_M_about_41 rfl (lv_at hl 0 rfl) ?_
          refine gf_M_13 hx hb hts hown hT hM (lz_20 hM) d_M_about_42 ?_
          refine lv_iload hx hb d_M_about_45 (lv_at hl 4 rfl) ?_
          refine al_23 hx hb hT hM (lz_23 hM) (in_madeM hJ (pos_lt hp) c_26) d_M_about_47 ?_
          refine lv_iload_n hx hb d_M_about_48 rfl (lv_at hl 1 rfl) ?_
          refine lv_icmp_ne (tgt := 56) hx hb d_M_about_49 (by decide) (fun c_49 => ?_) (fun c_49 => ?_)
          · skip
            refine lv_iconst (v := (0 : Int32)) hx hb d_M_about_56 (by decide) ?_
            refine lv_iadd hx hb d_M_about_57 ?_
            refine lv_istore_n (lv' := [(3, .int (x3 + (0 : Int32))), (0, .ref (τ.1 20 0)), (1, .int x1), (2, .int x2), (4, .int x4)]) hx hb d_M_about_58 rfl hl (by decide) rfl (fun ls hl => ?_)
            refine lv_iinc (v := x4 + (1 : Int32)) (lv' := [(4, .int (x4 + (1 : Int32))), (3, .int (x3 + (0 : Int32))), (0, .ref (τ.1 20 0)), (1, .int x1), (2, .int x2)]) hx hb d_M_about_59 hl (k := 4) rfl rfl (by decide) rfl (fun ls hl => ?_)
            refine lv_goto (tgt := 20) hx hb d_M_about_62 (by decide) ?_
            have e_f : f_M_about_l20 (n + 1) x1 x2 x3 x4 μ1 = f_M_about_l20 n x1 x2 (x3 + (0 : Int32)) (x4 + (1 : Int32)) μ1 := by
              exact (if_neg c_26).trans ((if_neg c_38).trans ((if_neg c_49).trans rfl))
            rw [e_f]
            exact ih x1 x2 (x3 + (0 : Int32)) (x4 + (1 : Int32)) μ1 _ _ ls  (hJ) (ht) (inc_pos hp c_26) (inc_lt c_26 hn) hM (lv_sub hl [2, 3, 4, 1, 0] rfl)
          · skip
            refine lv_iconst (v := (1 : Int32)) hx hb d_M_about_52 (by decide) ?_
            refine lv_goto (tgt := 57) hx hb d_M_about_53 (by decide) ?_
            refine lv_iadd hx hb d_M_about_57 ?_
            refine lv_istore_n (lv' := [(3, .int (x3 + (1 : Int32))), (0, .ref (τ.1 20 0)), (1, .int x1), (2, .int x2), (4, .int x4)]) hx hb d_M_about_58 rfl hl (by decide) rfl (fun ls hl => ?_)
            refine lv_iinc (v := x4 + (1 : Int32)) (lv' := [(4, .int (x4 + (1 : Int32))), (3, .int (x3 + (1 : Int32))), (0, .ref (τ.1 20 0)), (1, .int x1), (2, .int x2)]) hx hb d_M_about_59 hl (k := 4) rfl rfl (by decide) rfl (fun ls hl => ?_)
            refine lv_goto (tgt := 20) hx hb d_M_about_62 (by decide) ?_
            have e_f : f_M_about_l20 (n + 1) x1 x2 x3 x4 μ1 = f_M_about_l20 n x1 x2 (x3 + (1 : Int32)) (x4 + (1 : Int32)) μ1 := by
              exact (if_neg c_26).trans ((if_neg c_38).trans ((if_pos c_49).trans rfl))
            rw [e_f]
            exact ih x1 x2 (x3 + (1 : Int32)) (x4 + (1 : Int32)) μ1 _ _ ls  (hJ) (ht) (inc_pos hp c_26) (inc_lt c_26 hn) hM (lv_sub hl [2, 3, 4, 1, 0] rfl)
  have hl := lv_entry ([.ref (τ.1 20 0), .int a1, .int a2]) (n := 5) (Nat.le_of_ble_eq_true rfl)
  rw [lg_entry_eq]
  skip
  generalize (lg_sl ([.ref (τ.1 20 0), .int a1, .int a2]) ++ List.replicate (5 - (lg_sl ([.ref (τ.1 20 0), .int a1, .int a2])).length) Slot.unset).toArray = ls at hl ⊢
  have hl : lv_has ls 5 [(0, .ref (τ.1 20 0)), (1, .int a1), (2, .int a2)] := hl
  refine lv_aload_n hx hb d_M_about_0 rfl (lv_at hl 0 rfl) ?_
  refine lv_iconst (v := (0 : Int32)) hx hb d_M_about_1 (by decide) ?_
  refine pf_M_90 hx hb hts hown hT hM (lz_20 hM) d_M_about_2 (fun m_2 H locs e_2 hM => ?_)
  have hJ : iM m_2 := by rw [e_2]; exact iM_I hJ rfl
  refine lv_aload_n hx hb d_M_about_5 rfl (lv_at hl 0 rfl) ?_
  refine lv_iload_n hx hb d_M_about_6 rfl (lv_at hl 1 rfl) ?_
  refine q_M_97 hx hb hml hown hts hT hM (lz_20 hM) (c_M_isThing l G τ m_2 a1 (hJ)) ⟨Nat.le_of_ble_eq_true rfl, Nat.le_of_ble_eq_true rfl⟩ ⟨Nat.zero_le _, Nat.zero_le _⟩ (lv_room (Nat.le_of_ble_eq_true rfl)) hl.1 d_M_about_7 (fun H locs hM => ?_)
  refine lv_if_ne (tgt := 15) hx hb d_M_about_10 (by decide) (fun c_10 => ?_) (fun c_10 => ?_)
  · skip
    have ht := mt_in hJ c_10
    refine lv_iconst (v := (0 : Int32)) hx hb d_M_about_15 (by decide) ?_
    refine lv_istore_n (lv' := [(3, .int (0 : Int32)), (0, .ref (τ.1 20 0)), (1, .int a1), (2, .int a2)]) hx hb d_M_about_16 rfl hl (by decide) rfl (fun ls hl => ?_)
    refine lv_iconst (v := (0 : Int32)) hx hb d_M_about_17 (by decide) ?_
    refine lv_istore (lv' := [(4, .int (0 : Int32)), (3, .int (0 : Int32)), (0, .ref (τ.1 20 0)), (1, .int a1), (2, .int a2)]) hx hb d_M_about_18 hl (by decide) rfl (fun ls hl => ?_)
    have e_f : f_M_about μ a1 a2 = f_M_about_l20 64 a1 a2 (0 : Int32) (0 : Int32) m_2 := by
      subst e_2
      exact (if_neg c_10).trans rfl
    rw [e_f]
    exact loop_20 64 a1 a2 (0 : Int32) (0 : Int32) m_2 _ _ ls  (hJ) (ht) (by decide) (fuel_madeM hJ (by decide)) hM (lv_sub hl [2, 3, 4, 1, 0] rfl)
  · skip
    refine lv_iconst (v := (-1 : Int32)) hx hb d_M_about_13 (by decide) ?_
    have e_f : f_M_about μ a1 a2 = ((-1 : Int32), m_2) := by
      subst e_2
      exact (if_pos c_10).trans rfl
    rw [e_f]
    exact W.iret (v := (-1 : Int32)) hx hb hr (fun t ht hW => ⟨rfl, hM.end ht⟩) hM.2.2.1 d_M_about_14
set_option maxHeartbeats 4000000 in
set_option maxRecDepth 100000 in
theorem c_M_isSort (l : Launch) (G : mG) (τ : mTau) (μ : mMem) (a1 : Int32) : Met l y_M_isSort w_M_isSort r_M_isSort (mPc G τ μ [.int a1]) (mQ G τ (some (.int (f_M_isSort μ a1))) μ) 0 0 (fun q => G.2.2.1 ≤ q) := by
  refine Met.ofW (cc := b_M_isSort) (maxL := 1) (ret := (some .boolean)) (by decide) rfl ?_
  intro p e s m args below meth c s₁ B hml hv
  obtain ⟨rfl, hT, hM⟩ := hv
  have hx := B.exec
  have hb := B.bytes
  have hr := B.returns
  have hts : ∀ w ∈ gG, w.before _ s = true := fun w h => atoms_spec (ws := w_M_isSort) B.pre w (List.mem_cons_of_mem _ h)
  have hown : s.vm.findClass R_M = some m.cls := findClass_of_methodNamed B.named
  have hlocks := B.notSynchronized
  have hl := lv_entry ([.int a1]) (n := 1) (Nat.le_of_ble_eq_true rfl)
  rw [lg_entry_eq]
  skip
  generalize (lg_sl ([.int a1]) ++ List.replicate (1 - (lg_sl ([.int a1])).length) Slot.unset).toArray = ls at hl ⊢
  have hl : lv_has ls 1 [(0, .int a1)] := hl
  refine lv_iload_n hx hb d_M_isSort_0 rfl (lv_at hl 0 rfl) ?_
  refine lv_if_lt (tgt := 13) hx hb d_M_isSort_1 (by decide) (fun c_1 => ?_) (fun c_1 => ?_)
  · skip
    refine lv_iconst (v := (0 : Int32)) hx hb d_M_isSort_13 (by decide) ?_
    have e_f : f_M_isSort μ a1 = (0 : Int32) := by
      exact (if_pos c_1).trans rfl
    rw [e_f]
    exact W.zret (v := (0 : Int32)) hx hb hr rfl (fun t ht hW => ⟨rfl, hM.end ht⟩) hM.2.2.1 d_M_isSort_14
  · skip
    refine lv_iload_n hx hb d_M_isSort_4 rfl (lv_at hl 0 rfl) ?_
    refine lv_iconst (v := (3 : Int32)) hx hb d_M_isSort_5 (by decide) ?_
    refine lv_icmp_ge (tgt := 13) hx hb d_M_isSort_6 (by decide) (fun c_6 => ?_) (fun c_6 => ?_)
    · skip
      refine lv_iconst (v := (0 : Int32)) hx hb d_M_isSort_13 (by decide) ?_
      have e_f : f_M_isSort μ a1 = (0 : Int32) := by
        exact (if_neg c_1).trans ((if_pos c_6).trans rfl)
      rw [e_f]
      exact W.zret (v := (0 : Int32)) hx hb hr rfl (fun t ht hW => ⟨rfl, hM.end ht⟩) hM.2.2.1 d_M_isSort_14
    · skip
      refine lv_iconst (v := (1 : Int32)) hx hb d_M_isSort_9 (by decide) ?_
      refine lv_goto (tgt := 14) hx hb d_M_isSort_10 (by decide) ?_
      have e_f : f_M_isSort μ a1 = (1 : Int32) := by
        exact (if_neg c_1).trans ((if_neg c_6).trans rfl)
      rw [e_f]
      exact W.zret (v := (1 : Int32)) hx hb hr rfl (fun t ht hW => ⟨rfl, hM.end ht⟩) hM.2.2.1 d_M_isSort_14
set_option maxHeartbeats 4000000 in
set_option maxRecDepth 100000 in
theorem c_M_collect (l : Launch) (G : mG) (τ : mTau) (μ : mMem) (a1 : Int32) (a2 : Int32) (hJ : iM μ) : Met l y_M_collect w_M_collect r_M_collect (mPc G τ μ [.ref (τ.1 20 0), .int a1, .int a2]) (mQ G τ (some (.int (f_M_collect μ a1 a2).1)) (f_M_collect μ a1 a2).2) 0 0 (fun q => G.2.2.1 ≤ q) := by
  refine Met.ofW (cc := b_M_collect) (maxL := 4) (ret := (some .int)) (by decide) rfl ?_
  intro p e s m args below meth c s₁ B hml hv
  obtain ⟨rfl, hT, hM⟩ := hv
  have hx := B.exec
  have hb := B.bytes
  have hr := B.returns
  have hts : ∀ w ∈ gG, w.before _ s = true := fun w h => atoms_spec (ws := w_M_collect) B.pre w (List.mem_cons_of_mem _ h)
  have hown : s.vm.findClass R_M = some m.cls := findClass_of_methodNamed B.named
  have hlocks := B.notSynchronized
  have hl := lv_entry ([.ref (τ.1 20 0), .int a1, .int a2]) (n := 4) (Nat.le_of_ble_eq_true rfl)
  rw [lg_entry_eq]
  skip
  generalize (lg_sl ([.ref (τ.1 20 0), .int a1, .int a2]) ++ List.replicate (4 - (lg_sl ([.ref (τ.1 20 0), .int a1, .int a2])).length) Slot.unset).toArray = ls at hl ⊢
  have hl : lv_has ls 4 [(0, .ref (τ.1 20 0)), (1, .int a1), (2, .int a2)] := hl
  refine lv_aload_n hx hb d_M_collect_0 rfl (lv_at hl 0 rfl) ?_
  refine lv_iconst (v := (0 : Int32)) hx hb d_M_collect_1 (by decide) ?_
  refine pf_M_90 hx hb hts hown hT hM (lz_20 hM) d_M_collect_2 (fun m_2 H locs e_2 hM => ?_)
  have hJ : iM m_2 := by rw [e_2]; exact iM_I hJ rfl
  refine lv_iload_n hx hb d_M_collect_5 rfl (lv_at hl 1 rfl) ?_
  refine q_M_105 hx hb hml hown hts hT hM (c_M_isSort l G τ m_2 a1) ⟨Nat.le_of_ble_eq_true rfl, Nat.le_of_ble_eq_true rfl⟩ ⟨Nat.zero_le _, Nat.zero_le _⟩ (lv_room (Nat.le_of_ble_eq_true rfl)) hl.1 d_M_collect_6 (fun H locs hM => ?_)
  refine lv_if_eq (tgt := 32) hx hb d_M_collect_9 (by decide) (fun c_9 => ?_) (fun c_9 => ?_)
  · skip
    refine lv_iconst (v := (-1 : Int32)) hx hb d_M_collect_32 (by decide) ?_
    have e_f : f_M_collect μ a1 a2 = ((-1 : Int32), m_2) := by
      subst e_2
      exact (if_pos c_9).trans rfl
    rw [e_f]
    exact W.iret (v := (-1 : Int32)) hx hb hr (fun t ht hW => ⟨rfl, hM.end ht⟩) hM.2.2.1 d_M_collect_33
  · skip
    have hs := sort_inM c_9
    refine lv_aload_n hx hb d_M_collect_12 rfl (lv_at hl 0 rfl) ?_
    refine gf_M_38 hx hb hts hown hT hM (lz_20 hM) d_M_collect_13 ?_
    refine lv_iload_n hx hb d_M_collect_16 rfl (lv_at hl 1 rfl) ?_
    refine al_31 hx hb hT hM (lz_31 hM) (by first | assumption | exact vin 3 (b := 3) (by decide) (by assumption) (by assumption)) d_M_collect_17 ?_
    refine lv_iload_n hx hb d_M_collect_18 rfl (lv_at hl 1 rfl) ?_
    refine lv_if_ne (tgt := 27) hx hb d_M_collect_19 (by decide) (fun c_19 => ?_) (fun c_19 => ?_)
    · skip
      refine lv_bipush (v := (20 : Int32)) hx hb d_M_collect_27 (by decide) ?_
      refine lv_icmp_ne (tgt := 34) hx hb d_M_collect_29 (by decide) (fun c_29 => ?_) (fun c_29 => ?_)
      · skip
        refine lv_iload_n hx hb d_M_collect_34 rfl (lv_at hl 1 rfl) ?_
        refine lv_if_ne (tgt := 58) hx hb d_M_collect_35 (by decide) (fun c_35 => ?_) (fun c_35 => ?_)
        · skip
          refine lv_iload_n hx hb d_M_collect_58 rfl (lv_at hl 1 rfl) ?_
          refine lv_iconst (v := (1 : Int32)) hx hb d_M_collect_59 (by decide) ?_
          refine lv_icmp_ne (tgt := 95) hx hb d_M_collect_60 (by decide) (fun c_60 => ?_) (fun c_60 => ?_)
          · skip
            refine lv_iload_n hx hb d_M_collect_95 rfl (lv_at hl 2 rfl) ?_
            refine lv_if_lt (tgt := 110) hx hb d_M_collect_96 (by decide) (fun c_96 => ?_) (fun c_96 => ?_)
            · skip
              refine lv_iconst (v := (0 : Int32)) hx hb d_M_collect_110 (by decide) ?_
              refine lv_istore_n (lv' := [(3, .int (0 : Int32)), (0, .ref (τ.1 20 0)), (1, .int a1), (2, .int a2)]) hx hb d_M_collect_111 rfl hl (by decide) rfl (fun ls hl => ?_)
              refine lv_iload_n hx hb d_M_collect_112 rfl (lv_at hl 0 rfl) ?_
              refine lv_if_ne (tgt := 118) hx hb d_M_collect_113 (by decide) (fun c_113 => ?_) (fun c_113 => ?_)
              · exact absurd (by decide) c_113
              · skip
                refine lv_iconst (v := (-1 : Int32)) hx hb d_M_collect_116 (by decide) ?_
                have e_f : f_M_collect μ a1 a2 = ((-1 : Int32), m_2) := by
                  subst e_2
                  exact (if_neg c_9).trans ((if_neg c_19).trans ((if_neg c_29).trans ((if_neg c_60).trans ((if_pos c_96).trans rfl))))
                rw [e_f]
                exact W.iret (v := (-1 : Int32)) hx hb hr (fun t ht hW => ⟨rfl, hM.end ht⟩) hM.2.2.1 d_M_collect_117
            · skip
              refine lv_iload_n hx hb d_M_collect_99 rfl (lv_at hl 2 rfl) ?_
              refine lv_sipush (v := (256 : Int32)) hx hb d_M_collect_100 (by decide) ?_
              refine lv_icmp_ge (tgt := 110) hx hb d_M_collect_103 (by decide) (fun c_103 => ?_) (fun c_103 => ?_)
              · skip
                refine lv_iconst (v := (0 : Int32)) hx hb d_M_collect_110 (by decide) ?_
                refine lv_istore_n (lv' := [(3, .int (0 : Int32)), (0, .ref (τ.1 20 0)), (1, .int a1), (2, .int a2)]) hx hb d_M_collect_111 rfl hl (by decide) rfl (fun ls hl => ?_)
                refine lv_iload_n hx hb d_M_collect_112 rfl (lv_at hl 0 rfl) ?_
                refine lv_if_ne (tgt := 118) hx hb d_M_collect_113 (by decide) (fun c_113 => ?_) (fun c_113 => ?_)
                · exact absurd (by decide) c_113
                · skip
                  refine lv_iconst (v := (-1 : Int32)) hx hb d_M_collect_116 (by decide) ?_
                  have e_f : f_M_collect μ a1 a2 = ((-1 : Int32), m_2) := by
                    subst e_2
                    exact (if_neg c_9).trans ((if_neg c_19).trans ((if_neg c_29).trans ((if_neg c_60).trans ((if_neg c_96).trans ((if_pos c_103).trans rfl)))))
                  rw [e_f]
                  exact W.iret (v := (-1 : Int32)) hx hb hr (fun t ht hW => ⟨rfl, hM.end ht⟩) hM.2.2.1 d_M_collect_117
              · skip
                refine lv_iconst (v := (1 : Int32)) hx hb d_M_collect_106 (by decide) ?_
                refine lv_goto (tgt := 111) hx hb d_M_collect_107 (by decide) ?_
                refine lv_istore_n (lv' := [(3, .int (1 : Int32)), (0, .ref (τ.1 20 0)), (1, .int a1), (2, .int a2)]) hx hb d_M_collect_111 rfl hl (by decide) rfl (fun ls hl => ?_)
                refine lv_iload_n hx hb d_M_collect_112 rfl (lv_at hl 0 rfl) ?_
                refine lv_if_ne (tgt := 118) hx hb d_M_collect_113 (by decide) (fun c_113 => ?_) (fun c_113 => ?_)
                · skip
                  refine lv_aload_n hx hb d_M_collect_118 rfl (lv_at hl 1 rfl) ?_
                  refine gf_M_41 hx hb hts hown hT hM (lz_20 hM) d_M_collect_119 ?_
                  refine lv_bipush (v := (30 : Int32)) hx hb d_M_collect_122 (by decide) ?_
                  refine lv_iload_n hx hb d_M_collect_124 rfl (lv_at hl 2 rfl) ?_
                  refine lv_imul hx hb d_M_collect_125 ?_
                  refine lv_aload_n hx hb d_M_collect_126 rfl (lv_at hl 1 rfl) ?_
                  refine gf_M_38 hx hb hts hown hT hM (lz_20 hM) d_M_collect_127 ?_
                  refine lv_iload_n hx hb d_M_collect_130 rfl (lv_at hl 2 rfl) ?_
                  refine al_31 hx hb hT hM (lz_31 hM) (by first | assumption | exact vin 3 (b := 3) (by decide) (by assumption) (by assumption)) d_M_collect_131 ?_
                  refine lv_iadd hx hb d_M_collect_132 ?_
                  refine lv_iload_n hx hb d_M_collect_133 rfl (lv_at hl 3 rfl) ?_
                  refine as_32 hx hb hT hM (lz_32 hM) (by first | exact in_holds0 hJ c_19 c_29 | exact in_holds1 hJ hs c_19) d_M_collect_134 (fun m_134 H locs e_134 hM => ?_)
                  have hJ : iM m_134 := by rw [e_134]; exact iM_I hJ rfl
                  refine lv_aload_n hx hb d_M_collect_135 rfl (lv_at hl 1 rfl) ?_
                  refine gf_M_38 hx hb hts hown hT hM (lz_20 hM) d_M_collect_136 ?_
                  refine lv_iload_n hx hb d_M_collect_139 rfl (lv_at hl 2 rfl) ?_
                  refine lv_dup2_11 hx hb d_M_collect_140 rfl rfl ?_
                  refine al_31 hx hb hT hM (lz_31 hM) (by first | assumption | exact vin 3 (b := 3) (by decide) (by assumption) (by assumption)) d_M_collect_141 ?_
                  refine lv_iconst (v := (1 : Int32)) hx hb d_M_collect_142 (by decide) ?_
                  refine lv_iadd hx hb d_M_collect_143 ?_
                  refine as_31 hx hb hT hM (lz_31 hM) (by first | assumption | exact vin 3 (b := 3) (by decide) (by assumption) (by assumption)) d_M_collect_144 (fun m_144 H locs e_144 hM => ?_)
                  refine lv_aload_n hx hb d_M_collect_145 rfl (lv_at hl 1 rfl) ?_
                  refine gf_M_38 hx hb hts hown hT hM (lz_20 hM) d_M_collect_146 ?_
                  refine lv_iload_n hx hb d_M_collect_149 rfl (lv_at hl 2 rfl) ?_
                  refine al_31 hx hb hT hM (lz_31 hM) (by first | assumption | exact vin 3 (b := 3) (by decide) (by assumption) (by assumption)) d_M_collect_150 ?_
                  have e_f : f_M_collect μ a1 a2 = (m_144.1 31 0 a1.toNatClampNeg, m_144) := by
                    subst e_144 e_134 e_2
                    exact (if_neg c_9).trans ((if_neg c_19).trans ((if_neg c_29).trans ((if_neg c_60).trans ((if_neg c_96).trans ((if_neg c_103).trans rfl)))))
                  rw [e_f]
                  exact W.iret (v := m_144.1 31 0 a1.toNatClampNeg) hx hb hr (fun t ht hW => ⟨rfl, hM.end ht⟩) hM.2.2.1 d_M_collect_151
                · exact absurd c_113 (by decide)
          · skip
            refine lv_iload_n hx hb d_M_collect_63 rfl (lv_at hl 2 rfl) ?_
            refine lv_bipush (v := (96 : Int32)) hx hb d_M_collect_64 (by decide) ?_
            refine lv_icmp_le (tgt := 75) hx hb d_M_collect_66 (by decide) (fun c_66 => ?_) (fun c_66 => ?_)
            · skip
              refine lv_iload_n hx hb d_M_collect_75 rfl (lv_at hl 2 rfl) ?_
              refine lv_bipush (v := (46 : Int32)) hx hb d_M_collect_76 (by decide) ?_
              refine lv_icmp_eq (tgt := 87) hx hb d_M_collect_78 (by decide) (fun c_78 => ?_) (fun c_78 => ?_)
              · skip
                refine lv_iconst (v := (1 : Int32)) hx hb d_M_collect_87 (by decide) ?_
                refine lv_goto (tgt := 111) hx hb d_M_collect_88 (by decide) ?_
                refine lv_istore_n (lv' := [(3, .int (1 : Int32)), (0, .ref (τ.1 20 0)), (1, .int a1), (2, .int a2)]) hx hb d_M_collect_111 rfl hl (by decide) rfl (fun ls hl => ?_)
                refine lv_iload_n hx hb d_M_collect_112 rfl (lv_at hl 0 rfl) ?_
                refine lv_if_ne (tgt := 118) hx hb d_M_collect_113 (by decide) (fun c_113 => ?_) (fun c_113 => ?_)
                · skip
                  refine lv_aload_n hx hb d_M_collect_118 rfl (lv_at hl 1 rfl) ?_
                  refine gf_M_41 hx hb hts hown hT hM (lz_20 hM) d_M_collect_119 ?_
                  refine lv_bipush (v := (30 : Int32)) hx hb d_M_collect_122 (by decide) ?_
                  refine lv_iload_n hx hb d_M_collect_124 rfl (lv_at hl 2 rfl) ?_
                  refine lv_imul hx hb d_M_collect_125 ?_
                  refine lv_aload_n hx hb d_M_collect_126 rfl (lv_at hl 1 rfl) ?_
                  refine gf_M_38 hx hb hts hown hT hM (lz_20 hM) d_M_collect_127 ?_
                  refine lv_iload_n hx hb d_M_collect_130 rfl (lv_at hl 2 rfl) ?_
                  refine al_31 hx hb hT hM (lz_31 hM) (by first | assumption | exact vin 3 (b := 3) (by decide) (by assumption) (by assumption)) d_M_collect_131 ?_
                  refine lv_iadd hx hb d_M_collect_132 ?_
                  refine lv_iload_n hx hb d_M_collect_133 rfl (lv_at hl 3 rfl) ?_
                  refine as_32 hx hb hT hM (lz_32 hM) (by first | exact in_holds0 hJ c_19 c_29 | exact in_holds1 hJ hs c_19) d_M_collect_134 (fun m_134 H locs e_134 hM => ?_)
                  have hJ : iM m_134 := by rw [e_134]; exact iM_I hJ rfl
                  refine lv_aload_n hx hb d_M_collect_135 rfl (lv_at hl 1 rfl) ?_
                  refine gf_M_38 hx hb hts hown hT hM (lz_20 hM) d_M_collect_136 ?_
                  refine lv_iload_n hx hb d_M_collect_139 rfl (lv_at hl 2 rfl) ?_
                  refine lv_dup2_11 hx hb d_M_collect_140 rfl rfl ?_
                  refine al_31 hx hb hT hM (lz_31 hM) (by first | assumption | exact vin 3 (b := 3) (by decide) (by assumption) (by assumption)) d_M_collect_141 ?_
                  refine lv_iconst (v := (1 : Int32)) hx hb d_M_collect_142 (by decide) ?_
                  refine lv_iadd hx hb d_M_collect_143 ?_
                  refine as_31 hx hb hT hM (lz_31 hM) (by first | assumption | exact vin 3 (b := 3) (by decide) (by assumption) (by assumption)) d_M_collect_144 (fun m_144 H locs e_144 hM => ?_)
                  refine lv_aload_n hx hb d_M_collect_145 rfl (lv_at hl 1 rfl) ?_
                  refine gf_M_38 hx hb hts hown hT hM (lz_20 hM) d_M_collect_146 ?_
                  refine lv_iload_n hx hb d_M_collect_149 rfl (lv_at hl 2 rfl) ?_
                  refine al_31 hx hb hT hM (lz_31 hM) (by first | assumption | exact vin 3 (b := 3) (by decide) (by assumption) (by assumption)) d_M_collect_150 ?_
                  have e_f : f_M_collect μ a1 a2 = (m_144.1 31 0 a1.toNatClampNeg, m_144) := by
                    subst e_144 e_134 e_2
                    exact (if_neg c_9).trans ((if_neg c_19).trans ((if_neg c_29).trans ((if_pos c_60).trans ((if_pos c_66).trans ((if_pos c_78).trans rfl)))))
                  rw [e_f]
                  exact W.iret (v := m_144.1 31 0 a1.toNatClampNeg) hx hb hr (fun t ht hW => ⟨rfl, hM.end ht⟩) hM.2.2.1 d_M_collect_151
                · exact absurd c_113 (by decide)
              · skip
                refine lv_iload_n hx hb d_M_collect_81 rfl (lv_at hl 2 rfl) ?_
                refine lv_bipush (v := (47 : Int32)) hx hb d_M_collect_82 (by decide) ?_
                refine lv_icmp_ne (tgt := 91) hx hb d_M_collect_84 (by decide) (fun c_84 => ?_) (fun c_84 => ?_)
                · skip
                  refine lv_iconst (v := (0 : Int32)) hx hb d_M_collect_91 (by decide) ?_
                  refine lv_goto (tgt := 111) hx hb d_M_collect_92 (by decide) ?_
                  refine lv_istore_n (lv' := [(3, .int (0 : Int32)), (0, .ref (τ.1 20 0)), (1, .int a1), (2, .int a2)]) hx hb d_M_collect_111 rfl hl (by decide) rfl (fun ls hl => ?_)
                  refine lv_iload_n hx hb d_M_collect_112 rfl (lv_at hl 0 rfl) ?_
                  refine lv_if_ne (tgt := 118) hx hb d_M_collect_113 (by decide) (fun c_113 => ?_) (fun c_113 => ?_)
                  · exact absurd (by decide) c_113
                  · skip
                    refine lv_iconst (v := (-1 : Int32)) hx hb d_M_collect_116 (by decide) ?_
                    have e_f : f_M_collect μ a1 a2 = ((-1 : Int32), m_2) := by
                      subst e_2
                      exact (if_neg c_9).trans ((if_neg c_19).trans ((if_neg c_29).trans ((if_pos c_60).trans ((if_pos c_66).trans ((if_neg c_78).trans ((if_neg c_84).trans rfl))))))
                    rw [e_f]
                    exact W.iret (v := (-1 : Int32)) hx hb hr (fun t ht hW => ⟨rfl, hM.end ht⟩) hM.2.2.1 d_M_collect_117
                · skip
                  refine lv_iconst (v := (1 : Int32)) hx hb d_M_collect_87 (by decide) ?_
                  refine lv_goto (tgt := 111) hx hb d_M_collect_88 (by decide) ?_
                  refine lv_istore_n (lv' := [(3, .int (1 : Int32)), (0, .ref (τ.1 20 0)), (1, .int a1), (2, .int a2)]) hx hb d_M_collect_111 rfl hl (by decide) rfl (fun ls hl => ?_)
                  refine lv_iload_n hx hb d_M_collect_112 rfl (lv_at hl 0 rfl) ?_
                  refine lv_if_ne (tgt := 118) hx hb d_M_collect_113 (by decide) (fun c_113 => ?_) (fun c_113 => ?_)
                  · skip
                    refine lv_aload_n hx hb d_M_collect_118 rfl (lv_at hl 1 rfl) ?_
                    refine gf_M_41 hx hb hts hown hT hM (lz_20 hM) d_M_collect_119 ?_
                    refine lv_bipush (v := (30 : Int32)) hx hb d_M_collect_122 (by decide) ?_
                    refine lv_iload_n hx hb d_M_collect_124 rfl (lv_at hl 2 rfl) ?_
                    refine lv_imul hx hb d_M_collect_125 ?_
                    refine lv_aload_n hx hb d_M_collect_126 rfl (lv_at hl 1 rfl) ?_
                    refine gf_M_38 hx hb hts hown hT hM (lz_20 hM) d_M_collect_127 ?_
                    refine lv_iload_n hx hb d_M_collect_130 rfl (lv_at hl 2 rfl) ?_
                    refine al_31 hx hb hT hM (lz_31 hM) (by first | assumption | exact vin 3 (b := 3) (by decide) (by assumption) (by assumption)) d_M_collect_131 ?_
                    refine lv_iadd hx hb d_M_collect_132 ?_
                    refine lv_iload_n hx hb d_M_collect_133 rfl (lv_at hl 3 rfl) ?_
                    refine as_32 hx hb hT hM (lz_32 hM) (by first | exact in_holds0 hJ c_19 c_29 | exact in_holds1 hJ hs c_19) d_M_collect_134 (fun m_134 H locs e_134 hM => ?_)
                    have hJ : iM m_134 := by rw [e_134]; exact iM_I hJ rfl
                    refine lv_aload_n hx hb d_M_collect_135 rfl (lv_at hl 1 rfl) ?_
                    refine gf_M_38 hx hb hts hown hT hM (lz_20 hM) d_M_collect_136 ?_
                    refine lv_iload_n hx hb d_M_collect_139 rfl (lv_at hl 2 rfl) ?_
                    refine lv_dup2_11 hx hb d_M_collect_140 rfl rfl ?_
                    refine al_31 hx hb hT hM (lz_31 hM) (by first | assumption | exact vin 3 (b := 3) (by decide) (by assumption) (by assumption)) d_M_collect_141 ?_
                    refine lv_iconst (v := (1 : Int32)) hx hb d_M_collect_142 (by decide) ?_
                    refine lv_iadd hx hb d_M_collect_143 ?_
                    refine as_31 hx hb hT hM (lz_31 hM) (by first | assumption | exact vin 3 (b := 3) (by decide) (by assumption) (by assumption)) d_M_collect_144 (fun m_144 H locs e_144 hM => ?_)
                    refine lv_aload_n hx hb d_M_collect_145 rfl (lv_at hl 1 rfl) ?_
                    refine gf_M_38 hx hb hts hown hT hM (lz_20 hM) d_M_collect_146 ?_
                    refine lv_iload_n hx hb d_M_collect_149 rfl (lv_at hl 2 rfl) ?_
                    refine al_31 hx hb hT hM (lz_31 hM) (by first | assumption | exact vin 3 (b := 3) (by decide) (by assumption) (by assumption)) d_M_collect_150 ?_
                    have e_f : f_M_collect μ a1 a2 = (m_144.1 31 0 a1.toNatClampNeg, m_144) := by
                      subst e_144 e_134 e_2
                      exact (if_neg c_9).trans ((if_neg c_19).trans ((if_neg c_29).trans ((if_pos c_60).trans ((if_pos c_66).trans ((if_neg c_78).trans ((if_pos c_84).trans rfl))))))
                    rw [e_f]
                    exact W.iret (v := m_144.1 31 0 a1.toNatClampNeg) hx hb hr (fun t ht hW => ⟨rfl, hM.end ht⟩) hM.2.2.1 d_M_collect_151
                  · exact absurd c_113 (by decide)
            · skip
              refine lv_iload_n hx hb d_M_collect_69 rfl (lv_at hl 2 rfl) ?_
              refine lv_bipush (v := (123 : Int32)) hx hb d_M_collect_70 (by decide) ?_
              refine lv_icmp_lt (tgt := 87) hx hb d_M_collect_72 (by decide) (fun c_72 => ?_) (fun c_72 => ?_)
              · skip
                refine lv_iconst (v := (1 : Int32)) hx hb d_M_collect_87 (by decide) ?_
                refine lv_goto (tgt := 111) hx hb d_M_collect_88 (by decide) ?_
                refine lv_istore_n (lv' := [(3, .int (1 : Int32)), (0, .ref (τ.1 20 0)), (1, .int a1), (2, .int a2)]) hx hb d_M_collect_111 rfl hl (by decide) rfl (fun ls hl => ?_)
                refine lv_iload_n hx hb d_M_collect_112 rfl (lv_at hl 0 rfl) ?_
                refine lv_if_ne (tgt := 118) hx hb d_M_collect_113 (by decide) (fun c_113 => ?_) (fun c_113 => ?_)
                · skip
                  refine lv_aload_n hx hb d_M_collect_118 rfl (lv_at hl 1 rfl) ?_
                  refine gf_M_41 hx hb hts hown hT hM (lz_20 hM) d_M_collect_119 ?_
                  refine lv_bipush (v := (30 : Int32)) hx hb d_M_collect_122 (by decide) ?_
                  refine lv_iload_n hx hb d_M_collect_124 rfl (lv_at hl 2 rfl) ?_
                  refine lv_imul hx hb d_M_collect_125 ?_
                  refine lv_aload_n hx hb d_M_collect_126 rfl (lv_at hl 1 rfl) ?_
                  refine gf_M_38 hx hb hts hown hT hM (lz_20 hM) d_M_collect_127 ?_
                  refine lv_iload_n hx hb d_M_collect_130 rfl (lv_at hl 2 rfl) ?_
                  refine al_31 hx hb hT hM (lz_31 hM) (by first | assumption | exact vin 3 (b := 3) (by decide) (by assumption) (by assumption)) d_M_collect_131 ?_
                  refine lv_iadd hx hb d_M_collect_132 ?_
                  refine lv_iload_n hx hb d_M_collect_133 rfl (lv_at hl 3 rfl) ?_
                  refine as_32 hx hb hT hM (lz_32 hM) (by first | exact in_holds0 hJ c_19 c_29 | exact in_holds1 hJ hs c_19) d_M_collect_134 (fun m_134 H locs e_134 hM => ?_)
                  have hJ : iM m_134 := by rw [e_134]; exact iM_I hJ rfl
                  refine lv_aload_n hx hb d_M_collect_135 rfl (lv_at hl 1 rfl) ?_
                  refine gf_M_38 hx hb hts hown hT hM (lz_20 hM) d_M_collect_136 ?_
                  refine lv_iload_n hx hb d_M_collect_139 rfl (lv_at hl 2 rfl) ?_
                  refine lv_dup2_11 hx hb d_M_collect_140 rfl rfl ?_
                  refine al_31 hx hb hT hM (lz_31 hM) (by first | assumption | exact vin 3 (b := 3) (by decide) (by assumption) (by assumption)) d_M_collect_141 ?_
                  refine lv_iconst (v := (1 : Int32)) hx hb d_M_collect_142 (by decide) ?_
                  refine lv_iadd hx hb d_M_collect_143 ?_
                  refine as_31 hx hb hT hM (lz_31 hM) (by first | assumption | exact vin 3 (b := 3) (by decide) (by assumption) (by assumption)) d_M_collect_144 (fun m_144 H locs e_144 hM => ?_)
                  refine lv_aload_n hx hb d_M_collect_145 rfl (lv_at hl 1 rfl) ?_
                  refine gf_M_38 hx hb hts hown hT hM (lz_20 hM) d_M_collect_146 ?_
                  refine lv_iload_n hx hb d_M_collect_149 rfl (lv_at hl 2 rfl) ?_
                  refine al_31 hx hb hT hM (lz_31 hM) (by first | assumption | exact vin 3 (b := 3) (by decide) (by assumption) (by assumption)) d_M_collect_150 ?_
                  have e_f : f_M_collect μ a1 a2 = (m_144.1 31 0 a1.toNatClampNeg, m_144) := by
                    subst e_144 e_134 e_2
                    exact (if_neg c_9).trans ((if_neg c_19).trans ((if_neg c_29).trans ((if_pos c_60).trans ((if_neg c_66).trans ((if_pos c_72).trans rfl)))))
                  rw [e_f]
                  exact W.iret (v := m_144.1 31 0 a1.toNatClampNeg) hx hb hr (fun t ht hW => ⟨rfl, hM.end ht⟩) hM.2.2.1 d_M_collect_151
                · exact absurd c_113 (by decide)
              · skip
                refine lv_iload_n hx hb d_M_collect_75 rfl (lv_at hl 2 rfl) ?_
                refine lv_bipush (v := (46 : Int32)) hx hb d_M_collect_76 (by decide) ?_
                refine lv_icmp_eq (tgt := 87) hx hb d_M_collect_78 (by decide) (fun c_78 => ?_) (fun c_78 => ?_)
                · skip
                  refine lv_iconst (v := (1 : Int32)) hx hb d_M_collect_87 (by decide) ?_
                  refine lv_goto (tgt := 111) hx hb d_M_collect_88 (by decide) ?_
                  refine lv_istore_n (lv' := [(3, .int (1 : Int32)), (0, .ref (τ.1 20 0)), (1, .int a1), (2, .int a2)]) hx hb d_M_collect_111 rfl hl (by decide) rfl (fun ls hl => ?_)
                  refine lv_iload_n hx hb d_M_collect_112 rfl (lv_at hl 0 rfl) ?_
                  refine lv_if_ne (tgt := 118) hx hb d_M_collect_113 (by decide) (fun c_113 => ?_) (fun c_113 => ?_)
                  · skip
                    refine lv_aload_n hx hb d_M_collect_118 rfl (lv_at hl 1 rfl) ?_
                    refine gf_M_41 hx hb hts hown hT hM (lz_20 hM) d_M_collect_119 ?_
                    refine lv_bipush (v := (30 : Int32)) hx hb d_M_collect_122 (by decide) ?_
                    refine lv_iload_n hx hb d_M_collect_124 rfl (lv_at hl 2 rfl) ?_
                    refine lv_imul hx hb d_M_collect_125 ?_
                    refine lv_aload_n hx hb d_M_collect_126 rfl (lv_at hl 1 rfl) ?_
                    refine gf_M_38 hx hb hts hown hT hM (lz_20 hM) d_M_collect_127 ?_
                    refine lv_iload_n hx hb d_M_collect_130 rfl (lv_at hl 2 rfl) ?_
                    refine al_31 hx hb hT hM (lz_31 hM) (by first | assumption | exact vin 3 (b := 3) (by decide) (by assumption) (by assumption)) d_M_collect_131 ?_
                    refine lv_iadd hx hb d_M_collect_132 ?_
                    refine lv_iload_n hx hb d_M_collect_133 rfl (lv_at hl 3 rfl) ?_
                    refine as_32 hx hb hT hM (lz_32 hM) (by first | exact in_holds0 hJ c_19 c_29 | exact in_holds1 hJ hs c_19) d_M_collect_134 (fun m_134 H locs e_134 hM => ?_)
                    have hJ : iM m_134 := by rw [e_134]; exact iM_I hJ rfl
                    refine lv_aload_n hx hb d_M_collect_135 rfl (lv_at hl 1 rfl) ?_
                    refine gf_M_38 hx hb hts hown hT hM (lz_20 hM) d_M_collect_136 ?_
                    refine lv_iload_n hx hb d_M_collect_139 rfl (lv_at hl 2 rfl) ?_
                    refine lv_dup2_11 hx hb d_M_collect_140 rfl rfl ?_
                    refine al_31 hx hb hT hM (lz_31 hM) (by first | assumption | exact vin 3 (b := 3) (by decide) (by assumption) (by assumption)) d_M_collect_141 ?_
                    refine lv_iconst (v := (1 : Int32)) hx hb d_M_collect_142 (by decide) ?_
                    refine lv_iadd hx hb d_M_collect_143 ?_
                    refine as_31 hx hb hT hM (lz_31 hM) (by first | assumption | exact vin 3 (b := 3) (by decide) (by assumption) (by assumption)) d_M_collect_144 (fun m_144 H locs e_144 hM => ?_)
                    refine lv_aload_n hx hb d_M_collect_145 rfl (lv_at hl 1 rfl) ?_
                    refine gf_M_38 hx hb hts hown hT hM (lz_20 hM) d_M_collect_146 ?_
                    refine lv_iload_n hx hb d_M_collect_149 rfl (lv_at hl 2 rfl) ?_
                    refine al_31 hx hb hT hM (lz_31 hM) (by first | assumption | exact vin 3 (b := 3) (by decide) (by assumption) (by assumption)) d_M_collect_150 ?_
                    have e_f : f_M_collect μ a1 a2 = (m_144.1 31 0 a1.toNatClampNeg, m_144) := by
                      subst e_144 e_134 e_2
                      exact (if_neg c_9).trans ((if_neg c_19).trans ((if_neg c_29).trans ((if_pos c_60).trans ((if_neg c_66).trans ((if_neg c_72).trans ((if_pos c_78).trans rfl))))))
                    rw [e_f]
                    exact W.iret (v := m_144.1 31 0 a1.toNatClampNeg) hx hb hr (fun t ht hW => ⟨rfl, hM.end ht⟩) hM.2.2.1 d_M_collect_151
                  · exact absurd c_113 (by decide)
                · skip
                  refine lv_iload_n hx hb d_M_collect_81 rfl (lv_at hl 2 rfl) ?_
                  refine lv_bipush (v := (47 : Int32)) hx hb d_M_collect_82 (by decide) ?_
                  refine lv_icmp_ne (tgt := 91) hx hb d_M_collect_84 (by decide) (fun c_84 => ?_) (fun c_84 => ?_)
                  · skip
                    refine lv_iconst (v := (0 : Int32)) hx hb d_M_collect_91 (by decide) ?_
                    refine lv_goto (tgt := 111) hx hb d_M_collect_92 (by decide) ?_
                    refine lv_istore_n (lv' := [(3, .int (0 : Int32)), (0, .ref (τ.1 20 0)), (1, .int a1), (2, .int a2)]) hx hb d_M_collect_111 rfl hl (by decide) rfl (fun ls hl => ?_)
                    refine lv_iload_n hx hb d_M_collect_112 rfl (lv_at hl 0 rfl) ?_
                    refine lv_if_ne (tgt := 118) hx hb d_M_collect_113 (by decide) (fun c_113 => ?_) (fun c_113 => ?_)
                    · exact absurd (by decide) c_113
                    · skip
                      refine lv_iconst (v := (-1 : Int32)) hx hb d_M_collect_116 (by decide) ?_
                      have e_f : f_M_collect μ a1 a2 = ((-1 : Int32), m_2) := by
                        subst e_2
                        exact (if_neg c_9).trans ((if_neg c_19).trans ((if_neg c_29).trans ((if_pos c_60).trans ((if_neg c_66).trans ((if_neg c_72).trans ((if_neg c_78).trans ((if_neg c_84).trans rfl)))))))
                      rw [e_f]
                      exact W.iret (v := (-1 : Int32)) hx hb hr (fun t ht hW => ⟨rfl, hM.end ht⟩) hM.2.2.1 d_M_collect_117
                  · skip
                    refine lv_iconst (v := (1 : Int32)) hx hb d_M_collect_87 (by decide) ?_
                    refine lv_goto (tgt := 111) hx hb d_M_collect_88 (by decide) ?_
                    refine lv_istore_n (lv' := [(3, .int (1 : Int32)), (0, .ref (τ.1 20 0)), (1, .int a1), (2, .int a2)]) hx hb d_M_collect_111 rfl hl (by decide) rfl (fun ls hl => ?_)
                    refine lv_iload_n hx hb d_M_collect_112 rfl (lv_at hl 0 rfl) ?_
                    refine lv_if_ne (tgt := 118) hx hb d_M_collect_113 (by decide) (fun c_113 => ?_) (fun c_113 => ?_)
                    · skip
                      refine lv_aload_n hx hb d_M_collect_118 rfl (lv_at hl 1 rfl) ?_
                      refine gf_M_41 hx hb hts hown hT hM (lz_20 hM) d_M_collect_119 ?_
                      refine lv_bipush (v := (30 : Int32)) hx hb d_M_collect_122 (by decide) ?_
                      refine lv_iload_n hx hb d_M_collect_124 rfl (lv_at hl 2 rfl) ?_
                      refine lv_imul hx hb d_M_collect_125 ?_
                      refine lv_aload_n hx hb d_M_collect_126 rfl (lv_at hl 1 rfl) ?_
                      refine gf_M_38 hx hb hts hown hT hM (lz_20 hM) d_M_collect_127 ?_
                      refine lv_iload_n hx hb d_M_collect_130 rfl (lv_at hl 2 rfl) ?_
                      refine al_31 hx hb hT hM (lz_31 hM) (by first | assumption | exact vin 3 (b := 3) (by decide) (by assumption) (by assumption)) d_M_collect_131 ?_
                      refine lv_iadd hx hb d_M_collect_132 ?_
                      refine lv_iload_n hx hb d_M_collect_133 rfl (lv_at hl 3 rfl) ?_
                      refine as_32 hx hb hT hM (lz_32 hM) (by first | exact in_holds0 hJ c_19 c_29 | exact in_holds1 hJ hs c_19) d_M_collect_134 (fun m_134 H locs e_134 hM => ?_)
                      have hJ : iM m_134 := by rw [e_134]; exact iM_I hJ rfl
                      refine lv_aload_n hx hb d_M_collect_135 rfl (lv_at hl 1 rfl) ?_
                      refine gf_M_38 hx hb hts hown hT hM (lz_20 hM) d_M_collect_136 ?_
                      refine lv_iload_n hx hb d_M_collect_139 rfl (lv_at hl 2 rfl) ?_
                      refine lv_dup2_11 hx hb d_M_collect_140 rfl rfl ?_
                      refine al_31 hx hb hT hM (lz_31 hM) (by first | assumption | exact vin 3 (b := 3) (by decide) (by assumption) (by assumption)) d_M_collect_141 ?_
                      refine lv_iconst (v := (1 : Int32)) hx hb d_M_collect_142 (by decide) ?_
                      refine lv_iadd hx hb d_M_collect_143 ?_
                      refine as_31 hx hb hT hM (lz_31 hM) (by first | assumption | exact vin 3 (b := 3) (by decide) (by assumption) (by assumption)) d_M_collect_144 (fun m_144 H locs e_144 hM => ?_)
                      refine lv_aload_n hx hb d_M_collect_145 rfl (lv_at hl 1 rfl) ?_
                      refine gf_M_38 hx hb hts hown hT hM (lz_20 hM) d_M_collect_146 ?_
                      refine lv_iload_n hx hb d_M_collect_149 rfl (lv_at hl 2 rfl) ?_
                      refine al_31 hx hb hT hM (lz_31 hM) (by first | assumption | exact vin 3 (b := 3) (by decide) (by assumption) (by assumption)) d_M_collect_150 ?_
                      have e_f : f_M_collect μ a1 a2 = (m_144.1 31 0 a1.toNatClampNeg, m_144) := by
                        subst e_144 e_134 e_2
                        exact (if_neg c_9).trans ((if_neg c_19).trans ((if_neg c_29).trans ((if_pos c_60).trans ((if_neg c_66).trans ((if_neg c_72).trans ((if_neg c_78).trans ((if_pos c_84).trans rfl)))))))
                      rw [e_f]
                      exact W.iret (v := m_144.1 31 0 a1.toNatClampNeg) hx hb hr (fun t ht hW => ⟨rfl, hM.end ht⟩) hM.2.2.1 d_M_collect_151
                    · exact absurd c_113 (by decide)
        · exact absurd c_35 c_19
      · skip
        refine lv_iconst (v := (-1 : Int32)) hx hb d_M_collect_32 (by decide) ?_
        have e_f : f_M_collect μ a1 a2 = ((-1 : Int32), m_2) := by
          subst e_2
          exact (if_neg c_9).trans ((if_neg c_19).trans ((if_pos c_29).trans rfl))
        rw [e_f]
        exact W.iret (v := (-1 : Int32)) hx hb hr (fun t ht hW => ⟨rfl, hM.end ht⟩) hM.2.2.1 d_M_collect_33
    · skip
      refine lv_bipush (v := (30 : Int32)) hx hb d_M_collect_22 (by decide) ?_
      refine lv_goto (tgt := 29) hx hb d_M_collect_24 (by decide) ?_
      refine lv_icmp_ne (tgt := 34) hx hb d_M_collect_29 (by decide) (fun c_29 => ?_) (fun c_29 => ?_)
      · skip
        refine lv_iload_n hx hb d_M_collect_34 rfl (lv_at hl 1 rfl) ?_
        refine lv_if_ne (tgt := 58) hx hb d_M_collect_35 (by decide) (fun c_35 => ?_) (fun c_35 => ?_)
        · exact absurd c_19 c_35
        · skip
          refine lv_iload_n hx hb d_M_collect_38 rfl (lv_at hl 2 rfl) ?_
          refine lv_bipush (v := (31 : Int32)) hx hb d_M_collect_39 (by decide) ?_
          refine lv_icmp_le (tgt := 54) hx hb d_M_collect_41 (by decide) (fun c_41 => ?_) (fun c_41 => ?_)
          · skip
            refine lv_iconst (v := (0 : Int32)) hx hb d_M_collect_54 (by decide) ?_
            refine lv_goto (tgt := 111) hx hb d_M_collect_55 (by decide) ?_
            refine lv_istore_n (lv' := [(3, .int (0 : Int32)), (0, .ref (τ.1 20 0)), (1, .int a1), (2, .int a2)]) hx hb d_M_collect_111 rfl hl (by decide) rfl (fun ls hl => ?_)
            refine lv_iload_n hx hb d_M_collect_112 rfl (lv_at hl 0 rfl) ?_
            refine lv_if_ne (tgt := 118) hx hb d_M_collect_113 (by decide) (fun c_113 => ?_) (fun c_113 => ?_)
            · exact absurd (by decide) c_113
            · skip
              refine lv_iconst (v := (-1 : Int32)) hx hb d_M_collect_116 (by decide) ?_
              have e_f : f_M_collect μ a1 a2 = ((-1 : Int32), m_2) := by
                subst e_2
                exact (if_neg c_9).trans ((if_pos c_19).trans ((if_neg c_29).trans ((if_pos c_41).trans rfl)))
              rw [e_f]
              exact W.iret (v := (-1 : Int32)) hx hb hr (fun t ht hW => ⟨rfl, hM.end ht⟩) hM.2.2.1 d_M_collect_117
          · skip
            refine lv_iload_n hx hb d_M_collect_44 rfl (lv_at hl 2 rfl) ?_
            refine lv_bipush (v := (127 : Int32)) hx hb d_M_collect_45 (by decide) ?_
            refine lv_icmp_ge (tgt := 54) hx hb d_M_collect_47 (by decide) (fun c_47 => ?_) (fun c_47 => ?_)
            · skip
              refine lv_iconst (v := (0 : Int32)) hx hb d_M_collect_54 (by decide) ?_
              refine lv_goto (tgt := 111) hx hb d_M_collect_55 (by decide) ?_
              refine lv_istore_n (lv' := [(3, .int (0 : Int32)), (0, .ref (τ.1 20 0)), (1, .int a1), (2, .int a2)]) hx hb d_M_collect_111 rfl hl (by decide) rfl (fun ls hl => ?_)
              refine lv_iload_n hx hb d_M_collect_112 rfl (lv_at hl 0 rfl) ?_
              refine lv_if_ne (tgt := 118) hx hb d_M_collect_113 (by decide) (fun c_113 => ?_) (fun c_113 => ?_)
              · exact absurd (by decide) c_113
              · skip
                refine lv_iconst (v := (-1 : Int32)) hx hb d_M_collect_116 (by decide) ?_
                have e_f : f_M_collect μ a1 a2 = ((-1 : Int32), m_2) := by
                  subst e_2
                  exact (if_neg c_9).trans ((if_pos c_19).trans ((if_neg c_29).trans ((if_neg c_41).trans ((if_pos c_47).trans rfl))))
                rw [e_f]
                exact W.iret (v := (-1 : Int32)) hx hb hr (fun t ht hW => ⟨rfl, hM.end ht⟩) hM.2.2.1 d_M_collect_117
            · skip
              refine lv_iconst (v := (1 : Int32)) hx hb d_M_collect_50 (by decide) ?_
              refine lv_goto (tgt := 111) hx hb d_M_collect_51 (by decide) ?_
              refine lv_istore_n (lv' := [(3, .int (1 : Int32)), (0, .ref (τ.1 20 0)), (1, .int a1), (2, .int a2)]) hx hb d_M_collect_111 rfl hl (by decide) rfl (fun ls hl => ?_)
              refine lv_iload_n hx hb d_M_collect_112 rfl (lv_at hl 0 rfl) ?_
              refine lv_if_ne (tgt := 118) hx hb d_M_collect_113 (by decide) (fun c_113 => ?_) (fun c_113 => ?_)
              · skip
                refine lv_aload_n hx hb d_M_collect_118 rfl (lv_at hl 1 rfl) ?_
                refine gf_M_41 hx hb hts hown hT hM (lz_20 hM) d_M_collect_119 ?_
                refine lv_bipush (v := (30 : Int32)) hx hb d_M_collect_122 (by decide) ?_
                refine lv_iload_n hx hb d_M_collect_124 rfl (lv_at hl 2 rfl) ?_
                refine lv_imul hx hb d_M_collect_125 ?_
                refine lv_aload_n hx hb d_M_collect_126 rfl (lv_at hl 1 rfl) ?_
                refine gf_M_38 hx hb hts hown hT hM (lz_20 hM) d_M_collect_127 ?_
                refine lv_iload_n hx hb d_M_collect_130 rfl (lv_at hl 2 rfl) ?_
                refine al_31 hx hb hT hM (lz_31 hM) (by first | assumption | exact vin 3 (b := 3) (by decide) (by assumption) (by assumption)) d_M_collect_131 ?_
                refine lv_iadd hx hb d_M_collect_132 ?_
                refine lv_iload_n hx hb d_M_collect_133 rfl (lv_at hl 3 rfl) ?_
                refine as_32 hx hb hT hM (lz_32 hM) (by first | exact in_holds0 hJ c_19 c_29 | exact in_holds1 hJ hs c_19) d_M_collect_134 (fun m_134 H locs e_134 hM => ?_)
                have hJ : iM m_134 := by rw [e_134]; exact iM_I hJ rfl
                refine lv_aload_n hx hb d_M_collect_135 rfl (lv_at hl 1 rfl) ?_
                refine gf_M_38 hx hb hts hown hT hM (lz_20 hM) d_M_collect_136 ?_
                refine lv_iload_n hx hb d_M_collect_139 rfl (lv_at hl 2 rfl) ?_
                refine lv_dup2_11 hx hb d_M_collect_140 rfl rfl ?_
                refine al_31 hx hb hT hM (lz_31 hM) (by first | assumption | exact vin 3 (b := 3) (by decide) (by assumption) (by assumption)) d_M_collect_141 ?_
                refine lv_iconst (v := (1 : Int32)) hx hb d_M_collect_142 (by decide) ?_
                refine lv_iadd hx hb d_M_collect_143 ?_
                refine as_31 hx hb hT hM (lz_31 hM) (by first | assumption | exact vin 3 (b := 3) (by decide) (by assumption) (by assumption)) d_M_collect_144 (fun m_144 H locs e_144 hM => ?_)
                refine lv_aload_n hx hb d_M_collect_145 rfl (lv_at hl 1 rfl) ?_
                refine gf_M_38 hx hb hts hown hT hM (lz_20 hM) d_M_collect_146 ?_
                refine lv_iload_n hx hb d_M_collect_149 rfl (lv_at hl 2 rfl) ?_
                refine al_31 hx hb hT hM (lz_31 hM) (by first | assumption | exact vin 3 (b := 3) (by decide) (by assumption) (by assumption)) d_M_collect_150 ?_
                have e_f : f_M_collect μ a1 a2 = (m_144.1 31 0 a1.toNatClampNeg, m_144) := by
                  subst e_144 e_134 e_2
                  exact (if_neg c_9).trans ((if_pos c_19).trans ((if_neg c_29).trans ((if_neg c_41).trans ((if_neg c_47).trans rfl))))
                rw [e_f]
                exact W.iret (v := m_144.1 31 0 a1.toNatClampNeg) hx hb hr (fun t ht hW => ⟨rfl, hM.end ht⟩) hM.2.2.1 d_M_collect_151
              · exact absurd c_113 (by decide)
      · skip
        refine lv_iconst (v := (-1 : Int32)) hx hb d_M_collect_32 (by decide) ?_
        have e_f : f_M_collect μ a1 a2 = ((-1 : Int32), m_2) := by
          subst e_2
          exact (if_neg c_9).trans ((if_pos c_19).trans ((if_pos c_29).trans rfl))
        rw [e_f]
        exact W.iret (v := (-1 : Int32)) hx hb hr (fun t ht hW => ⟨rfl, hM.end ht⟩) hM.2.2.1 d_M_collect_33
